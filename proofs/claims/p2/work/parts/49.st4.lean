/-! STEPS: prefixes (printed by wip/p2/st1.py) -/
set_option maxHeartbeats 16000000 in
theorem st_28 {sc : Nat × (Nat → Int32)} {d : Nat} {S0 S : am_S} {f : Nat → Int32} {g : Nat → Nat → Int32} {on : Int32} {tw : Int32} {th : Int32} {gs : List mg_E} {bc : List (List Nat)} (hS : MS S0 S f g) (hR : RJ f g gs bc [] 0 []) (hrest : mg_good (g 34) (g 38) (g 23) gs ((f 15).toInt + 0) ((f 20).toInt) ((f 37).toInt + 0) ((f 32).toInt + 0) ((f 5).toInt + 0)) (p0 : 0 ≤ (f 4).toInt) (p1 : (f 4).toInt ≤ (f 0).toInt) (p2 : (f 0).toInt ≤ 512) (p3 : 0 ≤ (f 24).toInt) (p4 : (f 24).toInt + (f 20).toInt + mg_p1 gs ≤ 4 * (f 4).toInt) (p5 : (f 20).toInt ≤ (f 4).toInt) (p6 : (f 15).toInt + 0 + mg_p2 gs ≤ (f 4).toInt) (p7 : 1 + mg_p3 gs ≤ 20 * (f 4).toInt + 20) (p8 : 0 ≤ (f 68).toInt) (p9 : (f 68).toInt + 3 * (f 20).toInt + 0 + mg_p4 gs ≤ 60 * (f 4).toInt + 60) (p10 : 0 ≤ (f 62).toInt) (p11 : (f 62).toInt + 64 * mj_n (g 16) (f 15).toNatClampNeg 3 ≤ 64 * (f 4).toInt) (p12 : 0 ≤ (f 44).toInt) (p13 : (f 44).toInt ≤ (f 4).toInt) (p14 : 0 ≤ (f 48).toInt) (p15 : (f 48).toInt ≤ (f 4).toInt) (p16 : 1 ≤ (f 53).toInt) (p17 : (f 53).toInt ≤ (f 4).toInt + 1) (p18 : 0 ≤ (f 19).toInt) (p19 : (f 19).toInt ≤ 600) (p20 : 0 ≤ mg_p1 gs) (p21 : 0 ≤ mg_p2 gs) (p22 : 0 ≤ mg_p4 gs) (p23 : 0 ≤ (f 10).toInt) (p24 : (f 10).toInt ≤ mg_p3 gs) (p25 : 0 ≤ mj_n (g 16) (f 15).toNatClampNeg 3) (p26 : 1 ≤ (f 15).toInt) (p27 : 0 ≤ (f 20).toInt) (p28 : 1 ≤ (f 37).toInt) (p29 : 0 ≤ (f 32).toInt) (p30 : (f 32).toInt ≤ (f 5).toInt) (p31 : (f 5).toInt ≤ 48) (p32 : (f 37).toInt ≤ 2 * (f 5).toInt + 2) : am_E (am_PP sc) (d + 8) 180 0 [some (.ref 39), some (.int 28), some (.int on), some (.int tw), some (.int th)] [] S (am_N fun v S1 => ∃ (f' : Nat → Int32) (g' : Nat → Nat → Int32) (gs' : List mg_E) (bc' : List (List Nat)), v = none ∧ MS S0 S1 f' g' ∧ (mg_on f (100 * ((f 0).toInt - (f 4).toInt) + (1 + mg_p3 gs)) f' g' gs' bc' ∨ mg_off f f' g' bc')) := by
  have hbs := mg_basic hrest
  refine am_e1 (v := 28) hi_180_0 rfl ?_
  refine am_e0 hi_180_1 ?_
  refine am_e13f hi_180_3 (by decide) ?_
  refine am_e2 (v := 39) hi_180_6 rfl ?_
  refine am_e1 (v := 28) hi_180_7 rfl ?_
  refine am_e1 (v := on) hi_180_8 rfl ?_
  refine am_e1 (v := tw) hi_180_9 rfl ?_
  refine am_e32w (as := [.ref 39, .int 28, .int on, .int tw]) (la := [some (.ref 39), some (.int 28), some (.int on), some (.int tw)]) (rest := []) hi_180_10 (am_hd0 (M := 180) (by decide) 10) (Nat.le_of_ble_eq_true rfl) (Nat.le_of_ble_eq_true rfl) (show 4 ≤ am_P0.2.2.1 181 from by decide +kernel) rfl (am_recv_ok hS.fs) rfl rfl ?_
  refine am_e1 (v := 28) hi_181_0 rfl ?_
  refine am_e19 (t := 176) hi_181_1 (by decide) ?_
  refine am_e2 (v := 39) hi_181_176 rfl ?_
  refine am_e32w (as := [.ref 39]) (la := [some (.ref 39), none, none, none]) (rest := []) hi_181_177 (am_hd0 (M := 181) (by decide) 177) (Nat.le_of_ble_eq_true rfl) (Nat.le_of_ble_eq_true rfl) (show 1 ≤ am_P0.2.2.1 211 from by decide +kernel) rfl (am_recv_ok hS.fs) rfl rfl ?_
  refine am_e2 (v := 39) hi_211_0 rfl ?_
  refine am_e32n (as := [.ref 39]) (la := [some (.ref 39)]) (rest := []) hi_211_1 (am_hd0 (M := 211) (by decide) 1) (Nat.le_of_ble_eq_true rfl) (Nat.le_of_ble_eq_true rfl) (show 1 ≤ am_P0.2.2.1 183 from by decide +kernel) rfl (am_recv_ok hS.fs) rfl rfl (ct_next (d := (d + 4)) hS   (by show (0 : Int) ≤ (f 4).toInt; omega) (by show (f 0).toInt ≤ (16384 : Int); omega)) ?_
  rintro v0 S1 (⟨r2, hv3, hS4, h5⟩)
  subst hv3
  have h5_ : (f 4).toInt < (f 0).toInt ∨ r2.toInt = (-1 : Int) := h5
  show am_E _ _ _ _ [some (.ref 39), none, none, none] [.int r2] _ _
  refine am_e3 (ls' := [some (.ref 39), some (.int r2), none, none]) hi_211_4 (Nat.le_of_ble_eq_true rfl) rfl ?_
  refine am_e2 (v := 39) hi_211_5 rfl ?_
  refine mm_20 (v := .int (f 4)) hS4 hi_211_6 rfl ?_
  refine am_e3 (ls' := [some (.ref 39), some (.int r2), some (.int (f 4)), none]) hi_211_9 (Nat.le_of_ble_eq_true rfl) rfl ?_
  refine am_e1 (v := r2) hi_211_10 rfl ?_
  refine am_e0 hi_211_11 ?_
  by_cases c7 : ¬ r2.toInt = (70 : Int)
  · refine am_e13t hi_211_13 (am_cT (m := r2.toInt) (n := (70 : Int)) rfl (by decide) c7) ?_
    refine am_e1 (v := r2) hi_211_75 rfl ?_
    refine am_e0 hi_211_76 ?_
    by_cases c8 : ¬ r2.toInt = (64 : Int)
    · refine am_e13t hi_211_78 (am_cT (m := r2.toInt) (n := (64 : Int)) rfl (by decide) c8) ?_
      refine am_e1 (v := r2) hi_211_121 rfl ?_
      refine am_e0 hi_211_122 ?_
      by_cases c9 : ¬ r2.toInt = (68 : Int)
      · refine am_e13t hi_211_124 (am_cT (m := r2.toInt) (n := (68 : Int)) rfl (by decide) c9) ?_
        refine am_e1 (v := r2) hi_211_214 rfl ?_
        refine am_e0 hi_211_215 ?_
        by_cases c10 : r2.toInt = (60 : Int)
        · refine am_e13t hi_211_217 (am_cT (m := r2.toInt) (n := (60 : Int)) rfl (by decide) c10) ?_
          refine am_e2 (v := 39) hi_211_231 rfl ?_
          refine am_e32n (as := [.ref 39]) (la := [some (.ref 39), none, none, none]) (rest := []) hi_211_232 (am_hd0 (M := 211) (by decide) 232) (Nat.le_of_ble_eq_true rfl) (Nat.le_of_ble_eq_true rfl) (show 1 ≤ am_P0.2.2.1 204 from by decide +kernel) rfl (am_recv_ok hS4.fs) rfl rfl (ct_load (d := (d + 3)) hS4 hR  (by show (0 : Int) ≤ (f 32).toInt; omega) (by show (f 32).toInt ≤ (63 : Int); omega) (by show (f 53).toInt ≤ (4096 : Int); omega) (by show (0 : Int) ≤ (f 68).toInt; omega) (by show (f 68).toInt ≤ (65534 : Int); omega) (by show (1 : Int) ≤ (f 15).toInt; omega) (by show (f 15).toInt ≤ (32767 : Int); omega) (by show (0 : Int) ≤ (f 24).toInt; omega) (by show (f 24).toInt ≤ (16384 : Int); omega) (by show (0 : Int) ≤ (f 62).toInt; omega) (by show (f 62).toInt ≤ (65000 : Int); omega)) ?_
          rintro v11 S12 (⟨o13, s14, m15, g'16, hv17, hS18, hR25, h19, h20, h21, h22, h23, h24⟩)
          subst hv17
          have h19_ : (f 62).toInt ≤ o13.toInt := h19
          have h20_ : o13.toInt ≤ (f 62).toInt + 64 := h20
          have h21_ : (f 68).toInt ≤ s14.toInt := h21
          have h22_ : s14.toInt ≤ (f 68).toInt + 1 := h22
          have h23_ : o13.toInt + 64 * mj_n (g'16 16) (f 15).toNatClampNeg 3 ≤ (f 62).toInt + 64 * mj_n (g 16) (f 15).toNatClampNeg 3 := h23
          have h24_ : ∀ j, j ∉ [16, 60, 63, 64, 65, 66, 67, 69, 70, 71, 72, 73] → g'16 j = g j := h24
          have hR25_ : RJ (upd (upd (upd f 62 o13) 68 s14) 75 m15) g'16 gs bc [] 0 [] := hR25
          show am_E _ _ _ _ [some (.ref 39), some (.int r2), some (.int (f 4)), none] [] _ _
          refine am_e2 (v := 39) hi_211_235 rfl ?_
          refine am_e0 hi_211_236 ?_
          refine am_e0 hi_211_238 ?_
          refine am_e0 hi_211_239 ?_
          refine am_e0 hi_211_240 ?_
          refine am_e32n (as := [.ref 39, .int 28, .int 0, .int 0, .int 0]) (la := [some (.ref 39), some (.int 28), some (.int 0), some (.int 0), some (.int 0)]) (rest := []) hi_211_241 (am_hd0 (M := 211) (by decide) 241) (Nat.le_of_ble_eq_true rfl) (Nat.le_of_ble_eq_true rfl) (show 5 ≤ am_P0.2.2.1 179 from by decide +kernel) rfl (am_recv_ok hS18.fs) rfl rfl (ct_pile (d := (d + 5)) hS18 hR25_ (mj_e_plain (by decide)) (by show (0 : Int) ≤ (f 10).toInt; omega) (by show (f 10).toInt ≤ (65535 : Int); omega)) ?_
          rintro v26 S27 (⟨z28, g'29, hv30, hS31, hR34, h32, h33⟩)
          subst hv30
          have h32_ : z28.toInt = (f 10).toInt + 1 := h32
          have h33_ : ∀ j, j ∉ [11, 12, 13, 14] → g'29 j = g'16 j := h33
          replace hS31 : MS S0 S27 (upd (upd (upd (upd f 10 z28) 62 o13) 68 s14) 75 m15) g'29 := hS31
          have hR34_ : RJ (upd (upd (upd (upd f 10 z28) 62 o13) 68 s14) 75 m15) g'29 (((28 : Int), (0 : Int), (0 : Int), (0 : Int), []) :: gs) bc [] 0 [] := hR34
          show am_E _ _ _ _ [some (.ref 39), some (.int r2), some (.int (f 4)), none] [] _ _
          refine am_e2 (v := 39) hi_211_244 rfl ?_
          refine am_e0 hi_211_245 ?_
          refine am_e32w (as := [.ref 39, .int 0]) (la := [some (.ref 39), some (.int 0), none]) (rest := []) hi_211_246 (am_hd0 (M := 211) (by decide) 246) (Nat.le_of_ble_eq_true rfl) (Nat.le_of_ble_eq_true rfl) (show 2 ≤ am_P0.2.2.1 212 from by decide +kernel) rfl (am_recv_ok hS31.fs) rfl rfl ?_
          refine am_e2 (v := 39) hi_212_0 rfl ?_
          refine mm_20 (v := .int (f 4)) hS31 hi_212_1 rfl ?_
          refine am_e3 (ls' := [some (.ref 39), some (.int 0), some (.int (f 4))]) hi_212_4 (Nat.le_of_ble_eq_true rfl) rfl ?_
          refine am_e2 (v := 39) hi_212_5 rfl ?_
          refine am_e32n (as := [.ref 39]) (la := [some (.ref 39)]) (rest := []) hi_212_6 (am_hd0 (M := 212) (by decide) 6) (Nat.le_of_ble_eq_true rfl) (Nat.le_of_ble_eq_true rfl) (show 1 ≤ am_P0.2.2.1 183 from by decide +kernel) rfl (am_recv_ok hS31.fs) rfl rfl (ct_next (d := (d + 3)) hS31   (by show (0 : Int) ≤ (f 4).toInt; omega) (by show (f 0).toInt ≤ (16384 : Int); omega)) ?_
          rintro v35 S36 (⟨r37, hv38, hS39, h40⟩)
          subst hv38
          have h40_ : (f 4).toInt < (f 0).toInt ∨ r37.toInt = (-1 : Int) := h40
          show am_E _ _ _ _ [some (.ref 39), some (.int 0), some (.int (f 4))] [.int r37] _ _
          refine am_e0 hi_212_9 ?_
          by_cases c42 : ¬ r37.toInt = (3 : Int)
          · refine am_e13t hi_212_10 (am_cT (m := r37.toInt) (n := (3 : Int)) rfl (by decide) c42) ?_
            refine am_e2 (v := 39) hi_212_52 rfl ?_
            refine am_e32n (as := [.ref 39]) (la := [some (.ref 39)]) (rest := []) hi_212_53 (am_hd0 (M := 212) (by decide) 53) (Nat.le_of_ble_eq_true rfl) (Nat.le_of_ble_eq_true rfl) (show 1 ≤ am_P0.2.2.1 183 from by decide +kernel) rfl (am_recv_ok hS39.fs) rfl rfl (ct_next (d := (d + 3)) hS39   (by show (0 : Int) ≤ (f 4).toInt; omega) (by show (f 0).toInt ≤ (16384 : Int); omega)) ?_
            rintro v43 S44 (⟨r45, hv46, hS47, h48⟩)
            subst hv46
            have h48_ : (f 4).toInt < (f 0).toInt ∨ r45.toInt = (-1 : Int) := h48
            show am_E _ _ _ _ [some (.ref 39), some (.int 0), some (.int (f 4))] [.int r45] _ _
            refine am_e0 hi_212_56 ?_
            by_cases c50 : ¬ r45.toInt = (62 : Int)
            · refine am_e13t hi_212_58 (am_cT (m := r45.toInt) (n := (62 : Int)) rfl (by decide) c50) ?_
              refine am_e2 (v := 39) hi_212_77 rfl ?_
              refine am_e0 hi_212_78 ?_
              refine am_e32n (as := [.ref 39, .int 60]) (la := [some (.ref 39), some (.int 60)]) (rest := []) hi_212_80 (am_hd0 (M := 212) (by decide) 80) (Nat.le_of_ble_eq_true rfl) (Nat.le_of_ble_eq_true rfl) (show 2 ≤ am_P0.2.2.1 193 from by decide +kernel) rfl (am_recv_ok hS47.fs) rfl rfl (ct_enter (d := (d + 2)) hS47   (by show (0 : Int) ≤ (f 4).toInt; omega) (by show (f 0).toInt ≤ (16384 : Int); omega) (by show (0 : Int) ≤ (60 : Int); omega) (by show (0 : Int) ≤ (f 5).toInt; omega) (by show (f 5).toInt ≤ (48 : Int); omega)) ?_
              rintro v51 S52 (⟨z53, y54, hv55, hS56, h57, h58, h59, h60⟩ | ⟨a62, b63, hv64, hS65⟩)
              · subst hv55
                have h57_ : z53.toInt = (f 4).toInt + 1 := h57
                have h58_ : (f 4).toInt < (f 0).toInt := h58
                have h59_ : y54.toInt = (f 5).toInt + 1 := h59
                have h60_ : y54.toInt ≤ (48 : Int) := h60
                replace hS56 : MS S0 S52 (upd (upd (upd (upd (upd (upd f 4 z53) 5 y54) 10 z28) 62 o13) 68 s14) 75 m15) g'29 := hS56
                have hR67 : RJ (upd (upd (upd (upd (upd (upd f 4 z53) 5 y54) 10 z28) 62 o13) 68 s14) 75 m15) g'29 (((28 : Int), (0 : Int), (0 : Int), (0 : Int), []) :: gs) bc [] 0 [] := RJ.at hR34_ (by show (f 4).toInt ≤ z53.toInt; omega)
                show am_E _ _ _ _ [some (.ref 39), some (.int 0), some (.int (f 4))] [.int 1] _ _
                refine am_e12f hi_212_83 (by decide) ?_
                refine am_e2 (v := 39) hi_212_86 rfl ?_
                refine am_e32n (as := [.ref 39]) (la := [some (.ref 39)]) (rest := []) hi_212_87 (am_hd0 (M := 212) (by decide) 87) (Nat.le_of_ble_eq_true rfl) (Nat.le_of_ble_eq_true rfl) (show 1 ≤ am_P0.2.2.1 183 from by decide +kernel) rfl (am_recv_ok hS56.fs) rfl rfl (ct_next (d := (d + 3)) hS56   (by show (0 : Int) ≤ z53.toInt; omega) (by show (f 0).toInt ≤ (16384 : Int); omega)) ?_
                rintro v68 S69 (⟨r70, hv71, hS72, h73⟩)
                subst hv71
                have h73_ : z53.toInt < (f 0).toInt ∨ r70.toInt = (-1 : Int) := h73
                show am_E _ _ _ _ [some (.ref 39), some (.int 0), some (.int (f 4))] [.int r70] _ _
                refine am_e0 hi_212_90 ?_
                by_cases c75 : ¬ r70.toInt = (61 : Int)
                · refine am_e13t hi_212_92 (am_cT (m := r70.toInt) (n := (61 : Int)) rfl (by decide) c75) ?_
                  refine am_e2 (v := 39) hi_212_112 rfl ?_
                  refine am_e0 hi_212_113 ?_
                  refine am_e1 (v := 0) hi_212_115 rfl ?_
                  refine am_e1 (v := f 4) hi_212_116 rfl ?_
                  refine am_e0 hi_212_117 ?_
                  refine am_e32n (as := [.ref 39, .int 32, .int 0, .int (f 4), .int 0]) (la := [some (.ref 39), some (.int 32), some (.int 0), some (.int (f 4)), some (.int 0)]) (rest := []) hi_212_118 (am_hd0 (M := 212) (by decide) 118) (Nat.le_of_ble_eq_true rfl) (Nat.le_of_ble_eq_true rfl) (show 5 ≤ am_P0.2.2.1 179 from by decide +kernel) rfl (am_recv_ok hS72.fs) rfl rfl (ct_pile (d := (d + 4)) hS72 hR67 (mj_e_plain (by decide)) (by show (0 : Int) ≤ z28.toInt; omega) (by show z28.toInt ≤ (65535 : Int); omega)) ?_
                  rintro v76 S77 (⟨z78, g'79, hv80, hS81, hR84, h82, h83⟩)
                  subst hv80
                  have h82_ : z78.toInt = z28.toInt + 1 := h82
                  have h83_ : ∀ j, j ∉ [11, 12, 13, 14] → g'79 j = g'29 j := h83
                  replace hS81 : MS S0 S77 (upd (upd (upd (upd (upd (upd f 4 z53) 5 y54) 10 z78) 62 o13) 68 s14) 75 m15) g'79 := hS81
                  have hR84_ : RJ (upd (upd (upd (upd (upd (upd f 4 z53) 5 y54) 10 z78) 62 o13) 68 s14) 75 m15) g'79 (((32 : Int), (0 : Int), (f 4).toInt, (0 : Int), []) :: (((28 : Int), (0 : Int), (0 : Int), (0 : Int), []) :: gs)) bc [] 0 [] := hR84
                  show am_E _ _ _ _ [some (.ref 39), some (.int 0), some (.int (f 4))] [] _ _
                  refine am_e2 (v := 39) hi_212_121 rfl ?_
                  refine am_e32w (as := [.ref 39]) (la := [some (.ref 39)]) (rest := []) hi_212_122 (am_hd0 (M := 212) (by decide) 122) (Nat.le_of_ble_eq_true rfl) (Nat.le_of_ble_eq_true rfl) (show 1 ≤ am_P0.2.2.1 214 from by decide +kernel) rfl (am_recv_ok hS81.fs) rfl rfl ?_
                  refine am_e2 (v := 39) hi_214_0 rfl ?_
                  refine am_e0 hi_214_1 ?_
                  refine am_e0 hi_214_3 ?_
                  refine am_e0 hi_214_4 ?_
                  refine am_e0 hi_214_5 ?_
                  refine am_e32n (as := [.ref 39, .int 34, .int 1, .int 0, .int 0]) (la := [some (.ref 39), some (.int 34), some (.int 1), some (.int 0), some (.int 0)]) (rest := []) hi_214_6 (am_hd0 (M := 214) (by decide) 6) (Nat.le_of_ble_eq_true rfl) (Nat.le_of_ble_eq_true rfl) (show 5 ≤ am_P0.2.2.1 179 from by decide +kernel) rfl (am_recv_ok hS81.fs) rfl rfl (ct_pile (d := (d + 3)) hS81 hR84_ (mj_e_plain (by decide)) (by show (0 : Int) ≤ z78.toInt; omega) (by show z78.toInt ≤ (65535 : Int); omega)) ?_
                  rintro v85 S86 (⟨z87, g'88, hv89, hS90, hR93, h91, h92⟩)
                  subst hv89
                  have h91_ : z87.toInt = z78.toInt + 1 := h91
                  have h92_ : ∀ j, j ∉ [11, 12, 13, 14] → g'88 j = g'79 j := h92
                  replace hS90 : MS S0 S86 (upd (upd (upd (upd (upd (upd f 4 z53) 5 y54) 10 z87) 62 o13) 68 s14) 75 m15) g'88 := hS90
                  have hR93_ : RJ (upd (upd (upd (upd (upd (upd f 4 z53) 5 y54) 10 z87) 62 o13) 68 s14) 75 m15) g'88 (((34 : Int), (1 : Int), (0 : Int), (0 : Int), []) :: (((32 : Int), (0 : Int), (f 4).toInt, (0 : Int), []) :: (((28 : Int), (0 : Int), (0 : Int), (0 : Int), []) :: gs))) bc [] 0 [] := hR93
                  show am_E _ _ _ _ [some (.ref 39)] [] _ _
                  refine am_e2 (v := 39) hi_214_9 rfl ?_
                  refine am_e0 hi_214_10 ?_
                  refine am_e32w (as := [.ref 39, .int 0]) (la := [some (.ref 39), some (.int 0)]) (rest := []) hi_214_11 (am_hd0 (M := 214) (by decide) 11) (Nat.le_of_ble_eq_true rfl) (Nat.le_of_ble_eq_true rfl) (show 2 ≤ am_P0.2.2.1 186 from by decide +kernel) rfl (am_recv_ok hS90.fs) rfl rfl ?_
                  refine am_e2 (v := 39) hi_186_0 rfl ?_
                  refine am_e0 hi_186_1 ?_
                  refine am_e1 (v := 0) hi_186_3 rfl ?_
                  refine am_e0 hi_186_4 ?_
                  refine am_e0 hi_186_5 ?_
                  refine am_e32n (as := [.ref 39, .int 23, .int 0, .int 0, .int 0]) (la := [some (.ref 39), some (.int 23), some (.int 0), some (.int 0), some (.int 0)]) (rest := []) hi_186_6 (am_hd0 (M := 186) (by decide) 6) (Nat.le_of_ble_eq_true rfl) (Nat.le_of_ble_eq_true rfl) (show 5 ≤ am_P0.2.2.1 179 from by decide +kernel) rfl (am_recv_ok hS90.fs) rfl rfl (ct_pile (d := (d + 2)) hS90 hR93_ (mj_e_plain (by decide)) (by show (0 : Int) ≤ z87.toInt; omega) (by show z87.toInt ≤ (65535 : Int); omega)) ?_
                  rintro v94 S95 (⟨z96, g'97, hv98, hS99, hR102, h100, h101⟩)
                  subst hv98
                  have h100_ : z96.toInt = z87.toInt + 1 := h100
                  have h101_ : ∀ j, j ∉ [11, 12, 13, 14] → g'97 j = g'88 j := h101
                  replace hS99 : MS S0 S95 (upd (upd (upd (upd (upd (upd f 4 z53) 5 y54) 10 z96) 62 o13) 68 s14) 75 m15) g'97 := hS99
                  have hR102_ : RJ (upd (upd (upd (upd (upd (upd f 4 z53) 5 y54) 10 z96) 62 o13) 68 s14) 75 m15) g'97 (((23 : Int), (0 : Int), (0 : Int), (0 : Int), []) :: (((34 : Int), (1 : Int), (0 : Int), (0 : Int), []) :: (((32 : Int), (0 : Int), (f 4).toInt, (0 : Int), []) :: (((28 : Int), (0 : Int), (0 : Int), (0 : Int), []) :: gs)))) bc [] 0 [] := hR102
                  show am_E _ _ _ _ [some (.ref 39), some (.int 0)] [] _ _
                  refine am_e35 hi_186_9 ?_
                  show am_E _ _ _ _ [some (.ref 39)] [] _ _
                  refine am_e35 hi_214_14 ?_
                  show am_E _ _ _ _ [some (.ref 39), some (.int 0), some (.int (f 4))] [] _ _
                  refine am_e35 hi_212_125 ?_
                  show am_E _ _ _ _ [some (.ref 39), some (.int r2), some (.int (f 4)), none] [] _ _
                  refine am_e35 hi_211_249 ?_
                  show am_E _ _ _ _ [some (.ref 39), some (.int 28), some (.int on), some (.int tw)] [] _ _
                  refine am_e18 hi_181_180 ?_
                  refine am_e35 hi_181_397 ?_
                  show am_E _ _ _ _ [some (.ref 39), some (.int 28), some (.int on), some (.int tw), some (.int th)] [] _ _
                  refine am_e35 hi_180_13 ?_
                  have q1 : mg_p1 (((23 : Int), (0 : Int), (0 : Int), (0 : Int), []) :: (((34 : Int), (1 : Int), (0 : Int), (0 : Int), []) :: (((32 : Int), (0 : Int), (f 4).toInt, (0 : Int), []) :: (((28 : Int), (0 : Int), (0 : Int), (0 : Int), []) :: gs)))) = 0 + (0 + (0 + (0 + (mg_p1 gs)))) := rfl
                  have q2 : mg_p2 (((23 : Int), (0 : Int), (0 : Int), (0 : Int), []) :: (((34 : Int), (1 : Int), (0 : Int), (0 : Int), []) :: (((32 : Int), (0 : Int), (f 4).toInt, (0 : Int), []) :: (((28 : Int), (0 : Int), (0 : Int), (0 : Int), []) :: gs)))) = 0 + (((1 : Int) - 1) + (0 + (0 + (mg_p2 gs)))) := rfl
                  have q3 : mg_p3 (((23 : Int), (0 : Int), (0 : Int), (0 : Int), []) :: (((34 : Int), (1 : Int), (0 : Int), (0 : Int), []) :: (((32 : Int), (0 : Int), (f 4).toInt, (0 : Int), []) :: (((28 : Int), (0 : Int), (0 : Int), (0 : Int), []) :: gs)))) = 1 + (1 + (1 + (1 + (mg_p3 gs)))) := rfl
                  have q4 : mg_p4 (((23 : Int), (0 : Int), (0 : Int), (0 : Int), []) :: (((34 : Int), (1 : Int), (0 : Int), (0 : Int), []) :: (((32 : Int), (0 : Int), (f 4).toInt, (0 : Int), []) :: (((28 : Int), (0 : Int), (0 : Int), (0 : Int), []) :: gs)))) = 0 + (0 + (0 + (0 + (mg_p4 gs)))) := rfl
                  refine ⟨_, _, _, bc, rfl, hS99, Or.inl ⟨⟨hR102_, ?_, ?_⟩, rfl, ?_⟩⟩
                  · exact (⟨⟨(show mg_k 23 from by decide), (show (0 : Int) ≤ (f 15).toInt from by omega), (show 0 ≤ (f 20).toInt from by omega), (show 1 ≤ (f 37).toInt from by omega), (show 0 ≤ (f 32).toInt from by omega), (show (f 32).toInt ≤ y54.toInt from by omega), (show y54.toInt ≤ 48 from by omega), (show (f 37).toInt ≤ 2 * (y54.toInt) + 2 from by omega), (show 0 ≤ (0 : Int) from by omega)⟩, ⟨⟨(show mg_k 34 from by decide), (show (1 : Int) ≤ (f 15).toInt + 1 from by omega), (show 0 ≤ (f 20).toInt from by omega), (show 1 ≤ (f 37).toInt + 0 from by omega), (show 0 ≤ (f 32).toInt + 0 from by omega), (show (f 32).toInt + 0 ≤ y54.toInt + 0 from by omega), (show y54.toInt + 0 ≤ 48 from by omega), (show (f 37).toInt + 0 ≤ 2 * (y54.toInt + 0) + 2 from by omega), (show 1 ≤ (1 : Int) from by omega)⟩, ⟨⟨(show mg_k 32 from by decide), (show (2 : Int) ≤ (f 15).toInt + 1 + 0 from by omega), (show 0 ≤ (f 20).toInt from by omega), (show 1 ≤ (f 37).toInt + 0 + 0 from by omega), (show 0 ≤ (f 32).toInt + 0 + 0 from by omega), (show (f 32).toInt + 0 + 0 ≤ y54.toInt + 0 + 0 from by omega), (show y54.toInt + 0 + 0 ≤ 48 from by omega), (show (f 37).toInt + 0 + 0 ≤ 2 * (y54.toInt + 0 + 0) + 2 from by omega), trivial⟩, ⟨⟨(show mg_k 28 from by decide), (show (1 : Int) ≤ (f 15).toInt + 1 + 0 + -1 from by omega), (show 0 ≤ (f 20).toInt from by omega), (show 1 ≤ (f 37).toInt + 0 + 0 + 0 from by omega), (show 0 ≤ (f 32).toInt + 0 + 0 + 0 from by omega), (show (f 32).toInt + 0 + 0 + 0 ≤ y54.toInt + 0 + 0 + -1 from by omega), (show y54.toInt + 0 + 0 + -1 ≤ 48 from by omega), (show (f 37).toInt + 0 + 0 + 0 ≤ 2 * (y54.toInt + 0 + 0 + -1) + 2 from by omega), trivial⟩, mg_cast (mg_good_ext _ _ _ _ _ _ (fun i _ => by show g'97 34 i = g 34 i; rw [show g'97 34 = g'88 34 from h101_ 34 (by decide), show g'88 34 = g'79 34 from h92_ 34 (by decide), show g'79 34 = g'29 34 from h83_ 34 (by decide), show g'29 34 = g'16 34 from h33_ 34 (by decide), show g'16 34 = g 34 from h24_ 34 (by decide)]) (fun i _ => by show g'97 38 i = g 38 i; rw [show g'97 38 = g'88 38 from h101_ 38 (by decide), show g'88 38 = g'79 38 from h92_ 38 (by decide), show g'79 38 = g'29 38 from h83_ 38 (by decide), show g'29 38 = g'16 38 from h33_ 38 (by decide), show g'16 38 = g 38 from h24_ 38 (by decide)]) (fun i _ => by show g'97 23 i = g 23 i; rw [show g'97 23 = g'88 23 from h101_ 23 (by decide), show g'88 23 = g'79 23 from h92_ 23 (by decide), show g'79 23 = g'29 23 from h83_ 23 (by decide), show g'29 23 = g'16 23 from h33_ 23 (by decide), show g'16 23 = g 23 from h24_ 23 (by decide)]) hrest) (by show (f 15).toInt + 0 = (f 15).toInt + 1 + 0 + -1 + 0; omega) (by show (f 20).toInt = (f 20).toInt; omega) (by show (f 37).toInt + 0 = (f 37).toInt + 0 + 0 + 0 + 0; omega) (by show (f 32).toInt + 0 = (f 32).toInt + 0 + 0 + 0 + 0; omega) (by show (f 5).toInt + 0 = y54.toInt + 0 + 0 + -1 + 0; omega)⟩⟩⟩⟩ : mg_good (g'97 34) (g'97 38) (g'97 23) (((23 : Int), (0 : Int), (0 : Int), (0 : Int), []) :: (((34 : Int), (1 : Int), (0 : Int), (0 : Int), []) :: (((32 : Int), (0 : Int), (f 4).toInt, (0 : Int), []) :: (((28 : Int), (0 : Int), (0 : Int), (0 : Int), []) :: gs)))) ((f 15).toInt) ((f 20).toInt) ((f 37).toInt) ((f 32).toInt) (y54.toInt))
                  · exact ⟨(by show 0 ≤ z53.toInt; omega), (by show z53.toInt ≤ (f 0).toInt; omega), (by show (f 0).toInt ≤ 512; omega), (by show 0 ≤ (f 24).toInt; omega), (by show (f 24).toInt + (f 20).toInt + mg_p1 (((23 : Int), (0 : Int), (0 : Int), (0 : Int), []) :: (((34 : Int), (1 : Int), (0 : Int), (0 : Int), []) :: (((32 : Int), (0 : Int), (f 4).toInt, (0 : Int), []) :: (((28 : Int), (0 : Int), (0 : Int), (0 : Int), []) :: gs)))) ≤ 4 * z53.toInt; omega), (by show (f 20).toInt ≤ z53.toInt; omega), (by show (f 15).toInt + mg_p2 (((23 : Int), (0 : Int), (0 : Int), (0 : Int), []) :: (((34 : Int), (1 : Int), (0 : Int), (0 : Int), []) :: (((32 : Int), (0 : Int), (f 4).toInt, (0 : Int), []) :: (((28 : Int), (0 : Int), (0 : Int), (0 : Int), []) :: gs)))) ≤ z53.toInt; omega), (by show mg_p3 (((23 : Int), (0 : Int), (0 : Int), (0 : Int), []) :: (((34 : Int), (1 : Int), (0 : Int), (0 : Int), []) :: (((32 : Int), (0 : Int), (f 4).toInt, (0 : Int), []) :: (((28 : Int), (0 : Int), (0 : Int), (0 : Int), []) :: gs)))) ≤ 20 * z53.toInt + 20; omega), (by show 0 ≤ s14.toInt; omega), (by show s14.toInt + 3 * (f 20).toInt + mg_p4 (((23 : Int), (0 : Int), (0 : Int), (0 : Int), []) :: (((34 : Int), (1 : Int), (0 : Int), (0 : Int), []) :: (((32 : Int), (0 : Int), (f 4).toInt, (0 : Int), []) :: (((28 : Int), (0 : Int), (0 : Int), (0 : Int), []) :: gs)))) ≤ 60 * z53.toInt + 60; omega), (by show 0 ≤ o13.toInt; omega), (by show o13.toInt + 64 * mj_n (g'97 16) (f 15).toNatClampNeg 3 ≤ 64 * z53.toInt; rw [show g'97 16 = g'88 16 from h101_ 16 (by decide), show g'88 16 = g'79 16 from h92_ 16 (by decide), show g'79 16 = g'29 16 from h83_ 16 (by decide), show g'29 16 = g'16 16 from h33_ 16 (by decide)]; omega), (by show 0 ≤ (f 44).toInt; omega), (by show (f 44).toInt ≤ z53.toInt; omega), (by show 0 ≤ (f 48).toInt; omega), (by show (f 48).toInt ≤ z53.toInt; omega), (by show 1 ≤ (f 53).toInt; omega), (by show (f 53).toInt ≤ z53.toInt + 1; omega), (by show 0 ≤ (f 19).toInt; omega), (by show (f 19).toInt ≤ 600; omega)⟩
                  · show 100 * ((f 0).toInt - z53.toInt) + mg_p3 (((23 : Int), (0 : Int), (0 : Int), (0 : Int), []) :: (((34 : Int), (1 : Int), (0 : Int), (0 : Int), []) :: (((32 : Int), (0 : Int), (f 4).toInt, (0 : Int), []) :: (((28 : Int), (0 : Int), (0 : Int), (0 : Int), []) :: gs)))) < 100 * ((f 0).toInt - (f 4).toInt) + (1 + mg_p3 gs); omega
                · refine am_e13f hi_212_92 (am_cF (m := r70.toInt) (n := (61 : Int)) rfl (by decide) c75) ?_
                  refine am_e2 (v := 39) hi_212_95 rfl ?_
                  refine am_e0 hi_212_96 ?_
                  refine am_e32n (as := [.ref 39, .int 61]) (la := [some (.ref 39), some (.int 61)]) (rest := []) hi_212_98 (am_hd0 (M := 212) (by decide) 98) (Nat.le_of_ble_eq_true rfl) (Nat.le_of_ble_eq_true rfl) (show 2 ≤ am_P0.2.2.1 199 from by decide +kernel) rfl (am_recv_ok hS72.fs) rfl rfl (ct_leave (d := (d + 1)) hS72   (by show (0 : Int) ≤ z53.toInt; omega) (by show (f 0).toInt ≤ (16384 : Int); omega) (by show (0 : Int) ≤ (61 : Int); omega) (by show (0 : Int) ≤ y54.toInt; omega) (by show y54.toInt ≤ (48 : Int); omega)) ?_
                  rintro v103 S104 (⟨z105, y106, hv107, hS108, h109, h110, h111⟩ | ⟨a113, b114, hv115, hS116⟩)
                  · subst hv107
                    have h109_ : z105.toInt = z53.toInt + 1 := h109
                    have h110_ : z53.toInt < (f 0).toInt := h110
                    have h111_ : y106.toInt = y54.toInt - 1 := h111
                    replace hS108 : MS S0 S104 (upd (upd (upd (upd (upd (upd f 4 z105) 5 y106) 10 z28) 62 o13) 68 s14) 75 m15) g'29 := hS108
                    have hR118 : RJ (upd (upd (upd (upd (upd (upd f 4 z105) 5 y106) 10 z28) 62 o13) 68 s14) 75 m15) g'29 (((28 : Int), (0 : Int), (0 : Int), (0 : Int), []) :: gs) bc [] 0 [] := RJ.at hR67 (by show z53.toInt ≤ z105.toInt; omega)
                    show am_E _ _ _ _ [some (.ref 39), some (.int 0), some (.int (f 4))] [.int 1] _ _
                    refine am_e6i hi_212_101 ?_
                    refine am_e2 (v := 39) hi_212_102 rfl ?_
                    refine am_e1 (v := 0) hi_212_103 rfl ?_
                    refine am_e0 hi_212_104 ?_
                    refine am_e1 (v := f 4) hi_212_105 rfl ?_
                    refine am_e32w (as := [.ref 39, .int 0, .int 0, .int (f 4)]) (la := [some (.ref 39), some (.int 0), some (.int 0), some (.int (f 4)), none]) (rest := []) hi_212_106 (am_hd0 (M := 212) (by decide) 106) (Nat.le_of_ble_eq_true rfl) (Nat.le_of_ble_eq_true rfl) (show 4 ≤ am_P0.2.2.1 213 from by decide +kernel) rfl (am_recv_ok hS108.fs) rfl rfl ?_
                    refine am_e2 (v := 39) hi_213_0 rfl ?_
                    refine am_e0 hi_213_1 ?_
                    refine am_e1 (v := 0) hi_213_3 rfl ?_
                    refine am_e1 (v := 0) hi_213_4 rfl ?_
                    refine am_e0 hi_213_5 ?_
                    refine am_e10 (z := 2) hi_213_6 (by decide) ?_
                    refine am_e1 (v := f 4) hi_213_7 rfl ?_
                    refine am_e32n (as := [.ref 39, .int 13, .int 0, .int 2, .int (f 4)]) (la := [some (.ref 39), some (.int 13), some (.int 0), some (.int 2), some (.int (f 4))]) (rest := []) hi_213_8 (am_hd0 (M := 213) (by decide) 8) (Nat.le_of_ble_eq_true rfl) (Nat.le_of_ble_eq_true rfl) (show 5 ≤ am_P0.2.2.1 189 from by decide +kernel) rfl (am_recv_ok hS108.fs) rfl rfl (ct_put (d := (d + 3)) hS108 hR118  (by show (0 : Int) ≤ (f 32).toInt; omega) (by show (f 32).toInt ≤ (63 : Int); omega) (by show (f 53).toInt ≤ (4096 : Int); omega) (by show (0 : Int) ≤ s14.toInt; omega) (by show s14.toInt ≤ (65534 : Int); omega)) ?_
                    rintro v119 S120 (⟨z121, r122, g'123, hv124, hS125, hR129, h126, h127, h128⟩)
                    subst hv124
                    have h126_ : z121.toInt = s14.toInt + 1 := h126
                    have h127_ : r122.toInt = s14.toInt := h127
                    have h128_ : ∀ j, j ∉ [60, 69, 70, 71, 72, 73] → g'123 j = g'29 j := h128
                    replace hS125 : MS S0 S120 (upd (upd (upd (upd (upd (upd f 4 z105) 5 y106) 10 z28) 62 o13) 68 z121) 75 m15) g'123 := hS125
                    have hR129_ : RJ (upd (upd (upd (upd (upd (upd f 4 z105) 5 y106) 10 z28) 62 o13) 68 z121) 75 m15) g'123 (((28 : Int), (0 : Int), (0 : Int), (0 : Int), []) :: gs) bc [] 0 (s14.toNatClampNeg :: []) := hR129
                    show am_E _ _ _ _ [some (.ref 39), some (.int 0), some (.int 0), some (.int (f 4)), none] [.int r122] _ _
                    refine am_e3 (ls' := [some (.ref 39), some (.int 0), some (.int 0), some (.int (f 4)), some (.int r122)]) hi_213_11 (Nat.le_of_ble_eq_true rfl) rfl ?_
                    refine am_e2 (v := 39) hi_213_13 rfl ?_
                    refine am_e7 hi_213_14 ?_
                    refine mm_20 (v := .int (f 15)) hS125 hi_213_15 rfl ?_
                    refine am_e0 hi_213_18 ?_
                    obtain ⟨z130, hz130, tz130⟩ := am_subI (x := f 15) (y := 1) (m := (f 15).toInt) (n := (1 : Int)) rfl (by decide) (by omega) (by omega)
                    refine am_e10 (z := z130) hi_213_19 hz130 ?_
                    refine mm_21 (v := z130) hS125 hi_213_20 rfl (Nat.le_of_ble_eq_true rfl) ms_15 ?_
                    intro S131 hS132
                    replace hS132 : MS S0 S131 (upd (upd (upd (upd (upd (upd (upd f 4 z105) 5 y106) 10 z28) 15 z130) 62 o13) 68 z121) 75 m15) g'123 := hS132
                    have hp133 : mj_n (g'16 16) (f 15).toNatClampNeg 3 = mj_n (g'16 16) z130.toNatClampNeg 3 + if (g'16 16 z130.toNatClampNeg).toInt = 3 then 1 else 0 := mj_pop (by rw [cl_toNat, cl_toNat]; omega)
                    have hp1331 : mj_n (g'16 16) z130.toNatClampNeg 3 ≤ mj_n (g'16 16) (f 15).toNatClampNeg 3 := by rw [hp133]; split <;> omega
                    have hp1332 : (g'16 16 z130.toNatClampNeg).toInt = 3 → mj_n (g'16 16) z130.toNatClampNeg 3 + 1 ≤ mj_n (g'16 16) (f 15).toNatClampNeg 3 := fun q => by rw [hp133, if_pos q]; exact Int.le_refl _
                    refine am_e2 (v := 39) hi_213_23 rfl ?_
                    refine am_e0 hi_213_24 ?_
                    refine am_e1 (v := r122) hi_213_25 rfl ?_
                    refine am_e1 (v := f 4) hi_213_27 rfl ?_
                    refine am_e32n (as := [.ref 39, .int 1, .int r122, .int (f 4)]) (la := [some (.ref 39), some (.int 1), some (.int r122), some (.int (f 4))]) (rest := []) hi_213_28 (am_hd0 (M := 213) (by decide) 28) (Nat.le_of_ble_eq_true rfl) (Nat.le_of_ble_eq_true rfl) (show 4 ≤ am_P0.2.2.1 190 from by decide +kernel) rfl (am_recv_ok hS132.fs) rfl rfl (ct_value (d := (d + 3)) hS132 hR129_ (fun h => absurd h (by decide)) (fun _ => ⟨by omega, by omega⟩) (by show (0 : Int) ≤ z130.toInt; omega) (by show z130.toInt ≤ (32767 : Int); omega)) ?_
                    rintro v134 S135 (⟨z136, g'137, hv138, hS139, hR144, h140, h141, h142, h143⟩)
                    subst hv138
                    have h140_ : z136.toInt = z130.toInt + 1 := h140
                    have h141_ : ∀ j, j ∉ [16, 17, 18] → g'137 j = g'123 j := h141
                    have h142_ : mj_n (g'137 16) z136.toNatClampNeg 3 ≤ mj_n (g'16 16) z130.toNatClampNeg 3 + 1 := by rw [show g'123 16 = g'29 16 from h128_ 16 (by decide), show g'29 16 = g'16 16 from h33_ 16 (by decide)] at h142; exact h142
                    have h143_ : (1 : Int) = 3 ∨ mj_n (g'137 16) z136.toNatClampNeg 3 ≤ mj_n (g'16 16) z130.toNatClampNeg 3 := by rw [show g'123 16 = g'29 16 from h128_ 16 (by decide), show g'29 16 = g'16 16 from h33_ 16 (by decide)] at h143; exact h143
                    replace hS139 : MS S0 S135 (upd (upd (upd (upd (upd (upd (upd f 4 z105) 5 y106) 10 z28) 15 z136) 62 o13) 68 z121) 75 m15) g'137 := hS139
                    have hR144_ : RJ (upd (upd (upd (upd (upd (upd (upd f 4 z105) 5 y106) 10 z28) 15 z136) 62 o13) 68 z121) 75 m15) g'137 (((28 : Int), (0 : Int), (0 : Int), (0 : Int), []) :: gs) bc [] 0 (s14.toNatClampNeg :: []) := hR144
                    show am_E _ _ _ _ [some (.ref 39), some (.int 0), some (.int 0), some (.int (f 4)), some (.int r122)] [] _ _
                    refine am_e35 hi_213_31 ?_
                    show am_E _ _ _ _ [some (.ref 39), some (.int 0), some (.int (f 4))] [] _ _
                    refine am_e18 hi_212_109 ?_
                    refine am_e35 hi_212_125 ?_
                    show am_E _ _ _ _ [some (.ref 39), some (.int r2), some (.int (f 4)), none] [] _ _
                    refine am_e35 hi_211_249 ?_
                    show am_E _ _ _ _ [some (.ref 39), some (.int 28), some (.int on), some (.int tw)] [] _ _
                    refine am_e18 hi_181_180 ?_
                    refine am_e35 hi_181_397 ?_
                    show am_E _ _ _ _ [some (.ref 39), some (.int 28), some (.int on), some (.int tw), some (.int th)] [] _ _
                    refine am_e35 hi_180_13 ?_
                    have q1 : mg_p1 (((28 : Int), (0 : Int), (0 : Int), (0 : Int), []) :: gs) = 0 + (mg_p1 gs) := rfl
                    have q2 : mg_p2 (((28 : Int), (0 : Int), (0 : Int), (0 : Int), []) :: gs) = 0 + (mg_p2 gs) := rfl
                    have q3 : mg_p3 (((28 : Int), (0 : Int), (0 : Int), (0 : Int), []) :: gs) = 1 + (mg_p3 gs) := rfl
                    have q4 : mg_p4 (((28 : Int), (0 : Int), (0 : Int), (0 : Int), []) :: gs) = 0 + (mg_p4 gs) := rfl
                    refine ⟨_, _, _, bc, rfl, hS139, Or.inl ⟨⟨(RJ.fewer (pj' := []) hR144_ (fun _ h => nomatch h)), ?_, ?_⟩, rfl, ?_⟩⟩
                    · exact (⟨⟨(show mg_k 28 from by decide), (show (1 : Int) ≤ z136.toInt from by omega), (show 0 ≤ (f 20).toInt from by omega), (show 1 ≤ (f 37).toInt from by omega), (show 0 ≤ (f 32).toInt from by omega), (show (f 32).toInt ≤ y106.toInt from by omega), (show y106.toInt ≤ 48 from by omega), (show (f 37).toInt ≤ 2 * (y106.toInt) + 2 from by omega), trivial⟩, mg_cast (mg_good_ext _ _ _ _ _ _ (fun i _ => by show g'137 34 i = g 34 i; rw [show g'137 34 = g'123 34 from h141_ 34 (by decide), show g'123 34 = g'29 34 from h128_ 34 (by decide), show g'29 34 = g'16 34 from h33_ 34 (by decide), show g'16 34 = g 34 from h24_ 34 (by decide)]) (fun i _ => by show g'137 38 i = g 38 i; rw [show g'137 38 = g'123 38 from h141_ 38 (by decide), show g'123 38 = g'29 38 from h128_ 38 (by decide), show g'29 38 = g'16 38 from h33_ 38 (by decide), show g'16 38 = g 38 from h24_ 38 (by decide)]) (fun i _ => by show g'137 23 i = g 23 i; rw [show g'137 23 = g'123 23 from h141_ 23 (by decide), show g'123 23 = g'29 23 from h128_ 23 (by decide), show g'29 23 = g'16 23 from h33_ 23 (by decide), show g'16 23 = g 23 from h24_ 23 (by decide)]) hrest) (by show (f 15).toInt + 0 = z136.toInt + 0; omega) (by show (f 20).toInt = (f 20).toInt; omega) (by show (f 37).toInt + 0 = (f 37).toInt + 0; omega) (by show (f 32).toInt + 0 = (f 32).toInt + 0; omega) (by show (f 5).toInt + 0 = y106.toInt + 0; omega)⟩ : mg_good (g'137 34) (g'137 38) (g'137 23) (((28 : Int), (0 : Int), (0 : Int), (0 : Int), []) :: gs) (z136.toInt) ((f 20).toInt) ((f 37).toInt) ((f 32).toInt) (y106.toInt))
                    · exact ⟨(by show 0 ≤ z105.toInt; omega), (by show z105.toInt ≤ (f 0).toInt; omega), (by show (f 0).toInt ≤ 512; omega), (by show 0 ≤ (f 24).toInt; omega), (by show (f 24).toInt + (f 20).toInt + mg_p1 (((28 : Int), (0 : Int), (0 : Int), (0 : Int), []) :: gs) ≤ 4 * z105.toInt; omega), (by show (f 20).toInt ≤ z105.toInt; omega), (by show z136.toInt + mg_p2 (((28 : Int), (0 : Int), (0 : Int), (0 : Int), []) :: gs) ≤ z105.toInt; omega), (by show mg_p3 (((28 : Int), (0 : Int), (0 : Int), (0 : Int), []) :: gs) ≤ 20 * z105.toInt + 20; omega), (by show 0 ≤ z121.toInt; omega), (by show z121.toInt + 3 * (f 20).toInt + mg_p4 (((28 : Int), (0 : Int), (0 : Int), (0 : Int), []) :: gs) ≤ 60 * z105.toInt + 60; omega), (by show 0 ≤ o13.toInt; omega), (by show o13.toInt + 64 * mj_n (g'137 16) z136.toNatClampNeg 3 ≤ 64 * z105.toInt; omega), (by show 0 ≤ (f 44).toInt; omega), (by show (f 44).toInt ≤ z105.toInt; omega), (by show 0 ≤ (f 48).toInt; omega), (by show (f 48).toInt ≤ z105.toInt; omega), (by show 1 ≤ (f 53).toInt; omega), (by show (f 53).toInt ≤ z105.toInt + 1; omega), (by show 0 ≤ (f 19).toInt; omega), (by show (f 19).toInt ≤ 600; omega)⟩
                    · show 100 * ((f 0).toInt - z105.toInt) + mg_p3 (((28 : Int), (0 : Int), (0 : Int), (0 : Int), []) :: gs) < 100 * ((f 0).toInt - (f 4).toInt) + (1 + mg_p3 gs); omega
                  · subst hv115
                    replace hS116 : MS S0 S104 (upd (upd (upd (upd (upd (upd (upd (upd f 4 z53) 5 y54) 6 a113) 7 b114) 10 0) 62 o13) 68 s14) 75 m15) g'29 := hS116
                    have hR145 := rj_clear0 hR67
                    have hR146 : RJ (upd (upd (upd (upd (upd (upd (upd (upd f 4 z53) 5 y54) 6 a113) 7 b114) 10 0) 62 o13) 68 s14) 75 m15) g'29 [] bc [] 0 [] := hR145
                    show am_E _ _ _ _ [some (.ref 39), some (.int 0), some (.int (f 4))] [.int 0] _ _
                    refine am_e6i hi_212_101 ?_
                    refine am_e2 (v := 39) hi_212_102 rfl ?_
                    refine am_e1 (v := 0) hi_212_103 rfl ?_
                    refine am_e0 hi_212_104 ?_
                    refine am_e1 (v := f 4) hi_212_105 rfl ?_
                    refine am_e32w (as := [.ref 39, .int 0, .int 0, .int (f 4)]) (la := [some (.ref 39), some (.int 0), some (.int 0), some (.int (f 4)), none]) (rest := []) hi_212_106 (am_hd0 (M := 212) (by decide) 106) (Nat.le_of_ble_eq_true rfl) (Nat.le_of_ble_eq_true rfl) (show 4 ≤ am_P0.2.2.1 213 from by decide +kernel) rfl (am_recv_ok hS116.fs) rfl rfl ?_
                    refine am_e2 (v := 39) hi_213_0 rfl ?_
                    refine am_e0 hi_213_1 ?_
                    refine am_e1 (v := 0) hi_213_3 rfl ?_
                    refine am_e1 (v := 0) hi_213_4 rfl ?_
                    refine am_e0 hi_213_5 ?_
                    refine am_e10 (z := 2) hi_213_6 (by decide) ?_
                    refine am_e1 (v := f 4) hi_213_7 rfl ?_
                    refine am_e32n (as := [.ref 39, .int 13, .int 0, .int 2, .int (f 4)]) (la := [some (.ref 39), some (.int 13), some (.int 0), some (.int 2), some (.int (f 4))]) (rest := []) hi_213_8 (am_hd0 (M := 213) (by decide) 8) (Nat.le_of_ble_eq_true rfl) (Nat.le_of_ble_eq_true rfl) (show 5 ≤ am_P0.2.2.1 189 from by decide +kernel) rfl (am_recv_ok hS116.fs) rfl rfl (ct_put (d := (d + 3)) hS116 hR146  (by show (0 : Int) ≤ (f 32).toInt; omega) (by show (f 32).toInt ≤ (63 : Int); omega) (by show (f 53).toInt ≤ (4096 : Int); omega) (by show (0 : Int) ≤ s14.toInt; omega) (by show s14.toInt ≤ (65534 : Int); omega)) ?_
                    rintro v147 S148 (⟨z149, r150, g'151, hv152, hS153, hR157, h154, h155, h156⟩)
                    subst hv152
                    have h154_ : z149.toInt = s14.toInt + 1 := h154
                    have h155_ : r150.toInt = s14.toInt := h155
                    have h156_ : ∀ j, j ∉ [60, 69, 70, 71, 72, 73] → g'151 j = g'29 j := h156
                    replace hS153 : MS S0 S148 (upd (upd (upd (upd (upd (upd (upd (upd f 4 z53) 5 y54) 6 a113) 7 b114) 10 0) 62 o13) 68 z149) 75 m15) g'151 := hS153
                    have hR157_ : RJ (upd (upd (upd (upd (upd (upd (upd (upd f 4 z53) 5 y54) 6 a113) 7 b114) 10 0) 62 o13) 68 z149) 75 m15) g'151 [] bc [] 0 (s14.toNatClampNeg :: []) := hR157
                    show am_E _ _ _ _ [some (.ref 39), some (.int 0), some (.int 0), some (.int (f 4)), none] [.int r150] _ _
                    refine am_e3 (ls' := [some (.ref 39), some (.int 0), some (.int 0), some (.int (f 4)), some (.int r150)]) hi_213_11 (Nat.le_of_ble_eq_true rfl) rfl ?_
                    refine am_e2 (v := 39) hi_213_13 rfl ?_
                    refine am_e7 hi_213_14 ?_
                    refine mm_20 (v := .int (f 15)) hS153 hi_213_15 rfl ?_
                    refine am_e0 hi_213_18 ?_
                    obtain ⟨z158, hz158, tz158⟩ := am_subI (x := f 15) (y := 1) (m := (f 15).toInt) (n := (1 : Int)) rfl (by decide) (by omega) (by omega)
                    refine am_e10 (z := z158) hi_213_19 hz158 ?_
                    refine mm_21 (v := z158) hS153 hi_213_20 rfl (Nat.le_of_ble_eq_true rfl) ms_15 ?_
                    intro S159 hS160
                    replace hS160 : MS S0 S159 (upd (upd (upd (upd (upd (upd (upd (upd (upd f 4 z53) 5 y54) 6 a113) 7 b114) 10 0) 15 z158) 62 o13) 68 z149) 75 m15) g'151 := hS160
                    have hp161 : mj_n (g'16 16) (f 15).toNatClampNeg 3 = mj_n (g'16 16) z158.toNatClampNeg 3 + if (g'16 16 z158.toNatClampNeg).toInt = 3 then 1 else 0 := mj_pop (by rw [cl_toNat, cl_toNat]; omega)
                    have hp1611 : mj_n (g'16 16) z158.toNatClampNeg 3 ≤ mj_n (g'16 16) (f 15).toNatClampNeg 3 := by rw [hp161]; split <;> omega
                    have hp1612 : (g'16 16 z158.toNatClampNeg).toInt = 3 → mj_n (g'16 16) z158.toNatClampNeg 3 + 1 ≤ mj_n (g'16 16) (f 15).toNatClampNeg 3 := fun q => by rw [hp161, if_pos q]; exact Int.le_refl _
                    refine am_e2 (v := 39) hi_213_23 rfl ?_
                    refine am_e0 hi_213_24 ?_
                    refine am_e1 (v := r150) hi_213_25 rfl ?_
                    refine am_e1 (v := f 4) hi_213_27 rfl ?_
                    refine am_e32n (as := [.ref 39, .int 1, .int r150, .int (f 4)]) (la := [some (.ref 39), some (.int 1), some (.int r150), some (.int (f 4))]) (rest := []) hi_213_28 (am_hd0 (M := 213) (by decide) 28) (Nat.le_of_ble_eq_true rfl) (Nat.le_of_ble_eq_true rfl) (show 4 ≤ am_P0.2.2.1 190 from by decide +kernel) rfl (am_recv_ok hS160.fs) rfl rfl (ct_value (d := (d + 3)) hS160 hR157_ (fun h => absurd h (by decide)) (fun _ => ⟨by omega, by omega⟩) (by show (0 : Int) ≤ z158.toInt; omega) (by show z158.toInt ≤ (32767 : Int); omega)) ?_
                    rintro v162 S163 (⟨z164, g'165, hv166, hS167, hR172, h168, h169, h170, h171⟩)
                    subst hv166
                    have h168_ : z164.toInt = z158.toInt + 1 := h168
                    have h169_ : ∀ j, j ∉ [16, 17, 18] → g'165 j = g'151 j := h169
                    have h170_ : mj_n (g'165 16) z164.toNatClampNeg 3 ≤ mj_n (g'16 16) z158.toNatClampNeg 3 + 1 := by rw [show g'151 16 = g'29 16 from h156_ 16 (by decide), show g'29 16 = g'16 16 from h33_ 16 (by decide)] at h170; exact h170
                    have h171_ : (1 : Int) = 3 ∨ mj_n (g'165 16) z164.toNatClampNeg 3 ≤ mj_n (g'16 16) z158.toNatClampNeg 3 := by rw [show g'151 16 = g'29 16 from h156_ 16 (by decide), show g'29 16 = g'16 16 from h33_ 16 (by decide)] at h171; exact h171
                    replace hS167 : MS S0 S163 (upd (upd (upd (upd (upd (upd (upd (upd (upd f 4 z53) 5 y54) 6 a113) 7 b114) 10 0) 15 z164) 62 o13) 68 z149) 75 m15) g'165 := hS167
                    have hR172_ : RJ (upd (upd (upd (upd (upd (upd (upd (upd (upd f 4 z53) 5 y54) 6 a113) 7 b114) 10 0) 15 z164) 62 o13) 68 z149) 75 m15) g'165 [] bc [] 0 (s14.toNatClampNeg :: []) := hR172
                    show am_E _ _ _ _ [some (.ref 39), some (.int 0), some (.int 0), some (.int (f 4)), some (.int r150)] [] _ _
                    refine am_e35 hi_213_31 ?_
                    show am_E _ _ _ _ [some (.ref 39), some (.int 0), some (.int (f 4))] [] _ _
                    refine am_e18 hi_212_109 ?_
                    refine am_e35 hi_212_125 ?_
                    show am_E _ _ _ _ [some (.ref 39), some (.int r2), some (.int (f 4)), none] [] _ _
                    refine am_e35 hi_211_249 ?_
                    show am_E _ _ _ _ [some (.ref 39), some (.int 28), some (.int on), some (.int tw)] [] _ _
                    refine am_e18 hi_181_180 ?_
                    refine am_e35 hi_181_397 ?_
                    show am_E _ _ _ _ [some (.ref 39), some (.int 28), some (.int on), some (.int tw), some (.int th)] [] _ _
                    refine am_e35 hi_180_13 ?_
                    have hRc := rj_clear0 hR172_
                    refine ⟨_, _, [], _, rfl, hS167, Or.inr ⟨hRc, rfl, (by show 0 ≤ z53.toInt; omega), (by show z53.toInt ≤ (f 0).toInt; omega), (by show 0 ≤ (f 32).toInt; omega), (by show (f 32).toInt ≤ 63; omega), (by show 1 ≤ (f 53).toInt; omega), (by show (f 53).toInt ≤ 600; omega), (by show 0 ≤ z149.toInt; omega), (by show z149.toInt ≤ 60000; omega), (by show 0 ≤ (f 48).toInt; omega), (by show (f 48).toInt ≤ 8000; omega), (by show 0 ≤ (f 37).toInt; omega), (by show (f 37).toInt ≤ 128; omega), (by show 0 ≤ o13.toInt; omega), (by show o13.toInt ≤ 65000; omega), (by show 0 ≤ (f 19).toInt; omega), (by show (f 19).toInt ≤ 600; omega)⟩⟩
              · subst hv64
                replace hS65 : MS S0 S52 (upd (upd (upd (upd (upd (upd f 6 a62) 7 b63) 10 0) 62 o13) 68 s14) 75 m15) g'29 := hS65
                have hR173 := rj_clear0 hR34_
                have hR174 : RJ (upd (upd (upd (upd (upd (upd f 6 a62) 7 b63) 10 0) 62 o13) 68 s14) 75 m15) g'29 [] bc [] 0 [] := hR173
                show am_E _ _ _ _ [some (.ref 39), some (.int 0), some (.int (f 4))] [.int 0] _ _
                refine am_e12t hi_212_83 (by decide) ?_
                refine am_e35 hi_212_125 ?_
                show am_E _ _ _ _ [some (.ref 39), some (.int r2), some (.int (f 4)), none] [] _ _
                refine am_e35 hi_211_249 ?_
                show am_E _ _ _ _ [some (.ref 39), some (.int 28), some (.int on), some (.int tw)] [] _ _
                refine am_e18 hi_181_180 ?_
                refine am_e35 hi_181_397 ?_
                show am_E _ _ _ _ [some (.ref 39), some (.int 28), some (.int on), some (.int tw), some (.int th)] [] _ _
                refine am_e35 hi_180_13 ?_
                have hRc := rj_clear0 hR174
                refine ⟨_, _, [], _, rfl, hS65, Or.inr ⟨hRc, rfl, (by show 0 ≤ (f 4).toInt; omega), (by show (f 4).toInt ≤ (f 0).toInt; omega), (by show 0 ≤ (f 32).toInt; omega), (by show (f 32).toInt ≤ 63; omega), (by show 1 ≤ (f 53).toInt; omega), (by show (f 53).toInt ≤ 600; omega), (by show 0 ≤ s14.toInt; omega), (by show s14.toInt ≤ 60000; omega), (by show 0 ≤ (f 48).toInt; omega), (by show (f 48).toInt ≤ 8000; omega), (by show 0 ≤ (f 37).toInt; omega), (by show (f 37).toInt ≤ 128; omega), (by show 0 ≤ o13.toInt; omega), (by show o13.toInt ≤ 65000; omega), (by show 0 ≤ (f 19).toInt; omega), (by show (f 19).toInt ≤ 600; omega)⟩⟩
            · refine am_e13f hi_212_58 (am_cF (m := r45.toInt) (n := (62 : Int)) rfl (by decide) c50) ?_
              refine am_e2 (v := 39) hi_212_61 rfl ?_
              refine am_e0 hi_212_62 ?_
              refine am_e1 (v := 0) hi_212_64 rfl ?_
              refine am_e1 (v := f 4) hi_212_65 rfl ?_
              refine am_e0 hi_212_66 ?_
              refine am_e32n (as := [.ref 39, .int 33, .int 0, .int (f 4), .int 0]) (la := [some (.ref 39), some (.int 33), some (.int 0), some (.int (f 4)), some (.int 0)]) (rest := []) hi_212_67 (am_hd0 (M := 212) (by decide) 67) (Nat.le_of_ble_eq_true rfl) (Nat.le_of_ble_eq_true rfl) (show 5 ≤ am_P0.2.2.1 179 from by decide +kernel) rfl (am_recv_ok hS47.fs) rfl rfl (ct_pile (d := (d + 4)) hS47 hR34_ (mj_e_plain (by decide)) (by show (0 : Int) ≤ z28.toInt; omega) (by show z28.toInt ≤ (65535 : Int); omega)) ?_
              rintro v175 S176 (⟨z177, g'178, hv179, hS180, hR183, h181, h182⟩)
              subst hv179
              have h181_ : z177.toInt = z28.toInt + 1 := h181
              have h182_ : ∀ j, j ∉ [11, 12, 13, 14] → g'178 j = g'29 j := h182
              replace hS180 : MS S0 S176 (upd (upd (upd (upd f 10 z177) 62 o13) 68 s14) 75 m15) g'178 := hS180
              have hR183_ : RJ (upd (upd (upd (upd f 10 z177) 62 o13) 68 s14) 75 m15) g'178 (((33 : Int), (0 : Int), (f 4).toInt, (0 : Int), []) :: (((28 : Int), (0 : Int), (0 : Int), (0 : Int), []) :: gs)) bc [] 0 [] := hR183
              show am_E _ _ _ _ [some (.ref 39), some (.int 0), some (.int (f 4))] [] _ _
              refine am_e2 (v := 39) hi_212_70 rfl ?_
              refine am_e32w (as := [.ref 39]) (la := [some (.ref 39), none]) (rest := []) hi_212_71 (am_hd0 (M := 212) (by decide) 71) (Nat.le_of_ble_eq_true rfl) (Nat.le_of_ble_eq_true rfl) (show 1 ≤ am_P0.2.2.1 192 from by decide +kernel) rfl (am_recv_ok hS180.fs) rfl rfl ?_
              refine am_e2 (v := 39) hi_192_0 rfl ?_
              refine mm_20 (v := .int (f 4)) hS180 hi_192_1 rfl ?_
              refine am_e3 (ls' := [some (.ref 39), some (.int (f 4))]) hi_192_4 (Nat.le_of_ble_eq_true rfl) rfl ?_
              refine am_e2 (v := 39) hi_192_5 rfl ?_
              refine am_e0 hi_192_6 ?_
              refine am_e32n (as := [.ref 39, .int 62]) (la := [some (.ref 39), some (.int 62)]) (rest := []) hi_192_8 (am_hd0 (M := 192) (by decide) 8) (Nat.le_of_ble_eq_true rfl) (Nat.le_of_ble_eq_true rfl) (show 2 ≤ am_P0.2.2.1 193 from by decide +kernel) rfl (am_recv_ok hS180.fs) rfl rfl (ct_enter (d := (d + 1)) hS180   (by show (0 : Int) ≤ (f 4).toInt; omega) (by show (f 0).toInt ≤ (16384 : Int); omega) (by show (0 : Int) ≤ (62 : Int); omega) (by show (0 : Int) ≤ (f 5).toInt; omega) (by show (f 5).toInt ≤ (48 : Int); omega)) ?_
              rintro v184 S185 (⟨z186, y187, hv188, hS189, h190, h191, h192, h193⟩ | ⟨a195, b196, hv197, hS198⟩)
              · subst hv188
                have h190_ : z186.toInt = (f 4).toInt + 1 := h190
                have h191_ : (f 4).toInt < (f 0).toInt := h191
                have h192_ : y187.toInt = (f 5).toInt + 1 := h192
                have h193_ : y187.toInt ≤ (48 : Int) := h193
                replace hS189 : MS S0 S185 (upd (upd (upd (upd (upd (upd f 4 z186) 5 y187) 10 z177) 62 o13) 68 s14) 75 m15) g'178 := hS189
                have hR200 : RJ (upd (upd (upd (upd (upd (upd f 4 z186) 5 y187) 10 z177) 62 o13) 68 s14) 75 m15) g'178 (((33 : Int), (0 : Int), (f 4).toInt, (0 : Int), []) :: (((28 : Int), (0 : Int), (0 : Int), (0 : Int), []) :: gs)) bc [] 0 [] := RJ.at hR183_ (by show (f 4).toInt ≤ z186.toInt; omega)
                show am_E _ _ _ _ [some (.ref 39), some (.int (f 4))] [.int 1] _ _
                refine am_e12t hi_192_11 (by decide) ?_
                refine am_e2 (v := 39) hi_192_15 rfl ?_
                refine am_e0 hi_192_16 ?_
                refine am_e0 hi_192_18 ?_
                refine am_e0 hi_192_19 ?_
                refine am_e1 (v := f 4) hi_192_20 rfl ?_
                refine am_e32n (as := [.ref 39, .int 20, .int 0, .int 0, .int (f 4)]) (la := [some (.ref 39), some (.int 20), some (.int 0), some (.int 0), some (.int (f 4))]) (rest := []) hi_192_21 (am_hd0 (M := 192) (by decide) 21) (Nat.le_of_ble_eq_true rfl) (Nat.le_of_ble_eq_true rfl) (show 5 ≤ am_P0.2.2.1 189 from by decide +kernel) rfl (am_recv_ok hS189.fs) rfl rfl (ct_put (d := (d + 3)) hS189 hR200  (by show (0 : Int) ≤ (f 32).toInt; omega) (by show (f 32).toInt ≤ (63 : Int); omega) (by show (f 53).toInt ≤ (4096 : Int); omega) (by show (0 : Int) ≤ s14.toInt; omega) (by show s14.toInt ≤ (65534 : Int); omega)) ?_
                rintro v201 S202 (⟨z203, r204, g'205, hv206, hS207, hR211, h208, h209, h210⟩)
                subst hv206
                have h208_ : z203.toInt = s14.toInt + 1 := h208
                have h209_ : r204.toInt = s14.toInt := h209
                have h210_ : ∀ j, j ∉ [60, 69, 70, 71, 72, 73] → g'205 j = g'178 j := h210
                replace hS207 : MS S0 S202 (upd (upd (upd (upd (upd (upd f 4 z186) 5 y187) 10 z177) 62 o13) 68 z203) 75 m15) g'205 := hS207
                have hR211_ : RJ (upd (upd (upd (upd (upd (upd f 4 z186) 5 y187) 10 z177) 62 o13) 68 z203) 75 m15) g'205 (((33 : Int), (0 : Int), (f 4).toInt, (0 : Int), []) :: (((28 : Int), (0 : Int), (0 : Int), (0 : Int), []) :: gs)) bc [] 0 (s14.toNatClampNeg :: []) := hR211
                show am_E _ _ _ _ [some (.ref 39), some (.int (f 4))] [.int r204] _ _
                refine am_e6i hi_192_24 ?_
                refine am_e2 (v := 39) hi_192_25 rfl ?_
                refine am_e0 hi_192_26 ?_
                refine am_e0 hi_192_27 ?_
                refine am_e0 hi_192_28 ?_
                refine am_e32n (as := [.ref 39, .int 0, .int 0, .int 0]) (la := [some (.ref 39), some (.int 0), some (.int 0), some (.int 0)]) (rest := []) hi_192_29 (am_hd0 (M := 192) (by decide) 29) (Nat.le_of_ble_eq_true rfl) (Nat.le_of_ble_eq_true rfl) (show 4 ≤ am_P0.2.2.1 190 from by decide +kernel) rfl (am_recv_ok hS207.fs) rfl rfl (ct_value (d := (d + 3)) hS207 hR211_ (fun h => absurd h (by decide)) (fun h => absurd h (by decide)) (by show (0 : Int) ≤ (f 15).toInt; omega) (by show (f 15).toInt ≤ (32767 : Int); omega)) ?_
                rintro v212 S213 (⟨z214, g'215, hv216, hS217, hR222, h218, h219, h220, h221⟩)
                subst hv216
                have h218_ : z214.toInt = (f 15).toInt + 1 := h218
                have h219_ : ∀ j, j ∉ [16, 17, 18] → g'215 j = g'205 j := h219
                have h220_ : mj_n (g'215 16) z214.toNatClampNeg 3 ≤ mj_n (g'16 16) (f 15).toNatClampNeg 3 + 1 := by rw [show g'205 16 = g'178 16 from h210_ 16 (by decide), show g'178 16 = g'29 16 from h182_ 16 (by decide), show g'29 16 = g'16 16 from h33_ 16 (by decide)] at h220; exact h220
                have h221_ : (0 : Int) = 3 ∨ mj_n (g'215 16) z214.toNatClampNeg 3 ≤ mj_n (g'16 16) (f 15).toNatClampNeg 3 := by rw [show g'205 16 = g'178 16 from h210_ 16 (by decide), show g'178 16 = g'29 16 from h182_ 16 (by decide), show g'29 16 = g'16 16 from h33_ 16 (by decide)] at h221; exact h221
                replace hS217 : MS S0 S213 (upd (upd (upd (upd (upd (upd (upd f 4 z186) 5 y187) 10 z177) 15 z214) 62 o13) 68 z203) 75 m15) g'215 := hS217
                have hR222_ : RJ (upd (upd (upd (upd (upd (upd (upd f 4 z186) 5 y187) 10 z177) 15 z214) 62 o13) 68 z203) 75 m15) g'215 (((33 : Int), (0 : Int), (f 4).toInt, (0 : Int), []) :: (((28 : Int), (0 : Int), (0 : Int), (0 : Int), []) :: gs)) bc [] 0 (s14.toNatClampNeg :: []) := hR222
                show am_E _ _ _ _ [some (.ref 39), some (.int (f 4))] [] _ _
                refine am_e2 (v := 39) hi_192_32 rfl ?_
                refine am_e0 hi_192_33 ?_
                refine am_e0 hi_192_35 ?_
                refine am_e0 hi_192_36 ?_
                refine am_e0 hi_192_37 ?_
                refine am_e32n (as := [.ref 39, .int 35, .int 0, .int 0, .int 0]) (la := [some (.ref 39), some (.int 35), some (.int 0), some (.int 0), some (.int 0)]) (rest := []) hi_192_38 (am_hd0 (M := 192) (by decide) 38) (Nat.le_of_ble_eq_true rfl) (Nat.le_of_ble_eq_true rfl) (show 5 ≤ am_P0.2.2.1 179 from by decide +kernel) rfl (am_recv_ok hS217.fs) rfl rfl (ct_pile (d := (d + 3)) hS217 hR222_ (mj_e_plain (by decide)) (by show (0 : Int) ≤ z177.toInt; omega) (by show z177.toInt ≤ (65535 : Int); omega)) ?_
                rintro v223 S224 (⟨z225, g'226, hv227, hS228, hR231, h229, h230⟩)
                subst hv227
                have h229_ : z225.toInt = z177.toInt + 1 := h229
                have h230_ : ∀ j, j ∉ [11, 12, 13, 14] → g'226 j = g'215 j := h230
                replace hS228 : MS S0 S224 (upd (upd (upd (upd (upd (upd (upd f 4 z186) 5 y187) 10 z225) 15 z214) 62 o13) 68 z203) 75 m15) g'226 := hS228
                have hR231_ : RJ (upd (upd (upd (upd (upd (upd (upd f 4 z186) 5 y187) 10 z225) 15 z214) 62 o13) 68 z203) 75 m15) g'226 (((35 : Int), (0 : Int), (0 : Int), (0 : Int), []) :: (((33 : Int), (0 : Int), (f 4).toInt, (0 : Int), []) :: (((28 : Int), (0 : Int), (0 : Int), (0 : Int), []) :: gs))) bc [] 0 (s14.toNatClampNeg :: []) := hR231
                show am_E _ _ _ _ [some (.ref 39), some (.int (f 4))] [] _ _
                refine am_e35 hi_192_41 ?_
                show am_E _ _ _ _ [some (.ref 39), some (.int 0), some (.int (f 4))] [] _ _
                refine am_e18 hi_212_74 ?_
                refine am_e35 hi_212_125 ?_
                show am_E _ _ _ _ [some (.ref 39), some (.int r2), some (.int (f 4)), none] [] _ _
                refine am_e35 hi_211_249 ?_
                show am_E _ _ _ _ [some (.ref 39), some (.int 28), some (.int on), some (.int tw)] [] _ _
                refine am_e18 hi_181_180 ?_
                refine am_e35 hi_181_397 ?_
                show am_E _ _ _ _ [some (.ref 39), some (.int 28), some (.int on), some (.int tw), some (.int th)] [] _ _
                refine am_e35 hi_180_13 ?_
                have q1 : mg_p1 (((35 : Int), (0 : Int), (0 : Int), (0 : Int), []) :: (((33 : Int), (0 : Int), (f 4).toInt, (0 : Int), []) :: (((28 : Int), (0 : Int), (0 : Int), (0 : Int), []) :: gs))) = 0 + (0 + (0 + (mg_p1 gs))) := rfl
                have q2 : mg_p2 (((35 : Int), (0 : Int), (0 : Int), (0 : Int), []) :: (((33 : Int), (0 : Int), (f 4).toInt, (0 : Int), []) :: (((28 : Int), (0 : Int), (0 : Int), (0 : Int), []) :: gs))) = 0 + (0 + (0 + (mg_p2 gs))) := rfl
                have q3 : mg_p3 (((35 : Int), (0 : Int), (0 : Int), (0 : Int), []) :: (((33 : Int), (0 : Int), (f 4).toInt, (0 : Int), []) :: (((28 : Int), (0 : Int), (0 : Int), (0 : Int), []) :: gs))) = 3 + (1 + (1 + (mg_p3 gs))) := rfl
                have q4 : mg_p4 (((35 : Int), (0 : Int), (0 : Int), (0 : Int), []) :: (((33 : Int), (0 : Int), (f 4).toInt, (0 : Int), []) :: (((28 : Int), (0 : Int), (0 : Int), (0 : Int), []) :: gs))) = 0 + (3 + (0 + (mg_p4 gs))) := rfl
                refine ⟨_, _, _, bc, rfl, hS228, Or.inl ⟨⟨(RJ.fewer (pj' := []) hR231_ (fun _ h => nomatch h)), ?_, ?_⟩, rfl, ?_⟩⟩
                · exact (⟨⟨(show mg_k 35 from by decide), (show (0 : Int) ≤ z214.toInt from by omega), (show 0 ≤ (f 20).toInt from by omega), (show 1 ≤ (f 37).toInt from by omega), (show 0 ≤ (f 32).toInt from by omega), (show (f 32).toInt ≤ y187.toInt from by omega), (show y187.toInt ≤ 48 from by omega), (show (f 37).toInt ≤ 2 * (y187.toInt) + 2 from by omega), trivial⟩, ⟨⟨(show mg_k 33 from by decide), (show (2 : Int) ≤ z214.toInt + 0 from by omega), (show 0 ≤ (f 20).toInt from by omega), (show 1 ≤ (f 37).toInt + 0 from by omega), (show 0 ≤ (f 32).toInt + 0 from by omega), (show (f 32).toInt + 0 ≤ y187.toInt + -1 from by omega), (show y187.toInt + -1 ≤ 48 from by omega), (show (f 37).toInt + 0 ≤ 2 * (y187.toInt + -1) + 2 from by omega), trivial⟩, ⟨⟨(show mg_k 28 from by decide), (show (1 : Int) ≤ z214.toInt + 0 + -1 from by omega), (show 0 ≤ (f 20).toInt from by omega), (show 1 ≤ (f 37).toInt + 0 + 0 from by omega), (show 0 ≤ (f 32).toInt + 0 + 0 from by omega), (show (f 32).toInt + 0 + 0 ≤ y187.toInt + -1 + 0 from by omega), (show y187.toInt + -1 + 0 ≤ 48 from by omega), (show (f 37).toInt + 0 + 0 ≤ 2 * (y187.toInt + -1 + 0) + 2 from by omega), trivial⟩, mg_cast (mg_good_ext _ _ _ _ _ _ (fun i _ => by show g'226 34 i = g 34 i; rw [show g'226 34 = g'215 34 from h230_ 34 (by decide), show g'215 34 = g'205 34 from h219_ 34 (by decide), show g'205 34 = g'178 34 from h210_ 34 (by decide), show g'178 34 = g'29 34 from h182_ 34 (by decide), show g'29 34 = g'16 34 from h33_ 34 (by decide), show g'16 34 = g 34 from h24_ 34 (by decide)]) (fun i _ => by show g'226 38 i = g 38 i; rw [show g'226 38 = g'215 38 from h230_ 38 (by decide), show g'215 38 = g'205 38 from h219_ 38 (by decide), show g'205 38 = g'178 38 from h210_ 38 (by decide), show g'178 38 = g'29 38 from h182_ 38 (by decide), show g'29 38 = g'16 38 from h33_ 38 (by decide), show g'16 38 = g 38 from h24_ 38 (by decide)]) (fun i _ => by show g'226 23 i = g 23 i; rw [show g'226 23 = g'215 23 from h230_ 23 (by decide), show g'215 23 = g'205 23 from h219_ 23 (by decide), show g'205 23 = g'178 23 from h210_ 23 (by decide), show g'178 23 = g'29 23 from h182_ 23 (by decide), show g'29 23 = g'16 23 from h33_ 23 (by decide), show g'16 23 = g 23 from h24_ 23 (by decide)]) hrest) (by show (f 15).toInt + 0 = z214.toInt + 0 + -1 + 0; omega) (by show (f 20).toInt = (f 20).toInt; omega) (by show (f 37).toInt + 0 = (f 37).toInt + 0 + 0 + 0; omega) (by show (f 32).toInt + 0 = (f 32).toInt + 0 + 0 + 0; omega) (by show (f 5).toInt + 0 = y187.toInt + -1 + 0 + 0; omega)⟩⟩⟩ : mg_good (g'226 34) (g'226 38) (g'226 23) (((35 : Int), (0 : Int), (0 : Int), (0 : Int), []) :: (((33 : Int), (0 : Int), (f 4).toInt, (0 : Int), []) :: (((28 : Int), (0 : Int), (0 : Int), (0 : Int), []) :: gs))) (z214.toInt) ((f 20).toInt) ((f 37).toInt) ((f 32).toInt) (y187.toInt))
                · exact ⟨(by show 0 ≤ z186.toInt; omega), (by show z186.toInt ≤ (f 0).toInt; omega), (by show (f 0).toInt ≤ 512; omega), (by show 0 ≤ (f 24).toInt; omega), (by show (f 24).toInt + (f 20).toInt + mg_p1 (((35 : Int), (0 : Int), (0 : Int), (0 : Int), []) :: (((33 : Int), (0 : Int), (f 4).toInt, (0 : Int), []) :: (((28 : Int), (0 : Int), (0 : Int), (0 : Int), []) :: gs))) ≤ 4 * z186.toInt; omega), (by show (f 20).toInt ≤ z186.toInt; omega), (by show z214.toInt + mg_p2 (((35 : Int), (0 : Int), (0 : Int), (0 : Int), []) :: (((33 : Int), (0 : Int), (f 4).toInt, (0 : Int), []) :: (((28 : Int), (0 : Int), (0 : Int), (0 : Int), []) :: gs))) ≤ z186.toInt; omega), (by show mg_p3 (((35 : Int), (0 : Int), (0 : Int), (0 : Int), []) :: (((33 : Int), (0 : Int), (f 4).toInt, (0 : Int), []) :: (((28 : Int), (0 : Int), (0 : Int), (0 : Int), []) :: gs))) ≤ 20 * z186.toInt + 20; omega), (by show 0 ≤ z203.toInt; omega), (by show z203.toInt + 3 * (f 20).toInt + mg_p4 (((35 : Int), (0 : Int), (0 : Int), (0 : Int), []) :: (((33 : Int), (0 : Int), (f 4).toInt, (0 : Int), []) :: (((28 : Int), (0 : Int), (0 : Int), (0 : Int), []) :: gs))) ≤ 60 * z186.toInt + 60; omega), (by show 0 ≤ o13.toInt; omega), (by show o13.toInt + 64 * mj_n (g'226 16) z214.toNatClampNeg 3 ≤ 64 * z186.toInt; rw [show g'226 16 = g'215 16 from h230_ 16 (by decide)]; omega), (by show 0 ≤ (f 44).toInt; omega), (by show (f 44).toInt ≤ z186.toInt; omega), (by show 0 ≤ (f 48).toInt; omega), (by show (f 48).toInt ≤ z186.toInt; omega), (by show 1 ≤ (f 53).toInt; omega), (by show (f 53).toInt ≤ z186.toInt + 1; omega), (by show 0 ≤ (f 19).toInt; omega), (by show (f 19).toInt ≤ 600; omega)⟩
                · show 100 * ((f 0).toInt - z186.toInt) + mg_p3 (((35 : Int), (0 : Int), (0 : Int), (0 : Int), []) :: (((33 : Int), (0 : Int), (f 4).toInt, (0 : Int), []) :: (((28 : Int), (0 : Int), (0 : Int), (0 : Int), []) :: gs))) < 100 * ((f 0).toInt - (f 4).toInt) + (1 + mg_p3 gs); omega
              · subst hv197
                replace hS198 : MS S0 S185 (upd (upd (upd (upd (upd (upd f 6 a195) 7 b196) 10 0) 62 o13) 68 s14) 75 m15) g'178 := hS198
                have hR232 := rj_clear0 hR183_
                have hR233 : RJ (upd (upd (upd (upd (upd (upd f 6 a195) 7 b196) 10 0) 62 o13) 68 s14) 75 m15) g'178 [] bc [] 0 [] := hR232
                show am_E _ _ _ _ [some (.ref 39), some (.int (f 4))] [.int 0] _ _
                refine am_e12f hi_192_11 (by decide) ?_
                refine am_e35 hi_192_14 ?_
                show am_E _ _ _ _ [some (.ref 39), some (.int 0), some (.int (f 4))] [] _ _
                refine am_e18 hi_212_74 ?_
                refine am_e35 hi_212_125 ?_
                show am_E _ _ _ _ [some (.ref 39), some (.int r2), some (.int (f 4)), none] [] _ _
                refine am_e35 hi_211_249 ?_
                show am_E _ _ _ _ [some (.ref 39), some (.int 28), some (.int on), some (.int tw)] [] _ _
                refine am_e18 hi_181_180 ?_
                refine am_e35 hi_181_397 ?_
                show am_E _ _ _ _ [some (.ref 39), some (.int 28), some (.int on), some (.int tw), some (.int th)] [] _ _
                refine am_e35 hi_180_13 ?_
                have hRc := rj_clear0 hR233
                refine ⟨_, _, [], _, rfl, hS198, Or.inr ⟨hRc, rfl, (by show 0 ≤ (f 4).toInt; omega), (by show (f 4).toInt ≤ (f 0).toInt; omega), (by show 0 ≤ (f 32).toInt; omega), (by show (f 32).toInt ≤ 63; omega), (by show 1 ≤ (f 53).toInt; omega), (by show (f 53).toInt ≤ 600; omega), (by show 0 ≤ s14.toInt; omega), (by show s14.toInt ≤ 60000; omega), (by show 0 ≤ (f 48).toInt; omega), (by show (f 48).toInt ≤ 8000; omega), (by show 0 ≤ (f 37).toInt; omega), (by show (f 37).toInt ≤ 128; omega), (by show 0 ≤ o13.toInt; omega), (by show o13.toInt ≤ 65000; omega), (by show 0 ≤ (f 19).toInt; omega), (by show (f 19).toInt ≤ 600; omega)⟩⟩
          · refine am_e13f hi_212_10 (am_cF (m := r37.toInt) (n := (3 : Int)) rfl (by decide) c42) ?_
            refine am_e2 (v := 39) hi_212_13 rfl ?_
            refine am_e0 hi_212_14 ?_
            refine am_e2 (v := 39) hi_212_15 rfl ?_
            refine mm_20 (v := .ref 41) hS39 hi_212_16 rfl ?_
            refine am_e2 (v := 39) hi_212_19 rfl ?_
            refine mm_20 (v := .int (f 4)) hS39 hi_212_20 rfl ?_
            refine mm_25 hS39 ma_2 hi_212_23 (by decide) (by omega) (by omega) ?_
            show am_E _ _ _ _ _ (.int (g'29 2 (f 4).toNatClampNeg) :: _) _ _
            rw [show g'29 2 = g'16 2 from h33_ 2 (by decide), show g'16 2 = g 2 from h24_ 2 (by decide)]
            show am_E _ _ _ _ [some (.ref 39), some (.int 0), some (.int (f 4))] [.int (g 2 (f 4).toNatClampNeg), .int 5, .ref 39] _ _
            refine am_e0 hi_212_24 ?_
            refine am_e0 hi_212_25 ?_
            refine am_e32n (as := [.ref 39, .int 5, .int (g 2 (f 4).toNatClampNeg), .int 0, .int 0]) (la := [some (.ref 39), some (.int 5), some (.int (g 2 (f 4).toNatClampNeg)), some (.int 0), some (.int 0)]) (rest := []) hi_212_26 (am_hd0 (M := 212) (by decide) 26) (Nat.le_of_ble_eq_true rfl) (Nat.le_of_ble_eq_true rfl) (show 5 ≤ am_P0.2.2.1 189 from by decide +kernel) rfl (am_recv_ok hS39.fs) rfl rfl (ct_put (d := (d + 4)) hS39 hR34_  (by show (0 : Int) ≤ (f 32).toInt; omega) (by show (f 32).toInt ≤ (63 : Int); omega) (by show (f 53).toInt ≤ (4096 : Int); omega) (by show (0 : Int) ≤ s14.toInt; omega) (by show s14.toInt ≤ (65534 : Int); omega)) ?_
            rintro v234 S235 (⟨z236, r237, g'238, hv239, hS240, hR244, h241, h242, h243⟩)
            subst hv239
            have h241_ : z236.toInt = s14.toInt + 1 := h241
            have h242_ : r237.toInt = s14.toInt := h242
            have h243_ : ∀ j, j ∉ [60, 69, 70, 71, 72, 73] → g'238 j = g'29 j := h243
            replace hS240 : MS S0 S235 (upd (upd (upd (upd f 10 z28) 62 o13) 68 z236) 75 m15) g'238 := hS240
            have hR244_ : RJ (upd (upd (upd (upd f 10 z28) 62 o13) 68 z236) 75 m15) g'238 (((28 : Int), (0 : Int), (0 : Int), (0 : Int), []) :: gs) bc [] 0 (s14.toNatClampNeg :: []) := hR244
            show am_E _ _ _ _ [some (.ref 39), some (.int 0), some (.int (f 4))] [.int r237] _ _
            refine am_e6i hi_212_29 ?_
            refine am_e2 (v := 39) hi_212_30 rfl ?_
            refine am_e7 hi_212_31 ?_
            refine mm_20 (v := .int (f 4)) hS240 hi_212_32 rfl ?_
            refine am_e0 hi_212_35 ?_
            obtain ⟨z245, hz245, tz245⟩ := am_addI (x := f 4) (y := 1) (m := (f 4).toInt) (n := (1 : Int)) rfl (by decide) (by omega) (by omega)
            refine am_e10 (z := z245) hi_212_36 hz245 ?_
            refine mm_21 (v := z245) hS240 hi_212_37 rfl (Nat.le_of_ble_eq_true rfl) ms_4 ?_
            intro S246 hS247
            replace hS247 : MS S0 S246 (upd (upd (upd (upd (upd f 4 z245) 10 z28) 62 o13) 68 z236) 75 m15) g'238 := hS247
            have hR248 : RJ (upd (upd (upd (upd (upd f 4 z245) 10 z28) 62 o13) 68 z236) 75 m15) g'238 (((28 : Int), (0 : Int), (0 : Int), (0 : Int), []) :: gs) bc [] 0 (s14.toNatClampNeg :: []) := RJ.at hR244_ (by show (f 4).toInt ≤ z245.toInt; omega)
            refine am_e2 (v := 39) hi_212_40 rfl ?_
            refine am_e0 hi_212_41 ?_
            refine am_e1 (v := 0) hi_212_42 rfl ?_
            refine am_e10 (z := 1) hi_212_43 (by decide) ?_
            refine am_e0 hi_212_44 ?_
            refine am_e1 (v := f 4) hi_212_45 rfl ?_
            refine am_e32w (as := [.ref 39, .int 1, .int 0, .int (f 4)]) (la := [some (.ref 39), some (.int 1), some (.int 0), some (.int (f 4)), none]) (rest := []) hi_212_46 (am_hd0 (M := 212) (by decide) 46) (Nat.le_of_ble_eq_true rfl) (Nat.le_of_ble_eq_true rfl) (show 4 ≤ am_P0.2.2.1 213 from by decide +kernel) rfl (am_recv_ok hS247.fs) rfl rfl ?_
            refine am_e2 (v := 39) hi_213_0 rfl ?_
            refine am_e0 hi_213_1 ?_
            refine am_e1 (v := 1) hi_213_3 rfl ?_
            refine am_e1 (v := 0) hi_213_4 rfl ?_
            refine am_e0 hi_213_5 ?_
            refine am_e10 (z := 2) hi_213_6 (by decide) ?_
            refine am_e1 (v := f 4) hi_213_7 rfl ?_
            refine am_e32n (as := [.ref 39, .int 13, .int 1, .int 2, .int (f 4)]) (la := [some (.ref 39), some (.int 13), some (.int 1), some (.int 2), some (.int (f 4))]) (rest := []) hi_213_8 (am_hd0 (M := 213) (by decide) 8) (Nat.le_of_ble_eq_true rfl) (Nat.le_of_ble_eq_true rfl) (show 5 ≤ am_P0.2.2.1 189 from by decide +kernel) rfl (am_recv_ok hS247.fs) rfl rfl (ct_put (d := (d + 3)) hS247 hR248  (by show (0 : Int) ≤ (f 32).toInt; omega) (by show (f 32).toInt ≤ (63 : Int); omega) (by show (f 53).toInt ≤ (4096 : Int); omega) (by show (0 : Int) ≤ z236.toInt; omega) (by show z236.toInt ≤ (65534 : Int); omega)) ?_
            rintro v249 S250 (⟨z251, r252, g'253, hv254, hS255, hR259, h256, h257, h258⟩)
            subst hv254
            have h256_ : z251.toInt = z236.toInt + 1 := h256
            have h257_ : r252.toInt = z236.toInt := h257
            have h258_ : ∀ j, j ∉ [60, 69, 70, 71, 72, 73] → g'253 j = g'238 j := h258
            replace hS255 : MS S0 S250 (upd (upd (upd (upd (upd f 4 z245) 10 z28) 62 o13) 68 z251) 75 m15) g'253 := hS255
            have hR259_ : RJ (upd (upd (upd (upd (upd f 4 z245) 10 z28) 62 o13) 68 z251) 75 m15) g'253 (((28 : Int), (0 : Int), (0 : Int), (0 : Int), []) :: gs) bc [] 0 (z236.toNatClampNeg :: (s14.toNatClampNeg :: [])) := hR259
            show am_E _ _ _ _ [some (.ref 39), some (.int 1), some (.int 0), some (.int (f 4)), none] [.int r252] _ _
            refine am_e3 (ls' := [some (.ref 39), some (.int 1), some (.int 0), some (.int (f 4)), some (.int r252)]) hi_213_11 (Nat.le_of_ble_eq_true rfl) rfl ?_
            refine am_e2 (v := 39) hi_213_13 rfl ?_
            refine am_e7 hi_213_14 ?_
            refine mm_20 (v := .int (f 15)) hS255 hi_213_15 rfl ?_
            refine am_e0 hi_213_18 ?_
            obtain ⟨z260, hz260, tz260⟩ := am_subI (x := f 15) (y := 1) (m := (f 15).toInt) (n := (1 : Int)) rfl (by decide) (by omega) (by omega)
            refine am_e10 (z := z260) hi_213_19 hz260 ?_
            refine mm_21 (v := z260) hS255 hi_213_20 rfl (Nat.le_of_ble_eq_true rfl) ms_15 ?_
            intro S261 hS262
            replace hS262 : MS S0 S261 (upd (upd (upd (upd (upd (upd f 4 z245) 10 z28) 15 z260) 62 o13) 68 z251) 75 m15) g'253 := hS262
            have hp263 : mj_n (g'16 16) (f 15).toNatClampNeg 3 = mj_n (g'16 16) z260.toNatClampNeg 3 + if (g'16 16 z260.toNatClampNeg).toInt = 3 then 1 else 0 := mj_pop (by rw [cl_toNat, cl_toNat]; omega)
            have hp2631 : mj_n (g'16 16) z260.toNatClampNeg 3 ≤ mj_n (g'16 16) (f 15).toNatClampNeg 3 := by rw [hp263]; split <;> omega
            have hp2632 : (g'16 16 z260.toNatClampNeg).toInt = 3 → mj_n (g'16 16) z260.toNatClampNeg 3 + 1 ≤ mj_n (g'16 16) (f 15).toNatClampNeg 3 := fun q => by rw [hp263, if_pos q]; exact Int.le_refl _
            refine am_e2 (v := 39) hi_213_23 rfl ?_
            refine am_e0 hi_213_24 ?_
            refine am_e1 (v := r252) hi_213_25 rfl ?_
            refine am_e1 (v := f 4) hi_213_27 rfl ?_
            refine am_e32n (as := [.ref 39, .int 1, .int r252, .int (f 4)]) (la := [some (.ref 39), some (.int 1), some (.int r252), some (.int (f 4))]) (rest := []) hi_213_28 (am_hd0 (M := 213) (by decide) 28) (Nat.le_of_ble_eq_true rfl) (Nat.le_of_ble_eq_true rfl) (show 4 ≤ am_P0.2.2.1 190 from by decide +kernel) rfl (am_recv_ok hS262.fs) rfl rfl (ct_value (d := (d + 3)) hS262 hR259_ (fun h => absurd h (by decide)) (fun _ => ⟨by omega, by omega⟩) (by show (0 : Int) ≤ z260.toInt; omega) (by show z260.toInt ≤ (32767 : Int); omega)) ?_
            rintro v264 S265 (⟨z266, g'267, hv268, hS269, hR274, h270, h271, h272, h273⟩)
            subst hv268
            have h270_ : z266.toInt = z260.toInt + 1 := h270
            have h271_ : ∀ j, j ∉ [16, 17, 18] → g'267 j = g'253 j := h271
            have h272_ : mj_n (g'267 16) z266.toNatClampNeg 3 ≤ mj_n (g'16 16) z260.toNatClampNeg 3 + 1 := by rw [show g'253 16 = g'238 16 from h258_ 16 (by decide), show g'238 16 = g'29 16 from h243_ 16 (by decide), show g'29 16 = g'16 16 from h33_ 16 (by decide)] at h272; exact h272
            have h273_ : (1 : Int) = 3 ∨ mj_n (g'267 16) z266.toNatClampNeg 3 ≤ mj_n (g'16 16) z260.toNatClampNeg 3 := by rw [show g'253 16 = g'238 16 from h258_ 16 (by decide), show g'238 16 = g'29 16 from h243_ 16 (by decide), show g'29 16 = g'16 16 from h33_ 16 (by decide)] at h273; exact h273
            replace hS269 : MS S0 S265 (upd (upd (upd (upd (upd (upd f 4 z245) 10 z28) 15 z266) 62 o13) 68 z251) 75 m15) g'267 := hS269
            have hR274_ : RJ (upd (upd (upd (upd (upd (upd f 4 z245) 10 z28) 15 z266) 62 o13) 68 z251) 75 m15) g'267 (((28 : Int), (0 : Int), (0 : Int), (0 : Int), []) :: gs) bc [] 0 (z236.toNatClampNeg :: (s14.toNatClampNeg :: [])) := hR274
            show am_E _ _ _ _ [some (.ref 39), some (.int 1), some (.int 0), some (.int (f 4)), some (.int r252)] [] _ _
            refine am_e35 hi_213_31 ?_
            show am_E _ _ _ _ [some (.ref 39), some (.int 0), some (.int (f 4))] [] _ _
            refine am_e18 hi_212_49 ?_
            refine am_e35 hi_212_125 ?_
            show am_E _ _ _ _ [some (.ref 39), some (.int r2), some (.int (f 4)), none] [] _ _
            refine am_e35 hi_211_249 ?_
            show am_E _ _ _ _ [some (.ref 39), some (.int 28), some (.int on), some (.int tw)] [] _ _
            refine am_e18 hi_181_180 ?_
            refine am_e35 hi_181_397 ?_
            show am_E _ _ _ _ [some (.ref 39), some (.int 28), some (.int on), some (.int tw), some (.int th)] [] _ _
            refine am_e35 hi_180_13 ?_
            have q1 : mg_p1 (((28 : Int), (0 : Int), (0 : Int), (0 : Int), []) :: gs) = 0 + (mg_p1 gs) := rfl
            have q2 : mg_p2 (((28 : Int), (0 : Int), (0 : Int), (0 : Int), []) :: gs) = 0 + (mg_p2 gs) := rfl
            have q3 : mg_p3 (((28 : Int), (0 : Int), (0 : Int), (0 : Int), []) :: gs) = 1 + (mg_p3 gs) := rfl
            have q4 : mg_p4 (((28 : Int), (0 : Int), (0 : Int), (0 : Int), []) :: gs) = 0 + (mg_p4 gs) := rfl
            refine ⟨_, _, _, bc, rfl, hS269, Or.inl ⟨⟨(RJ.fewer (pj' := []) hR274_ (fun _ h => nomatch h)), ?_, ?_⟩, rfl, ?_⟩⟩
            · exact (⟨⟨(show mg_k 28 from by decide), (show (1 : Int) ≤ z266.toInt from by omega), (show 0 ≤ (f 20).toInt from by omega), (show 1 ≤ (f 37).toInt from by omega), (show 0 ≤ (f 32).toInt from by omega), (show (f 32).toInt ≤ (f 5).toInt from by omega), (show (f 5).toInt ≤ 48 from by omega), (show (f 37).toInt ≤ 2 * ((f 5).toInt) + 2 from by omega), trivial⟩, mg_cast (mg_good_ext _ _ _ _ _ _ (fun i _ => by show g'267 34 i = g 34 i; rw [show g'267 34 = g'253 34 from h271_ 34 (by decide), show g'253 34 = g'238 34 from h258_ 34 (by decide), show g'238 34 = g'29 34 from h243_ 34 (by decide), show g'29 34 = g'16 34 from h33_ 34 (by decide), show g'16 34 = g 34 from h24_ 34 (by decide)]) (fun i _ => by show g'267 38 i = g 38 i; rw [show g'267 38 = g'253 38 from h271_ 38 (by decide), show g'253 38 = g'238 38 from h258_ 38 (by decide), show g'238 38 = g'29 38 from h243_ 38 (by decide), show g'29 38 = g'16 38 from h33_ 38 (by decide), show g'16 38 = g 38 from h24_ 38 (by decide)]) (fun i _ => by show g'267 23 i = g 23 i; rw [show g'267 23 = g'253 23 from h271_ 23 (by decide), show g'253 23 = g'238 23 from h258_ 23 (by decide), show g'238 23 = g'29 23 from h243_ 23 (by decide), show g'29 23 = g'16 23 from h33_ 23 (by decide), show g'16 23 = g 23 from h24_ 23 (by decide)]) hrest) (by show (f 15).toInt + 0 = z266.toInt + 0; omega) (by show (f 20).toInt = (f 20).toInt; omega) (by show (f 37).toInt + 0 = (f 37).toInt + 0; omega) (by show (f 32).toInt + 0 = (f 32).toInt + 0; omega) (by show (f 5).toInt + 0 = (f 5).toInt + 0; omega)⟩ : mg_good (g'267 34) (g'267 38) (g'267 23) (((28 : Int), (0 : Int), (0 : Int), (0 : Int), []) :: gs) (z266.toInt) ((f 20).toInt) ((f 37).toInt) ((f 32).toInt) ((f 5).toInt))
            · exact ⟨(by show 0 ≤ z245.toInt; omega), (by show z245.toInt ≤ (f 0).toInt; omega), (by show (f 0).toInt ≤ 512; omega), (by show 0 ≤ (f 24).toInt; omega), (by show (f 24).toInt + (f 20).toInt + mg_p1 (((28 : Int), (0 : Int), (0 : Int), (0 : Int), []) :: gs) ≤ 4 * z245.toInt; omega), (by show (f 20).toInt ≤ z245.toInt; omega), (by show z266.toInt + mg_p2 (((28 : Int), (0 : Int), (0 : Int), (0 : Int), []) :: gs) ≤ z245.toInt; omega), (by show mg_p3 (((28 : Int), (0 : Int), (0 : Int), (0 : Int), []) :: gs) ≤ 20 * z245.toInt + 20; omega), (by show 0 ≤ z251.toInt; omega), (by show z251.toInt + 3 * (f 20).toInt + mg_p4 (((28 : Int), (0 : Int), (0 : Int), (0 : Int), []) :: gs) ≤ 60 * z245.toInt + 60; omega), (by show 0 ≤ o13.toInt; omega), (by show o13.toInt + 64 * mj_n (g'267 16) z266.toNatClampNeg 3 ≤ 64 * z245.toInt; omega), (by show 0 ≤ (f 44).toInt; omega), (by show (f 44).toInt ≤ z245.toInt; omega), (by show 0 ≤ (f 48).toInt; omega), (by show (f 48).toInt ≤ z245.toInt; omega), (by show 1 ≤ (f 53).toInt; omega), (by show (f 53).toInt ≤ z245.toInt + 1; omega), (by show 0 ≤ (f 19).toInt; omega), (by show (f 19).toInt ≤ 600; omega)⟩
            · show 100 * ((f 0).toInt - z245.toInt) + mg_p3 (((28 : Int), (0 : Int), (0 : Int), (0 : Int), []) :: gs) < 100 * ((f 0).toInt - (f 4).toInt) + (1 + mg_p3 gs); omega
        · refine am_e13f hi_211_217 (am_cF (m := r2.toInt) (n := (60 : Int)) rfl (by decide) c10) ?_
          refine am_e1 (v := r2) hi_211_220 rfl ?_
          refine am_e0 hi_211_221 ?_
          by_cases c275 : r2.toInt = (3 : Int)
          · refine am_e13t hi_211_222 (am_cT (m := r2.toInt) (n := (3 : Int)) rfl (by decide) c275) ?_
            refine am_e2 (v := 39) hi_211_231 rfl ?_
            refine am_e32n (as := [.ref 39]) (la := [some (.ref 39), none, none, none]) (rest := []) hi_211_232 (am_hd0 (M := 211) (by decide) 232) (Nat.le_of_ble_eq_true rfl) (Nat.le_of_ble_eq_true rfl) (show 1 ≤ am_P0.2.2.1 204 from by decide +kernel) rfl (am_recv_ok hS4.fs) rfl rfl (ct_load (d := (d + 3)) hS4 hR  (by show (0 : Int) ≤ (f 32).toInt; omega) (by show (f 32).toInt ≤ (63 : Int); omega) (by show (f 53).toInt ≤ (4096 : Int); omega) (by show (0 : Int) ≤ (f 68).toInt; omega) (by show (f 68).toInt ≤ (65534 : Int); omega) (by show (1 : Int) ≤ (f 15).toInt; omega) (by show (f 15).toInt ≤ (32767 : Int); omega) (by show (0 : Int) ≤ (f 24).toInt; omega) (by show (f 24).toInt ≤ (16384 : Int); omega) (by show (0 : Int) ≤ (f 62).toInt; omega) (by show (f 62).toInt ≤ (65000 : Int); omega)) ?_
            rintro v276 S277 (⟨o278, s279, m280, g'281, hv282, hS283, hR290, h284, h285, h286, h287, h288, h289⟩)
            subst hv282
            have h284_ : (f 62).toInt ≤ o278.toInt := h284
            have h285_ : o278.toInt ≤ (f 62).toInt + 64 := h285
            have h286_ : (f 68).toInt ≤ s279.toInt := h286
            have h287_ : s279.toInt ≤ (f 68).toInt + 1 := h287
            have h288_ : o278.toInt + 64 * mj_n (g'281 16) (f 15).toNatClampNeg 3 ≤ (f 62).toInt + 64 * mj_n (g 16) (f 15).toNatClampNeg 3 := h288
            have h289_ : ∀ j, j ∉ [16, 60, 63, 64, 65, 66, 67, 69, 70, 71, 72, 73] → g'281 j = g j := h289
            have hR290_ : RJ (upd (upd (upd f 62 o278) 68 s279) 75 m280) g'281 gs bc [] 0 [] := hR290
            show am_E _ _ _ _ [some (.ref 39), some (.int r2), some (.int (f 4)), none] [] _ _
            refine am_e2 (v := 39) hi_211_235 rfl ?_
            refine am_e0 hi_211_236 ?_
            refine am_e0 hi_211_238 ?_
            refine am_e0 hi_211_239 ?_
            refine am_e0 hi_211_240 ?_
            refine am_e32n (as := [.ref 39, .int 28, .int 0, .int 0, .int 0]) (la := [some (.ref 39), some (.int 28), some (.int 0), some (.int 0), some (.int 0)]) (rest := []) hi_211_241 (am_hd0 (M := 211) (by decide) 241) (Nat.le_of_ble_eq_true rfl) (Nat.le_of_ble_eq_true rfl) (show 5 ≤ am_P0.2.2.1 179 from by decide +kernel) rfl (am_recv_ok hS283.fs) rfl rfl (ct_pile (d := (d + 5)) hS283 hR290_ (mj_e_plain (by decide)) (by show (0 : Int) ≤ (f 10).toInt; omega) (by show (f 10).toInt ≤ (65535 : Int); omega)) ?_
            rintro v291 S292 (⟨z293, g'294, hv295, hS296, hR299, h297, h298⟩)
            subst hv295
            have h297_ : z293.toInt = (f 10).toInt + 1 := h297
            have h298_ : ∀ j, j ∉ [11, 12, 13, 14] → g'294 j = g'281 j := h298
            replace hS296 : MS S0 S292 (upd (upd (upd (upd f 10 z293) 62 o278) 68 s279) 75 m280) g'294 := hS296
            have hR299_ : RJ (upd (upd (upd (upd f 10 z293) 62 o278) 68 s279) 75 m280) g'294 (((28 : Int), (0 : Int), (0 : Int), (0 : Int), []) :: gs) bc [] 0 [] := hR299
            show am_E _ _ _ _ [some (.ref 39), some (.int r2), some (.int (f 4)), none] [] _ _
            refine am_e2 (v := 39) hi_211_244 rfl ?_
            refine am_e0 hi_211_245 ?_
            refine am_e32w (as := [.ref 39, .int 0]) (la := [some (.ref 39), some (.int 0), none]) (rest := []) hi_211_246 (am_hd0 (M := 211) (by decide) 246) (Nat.le_of_ble_eq_true rfl) (Nat.le_of_ble_eq_true rfl) (show 2 ≤ am_P0.2.2.1 212 from by decide +kernel) rfl (am_recv_ok hS296.fs) rfl rfl ?_
            refine am_e2 (v := 39) hi_212_0 rfl ?_
            refine mm_20 (v := .int (f 4)) hS296 hi_212_1 rfl ?_
            refine am_e3 (ls' := [some (.ref 39), some (.int 0), some (.int (f 4))]) hi_212_4 (Nat.le_of_ble_eq_true rfl) rfl ?_
            refine am_e2 (v := 39) hi_212_5 rfl ?_
            refine am_e32n (as := [.ref 39]) (la := [some (.ref 39)]) (rest := []) hi_212_6 (am_hd0 (M := 212) (by decide) 6) (Nat.le_of_ble_eq_true rfl) (Nat.le_of_ble_eq_true rfl) (show 1 ≤ am_P0.2.2.1 183 from by decide +kernel) rfl (am_recv_ok hS296.fs) rfl rfl (ct_next (d := (d + 3)) hS296   (by show (0 : Int) ≤ (f 4).toInt; omega) (by show (f 0).toInt ≤ (16384 : Int); omega)) ?_
            rintro v300 S301 (⟨r302, hv303, hS304, h305⟩)
            subst hv303
            have h305_ : (f 4).toInt < (f 0).toInt ∨ r302.toInt = (-1 : Int) := h305
            show am_E _ _ _ _ [some (.ref 39), some (.int 0), some (.int (f 4))] [.int r302] _ _
            refine am_e0 hi_212_9 ?_
            by_cases c307 : ¬ r302.toInt = (3 : Int)
            · refine am_e13t hi_212_10 (am_cT (m := r302.toInt) (n := (3 : Int)) rfl (by decide) c307) ?_
              refine am_e2 (v := 39) hi_212_52 rfl ?_
              refine am_e32n (as := [.ref 39]) (la := [some (.ref 39)]) (rest := []) hi_212_53 (am_hd0 (M := 212) (by decide) 53) (Nat.le_of_ble_eq_true rfl) (Nat.le_of_ble_eq_true rfl) (show 1 ≤ am_P0.2.2.1 183 from by decide +kernel) rfl (am_recv_ok hS304.fs) rfl rfl (ct_next (d := (d + 3)) hS304   (by show (0 : Int) ≤ (f 4).toInt; omega) (by show (f 0).toInt ≤ (16384 : Int); omega)) ?_
              rintro v308 S309 (⟨r310, hv311, hS312, h313⟩)
              subst hv311
              have h313_ : (f 4).toInt < (f 0).toInt ∨ r310.toInt = (-1 : Int) := h313
              show am_E _ _ _ _ [some (.ref 39), some (.int 0), some (.int (f 4))] [.int r310] _ _
              refine am_e0 hi_212_56 ?_
              by_cases c315 : ¬ r310.toInt = (62 : Int)
              · refine am_e13t hi_212_58 (am_cT (m := r310.toInt) (n := (62 : Int)) rfl (by decide) c315) ?_
                refine am_e2 (v := 39) hi_212_77 rfl ?_
                refine am_e0 hi_212_78 ?_
                refine am_e32n (as := [.ref 39, .int 60]) (la := [some (.ref 39), some (.int 60)]) (rest := []) hi_212_80 (am_hd0 (M := 212) (by decide) 80) (Nat.le_of_ble_eq_true rfl) (Nat.le_of_ble_eq_true rfl) (show 2 ≤ am_P0.2.2.1 193 from by decide +kernel) rfl (am_recv_ok hS312.fs) rfl rfl (ct_enter (d := (d + 2)) hS312   (by show (0 : Int) ≤ (f 4).toInt; omega) (by show (f 0).toInt ≤ (16384 : Int); omega) (by show (0 : Int) ≤ (60 : Int); omega) (by show (0 : Int) ≤ (f 5).toInt; omega) (by show (f 5).toInt ≤ (48 : Int); omega)) ?_
                rintro v316 S317 (⟨z318, y319, hv320, hS321, h322, h323, h324, h325⟩ | ⟨a327, b328, hv329, hS330⟩)
                · subst hv320
                  have h322_ : z318.toInt = (f 4).toInt + 1 := h322
                  have h323_ : (f 4).toInt < (f 0).toInt := h323
                  have h324_ : y319.toInt = (f 5).toInt + 1 := h324
                  have h325_ : y319.toInt ≤ (48 : Int) := h325
                  replace hS321 : MS S0 S317 (upd (upd (upd (upd (upd (upd f 4 z318) 5 y319) 10 z293) 62 o278) 68 s279) 75 m280) g'294 := hS321
                  have hR332 : RJ (upd (upd (upd (upd (upd (upd f 4 z318) 5 y319) 10 z293) 62 o278) 68 s279) 75 m280) g'294 (((28 : Int), (0 : Int), (0 : Int), (0 : Int), []) :: gs) bc [] 0 [] := RJ.at hR299_ (by show (f 4).toInt ≤ z318.toInt; omega)
                  show am_E _ _ _ _ [some (.ref 39), some (.int 0), some (.int (f 4))] [.int 1] _ _
                  refine am_e12f hi_212_83 (by decide) ?_
                  refine am_e2 (v := 39) hi_212_86 rfl ?_
                  refine am_e32n (as := [.ref 39]) (la := [some (.ref 39)]) (rest := []) hi_212_87 (am_hd0 (M := 212) (by decide) 87) (Nat.le_of_ble_eq_true rfl) (Nat.le_of_ble_eq_true rfl) (show 1 ≤ am_P0.2.2.1 183 from by decide +kernel) rfl (am_recv_ok hS321.fs) rfl rfl (ct_next (d := (d + 3)) hS321   (by show (0 : Int) ≤ z318.toInt; omega) (by show (f 0).toInt ≤ (16384 : Int); omega)) ?_
                  rintro v333 S334 (⟨r335, hv336, hS337, h338⟩)
                  subst hv336
                  have h338_ : z318.toInt < (f 0).toInt ∨ r335.toInt = (-1 : Int) := h338
                  show am_E _ _ _ _ [some (.ref 39), some (.int 0), some (.int (f 4))] [.int r335] _ _
                  refine am_e0 hi_212_90 ?_
                  by_cases c340 : ¬ r335.toInt = (61 : Int)
                  · refine am_e13t hi_212_92 (am_cT (m := r335.toInt) (n := (61 : Int)) rfl (by decide) c340) ?_
                    refine am_e2 (v := 39) hi_212_112 rfl ?_
                    refine am_e0 hi_212_113 ?_
                    refine am_e1 (v := 0) hi_212_115 rfl ?_
                    refine am_e1 (v := f 4) hi_212_116 rfl ?_
                    refine am_e0 hi_212_117 ?_
                    refine am_e32n (as := [.ref 39, .int 32, .int 0, .int (f 4), .int 0]) (la := [some (.ref 39), some (.int 32), some (.int 0), some (.int (f 4)), some (.int 0)]) (rest := []) hi_212_118 (am_hd0 (M := 212) (by decide) 118) (Nat.le_of_ble_eq_true rfl) (Nat.le_of_ble_eq_true rfl) (show 5 ≤ am_P0.2.2.1 179 from by decide +kernel) rfl (am_recv_ok hS337.fs) rfl rfl (ct_pile (d := (d + 4)) hS337 hR332 (mj_e_plain (by decide)) (by show (0 : Int) ≤ z293.toInt; omega) (by show z293.toInt ≤ (65535 : Int); omega)) ?_
                    rintro v341 S342 (⟨z343, g'344, hv345, hS346, hR349, h347, h348⟩)
                    subst hv345
                    have h347_ : z343.toInt = z293.toInt + 1 := h347
                    have h348_ : ∀ j, j ∉ [11, 12, 13, 14] → g'344 j = g'294 j := h348
                    replace hS346 : MS S0 S342 (upd (upd (upd (upd (upd (upd f 4 z318) 5 y319) 10 z343) 62 o278) 68 s279) 75 m280) g'344 := hS346
                    have hR349_ : RJ (upd (upd (upd (upd (upd (upd f 4 z318) 5 y319) 10 z343) 62 o278) 68 s279) 75 m280) g'344 (((32 : Int), (0 : Int), (f 4).toInt, (0 : Int), []) :: (((28 : Int), (0 : Int), (0 : Int), (0 : Int), []) :: gs)) bc [] 0 [] := hR349
                    show am_E _ _ _ _ [some (.ref 39), some (.int 0), some (.int (f 4))] [] _ _
                    refine am_e2 (v := 39) hi_212_121 rfl ?_
                    refine am_e32w (as := [.ref 39]) (la := [some (.ref 39)]) (rest := []) hi_212_122 (am_hd0 (M := 212) (by decide) 122) (Nat.le_of_ble_eq_true rfl) (Nat.le_of_ble_eq_true rfl) (show 1 ≤ am_P0.2.2.1 214 from by decide +kernel) rfl (am_recv_ok hS346.fs) rfl rfl ?_
                    refine am_e2 (v := 39) hi_214_0 rfl ?_
                    refine am_e0 hi_214_1 ?_
                    refine am_e0 hi_214_3 ?_
                    refine am_e0 hi_214_4 ?_
                    refine am_e0 hi_214_5 ?_
                    refine am_e32n (as := [.ref 39, .int 34, .int 1, .int 0, .int 0]) (la := [some (.ref 39), some (.int 34), some (.int 1), some (.int 0), some (.int 0)]) (rest := []) hi_214_6 (am_hd0 (M := 214) (by decide) 6) (Nat.le_of_ble_eq_true rfl) (Nat.le_of_ble_eq_true rfl) (show 5 ≤ am_P0.2.2.1 179 from by decide +kernel) rfl (am_recv_ok hS346.fs) rfl rfl (ct_pile (d := (d + 3)) hS346 hR349_ (mj_e_plain (by decide)) (by show (0 : Int) ≤ z343.toInt; omega) (by show z343.toInt ≤ (65535 : Int); omega)) ?_
                    rintro v350 S351 (⟨z352, g'353, hv354, hS355, hR358, h356, h357⟩)
                    subst hv354
                    have h356_ : z352.toInt = z343.toInt + 1 := h356
                    have h357_ : ∀ j, j ∉ [11, 12, 13, 14] → g'353 j = g'344 j := h357
                    replace hS355 : MS S0 S351 (upd (upd (upd (upd (upd (upd f 4 z318) 5 y319) 10 z352) 62 o278) 68 s279) 75 m280) g'353 := hS355
                    have hR358_ : RJ (upd (upd (upd (upd (upd (upd f 4 z318) 5 y319) 10 z352) 62 o278) 68 s279) 75 m280) g'353 (((34 : Int), (1 : Int), (0 : Int), (0 : Int), []) :: (((32 : Int), (0 : Int), (f 4).toInt, (0 : Int), []) :: (((28 : Int), (0 : Int), (0 : Int), (0 : Int), []) :: gs))) bc [] 0 [] := hR358
                    show am_E _ _ _ _ [some (.ref 39)] [] _ _
                    refine am_e2 (v := 39) hi_214_9 rfl ?_
                    refine am_e0 hi_214_10 ?_
                    refine am_e32w (as := [.ref 39, .int 0]) (la := [some (.ref 39), some (.int 0)]) (rest := []) hi_214_11 (am_hd0 (M := 214) (by decide) 11) (Nat.le_of_ble_eq_true rfl) (Nat.le_of_ble_eq_true rfl) (show 2 ≤ am_P0.2.2.1 186 from by decide +kernel) rfl (am_recv_ok hS355.fs) rfl rfl ?_
                    refine am_e2 (v := 39) hi_186_0 rfl ?_
                    refine am_e0 hi_186_1 ?_
                    refine am_e1 (v := 0) hi_186_3 rfl ?_
                    refine am_e0 hi_186_4 ?_
                    refine am_e0 hi_186_5 ?_
                    refine am_e32n (as := [.ref 39, .int 23, .int 0, .int 0, .int 0]) (la := [some (.ref 39), some (.int 23), some (.int 0), some (.int 0), some (.int 0)]) (rest := []) hi_186_6 (am_hd0 (M := 186) (by decide) 6) (Nat.le_of_ble_eq_true rfl) (Nat.le_of_ble_eq_true rfl) (show 5 ≤ am_P0.2.2.1 179 from by decide +kernel) rfl (am_recv_ok hS355.fs) rfl rfl (ct_pile (d := (d + 2)) hS355 hR358_ (mj_e_plain (by decide)) (by show (0 : Int) ≤ z352.toInt; omega) (by show z352.toInt ≤ (65535 : Int); omega)) ?_
                    rintro v359 S360 (⟨z361, g'362, hv363, hS364, hR367, h365, h366⟩)
                    subst hv363
                    have h365_ : z361.toInt = z352.toInt + 1 := h365
                    have h366_ : ∀ j, j ∉ [11, 12, 13, 14] → g'362 j = g'353 j := h366
                    replace hS364 : MS S0 S360 (upd (upd (upd (upd (upd (upd f 4 z318) 5 y319) 10 z361) 62 o278) 68 s279) 75 m280) g'362 := hS364
                    have hR367_ : RJ (upd (upd (upd (upd (upd (upd f 4 z318) 5 y319) 10 z361) 62 o278) 68 s279) 75 m280) g'362 (((23 : Int), (0 : Int), (0 : Int), (0 : Int), []) :: (((34 : Int), (1 : Int), (0 : Int), (0 : Int), []) :: (((32 : Int), (0 : Int), (f 4).toInt, (0 : Int), []) :: (((28 : Int), (0 : Int), (0 : Int), (0 : Int), []) :: gs)))) bc [] 0 [] := hR367
                    show am_E _ _ _ _ [some (.ref 39), some (.int 0)] [] _ _
                    refine am_e35 hi_186_9 ?_
                    show am_E _ _ _ _ [some (.ref 39)] [] _ _
                    refine am_e35 hi_214_14 ?_
                    show am_E _ _ _ _ [some (.ref 39), some (.int 0), some (.int (f 4))] [] _ _
                    refine am_e35 hi_212_125 ?_
                    show am_E _ _ _ _ [some (.ref 39), some (.int r2), some (.int (f 4)), none] [] _ _
                    refine am_e35 hi_211_249 ?_
                    show am_E _ _ _ _ [some (.ref 39), some (.int 28), some (.int on), some (.int tw)] [] _ _
                    refine am_e18 hi_181_180 ?_
                    refine am_e35 hi_181_397 ?_
                    show am_E _ _ _ _ [some (.ref 39), some (.int 28), some (.int on), some (.int tw), some (.int th)] [] _ _
                    refine am_e35 hi_180_13 ?_
                    have q1 : mg_p1 (((23 : Int), (0 : Int), (0 : Int), (0 : Int), []) :: (((34 : Int), (1 : Int), (0 : Int), (0 : Int), []) :: (((32 : Int), (0 : Int), (f 4).toInt, (0 : Int), []) :: (((28 : Int), (0 : Int), (0 : Int), (0 : Int), []) :: gs)))) = 0 + (0 + (0 + (0 + (mg_p1 gs)))) := rfl
                    have q2 : mg_p2 (((23 : Int), (0 : Int), (0 : Int), (0 : Int), []) :: (((34 : Int), (1 : Int), (0 : Int), (0 : Int), []) :: (((32 : Int), (0 : Int), (f 4).toInt, (0 : Int), []) :: (((28 : Int), (0 : Int), (0 : Int), (0 : Int), []) :: gs)))) = 0 + (((1 : Int) - 1) + (0 + (0 + (mg_p2 gs)))) := rfl
                    have q3 : mg_p3 (((23 : Int), (0 : Int), (0 : Int), (0 : Int), []) :: (((34 : Int), (1 : Int), (0 : Int), (0 : Int), []) :: (((32 : Int), (0 : Int), (f 4).toInt, (0 : Int), []) :: (((28 : Int), (0 : Int), (0 : Int), (0 : Int), []) :: gs)))) = 1 + (1 + (1 + (1 + (mg_p3 gs)))) := rfl
                    have q4 : mg_p4 (((23 : Int), (0 : Int), (0 : Int), (0 : Int), []) :: (((34 : Int), (1 : Int), (0 : Int), (0 : Int), []) :: (((32 : Int), (0 : Int), (f 4).toInt, (0 : Int), []) :: (((28 : Int), (0 : Int), (0 : Int), (0 : Int), []) :: gs)))) = 0 + (0 + (0 + (0 + (mg_p4 gs)))) := rfl
                    refine ⟨_, _, _, bc, rfl, hS364, Or.inl ⟨⟨hR367_, ?_, ?_⟩, rfl, ?_⟩⟩
                    · exact (⟨⟨(show mg_k 23 from by decide), (show (0 : Int) ≤ (f 15).toInt from by omega), (show 0 ≤ (f 20).toInt from by omega), (show 1 ≤ (f 37).toInt from by omega), (show 0 ≤ (f 32).toInt from by omega), (show (f 32).toInt ≤ y319.toInt from by omega), (show y319.toInt ≤ 48 from by omega), (show (f 37).toInt ≤ 2 * (y319.toInt) + 2 from by omega), (show 0 ≤ (0 : Int) from by omega)⟩, ⟨⟨(show mg_k 34 from by decide), (show (1 : Int) ≤ (f 15).toInt + 1 from by omega), (show 0 ≤ (f 20).toInt from by omega), (show 1 ≤ (f 37).toInt + 0 from by omega), (show 0 ≤ (f 32).toInt + 0 from by omega), (show (f 32).toInt + 0 ≤ y319.toInt + 0 from by omega), (show y319.toInt + 0 ≤ 48 from by omega), (show (f 37).toInt + 0 ≤ 2 * (y319.toInt + 0) + 2 from by omega), (show 1 ≤ (1 : Int) from by omega)⟩, ⟨⟨(show mg_k 32 from by decide), (show (2 : Int) ≤ (f 15).toInt + 1 + 0 from by omega), (show 0 ≤ (f 20).toInt from by omega), (show 1 ≤ (f 37).toInt + 0 + 0 from by omega), (show 0 ≤ (f 32).toInt + 0 + 0 from by omega), (show (f 32).toInt + 0 + 0 ≤ y319.toInt + 0 + 0 from by omega), (show y319.toInt + 0 + 0 ≤ 48 from by omega), (show (f 37).toInt + 0 + 0 ≤ 2 * (y319.toInt + 0 + 0) + 2 from by omega), trivial⟩, ⟨⟨(show mg_k 28 from by decide), (show (1 : Int) ≤ (f 15).toInt + 1 + 0 + -1 from by omega), (show 0 ≤ (f 20).toInt from by omega), (show 1 ≤ (f 37).toInt + 0 + 0 + 0 from by omega), (show 0 ≤ (f 32).toInt + 0 + 0 + 0 from by omega), (show (f 32).toInt + 0 + 0 + 0 ≤ y319.toInt + 0 + 0 + -1 from by omega), (show y319.toInt + 0 + 0 + -1 ≤ 48 from by omega), (show (f 37).toInt + 0 + 0 + 0 ≤ 2 * (y319.toInt + 0 + 0 + -1) + 2 from by omega), trivial⟩, mg_cast (mg_good_ext _ _ _ _ _ _ (fun i _ => by show g'362 34 i = g 34 i; rw [show g'362 34 = g'353 34 from h366_ 34 (by decide), show g'353 34 = g'344 34 from h357_ 34 (by decide), show g'344 34 = g'294 34 from h348_ 34 (by decide), show g'294 34 = g'281 34 from h298_ 34 (by decide), show g'281 34 = g 34 from h289_ 34 (by decide)]) (fun i _ => by show g'362 38 i = g 38 i; rw [show g'362 38 = g'353 38 from h366_ 38 (by decide), show g'353 38 = g'344 38 from h357_ 38 (by decide), show g'344 38 = g'294 38 from h348_ 38 (by decide), show g'294 38 = g'281 38 from h298_ 38 (by decide), show g'281 38 = g 38 from h289_ 38 (by decide)]) (fun i _ => by show g'362 23 i = g 23 i; rw [show g'362 23 = g'353 23 from h366_ 23 (by decide), show g'353 23 = g'344 23 from h357_ 23 (by decide), show g'344 23 = g'294 23 from h348_ 23 (by decide), show g'294 23 = g'281 23 from h298_ 23 (by decide), show g'281 23 = g 23 from h289_ 23 (by decide)]) hrest) (by show (f 15).toInt + 0 = (f 15).toInt + 1 + 0 + -1 + 0; omega) (by show (f 20).toInt = (f 20).toInt; omega) (by show (f 37).toInt + 0 = (f 37).toInt + 0 + 0 + 0 + 0; omega) (by show (f 32).toInt + 0 = (f 32).toInt + 0 + 0 + 0 + 0; omega) (by show (f 5).toInt + 0 = y319.toInt + 0 + 0 + -1 + 0; omega)⟩⟩⟩⟩ : mg_good (g'362 34) (g'362 38) (g'362 23) (((23 : Int), (0 : Int), (0 : Int), (0 : Int), []) :: (((34 : Int), (1 : Int), (0 : Int), (0 : Int), []) :: (((32 : Int), (0 : Int), (f 4).toInt, (0 : Int), []) :: (((28 : Int), (0 : Int), (0 : Int), (0 : Int), []) :: gs)))) ((f 15).toInt) ((f 20).toInt) ((f 37).toInt) ((f 32).toInt) (y319.toInt))
                    · exact ⟨(by show 0 ≤ z318.toInt; omega), (by show z318.toInt ≤ (f 0).toInt; omega), (by show (f 0).toInt ≤ 512; omega), (by show 0 ≤ (f 24).toInt; omega), (by show (f 24).toInt + (f 20).toInt + mg_p1 (((23 : Int), (0 : Int), (0 : Int), (0 : Int), []) :: (((34 : Int), (1 : Int), (0 : Int), (0 : Int), []) :: (((32 : Int), (0 : Int), (f 4).toInt, (0 : Int), []) :: (((28 : Int), (0 : Int), (0 : Int), (0 : Int), []) :: gs)))) ≤ 4 * z318.toInt; omega), (by show (f 20).toInt ≤ z318.toInt; omega), (by show (f 15).toInt + mg_p2 (((23 : Int), (0 : Int), (0 : Int), (0 : Int), []) :: (((34 : Int), (1 : Int), (0 : Int), (0 : Int), []) :: (((32 : Int), (0 : Int), (f 4).toInt, (0 : Int), []) :: (((28 : Int), (0 : Int), (0 : Int), (0 : Int), []) :: gs)))) ≤ z318.toInt; omega), (by show mg_p3 (((23 : Int), (0 : Int), (0 : Int), (0 : Int), []) :: (((34 : Int), (1 : Int), (0 : Int), (0 : Int), []) :: (((32 : Int), (0 : Int), (f 4).toInt, (0 : Int), []) :: (((28 : Int), (0 : Int), (0 : Int), (0 : Int), []) :: gs)))) ≤ 20 * z318.toInt + 20; omega), (by show 0 ≤ s279.toInt; omega), (by show s279.toInt + 3 * (f 20).toInt + mg_p4 (((23 : Int), (0 : Int), (0 : Int), (0 : Int), []) :: (((34 : Int), (1 : Int), (0 : Int), (0 : Int), []) :: (((32 : Int), (0 : Int), (f 4).toInt, (0 : Int), []) :: (((28 : Int), (0 : Int), (0 : Int), (0 : Int), []) :: gs)))) ≤ 60 * z318.toInt + 60; omega), (by show 0 ≤ o278.toInt; omega), (by show o278.toInt + 64 * mj_n (g'362 16) (f 15).toNatClampNeg 3 ≤ 64 * z318.toInt; rw [show g'362 16 = g'353 16 from h366_ 16 (by decide), show g'353 16 = g'344 16 from h357_ 16 (by decide), show g'344 16 = g'294 16 from h348_ 16 (by decide), show g'294 16 = g'281 16 from h298_ 16 (by decide)]; omega), (by show 0 ≤ (f 44).toInt; omega), (by show (f 44).toInt ≤ z318.toInt; omega), (by show 0 ≤ (f 48).toInt; omega), (by show (f 48).toInt ≤ z318.toInt; omega), (by show 1 ≤ (f 53).toInt; omega), (by show (f 53).toInt ≤ z318.toInt + 1; omega), (by show 0 ≤ (f 19).toInt; omega), (by show (f 19).toInt ≤ 600; omega)⟩
                    · show 100 * ((f 0).toInt - z318.toInt) + mg_p3 (((23 : Int), (0 : Int), (0 : Int), (0 : Int), []) :: (((34 : Int), (1 : Int), (0 : Int), (0 : Int), []) :: (((32 : Int), (0 : Int), (f 4).toInt, (0 : Int), []) :: (((28 : Int), (0 : Int), (0 : Int), (0 : Int), []) :: gs)))) < 100 * ((f 0).toInt - (f 4).toInt) + (1 + mg_p3 gs); omega
                  · refine am_e13f hi_212_92 (am_cF (m := r335.toInt) (n := (61 : Int)) rfl (by decide) c340) ?_
                    refine am_e2 (v := 39) hi_212_95 rfl ?_
                    refine am_e0 hi_212_96 ?_
                    refine am_e32n (as := [.ref 39, .int 61]) (la := [some (.ref 39), some (.int 61)]) (rest := []) hi_212_98 (am_hd0 (M := 212) (by decide) 98) (Nat.le_of_ble_eq_true rfl) (Nat.le_of_ble_eq_true rfl) (show 2 ≤ am_P0.2.2.1 199 from by decide +kernel) rfl (am_recv_ok hS337.fs) rfl rfl (ct_leave (d := (d + 1)) hS337   (by show (0 : Int) ≤ z318.toInt; omega) (by show (f 0).toInt ≤ (16384 : Int); omega) (by show (0 : Int) ≤ (61 : Int); omega) (by show (0 : Int) ≤ y319.toInt; omega) (by show y319.toInt ≤ (48 : Int); omega)) ?_
                    rintro v368 S369 (⟨z370, y371, hv372, hS373, h374, h375, h376⟩ | ⟨a378, b379, hv380, hS381⟩)
                    · subst hv372
                      have h374_ : z370.toInt = z318.toInt + 1 := h374
                      have h375_ : z318.toInt < (f 0).toInt := h375
                      have h376_ : y371.toInt = y319.toInt - 1 := h376
                      replace hS373 : MS S0 S369 (upd (upd (upd (upd (upd (upd f 4 z370) 5 y371) 10 z293) 62 o278) 68 s279) 75 m280) g'294 := hS373
                      have hR383 : RJ (upd (upd (upd (upd (upd (upd f 4 z370) 5 y371) 10 z293) 62 o278) 68 s279) 75 m280) g'294 (((28 : Int), (0 : Int), (0 : Int), (0 : Int), []) :: gs) bc [] 0 [] := RJ.at hR332 (by show z318.toInt ≤ z370.toInt; omega)
                      show am_E _ _ _ _ [some (.ref 39), some (.int 0), some (.int (f 4))] [.int 1] _ _
                      refine am_e6i hi_212_101 ?_
                      refine am_e2 (v := 39) hi_212_102 rfl ?_
                      refine am_e1 (v := 0) hi_212_103 rfl ?_
                      refine am_e0 hi_212_104 ?_
                      refine am_e1 (v := f 4) hi_212_105 rfl ?_
                      refine am_e32w (as := [.ref 39, .int 0, .int 0, .int (f 4)]) (la := [some (.ref 39), some (.int 0), some (.int 0), some (.int (f 4)), none]) (rest := []) hi_212_106 (am_hd0 (M := 212) (by decide) 106) (Nat.le_of_ble_eq_true rfl) (Nat.le_of_ble_eq_true rfl) (show 4 ≤ am_P0.2.2.1 213 from by decide +kernel) rfl (am_recv_ok hS373.fs) rfl rfl ?_
                      refine am_e2 (v := 39) hi_213_0 rfl ?_
                      refine am_e0 hi_213_1 ?_
                      refine am_e1 (v := 0) hi_213_3 rfl ?_
                      refine am_e1 (v := 0) hi_213_4 rfl ?_
                      refine am_e0 hi_213_5 ?_
                      refine am_e10 (z := 2) hi_213_6 (by decide) ?_
                      refine am_e1 (v := f 4) hi_213_7 rfl ?_
                      refine am_e32n (as := [.ref 39, .int 13, .int 0, .int 2, .int (f 4)]) (la := [some (.ref 39), some (.int 13), some (.int 0), some (.int 2), some (.int (f 4))]) (rest := []) hi_213_8 (am_hd0 (M := 213) (by decide) 8) (Nat.le_of_ble_eq_true rfl) (Nat.le_of_ble_eq_true rfl) (show 5 ≤ am_P0.2.2.1 189 from by decide +kernel) rfl (am_recv_ok hS373.fs) rfl rfl (ct_put (d := (d + 3)) hS373 hR383  (by show (0 : Int) ≤ (f 32).toInt; omega) (by show (f 32).toInt ≤ (63 : Int); omega) (by show (f 53).toInt ≤ (4096 : Int); omega) (by show (0 : Int) ≤ s279.toInt; omega) (by show s279.toInt ≤ (65534 : Int); omega)) ?_
                      rintro v384 S385 (⟨z386, r387, g'388, hv389, hS390, hR394, h391, h392, h393⟩)
                      subst hv389
                      have h391_ : z386.toInt = s279.toInt + 1 := h391
                      have h392_ : r387.toInt = s279.toInt := h392
                      have h393_ : ∀ j, j ∉ [60, 69, 70, 71, 72, 73] → g'388 j = g'294 j := h393
                      replace hS390 : MS S0 S385 (upd (upd (upd (upd (upd (upd f 4 z370) 5 y371) 10 z293) 62 o278) 68 z386) 75 m280) g'388 := hS390
                      have hR394_ : RJ (upd (upd (upd (upd (upd (upd f 4 z370) 5 y371) 10 z293) 62 o278) 68 z386) 75 m280) g'388 (((28 : Int), (0 : Int), (0 : Int), (0 : Int), []) :: gs) bc [] 0 (s279.toNatClampNeg :: []) := hR394
                      show am_E _ _ _ _ [some (.ref 39), some (.int 0), some (.int 0), some (.int (f 4)), none] [.int r387] _ _
                      refine am_e3 (ls' := [some (.ref 39), some (.int 0), some (.int 0), some (.int (f 4)), some (.int r387)]) hi_213_11 (Nat.le_of_ble_eq_true rfl) rfl ?_
                      refine am_e2 (v := 39) hi_213_13 rfl ?_
                      refine am_e7 hi_213_14 ?_
                      refine mm_20 (v := .int (f 15)) hS390 hi_213_15 rfl ?_
                      refine am_e0 hi_213_18 ?_
                      obtain ⟨z395, hz395, tz395⟩ := am_subI (x := f 15) (y := 1) (m := (f 15).toInt) (n := (1 : Int)) rfl (by decide) (by omega) (by omega)
                      refine am_e10 (z := z395) hi_213_19 hz395 ?_
                      refine mm_21 (v := z395) hS390 hi_213_20 rfl (Nat.le_of_ble_eq_true rfl) ms_15 ?_
                      intro S396 hS397
                      replace hS397 : MS S0 S396 (upd (upd (upd (upd (upd (upd (upd f 4 z370) 5 y371) 10 z293) 15 z395) 62 o278) 68 z386) 75 m280) g'388 := hS397
                      have hp398 : mj_n (g'281 16) (f 15).toNatClampNeg 3 = mj_n (g'281 16) z395.toNatClampNeg 3 + if (g'281 16 z395.toNatClampNeg).toInt = 3 then 1 else 0 := mj_pop (by rw [cl_toNat, cl_toNat]; omega)
                      have hp3981 : mj_n (g'281 16) z395.toNatClampNeg 3 ≤ mj_n (g'281 16) (f 15).toNatClampNeg 3 := by rw [hp398]; split <;> omega
                      have hp3982 : (g'281 16 z395.toNatClampNeg).toInt = 3 → mj_n (g'281 16) z395.toNatClampNeg 3 + 1 ≤ mj_n (g'281 16) (f 15).toNatClampNeg 3 := fun q => by rw [hp398, if_pos q]; exact Int.le_refl _
                      refine am_e2 (v := 39) hi_213_23 rfl ?_
                      refine am_e0 hi_213_24 ?_
                      refine am_e1 (v := r387) hi_213_25 rfl ?_
                      refine am_e1 (v := f 4) hi_213_27 rfl ?_
                      refine am_e32n (as := [.ref 39, .int 1, .int r387, .int (f 4)]) (la := [some (.ref 39), some (.int 1), some (.int r387), some (.int (f 4))]) (rest := []) hi_213_28 (am_hd0 (M := 213) (by decide) 28) (Nat.le_of_ble_eq_true rfl) (Nat.le_of_ble_eq_true rfl) (show 4 ≤ am_P0.2.2.1 190 from by decide +kernel) rfl (am_recv_ok hS397.fs) rfl rfl (ct_value (d := (d + 3)) hS397 hR394_ (fun h => absurd h (by decide)) (fun _ => ⟨by omega, by omega⟩) (by show (0 : Int) ≤ z395.toInt; omega) (by show z395.toInt ≤ (32767 : Int); omega)) ?_
                      rintro v399 S400 (⟨z401, g'402, hv403, hS404, hR409, h405, h406, h407, h408⟩)
                      subst hv403
                      have h405_ : z401.toInt = z395.toInt + 1 := h405
                      have h406_ : ∀ j, j ∉ [16, 17, 18] → g'402 j = g'388 j := h406
                      have h407_ : mj_n (g'402 16) z401.toNatClampNeg 3 ≤ mj_n (g'281 16) z395.toNatClampNeg 3 + 1 := by rw [show g'388 16 = g'294 16 from h393_ 16 (by decide), show g'294 16 = g'281 16 from h298_ 16 (by decide)] at h407; exact h407
                      have h408_ : (1 : Int) = 3 ∨ mj_n (g'402 16) z401.toNatClampNeg 3 ≤ mj_n (g'281 16) z395.toNatClampNeg 3 := by rw [show g'388 16 = g'294 16 from h393_ 16 (by decide), show g'294 16 = g'281 16 from h298_ 16 (by decide)] at h408; exact h408
                      replace hS404 : MS S0 S400 (upd (upd (upd (upd (upd (upd (upd f 4 z370) 5 y371) 10 z293) 15 z401) 62 o278) 68 z386) 75 m280) g'402 := hS404
                      have hR409_ : RJ (upd (upd (upd (upd (upd (upd (upd f 4 z370) 5 y371) 10 z293) 15 z401) 62 o278) 68 z386) 75 m280) g'402 (((28 : Int), (0 : Int), (0 : Int), (0 : Int), []) :: gs) bc [] 0 (s279.toNatClampNeg :: []) := hR409
                      show am_E _ _ _ _ [some (.ref 39), some (.int 0), some (.int 0), some (.int (f 4)), some (.int r387)] [] _ _
                      refine am_e35 hi_213_31 ?_
                      show am_E _ _ _ _ [some (.ref 39), some (.int 0), some (.int (f 4))] [] _ _
                      refine am_e18 hi_212_109 ?_
                      refine am_e35 hi_212_125 ?_
                      show am_E _ _ _ _ [some (.ref 39), some (.int r2), some (.int (f 4)), none] [] _ _
                      refine am_e35 hi_211_249 ?_
                      show am_E _ _ _ _ [some (.ref 39), some (.int 28), some (.int on), some (.int tw)] [] _ _
                      refine am_e18 hi_181_180 ?_
                      refine am_e35 hi_181_397 ?_
                      show am_E _ _ _ _ [some (.ref 39), some (.int 28), some (.int on), some (.int tw), some (.int th)] [] _ _
                      refine am_e35 hi_180_13 ?_
                      have q1 : mg_p1 (((28 : Int), (0 : Int), (0 : Int), (0 : Int), []) :: gs) = 0 + (mg_p1 gs) := rfl
                      have q2 : mg_p2 (((28 : Int), (0 : Int), (0 : Int), (0 : Int), []) :: gs) = 0 + (mg_p2 gs) := rfl
                      have q3 : mg_p3 (((28 : Int), (0 : Int), (0 : Int), (0 : Int), []) :: gs) = 1 + (mg_p3 gs) := rfl
                      have q4 : mg_p4 (((28 : Int), (0 : Int), (0 : Int), (0 : Int), []) :: gs) = 0 + (mg_p4 gs) := rfl
                      refine ⟨_, _, _, bc, rfl, hS404, Or.inl ⟨⟨(RJ.fewer (pj' := []) hR409_ (fun _ h => nomatch h)), ?_, ?_⟩, rfl, ?_⟩⟩
                      · exact (⟨⟨(show mg_k 28 from by decide), (show (1 : Int) ≤ z401.toInt from by omega), (show 0 ≤ (f 20).toInt from by omega), (show 1 ≤ (f 37).toInt from by omega), (show 0 ≤ (f 32).toInt from by omega), (show (f 32).toInt ≤ y371.toInt from by omega), (show y371.toInt ≤ 48 from by omega), (show (f 37).toInt ≤ 2 * (y371.toInt) + 2 from by omega), trivial⟩, mg_cast (mg_good_ext _ _ _ _ _ _ (fun i _ => by show g'402 34 i = g 34 i; rw [show g'402 34 = g'388 34 from h406_ 34 (by decide), show g'388 34 = g'294 34 from h393_ 34 (by decide), show g'294 34 = g'281 34 from h298_ 34 (by decide), show g'281 34 = g 34 from h289_ 34 (by decide)]) (fun i _ => by show g'402 38 i = g 38 i; rw [show g'402 38 = g'388 38 from h406_ 38 (by decide), show g'388 38 = g'294 38 from h393_ 38 (by decide), show g'294 38 = g'281 38 from h298_ 38 (by decide), show g'281 38 = g 38 from h289_ 38 (by decide)]) (fun i _ => by show g'402 23 i = g 23 i; rw [show g'402 23 = g'388 23 from h406_ 23 (by decide), show g'388 23 = g'294 23 from h393_ 23 (by decide), show g'294 23 = g'281 23 from h298_ 23 (by decide), show g'281 23 = g 23 from h289_ 23 (by decide)]) hrest) (by show (f 15).toInt + 0 = z401.toInt + 0; omega) (by show (f 20).toInt = (f 20).toInt; omega) (by show (f 37).toInt + 0 = (f 37).toInt + 0; omega) (by show (f 32).toInt + 0 = (f 32).toInt + 0; omega) (by show (f 5).toInt + 0 = y371.toInt + 0; omega)⟩ : mg_good (g'402 34) (g'402 38) (g'402 23) (((28 : Int), (0 : Int), (0 : Int), (0 : Int), []) :: gs) (z401.toInt) ((f 20).toInt) ((f 37).toInt) ((f 32).toInt) (y371.toInt))
                      · exact ⟨(by show 0 ≤ z370.toInt; omega), (by show z370.toInt ≤ (f 0).toInt; omega), (by show (f 0).toInt ≤ 512; omega), (by show 0 ≤ (f 24).toInt; omega), (by show (f 24).toInt + (f 20).toInt + mg_p1 (((28 : Int), (0 : Int), (0 : Int), (0 : Int), []) :: gs) ≤ 4 * z370.toInt; omega), (by show (f 20).toInt ≤ z370.toInt; omega), (by show z401.toInt + mg_p2 (((28 : Int), (0 : Int), (0 : Int), (0 : Int), []) :: gs) ≤ z370.toInt; omega), (by show mg_p3 (((28 : Int), (0 : Int), (0 : Int), (0 : Int), []) :: gs) ≤ 20 * z370.toInt + 20; omega), (by show 0 ≤ z386.toInt; omega), (by show z386.toInt + 3 * (f 20).toInt + mg_p4 (((28 : Int), (0 : Int), (0 : Int), (0 : Int), []) :: gs) ≤ 60 * z370.toInt + 60; omega), (by show 0 ≤ o278.toInt; omega), (by show o278.toInt + 64 * mj_n (g'402 16) z401.toNatClampNeg 3 ≤ 64 * z370.toInt; omega), (by show 0 ≤ (f 44).toInt; omega), (by show (f 44).toInt ≤ z370.toInt; omega), (by show 0 ≤ (f 48).toInt; omega), (by show (f 48).toInt ≤ z370.toInt; omega), (by show 1 ≤ (f 53).toInt; omega), (by show (f 53).toInt ≤ z370.toInt + 1; omega), (by show 0 ≤ (f 19).toInt; omega), (by show (f 19).toInt ≤ 600; omega)⟩
                      · show 100 * ((f 0).toInt - z370.toInt) + mg_p3 (((28 : Int), (0 : Int), (0 : Int), (0 : Int), []) :: gs) < 100 * ((f 0).toInt - (f 4).toInt) + (1 + mg_p3 gs); omega
                    · subst hv380
                      replace hS381 : MS S0 S369 (upd (upd (upd (upd (upd (upd (upd (upd f 4 z318) 5 y319) 6 a378) 7 b379) 10 0) 62 o278) 68 s279) 75 m280) g'294 := hS381
                      have hR410 := rj_clear0 hR332
                      have hR411 : RJ (upd (upd (upd (upd (upd (upd (upd (upd f 4 z318) 5 y319) 6 a378) 7 b379) 10 0) 62 o278) 68 s279) 75 m280) g'294 [] bc [] 0 [] := hR410
                      show am_E _ _ _ _ [some (.ref 39), some (.int 0), some (.int (f 4))] [.int 0] _ _
                      refine am_e6i hi_212_101 ?_
                      refine am_e2 (v := 39) hi_212_102 rfl ?_
                      refine am_e1 (v := 0) hi_212_103 rfl ?_
                      refine am_e0 hi_212_104 ?_
                      refine am_e1 (v := f 4) hi_212_105 rfl ?_
                      refine am_e32w (as := [.ref 39, .int 0, .int 0, .int (f 4)]) (la := [some (.ref 39), some (.int 0), some (.int 0), some (.int (f 4)), none]) (rest := []) hi_212_106 (am_hd0 (M := 212) (by decide) 106) (Nat.le_of_ble_eq_true rfl) (Nat.le_of_ble_eq_true rfl) (show 4 ≤ am_P0.2.2.1 213 from by decide +kernel) rfl (am_recv_ok hS381.fs) rfl rfl ?_
                      refine am_e2 (v := 39) hi_213_0 rfl ?_
                      refine am_e0 hi_213_1 ?_
                      refine am_e1 (v := 0) hi_213_3 rfl ?_
                      refine am_e1 (v := 0) hi_213_4 rfl ?_
                      refine am_e0 hi_213_5 ?_
                      refine am_e10 (z := 2) hi_213_6 (by decide) ?_
                      refine am_e1 (v := f 4) hi_213_7 rfl ?_
                      refine am_e32n (as := [.ref 39, .int 13, .int 0, .int 2, .int (f 4)]) (la := [some (.ref 39), some (.int 13), some (.int 0), some (.int 2), some (.int (f 4))]) (rest := []) hi_213_8 (am_hd0 (M := 213) (by decide) 8) (Nat.le_of_ble_eq_true rfl) (Nat.le_of_ble_eq_true rfl) (show 5 ≤ am_P0.2.2.1 189 from by decide +kernel) rfl (am_recv_ok hS381.fs) rfl rfl (ct_put (d := (d + 3)) hS381 hR411  (by show (0 : Int) ≤ (f 32).toInt; omega) (by show (f 32).toInt ≤ (63 : Int); omega) (by show (f 53).toInt ≤ (4096 : Int); omega) (by show (0 : Int) ≤ s279.toInt; omega) (by show s279.toInt ≤ (65534 : Int); omega)) ?_
                      rintro v412 S413 (⟨z414, r415, g'416, hv417, hS418, hR422, h419, h420, h421⟩)
                      subst hv417
                      have h419_ : z414.toInt = s279.toInt + 1 := h419
                      have h420_ : r415.toInt = s279.toInt := h420
                      have h421_ : ∀ j, j ∉ [60, 69, 70, 71, 72, 73] → g'416 j = g'294 j := h421
                      replace hS418 : MS S0 S413 (upd (upd (upd (upd (upd (upd (upd (upd f 4 z318) 5 y319) 6 a378) 7 b379) 10 0) 62 o278) 68 z414) 75 m280) g'416 := hS418
                      have hR422_ : RJ (upd (upd (upd (upd (upd (upd (upd (upd f 4 z318) 5 y319) 6 a378) 7 b379) 10 0) 62 o278) 68 z414) 75 m280) g'416 [] bc [] 0 (s279.toNatClampNeg :: []) := hR422
                      show am_E _ _ _ _ [some (.ref 39), some (.int 0), some (.int 0), some (.int (f 4)), none] [.int r415] _ _
                      refine am_e3 (ls' := [some (.ref 39), some (.int 0), some (.int 0), some (.int (f 4)), some (.int r415)]) hi_213_11 (Nat.le_of_ble_eq_true rfl) rfl ?_
                      refine am_e2 (v := 39) hi_213_13 rfl ?_
                      refine am_e7 hi_213_14 ?_
                      refine mm_20 (v := .int (f 15)) hS418 hi_213_15 rfl ?_
                      refine am_e0 hi_213_18 ?_
                      obtain ⟨z423, hz423, tz423⟩ := am_subI (x := f 15) (y := 1) (m := (f 15).toInt) (n := (1 : Int)) rfl (by decide) (by omega) (by omega)
                      refine am_e10 (z := z423) hi_213_19 hz423 ?_
                      refine mm_21 (v := z423) hS418 hi_213_20 rfl (Nat.le_of_ble_eq_true rfl) ms_15 ?_
                      intro S424 hS425
                      replace hS425 : MS S0 S424 (upd (upd (upd (upd (upd (upd (upd (upd (upd f 4 z318) 5 y319) 6 a378) 7 b379) 10 0) 15 z423) 62 o278) 68 z414) 75 m280) g'416 := hS425
                      have hp426 : mj_n (g'281 16) (f 15).toNatClampNeg 3 = mj_n (g'281 16) z423.toNatClampNeg 3 + if (g'281 16 z423.toNatClampNeg).toInt = 3 then 1 else 0 := mj_pop (by rw [cl_toNat, cl_toNat]; omega)
                      have hp4261 : mj_n (g'281 16) z423.toNatClampNeg 3 ≤ mj_n (g'281 16) (f 15).toNatClampNeg 3 := by rw [hp426]; split <;> omega
                      have hp4262 : (g'281 16 z423.toNatClampNeg).toInt = 3 → mj_n (g'281 16) z423.toNatClampNeg 3 + 1 ≤ mj_n (g'281 16) (f 15).toNatClampNeg 3 := fun q => by rw [hp426, if_pos q]; exact Int.le_refl _
                      refine am_e2 (v := 39) hi_213_23 rfl ?_
                      refine am_e0 hi_213_24 ?_
                      refine am_e1 (v := r415) hi_213_25 rfl ?_
                      refine am_e1 (v := f 4) hi_213_27 rfl ?_
                      refine am_e32n (as := [.ref 39, .int 1, .int r415, .int (f 4)]) (la := [some (.ref 39), some (.int 1), some (.int r415), some (.int (f 4))]) (rest := []) hi_213_28 (am_hd0 (M := 213) (by decide) 28) (Nat.le_of_ble_eq_true rfl) (Nat.le_of_ble_eq_true rfl) (show 4 ≤ am_P0.2.2.1 190 from by decide +kernel) rfl (am_recv_ok hS425.fs) rfl rfl (ct_value (d := (d + 3)) hS425 hR422_ (fun h => absurd h (by decide)) (fun _ => ⟨by omega, by omega⟩) (by show (0 : Int) ≤ z423.toInt; omega) (by show z423.toInt ≤ (32767 : Int); omega)) ?_
                      rintro v427 S428 (⟨z429, g'430, hv431, hS432, hR437, h433, h434, h435, h436⟩)
                      subst hv431
                      have h433_ : z429.toInt = z423.toInt + 1 := h433
                      have h434_ : ∀ j, j ∉ [16, 17, 18] → g'430 j = g'416 j := h434
                      have h435_ : mj_n (g'430 16) z429.toNatClampNeg 3 ≤ mj_n (g'281 16) z423.toNatClampNeg 3 + 1 := by rw [show g'416 16 = g'294 16 from h421_ 16 (by decide), show g'294 16 = g'281 16 from h298_ 16 (by decide)] at h435; exact h435
                      have h436_ : (1 : Int) = 3 ∨ mj_n (g'430 16) z429.toNatClampNeg 3 ≤ mj_n (g'281 16) z423.toNatClampNeg 3 := by rw [show g'416 16 = g'294 16 from h421_ 16 (by decide), show g'294 16 = g'281 16 from h298_ 16 (by decide)] at h436; exact h436
                      replace hS432 : MS S0 S428 (upd (upd (upd (upd (upd (upd (upd (upd (upd f 4 z318) 5 y319) 6 a378) 7 b379) 10 0) 15 z429) 62 o278) 68 z414) 75 m280) g'430 := hS432
                      have hR437_ : RJ (upd (upd (upd (upd (upd (upd (upd (upd (upd f 4 z318) 5 y319) 6 a378) 7 b379) 10 0) 15 z429) 62 o278) 68 z414) 75 m280) g'430 [] bc [] 0 (s279.toNatClampNeg :: []) := hR437
                      show am_E _ _ _ _ [some (.ref 39), some (.int 0), some (.int 0), some (.int (f 4)), some (.int r415)] [] _ _
                      refine am_e35 hi_213_31 ?_
                      show am_E _ _ _ _ [some (.ref 39), some (.int 0), some (.int (f 4))] [] _ _
                      refine am_e18 hi_212_109 ?_
                      refine am_e35 hi_212_125 ?_
                      show am_E _ _ _ _ [some (.ref 39), some (.int r2), some (.int (f 4)), none] [] _ _
                      refine am_e35 hi_211_249 ?_
                      show am_E _ _ _ _ [some (.ref 39), some (.int 28), some (.int on), some (.int tw)] [] _ _
                      refine am_e18 hi_181_180 ?_
                      refine am_e35 hi_181_397 ?_
                      show am_E _ _ _ _ [some (.ref 39), some (.int 28), some (.int on), some (.int tw), some (.int th)] [] _ _
                      refine am_e35 hi_180_13 ?_
                      have hRc := rj_clear0 hR437_
                      refine ⟨_, _, [], _, rfl, hS432, Or.inr ⟨hRc, rfl, (by show 0 ≤ z318.toInt; omega), (by show z318.toInt ≤ (f 0).toInt; omega), (by show 0 ≤ (f 32).toInt; omega), (by show (f 32).toInt ≤ 63; omega), (by show 1 ≤ (f 53).toInt; omega), (by show (f 53).toInt ≤ 600; omega), (by show 0 ≤ z414.toInt; omega), (by show z414.toInt ≤ 60000; omega), (by show 0 ≤ (f 48).toInt; omega), (by show (f 48).toInt ≤ 8000; omega), (by show 0 ≤ (f 37).toInt; omega), (by show (f 37).toInt ≤ 128; omega), (by show 0 ≤ o278.toInt; omega), (by show o278.toInt ≤ 65000; omega), (by show 0 ≤ (f 19).toInt; omega), (by show (f 19).toInt ≤ 600; omega)⟩⟩
                · subst hv329
                  replace hS330 : MS S0 S317 (upd (upd (upd (upd (upd (upd f 6 a327) 7 b328) 10 0) 62 o278) 68 s279) 75 m280) g'294 := hS330
                  have hR438 := rj_clear0 hR299_
                  have hR439 : RJ (upd (upd (upd (upd (upd (upd f 6 a327) 7 b328) 10 0) 62 o278) 68 s279) 75 m280) g'294 [] bc [] 0 [] := hR438
                  show am_E _ _ _ _ [some (.ref 39), some (.int 0), some (.int (f 4))] [.int 0] _ _
                  refine am_e12t hi_212_83 (by decide) ?_
                  refine am_e35 hi_212_125 ?_
                  show am_E _ _ _ _ [some (.ref 39), some (.int r2), some (.int (f 4)), none] [] _ _
                  refine am_e35 hi_211_249 ?_
                  show am_E _ _ _ _ [some (.ref 39), some (.int 28), some (.int on), some (.int tw)] [] _ _
                  refine am_e18 hi_181_180 ?_
                  refine am_e35 hi_181_397 ?_
                  show am_E _ _ _ _ [some (.ref 39), some (.int 28), some (.int on), some (.int tw), some (.int th)] [] _ _
                  refine am_e35 hi_180_13 ?_
                  have hRc := rj_clear0 hR439
                  refine ⟨_, _, [], _, rfl, hS330, Or.inr ⟨hRc, rfl, (by show 0 ≤ (f 4).toInt; omega), (by show (f 4).toInt ≤ (f 0).toInt; omega), (by show 0 ≤ (f 32).toInt; omega), (by show (f 32).toInt ≤ 63; omega), (by show 1 ≤ (f 53).toInt; omega), (by show (f 53).toInt ≤ 600; omega), (by show 0 ≤ s279.toInt; omega), (by show s279.toInt ≤ 60000; omega), (by show 0 ≤ (f 48).toInt; omega), (by show (f 48).toInt ≤ 8000; omega), (by show 0 ≤ (f 37).toInt; omega), (by show (f 37).toInt ≤ 128; omega), (by show 0 ≤ o278.toInt; omega), (by show o278.toInt ≤ 65000; omega), (by show 0 ≤ (f 19).toInt; omega), (by show (f 19).toInt ≤ 600; omega)⟩⟩
              · refine am_e13f hi_212_58 (am_cF (m := r310.toInt) (n := (62 : Int)) rfl (by decide) c315) ?_
                refine am_e2 (v := 39) hi_212_61 rfl ?_
                refine am_e0 hi_212_62 ?_
                refine am_e1 (v := 0) hi_212_64 rfl ?_
                refine am_e1 (v := f 4) hi_212_65 rfl ?_
                refine am_e0 hi_212_66 ?_
                refine am_e32n (as := [.ref 39, .int 33, .int 0, .int (f 4), .int 0]) (la := [some (.ref 39), some (.int 33), some (.int 0), some (.int (f 4)), some (.int 0)]) (rest := []) hi_212_67 (am_hd0 (M := 212) (by decide) 67) (Nat.le_of_ble_eq_true rfl) (Nat.le_of_ble_eq_true rfl) (show 5 ≤ am_P0.2.2.1 179 from by decide +kernel) rfl (am_recv_ok hS312.fs) rfl rfl (ct_pile (d := (d + 4)) hS312 hR299_ (mj_e_plain (by decide)) (by show (0 : Int) ≤ z293.toInt; omega) (by show z293.toInt ≤ (65535 : Int); omega)) ?_
                rintro v440 S441 (⟨z442, g'443, hv444, hS445, hR448, h446, h447⟩)
                subst hv444
                have h446_ : z442.toInt = z293.toInt + 1 := h446
                have h447_ : ∀ j, j ∉ [11, 12, 13, 14] → g'443 j = g'294 j := h447
                replace hS445 : MS S0 S441 (upd (upd (upd (upd f 10 z442) 62 o278) 68 s279) 75 m280) g'443 := hS445
                have hR448_ : RJ (upd (upd (upd (upd f 10 z442) 62 o278) 68 s279) 75 m280) g'443 (((33 : Int), (0 : Int), (f 4).toInt, (0 : Int), []) :: (((28 : Int), (0 : Int), (0 : Int), (0 : Int), []) :: gs)) bc [] 0 [] := hR448
                show am_E _ _ _ _ [some (.ref 39), some (.int 0), some (.int (f 4))] [] _ _
                refine am_e2 (v := 39) hi_212_70 rfl ?_
                refine am_e32w (as := [.ref 39]) (la := [some (.ref 39), none]) (rest := []) hi_212_71 (am_hd0 (M := 212) (by decide) 71) (Nat.le_of_ble_eq_true rfl) (Nat.le_of_ble_eq_true rfl) (show 1 ≤ am_P0.2.2.1 192 from by decide +kernel) rfl (am_recv_ok hS445.fs) rfl rfl ?_
                refine am_e2 (v := 39) hi_192_0 rfl ?_
                refine mm_20 (v := .int (f 4)) hS445 hi_192_1 rfl ?_
                refine am_e3 (ls' := [some (.ref 39), some (.int (f 4))]) hi_192_4 (Nat.le_of_ble_eq_true rfl) rfl ?_
                refine am_e2 (v := 39) hi_192_5 rfl ?_
                refine am_e0 hi_192_6 ?_
                refine am_e32n (as := [.ref 39, .int 62]) (la := [some (.ref 39), some (.int 62)]) (rest := []) hi_192_8 (am_hd0 (M := 192) (by decide) 8) (Nat.le_of_ble_eq_true rfl) (Nat.le_of_ble_eq_true rfl) (show 2 ≤ am_P0.2.2.1 193 from by decide +kernel) rfl (am_recv_ok hS445.fs) rfl rfl (ct_enter (d := (d + 1)) hS445   (by show (0 : Int) ≤ (f 4).toInt; omega) (by show (f 0).toInt ≤ (16384 : Int); omega) (by show (0 : Int) ≤ (62 : Int); omega) (by show (0 : Int) ≤ (f 5).toInt; omega) (by show (f 5).toInt ≤ (48 : Int); omega)) ?_
                rintro v449 S450 (⟨z451, y452, hv453, hS454, h455, h456, h457, h458⟩ | ⟨a460, b461, hv462, hS463⟩)
                · subst hv453
                  have h455_ : z451.toInt = (f 4).toInt + 1 := h455
                  have h456_ : (f 4).toInt < (f 0).toInt := h456
                  have h457_ : y452.toInt = (f 5).toInt + 1 := h457
                  have h458_ : y452.toInt ≤ (48 : Int) := h458
                  replace hS454 : MS S0 S450 (upd (upd (upd (upd (upd (upd f 4 z451) 5 y452) 10 z442) 62 o278) 68 s279) 75 m280) g'443 := hS454
                  have hR465 : RJ (upd (upd (upd (upd (upd (upd f 4 z451) 5 y452) 10 z442) 62 o278) 68 s279) 75 m280) g'443 (((33 : Int), (0 : Int), (f 4).toInt, (0 : Int), []) :: (((28 : Int), (0 : Int), (0 : Int), (0 : Int), []) :: gs)) bc [] 0 [] := RJ.at hR448_ (by show (f 4).toInt ≤ z451.toInt; omega)
                  show am_E _ _ _ _ [some (.ref 39), some (.int (f 4))] [.int 1] _ _
                  refine am_e12t hi_192_11 (by decide) ?_
                  refine am_e2 (v := 39) hi_192_15 rfl ?_
                  refine am_e0 hi_192_16 ?_
                  refine am_e0 hi_192_18 ?_
                  refine am_e0 hi_192_19 ?_
                  refine am_e1 (v := f 4) hi_192_20 rfl ?_
                  refine am_e32n (as := [.ref 39, .int 20, .int 0, .int 0, .int (f 4)]) (la := [some (.ref 39), some (.int 20), some (.int 0), some (.int 0), some (.int (f 4))]) (rest := []) hi_192_21 (am_hd0 (M := 192) (by decide) 21) (Nat.le_of_ble_eq_true rfl) (Nat.le_of_ble_eq_true rfl) (show 5 ≤ am_P0.2.2.1 189 from by decide +kernel) rfl (am_recv_ok hS454.fs) rfl rfl (ct_put (d := (d + 3)) hS454 hR465  (by show (0 : Int) ≤ (f 32).toInt; omega) (by show (f 32).toInt ≤ (63 : Int); omega) (by show (f 53).toInt ≤ (4096 : Int); omega) (by show (0 : Int) ≤ s279.toInt; omega) (by show s279.toInt ≤ (65534 : Int); omega)) ?_
                  rintro v466 S467 (⟨z468, r469, g'470, hv471, hS472, hR476, h473, h474, h475⟩)
                  subst hv471
                  have h473_ : z468.toInt = s279.toInt + 1 := h473
                  have h474_ : r469.toInt = s279.toInt := h474
                  have h475_ : ∀ j, j ∉ [60, 69, 70, 71, 72, 73] → g'470 j = g'443 j := h475
                  replace hS472 : MS S0 S467 (upd (upd (upd (upd (upd (upd f 4 z451) 5 y452) 10 z442) 62 o278) 68 z468) 75 m280) g'470 := hS472
                  have hR476_ : RJ (upd (upd (upd (upd (upd (upd f 4 z451) 5 y452) 10 z442) 62 o278) 68 z468) 75 m280) g'470 (((33 : Int), (0 : Int), (f 4).toInt, (0 : Int), []) :: (((28 : Int), (0 : Int), (0 : Int), (0 : Int), []) :: gs)) bc [] 0 (s279.toNatClampNeg :: []) := hR476
                  show am_E _ _ _ _ [some (.ref 39), some (.int (f 4))] [.int r469] _ _
                  refine am_e6i hi_192_24 ?_
                  refine am_e2 (v := 39) hi_192_25 rfl ?_
                  refine am_e0 hi_192_26 ?_
                  refine am_e0 hi_192_27 ?_
                  refine am_e0 hi_192_28 ?_
                  refine am_e32n (as := [.ref 39, .int 0, .int 0, .int 0]) (la := [some (.ref 39), some (.int 0), some (.int 0), some (.int 0)]) (rest := []) hi_192_29 (am_hd0 (M := 192) (by decide) 29) (Nat.le_of_ble_eq_true rfl) (Nat.le_of_ble_eq_true rfl) (show 4 ≤ am_P0.2.2.1 190 from by decide +kernel) rfl (am_recv_ok hS472.fs) rfl rfl (ct_value (d := (d + 3)) hS472 hR476_ (fun h => absurd h (by decide)) (fun h => absurd h (by decide)) (by show (0 : Int) ≤ (f 15).toInt; omega) (by show (f 15).toInt ≤ (32767 : Int); omega)) ?_
                  rintro v477 S478 (⟨z479, g'480, hv481, hS482, hR487, h483, h484, h485, h486⟩)
                  subst hv481
                  have h483_ : z479.toInt = (f 15).toInt + 1 := h483
                  have h484_ : ∀ j, j ∉ [16, 17, 18] → g'480 j = g'470 j := h484
                  have h485_ : mj_n (g'480 16) z479.toNatClampNeg 3 ≤ mj_n (g'281 16) (f 15).toNatClampNeg 3 + 1 := by rw [show g'470 16 = g'443 16 from h475_ 16 (by decide), show g'443 16 = g'294 16 from h447_ 16 (by decide), show g'294 16 = g'281 16 from h298_ 16 (by decide)] at h485; exact h485
                  have h486_ : (0 : Int) = 3 ∨ mj_n (g'480 16) z479.toNatClampNeg 3 ≤ mj_n (g'281 16) (f 15).toNatClampNeg 3 := by rw [show g'470 16 = g'443 16 from h475_ 16 (by decide), show g'443 16 = g'294 16 from h447_ 16 (by decide), show g'294 16 = g'281 16 from h298_ 16 (by decide)] at h486; exact h486
                  replace hS482 : MS S0 S478 (upd (upd (upd (upd (upd (upd (upd f 4 z451) 5 y452) 10 z442) 15 z479) 62 o278) 68 z468) 75 m280) g'480 := hS482
                  have hR487_ : RJ (upd (upd (upd (upd (upd (upd (upd f 4 z451) 5 y452) 10 z442) 15 z479) 62 o278) 68 z468) 75 m280) g'480 (((33 : Int), (0 : Int), (f 4).toInt, (0 : Int), []) :: (((28 : Int), (0 : Int), (0 : Int), (0 : Int), []) :: gs)) bc [] 0 (s279.toNatClampNeg :: []) := hR487
                  show am_E _ _ _ _ [some (.ref 39), some (.int (f 4))] [] _ _
                  refine am_e2 (v := 39) hi_192_32 rfl ?_
                  refine am_e0 hi_192_33 ?_
                  refine am_e0 hi_192_35 ?_
                  refine am_e0 hi_192_36 ?_
                  refine am_e0 hi_192_37 ?_
                  refine am_e32n (as := [.ref 39, .int 35, .int 0, .int 0, .int 0]) (la := [some (.ref 39), some (.int 35), some (.int 0), some (.int 0), some (.int 0)]) (rest := []) hi_192_38 (am_hd0 (M := 192) (by decide) 38) (Nat.le_of_ble_eq_true rfl) (Nat.le_of_ble_eq_true rfl) (show 5 ≤ am_P0.2.2.1 179 from by decide +kernel) rfl (am_recv_ok hS482.fs) rfl rfl (ct_pile (d := (d + 3)) hS482 hR487_ (mj_e_plain (by decide)) (by show (0 : Int) ≤ z442.toInt; omega) (by show z442.toInt ≤ (65535 : Int); omega)) ?_
                  rintro v488 S489 (⟨z490, g'491, hv492, hS493, hR496, h494, h495⟩)
                  subst hv492
                  have h494_ : z490.toInt = z442.toInt + 1 := h494
                  have h495_ : ∀ j, j ∉ [11, 12, 13, 14] → g'491 j = g'480 j := h495
                  replace hS493 : MS S0 S489 (upd (upd (upd (upd (upd (upd (upd f 4 z451) 5 y452) 10 z490) 15 z479) 62 o278) 68 z468) 75 m280) g'491 := hS493
                  have hR496_ : RJ (upd (upd (upd (upd (upd (upd (upd f 4 z451) 5 y452) 10 z490) 15 z479) 62 o278) 68 z468) 75 m280) g'491 (((35 : Int), (0 : Int), (0 : Int), (0 : Int), []) :: (((33 : Int), (0 : Int), (f 4).toInt, (0 : Int), []) :: (((28 : Int), (0 : Int), (0 : Int), (0 : Int), []) :: gs))) bc [] 0 (s279.toNatClampNeg :: []) := hR496
                  show am_E _ _ _ _ [some (.ref 39), some (.int (f 4))] [] _ _
                  refine am_e35 hi_192_41 ?_
                  show am_E _ _ _ _ [some (.ref 39), some (.int 0), some (.int (f 4))] [] _ _
                  refine am_e18 hi_212_74 ?_
                  refine am_e35 hi_212_125 ?_
                  show am_E _ _ _ _ [some (.ref 39), some (.int r2), some (.int (f 4)), none] [] _ _
                  refine am_e35 hi_211_249 ?_
                  show am_E _ _ _ _ [some (.ref 39), some (.int 28), some (.int on), some (.int tw)] [] _ _
                  refine am_e18 hi_181_180 ?_
                  refine am_e35 hi_181_397 ?_
                  show am_E _ _ _ _ [some (.ref 39), some (.int 28), some (.int on), some (.int tw), some (.int th)] [] _ _
                  refine am_e35 hi_180_13 ?_
                  have q1 : mg_p1 (((35 : Int), (0 : Int), (0 : Int), (0 : Int), []) :: (((33 : Int), (0 : Int), (f 4).toInt, (0 : Int), []) :: (((28 : Int), (0 : Int), (0 : Int), (0 : Int), []) :: gs))) = 0 + (0 + (0 + (mg_p1 gs))) := rfl
                  have q2 : mg_p2 (((35 : Int), (0 : Int), (0 : Int), (0 : Int), []) :: (((33 : Int), (0 : Int), (f 4).toInt, (0 : Int), []) :: (((28 : Int), (0 : Int), (0 : Int), (0 : Int), []) :: gs))) = 0 + (0 + (0 + (mg_p2 gs))) := rfl
                  have q3 : mg_p3 (((35 : Int), (0 : Int), (0 : Int), (0 : Int), []) :: (((33 : Int), (0 : Int), (f 4).toInt, (0 : Int), []) :: (((28 : Int), (0 : Int), (0 : Int), (0 : Int), []) :: gs))) = 3 + (1 + (1 + (mg_p3 gs))) := rfl
                  have q4 : mg_p4 (((35 : Int), (0 : Int), (0 : Int), (0 : Int), []) :: (((33 : Int), (0 : Int), (f 4).toInt, (0 : Int), []) :: (((28 : Int), (0 : Int), (0 : Int), (0 : Int), []) :: gs))) = 0 + (3 + (0 + (mg_p4 gs))) := rfl
                  refine ⟨_, _, _, bc, rfl, hS493, Or.inl ⟨⟨(RJ.fewer (pj' := []) hR496_ (fun _ h => nomatch h)), ?_, ?_⟩, rfl, ?_⟩⟩
                  · exact (⟨⟨(show mg_k 35 from by decide), (show (0 : Int) ≤ z479.toInt from by omega), (show 0 ≤ (f 20).toInt from by omega), (show 1 ≤ (f 37).toInt from by omega), (show 0 ≤ (f 32).toInt from by omega), (show (f 32).toInt ≤ y452.toInt from by omega), (show y452.toInt ≤ 48 from by omega), (show (f 37).toInt ≤ 2 * (y452.toInt) + 2 from by omega), trivial⟩, ⟨⟨(show mg_k 33 from by decide), (show (2 : Int) ≤ z479.toInt + 0 from by omega), (show 0 ≤ (f 20).toInt from by omega), (show 1 ≤ (f 37).toInt + 0 from by omega), (show 0 ≤ (f 32).toInt + 0 from by omega), (show (f 32).toInt + 0 ≤ y452.toInt + -1 from by omega), (show y452.toInt + -1 ≤ 48 from by omega), (show (f 37).toInt + 0 ≤ 2 * (y452.toInt + -1) + 2 from by omega), trivial⟩, ⟨⟨(show mg_k 28 from by decide), (show (1 : Int) ≤ z479.toInt + 0 + -1 from by omega), (show 0 ≤ (f 20).toInt from by omega), (show 1 ≤ (f 37).toInt + 0 + 0 from by omega), (show 0 ≤ (f 32).toInt + 0 + 0 from by omega), (show (f 32).toInt + 0 + 0 ≤ y452.toInt + -1 + 0 from by omega), (show y452.toInt + -1 + 0 ≤ 48 from by omega), (show (f 37).toInt + 0 + 0 ≤ 2 * (y452.toInt + -1 + 0) + 2 from by omega), trivial⟩, mg_cast (mg_good_ext _ _ _ _ _ _ (fun i _ => by show g'491 34 i = g 34 i; rw [show g'491 34 = g'480 34 from h495_ 34 (by decide), show g'480 34 = g'470 34 from h484_ 34 (by decide), show g'470 34 = g'443 34 from h475_ 34 (by decide), show g'443 34 = g'294 34 from h447_ 34 (by decide), show g'294 34 = g'281 34 from h298_ 34 (by decide), show g'281 34 = g 34 from h289_ 34 (by decide)]) (fun i _ => by show g'491 38 i = g 38 i; rw [show g'491 38 = g'480 38 from h495_ 38 (by decide), show g'480 38 = g'470 38 from h484_ 38 (by decide), show g'470 38 = g'443 38 from h475_ 38 (by decide), show g'443 38 = g'294 38 from h447_ 38 (by decide), show g'294 38 = g'281 38 from h298_ 38 (by decide), show g'281 38 = g 38 from h289_ 38 (by decide)]) (fun i _ => by show g'491 23 i = g 23 i; rw [show g'491 23 = g'480 23 from h495_ 23 (by decide), show g'480 23 = g'470 23 from h484_ 23 (by decide), show g'470 23 = g'443 23 from h475_ 23 (by decide), show g'443 23 = g'294 23 from h447_ 23 (by decide), show g'294 23 = g'281 23 from h298_ 23 (by decide), show g'281 23 = g 23 from h289_ 23 (by decide)]) hrest) (by show (f 15).toInt + 0 = z479.toInt + 0 + -1 + 0; omega) (by show (f 20).toInt = (f 20).toInt; omega) (by show (f 37).toInt + 0 = (f 37).toInt + 0 + 0 + 0; omega) (by show (f 32).toInt + 0 = (f 32).toInt + 0 + 0 + 0; omega) (by show (f 5).toInt + 0 = y452.toInt + -1 + 0 + 0; omega)⟩⟩⟩ : mg_good (g'491 34) (g'491 38) (g'491 23) (((35 : Int), (0 : Int), (0 : Int), (0 : Int), []) :: (((33 : Int), (0 : Int), (f 4).toInt, (0 : Int), []) :: (((28 : Int), (0 : Int), (0 : Int), (0 : Int), []) :: gs))) (z479.toInt) ((f 20).toInt) ((f 37).toInt) ((f 32).toInt) (y452.toInt))
                  · exact ⟨(by show 0 ≤ z451.toInt; omega), (by show z451.toInt ≤ (f 0).toInt; omega), (by show (f 0).toInt ≤ 512; omega), (by show 0 ≤ (f 24).toInt; omega), (by show (f 24).toInt + (f 20).toInt + mg_p1 (((35 : Int), (0 : Int), (0 : Int), (0 : Int), []) :: (((33 : Int), (0 : Int), (f 4).toInt, (0 : Int), []) :: (((28 : Int), (0 : Int), (0 : Int), (0 : Int), []) :: gs))) ≤ 4 * z451.toInt; omega), (by show (f 20).toInt ≤ z451.toInt; omega), (by show z479.toInt + mg_p2 (((35 : Int), (0 : Int), (0 : Int), (0 : Int), []) :: (((33 : Int), (0 : Int), (f 4).toInt, (0 : Int), []) :: (((28 : Int), (0 : Int), (0 : Int), (0 : Int), []) :: gs))) ≤ z451.toInt; omega), (by show mg_p3 (((35 : Int), (0 : Int), (0 : Int), (0 : Int), []) :: (((33 : Int), (0 : Int), (f 4).toInt, (0 : Int), []) :: (((28 : Int), (0 : Int), (0 : Int), (0 : Int), []) :: gs))) ≤ 20 * z451.toInt + 20; omega), (by show 0 ≤ z468.toInt; omega), (by show z468.toInt + 3 * (f 20).toInt + mg_p4 (((35 : Int), (0 : Int), (0 : Int), (0 : Int), []) :: (((33 : Int), (0 : Int), (f 4).toInt, (0 : Int), []) :: (((28 : Int), (0 : Int), (0 : Int), (0 : Int), []) :: gs))) ≤ 60 * z451.toInt + 60; omega), (by show 0 ≤ o278.toInt; omega), (by show o278.toInt + 64 * mj_n (g'491 16) z479.toNatClampNeg 3 ≤ 64 * z451.toInt; rw [show g'491 16 = g'480 16 from h495_ 16 (by decide)]; omega), (by show 0 ≤ (f 44).toInt; omega), (by show (f 44).toInt ≤ z451.toInt; omega), (by show 0 ≤ (f 48).toInt; omega), (by show (f 48).toInt ≤ z451.toInt; omega), (by show 1 ≤ (f 53).toInt; omega), (by show (f 53).toInt ≤ z451.toInt + 1; omega), (by show 0 ≤ (f 19).toInt; omega), (by show (f 19).toInt ≤ 600; omega)⟩
                  · show 100 * ((f 0).toInt - z451.toInt) + mg_p3 (((35 : Int), (0 : Int), (0 : Int), (0 : Int), []) :: (((33 : Int), (0 : Int), (f 4).toInt, (0 : Int), []) :: (((28 : Int), (0 : Int), (0 : Int), (0 : Int), []) :: gs))) < 100 * ((f 0).toInt - (f 4).toInt) + (1 + mg_p3 gs); omega
                · subst hv462
                  replace hS463 : MS S0 S450 (upd (upd (upd (upd (upd (upd f 6 a460) 7 b461) 10 0) 62 o278) 68 s279) 75 m280) g'443 := hS463
                  have hR497 := rj_clear0 hR448_
                  have hR498 : RJ (upd (upd (upd (upd (upd (upd f 6 a460) 7 b461) 10 0) 62 o278) 68 s279) 75 m280) g'443 [] bc [] 0 [] := hR497
                  show am_E _ _ _ _ [some (.ref 39), some (.int (f 4))] [.int 0] _ _
                  refine am_e12f hi_192_11 (by decide) ?_
                  refine am_e35 hi_192_14 ?_
                  show am_E _ _ _ _ [some (.ref 39), some (.int 0), some (.int (f 4))] [] _ _
                  refine am_e18 hi_212_74 ?_
                  refine am_e35 hi_212_125 ?_
                  show am_E _ _ _ _ [some (.ref 39), some (.int r2), some (.int (f 4)), none] [] _ _
                  refine am_e35 hi_211_249 ?_
                  show am_E _ _ _ _ [some (.ref 39), some (.int 28), some (.int on), some (.int tw)] [] _ _
                  refine am_e18 hi_181_180 ?_
                  refine am_e35 hi_181_397 ?_
                  show am_E _ _ _ _ [some (.ref 39), some (.int 28), some (.int on), some (.int tw), some (.int th)] [] _ _
                  refine am_e35 hi_180_13 ?_
                  have hRc := rj_clear0 hR498
                  refine ⟨_, _, [], _, rfl, hS463, Or.inr ⟨hRc, rfl, (by show 0 ≤ (f 4).toInt; omega), (by show (f 4).toInt ≤ (f 0).toInt; omega), (by show 0 ≤ (f 32).toInt; omega), (by show (f 32).toInt ≤ 63; omega), (by show 1 ≤ (f 53).toInt; omega), (by show (f 53).toInt ≤ 600; omega), (by show 0 ≤ s279.toInt; omega), (by show s279.toInt ≤ 60000; omega), (by show 0 ≤ (f 48).toInt; omega), (by show (f 48).toInt ≤ 8000; omega), (by show 0 ≤ (f 37).toInt; omega), (by show (f 37).toInt ≤ 128; omega), (by show 0 ≤ o278.toInt; omega), (by show o278.toInt ≤ 65000; omega), (by show 0 ≤ (f 19).toInt; omega), (by show (f 19).toInt ≤ 600; omega)⟩⟩
            · refine am_e13f hi_212_10 (am_cF (m := r302.toInt) (n := (3 : Int)) rfl (by decide) c307) ?_
              refine am_e2 (v := 39) hi_212_13 rfl ?_
              refine am_e0 hi_212_14 ?_
              refine am_e2 (v := 39) hi_212_15 rfl ?_
              refine mm_20 (v := .ref 41) hS304 hi_212_16 rfl ?_
              refine am_e2 (v := 39) hi_212_19 rfl ?_
              refine mm_20 (v := .int (f 4)) hS304 hi_212_20 rfl ?_
              refine mm_25 hS304 ma_2 hi_212_23 (by decide) (by omega) (by omega) ?_
              show am_E _ _ _ _ _ (.int (g'294 2 (f 4).toNatClampNeg) :: _) _ _
              rw [show g'294 2 = g'281 2 from h298_ 2 (by decide), show g'281 2 = g 2 from h289_ 2 (by decide)]
              show am_E _ _ _ _ [some (.ref 39), some (.int 0), some (.int (f 4))] [.int (g 2 (f 4).toNatClampNeg), .int 5, .ref 39] _ _
              refine am_e0 hi_212_24 ?_
              refine am_e0 hi_212_25 ?_
              refine am_e32n (as := [.ref 39, .int 5, .int (g 2 (f 4).toNatClampNeg), .int 0, .int 0]) (la := [some (.ref 39), some (.int 5), some (.int (g 2 (f 4).toNatClampNeg)), some (.int 0), some (.int 0)]) (rest := []) hi_212_26 (am_hd0 (M := 212) (by decide) 26) (Nat.le_of_ble_eq_true rfl) (Nat.le_of_ble_eq_true rfl) (show 5 ≤ am_P0.2.2.1 189 from by decide +kernel) rfl (am_recv_ok hS304.fs) rfl rfl (ct_put (d := (d + 4)) hS304 hR299_  (by show (0 : Int) ≤ (f 32).toInt; omega) (by show (f 32).toInt ≤ (63 : Int); omega) (by show (f 53).toInt ≤ (4096 : Int); omega) (by show (0 : Int) ≤ s279.toInt; omega) (by show s279.toInt ≤ (65534 : Int); omega)) ?_
              rintro v499 S500 (⟨z501, r502, g'503, hv504, hS505, hR509, h506, h507, h508⟩)
              subst hv504
              have h506_ : z501.toInt = s279.toInt + 1 := h506
              have h507_ : r502.toInt = s279.toInt := h507
              have h508_ : ∀ j, j ∉ [60, 69, 70, 71, 72, 73] → g'503 j = g'294 j := h508
              replace hS505 : MS S0 S500 (upd (upd (upd (upd f 10 z293) 62 o278) 68 z501) 75 m280) g'503 := hS505
              have hR509_ : RJ (upd (upd (upd (upd f 10 z293) 62 o278) 68 z501) 75 m280) g'503 (((28 : Int), (0 : Int), (0 : Int), (0 : Int), []) :: gs) bc [] 0 (s279.toNatClampNeg :: []) := hR509
              show am_E _ _ _ _ [some (.ref 39), some (.int 0), some (.int (f 4))] [.int r502] _ _
              refine am_e6i hi_212_29 ?_
              refine am_e2 (v := 39) hi_212_30 rfl ?_
              refine am_e7 hi_212_31 ?_
              refine mm_20 (v := .int (f 4)) hS505 hi_212_32 rfl ?_
              refine am_e0 hi_212_35 ?_
              obtain ⟨z510, hz510, tz510⟩ := am_addI (x := f 4) (y := 1) (m := (f 4).toInt) (n := (1 : Int)) rfl (by decide) (by omega) (by omega)
              refine am_e10 (z := z510) hi_212_36 hz510 ?_
              refine mm_21 (v := z510) hS505 hi_212_37 rfl (Nat.le_of_ble_eq_true rfl) ms_4 ?_
              intro S511 hS512
              replace hS512 : MS S0 S511 (upd (upd (upd (upd (upd f 4 z510) 10 z293) 62 o278) 68 z501) 75 m280) g'503 := hS512
              have hR513 : RJ (upd (upd (upd (upd (upd f 4 z510) 10 z293) 62 o278) 68 z501) 75 m280) g'503 (((28 : Int), (0 : Int), (0 : Int), (0 : Int), []) :: gs) bc [] 0 (s279.toNatClampNeg :: []) := RJ.at hR509_ (by show (f 4).toInt ≤ z510.toInt; omega)
              refine am_e2 (v := 39) hi_212_40 rfl ?_
              refine am_e0 hi_212_41 ?_
              refine am_e1 (v := 0) hi_212_42 rfl ?_
              refine am_e10 (z := 1) hi_212_43 (by decide) ?_
              refine am_e0 hi_212_44 ?_
              refine am_e1 (v := f 4) hi_212_45 rfl ?_
              refine am_e32w (as := [.ref 39, .int 1, .int 0, .int (f 4)]) (la := [some (.ref 39), some (.int 1), some (.int 0), some (.int (f 4)), none]) (rest := []) hi_212_46 (am_hd0 (M := 212) (by decide) 46) (Nat.le_of_ble_eq_true rfl) (Nat.le_of_ble_eq_true rfl) (show 4 ≤ am_P0.2.2.1 213 from by decide +kernel) rfl (am_recv_ok hS512.fs) rfl rfl ?_
              refine am_e2 (v := 39) hi_213_0 rfl ?_
              refine am_e0 hi_213_1 ?_
              refine am_e1 (v := 1) hi_213_3 rfl ?_
              refine am_e1 (v := 0) hi_213_4 rfl ?_
              refine am_e0 hi_213_5 ?_
              refine am_e10 (z := 2) hi_213_6 (by decide) ?_
              refine am_e1 (v := f 4) hi_213_7 rfl ?_
              refine am_e32n (as := [.ref 39, .int 13, .int 1, .int 2, .int (f 4)]) (la := [some (.ref 39), some (.int 13), some (.int 1), some (.int 2), some (.int (f 4))]) (rest := []) hi_213_8 (am_hd0 (M := 213) (by decide) 8) (Nat.le_of_ble_eq_true rfl) (Nat.le_of_ble_eq_true rfl) (show 5 ≤ am_P0.2.2.1 189 from by decide +kernel) rfl (am_recv_ok hS512.fs) rfl rfl (ct_put (d := (d + 3)) hS512 hR513  (by show (0 : Int) ≤ (f 32).toInt; omega) (by show (f 32).toInt ≤ (63 : Int); omega) (by show (f 53).toInt ≤ (4096 : Int); omega) (by show (0 : Int) ≤ z501.toInt; omega) (by show z501.toInt ≤ (65534 : Int); omega)) ?_
              rintro v514 S515 (⟨z516, r517, g'518, hv519, hS520, hR524, h521, h522, h523⟩)
              subst hv519
              have h521_ : z516.toInt = z501.toInt + 1 := h521
              have h522_ : r517.toInt = z501.toInt := h522
              have h523_ : ∀ j, j ∉ [60, 69, 70, 71, 72, 73] → g'518 j = g'503 j := h523
              replace hS520 : MS S0 S515 (upd (upd (upd (upd (upd f 4 z510) 10 z293) 62 o278) 68 z516) 75 m280) g'518 := hS520
              have hR524_ : RJ (upd (upd (upd (upd (upd f 4 z510) 10 z293) 62 o278) 68 z516) 75 m280) g'518 (((28 : Int), (0 : Int), (0 : Int), (0 : Int), []) :: gs) bc [] 0 (z501.toNatClampNeg :: (s279.toNatClampNeg :: [])) := hR524
              show am_E _ _ _ _ [some (.ref 39), some (.int 1), some (.int 0), some (.int (f 4)), none] [.int r517] _ _
              refine am_e3 (ls' := [some (.ref 39), some (.int 1), some (.int 0), some (.int (f 4)), some (.int r517)]) hi_213_11 (Nat.le_of_ble_eq_true rfl) rfl ?_
              refine am_e2 (v := 39) hi_213_13 rfl ?_
              refine am_e7 hi_213_14 ?_
              refine mm_20 (v := .int (f 15)) hS520 hi_213_15 rfl ?_
              refine am_e0 hi_213_18 ?_
              obtain ⟨z525, hz525, tz525⟩ := am_subI (x := f 15) (y := 1) (m := (f 15).toInt) (n := (1 : Int)) rfl (by decide) (by omega) (by omega)
              refine am_e10 (z := z525) hi_213_19 hz525 ?_
              refine mm_21 (v := z525) hS520 hi_213_20 rfl (Nat.le_of_ble_eq_true rfl) ms_15 ?_
              intro S526 hS527
              replace hS527 : MS S0 S526 (upd (upd (upd (upd (upd (upd f 4 z510) 10 z293) 15 z525) 62 o278) 68 z516) 75 m280) g'518 := hS527
              have hp528 : mj_n (g'281 16) (f 15).toNatClampNeg 3 = mj_n (g'281 16) z525.toNatClampNeg 3 + if (g'281 16 z525.toNatClampNeg).toInt = 3 then 1 else 0 := mj_pop (by rw [cl_toNat, cl_toNat]; omega)
              have hp5281 : mj_n (g'281 16) z525.toNatClampNeg 3 ≤ mj_n (g'281 16) (f 15).toNatClampNeg 3 := by rw [hp528]; split <;> omega
              have hp5282 : (g'281 16 z525.toNatClampNeg).toInt = 3 → mj_n (g'281 16) z525.toNatClampNeg 3 + 1 ≤ mj_n (g'281 16) (f 15).toNatClampNeg 3 := fun q => by rw [hp528, if_pos q]; exact Int.le_refl _
              refine am_e2 (v := 39) hi_213_23 rfl ?_
              refine am_e0 hi_213_24 ?_
              refine am_e1 (v := r517) hi_213_25 rfl ?_
              refine am_e1 (v := f 4) hi_213_27 rfl ?_
              refine am_e32n (as := [.ref 39, .int 1, .int r517, .int (f 4)]) (la := [some (.ref 39), some (.int 1), some (.int r517), some (.int (f 4))]) (rest := []) hi_213_28 (am_hd0 (M := 213) (by decide) 28) (Nat.le_of_ble_eq_true rfl) (Nat.le_of_ble_eq_true rfl) (show 4 ≤ am_P0.2.2.1 190 from by decide +kernel) rfl (am_recv_ok hS527.fs) rfl rfl (ct_value (d := (d + 3)) hS527 hR524_ (fun h => absurd h (by decide)) (fun _ => ⟨by omega, by omega⟩) (by show (0 : Int) ≤ z525.toInt; omega) (by show z525.toInt ≤ (32767 : Int); omega)) ?_
              rintro v529 S530 (⟨z531, g'532, hv533, hS534, hR539, h535, h536, h537, h538⟩)
              subst hv533
              have h535_ : z531.toInt = z525.toInt + 1 := h535
              have h536_ : ∀ j, j ∉ [16, 17, 18] → g'532 j = g'518 j := h536
              have h537_ : mj_n (g'532 16) z531.toNatClampNeg 3 ≤ mj_n (g'281 16) z525.toNatClampNeg 3 + 1 := by rw [show g'518 16 = g'503 16 from h523_ 16 (by decide), show g'503 16 = g'294 16 from h508_ 16 (by decide), show g'294 16 = g'281 16 from h298_ 16 (by decide)] at h537; exact h537
              have h538_ : (1 : Int) = 3 ∨ mj_n (g'532 16) z531.toNatClampNeg 3 ≤ mj_n (g'281 16) z525.toNatClampNeg 3 := by rw [show g'518 16 = g'503 16 from h523_ 16 (by decide), show g'503 16 = g'294 16 from h508_ 16 (by decide), show g'294 16 = g'281 16 from h298_ 16 (by decide)] at h538; exact h538
              replace hS534 : MS S0 S530 (upd (upd (upd (upd (upd (upd f 4 z510) 10 z293) 15 z531) 62 o278) 68 z516) 75 m280) g'532 := hS534
              have hR539_ : RJ (upd (upd (upd (upd (upd (upd f 4 z510) 10 z293) 15 z531) 62 o278) 68 z516) 75 m280) g'532 (((28 : Int), (0 : Int), (0 : Int), (0 : Int), []) :: gs) bc [] 0 (z501.toNatClampNeg :: (s279.toNatClampNeg :: [])) := hR539
              show am_E _ _ _ _ [some (.ref 39), some (.int 1), some (.int 0), some (.int (f 4)), some (.int r517)] [] _ _
              refine am_e35 hi_213_31 ?_
              show am_E _ _ _ _ [some (.ref 39), some (.int 0), some (.int (f 4))] [] _ _
              refine am_e18 hi_212_49 ?_
              refine am_e35 hi_212_125 ?_
              show am_E _ _ _ _ [some (.ref 39), some (.int r2), some (.int (f 4)), none] [] _ _
              refine am_e35 hi_211_249 ?_
              show am_E _ _ _ _ [some (.ref 39), some (.int 28), some (.int on), some (.int tw)] [] _ _
              refine am_e18 hi_181_180 ?_
              refine am_e35 hi_181_397 ?_
              show am_E _ _ _ _ [some (.ref 39), some (.int 28), some (.int on), some (.int tw), some (.int th)] [] _ _
              refine am_e35 hi_180_13 ?_
              have q1 : mg_p1 (((28 : Int), (0 : Int), (0 : Int), (0 : Int), []) :: gs) = 0 + (mg_p1 gs) := rfl
              have q2 : mg_p2 (((28 : Int), (0 : Int), (0 : Int), (0 : Int), []) :: gs) = 0 + (mg_p2 gs) := rfl
              have q3 : mg_p3 (((28 : Int), (0 : Int), (0 : Int), (0 : Int), []) :: gs) = 1 + (mg_p3 gs) := rfl
              have q4 : mg_p4 (((28 : Int), (0 : Int), (0 : Int), (0 : Int), []) :: gs) = 0 + (mg_p4 gs) := rfl
              refine ⟨_, _, _, bc, rfl, hS534, Or.inl ⟨⟨(RJ.fewer (pj' := []) hR539_ (fun _ h => nomatch h)), ?_, ?_⟩, rfl, ?_⟩⟩
              · exact (⟨⟨(show mg_k 28 from by decide), (show (1 : Int) ≤ z531.toInt from by omega), (show 0 ≤ (f 20).toInt from by omega), (show 1 ≤ (f 37).toInt from by omega), (show 0 ≤ (f 32).toInt from by omega), (show (f 32).toInt ≤ (f 5).toInt from by omega), (show (f 5).toInt ≤ 48 from by omega), (show (f 37).toInt ≤ 2 * ((f 5).toInt) + 2 from by omega), trivial⟩, mg_cast (mg_good_ext _ _ _ _ _ _ (fun i _ => by show g'532 34 i = g 34 i; rw [show g'532 34 = g'518 34 from h536_ 34 (by decide), show g'518 34 = g'503 34 from h523_ 34 (by decide), show g'503 34 = g'294 34 from h508_ 34 (by decide), show g'294 34 = g'281 34 from h298_ 34 (by decide), show g'281 34 = g 34 from h289_ 34 (by decide)]) (fun i _ => by show g'532 38 i = g 38 i; rw [show g'532 38 = g'518 38 from h536_ 38 (by decide), show g'518 38 = g'503 38 from h523_ 38 (by decide), show g'503 38 = g'294 38 from h508_ 38 (by decide), show g'294 38 = g'281 38 from h298_ 38 (by decide), show g'281 38 = g 38 from h289_ 38 (by decide)]) (fun i _ => by show g'532 23 i = g 23 i; rw [show g'532 23 = g'518 23 from h536_ 23 (by decide), show g'518 23 = g'503 23 from h523_ 23 (by decide), show g'503 23 = g'294 23 from h508_ 23 (by decide), show g'294 23 = g'281 23 from h298_ 23 (by decide), show g'281 23 = g 23 from h289_ 23 (by decide)]) hrest) (by show (f 15).toInt + 0 = z531.toInt + 0; omega) (by show (f 20).toInt = (f 20).toInt; omega) (by show (f 37).toInt + 0 = (f 37).toInt + 0; omega) (by show (f 32).toInt + 0 = (f 32).toInt + 0; omega) (by show (f 5).toInt + 0 = (f 5).toInt + 0; omega)⟩ : mg_good (g'532 34) (g'532 38) (g'532 23) (((28 : Int), (0 : Int), (0 : Int), (0 : Int), []) :: gs) (z531.toInt) ((f 20).toInt) ((f 37).toInt) ((f 32).toInt) ((f 5).toInt))
              · exact ⟨(by show 0 ≤ z510.toInt; omega), (by show z510.toInt ≤ (f 0).toInt; omega), (by show (f 0).toInt ≤ 512; omega), (by show 0 ≤ (f 24).toInt; omega), (by show (f 24).toInt + (f 20).toInt + mg_p1 (((28 : Int), (0 : Int), (0 : Int), (0 : Int), []) :: gs) ≤ 4 * z510.toInt; omega), (by show (f 20).toInt ≤ z510.toInt; omega), (by show z531.toInt + mg_p2 (((28 : Int), (0 : Int), (0 : Int), (0 : Int), []) :: gs) ≤ z510.toInt; omega), (by show mg_p3 (((28 : Int), (0 : Int), (0 : Int), (0 : Int), []) :: gs) ≤ 20 * z510.toInt + 20; omega), (by show 0 ≤ z516.toInt; omega), (by show z516.toInt + 3 * (f 20).toInt + mg_p4 (((28 : Int), (0 : Int), (0 : Int), (0 : Int), []) :: gs) ≤ 60 * z510.toInt + 60; omega), (by show 0 ≤ o278.toInt; omega), (by show o278.toInt + 64 * mj_n (g'532 16) z531.toNatClampNeg 3 ≤ 64 * z510.toInt; omega), (by show 0 ≤ (f 44).toInt; omega), (by show (f 44).toInt ≤ z510.toInt; omega), (by show 0 ≤ (f 48).toInt; omega), (by show (f 48).toInt ≤ z510.toInt; omega), (by show 1 ≤ (f 53).toInt; omega), (by show (f 53).toInt ≤ z510.toInt + 1; omega), (by show 0 ≤ (f 19).toInt; omega), (by show (f 19).toInt ≤ 600; omega)⟩
              · show 100 * ((f 0).toInt - z510.toInt) + mg_p3 (((28 : Int), (0 : Int), (0 : Int), (0 : Int), []) :: gs) < 100 * ((f 0).toInt - (f 4).toInt) + (1 + mg_p3 gs); omega
          · refine am_e13f hi_211_222 (am_cF (m := r2.toInt) (n := (3 : Int)) rfl (by decide) c275) ?_
            refine am_e1 (v := r2) hi_211_225 rfl ?_
            refine am_e0 hi_211_226 ?_
            by_cases c540 : ¬ r2.toInt = (62 : Int)
            · refine am_e13t hi_211_228 (am_cT (m := r2.toInt) (n := (62 : Int)) rfl (by decide) c540) ?_
              refine am_e35 hi_211_249 ?_
              show am_E _ _ _ _ [some (.ref 39), some (.int 28), some (.int on), some (.int tw)] [] _ _
              refine am_e18 hi_181_180 ?_
              refine am_e35 hi_181_397 ?_
              show am_E _ _ _ _ [some (.ref 39), some (.int 28), some (.int on), some (.int tw), some (.int th)] [] _ _
              refine am_e35 hi_180_13 ?_
              have q1 : mg_p1 gs = mg_p1 gs := rfl
              have q2 : mg_p2 gs = mg_p2 gs := rfl
              have q3 : mg_p3 gs = mg_p3 gs := rfl
              have q4 : mg_p4 gs = mg_p4 gs := rfl
              refine ⟨_, _, _, bc, rfl, hS4, Or.inl ⟨⟨hR, ?_, ?_⟩, rfl, ?_⟩⟩
              · exact (mg_cast (mg_good_ext _ _ _ _ _ _ (fun _ _ => rfl) (fun _ _ => rfl) (fun _ _ => rfl) hrest) (by show (f 15).toInt + 0 = (f 15).toInt; omega) (by show (f 20).toInt = (f 20).toInt; omega) (by show (f 37).toInt + 0 = (f 37).toInt; omega) (by show (f 32).toInt + 0 = (f 32).toInt; omega) (by show (f 5).toInt + 0 = (f 5).toInt; omega) : mg_good (g 34) (g 38) (g 23) gs ((f 15).toInt) ((f 20).toInt) ((f 37).toInt) ((f 32).toInt) ((f 5).toInt))
              · exact ⟨(by show 0 ≤ (f 4).toInt; omega), (by show (f 4).toInt ≤ (f 0).toInt; omega), (by show (f 0).toInt ≤ 512; omega), (by show 0 ≤ (f 24).toInt; omega), (by show (f 24).toInt + (f 20).toInt + mg_p1 gs ≤ 4 * (f 4).toInt; omega), (by show (f 20).toInt ≤ (f 4).toInt; omega), (by show (f 15).toInt + mg_p2 gs ≤ (f 4).toInt; omega), (by show mg_p3 gs ≤ 20 * (f 4).toInt + 20; omega), (by show 0 ≤ (f 68).toInt; omega), (by show (f 68).toInt + 3 * (f 20).toInt + mg_p4 gs ≤ 60 * (f 4).toInt + 60; omega), (by show 0 ≤ (f 62).toInt; omega), (by show (f 62).toInt + 64 * mj_n (g 16) (f 15).toNatClampNeg 3 ≤ 64 * (f 4).toInt; omega), (by show 0 ≤ (f 44).toInt; omega), (by show (f 44).toInt ≤ (f 4).toInt; omega), (by show 0 ≤ (f 48).toInt; omega), (by show (f 48).toInt ≤ (f 4).toInt; omega), (by show 1 ≤ (f 53).toInt; omega), (by show (f 53).toInt ≤ (f 4).toInt + 1; omega), (by show 0 ≤ (f 19).toInt; omega), (by show (f 19).toInt ≤ 600; omega)⟩
              · show 100 * ((f 0).toInt - (f 4).toInt) + mg_p3 gs < 100 * ((f 0).toInt - (f 4).toInt) + (1 + mg_p3 gs); omega
            · refine am_e13f hi_211_228 (am_cF (m := r2.toInt) (n := (62 : Int)) rfl (by decide) c540) ?_
              refine am_e2 (v := 39) hi_211_231 rfl ?_
              refine am_e32n (as := [.ref 39]) (la := [some (.ref 39), none, none, none]) (rest := []) hi_211_232 (am_hd0 (M := 211) (by decide) 232) (Nat.le_of_ble_eq_true rfl) (Nat.le_of_ble_eq_true rfl) (show 1 ≤ am_P0.2.2.1 204 from by decide +kernel) rfl (am_recv_ok hS4.fs) rfl rfl (ct_load (d := (d + 3)) hS4 hR  (by show (0 : Int) ≤ (f 32).toInt; omega) (by show (f 32).toInt ≤ (63 : Int); omega) (by show (f 53).toInt ≤ (4096 : Int); omega) (by show (0 : Int) ≤ (f 68).toInt; omega) (by show (f 68).toInt ≤ (65534 : Int); omega) (by show (1 : Int) ≤ (f 15).toInt; omega) (by show (f 15).toInt ≤ (32767 : Int); omega) (by show (0 : Int) ≤ (f 24).toInt; omega) (by show (f 24).toInt ≤ (16384 : Int); omega) (by show (0 : Int) ≤ (f 62).toInt; omega) (by show (f 62).toInt ≤ (65000 : Int); omega)) ?_
              rintro v541 S542 (⟨o543, s544, m545, g'546, hv547, hS548, hR555, h549, h550, h551, h552, h553, h554⟩)
              subst hv547
              have h549_ : (f 62).toInt ≤ o543.toInt := h549
              have h550_ : o543.toInt ≤ (f 62).toInt + 64 := h550
              have h551_ : (f 68).toInt ≤ s544.toInt := h551
              have h552_ : s544.toInt ≤ (f 68).toInt + 1 := h552
              have h553_ : o543.toInt + 64 * mj_n (g'546 16) (f 15).toNatClampNeg 3 ≤ (f 62).toInt + 64 * mj_n (g 16) (f 15).toNatClampNeg 3 := h553
              have h554_ : ∀ j, j ∉ [16, 60, 63, 64, 65, 66, 67, 69, 70, 71, 72, 73] → g'546 j = g j := h554
              have hR555_ : RJ (upd (upd (upd f 62 o543) 68 s544) 75 m545) g'546 gs bc [] 0 [] := hR555
              show am_E _ _ _ _ [some (.ref 39), some (.int r2), some (.int (f 4)), none] [] _ _
              refine am_e2 (v := 39) hi_211_235 rfl ?_
              refine am_e0 hi_211_236 ?_
              refine am_e0 hi_211_238 ?_
              refine am_e0 hi_211_239 ?_
              refine am_e0 hi_211_240 ?_
              refine am_e32n (as := [.ref 39, .int 28, .int 0, .int 0, .int 0]) (la := [some (.ref 39), some (.int 28), some (.int 0), some (.int 0), some (.int 0)]) (rest := []) hi_211_241 (am_hd0 (M := 211) (by decide) 241) (Nat.le_of_ble_eq_true rfl) (Nat.le_of_ble_eq_true rfl) (show 5 ≤ am_P0.2.2.1 179 from by decide +kernel) rfl (am_recv_ok hS548.fs) rfl rfl (ct_pile (d := (d + 5)) hS548 hR555_ (mj_e_plain (by decide)) (by show (0 : Int) ≤ (f 10).toInt; omega) (by show (f 10).toInt ≤ (65535 : Int); omega)) ?_
              rintro v556 S557 (⟨z558, g'559, hv560, hS561, hR564, h562, h563⟩)
              subst hv560
              have h562_ : z558.toInt = (f 10).toInt + 1 := h562
              have h563_ : ∀ j, j ∉ [11, 12, 13, 14] → g'559 j = g'546 j := h563
              replace hS561 : MS S0 S557 (upd (upd (upd (upd f 10 z558) 62 o543) 68 s544) 75 m545) g'559 := hS561
              have hR564_ : RJ (upd (upd (upd (upd f 10 z558) 62 o543) 68 s544) 75 m545) g'559 (((28 : Int), (0 : Int), (0 : Int), (0 : Int), []) :: gs) bc [] 0 [] := hR564
              show am_E _ _ _ _ [some (.ref 39), some (.int r2), some (.int (f 4)), none] [] _ _
              refine am_e2 (v := 39) hi_211_244 rfl ?_
              refine am_e0 hi_211_245 ?_
              refine am_e32w (as := [.ref 39, .int 0]) (la := [some (.ref 39), some (.int 0), none]) (rest := []) hi_211_246 (am_hd0 (M := 211) (by decide) 246) (Nat.le_of_ble_eq_true rfl) (Nat.le_of_ble_eq_true rfl) (show 2 ≤ am_P0.2.2.1 212 from by decide +kernel) rfl (am_recv_ok hS561.fs) rfl rfl ?_
              refine am_e2 (v := 39) hi_212_0 rfl ?_
              refine mm_20 (v := .int (f 4)) hS561 hi_212_1 rfl ?_
              refine am_e3 (ls' := [some (.ref 39), some (.int 0), some (.int (f 4))]) hi_212_4 (Nat.le_of_ble_eq_true rfl) rfl ?_
              refine am_e2 (v := 39) hi_212_5 rfl ?_
              refine am_e32n (as := [.ref 39]) (la := [some (.ref 39)]) (rest := []) hi_212_6 (am_hd0 (M := 212) (by decide) 6) (Nat.le_of_ble_eq_true rfl) (Nat.le_of_ble_eq_true rfl) (show 1 ≤ am_P0.2.2.1 183 from by decide +kernel) rfl (am_recv_ok hS561.fs) rfl rfl (ct_next (d := (d + 3)) hS561   (by show (0 : Int) ≤ (f 4).toInt; omega) (by show (f 0).toInt ≤ (16384 : Int); omega)) ?_
              rintro v565 S566 (⟨r567, hv568, hS569, h570⟩)
              subst hv568
              have h570_ : (f 4).toInt < (f 0).toInt ∨ r567.toInt = (-1 : Int) := h570
              show am_E _ _ _ _ [some (.ref 39), some (.int 0), some (.int (f 4))] [.int r567] _ _
              refine am_e0 hi_212_9 ?_
              by_cases c572 : ¬ r567.toInt = (3 : Int)
              · refine am_e13t hi_212_10 (am_cT (m := r567.toInt) (n := (3 : Int)) rfl (by decide) c572) ?_
                refine am_e2 (v := 39) hi_212_52 rfl ?_
                refine am_e32n (as := [.ref 39]) (la := [some (.ref 39)]) (rest := []) hi_212_53 (am_hd0 (M := 212) (by decide) 53) (Nat.le_of_ble_eq_true rfl) (Nat.le_of_ble_eq_true rfl) (show 1 ≤ am_P0.2.2.1 183 from by decide +kernel) rfl (am_recv_ok hS569.fs) rfl rfl (ct_next (d := (d + 3)) hS569   (by show (0 : Int) ≤ (f 4).toInt; omega) (by show (f 0).toInt ≤ (16384 : Int); omega)) ?_
                rintro v573 S574 (⟨r575, hv576, hS577, h578⟩)
                subst hv576
                have h578_ : (f 4).toInt < (f 0).toInt ∨ r575.toInt = (-1 : Int) := h578
                show am_E _ _ _ _ [some (.ref 39), some (.int 0), some (.int (f 4))] [.int r575] _ _
                refine am_e0 hi_212_56 ?_
                by_cases c580 : ¬ r575.toInt = (62 : Int)
                · refine am_e13t hi_212_58 (am_cT (m := r575.toInt) (n := (62 : Int)) rfl (by decide) c580) ?_
                  refine am_e2 (v := 39) hi_212_77 rfl ?_
                  refine am_e0 hi_212_78 ?_
                  refine am_e32n (as := [.ref 39, .int 60]) (la := [some (.ref 39), some (.int 60)]) (rest := []) hi_212_80 (am_hd0 (M := 212) (by decide) 80) (Nat.le_of_ble_eq_true rfl) (Nat.le_of_ble_eq_true rfl) (show 2 ≤ am_P0.2.2.1 193 from by decide +kernel) rfl (am_recv_ok hS577.fs) rfl rfl (ct_enter (d := (d + 2)) hS577   (by show (0 : Int) ≤ (f 4).toInt; omega) (by show (f 0).toInt ≤ (16384 : Int); omega) (by show (0 : Int) ≤ (60 : Int); omega) (by show (0 : Int) ≤ (f 5).toInt; omega) (by show (f 5).toInt ≤ (48 : Int); omega)) ?_
                  rintro v581 S582 (⟨z583, y584, hv585, hS586, h587, h588, h589, h590⟩ | ⟨a592, b593, hv594, hS595⟩)
                  · subst hv585
                    have h587_ : z583.toInt = (f 4).toInt + 1 := h587
                    have h588_ : (f 4).toInt < (f 0).toInt := h588
                    have h589_ : y584.toInt = (f 5).toInt + 1 := h589
                    have h590_ : y584.toInt ≤ (48 : Int) := h590
                    replace hS586 : MS S0 S582 (upd (upd (upd (upd (upd (upd f 4 z583) 5 y584) 10 z558) 62 o543) 68 s544) 75 m545) g'559 := hS586
                    have hR597 : RJ (upd (upd (upd (upd (upd (upd f 4 z583) 5 y584) 10 z558) 62 o543) 68 s544) 75 m545) g'559 (((28 : Int), (0 : Int), (0 : Int), (0 : Int), []) :: gs) bc [] 0 [] := RJ.at hR564_ (by show (f 4).toInt ≤ z583.toInt; omega)
                    show am_E _ _ _ _ [some (.ref 39), some (.int 0), some (.int (f 4))] [.int 1] _ _
                    refine am_e12f hi_212_83 (by decide) ?_
                    refine am_e2 (v := 39) hi_212_86 rfl ?_
                    refine am_e32n (as := [.ref 39]) (la := [some (.ref 39)]) (rest := []) hi_212_87 (am_hd0 (M := 212) (by decide) 87) (Nat.le_of_ble_eq_true rfl) (Nat.le_of_ble_eq_true rfl) (show 1 ≤ am_P0.2.2.1 183 from by decide +kernel) rfl (am_recv_ok hS586.fs) rfl rfl (ct_next (d := (d + 3)) hS586   (by show (0 : Int) ≤ z583.toInt; omega) (by show (f 0).toInt ≤ (16384 : Int); omega)) ?_
                    rintro v598 S599 (⟨r600, hv601, hS602, h603⟩)
                    subst hv601
                    have h603_ : z583.toInt < (f 0).toInt ∨ r600.toInt = (-1 : Int) := h603
                    show am_E _ _ _ _ [some (.ref 39), some (.int 0), some (.int (f 4))] [.int r600] _ _
                    refine am_e0 hi_212_90 ?_
                    by_cases c605 : ¬ r600.toInt = (61 : Int)
                    · refine am_e13t hi_212_92 (am_cT (m := r600.toInt) (n := (61 : Int)) rfl (by decide) c605) ?_
                      refine am_e2 (v := 39) hi_212_112 rfl ?_
                      refine am_e0 hi_212_113 ?_
                      refine am_e1 (v := 0) hi_212_115 rfl ?_
                      refine am_e1 (v := f 4) hi_212_116 rfl ?_
                      refine am_e0 hi_212_117 ?_
                      refine am_e32n (as := [.ref 39, .int 32, .int 0, .int (f 4), .int 0]) (la := [some (.ref 39), some (.int 32), some (.int 0), some (.int (f 4)), some (.int 0)]) (rest := []) hi_212_118 (am_hd0 (M := 212) (by decide) 118) (Nat.le_of_ble_eq_true rfl) (Nat.le_of_ble_eq_true rfl) (show 5 ≤ am_P0.2.2.1 179 from by decide +kernel) rfl (am_recv_ok hS602.fs) rfl rfl (ct_pile (d := (d + 4)) hS602 hR597 (mj_e_plain (by decide)) (by show (0 : Int) ≤ z558.toInt; omega) (by show z558.toInt ≤ (65535 : Int); omega)) ?_
                      rintro v606 S607 (⟨z608, g'609, hv610, hS611, hR614, h612, h613⟩)
                      subst hv610
                      have h612_ : z608.toInt = z558.toInt + 1 := h612
                      have h613_ : ∀ j, j ∉ [11, 12, 13, 14] → g'609 j = g'559 j := h613
                      replace hS611 : MS S0 S607 (upd (upd (upd (upd (upd (upd f 4 z583) 5 y584) 10 z608) 62 o543) 68 s544) 75 m545) g'609 := hS611
                      have hR614_ : RJ (upd (upd (upd (upd (upd (upd f 4 z583) 5 y584) 10 z608) 62 o543) 68 s544) 75 m545) g'609 (((32 : Int), (0 : Int), (f 4).toInt, (0 : Int), []) :: (((28 : Int), (0 : Int), (0 : Int), (0 : Int), []) :: gs)) bc [] 0 [] := hR614
                      show am_E _ _ _ _ [some (.ref 39), some (.int 0), some (.int (f 4))] [] _ _
                      refine am_e2 (v := 39) hi_212_121 rfl ?_
                      refine am_e32w (as := [.ref 39]) (la := [some (.ref 39)]) (rest := []) hi_212_122 (am_hd0 (M := 212) (by decide) 122) (Nat.le_of_ble_eq_true rfl) (Nat.le_of_ble_eq_true rfl) (show 1 ≤ am_P0.2.2.1 214 from by decide +kernel) rfl (am_recv_ok hS611.fs) rfl rfl ?_
                      refine am_e2 (v := 39) hi_214_0 rfl ?_
                      refine am_e0 hi_214_1 ?_
                      refine am_e0 hi_214_3 ?_
                      refine am_e0 hi_214_4 ?_
                      refine am_e0 hi_214_5 ?_
                      refine am_e32n (as := [.ref 39, .int 34, .int 1, .int 0, .int 0]) (la := [some (.ref 39), some (.int 34), some (.int 1), some (.int 0), some (.int 0)]) (rest := []) hi_214_6 (am_hd0 (M := 214) (by decide) 6) (Nat.le_of_ble_eq_true rfl) (Nat.le_of_ble_eq_true rfl) (show 5 ≤ am_P0.2.2.1 179 from by decide +kernel) rfl (am_recv_ok hS611.fs) rfl rfl (ct_pile (d := (d + 3)) hS611 hR614_ (mj_e_plain (by decide)) (by show (0 : Int) ≤ z608.toInt; omega) (by show z608.toInt ≤ (65535 : Int); omega)) ?_
                      rintro v615 S616 (⟨z617, g'618, hv619, hS620, hR623, h621, h622⟩)
                      subst hv619
                      have h621_ : z617.toInt = z608.toInt + 1 := h621
                      have h622_ : ∀ j, j ∉ [11, 12, 13, 14] → g'618 j = g'609 j := h622
                      replace hS620 : MS S0 S616 (upd (upd (upd (upd (upd (upd f 4 z583) 5 y584) 10 z617) 62 o543) 68 s544) 75 m545) g'618 := hS620
                      have hR623_ : RJ (upd (upd (upd (upd (upd (upd f 4 z583) 5 y584) 10 z617) 62 o543) 68 s544) 75 m545) g'618 (((34 : Int), (1 : Int), (0 : Int), (0 : Int), []) :: (((32 : Int), (0 : Int), (f 4).toInt, (0 : Int), []) :: (((28 : Int), (0 : Int), (0 : Int), (0 : Int), []) :: gs))) bc [] 0 [] := hR623
                      show am_E _ _ _ _ [some (.ref 39)] [] _ _
                      refine am_e2 (v := 39) hi_214_9 rfl ?_
                      refine am_e0 hi_214_10 ?_
                      refine am_e32w (as := [.ref 39, .int 0]) (la := [some (.ref 39), some (.int 0)]) (rest := []) hi_214_11 (am_hd0 (M := 214) (by decide) 11) (Nat.le_of_ble_eq_true rfl) (Nat.le_of_ble_eq_true rfl) (show 2 ≤ am_P0.2.2.1 186 from by decide +kernel) rfl (am_recv_ok hS620.fs) rfl rfl ?_
                      refine am_e2 (v := 39) hi_186_0 rfl ?_
                      refine am_e0 hi_186_1 ?_
                      refine am_e1 (v := 0) hi_186_3 rfl ?_
                      refine am_e0 hi_186_4 ?_
                      refine am_e0 hi_186_5 ?_
                      refine am_e32n (as := [.ref 39, .int 23, .int 0, .int 0, .int 0]) (la := [some (.ref 39), some (.int 23), some (.int 0), some (.int 0), some (.int 0)]) (rest := []) hi_186_6 (am_hd0 (M := 186) (by decide) 6) (Nat.le_of_ble_eq_true rfl) (Nat.le_of_ble_eq_true rfl) (show 5 ≤ am_P0.2.2.1 179 from by decide +kernel) rfl (am_recv_ok hS620.fs) rfl rfl (ct_pile (d := (d + 2)) hS620 hR623_ (mj_e_plain (by decide)) (by show (0 : Int) ≤ z617.toInt; omega) (by show z617.toInt ≤ (65535 : Int); omega)) ?_
                      rintro v624 S625 (⟨z626, g'627, hv628, hS629, hR632, h630, h631⟩)
                      subst hv628
                      have h630_ : z626.toInt = z617.toInt + 1 := h630
                      have h631_ : ∀ j, j ∉ [11, 12, 13, 14] → g'627 j = g'618 j := h631
                      replace hS629 : MS S0 S625 (upd (upd (upd (upd (upd (upd f 4 z583) 5 y584) 10 z626) 62 o543) 68 s544) 75 m545) g'627 := hS629
                      have hR632_ : RJ (upd (upd (upd (upd (upd (upd f 4 z583) 5 y584) 10 z626) 62 o543) 68 s544) 75 m545) g'627 (((23 : Int), (0 : Int), (0 : Int), (0 : Int), []) :: (((34 : Int), (1 : Int), (0 : Int), (0 : Int), []) :: (((32 : Int), (0 : Int), (f 4).toInt, (0 : Int), []) :: (((28 : Int), (0 : Int), (0 : Int), (0 : Int), []) :: gs)))) bc [] 0 [] := hR632
                      show am_E _ _ _ _ [some (.ref 39), some (.int 0)] [] _ _
                      refine am_e35 hi_186_9 ?_
                      show am_E _ _ _ _ [some (.ref 39)] [] _ _
                      refine am_e35 hi_214_14 ?_
                      show am_E _ _ _ _ [some (.ref 39), some (.int 0), some (.int (f 4))] [] _ _
                      refine am_e35 hi_212_125 ?_
                      show am_E _ _ _ _ [some (.ref 39), some (.int r2), some (.int (f 4)), none] [] _ _
                      refine am_e35 hi_211_249 ?_
                      show am_E _ _ _ _ [some (.ref 39), some (.int 28), some (.int on), some (.int tw)] [] _ _
                      refine am_e18 hi_181_180 ?_
                      refine am_e35 hi_181_397 ?_
                      show am_E _ _ _ _ [some (.ref 39), some (.int 28), some (.int on), some (.int tw), some (.int th)] [] _ _
                      refine am_e35 hi_180_13 ?_
                      have q1 : mg_p1 (((23 : Int), (0 : Int), (0 : Int), (0 : Int), []) :: (((34 : Int), (1 : Int), (0 : Int), (0 : Int), []) :: (((32 : Int), (0 : Int), (f 4).toInt, (0 : Int), []) :: (((28 : Int), (0 : Int), (0 : Int), (0 : Int), []) :: gs)))) = 0 + (0 + (0 + (0 + (mg_p1 gs)))) := rfl
                      have q2 : mg_p2 (((23 : Int), (0 : Int), (0 : Int), (0 : Int), []) :: (((34 : Int), (1 : Int), (0 : Int), (0 : Int), []) :: (((32 : Int), (0 : Int), (f 4).toInt, (0 : Int), []) :: (((28 : Int), (0 : Int), (0 : Int), (0 : Int), []) :: gs)))) = 0 + (((1 : Int) - 1) + (0 + (0 + (mg_p2 gs)))) := rfl
                      have q3 : mg_p3 (((23 : Int), (0 : Int), (0 : Int), (0 : Int), []) :: (((34 : Int), (1 : Int), (0 : Int), (0 : Int), []) :: (((32 : Int), (0 : Int), (f 4).toInt, (0 : Int), []) :: (((28 : Int), (0 : Int), (0 : Int), (0 : Int), []) :: gs)))) = 1 + (1 + (1 + (1 + (mg_p3 gs)))) := rfl
                      have q4 : mg_p4 (((23 : Int), (0 : Int), (0 : Int), (0 : Int), []) :: (((34 : Int), (1 : Int), (0 : Int), (0 : Int), []) :: (((32 : Int), (0 : Int), (f 4).toInt, (0 : Int), []) :: (((28 : Int), (0 : Int), (0 : Int), (0 : Int), []) :: gs)))) = 0 + (0 + (0 + (0 + (mg_p4 gs)))) := rfl
                      refine ⟨_, _, _, bc, rfl, hS629, Or.inl ⟨⟨hR632_, ?_, ?_⟩, rfl, ?_⟩⟩
                      · exact (⟨⟨(show mg_k 23 from by decide), (show (0 : Int) ≤ (f 15).toInt from by omega), (show 0 ≤ (f 20).toInt from by omega), (show 1 ≤ (f 37).toInt from by omega), (show 0 ≤ (f 32).toInt from by omega), (show (f 32).toInt ≤ y584.toInt from by omega), (show y584.toInt ≤ 48 from by omega), (show (f 37).toInt ≤ 2 * (y584.toInt) + 2 from by omega), (show 0 ≤ (0 : Int) from by omega)⟩, ⟨⟨(show mg_k 34 from by decide), (show (1 : Int) ≤ (f 15).toInt + 1 from by omega), (show 0 ≤ (f 20).toInt from by omega), (show 1 ≤ (f 37).toInt + 0 from by omega), (show 0 ≤ (f 32).toInt + 0 from by omega), (show (f 32).toInt + 0 ≤ y584.toInt + 0 from by omega), (show y584.toInt + 0 ≤ 48 from by omega), (show (f 37).toInt + 0 ≤ 2 * (y584.toInt + 0) + 2 from by omega), (show 1 ≤ (1 : Int) from by omega)⟩, ⟨⟨(show mg_k 32 from by decide), (show (2 : Int) ≤ (f 15).toInt + 1 + 0 from by omega), (show 0 ≤ (f 20).toInt from by omega), (show 1 ≤ (f 37).toInt + 0 + 0 from by omega), (show 0 ≤ (f 32).toInt + 0 + 0 from by omega), (show (f 32).toInt + 0 + 0 ≤ y584.toInt + 0 + 0 from by omega), (show y584.toInt + 0 + 0 ≤ 48 from by omega), (show (f 37).toInt + 0 + 0 ≤ 2 * (y584.toInt + 0 + 0) + 2 from by omega), trivial⟩, ⟨⟨(show mg_k 28 from by decide), (show (1 : Int) ≤ (f 15).toInt + 1 + 0 + -1 from by omega), (show 0 ≤ (f 20).toInt from by omega), (show 1 ≤ (f 37).toInt + 0 + 0 + 0 from by omega), (show 0 ≤ (f 32).toInt + 0 + 0 + 0 from by omega), (show (f 32).toInt + 0 + 0 + 0 ≤ y584.toInt + 0 + 0 + -1 from by omega), (show y584.toInt + 0 + 0 + -1 ≤ 48 from by omega), (show (f 37).toInt + 0 + 0 + 0 ≤ 2 * (y584.toInt + 0 + 0 + -1) + 2 from by omega), trivial⟩, mg_cast (mg_good_ext _ _ _ _ _ _ (fun i _ => by show g'627 34 i = g 34 i; rw [show g'627 34 = g'618 34 from h631_ 34 (by decide), show g'618 34 = g'609 34 from h622_ 34 (by decide), show g'609 34 = g'559 34 from h613_ 34 (by decide), show g'559 34 = g'546 34 from h563_ 34 (by decide), show g'546 34 = g 34 from h554_ 34 (by decide)]) (fun i _ => by show g'627 38 i = g 38 i; rw [show g'627 38 = g'618 38 from h631_ 38 (by decide), show g'618 38 = g'609 38 from h622_ 38 (by decide), show g'609 38 = g'559 38 from h613_ 38 (by decide), show g'559 38 = g'546 38 from h563_ 38 (by decide), show g'546 38 = g 38 from h554_ 38 (by decide)]) (fun i _ => by show g'627 23 i = g 23 i; rw [show g'627 23 = g'618 23 from h631_ 23 (by decide), show g'618 23 = g'609 23 from h622_ 23 (by decide), show g'609 23 = g'559 23 from h613_ 23 (by decide), show g'559 23 = g'546 23 from h563_ 23 (by decide), show g'546 23 = g 23 from h554_ 23 (by decide)]) hrest) (by show (f 15).toInt + 0 = (f 15).toInt + 1 + 0 + -1 + 0; omega) (by show (f 20).toInt = (f 20).toInt; omega) (by show (f 37).toInt + 0 = (f 37).toInt + 0 + 0 + 0 + 0; omega) (by show (f 32).toInt + 0 = (f 32).toInt + 0 + 0 + 0 + 0; omega) (by show (f 5).toInt + 0 = y584.toInt + 0 + 0 + -1 + 0; omega)⟩⟩⟩⟩ : mg_good (g'627 34) (g'627 38) (g'627 23) (((23 : Int), (0 : Int), (0 : Int), (0 : Int), []) :: (((34 : Int), (1 : Int), (0 : Int), (0 : Int), []) :: (((32 : Int), (0 : Int), (f 4).toInt, (0 : Int), []) :: (((28 : Int), (0 : Int), (0 : Int), (0 : Int), []) :: gs)))) ((f 15).toInt) ((f 20).toInt) ((f 37).toInt) ((f 32).toInt) (y584.toInt))
                      · exact ⟨(by show 0 ≤ z583.toInt; omega), (by show z583.toInt ≤ (f 0).toInt; omega), (by show (f 0).toInt ≤ 512; omega), (by show 0 ≤ (f 24).toInt; omega), (by show (f 24).toInt + (f 20).toInt + mg_p1 (((23 : Int), (0 : Int), (0 : Int), (0 : Int), []) :: (((34 : Int), (1 : Int), (0 : Int), (0 : Int), []) :: (((32 : Int), (0 : Int), (f 4).toInt, (0 : Int), []) :: (((28 : Int), (0 : Int), (0 : Int), (0 : Int), []) :: gs)))) ≤ 4 * z583.toInt; omega), (by show (f 20).toInt ≤ z583.toInt; omega), (by show (f 15).toInt + mg_p2 (((23 : Int), (0 : Int), (0 : Int), (0 : Int), []) :: (((34 : Int), (1 : Int), (0 : Int), (0 : Int), []) :: (((32 : Int), (0 : Int), (f 4).toInt, (0 : Int), []) :: (((28 : Int), (0 : Int), (0 : Int), (0 : Int), []) :: gs)))) ≤ z583.toInt; omega), (by show mg_p3 (((23 : Int), (0 : Int), (0 : Int), (0 : Int), []) :: (((34 : Int), (1 : Int), (0 : Int), (0 : Int), []) :: (((32 : Int), (0 : Int), (f 4).toInt, (0 : Int), []) :: (((28 : Int), (0 : Int), (0 : Int), (0 : Int), []) :: gs)))) ≤ 20 * z583.toInt + 20; omega), (by show 0 ≤ s544.toInt; omega), (by show s544.toInt + 3 * (f 20).toInt + mg_p4 (((23 : Int), (0 : Int), (0 : Int), (0 : Int), []) :: (((34 : Int), (1 : Int), (0 : Int), (0 : Int), []) :: (((32 : Int), (0 : Int), (f 4).toInt, (0 : Int), []) :: (((28 : Int), (0 : Int), (0 : Int), (0 : Int), []) :: gs)))) ≤ 60 * z583.toInt + 60; omega), (by show 0 ≤ o543.toInt; omega), (by show o543.toInt + 64 * mj_n (g'627 16) (f 15).toNatClampNeg 3 ≤ 64 * z583.toInt; rw [show g'627 16 = g'618 16 from h631_ 16 (by decide), show g'618 16 = g'609 16 from h622_ 16 (by decide), show g'609 16 = g'559 16 from h613_ 16 (by decide), show g'559 16 = g'546 16 from h563_ 16 (by decide)]; omega), (by show 0 ≤ (f 44).toInt; omega), (by show (f 44).toInt ≤ z583.toInt; omega), (by show 0 ≤ (f 48).toInt; omega), (by show (f 48).toInt ≤ z583.toInt; omega), (by show 1 ≤ (f 53).toInt; omega), (by show (f 53).toInt ≤ z583.toInt + 1; omega), (by show 0 ≤ (f 19).toInt; omega), (by show (f 19).toInt ≤ 600; omega)⟩
                      · show 100 * ((f 0).toInt - z583.toInt) + mg_p3 (((23 : Int), (0 : Int), (0 : Int), (0 : Int), []) :: (((34 : Int), (1 : Int), (0 : Int), (0 : Int), []) :: (((32 : Int), (0 : Int), (f 4).toInt, (0 : Int), []) :: (((28 : Int), (0 : Int), (0 : Int), (0 : Int), []) :: gs)))) < 100 * ((f 0).toInt - (f 4).toInt) + (1 + mg_p3 gs); omega
                    · refine am_e13f hi_212_92 (am_cF (m := r600.toInt) (n := (61 : Int)) rfl (by decide) c605) ?_
                      refine am_e2 (v := 39) hi_212_95 rfl ?_
                      refine am_e0 hi_212_96 ?_
                      refine am_e32n (as := [.ref 39, .int 61]) (la := [some (.ref 39), some (.int 61)]) (rest := []) hi_212_98 (am_hd0 (M := 212) (by decide) 98) (Nat.le_of_ble_eq_true rfl) (Nat.le_of_ble_eq_true rfl) (show 2 ≤ am_P0.2.2.1 199 from by decide +kernel) rfl (am_recv_ok hS602.fs) rfl rfl (ct_leave (d := (d + 1)) hS602   (by show (0 : Int) ≤ z583.toInt; omega) (by show (f 0).toInt ≤ (16384 : Int); omega) (by show (0 : Int) ≤ (61 : Int); omega) (by show (0 : Int) ≤ y584.toInt; omega) (by show y584.toInt ≤ (48 : Int); omega)) ?_
                      rintro v633 S634 (⟨z635, y636, hv637, hS638, h639, h640, h641⟩ | ⟨a643, b644, hv645, hS646⟩)
                      · subst hv637
                        have h639_ : z635.toInt = z583.toInt + 1 := h639
                        have h640_ : z583.toInt < (f 0).toInt := h640
                        have h641_ : y636.toInt = y584.toInt - 1 := h641
                        replace hS638 : MS S0 S634 (upd (upd (upd (upd (upd (upd f 4 z635) 5 y636) 10 z558) 62 o543) 68 s544) 75 m545) g'559 := hS638
                        have hR648 : RJ (upd (upd (upd (upd (upd (upd f 4 z635) 5 y636) 10 z558) 62 o543) 68 s544) 75 m545) g'559 (((28 : Int), (0 : Int), (0 : Int), (0 : Int), []) :: gs) bc [] 0 [] := RJ.at hR597 (by show z583.toInt ≤ z635.toInt; omega)
                        show am_E _ _ _ _ [some (.ref 39), some (.int 0), some (.int (f 4))] [.int 1] _ _
                        refine am_e6i hi_212_101 ?_
                        refine am_e2 (v := 39) hi_212_102 rfl ?_
                        refine am_e1 (v := 0) hi_212_103 rfl ?_
                        refine am_e0 hi_212_104 ?_
                        refine am_e1 (v := f 4) hi_212_105 rfl ?_
                        refine am_e32w (as := [.ref 39, .int 0, .int 0, .int (f 4)]) (la := [some (.ref 39), some (.int 0), some (.int 0), some (.int (f 4)), none]) (rest := []) hi_212_106 (am_hd0 (M := 212) (by decide) 106) (Nat.le_of_ble_eq_true rfl) (Nat.le_of_ble_eq_true rfl) (show 4 ≤ am_P0.2.2.1 213 from by decide +kernel) rfl (am_recv_ok hS638.fs) rfl rfl ?_
                        refine am_e2 (v := 39) hi_213_0 rfl ?_
                        refine am_e0 hi_213_1 ?_
                        refine am_e1 (v := 0) hi_213_3 rfl ?_
                        refine am_e1 (v := 0) hi_213_4 rfl ?_
                        refine am_e0 hi_213_5 ?_
                        refine am_e10 (z := 2) hi_213_6 (by decide) ?_
                        refine am_e1 (v := f 4) hi_213_7 rfl ?_
                        refine am_e32n (as := [.ref 39, .int 13, .int 0, .int 2, .int (f 4)]) (la := [some (.ref 39), some (.int 13), some (.int 0), some (.int 2), some (.int (f 4))]) (rest := []) hi_213_8 (am_hd0 (M := 213) (by decide) 8) (Nat.le_of_ble_eq_true rfl) (Nat.le_of_ble_eq_true rfl) (show 5 ≤ am_P0.2.2.1 189 from by decide +kernel) rfl (am_recv_ok hS638.fs) rfl rfl (ct_put (d := (d + 3)) hS638 hR648  (by show (0 : Int) ≤ (f 32).toInt; omega) (by show (f 32).toInt ≤ (63 : Int); omega) (by show (f 53).toInt ≤ (4096 : Int); omega) (by show (0 : Int) ≤ s544.toInt; omega) (by show s544.toInt ≤ (65534 : Int); omega)) ?_
                        rintro v649 S650 (⟨z651, r652, g'653, hv654, hS655, hR659, h656, h657, h658⟩)
                        subst hv654
                        have h656_ : z651.toInt = s544.toInt + 1 := h656
                        have h657_ : r652.toInt = s544.toInt := h657
                        have h658_ : ∀ j, j ∉ [60, 69, 70, 71, 72, 73] → g'653 j = g'559 j := h658
                        replace hS655 : MS S0 S650 (upd (upd (upd (upd (upd (upd f 4 z635) 5 y636) 10 z558) 62 o543) 68 z651) 75 m545) g'653 := hS655
                        have hR659_ : RJ (upd (upd (upd (upd (upd (upd f 4 z635) 5 y636) 10 z558) 62 o543) 68 z651) 75 m545) g'653 (((28 : Int), (0 : Int), (0 : Int), (0 : Int), []) :: gs) bc [] 0 (s544.toNatClampNeg :: []) := hR659
                        show am_E _ _ _ _ [some (.ref 39), some (.int 0), some (.int 0), some (.int (f 4)), none] [.int r652] _ _
                        refine am_e3 (ls' := [some (.ref 39), some (.int 0), some (.int 0), some (.int (f 4)), some (.int r652)]) hi_213_11 (Nat.le_of_ble_eq_true rfl) rfl ?_
                        refine am_e2 (v := 39) hi_213_13 rfl ?_
                        refine am_e7 hi_213_14 ?_
                        refine mm_20 (v := .int (f 15)) hS655 hi_213_15 rfl ?_
                        refine am_e0 hi_213_18 ?_
                        obtain ⟨z660, hz660, tz660⟩ := am_subI (x := f 15) (y := 1) (m := (f 15).toInt) (n := (1 : Int)) rfl (by decide) (by omega) (by omega)
                        refine am_e10 (z := z660) hi_213_19 hz660 ?_
                        refine mm_21 (v := z660) hS655 hi_213_20 rfl (Nat.le_of_ble_eq_true rfl) ms_15 ?_
                        intro S661 hS662
                        replace hS662 : MS S0 S661 (upd (upd (upd (upd (upd (upd (upd f 4 z635) 5 y636) 10 z558) 15 z660) 62 o543) 68 z651) 75 m545) g'653 := hS662
                        have hp663 : mj_n (g'546 16) (f 15).toNatClampNeg 3 = mj_n (g'546 16) z660.toNatClampNeg 3 + if (g'546 16 z660.toNatClampNeg).toInt = 3 then 1 else 0 := mj_pop (by rw [cl_toNat, cl_toNat]; omega)
                        have hp6631 : mj_n (g'546 16) z660.toNatClampNeg 3 ≤ mj_n (g'546 16) (f 15).toNatClampNeg 3 := by rw [hp663]; split <;> omega
                        have hp6632 : (g'546 16 z660.toNatClampNeg).toInt = 3 → mj_n (g'546 16) z660.toNatClampNeg 3 + 1 ≤ mj_n (g'546 16) (f 15).toNatClampNeg 3 := fun q => by rw [hp663, if_pos q]; exact Int.le_refl _
                        refine am_e2 (v := 39) hi_213_23 rfl ?_
                        refine am_e0 hi_213_24 ?_
                        refine am_e1 (v := r652) hi_213_25 rfl ?_
                        refine am_e1 (v := f 4) hi_213_27 rfl ?_
                        refine am_e32n (as := [.ref 39, .int 1, .int r652, .int (f 4)]) (la := [some (.ref 39), some (.int 1), some (.int r652), some (.int (f 4))]) (rest := []) hi_213_28 (am_hd0 (M := 213) (by decide) 28) (Nat.le_of_ble_eq_true rfl) (Nat.le_of_ble_eq_true rfl) (show 4 ≤ am_P0.2.2.1 190 from by decide +kernel) rfl (am_recv_ok hS662.fs) rfl rfl (ct_value (d := (d + 3)) hS662 hR659_ (fun h => absurd h (by decide)) (fun _ => ⟨by omega, by omega⟩) (by show (0 : Int) ≤ z660.toInt; omega) (by show z660.toInt ≤ (32767 : Int); omega)) ?_
                        rintro v664 S665 (⟨z666, g'667, hv668, hS669, hR674, h670, h671, h672, h673⟩)
                        subst hv668
                        have h670_ : z666.toInt = z660.toInt + 1 := h670
                        have h671_ : ∀ j, j ∉ [16, 17, 18] → g'667 j = g'653 j := h671
                        have h672_ : mj_n (g'667 16) z666.toNatClampNeg 3 ≤ mj_n (g'546 16) z660.toNatClampNeg 3 + 1 := by rw [show g'653 16 = g'559 16 from h658_ 16 (by decide), show g'559 16 = g'546 16 from h563_ 16 (by decide)] at h672; exact h672
                        have h673_ : (1 : Int) = 3 ∨ mj_n (g'667 16) z666.toNatClampNeg 3 ≤ mj_n (g'546 16) z660.toNatClampNeg 3 := by rw [show g'653 16 = g'559 16 from h658_ 16 (by decide), show g'559 16 = g'546 16 from h563_ 16 (by decide)] at h673; exact h673
                        replace hS669 : MS S0 S665 (upd (upd (upd (upd (upd (upd (upd f 4 z635) 5 y636) 10 z558) 15 z666) 62 o543) 68 z651) 75 m545) g'667 := hS669
                        have hR674_ : RJ (upd (upd (upd (upd (upd (upd (upd f 4 z635) 5 y636) 10 z558) 15 z666) 62 o543) 68 z651) 75 m545) g'667 (((28 : Int), (0 : Int), (0 : Int), (0 : Int), []) :: gs) bc [] 0 (s544.toNatClampNeg :: []) := hR674
                        show am_E _ _ _ _ [some (.ref 39), some (.int 0), some (.int 0), some (.int (f 4)), some (.int r652)] [] _ _
                        refine am_e35 hi_213_31 ?_
                        show am_E _ _ _ _ [some (.ref 39), some (.int 0), some (.int (f 4))] [] _ _
                        refine am_e18 hi_212_109 ?_
                        refine am_e35 hi_212_125 ?_
                        show am_E _ _ _ _ [some (.ref 39), some (.int r2), some (.int (f 4)), none] [] _ _
                        refine am_e35 hi_211_249 ?_
                        show am_E _ _ _ _ [some (.ref 39), some (.int 28), some (.int on), some (.int tw)] [] _ _
                        refine am_e18 hi_181_180 ?_
                        refine am_e35 hi_181_397 ?_
                        show am_E _ _ _ _ [some (.ref 39), some (.int 28), some (.int on), some (.int tw), some (.int th)] [] _ _
                        refine am_e35 hi_180_13 ?_
                        have q1 : mg_p1 (((28 : Int), (0 : Int), (0 : Int), (0 : Int), []) :: gs) = 0 + (mg_p1 gs) := rfl
                        have q2 : mg_p2 (((28 : Int), (0 : Int), (0 : Int), (0 : Int), []) :: gs) = 0 + (mg_p2 gs) := rfl
                        have q3 : mg_p3 (((28 : Int), (0 : Int), (0 : Int), (0 : Int), []) :: gs) = 1 + (mg_p3 gs) := rfl
                        have q4 : mg_p4 (((28 : Int), (0 : Int), (0 : Int), (0 : Int), []) :: gs) = 0 + (mg_p4 gs) := rfl
                        refine ⟨_, _, _, bc, rfl, hS669, Or.inl ⟨⟨(RJ.fewer (pj' := []) hR674_ (fun _ h => nomatch h)), ?_, ?_⟩, rfl, ?_⟩⟩
                        · exact (⟨⟨(show mg_k 28 from by decide), (show (1 : Int) ≤ z666.toInt from by omega), (show 0 ≤ (f 20).toInt from by omega), (show 1 ≤ (f 37).toInt from by omega), (show 0 ≤ (f 32).toInt from by omega), (show (f 32).toInt ≤ y636.toInt from by omega), (show y636.toInt ≤ 48 from by omega), (show (f 37).toInt ≤ 2 * (y636.toInt) + 2 from by omega), trivial⟩, mg_cast (mg_good_ext _ _ _ _ _ _ (fun i _ => by show g'667 34 i = g 34 i; rw [show g'667 34 = g'653 34 from h671_ 34 (by decide), show g'653 34 = g'559 34 from h658_ 34 (by decide), show g'559 34 = g'546 34 from h563_ 34 (by decide), show g'546 34 = g 34 from h554_ 34 (by decide)]) (fun i _ => by show g'667 38 i = g 38 i; rw [show g'667 38 = g'653 38 from h671_ 38 (by decide), show g'653 38 = g'559 38 from h658_ 38 (by decide), show g'559 38 = g'546 38 from h563_ 38 (by decide), show g'546 38 = g 38 from h554_ 38 (by decide)]) (fun i _ => by show g'667 23 i = g 23 i; rw [show g'667 23 = g'653 23 from h671_ 23 (by decide), show g'653 23 = g'559 23 from h658_ 23 (by decide), show g'559 23 = g'546 23 from h563_ 23 (by decide), show g'546 23 = g 23 from h554_ 23 (by decide)]) hrest) (by show (f 15).toInt + 0 = z666.toInt + 0; omega) (by show (f 20).toInt = (f 20).toInt; omega) (by show (f 37).toInt + 0 = (f 37).toInt + 0; omega) (by show (f 32).toInt + 0 = (f 32).toInt + 0; omega) (by show (f 5).toInt + 0 = y636.toInt + 0; omega)⟩ : mg_good (g'667 34) (g'667 38) (g'667 23) (((28 : Int), (0 : Int), (0 : Int), (0 : Int), []) :: gs) (z666.toInt) ((f 20).toInt) ((f 37).toInt) ((f 32).toInt) (y636.toInt))
                        · exact ⟨(by show 0 ≤ z635.toInt; omega), (by show z635.toInt ≤ (f 0).toInt; omega), (by show (f 0).toInt ≤ 512; omega), (by show 0 ≤ (f 24).toInt; omega), (by show (f 24).toInt + (f 20).toInt + mg_p1 (((28 : Int), (0 : Int), (0 : Int), (0 : Int), []) :: gs) ≤ 4 * z635.toInt; omega), (by show (f 20).toInt ≤ z635.toInt; omega), (by show z666.toInt + mg_p2 (((28 : Int), (0 : Int), (0 : Int), (0 : Int), []) :: gs) ≤ z635.toInt; omega), (by show mg_p3 (((28 : Int), (0 : Int), (0 : Int), (0 : Int), []) :: gs) ≤ 20 * z635.toInt + 20; omega), (by show 0 ≤ z651.toInt; omega), (by show z651.toInt + 3 * (f 20).toInt + mg_p4 (((28 : Int), (0 : Int), (0 : Int), (0 : Int), []) :: gs) ≤ 60 * z635.toInt + 60; omega), (by show 0 ≤ o543.toInt; omega), (by show o543.toInt + 64 * mj_n (g'667 16) z666.toNatClampNeg 3 ≤ 64 * z635.toInt; omega), (by show 0 ≤ (f 44).toInt; omega), (by show (f 44).toInt ≤ z635.toInt; omega), (by show 0 ≤ (f 48).toInt; omega), (by show (f 48).toInt ≤ z635.toInt; omega), (by show 1 ≤ (f 53).toInt; omega), (by show (f 53).toInt ≤ z635.toInt + 1; omega), (by show 0 ≤ (f 19).toInt; omega), (by show (f 19).toInt ≤ 600; omega)⟩
                        · show 100 * ((f 0).toInt - z635.toInt) + mg_p3 (((28 : Int), (0 : Int), (0 : Int), (0 : Int), []) :: gs) < 100 * ((f 0).toInt - (f 4).toInt) + (1 + mg_p3 gs); omega
                      · subst hv645
                        replace hS646 : MS S0 S634 (upd (upd (upd (upd (upd (upd (upd (upd f 4 z583) 5 y584) 6 a643) 7 b644) 10 0) 62 o543) 68 s544) 75 m545) g'559 := hS646
                        have hR675 := rj_clear0 hR597
                        have hR676 : RJ (upd (upd (upd (upd (upd (upd (upd (upd f 4 z583) 5 y584) 6 a643) 7 b644) 10 0) 62 o543) 68 s544) 75 m545) g'559 [] bc [] 0 [] := hR675
                        show am_E _ _ _ _ [some (.ref 39), some (.int 0), some (.int (f 4))] [.int 0] _ _
                        refine am_e6i hi_212_101 ?_
                        refine am_e2 (v := 39) hi_212_102 rfl ?_
                        refine am_e1 (v := 0) hi_212_103 rfl ?_
                        refine am_e0 hi_212_104 ?_
                        refine am_e1 (v := f 4) hi_212_105 rfl ?_
                        refine am_e32w (as := [.ref 39, .int 0, .int 0, .int (f 4)]) (la := [some (.ref 39), some (.int 0), some (.int 0), some (.int (f 4)), none]) (rest := []) hi_212_106 (am_hd0 (M := 212) (by decide) 106) (Nat.le_of_ble_eq_true rfl) (Nat.le_of_ble_eq_true rfl) (show 4 ≤ am_P0.2.2.1 213 from by decide +kernel) rfl (am_recv_ok hS646.fs) rfl rfl ?_
                        refine am_e2 (v := 39) hi_213_0 rfl ?_
                        refine am_e0 hi_213_1 ?_
                        refine am_e1 (v := 0) hi_213_3 rfl ?_
                        refine am_e1 (v := 0) hi_213_4 rfl ?_
                        refine am_e0 hi_213_5 ?_
                        refine am_e10 (z := 2) hi_213_6 (by decide) ?_
                        refine am_e1 (v := f 4) hi_213_7 rfl ?_
                        refine am_e32n (as := [.ref 39, .int 13, .int 0, .int 2, .int (f 4)]) (la := [some (.ref 39), some (.int 13), some (.int 0), some (.int 2), some (.int (f 4))]) (rest := []) hi_213_8 (am_hd0 (M := 213) (by decide) 8) (Nat.le_of_ble_eq_true rfl) (Nat.le_of_ble_eq_true rfl) (show 5 ≤ am_P0.2.2.1 189 from by decide +kernel) rfl (am_recv_ok hS646.fs) rfl rfl (ct_put (d := (d + 3)) hS646 hR676  (by show (0 : Int) ≤ (f 32).toInt; omega) (by show (f 32).toInt ≤ (63 : Int); omega) (by show (f 53).toInt ≤ (4096 : Int); omega) (by show (0 : Int) ≤ s544.toInt; omega) (by show s544.toInt ≤ (65534 : Int); omega)) ?_
                        rintro v677 S678 (⟨z679, r680, g'681, hv682, hS683, hR687, h684, h685, h686⟩)
                        subst hv682
                        have h684_ : z679.toInt = s544.toInt + 1 := h684
                        have h685_ : r680.toInt = s544.toInt := h685
                        have h686_ : ∀ j, j ∉ [60, 69, 70, 71, 72, 73] → g'681 j = g'559 j := h686
                        replace hS683 : MS S0 S678 (upd (upd (upd (upd (upd (upd (upd (upd f 4 z583) 5 y584) 6 a643) 7 b644) 10 0) 62 o543) 68 z679) 75 m545) g'681 := hS683
                        have hR687_ : RJ (upd (upd (upd (upd (upd (upd (upd (upd f 4 z583) 5 y584) 6 a643) 7 b644) 10 0) 62 o543) 68 z679) 75 m545) g'681 [] bc [] 0 (s544.toNatClampNeg :: []) := hR687
                        show am_E _ _ _ _ [some (.ref 39), some (.int 0), some (.int 0), some (.int (f 4)), none] [.int r680] _ _
                        refine am_e3 (ls' := [some (.ref 39), some (.int 0), some (.int 0), some (.int (f 4)), some (.int r680)]) hi_213_11 (Nat.le_of_ble_eq_true rfl) rfl ?_
                        refine am_e2 (v := 39) hi_213_13 rfl ?_
                        refine am_e7 hi_213_14 ?_
                        refine mm_20 (v := .int (f 15)) hS683 hi_213_15 rfl ?_
                        refine am_e0 hi_213_18 ?_
                        obtain ⟨z688, hz688, tz688⟩ := am_subI (x := f 15) (y := 1) (m := (f 15).toInt) (n := (1 : Int)) rfl (by decide) (by omega) (by omega)
                        refine am_e10 (z := z688) hi_213_19 hz688 ?_
                        refine mm_21 (v := z688) hS683 hi_213_20 rfl (Nat.le_of_ble_eq_true rfl) ms_15 ?_
                        intro S689 hS690
                        replace hS690 : MS S0 S689 (upd (upd (upd (upd (upd (upd (upd (upd (upd f 4 z583) 5 y584) 6 a643) 7 b644) 10 0) 15 z688) 62 o543) 68 z679) 75 m545) g'681 := hS690
                        have hp691 : mj_n (g'546 16) (f 15).toNatClampNeg 3 = mj_n (g'546 16) z688.toNatClampNeg 3 + if (g'546 16 z688.toNatClampNeg).toInt = 3 then 1 else 0 := mj_pop (by rw [cl_toNat, cl_toNat]; omega)
                        have hp6911 : mj_n (g'546 16) z688.toNatClampNeg 3 ≤ mj_n (g'546 16) (f 15).toNatClampNeg 3 := by rw [hp691]; split <;> omega
                        have hp6912 : (g'546 16 z688.toNatClampNeg).toInt = 3 → mj_n (g'546 16) z688.toNatClampNeg 3 + 1 ≤ mj_n (g'546 16) (f 15).toNatClampNeg 3 := fun q => by rw [hp691, if_pos q]; exact Int.le_refl _
                        refine am_e2 (v := 39) hi_213_23 rfl ?_
                        refine am_e0 hi_213_24 ?_
                        refine am_e1 (v := r680) hi_213_25 rfl ?_
                        refine am_e1 (v := f 4) hi_213_27 rfl ?_
                        refine am_e32n (as := [.ref 39, .int 1, .int r680, .int (f 4)]) (la := [some (.ref 39), some (.int 1), some (.int r680), some (.int (f 4))]) (rest := []) hi_213_28 (am_hd0 (M := 213) (by decide) 28) (Nat.le_of_ble_eq_true rfl) (Nat.le_of_ble_eq_true rfl) (show 4 ≤ am_P0.2.2.1 190 from by decide +kernel) rfl (am_recv_ok hS690.fs) rfl rfl (ct_value (d := (d + 3)) hS690 hR687_ (fun h => absurd h (by decide)) (fun _ => ⟨by omega, by omega⟩) (by show (0 : Int) ≤ z688.toInt; omega) (by show z688.toInt ≤ (32767 : Int); omega)) ?_
                        rintro v692 S693 (⟨z694, g'695, hv696, hS697, hR702, h698, h699, h700, h701⟩)
                        subst hv696
                        have h698_ : z694.toInt = z688.toInt + 1 := h698
                        have h699_ : ∀ j, j ∉ [16, 17, 18] → g'695 j = g'681 j := h699
                        have h700_ : mj_n (g'695 16) z694.toNatClampNeg 3 ≤ mj_n (g'546 16) z688.toNatClampNeg 3 + 1 := by rw [show g'681 16 = g'559 16 from h686_ 16 (by decide), show g'559 16 = g'546 16 from h563_ 16 (by decide)] at h700; exact h700
                        have h701_ : (1 : Int) = 3 ∨ mj_n (g'695 16) z694.toNatClampNeg 3 ≤ mj_n (g'546 16) z688.toNatClampNeg 3 := by rw [show g'681 16 = g'559 16 from h686_ 16 (by decide), show g'559 16 = g'546 16 from h563_ 16 (by decide)] at h701; exact h701
                        replace hS697 : MS S0 S693 (upd (upd (upd (upd (upd (upd (upd (upd (upd f 4 z583) 5 y584) 6 a643) 7 b644) 10 0) 15 z694) 62 o543) 68 z679) 75 m545) g'695 := hS697
                        have hR702_ : RJ (upd (upd (upd (upd (upd (upd (upd (upd (upd f 4 z583) 5 y584) 6 a643) 7 b644) 10 0) 15 z694) 62 o543) 68 z679) 75 m545) g'695 [] bc [] 0 (s544.toNatClampNeg :: []) := hR702
                        show am_E _ _ _ _ [some (.ref 39), some (.int 0), some (.int 0), some (.int (f 4)), some (.int r680)] [] _ _
                        refine am_e35 hi_213_31 ?_
                        show am_E _ _ _ _ [some (.ref 39), some (.int 0), some (.int (f 4))] [] _ _
                        refine am_e18 hi_212_109 ?_
                        refine am_e35 hi_212_125 ?_
                        show am_E _ _ _ _ [some (.ref 39), some (.int r2), some (.int (f 4)), none] [] _ _
                        refine am_e35 hi_211_249 ?_
                        show am_E _ _ _ _ [some (.ref 39), some (.int 28), some (.int on), some (.int tw)] [] _ _
                        refine am_e18 hi_181_180 ?_
                        refine am_e35 hi_181_397 ?_
                        show am_E _ _ _ _ [some (.ref 39), some (.int 28), some (.int on), some (.int tw), some (.int th)] [] _ _
                        refine am_e35 hi_180_13 ?_
                        have hRc := rj_clear0 hR702_
                        refine ⟨_, _, [], _, rfl, hS697, Or.inr ⟨hRc, rfl, (by show 0 ≤ z583.toInt; omega), (by show z583.toInt ≤ (f 0).toInt; omega), (by show 0 ≤ (f 32).toInt; omega), (by show (f 32).toInt ≤ 63; omega), (by show 1 ≤ (f 53).toInt; omega), (by show (f 53).toInt ≤ 600; omega), (by show 0 ≤ z679.toInt; omega), (by show z679.toInt ≤ 60000; omega), (by show 0 ≤ (f 48).toInt; omega), (by show (f 48).toInt ≤ 8000; omega), (by show 0 ≤ (f 37).toInt; omega), (by show (f 37).toInt ≤ 128; omega), (by show 0 ≤ o543.toInt; omega), (by show o543.toInt ≤ 65000; omega), (by show 0 ≤ (f 19).toInt; omega), (by show (f 19).toInt ≤ 600; omega)⟩⟩
                  · subst hv594
                    replace hS595 : MS S0 S582 (upd (upd (upd (upd (upd (upd f 6 a592) 7 b593) 10 0) 62 o543) 68 s544) 75 m545) g'559 := hS595
                    have hR703 := rj_clear0 hR564_
                    have hR704 : RJ (upd (upd (upd (upd (upd (upd f 6 a592) 7 b593) 10 0) 62 o543) 68 s544) 75 m545) g'559 [] bc [] 0 [] := hR703
                    show am_E _ _ _ _ [some (.ref 39), some (.int 0), some (.int (f 4))] [.int 0] _ _
                    refine am_e12t hi_212_83 (by decide) ?_
                    refine am_e35 hi_212_125 ?_
                    show am_E _ _ _ _ [some (.ref 39), some (.int r2), some (.int (f 4)), none] [] _ _
                    refine am_e35 hi_211_249 ?_
                    show am_E _ _ _ _ [some (.ref 39), some (.int 28), some (.int on), some (.int tw)] [] _ _
                    refine am_e18 hi_181_180 ?_
                    refine am_e35 hi_181_397 ?_
                    show am_E _ _ _ _ [some (.ref 39), some (.int 28), some (.int on), some (.int tw), some (.int th)] [] _ _
                    refine am_e35 hi_180_13 ?_
                    have hRc := rj_clear0 hR704
                    refine ⟨_, _, [], _, rfl, hS595, Or.inr ⟨hRc, rfl, (by show 0 ≤ (f 4).toInt; omega), (by show (f 4).toInt ≤ (f 0).toInt; omega), (by show 0 ≤ (f 32).toInt; omega), (by show (f 32).toInt ≤ 63; omega), (by show 1 ≤ (f 53).toInt; omega), (by show (f 53).toInt ≤ 600; omega), (by show 0 ≤ s544.toInt; omega), (by show s544.toInt ≤ 60000; omega), (by show 0 ≤ (f 48).toInt; omega), (by show (f 48).toInt ≤ 8000; omega), (by show 0 ≤ (f 37).toInt; omega), (by show (f 37).toInt ≤ 128; omega), (by show 0 ≤ o543.toInt; omega), (by show o543.toInt ≤ 65000; omega), (by show 0 ≤ (f 19).toInt; omega), (by show (f 19).toInt ≤ 600; omega)⟩⟩
                · refine am_e13f hi_212_58 (am_cF (m := r575.toInt) (n := (62 : Int)) rfl (by decide) c580) ?_
                  refine am_e2 (v := 39) hi_212_61 rfl ?_
                  refine am_e0 hi_212_62 ?_
                  refine am_e1 (v := 0) hi_212_64 rfl ?_
                  refine am_e1 (v := f 4) hi_212_65 rfl ?_
                  refine am_e0 hi_212_66 ?_
                  refine am_e32n (as := [.ref 39, .int 33, .int 0, .int (f 4), .int 0]) (la := [some (.ref 39), some (.int 33), some (.int 0), some (.int (f 4)), some (.int 0)]) (rest := []) hi_212_67 (am_hd0 (M := 212) (by decide) 67) (Nat.le_of_ble_eq_true rfl) (Nat.le_of_ble_eq_true rfl) (show 5 ≤ am_P0.2.2.1 179 from by decide +kernel) rfl (am_recv_ok hS577.fs) rfl rfl (ct_pile (d := (d + 4)) hS577 hR564_ (mj_e_plain (by decide)) (by show (0 : Int) ≤ z558.toInt; omega) (by show z558.toInt ≤ (65535 : Int); omega)) ?_
                  rintro v705 S706 (⟨z707, g'708, hv709, hS710, hR713, h711, h712⟩)
                  subst hv709
                  have h711_ : z707.toInt = z558.toInt + 1 := h711
                  have h712_ : ∀ j, j ∉ [11, 12, 13, 14] → g'708 j = g'559 j := h712
                  replace hS710 : MS S0 S706 (upd (upd (upd (upd f 10 z707) 62 o543) 68 s544) 75 m545) g'708 := hS710
                  have hR713_ : RJ (upd (upd (upd (upd f 10 z707) 62 o543) 68 s544) 75 m545) g'708 (((33 : Int), (0 : Int), (f 4).toInt, (0 : Int), []) :: (((28 : Int), (0 : Int), (0 : Int), (0 : Int), []) :: gs)) bc [] 0 [] := hR713
                  show am_E _ _ _ _ [some (.ref 39), some (.int 0), some (.int (f 4))] [] _ _
                  refine am_e2 (v := 39) hi_212_70 rfl ?_
                  refine am_e32w (as := [.ref 39]) (la := [some (.ref 39), none]) (rest := []) hi_212_71 (am_hd0 (M := 212) (by decide) 71) (Nat.le_of_ble_eq_true rfl) (Nat.le_of_ble_eq_true rfl) (show 1 ≤ am_P0.2.2.1 192 from by decide +kernel) rfl (am_recv_ok hS710.fs) rfl rfl ?_
                  refine am_e2 (v := 39) hi_192_0 rfl ?_
                  refine mm_20 (v := .int (f 4)) hS710 hi_192_1 rfl ?_
                  refine am_e3 (ls' := [some (.ref 39), some (.int (f 4))]) hi_192_4 (Nat.le_of_ble_eq_true rfl) rfl ?_
                  refine am_e2 (v := 39) hi_192_5 rfl ?_
                  refine am_e0 hi_192_6 ?_
                  refine am_e32n (as := [.ref 39, .int 62]) (la := [some (.ref 39), some (.int 62)]) (rest := []) hi_192_8 (am_hd0 (M := 192) (by decide) 8) (Nat.le_of_ble_eq_true rfl) (Nat.le_of_ble_eq_true rfl) (show 2 ≤ am_P0.2.2.1 193 from by decide +kernel) rfl (am_recv_ok hS710.fs) rfl rfl (ct_enter (d := (d + 1)) hS710   (by show (0 : Int) ≤ (f 4).toInt; omega) (by show (f 0).toInt ≤ (16384 : Int); omega) (by show (0 : Int) ≤ (62 : Int); omega) (by show (0 : Int) ≤ (f 5).toInt; omega) (by show (f 5).toInt ≤ (48 : Int); omega)) ?_
                  rintro v714 S715 (⟨z716, y717, hv718, hS719, h720, h721, h722, h723⟩ | ⟨a725, b726, hv727, hS728⟩)
                  · subst hv718
                    have h720_ : z716.toInt = (f 4).toInt + 1 := h720
                    have h721_ : (f 4).toInt < (f 0).toInt := h721
                    have h722_ : y717.toInt = (f 5).toInt + 1 := h722
                    have h723_ : y717.toInt ≤ (48 : Int) := h723
                    replace hS719 : MS S0 S715 (upd (upd (upd (upd (upd (upd f 4 z716) 5 y717) 10 z707) 62 o543) 68 s544) 75 m545) g'708 := hS719
                    have hR730 : RJ (upd (upd (upd (upd (upd (upd f 4 z716) 5 y717) 10 z707) 62 o543) 68 s544) 75 m545) g'708 (((33 : Int), (0 : Int), (f 4).toInt, (0 : Int), []) :: (((28 : Int), (0 : Int), (0 : Int), (0 : Int), []) :: gs)) bc [] 0 [] := RJ.at hR713_ (by show (f 4).toInt ≤ z716.toInt; omega)
                    show am_E _ _ _ _ [some (.ref 39), some (.int (f 4))] [.int 1] _ _
                    refine am_e12t hi_192_11 (by decide) ?_
                    refine am_e2 (v := 39) hi_192_15 rfl ?_
                    refine am_e0 hi_192_16 ?_
                    refine am_e0 hi_192_18 ?_
                    refine am_e0 hi_192_19 ?_
                    refine am_e1 (v := f 4) hi_192_20 rfl ?_
                    refine am_e32n (as := [.ref 39, .int 20, .int 0, .int 0, .int (f 4)]) (la := [some (.ref 39), some (.int 20), some (.int 0), some (.int 0), some (.int (f 4))]) (rest := []) hi_192_21 (am_hd0 (M := 192) (by decide) 21) (Nat.le_of_ble_eq_true rfl) (Nat.le_of_ble_eq_true rfl) (show 5 ≤ am_P0.2.2.1 189 from by decide +kernel) rfl (am_recv_ok hS719.fs) rfl rfl (ct_put (d := (d + 3)) hS719 hR730  (by show (0 : Int) ≤ (f 32).toInt; omega) (by show (f 32).toInt ≤ (63 : Int); omega) (by show (f 53).toInt ≤ (4096 : Int); omega) (by show (0 : Int) ≤ s544.toInt; omega) (by show s544.toInt ≤ (65534 : Int); omega)) ?_
                    rintro v731 S732 (⟨z733, r734, g'735, hv736, hS737, hR741, h738, h739, h740⟩)
                    subst hv736
                    have h738_ : z733.toInt = s544.toInt + 1 := h738
                    have h739_ : r734.toInt = s544.toInt := h739
                    have h740_ : ∀ j, j ∉ [60, 69, 70, 71, 72, 73] → g'735 j = g'708 j := h740
                    replace hS737 : MS S0 S732 (upd (upd (upd (upd (upd (upd f 4 z716) 5 y717) 10 z707) 62 o543) 68 z733) 75 m545) g'735 := hS737
                    have hR741_ : RJ (upd (upd (upd (upd (upd (upd f 4 z716) 5 y717) 10 z707) 62 o543) 68 z733) 75 m545) g'735 (((33 : Int), (0 : Int), (f 4).toInt, (0 : Int), []) :: (((28 : Int), (0 : Int), (0 : Int), (0 : Int), []) :: gs)) bc [] 0 (s544.toNatClampNeg :: []) := hR741
                    show am_E _ _ _ _ [some (.ref 39), some (.int (f 4))] [.int r734] _ _
                    refine am_e6i hi_192_24 ?_
                    refine am_e2 (v := 39) hi_192_25 rfl ?_
                    refine am_e0 hi_192_26 ?_
                    refine am_e0 hi_192_27 ?_
                    refine am_e0 hi_192_28 ?_
                    refine am_e32n (as := [.ref 39, .int 0, .int 0, .int 0]) (la := [some (.ref 39), some (.int 0), some (.int 0), some (.int 0)]) (rest := []) hi_192_29 (am_hd0 (M := 192) (by decide) 29) (Nat.le_of_ble_eq_true rfl) (Nat.le_of_ble_eq_true rfl) (show 4 ≤ am_P0.2.2.1 190 from by decide +kernel) rfl (am_recv_ok hS737.fs) rfl rfl (ct_value (d := (d + 3)) hS737 hR741_ (fun h => absurd h (by decide)) (fun h => absurd h (by decide)) (by show (0 : Int) ≤ (f 15).toInt; omega) (by show (f 15).toInt ≤ (32767 : Int); omega)) ?_
                    rintro v742 S743 (⟨z744, g'745, hv746, hS747, hR752, h748, h749, h750, h751⟩)
                    subst hv746
                    have h748_ : z744.toInt = (f 15).toInt + 1 := h748
                    have h749_ : ∀ j, j ∉ [16, 17, 18] → g'745 j = g'735 j := h749
                    have h750_ : mj_n (g'745 16) z744.toNatClampNeg 3 ≤ mj_n (g'546 16) (f 15).toNatClampNeg 3 + 1 := by rw [show g'735 16 = g'708 16 from h740_ 16 (by decide), show g'708 16 = g'559 16 from h712_ 16 (by decide), show g'559 16 = g'546 16 from h563_ 16 (by decide)] at h750; exact h750
                    have h751_ : (0 : Int) = 3 ∨ mj_n (g'745 16) z744.toNatClampNeg 3 ≤ mj_n (g'546 16) (f 15).toNatClampNeg 3 := by rw [show g'735 16 = g'708 16 from h740_ 16 (by decide), show g'708 16 = g'559 16 from h712_ 16 (by decide), show g'559 16 = g'546 16 from h563_ 16 (by decide)] at h751; exact h751
                    replace hS747 : MS S0 S743 (upd (upd (upd (upd (upd (upd (upd f 4 z716) 5 y717) 10 z707) 15 z744) 62 o543) 68 z733) 75 m545) g'745 := hS747
                    have hR752_ : RJ (upd (upd (upd (upd (upd (upd (upd f 4 z716) 5 y717) 10 z707) 15 z744) 62 o543) 68 z733) 75 m545) g'745 (((33 : Int), (0 : Int), (f 4).toInt, (0 : Int), []) :: (((28 : Int), (0 : Int), (0 : Int), (0 : Int), []) :: gs)) bc [] 0 (s544.toNatClampNeg :: []) := hR752
                    show am_E _ _ _ _ [some (.ref 39), some (.int (f 4))] [] _ _
                    refine am_e2 (v := 39) hi_192_32 rfl ?_
                    refine am_e0 hi_192_33 ?_
                    refine am_e0 hi_192_35 ?_
                    refine am_e0 hi_192_36 ?_
                    refine am_e0 hi_192_37 ?_
                    refine am_e32n (as := [.ref 39, .int 35, .int 0, .int 0, .int 0]) (la := [some (.ref 39), some (.int 35), some (.int 0), some (.int 0), some (.int 0)]) (rest := []) hi_192_38 (am_hd0 (M := 192) (by decide) 38) (Nat.le_of_ble_eq_true rfl) (Nat.le_of_ble_eq_true rfl) (show 5 ≤ am_P0.2.2.1 179 from by decide +kernel) rfl (am_recv_ok hS747.fs) rfl rfl (ct_pile (d := (d + 3)) hS747 hR752_ (mj_e_plain (by decide)) (by show (0 : Int) ≤ z707.toInt; omega) (by show z707.toInt ≤ (65535 : Int); omega)) ?_
                    rintro v753 S754 (⟨z755, g'756, hv757, hS758, hR761, h759, h760⟩)
                    subst hv757
                    have h759_ : z755.toInt = z707.toInt + 1 := h759
                    have h760_ : ∀ j, j ∉ [11, 12, 13, 14] → g'756 j = g'745 j := h760
                    replace hS758 : MS S0 S754 (upd (upd (upd (upd (upd (upd (upd f 4 z716) 5 y717) 10 z755) 15 z744) 62 o543) 68 z733) 75 m545) g'756 := hS758
                    have hR761_ : RJ (upd (upd (upd (upd (upd (upd (upd f 4 z716) 5 y717) 10 z755) 15 z744) 62 o543) 68 z733) 75 m545) g'756 (((35 : Int), (0 : Int), (0 : Int), (0 : Int), []) :: (((33 : Int), (0 : Int), (f 4).toInt, (0 : Int), []) :: (((28 : Int), (0 : Int), (0 : Int), (0 : Int), []) :: gs))) bc [] 0 (s544.toNatClampNeg :: []) := hR761
                    show am_E _ _ _ _ [some (.ref 39), some (.int (f 4))] [] _ _
                    refine am_e35 hi_192_41 ?_
                    show am_E _ _ _ _ [some (.ref 39), some (.int 0), some (.int (f 4))] [] _ _
                    refine am_e18 hi_212_74 ?_
                    refine am_e35 hi_212_125 ?_
                    show am_E _ _ _ _ [some (.ref 39), some (.int r2), some (.int (f 4)), none] [] _ _
                    refine am_e35 hi_211_249 ?_
                    show am_E _ _ _ _ [some (.ref 39), some (.int 28), some (.int on), some (.int tw)] [] _ _
                    refine am_e18 hi_181_180 ?_
                    refine am_e35 hi_181_397 ?_
                    show am_E _ _ _ _ [some (.ref 39), some (.int 28), some (.int on), some (.int tw), some (.int th)] [] _ _
                    refine am_e35 hi_180_13 ?_
                    have q1 : mg_p1 (((35 : Int), (0 : Int), (0 : Int), (0 : Int), []) :: (((33 : Int), (0 : Int), (f 4).toInt, (0 : Int), []) :: (((28 : Int), (0 : Int), (0 : Int), (0 : Int), []) :: gs))) = 0 + (0 + (0 + (mg_p1 gs))) := rfl
                    have q2 : mg_p2 (((35 : Int), (0 : Int), (0 : Int), (0 : Int), []) :: (((33 : Int), (0 : Int), (f 4).toInt, (0 : Int), []) :: (((28 : Int), (0 : Int), (0 : Int), (0 : Int), []) :: gs))) = 0 + (0 + (0 + (mg_p2 gs))) := rfl
                    have q3 : mg_p3 (((35 : Int), (0 : Int), (0 : Int), (0 : Int), []) :: (((33 : Int), (0 : Int), (f 4).toInt, (0 : Int), []) :: (((28 : Int), (0 : Int), (0 : Int), (0 : Int), []) :: gs))) = 3 + (1 + (1 + (mg_p3 gs))) := rfl
                    have q4 : mg_p4 (((35 : Int), (0 : Int), (0 : Int), (0 : Int), []) :: (((33 : Int), (0 : Int), (f 4).toInt, (0 : Int), []) :: (((28 : Int), (0 : Int), (0 : Int), (0 : Int), []) :: gs))) = 0 + (3 + (0 + (mg_p4 gs))) := rfl
                    refine ⟨_, _, _, bc, rfl, hS758, Or.inl ⟨⟨(RJ.fewer (pj' := []) hR761_ (fun _ h => nomatch h)), ?_, ?_⟩, rfl, ?_⟩⟩
                    · exact (⟨⟨(show mg_k 35 from by decide), (show (0 : Int) ≤ z744.toInt from by omega), (show 0 ≤ (f 20).toInt from by omega), (show 1 ≤ (f 37).toInt from by omega), (show 0 ≤ (f 32).toInt from by omega), (show (f 32).toInt ≤ y717.toInt from by omega), (show y717.toInt ≤ 48 from by omega), (show (f 37).toInt ≤ 2 * (y717.toInt) + 2 from by omega), trivial⟩, ⟨⟨(show mg_k 33 from by decide), (show (2 : Int) ≤ z744.toInt + 0 from by omega), (show 0 ≤ (f 20).toInt from by omega), (show 1 ≤ (f 37).toInt + 0 from by omega), (show 0 ≤ (f 32).toInt + 0 from by omega), (show (f 32).toInt + 0 ≤ y717.toInt + -1 from by omega), (show y717.toInt + -1 ≤ 48 from by omega), (show (f 37).toInt + 0 ≤ 2 * (y717.toInt + -1) + 2 from by omega), trivial⟩, ⟨⟨(show mg_k 28 from by decide), (show (1 : Int) ≤ z744.toInt + 0 + -1 from by omega), (show 0 ≤ (f 20).toInt from by omega), (show 1 ≤ (f 37).toInt + 0 + 0 from by omega), (show 0 ≤ (f 32).toInt + 0 + 0 from by omega), (show (f 32).toInt + 0 + 0 ≤ y717.toInt + -1 + 0 from by omega), (show y717.toInt + -1 + 0 ≤ 48 from by omega), (show (f 37).toInt + 0 + 0 ≤ 2 * (y717.toInt + -1 + 0) + 2 from by omega), trivial⟩, mg_cast (mg_good_ext _ _ _ _ _ _ (fun i _ => by show g'756 34 i = g 34 i; rw [show g'756 34 = g'745 34 from h760_ 34 (by decide), show g'745 34 = g'735 34 from h749_ 34 (by decide), show g'735 34 = g'708 34 from h740_ 34 (by decide), show g'708 34 = g'559 34 from h712_ 34 (by decide), show g'559 34 = g'546 34 from h563_ 34 (by decide), show g'546 34 = g 34 from h554_ 34 (by decide)]) (fun i _ => by show g'756 38 i = g 38 i; rw [show g'756 38 = g'745 38 from h760_ 38 (by decide), show g'745 38 = g'735 38 from h749_ 38 (by decide), show g'735 38 = g'708 38 from h740_ 38 (by decide), show g'708 38 = g'559 38 from h712_ 38 (by decide), show g'559 38 = g'546 38 from h563_ 38 (by decide), show g'546 38 = g 38 from h554_ 38 (by decide)]) (fun i _ => by show g'756 23 i = g 23 i; rw [show g'756 23 = g'745 23 from h760_ 23 (by decide), show g'745 23 = g'735 23 from h749_ 23 (by decide), show g'735 23 = g'708 23 from h740_ 23 (by decide), show g'708 23 = g'559 23 from h712_ 23 (by decide), show g'559 23 = g'546 23 from h563_ 23 (by decide), show g'546 23 = g 23 from h554_ 23 (by decide)]) hrest) (by show (f 15).toInt + 0 = z744.toInt + 0 + -1 + 0; omega) (by show (f 20).toInt = (f 20).toInt; omega) (by show (f 37).toInt + 0 = (f 37).toInt + 0 + 0 + 0; omega) (by show (f 32).toInt + 0 = (f 32).toInt + 0 + 0 + 0; omega) (by show (f 5).toInt + 0 = y717.toInt + -1 + 0 + 0; omega)⟩⟩⟩ : mg_good (g'756 34) (g'756 38) (g'756 23) (((35 : Int), (0 : Int), (0 : Int), (0 : Int), []) :: (((33 : Int), (0 : Int), (f 4).toInt, (0 : Int), []) :: (((28 : Int), (0 : Int), (0 : Int), (0 : Int), []) :: gs))) (z744.toInt) ((f 20).toInt) ((f 37).toInt) ((f 32).toInt) (y717.toInt))
                    · exact ⟨(by show 0 ≤ z716.toInt; omega), (by show z716.toInt ≤ (f 0).toInt; omega), (by show (f 0).toInt ≤ 512; omega), (by show 0 ≤ (f 24).toInt; omega), (by show (f 24).toInt + (f 20).toInt + mg_p1 (((35 : Int), (0 : Int), (0 : Int), (0 : Int), []) :: (((33 : Int), (0 : Int), (f 4).toInt, (0 : Int), []) :: (((28 : Int), (0 : Int), (0 : Int), (0 : Int), []) :: gs))) ≤ 4 * z716.toInt; omega), (by show (f 20).toInt ≤ z716.toInt; omega), (by show z744.toInt + mg_p2 (((35 : Int), (0 : Int), (0 : Int), (0 : Int), []) :: (((33 : Int), (0 : Int), (f 4).toInt, (0 : Int), []) :: (((28 : Int), (0 : Int), (0 : Int), (0 : Int), []) :: gs))) ≤ z716.toInt; omega), (by show mg_p3 (((35 : Int), (0 : Int), (0 : Int), (0 : Int), []) :: (((33 : Int), (0 : Int), (f 4).toInt, (0 : Int), []) :: (((28 : Int), (0 : Int), (0 : Int), (0 : Int), []) :: gs))) ≤ 20 * z716.toInt + 20; omega), (by show 0 ≤ z733.toInt; omega), (by show z733.toInt + 3 * (f 20).toInt + mg_p4 (((35 : Int), (0 : Int), (0 : Int), (0 : Int), []) :: (((33 : Int), (0 : Int), (f 4).toInt, (0 : Int), []) :: (((28 : Int), (0 : Int), (0 : Int), (0 : Int), []) :: gs))) ≤ 60 * z716.toInt + 60; omega), (by show 0 ≤ o543.toInt; omega), (by show o543.toInt + 64 * mj_n (g'756 16) z744.toNatClampNeg 3 ≤ 64 * z716.toInt; rw [show g'756 16 = g'745 16 from h760_ 16 (by decide)]; omega), (by show 0 ≤ (f 44).toInt; omega), (by show (f 44).toInt ≤ z716.toInt; omega), (by show 0 ≤ (f 48).toInt; omega), (by show (f 48).toInt ≤ z716.toInt; omega), (by show 1 ≤ (f 53).toInt; omega), (by show (f 53).toInt ≤ z716.toInt + 1; omega), (by show 0 ≤ (f 19).toInt; omega), (by show (f 19).toInt ≤ 600; omega)⟩
                    · show 100 * ((f 0).toInt - z716.toInt) + mg_p3 (((35 : Int), (0 : Int), (0 : Int), (0 : Int), []) :: (((33 : Int), (0 : Int), (f 4).toInt, (0 : Int), []) :: (((28 : Int), (0 : Int), (0 : Int), (0 : Int), []) :: gs))) < 100 * ((f 0).toInt - (f 4).toInt) + (1 + mg_p3 gs); omega
                  · subst hv727
                    replace hS728 : MS S0 S715 (upd (upd (upd (upd (upd (upd f 6 a725) 7 b726) 10 0) 62 o543) 68 s544) 75 m545) g'708 := hS728
                    have hR762 := rj_clear0 hR713_
                    have hR763 : RJ (upd (upd (upd (upd (upd (upd f 6 a725) 7 b726) 10 0) 62 o543) 68 s544) 75 m545) g'708 [] bc [] 0 [] := hR762
                    show am_E _ _ _ _ [some (.ref 39), some (.int (f 4))] [.int 0] _ _
                    refine am_e12f hi_192_11 (by decide) ?_
                    refine am_e35 hi_192_14 ?_
                    show am_E _ _ _ _ [some (.ref 39), some (.int 0), some (.int (f 4))] [] _ _
                    refine am_e18 hi_212_74 ?_
                    refine am_e35 hi_212_125 ?_
                    show am_E _ _ _ _ [some (.ref 39), some (.int r2), some (.int (f 4)), none] [] _ _
                    refine am_e35 hi_211_249 ?_
                    show am_E _ _ _ _ [some (.ref 39), some (.int 28), some (.int on), some (.int tw)] [] _ _
                    refine am_e18 hi_181_180 ?_
                    refine am_e35 hi_181_397 ?_
                    show am_E _ _ _ _ [some (.ref 39), some (.int 28), some (.int on), some (.int tw), some (.int th)] [] _ _
                    refine am_e35 hi_180_13 ?_
                    have hRc := rj_clear0 hR763
                    refine ⟨_, _, [], _, rfl, hS728, Or.inr ⟨hRc, rfl, (by show 0 ≤ (f 4).toInt; omega), (by show (f 4).toInt ≤ (f 0).toInt; omega), (by show 0 ≤ (f 32).toInt; omega), (by show (f 32).toInt ≤ 63; omega), (by show 1 ≤ (f 53).toInt; omega), (by show (f 53).toInt ≤ 600; omega), (by show 0 ≤ s544.toInt; omega), (by show s544.toInt ≤ 60000; omega), (by show 0 ≤ (f 48).toInt; omega), (by show (f 48).toInt ≤ 8000; omega), (by show 0 ≤ (f 37).toInt; omega), (by show (f 37).toInt ≤ 128; omega), (by show 0 ≤ o543.toInt; omega), (by show o543.toInt ≤ 65000; omega), (by show 0 ≤ (f 19).toInt; omega), (by show (f 19).toInt ≤ 600; omega)⟩⟩
              · refine am_e13f hi_212_10 (am_cF (m := r567.toInt) (n := (3 : Int)) rfl (by decide) c572) ?_
                refine am_e2 (v := 39) hi_212_13 rfl ?_
                refine am_e0 hi_212_14 ?_
                refine am_e2 (v := 39) hi_212_15 rfl ?_
                refine mm_20 (v := .ref 41) hS569 hi_212_16 rfl ?_
                refine am_e2 (v := 39) hi_212_19 rfl ?_
                refine mm_20 (v := .int (f 4)) hS569 hi_212_20 rfl ?_
                refine mm_25 hS569 ma_2 hi_212_23 (by decide) (by omega) (by omega) ?_
                show am_E _ _ _ _ _ (.int (g'559 2 (f 4).toNatClampNeg) :: _) _ _
                rw [show g'559 2 = g'546 2 from h563_ 2 (by decide), show g'546 2 = g 2 from h554_ 2 (by decide)]
                show am_E _ _ _ _ [some (.ref 39), some (.int 0), some (.int (f 4))] [.int (g 2 (f 4).toNatClampNeg), .int 5, .ref 39] _ _
                refine am_e0 hi_212_24 ?_
                refine am_e0 hi_212_25 ?_
                refine am_e32n (as := [.ref 39, .int 5, .int (g 2 (f 4).toNatClampNeg), .int 0, .int 0]) (la := [some (.ref 39), some (.int 5), some (.int (g 2 (f 4).toNatClampNeg)), some (.int 0), some (.int 0)]) (rest := []) hi_212_26 (am_hd0 (M := 212) (by decide) 26) (Nat.le_of_ble_eq_true rfl) (Nat.le_of_ble_eq_true rfl) (show 5 ≤ am_P0.2.2.1 189 from by decide +kernel) rfl (am_recv_ok hS569.fs) rfl rfl (ct_put (d := (d + 4)) hS569 hR564_  (by show (0 : Int) ≤ (f 32).toInt; omega) (by show (f 32).toInt ≤ (63 : Int); omega) (by show (f 53).toInt ≤ (4096 : Int); omega) (by show (0 : Int) ≤ s544.toInt; omega) (by show s544.toInt ≤ (65534 : Int); omega)) ?_
                rintro v764 S765 (⟨z766, r767, g'768, hv769, hS770, hR774, h771, h772, h773⟩)
                subst hv769
                have h771_ : z766.toInt = s544.toInt + 1 := h771
                have h772_ : r767.toInt = s544.toInt := h772
                have h773_ : ∀ j, j ∉ [60, 69, 70, 71, 72, 73] → g'768 j = g'559 j := h773
                replace hS770 : MS S0 S765 (upd (upd (upd (upd f 10 z558) 62 o543) 68 z766) 75 m545) g'768 := hS770
                have hR774_ : RJ (upd (upd (upd (upd f 10 z558) 62 o543) 68 z766) 75 m545) g'768 (((28 : Int), (0 : Int), (0 : Int), (0 : Int), []) :: gs) bc [] 0 (s544.toNatClampNeg :: []) := hR774
                show am_E _ _ _ _ [some (.ref 39), some (.int 0), some (.int (f 4))] [.int r767] _ _
                refine am_e6i hi_212_29 ?_
                refine am_e2 (v := 39) hi_212_30 rfl ?_
                refine am_e7 hi_212_31 ?_
                refine mm_20 (v := .int (f 4)) hS770 hi_212_32 rfl ?_
                refine am_e0 hi_212_35 ?_
                obtain ⟨z775, hz775, tz775⟩ := am_addI (x := f 4) (y := 1) (m := (f 4).toInt) (n := (1 : Int)) rfl (by decide) (by omega) (by omega)
                refine am_e10 (z := z775) hi_212_36 hz775 ?_
                refine mm_21 (v := z775) hS770 hi_212_37 rfl (Nat.le_of_ble_eq_true rfl) ms_4 ?_
                intro S776 hS777
                replace hS777 : MS S0 S776 (upd (upd (upd (upd (upd f 4 z775) 10 z558) 62 o543) 68 z766) 75 m545) g'768 := hS777
                have hR778 : RJ (upd (upd (upd (upd (upd f 4 z775) 10 z558) 62 o543) 68 z766) 75 m545) g'768 (((28 : Int), (0 : Int), (0 : Int), (0 : Int), []) :: gs) bc [] 0 (s544.toNatClampNeg :: []) := RJ.at hR774_ (by show (f 4).toInt ≤ z775.toInt; omega)
                refine am_e2 (v := 39) hi_212_40 rfl ?_
                refine am_e0 hi_212_41 ?_
                refine am_e1 (v := 0) hi_212_42 rfl ?_
                refine am_e10 (z := 1) hi_212_43 (by decide) ?_
                refine am_e0 hi_212_44 ?_
                refine am_e1 (v := f 4) hi_212_45 rfl ?_
                refine am_e32w (as := [.ref 39, .int 1, .int 0, .int (f 4)]) (la := [some (.ref 39), some (.int 1), some (.int 0), some (.int (f 4)), none]) (rest := []) hi_212_46 (am_hd0 (M := 212) (by decide) 46) (Nat.le_of_ble_eq_true rfl) (Nat.le_of_ble_eq_true rfl) (show 4 ≤ am_P0.2.2.1 213 from by decide +kernel) rfl (am_recv_ok hS777.fs) rfl rfl ?_
                refine am_e2 (v := 39) hi_213_0 rfl ?_
                refine am_e0 hi_213_1 ?_
                refine am_e1 (v := 1) hi_213_3 rfl ?_
                refine am_e1 (v := 0) hi_213_4 rfl ?_
                refine am_e0 hi_213_5 ?_
                refine am_e10 (z := 2) hi_213_6 (by decide) ?_
                refine am_e1 (v := f 4) hi_213_7 rfl ?_
                refine am_e32n (as := [.ref 39, .int 13, .int 1, .int 2, .int (f 4)]) (la := [some (.ref 39), some (.int 13), some (.int 1), some (.int 2), some (.int (f 4))]) (rest := []) hi_213_8 (am_hd0 (M := 213) (by decide) 8) (Nat.le_of_ble_eq_true rfl) (Nat.le_of_ble_eq_true rfl) (show 5 ≤ am_P0.2.2.1 189 from by decide +kernel) rfl (am_recv_ok hS777.fs) rfl rfl (ct_put (d := (d + 3)) hS777 hR778  (by show (0 : Int) ≤ (f 32).toInt; omega) (by show (f 32).toInt ≤ (63 : Int); omega) (by show (f 53).toInt ≤ (4096 : Int); omega) (by show (0 : Int) ≤ z766.toInt; omega) (by show z766.toInt ≤ (65534 : Int); omega)) ?_
                rintro v779 S780 (⟨z781, r782, g'783, hv784, hS785, hR789, h786, h787, h788⟩)
                subst hv784
                have h786_ : z781.toInt = z766.toInt + 1 := h786
                have h787_ : r782.toInt = z766.toInt := h787
                have h788_ : ∀ j, j ∉ [60, 69, 70, 71, 72, 73] → g'783 j = g'768 j := h788
                replace hS785 : MS S0 S780 (upd (upd (upd (upd (upd f 4 z775) 10 z558) 62 o543) 68 z781) 75 m545) g'783 := hS785
                have hR789_ : RJ (upd (upd (upd (upd (upd f 4 z775) 10 z558) 62 o543) 68 z781) 75 m545) g'783 (((28 : Int), (0 : Int), (0 : Int), (0 : Int), []) :: gs) bc [] 0 (z766.toNatClampNeg :: (s544.toNatClampNeg :: [])) := hR789
                show am_E _ _ _ _ [some (.ref 39), some (.int 1), some (.int 0), some (.int (f 4)), none] [.int r782] _ _
                refine am_e3 (ls' := [some (.ref 39), some (.int 1), some (.int 0), some (.int (f 4)), some (.int r782)]) hi_213_11 (Nat.le_of_ble_eq_true rfl) rfl ?_
                refine am_e2 (v := 39) hi_213_13 rfl ?_
                refine am_e7 hi_213_14 ?_
                refine mm_20 (v := .int (f 15)) hS785 hi_213_15 rfl ?_
                refine am_e0 hi_213_18 ?_
                obtain ⟨z790, hz790, tz790⟩ := am_subI (x := f 15) (y := 1) (m := (f 15).toInt) (n := (1 : Int)) rfl (by decide) (by omega) (by omega)
                refine am_e10 (z := z790) hi_213_19 hz790 ?_
                refine mm_21 (v := z790) hS785 hi_213_20 rfl (Nat.le_of_ble_eq_true rfl) ms_15 ?_
                intro S791 hS792
                replace hS792 : MS S0 S791 (upd (upd (upd (upd (upd (upd f 4 z775) 10 z558) 15 z790) 62 o543) 68 z781) 75 m545) g'783 := hS792
                have hp793 : mj_n (g'546 16) (f 15).toNatClampNeg 3 = mj_n (g'546 16) z790.toNatClampNeg 3 + if (g'546 16 z790.toNatClampNeg).toInt = 3 then 1 else 0 := mj_pop (by rw [cl_toNat, cl_toNat]; omega)
                have hp7931 : mj_n (g'546 16) z790.toNatClampNeg 3 ≤ mj_n (g'546 16) (f 15).toNatClampNeg 3 := by rw [hp793]; split <;> omega
                have hp7932 : (g'546 16 z790.toNatClampNeg).toInt = 3 → mj_n (g'546 16) z790.toNatClampNeg 3 + 1 ≤ mj_n (g'546 16) (f 15).toNatClampNeg 3 := fun q => by rw [hp793, if_pos q]; exact Int.le_refl _
                refine am_e2 (v := 39) hi_213_23 rfl ?_
                refine am_e0 hi_213_24 ?_
                refine am_e1 (v := r782) hi_213_25 rfl ?_
                refine am_e1 (v := f 4) hi_213_27 rfl ?_
                refine am_e32n (as := [.ref 39, .int 1, .int r782, .int (f 4)]) (la := [some (.ref 39), some (.int 1), some (.int r782), some (.int (f 4))]) (rest := []) hi_213_28 (am_hd0 (M := 213) (by decide) 28) (Nat.le_of_ble_eq_true rfl) (Nat.le_of_ble_eq_true rfl) (show 4 ≤ am_P0.2.2.1 190 from by decide +kernel) rfl (am_recv_ok hS792.fs) rfl rfl (ct_value (d := (d + 3)) hS792 hR789_ (fun h => absurd h (by decide)) (fun _ => ⟨by omega, by omega⟩) (by show (0 : Int) ≤ z790.toInt; omega) (by show z790.toInt ≤ (32767 : Int); omega)) ?_
                rintro v794 S795 (⟨z796, g'797, hv798, hS799, hR804, h800, h801, h802, h803⟩)
                subst hv798
                have h800_ : z796.toInt = z790.toInt + 1 := h800
                have h801_ : ∀ j, j ∉ [16, 17, 18] → g'797 j = g'783 j := h801
                have h802_ : mj_n (g'797 16) z796.toNatClampNeg 3 ≤ mj_n (g'546 16) z790.toNatClampNeg 3 + 1 := by rw [show g'783 16 = g'768 16 from h788_ 16 (by decide), show g'768 16 = g'559 16 from h773_ 16 (by decide), show g'559 16 = g'546 16 from h563_ 16 (by decide)] at h802; exact h802
                have h803_ : (1 : Int) = 3 ∨ mj_n (g'797 16) z796.toNatClampNeg 3 ≤ mj_n (g'546 16) z790.toNatClampNeg 3 := by rw [show g'783 16 = g'768 16 from h788_ 16 (by decide), show g'768 16 = g'559 16 from h773_ 16 (by decide), show g'559 16 = g'546 16 from h563_ 16 (by decide)] at h803; exact h803
                replace hS799 : MS S0 S795 (upd (upd (upd (upd (upd (upd f 4 z775) 10 z558) 15 z796) 62 o543) 68 z781) 75 m545) g'797 := hS799
                have hR804_ : RJ (upd (upd (upd (upd (upd (upd f 4 z775) 10 z558) 15 z796) 62 o543) 68 z781) 75 m545) g'797 (((28 : Int), (0 : Int), (0 : Int), (0 : Int), []) :: gs) bc [] 0 (z766.toNatClampNeg :: (s544.toNatClampNeg :: [])) := hR804
                show am_E _ _ _ _ [some (.ref 39), some (.int 1), some (.int 0), some (.int (f 4)), some (.int r782)] [] _ _
                refine am_e35 hi_213_31 ?_
                show am_E _ _ _ _ [some (.ref 39), some (.int 0), some (.int (f 4))] [] _ _
                refine am_e18 hi_212_49 ?_
                refine am_e35 hi_212_125 ?_
                show am_E _ _ _ _ [some (.ref 39), some (.int r2), some (.int (f 4)), none] [] _ _
                refine am_e35 hi_211_249 ?_
                show am_E _ _ _ _ [some (.ref 39), some (.int 28), some (.int on), some (.int tw)] [] _ _
                refine am_e18 hi_181_180 ?_
                refine am_e35 hi_181_397 ?_
                show am_E _ _ _ _ [some (.ref 39), some (.int 28), some (.int on), some (.int tw), some (.int th)] [] _ _
                refine am_e35 hi_180_13 ?_
                have q1 : mg_p1 (((28 : Int), (0 : Int), (0 : Int), (0 : Int), []) :: gs) = 0 + (mg_p1 gs) := rfl
                have q2 : mg_p2 (((28 : Int), (0 : Int), (0 : Int), (0 : Int), []) :: gs) = 0 + (mg_p2 gs) := rfl
                have q3 : mg_p3 (((28 : Int), (0 : Int), (0 : Int), (0 : Int), []) :: gs) = 1 + (mg_p3 gs) := rfl
                have q4 : mg_p4 (((28 : Int), (0 : Int), (0 : Int), (0 : Int), []) :: gs) = 0 + (mg_p4 gs) := rfl
                refine ⟨_, _, _, bc, rfl, hS799, Or.inl ⟨⟨(RJ.fewer (pj' := []) hR804_ (fun _ h => nomatch h)), ?_, ?_⟩, rfl, ?_⟩⟩
                · exact (⟨⟨(show mg_k 28 from by decide), (show (1 : Int) ≤ z796.toInt from by omega), (show 0 ≤ (f 20).toInt from by omega), (show 1 ≤ (f 37).toInt from by omega), (show 0 ≤ (f 32).toInt from by omega), (show (f 32).toInt ≤ (f 5).toInt from by omega), (show (f 5).toInt ≤ 48 from by omega), (show (f 37).toInt ≤ 2 * ((f 5).toInt) + 2 from by omega), trivial⟩, mg_cast (mg_good_ext _ _ _ _ _ _ (fun i _ => by show g'797 34 i = g 34 i; rw [show g'797 34 = g'783 34 from h801_ 34 (by decide), show g'783 34 = g'768 34 from h788_ 34 (by decide), show g'768 34 = g'559 34 from h773_ 34 (by decide), show g'559 34 = g'546 34 from h563_ 34 (by decide), show g'546 34 = g 34 from h554_ 34 (by decide)]) (fun i _ => by show g'797 38 i = g 38 i; rw [show g'797 38 = g'783 38 from h801_ 38 (by decide), show g'783 38 = g'768 38 from h788_ 38 (by decide), show g'768 38 = g'559 38 from h773_ 38 (by decide), show g'559 38 = g'546 38 from h563_ 38 (by decide), show g'546 38 = g 38 from h554_ 38 (by decide)]) (fun i _ => by show g'797 23 i = g 23 i; rw [show g'797 23 = g'783 23 from h801_ 23 (by decide), show g'783 23 = g'768 23 from h788_ 23 (by decide), show g'768 23 = g'559 23 from h773_ 23 (by decide), show g'559 23 = g'546 23 from h563_ 23 (by decide), show g'546 23 = g 23 from h554_ 23 (by decide)]) hrest) (by show (f 15).toInt + 0 = z796.toInt + 0; omega) (by show (f 20).toInt = (f 20).toInt; omega) (by show (f 37).toInt + 0 = (f 37).toInt + 0; omega) (by show (f 32).toInt + 0 = (f 32).toInt + 0; omega) (by show (f 5).toInt + 0 = (f 5).toInt + 0; omega)⟩ : mg_good (g'797 34) (g'797 38) (g'797 23) (((28 : Int), (0 : Int), (0 : Int), (0 : Int), []) :: gs) (z796.toInt) ((f 20).toInt) ((f 37).toInt) ((f 32).toInt) ((f 5).toInt))
                · exact ⟨(by show 0 ≤ z775.toInt; omega), (by show z775.toInt ≤ (f 0).toInt; omega), (by show (f 0).toInt ≤ 512; omega), (by show 0 ≤ (f 24).toInt; omega), (by show (f 24).toInt + (f 20).toInt + mg_p1 (((28 : Int), (0 : Int), (0 : Int), (0 : Int), []) :: gs) ≤ 4 * z775.toInt; omega), (by show (f 20).toInt ≤ z775.toInt; omega), (by show z796.toInt + mg_p2 (((28 : Int), (0 : Int), (0 : Int), (0 : Int), []) :: gs) ≤ z775.toInt; omega), (by show mg_p3 (((28 : Int), (0 : Int), (0 : Int), (0 : Int), []) :: gs) ≤ 20 * z775.toInt + 20; omega), (by show 0 ≤ z781.toInt; omega), (by show z781.toInt + 3 * (f 20).toInt + mg_p4 (((28 : Int), (0 : Int), (0 : Int), (0 : Int), []) :: gs) ≤ 60 * z775.toInt + 60; omega), (by show 0 ≤ o543.toInt; omega), (by show o543.toInt + 64 * mj_n (g'797 16) z796.toNatClampNeg 3 ≤ 64 * z775.toInt; omega), (by show 0 ≤ (f 44).toInt; omega), (by show (f 44).toInt ≤ z775.toInt; omega), (by show 0 ≤ (f 48).toInt; omega), (by show (f 48).toInt ≤ z775.toInt; omega), (by show 1 ≤ (f 53).toInt; omega), (by show (f 53).toInt ≤ z775.toInt + 1; omega), (by show 0 ≤ (f 19).toInt; omega), (by show (f 19).toInt ≤ 600; omega)⟩
                · show 100 * ((f 0).toInt - z775.toInt) + mg_p3 (((28 : Int), (0 : Int), (0 : Int), (0 : Int), []) :: gs) < 100 * ((f 0).toInt - (f 4).toInt) + (1 + mg_p3 gs); omega
      · refine am_e13f hi_211_124 (am_cF (m := r2.toInt) (n := (68 : Int)) rfl (by decide) c9) ?_
        refine am_e2 (v := 39) hi_211_127 rfl ?_
        refine am_e32n (as := [.ref 39]) (la := [some (.ref 39), none, none, none]) (rest := []) hi_211_128 (am_hd0 (M := 211) (by decide) 128) (Nat.le_of_ble_eq_true rfl) (Nat.le_of_ble_eq_true rfl) (show 1 ≤ am_P0.2.2.1 204 from by decide +kernel) rfl (am_recv_ok hS4.fs) rfl rfl (ct_load (d := (d + 3)) hS4 hR  (by show (0 : Int) ≤ (f 32).toInt; omega) (by show (f 32).toInt ≤ (63 : Int); omega) (by show (f 53).toInt ≤ (4096 : Int); omega) (by show (0 : Int) ≤ (f 68).toInt; omega) (by show (f 68).toInt ≤ (65534 : Int); omega) (by show (1 : Int) ≤ (f 15).toInt; omega) (by show (f 15).toInt ≤ (32767 : Int); omega) (by show (0 : Int) ≤ (f 24).toInt; omega) (by show (f 24).toInt ≤ (16384 : Int); omega) (by show (0 : Int) ≤ (f 62).toInt; omega) (by show (f 62).toInt ≤ (65000 : Int); omega)) ?_
        rintro v805 S806 (⟨o807, s808, m809, g'810, hv811, hS812, hR819, h813, h814, h815, h816, h817, h818⟩)
        subst hv811
        have h813_ : (f 62).toInt ≤ o807.toInt := h813
        have h814_ : o807.toInt ≤ (f 62).toInt + 64 := h814
        have h815_ : (f 68).toInt ≤ s808.toInt := h815
        have h816_ : s808.toInt ≤ (f 68).toInt + 1 := h816
        have h817_ : o807.toInt + 64 * mj_n (g'810 16) (f 15).toNatClampNeg 3 ≤ (f 62).toInt + 64 * mj_n (g 16) (f 15).toNatClampNeg 3 := h817
        have h818_ : ∀ j, j ∉ [16, 60, 63, 64, 65, 66, 67, 69, 70, 71, 72, 73] → g'810 j = g j := h818
        have hR819_ : RJ (upd (upd (upd f 62 o807) 68 s808) 75 m809) g'810 gs bc [] 0 [] := hR819
        show am_E _ _ _ _ [some (.ref 39), some (.int r2), some (.int (f 4)), none] [] _ _
        refine am_e2 (v := 39) hi_211_131 rfl ?_
        refine am_e7 hi_211_132 ?_
        refine mm_20 (v := .int (f 4)) hS812 hi_211_133 rfl ?_
        refine am_e0 hi_211_136 ?_
        obtain ⟨z820, hz820, tz820⟩ := am_addI (x := f 4) (y := 1) (m := (f 4).toInt) (n := (1 : Int)) rfl (by decide) (by omega) (by omega)
        refine am_e10 (z := z820) hi_211_137 hz820 ?_
        refine mm_21 (v := z820) hS812 hi_211_138 rfl (Nat.le_of_ble_eq_true rfl) ms_4 ?_
        intro S821 hS822
        replace hS822 : MS S0 S821 (upd (upd (upd (upd f 4 z820) 62 o807) 68 s808) 75 m809) g'810 := hS822
        have hR823 : RJ (upd (upd (upd (upd f 4 z820) 62 o807) 68 s808) 75 m809) g'810 gs bc [] 0 [] := RJ.at hR819_ (by show (f 4).toInt ≤ z820.toInt; omega)
        refine am_e2 (v := 39) hi_211_141 rfl ?_
        refine am_e0 hi_211_142 ?_
        refine am_e32n (as := [.ref 39, .int 1]) (la := [some (.ref 39), some (.int 1)]) (rest := []) hi_211_143 (am_hd0 (M := 211) (by decide) 143) (Nat.le_of_ble_eq_true rfl) (Nat.le_of_ble_eq_true rfl) (show 2 ≤ am_P0.2.2.1 200 from by decide +kernel) rfl (am_recv_ok hS822.fs) rfl rfl (ct_take (d := (d + 3)) hS822   (by show (0 : Int) ≤ z820.toInt; omega) (by show (f 0).toInt ≤ (16384 : Int); omega) (by show (0 : Int) ≤ (1 : Int); omega)) ?_
        rintro v824 S825 (⟨z826, hv827, hS828, h829, h830⟩ | ⟨a832, b833, hv834, hS835⟩)
        · subst hv827
          have h829_ : z826.toInt = z820.toInt + 1 := h829
          have h830_ : z820.toInt < (f 0).toInt := h830
          replace hS828 : MS S0 S825 (upd (upd (upd (upd f 4 z826) 62 o807) 68 s808) 75 m809) g'810 := hS828
          have hR837 : RJ (upd (upd (upd (upd f 4 z826) 62 o807) 68 s808) 75 m809) g'810 gs bc [] 0 [] := RJ.at hR823 (by show z820.toInt ≤ z826.toInt; omega)
          show am_E _ _ _ _ [some (.ref 39), some (.int r2), some (.int (f 4)), none] [.int 1] _ _
          refine am_e12t hi_211_146 (by decide) ?_
          refine am_e2 (v := 39) hi_211_150 rfl ?_
          refine am_e0 hi_211_151 ?_
          refine am_e2 (v := 39) hi_211_153 rfl ?_
          refine mm_20 (v := .ref 41) hS828 hi_211_154 rfl ?_
          refine am_e1 (v := f 4) hi_211_157 rfl ?_
          refine am_e0 hi_211_158 ?_
          refine am_e10 (z := z820) hi_211_159 hz820 ?_
          refine mm_25 hS828 ma_2 hi_211_160 (by decide) (by omega) (by omega) ?_
          show am_E _ _ _ _ _ (.int (g'810 2 z820.toNatClampNeg) :: _) _ _
          rw [show g'810 2 = g 2 from h818_ 2 (by decide)]
          show am_E _ _ _ _ [some (.ref 39), some (.int r2), some (.int (f 4)), none] [.int (g 2 z820.toNatClampNeg), .int 14, .ref 39] _ _
          refine am_e0 hi_211_161 ?_
          refine am_e1 (v := f 4) hi_211_162 rfl ?_
          refine am_e32n (as := [.ref 39, .int 14, .int (g 2 z820.toNatClampNeg), .int 0, .int (f 4)]) (la := [some (.ref 39), some (.int 14), some (.int (g 2 z820.toNatClampNeg)), some (.int 0), some (.int (f 4))]) (rest := []) hi_211_163 (am_hd0 (M := 211) (by decide) 163) (Nat.le_of_ble_eq_true rfl) (Nat.le_of_ble_eq_true rfl) (show 5 ≤ am_P0.2.2.1 189 from by decide +kernel) rfl (am_recv_ok hS828.fs) rfl rfl (ct_put (d := (d + 5)) hS828 hR837  (by show (0 : Int) ≤ (f 32).toInt; omega) (by show (f 32).toInt ≤ (63 : Int); omega) (by show (f 53).toInt ≤ (4096 : Int); omega) (by show (0 : Int) ≤ s808.toInt; omega) (by show s808.toInt ≤ (65534 : Int); omega)) ?_
          rintro v838 S839 (⟨z840, r841, g'842, hv843, hS844, hR848, h845, h846, h847⟩)
          subst hv843
          have h845_ : z840.toInt = s808.toInt + 1 := h845
          have h846_ : r841.toInt = s808.toInt := h846
          have h847_ : ∀ j, j ∉ [60, 69, 70, 71, 72, 73] → g'842 j = g'810 j := h847
          replace hS844 : MS S0 S839 (upd (upd (upd (upd f 4 z826) 62 o807) 68 z840) 75 m809) g'842 := hS844
          have hR848_ : RJ (upd (upd (upd (upd f 4 z826) 62 o807) 68 z840) 75 m809) g'842 gs bc [] 0 (s808.toNatClampNeg :: []) := hR848
          show am_E _ _ _ _ [some (.ref 39), some (.int r2), some (.int (f 4)), none] [.int r841] _ _
          refine am_e6i hi_211_166 ?_
          refine am_e2 (v := 39) hi_211_167 rfl ?_
          refine am_e32n (as := [.ref 39]) (la := [some (.ref 39)]) (rest := []) hi_211_168 (am_hd0 (M := 211) (by decide) 168) (Nat.le_of_ble_eq_true rfl) (Nat.le_of_ble_eq_true rfl) (show 1 ≤ am_P0.2.2.1 183 from by decide +kernel) rfl (am_recv_ok hS844.fs) rfl rfl (ct_next (d := (d + 4)) hS844   (by show (0 : Int) ≤ z826.toInt; omega) (by show (f 0).toInt ≤ (16384 : Int); omega)) ?_
          rintro v849 S850 (⟨r851, hv852, hS853, h854⟩)
          subst hv852
          have h854_ : z826.toInt < (f 0).toInt ∨ r851.toInt = (-1 : Int) := h854
          show am_E _ _ _ _ [some (.ref 39), some (.int r2), some (.int (f 4)), none] [.int r851] _ _
          refine am_e3 (ls' := [some (.ref 39), some (.int r2), some (.int (f 4)), some (.int r851)]) hi_211_171 (Nat.le_of_ble_eq_true rfl) rfl ?_
          refine am_e1 (v := r851) hi_211_172 rfl ?_
          refine am_e0 hi_211_173 ?_
          by_cases c856 : r851.toInt = (60 : Int)
          · refine am_e13t hi_211_175 (am_cT (m := r851.toInt) (n := (60 : Int)) rfl (by decide) c856) ?_
            refine am_e2 (v := 39) hi_211_197 rfl ?_
            refine am_e0 hi_211_198 ?_
            refine am_e0 hi_211_200 ?_
            refine am_e0 hi_211_201 ?_
            refine am_e0 hi_211_202 ?_
            refine am_e32n (as := [.ref 39, .int 28, .int 0, .int 0, .int 0]) (la := [some (.ref 39), some (.int 28), some (.int 0), some (.int 0), some (.int 0)]) (rest := []) hi_211_203 (am_hd0 (M := 211) (by decide) 203) (Nat.le_of_ble_eq_true rfl) (Nat.le_of_ble_eq_true rfl) (show 5 ≤ am_P0.2.2.1 179 from by decide +kernel) rfl (am_recv_ok hS853.fs) rfl rfl (ct_pile (d := (d + 5)) hS853 hR848_ (mj_e_plain (by decide)) (by show (0 : Int) ≤ (f 10).toInt; omega) (by show (f 10).toInt ≤ (65535 : Int); omega)) ?_
            rintro v857 S858 (⟨z859, g'860, hv861, hS862, hR865, h863, h864⟩)
            subst hv861
            have h863_ : z859.toInt = (f 10).toInt + 1 := h863
            have h864_ : ∀ j, j ∉ [11, 12, 13, 14] → g'860 j = g'842 j := h864
            replace hS862 : MS S0 S858 (upd (upd (upd (upd (upd f 4 z826) 10 z859) 62 o807) 68 z840) 75 m809) g'860 := hS862
            have hR865_ : RJ (upd (upd (upd (upd (upd f 4 z826) 10 z859) 62 o807) 68 z840) 75 m809) g'860 (((28 : Int), (0 : Int), (0 : Int), (0 : Int), []) :: gs) bc [] 0 (s808.toNatClampNeg :: []) := hR865
            show am_E _ _ _ _ [some (.ref 39), some (.int r2), some (.int (f 4)), some (.int r851)] [] _ _
            refine am_e2 (v := 39) hi_211_206 rfl ?_
            refine am_e0 hi_211_207 ?_
            refine am_e32w (as := [.ref 39, .int 1]) (la := [some (.ref 39), some (.int 1), none]) (rest := []) hi_211_208 (am_hd0 (M := 211) (by decide) 208) (Nat.le_of_ble_eq_true rfl) (Nat.le_of_ble_eq_true rfl) (show 2 ≤ am_P0.2.2.1 212 from by decide +kernel) rfl (am_recv_ok hS862.fs) rfl rfl ?_
            refine am_e2 (v := 39) hi_212_0 rfl ?_
            refine mm_20 (v := .int z826) hS862 hi_212_1 rfl ?_
            refine am_e3 (ls' := [some (.ref 39), some (.int 1), some (.int z826)]) hi_212_4 (Nat.le_of_ble_eq_true rfl) rfl ?_
            refine am_e2 (v := 39) hi_212_5 rfl ?_
            refine am_e32n (as := [.ref 39]) (la := [some (.ref 39)]) (rest := []) hi_212_6 (am_hd0 (M := 212) (by decide) 6) (Nat.le_of_ble_eq_true rfl) (Nat.le_of_ble_eq_true rfl) (show 1 ≤ am_P0.2.2.1 183 from by decide +kernel) rfl (am_recv_ok hS862.fs) rfl rfl (ct_next (d := (d + 3)) hS862   (by show (0 : Int) ≤ z826.toInt; omega) (by show (f 0).toInt ≤ (16384 : Int); omega)) ?_
            rintro v866 S867 (⟨r868, hv869, hS870, h871⟩)
            subst hv869
            have h871_ : z826.toInt < (f 0).toInt ∨ r868.toInt = (-1 : Int) := h871
            show am_E _ _ _ _ [some (.ref 39), some (.int 1), some (.int z826)] [.int r868] _ _
            refine am_e0 hi_212_9 ?_
            by_cases c873 : ¬ r868.toInt = (3 : Int)
            · refine am_e13t hi_212_10 (am_cT (m := r868.toInt) (n := (3 : Int)) rfl (by decide) c873) ?_
              refine am_e2 (v := 39) hi_212_52 rfl ?_
              refine am_e32n (as := [.ref 39]) (la := [some (.ref 39)]) (rest := []) hi_212_53 (am_hd0 (M := 212) (by decide) 53) (Nat.le_of_ble_eq_true rfl) (Nat.le_of_ble_eq_true rfl) (show 1 ≤ am_P0.2.2.1 183 from by decide +kernel) rfl (am_recv_ok hS870.fs) rfl rfl (ct_next (d := (d + 3)) hS870   (by show (0 : Int) ≤ z826.toInt; omega) (by show (f 0).toInt ≤ (16384 : Int); omega)) ?_
              rintro v874 S875 (⟨r876, hv877, hS878, h879⟩)
              subst hv877
              have h879_ : z826.toInt < (f 0).toInt ∨ r876.toInt = (-1 : Int) := h879
              show am_E _ _ _ _ [some (.ref 39), some (.int 1), some (.int z826)] [.int r876] _ _
              refine am_e0 hi_212_56 ?_
              by_cases c881 : ¬ r876.toInt = (62 : Int)
              · refine am_e13t hi_212_58 (am_cT (m := r876.toInt) (n := (62 : Int)) rfl (by decide) c881) ?_
                refine am_e2 (v := 39) hi_212_77 rfl ?_
                refine am_e0 hi_212_78 ?_
                refine am_e32n (as := [.ref 39, .int 60]) (la := [some (.ref 39), some (.int 60)]) (rest := []) hi_212_80 (am_hd0 (M := 212) (by decide) 80) (Nat.le_of_ble_eq_true rfl) (Nat.le_of_ble_eq_true rfl) (show 2 ≤ am_P0.2.2.1 193 from by decide +kernel) rfl (am_recv_ok hS878.fs) rfl rfl (ct_enter (d := (d + 2)) hS878   (by show (0 : Int) ≤ z826.toInt; omega) (by show (f 0).toInt ≤ (16384 : Int); omega) (by show (0 : Int) ≤ (60 : Int); omega) (by show (0 : Int) ≤ (f 5).toInt; omega) (by show (f 5).toInt ≤ (48 : Int); omega)) ?_
                rintro v882 S883 (⟨z884, y885, hv886, hS887, h888, h889, h890, h891⟩ | ⟨a893, b894, hv895, hS896⟩)
                · subst hv886
                  have h888_ : z884.toInt = z826.toInt + 1 := h888
                  have h889_ : z826.toInt < (f 0).toInt := h889
                  have h890_ : y885.toInt = (f 5).toInt + 1 := h890
                  have h891_ : y885.toInt ≤ (48 : Int) := h891
                  replace hS887 : MS S0 S883 (upd (upd (upd (upd (upd (upd f 4 z884) 5 y885) 10 z859) 62 o807) 68 z840) 75 m809) g'860 := hS887
                  have hR898 : RJ (upd (upd (upd (upd (upd (upd f 4 z884) 5 y885) 10 z859) 62 o807) 68 z840) 75 m809) g'860 (((28 : Int), (0 : Int), (0 : Int), (0 : Int), []) :: gs) bc [] 0 (s808.toNatClampNeg :: []) := RJ.at hR865_ (by show z826.toInt ≤ z884.toInt; omega)
                  show am_E _ _ _ _ [some (.ref 39), some (.int 1), some (.int z826)] [.int 1] _ _
                  refine am_e12f hi_212_83 (by decide) ?_
                  refine am_e2 (v := 39) hi_212_86 rfl ?_
                  refine am_e32n (as := [.ref 39]) (la := [some (.ref 39)]) (rest := []) hi_212_87 (am_hd0 (M := 212) (by decide) 87) (Nat.le_of_ble_eq_true rfl) (Nat.le_of_ble_eq_true rfl) (show 1 ≤ am_P0.2.2.1 183 from by decide +kernel) rfl (am_recv_ok hS887.fs) rfl rfl (ct_next (d := (d + 3)) hS887   (by show (0 : Int) ≤ z884.toInt; omega) (by show (f 0).toInt ≤ (16384 : Int); omega)) ?_
                  rintro v899 S900 (⟨r901, hv902, hS903, h904⟩)
                  subst hv902
                  have h904_ : z884.toInt < (f 0).toInt ∨ r901.toInt = (-1 : Int) := h904
                  show am_E _ _ _ _ [some (.ref 39), some (.int 1), some (.int z826)] [.int r901] _ _
                  refine am_e0 hi_212_90 ?_
                  by_cases c906 : ¬ r901.toInt = (61 : Int)
                  · refine am_e13t hi_212_92 (am_cT (m := r901.toInt) (n := (61 : Int)) rfl (by decide) c906) ?_
                    refine am_e2 (v := 39) hi_212_112 rfl ?_
                    refine am_e0 hi_212_113 ?_
                    refine am_e1 (v := 1) hi_212_115 rfl ?_
                    refine am_e1 (v := z826) hi_212_116 rfl ?_
                    refine am_e0 hi_212_117 ?_
                    refine am_e32n (as := [.ref 39, .int 32, .int 1, .int z826, .int 0]) (la := [some (.ref 39), some (.int 32), some (.int 1), some (.int z826), some (.int 0)]) (rest := []) hi_212_118 (am_hd0 (M := 212) (by decide) 118) (Nat.le_of_ble_eq_true rfl) (Nat.le_of_ble_eq_true rfl) (show 5 ≤ am_P0.2.2.1 179 from by decide +kernel) rfl (am_recv_ok hS903.fs) rfl rfl (ct_pile (d := (d + 4)) hS903 hR898 (mj_e_plain (by decide)) (by show (0 : Int) ≤ z859.toInt; omega) (by show z859.toInt ≤ (65535 : Int); omega)) ?_
                    rintro v907 S908 (⟨z909, g'910, hv911, hS912, hR915, h913, h914⟩)
                    subst hv911
                    have h913_ : z909.toInt = z859.toInt + 1 := h913
                    have h914_ : ∀ j, j ∉ [11, 12, 13, 14] → g'910 j = g'860 j := h914
                    replace hS912 : MS S0 S908 (upd (upd (upd (upd (upd (upd f 4 z884) 5 y885) 10 z909) 62 o807) 68 z840) 75 m809) g'910 := hS912
                    have hR915_ : RJ (upd (upd (upd (upd (upd (upd f 4 z884) 5 y885) 10 z909) 62 o807) 68 z840) 75 m809) g'910 (((32 : Int), (1 : Int), z826.toInt, (0 : Int), []) :: (((28 : Int), (0 : Int), (0 : Int), (0 : Int), []) :: gs)) bc [] 0 (s808.toNatClampNeg :: []) := hR915
                    show am_E _ _ _ _ [some (.ref 39), some (.int 1), some (.int z826)] [] _ _
                    refine am_e2 (v := 39) hi_212_121 rfl ?_
                    refine am_e32w (as := [.ref 39]) (la := [some (.ref 39)]) (rest := []) hi_212_122 (am_hd0 (M := 212) (by decide) 122) (Nat.le_of_ble_eq_true rfl) (Nat.le_of_ble_eq_true rfl) (show 1 ≤ am_P0.2.2.1 214 from by decide +kernel) rfl (am_recv_ok hS912.fs) rfl rfl ?_
                    refine am_e2 (v := 39) hi_214_0 rfl ?_
                    refine am_e0 hi_214_1 ?_
                    refine am_e0 hi_214_3 ?_
                    refine am_e0 hi_214_4 ?_
                    refine am_e0 hi_214_5 ?_
                    refine am_e32n (as := [.ref 39, .int 34, .int 1, .int 0, .int 0]) (la := [some (.ref 39), some (.int 34), some (.int 1), some (.int 0), some (.int 0)]) (rest := []) hi_214_6 (am_hd0 (M := 214) (by decide) 6) (Nat.le_of_ble_eq_true rfl) (Nat.le_of_ble_eq_true rfl) (show 5 ≤ am_P0.2.2.1 179 from by decide +kernel) rfl (am_recv_ok hS912.fs) rfl rfl (ct_pile (d := (d + 3)) hS912 hR915_ (mj_e_plain (by decide)) (by show (0 : Int) ≤ z909.toInt; omega) (by show z909.toInt ≤ (65535 : Int); omega)) ?_
                    rintro v916 S917 (⟨z918, g'919, hv920, hS921, hR924, h922, h923⟩)
                    subst hv920
                    have h922_ : z918.toInt = z909.toInt + 1 := h922
                    have h923_ : ∀ j, j ∉ [11, 12, 13, 14] → g'919 j = g'910 j := h923
                    replace hS921 : MS S0 S917 (upd (upd (upd (upd (upd (upd f 4 z884) 5 y885) 10 z918) 62 o807) 68 z840) 75 m809) g'919 := hS921
                    have hR924_ : RJ (upd (upd (upd (upd (upd (upd f 4 z884) 5 y885) 10 z918) 62 o807) 68 z840) 75 m809) g'919 (((34 : Int), (1 : Int), (0 : Int), (0 : Int), []) :: (((32 : Int), (1 : Int), z826.toInt, (0 : Int), []) :: (((28 : Int), (0 : Int), (0 : Int), (0 : Int), []) :: gs))) bc [] 0 (s808.toNatClampNeg :: []) := hR924
                    show am_E _ _ _ _ [some (.ref 39)] [] _ _
                    refine am_e2 (v := 39) hi_214_9 rfl ?_
                    refine am_e0 hi_214_10 ?_
                    refine am_e32w (as := [.ref 39, .int 0]) (la := [some (.ref 39), some (.int 0)]) (rest := []) hi_214_11 (am_hd0 (M := 214) (by decide) 11) (Nat.le_of_ble_eq_true rfl) (Nat.le_of_ble_eq_true rfl) (show 2 ≤ am_P0.2.2.1 186 from by decide +kernel) rfl (am_recv_ok hS921.fs) rfl rfl ?_
                    refine am_e2 (v := 39) hi_186_0 rfl ?_
                    refine am_e0 hi_186_1 ?_
                    refine am_e1 (v := 0) hi_186_3 rfl ?_
                    refine am_e0 hi_186_4 ?_
                    refine am_e0 hi_186_5 ?_
                    refine am_e32n (as := [.ref 39, .int 23, .int 0, .int 0, .int 0]) (la := [some (.ref 39), some (.int 23), some (.int 0), some (.int 0), some (.int 0)]) (rest := []) hi_186_6 (am_hd0 (M := 186) (by decide) 6) (Nat.le_of_ble_eq_true rfl) (Nat.le_of_ble_eq_true rfl) (show 5 ≤ am_P0.2.2.1 179 from by decide +kernel) rfl (am_recv_ok hS921.fs) rfl rfl (ct_pile (d := (d + 2)) hS921 hR924_ (mj_e_plain (by decide)) (by show (0 : Int) ≤ z918.toInt; omega) (by show z918.toInt ≤ (65535 : Int); omega)) ?_
                    rintro v925 S926 (⟨z927, g'928, hv929, hS930, hR933, h931, h932⟩)
                    subst hv929
                    have h931_ : z927.toInt = z918.toInt + 1 := h931
                    have h932_ : ∀ j, j ∉ [11, 12, 13, 14] → g'928 j = g'919 j := h932
                    replace hS930 : MS S0 S926 (upd (upd (upd (upd (upd (upd f 4 z884) 5 y885) 10 z927) 62 o807) 68 z840) 75 m809) g'928 := hS930
                    have hR933_ : RJ (upd (upd (upd (upd (upd (upd f 4 z884) 5 y885) 10 z927) 62 o807) 68 z840) 75 m809) g'928 (((23 : Int), (0 : Int), (0 : Int), (0 : Int), []) :: (((34 : Int), (1 : Int), (0 : Int), (0 : Int), []) :: (((32 : Int), (1 : Int), z826.toInt, (0 : Int), []) :: (((28 : Int), (0 : Int), (0 : Int), (0 : Int), []) :: gs)))) bc [] 0 (s808.toNatClampNeg :: []) := hR933
                    show am_E _ _ _ _ [some (.ref 39), some (.int 0)] [] _ _
                    refine am_e35 hi_186_9 ?_
                    show am_E _ _ _ _ [some (.ref 39)] [] _ _
                    refine am_e35 hi_214_14 ?_
                    show am_E _ _ _ _ [some (.ref 39), some (.int 1), some (.int z826)] [] _ _
                    refine am_e35 hi_212_125 ?_
                    show am_E _ _ _ _ [some (.ref 39), some (.int r2), some (.int (f 4)), some (.int r851)] [] _ _
                    refine am_e18 hi_211_211 ?_
                    refine am_e35 hi_211_249 ?_
                    show am_E _ _ _ _ [some (.ref 39), some (.int 28), some (.int on), some (.int tw)] [] _ _
                    refine am_e18 hi_181_180 ?_
                    refine am_e35 hi_181_397 ?_
                    show am_E _ _ _ _ [some (.ref 39), some (.int 28), some (.int on), some (.int tw), some (.int th)] [] _ _
                    refine am_e35 hi_180_13 ?_
                    have q1 : mg_p1 (((23 : Int), (0 : Int), (0 : Int), (0 : Int), []) :: (((34 : Int), (1 : Int), (0 : Int), (0 : Int), []) :: (((32 : Int), (1 : Int), z826.toInt, (0 : Int), []) :: (((28 : Int), (0 : Int), (0 : Int), (0 : Int), []) :: gs)))) = 0 + (0 + (0 + (0 + (mg_p1 gs)))) := rfl
                    have q2 : mg_p2 (((23 : Int), (0 : Int), (0 : Int), (0 : Int), []) :: (((34 : Int), (1 : Int), (0 : Int), (0 : Int), []) :: (((32 : Int), (1 : Int), z826.toInt, (0 : Int), []) :: (((28 : Int), (0 : Int), (0 : Int), (0 : Int), []) :: gs)))) = 0 + (((1 : Int) - 1) + (0 + (0 + (mg_p2 gs)))) := rfl
                    have q3 : mg_p3 (((23 : Int), (0 : Int), (0 : Int), (0 : Int), []) :: (((34 : Int), (1 : Int), (0 : Int), (0 : Int), []) :: (((32 : Int), (1 : Int), z826.toInt, (0 : Int), []) :: (((28 : Int), (0 : Int), (0 : Int), (0 : Int), []) :: gs)))) = 1 + (1 + (1 + (1 + (mg_p3 gs)))) := rfl
                    have q4 : mg_p4 (((23 : Int), (0 : Int), (0 : Int), (0 : Int), []) :: (((34 : Int), (1 : Int), (0 : Int), (0 : Int), []) :: (((32 : Int), (1 : Int), z826.toInt, (0 : Int), []) :: (((28 : Int), (0 : Int), (0 : Int), (0 : Int), []) :: gs)))) = 0 + (0 + (0 + (0 + (mg_p4 gs)))) := rfl
                    refine ⟨_, _, _, bc, rfl, hS930, Or.inl ⟨⟨(RJ.fewer (pj' := []) hR933_ (fun _ h => nomatch h)), ?_, ?_⟩, rfl, ?_⟩⟩
                    · exact (⟨⟨(show mg_k 23 from by decide), (show (0 : Int) ≤ (f 15).toInt from by omega), (show 0 ≤ (f 20).toInt from by omega), (show 1 ≤ (f 37).toInt from by omega), (show 0 ≤ (f 32).toInt from by omega), (show (f 32).toInt ≤ y885.toInt from by omega), (show y885.toInt ≤ 48 from by omega), (show (f 37).toInt ≤ 2 * (y885.toInt) + 2 from by omega), (show 0 ≤ (0 : Int) from by omega)⟩, ⟨⟨(show mg_k 34 from by decide), (show (1 : Int) ≤ (f 15).toInt + 1 from by omega), (show 0 ≤ (f 20).toInt from by omega), (show 1 ≤ (f 37).toInt + 0 from by omega), (show 0 ≤ (f 32).toInt + 0 from by omega), (show (f 32).toInt + 0 ≤ y885.toInt + 0 from by omega), (show y885.toInt + 0 ≤ 48 from by omega), (show (f 37).toInt + 0 ≤ 2 * (y885.toInt + 0) + 2 from by omega), (show 1 ≤ (1 : Int) from by omega)⟩, ⟨⟨(show mg_k 32 from by decide), (show (2 : Int) ≤ (f 15).toInt + 1 + 0 from by omega), (show 0 ≤ (f 20).toInt from by omega), (show 1 ≤ (f 37).toInt + 0 + 0 from by omega), (show 0 ≤ (f 32).toInt + 0 + 0 from by omega), (show (f 32).toInt + 0 + 0 ≤ y885.toInt + 0 + 0 from by omega), (show y885.toInt + 0 + 0 ≤ 48 from by omega), (show (f 37).toInt + 0 + 0 ≤ 2 * (y885.toInt + 0 + 0) + 2 from by omega), trivial⟩, ⟨⟨(show mg_k 28 from by decide), (show (1 : Int) ≤ (f 15).toInt + 1 + 0 + -1 from by omega), (show 0 ≤ (f 20).toInt from by omega), (show 1 ≤ (f 37).toInt + 0 + 0 + 0 from by omega), (show 0 ≤ (f 32).toInt + 0 + 0 + 0 from by omega), (show (f 32).toInt + 0 + 0 + 0 ≤ y885.toInt + 0 + 0 + -1 from by omega), (show y885.toInt + 0 + 0 + -1 ≤ 48 from by omega), (show (f 37).toInt + 0 + 0 + 0 ≤ 2 * (y885.toInt + 0 + 0 + -1) + 2 from by omega), trivial⟩, mg_cast (mg_good_ext _ _ _ _ _ _ (fun i _ => by show g'928 34 i = g 34 i; rw [show g'928 34 = g'919 34 from h932_ 34 (by decide), show g'919 34 = g'910 34 from h923_ 34 (by decide), show g'910 34 = g'860 34 from h914_ 34 (by decide), show g'860 34 = g'842 34 from h864_ 34 (by decide), show g'842 34 = g'810 34 from h847_ 34 (by decide), show g'810 34 = g 34 from h818_ 34 (by decide)]) (fun i _ => by show g'928 38 i = g 38 i; rw [show g'928 38 = g'919 38 from h932_ 38 (by decide), show g'919 38 = g'910 38 from h923_ 38 (by decide), show g'910 38 = g'860 38 from h914_ 38 (by decide), show g'860 38 = g'842 38 from h864_ 38 (by decide), show g'842 38 = g'810 38 from h847_ 38 (by decide), show g'810 38 = g 38 from h818_ 38 (by decide)]) (fun i _ => by show g'928 23 i = g 23 i; rw [show g'928 23 = g'919 23 from h932_ 23 (by decide), show g'919 23 = g'910 23 from h923_ 23 (by decide), show g'910 23 = g'860 23 from h914_ 23 (by decide), show g'860 23 = g'842 23 from h864_ 23 (by decide), show g'842 23 = g'810 23 from h847_ 23 (by decide), show g'810 23 = g 23 from h818_ 23 (by decide)]) hrest) (by show (f 15).toInt + 0 = (f 15).toInt + 1 + 0 + -1 + 0; omega) (by show (f 20).toInt = (f 20).toInt; omega) (by show (f 37).toInt + 0 = (f 37).toInt + 0 + 0 + 0 + 0; omega) (by show (f 32).toInt + 0 = (f 32).toInt + 0 + 0 + 0 + 0; omega) (by show (f 5).toInt + 0 = y885.toInt + 0 + 0 + -1 + 0; omega)⟩⟩⟩⟩ : mg_good (g'928 34) (g'928 38) (g'928 23) (((23 : Int), (0 : Int), (0 : Int), (0 : Int), []) :: (((34 : Int), (1 : Int), (0 : Int), (0 : Int), []) :: (((32 : Int), (1 : Int), z826.toInt, (0 : Int), []) :: (((28 : Int), (0 : Int), (0 : Int), (0 : Int), []) :: gs)))) ((f 15).toInt) ((f 20).toInt) ((f 37).toInt) ((f 32).toInt) (y885.toInt))
                    · exact ⟨(by show 0 ≤ z884.toInt; omega), (by show z884.toInt ≤ (f 0).toInt; omega), (by show (f 0).toInt ≤ 512; omega), (by show 0 ≤ (f 24).toInt; omega), (by show (f 24).toInt + (f 20).toInt + mg_p1 (((23 : Int), (0 : Int), (0 : Int), (0 : Int), []) :: (((34 : Int), (1 : Int), (0 : Int), (0 : Int), []) :: (((32 : Int), (1 : Int), z826.toInt, (0 : Int), []) :: (((28 : Int), (0 : Int), (0 : Int), (0 : Int), []) :: gs)))) ≤ 4 * z884.toInt; omega), (by show (f 20).toInt ≤ z884.toInt; omega), (by show (f 15).toInt + mg_p2 (((23 : Int), (0 : Int), (0 : Int), (0 : Int), []) :: (((34 : Int), (1 : Int), (0 : Int), (0 : Int), []) :: (((32 : Int), (1 : Int), z826.toInt, (0 : Int), []) :: (((28 : Int), (0 : Int), (0 : Int), (0 : Int), []) :: gs)))) ≤ z884.toInt; omega), (by show mg_p3 (((23 : Int), (0 : Int), (0 : Int), (0 : Int), []) :: (((34 : Int), (1 : Int), (0 : Int), (0 : Int), []) :: (((32 : Int), (1 : Int), z826.toInt, (0 : Int), []) :: (((28 : Int), (0 : Int), (0 : Int), (0 : Int), []) :: gs)))) ≤ 20 * z884.toInt + 20; omega), (by show 0 ≤ z840.toInt; omega), (by show z840.toInt + 3 * (f 20).toInt + mg_p4 (((23 : Int), (0 : Int), (0 : Int), (0 : Int), []) :: (((34 : Int), (1 : Int), (0 : Int), (0 : Int), []) :: (((32 : Int), (1 : Int), z826.toInt, (0 : Int), []) :: (((28 : Int), (0 : Int), (0 : Int), (0 : Int), []) :: gs)))) ≤ 60 * z884.toInt + 60; omega), (by show 0 ≤ o807.toInt; omega), (by show o807.toInt + 64 * mj_n (g'928 16) (f 15).toNatClampNeg 3 ≤ 64 * z884.toInt; rw [show g'928 16 = g'919 16 from h932_ 16 (by decide), show g'919 16 = g'910 16 from h923_ 16 (by decide), show g'910 16 = g'860 16 from h914_ 16 (by decide), show g'860 16 = g'842 16 from h864_ 16 (by decide), show g'842 16 = g'810 16 from h847_ 16 (by decide)]; omega), (by show 0 ≤ (f 44).toInt; omega), (by show (f 44).toInt ≤ z884.toInt; omega), (by show 0 ≤ (f 48).toInt; omega), (by show (f 48).toInt ≤ z884.toInt; omega), (by show 1 ≤ (f 53).toInt; omega), (by show (f 53).toInt ≤ z884.toInt + 1; omega), (by show 0 ≤ (f 19).toInt; omega), (by show (f 19).toInt ≤ 600; omega)⟩
                    · show 100 * ((f 0).toInt - z884.toInt) + mg_p3 (((23 : Int), (0 : Int), (0 : Int), (0 : Int), []) :: (((34 : Int), (1 : Int), (0 : Int), (0 : Int), []) :: (((32 : Int), (1 : Int), z826.toInt, (0 : Int), []) :: (((28 : Int), (0 : Int), (0 : Int), (0 : Int), []) :: gs)))) < 100 * ((f 0).toInt - (f 4).toInt) + (1 + mg_p3 gs); omega
                  · refine am_e13f hi_212_92 (am_cF (m := r901.toInt) (n := (61 : Int)) rfl (by decide) c906) ?_
                    refine am_e2 (v := 39) hi_212_95 rfl ?_
                    refine am_e0 hi_212_96 ?_
                    refine am_e32n (as := [.ref 39, .int 61]) (la := [some (.ref 39), some (.int 61)]) (rest := []) hi_212_98 (am_hd0 (M := 212) (by decide) 98) (Nat.le_of_ble_eq_true rfl) (Nat.le_of_ble_eq_true rfl) (show 2 ≤ am_P0.2.2.1 199 from by decide +kernel) rfl (am_recv_ok hS903.fs) rfl rfl (ct_leave (d := (d + 1)) hS903   (by show (0 : Int) ≤ z884.toInt; omega) (by show (f 0).toInt ≤ (16384 : Int); omega) (by show (0 : Int) ≤ (61 : Int); omega) (by show (0 : Int) ≤ y885.toInt; omega) (by show y885.toInt ≤ (48 : Int); omega)) ?_
                    rintro v934 S935 (⟨z936, y937, hv938, hS939, h940, h941, h942⟩ | ⟨a944, b945, hv946, hS947⟩)
                    · subst hv938
                      have h940_ : z936.toInt = z884.toInt + 1 := h940
                      have h941_ : z884.toInt < (f 0).toInt := h941
                      have h942_ : y937.toInt = y885.toInt - 1 := h942
                      replace hS939 : MS S0 S935 (upd (upd (upd (upd (upd (upd f 4 z936) 5 y937) 10 z859) 62 o807) 68 z840) 75 m809) g'860 := hS939
                      have hR949 : RJ (upd (upd (upd (upd (upd (upd f 4 z936) 5 y937) 10 z859) 62 o807) 68 z840) 75 m809) g'860 (((28 : Int), (0 : Int), (0 : Int), (0 : Int), []) :: gs) bc [] 0 (s808.toNatClampNeg :: []) := RJ.at hR898 (by show z884.toInt ≤ z936.toInt; omega)
                      show am_E _ _ _ _ [some (.ref 39), some (.int 1), some (.int z826)] [.int 1] _ _
                      refine am_e6i hi_212_101 ?_
                      refine am_e2 (v := 39) hi_212_102 rfl ?_
                      refine am_e1 (v := 1) hi_212_103 rfl ?_
                      refine am_e0 hi_212_104 ?_
                      refine am_e1 (v := z826) hi_212_105 rfl ?_
                      refine am_e32w (as := [.ref 39, .int 1, .int 0, .int z826]) (la := [some (.ref 39), some (.int 1), some (.int 0), some (.int z826), none]) (rest := []) hi_212_106 (am_hd0 (M := 212) (by decide) 106) (Nat.le_of_ble_eq_true rfl) (Nat.le_of_ble_eq_true rfl) (show 4 ≤ am_P0.2.2.1 213 from by decide +kernel) rfl (am_recv_ok hS939.fs) rfl rfl ?_
                      refine am_e2 (v := 39) hi_213_0 rfl ?_
                      refine am_e0 hi_213_1 ?_
                      refine am_e1 (v := 1) hi_213_3 rfl ?_
                      refine am_e1 (v := 0) hi_213_4 rfl ?_
                      refine am_e0 hi_213_5 ?_
                      refine am_e10 (z := 2) hi_213_6 (by decide) ?_
                      refine am_e1 (v := z826) hi_213_7 rfl ?_
                      refine am_e32n (as := [.ref 39, .int 13, .int 1, .int 2, .int z826]) (la := [some (.ref 39), some (.int 13), some (.int 1), some (.int 2), some (.int z826)]) (rest := []) hi_213_8 (am_hd0 (M := 213) (by decide) 8) (Nat.le_of_ble_eq_true rfl) (Nat.le_of_ble_eq_true rfl) (show 5 ≤ am_P0.2.2.1 189 from by decide +kernel) rfl (am_recv_ok hS939.fs) rfl rfl (ct_put (d := (d + 3)) hS939 hR949  (by show (0 : Int) ≤ (f 32).toInt; omega) (by show (f 32).toInt ≤ (63 : Int); omega) (by show (f 53).toInt ≤ (4096 : Int); omega) (by show (0 : Int) ≤ z840.toInt; omega) (by show z840.toInt ≤ (65534 : Int); omega)) ?_
                      rintro v950 S951 (⟨z952, r953, g'954, hv955, hS956, hR960, h957, h958, h959⟩)
                      subst hv955
                      have h957_ : z952.toInt = z840.toInt + 1 := h957
                      have h958_ : r953.toInt = z840.toInt := h958
                      have h959_ : ∀ j, j ∉ [60, 69, 70, 71, 72, 73] → g'954 j = g'860 j := h959
                      replace hS956 : MS S0 S951 (upd (upd (upd (upd (upd (upd f 4 z936) 5 y937) 10 z859) 62 o807) 68 z952) 75 m809) g'954 := hS956
                      have hR960_ : RJ (upd (upd (upd (upd (upd (upd f 4 z936) 5 y937) 10 z859) 62 o807) 68 z952) 75 m809) g'954 (((28 : Int), (0 : Int), (0 : Int), (0 : Int), []) :: gs) bc [] 0 (z840.toNatClampNeg :: (s808.toNatClampNeg :: [])) := hR960
                      show am_E _ _ _ _ [some (.ref 39), some (.int 1), some (.int 0), some (.int z826), none] [.int r953] _ _
                      refine am_e3 (ls' := [some (.ref 39), some (.int 1), some (.int 0), some (.int z826), some (.int r953)]) hi_213_11 (Nat.le_of_ble_eq_true rfl) rfl ?_
                      refine am_e2 (v := 39) hi_213_13 rfl ?_
                      refine am_e7 hi_213_14 ?_
                      refine mm_20 (v := .int (f 15)) hS956 hi_213_15 rfl ?_
                      refine am_e0 hi_213_18 ?_
                      obtain ⟨z961, hz961, tz961⟩ := am_subI (x := f 15) (y := 1) (m := (f 15).toInt) (n := (1 : Int)) rfl (by decide) (by omega) (by omega)
                      refine am_e10 (z := z961) hi_213_19 hz961 ?_
                      refine mm_21 (v := z961) hS956 hi_213_20 rfl (Nat.le_of_ble_eq_true rfl) ms_15 ?_
                      intro S962 hS963
                      replace hS963 : MS S0 S962 (upd (upd (upd (upd (upd (upd (upd f 4 z936) 5 y937) 10 z859) 15 z961) 62 o807) 68 z952) 75 m809) g'954 := hS963
                      have hp964 : mj_n (g'810 16) (f 15).toNatClampNeg 3 = mj_n (g'810 16) z961.toNatClampNeg 3 + if (g'810 16 z961.toNatClampNeg).toInt = 3 then 1 else 0 := mj_pop (by rw [cl_toNat, cl_toNat]; omega)
                      have hp9641 : mj_n (g'810 16) z961.toNatClampNeg 3 ≤ mj_n (g'810 16) (f 15).toNatClampNeg 3 := by rw [hp964]; split <;> omega
                      have hp9642 : (g'810 16 z961.toNatClampNeg).toInt = 3 → mj_n (g'810 16) z961.toNatClampNeg 3 + 1 ≤ mj_n (g'810 16) (f 15).toNatClampNeg 3 := fun q => by rw [hp964, if_pos q]; exact Int.le_refl _
                      refine am_e2 (v := 39) hi_213_23 rfl ?_
                      refine am_e0 hi_213_24 ?_
                      refine am_e1 (v := r953) hi_213_25 rfl ?_
                      refine am_e1 (v := z826) hi_213_27 rfl ?_
                      refine am_e32n (as := [.ref 39, .int 1, .int r953, .int z826]) (la := [some (.ref 39), some (.int 1), some (.int r953), some (.int z826)]) (rest := []) hi_213_28 (am_hd0 (M := 213) (by decide) 28) (Nat.le_of_ble_eq_true rfl) (Nat.le_of_ble_eq_true rfl) (show 4 ≤ am_P0.2.2.1 190 from by decide +kernel) rfl (am_recv_ok hS963.fs) rfl rfl (ct_value (d := (d + 3)) hS963 hR960_ (fun h => absurd h (by decide)) (fun _ => ⟨by omega, by omega⟩) (by show (0 : Int) ≤ z961.toInt; omega) (by show z961.toInt ≤ (32767 : Int); omega)) ?_
                      rintro v965 S966 (⟨z967, g'968, hv969, hS970, hR975, h971, h972, h973, h974⟩)
                      subst hv969
                      have h971_ : z967.toInt = z961.toInt + 1 := h971
                      have h972_ : ∀ j, j ∉ [16, 17, 18] → g'968 j = g'954 j := h972
                      have h973_ : mj_n (g'968 16) z967.toNatClampNeg 3 ≤ mj_n (g'810 16) z961.toNatClampNeg 3 + 1 := by rw [show g'954 16 = g'860 16 from h959_ 16 (by decide), show g'860 16 = g'842 16 from h864_ 16 (by decide), show g'842 16 = g'810 16 from h847_ 16 (by decide)] at h973; exact h973
                      have h974_ : (1 : Int) = 3 ∨ mj_n (g'968 16) z967.toNatClampNeg 3 ≤ mj_n (g'810 16) z961.toNatClampNeg 3 := by rw [show g'954 16 = g'860 16 from h959_ 16 (by decide), show g'860 16 = g'842 16 from h864_ 16 (by decide), show g'842 16 = g'810 16 from h847_ 16 (by decide)] at h974; exact h974
                      replace hS970 : MS S0 S966 (upd (upd (upd (upd (upd (upd (upd f 4 z936) 5 y937) 10 z859) 15 z967) 62 o807) 68 z952) 75 m809) g'968 := hS970
                      have hR975_ : RJ (upd (upd (upd (upd (upd (upd (upd f 4 z936) 5 y937) 10 z859) 15 z967) 62 o807) 68 z952) 75 m809) g'968 (((28 : Int), (0 : Int), (0 : Int), (0 : Int), []) :: gs) bc [] 0 (z840.toNatClampNeg :: (s808.toNatClampNeg :: [])) := hR975
                      show am_E _ _ _ _ [some (.ref 39), some (.int 1), some (.int 0), some (.int z826), some (.int r953)] [] _ _
                      refine am_e35 hi_213_31 ?_
                      show am_E _ _ _ _ [some (.ref 39), some (.int 1), some (.int z826)] [] _ _
                      refine am_e18 hi_212_109 ?_
                      refine am_e35 hi_212_125 ?_
                      show am_E _ _ _ _ [some (.ref 39), some (.int r2), some (.int (f 4)), some (.int r851)] [] _ _
                      refine am_e18 hi_211_211 ?_
                      refine am_e35 hi_211_249 ?_
                      show am_E _ _ _ _ [some (.ref 39), some (.int 28), some (.int on), some (.int tw)] [] _ _
                      refine am_e18 hi_181_180 ?_
                      refine am_e35 hi_181_397 ?_
                      show am_E _ _ _ _ [some (.ref 39), some (.int 28), some (.int on), some (.int tw), some (.int th)] [] _ _
                      refine am_e35 hi_180_13 ?_
                      have q1 : mg_p1 (((28 : Int), (0 : Int), (0 : Int), (0 : Int), []) :: gs) = 0 + (mg_p1 gs) := rfl
                      have q2 : mg_p2 (((28 : Int), (0 : Int), (0 : Int), (0 : Int), []) :: gs) = 0 + (mg_p2 gs) := rfl
                      have q3 : mg_p3 (((28 : Int), (0 : Int), (0 : Int), (0 : Int), []) :: gs) = 1 + (mg_p3 gs) := rfl
                      have q4 : mg_p4 (((28 : Int), (0 : Int), (0 : Int), (0 : Int), []) :: gs) = 0 + (mg_p4 gs) := rfl
                      refine ⟨_, _, _, bc, rfl, hS970, Or.inl ⟨⟨(RJ.fewer (pj' := []) hR975_ (fun _ h => nomatch h)), ?_, ?_⟩, rfl, ?_⟩⟩
                      · exact (⟨⟨(show mg_k 28 from by decide), (show (1 : Int) ≤ z967.toInt from by omega), (show 0 ≤ (f 20).toInt from by omega), (show 1 ≤ (f 37).toInt from by omega), (show 0 ≤ (f 32).toInt from by omega), (show (f 32).toInt ≤ y937.toInt from by omega), (show y937.toInt ≤ 48 from by omega), (show (f 37).toInt ≤ 2 * (y937.toInt) + 2 from by omega), trivial⟩, mg_cast (mg_good_ext _ _ _ _ _ _ (fun i _ => by show g'968 34 i = g 34 i; rw [show g'968 34 = g'954 34 from h972_ 34 (by decide), show g'954 34 = g'860 34 from h959_ 34 (by decide), show g'860 34 = g'842 34 from h864_ 34 (by decide), show g'842 34 = g'810 34 from h847_ 34 (by decide), show g'810 34 = g 34 from h818_ 34 (by decide)]) (fun i _ => by show g'968 38 i = g 38 i; rw [show g'968 38 = g'954 38 from h972_ 38 (by decide), show g'954 38 = g'860 38 from h959_ 38 (by decide), show g'860 38 = g'842 38 from h864_ 38 (by decide), show g'842 38 = g'810 38 from h847_ 38 (by decide), show g'810 38 = g 38 from h818_ 38 (by decide)]) (fun i _ => by show g'968 23 i = g 23 i; rw [show g'968 23 = g'954 23 from h972_ 23 (by decide), show g'954 23 = g'860 23 from h959_ 23 (by decide), show g'860 23 = g'842 23 from h864_ 23 (by decide), show g'842 23 = g'810 23 from h847_ 23 (by decide), show g'810 23 = g 23 from h818_ 23 (by decide)]) hrest) (by show (f 15).toInt + 0 = z967.toInt + 0; omega) (by show (f 20).toInt = (f 20).toInt; omega) (by show (f 37).toInt + 0 = (f 37).toInt + 0; omega) (by show (f 32).toInt + 0 = (f 32).toInt + 0; omega) (by show (f 5).toInt + 0 = y937.toInt + 0; omega)⟩ : mg_good (g'968 34) (g'968 38) (g'968 23) (((28 : Int), (0 : Int), (0 : Int), (0 : Int), []) :: gs) (z967.toInt) ((f 20).toInt) ((f 37).toInt) ((f 32).toInt) (y937.toInt))
                      · exact ⟨(by show 0 ≤ z936.toInt; omega), (by show z936.toInt ≤ (f 0).toInt; omega), (by show (f 0).toInt ≤ 512; omega), (by show 0 ≤ (f 24).toInt; omega), (by show (f 24).toInt + (f 20).toInt + mg_p1 (((28 : Int), (0 : Int), (0 : Int), (0 : Int), []) :: gs) ≤ 4 * z936.toInt; omega), (by show (f 20).toInt ≤ z936.toInt; omega), (by show z967.toInt + mg_p2 (((28 : Int), (0 : Int), (0 : Int), (0 : Int), []) :: gs) ≤ z936.toInt; omega), (by show mg_p3 (((28 : Int), (0 : Int), (0 : Int), (0 : Int), []) :: gs) ≤ 20 * z936.toInt + 20; omega), (by show 0 ≤ z952.toInt; omega), (by show z952.toInt + 3 * (f 20).toInt + mg_p4 (((28 : Int), (0 : Int), (0 : Int), (0 : Int), []) :: gs) ≤ 60 * z936.toInt + 60; omega), (by show 0 ≤ o807.toInt; omega), (by show o807.toInt + 64 * mj_n (g'968 16) z967.toNatClampNeg 3 ≤ 64 * z936.toInt; omega), (by show 0 ≤ (f 44).toInt; omega), (by show (f 44).toInt ≤ z936.toInt; omega), (by show 0 ≤ (f 48).toInt; omega), (by show (f 48).toInt ≤ z936.toInt; omega), (by show 1 ≤ (f 53).toInt; omega), (by show (f 53).toInt ≤ z936.toInt + 1; omega), (by show 0 ≤ (f 19).toInt; omega), (by show (f 19).toInt ≤ 600; omega)⟩
                      · show 100 * ((f 0).toInt - z936.toInt) + mg_p3 (((28 : Int), (0 : Int), (0 : Int), (0 : Int), []) :: gs) < 100 * ((f 0).toInt - (f 4).toInt) + (1 + mg_p3 gs); omega
                    · subst hv946
                      replace hS947 : MS S0 S935 (upd (upd (upd (upd (upd (upd (upd (upd f 4 z884) 5 y885) 6 a944) 7 b945) 10 0) 62 o807) 68 z840) 75 m809) g'860 := hS947
                      have hR976 := rj_clear0 hR898
                      have hR977 : RJ (upd (upd (upd (upd (upd (upd (upd (upd f 4 z884) 5 y885) 6 a944) 7 b945) 10 0) 62 o807) 68 z840) 75 m809) g'860 [] bc [] 0 [] := hR976
                      show am_E _ _ _ _ [some (.ref 39), some (.int 1), some (.int z826)] [.int 0] _ _
                      refine am_e6i hi_212_101 ?_
                      refine am_e2 (v := 39) hi_212_102 rfl ?_
                      refine am_e1 (v := 1) hi_212_103 rfl ?_
                      refine am_e0 hi_212_104 ?_
                      refine am_e1 (v := z826) hi_212_105 rfl ?_
                      refine am_e32w (as := [.ref 39, .int 1, .int 0, .int z826]) (la := [some (.ref 39), some (.int 1), some (.int 0), some (.int z826), none]) (rest := []) hi_212_106 (am_hd0 (M := 212) (by decide) 106) (Nat.le_of_ble_eq_true rfl) (Nat.le_of_ble_eq_true rfl) (show 4 ≤ am_P0.2.2.1 213 from by decide +kernel) rfl (am_recv_ok hS947.fs) rfl rfl ?_
                      refine am_e2 (v := 39) hi_213_0 rfl ?_
                      refine am_e0 hi_213_1 ?_
                      refine am_e1 (v := 1) hi_213_3 rfl ?_
                      refine am_e1 (v := 0) hi_213_4 rfl ?_
                      refine am_e0 hi_213_5 ?_
                      refine am_e10 (z := 2) hi_213_6 (by decide) ?_
                      refine am_e1 (v := z826) hi_213_7 rfl ?_
                      refine am_e32n (as := [.ref 39, .int 13, .int 1, .int 2, .int z826]) (la := [some (.ref 39), some (.int 13), some (.int 1), some (.int 2), some (.int z826)]) (rest := []) hi_213_8 (am_hd0 (M := 213) (by decide) 8) (Nat.le_of_ble_eq_true rfl) (Nat.le_of_ble_eq_true rfl) (show 5 ≤ am_P0.2.2.1 189 from by decide +kernel) rfl (am_recv_ok hS947.fs) rfl rfl (ct_put (d := (d + 3)) hS947 hR977  (by show (0 : Int) ≤ (f 32).toInt; omega) (by show (f 32).toInt ≤ (63 : Int); omega) (by show (f 53).toInt ≤ (4096 : Int); omega) (by show (0 : Int) ≤ z840.toInt; omega) (by show z840.toInt ≤ (65534 : Int); omega)) ?_
                      rintro v978 S979 (⟨z980, r981, g'982, hv983, hS984, hR988, h985, h986, h987⟩)
                      subst hv983
                      have h985_ : z980.toInt = z840.toInt + 1 := h985
                      have h986_ : r981.toInt = z840.toInt := h986
                      have h987_ : ∀ j, j ∉ [60, 69, 70, 71, 72, 73] → g'982 j = g'860 j := h987
                      replace hS984 : MS S0 S979 (upd (upd (upd (upd (upd (upd (upd (upd f 4 z884) 5 y885) 6 a944) 7 b945) 10 0) 62 o807) 68 z980) 75 m809) g'982 := hS984
                      have hR988_ : RJ (upd (upd (upd (upd (upd (upd (upd (upd f 4 z884) 5 y885) 6 a944) 7 b945) 10 0) 62 o807) 68 z980) 75 m809) g'982 [] bc [] 0 (z840.toNatClampNeg :: []) := hR988
                      show am_E _ _ _ _ [some (.ref 39), some (.int 1), some (.int 0), some (.int z826), none] [.int r981] _ _
                      refine am_e3 (ls' := [some (.ref 39), some (.int 1), some (.int 0), some (.int z826), some (.int r981)]) hi_213_11 (Nat.le_of_ble_eq_true rfl) rfl ?_
                      refine am_e2 (v := 39) hi_213_13 rfl ?_
                      refine am_e7 hi_213_14 ?_
                      refine mm_20 (v := .int (f 15)) hS984 hi_213_15 rfl ?_
                      refine am_e0 hi_213_18 ?_
                      obtain ⟨z989, hz989, tz989⟩ := am_subI (x := f 15) (y := 1) (m := (f 15).toInt) (n := (1 : Int)) rfl (by decide) (by omega) (by omega)
                      refine am_e10 (z := z989) hi_213_19 hz989 ?_
                      refine mm_21 (v := z989) hS984 hi_213_20 rfl (Nat.le_of_ble_eq_true rfl) ms_15 ?_
                      intro S990 hS991
                      replace hS991 : MS S0 S990 (upd (upd (upd (upd (upd (upd (upd (upd (upd f 4 z884) 5 y885) 6 a944) 7 b945) 10 0) 15 z989) 62 o807) 68 z980) 75 m809) g'982 := hS991
                      have hp992 : mj_n (g'810 16) (f 15).toNatClampNeg 3 = mj_n (g'810 16) z989.toNatClampNeg 3 + if (g'810 16 z989.toNatClampNeg).toInt = 3 then 1 else 0 := mj_pop (by rw [cl_toNat, cl_toNat]; omega)
                      have hp9921 : mj_n (g'810 16) z989.toNatClampNeg 3 ≤ mj_n (g'810 16) (f 15).toNatClampNeg 3 := by rw [hp992]; split <;> omega
                      have hp9922 : (g'810 16 z989.toNatClampNeg).toInt = 3 → mj_n (g'810 16) z989.toNatClampNeg 3 + 1 ≤ mj_n (g'810 16) (f 15).toNatClampNeg 3 := fun q => by rw [hp992, if_pos q]; exact Int.le_refl _
                      refine am_e2 (v := 39) hi_213_23 rfl ?_
                      refine am_e0 hi_213_24 ?_
                      refine am_e1 (v := r981) hi_213_25 rfl ?_
                      refine am_e1 (v := z826) hi_213_27 rfl ?_
                      refine am_e32n (as := [.ref 39, .int 1, .int r981, .int z826]) (la := [some (.ref 39), some (.int 1), some (.int r981), some (.int z826)]) (rest := []) hi_213_28 (am_hd0 (M := 213) (by decide) 28) (Nat.le_of_ble_eq_true rfl) (Nat.le_of_ble_eq_true rfl) (show 4 ≤ am_P0.2.2.1 190 from by decide +kernel) rfl (am_recv_ok hS991.fs) rfl rfl (ct_value (d := (d + 3)) hS991 hR988_ (fun h => absurd h (by decide)) (fun _ => ⟨by omega, by omega⟩) (by show (0 : Int) ≤ z989.toInt; omega) (by show z989.toInt ≤ (32767 : Int); omega)) ?_
                      rintro v993 S994 (⟨z995, g'996, hv997, hS998, hR1003, h999, h1000, h1001, h1002⟩)
                      subst hv997
                      have h999_ : z995.toInt = z989.toInt + 1 := h999
                      have h1000_ : ∀ j, j ∉ [16, 17, 18] → g'996 j = g'982 j := h1000
                      have h1001_ : mj_n (g'996 16) z995.toNatClampNeg 3 ≤ mj_n (g'810 16) z989.toNatClampNeg 3 + 1 := by rw [show g'982 16 = g'860 16 from h987_ 16 (by decide), show g'860 16 = g'842 16 from h864_ 16 (by decide), show g'842 16 = g'810 16 from h847_ 16 (by decide)] at h1001; exact h1001
                      have h1002_ : (1 : Int) = 3 ∨ mj_n (g'996 16) z995.toNatClampNeg 3 ≤ mj_n (g'810 16) z989.toNatClampNeg 3 := by rw [show g'982 16 = g'860 16 from h987_ 16 (by decide), show g'860 16 = g'842 16 from h864_ 16 (by decide), show g'842 16 = g'810 16 from h847_ 16 (by decide)] at h1002; exact h1002
                      replace hS998 : MS S0 S994 (upd (upd (upd (upd (upd (upd (upd (upd (upd f 4 z884) 5 y885) 6 a944) 7 b945) 10 0) 15 z995) 62 o807) 68 z980) 75 m809) g'996 := hS998
                      have hR1003_ : RJ (upd (upd (upd (upd (upd (upd (upd (upd (upd f 4 z884) 5 y885) 6 a944) 7 b945) 10 0) 15 z995) 62 o807) 68 z980) 75 m809) g'996 [] bc [] 0 (z840.toNatClampNeg :: []) := hR1003
                      show am_E _ _ _ _ [some (.ref 39), some (.int 1), some (.int 0), some (.int z826), some (.int r981)] [] _ _
                      refine am_e35 hi_213_31 ?_
                      show am_E _ _ _ _ [some (.ref 39), some (.int 1), some (.int z826)] [] _ _
                      refine am_e18 hi_212_109 ?_
                      refine am_e35 hi_212_125 ?_
                      show am_E _ _ _ _ [some (.ref 39), some (.int r2), some (.int (f 4)), some (.int r851)] [] _ _
                      refine am_e18 hi_211_211 ?_
                      refine am_e35 hi_211_249 ?_
                      show am_E _ _ _ _ [some (.ref 39), some (.int 28), some (.int on), some (.int tw)] [] _ _
                      refine am_e18 hi_181_180 ?_
                      refine am_e35 hi_181_397 ?_
                      show am_E _ _ _ _ [some (.ref 39), some (.int 28), some (.int on), some (.int tw), some (.int th)] [] _ _
                      refine am_e35 hi_180_13 ?_
                      have hRc := rj_clear0 hR1003_
                      refine ⟨_, _, [], _, rfl, hS998, Or.inr ⟨hRc, rfl, (by show 0 ≤ z884.toInt; omega), (by show z884.toInt ≤ (f 0).toInt; omega), (by show 0 ≤ (f 32).toInt; omega), (by show (f 32).toInt ≤ 63; omega), (by show 1 ≤ (f 53).toInt; omega), (by show (f 53).toInt ≤ 600; omega), (by show 0 ≤ z980.toInt; omega), (by show z980.toInt ≤ 60000; omega), (by show 0 ≤ (f 48).toInt; omega), (by show (f 48).toInt ≤ 8000; omega), (by show 0 ≤ (f 37).toInt; omega), (by show (f 37).toInt ≤ 128; omega), (by show 0 ≤ o807.toInt; omega), (by show o807.toInt ≤ 65000; omega), (by show 0 ≤ (f 19).toInt; omega), (by show (f 19).toInt ≤ 600; omega)⟩⟩
                · subst hv895
                  replace hS896 : MS S0 S883 (upd (upd (upd (upd (upd (upd (upd f 4 z826) 6 a893) 7 b894) 10 0) 62 o807) 68 z840) 75 m809) g'860 := hS896
                  have hR1004 := rj_clear0 hR865_
                  have hR1005 : RJ (upd (upd (upd (upd (upd (upd (upd f 4 z826) 6 a893) 7 b894) 10 0) 62 o807) 68 z840) 75 m809) g'860 [] bc [] 0 [] := hR1004
                  show am_E _ _ _ _ [some (.ref 39), some (.int 1), some (.int z826)] [.int 0] _ _
                  refine am_e12t hi_212_83 (by decide) ?_
                  refine am_e35 hi_212_125 ?_
                  show am_E _ _ _ _ [some (.ref 39), some (.int r2), some (.int (f 4)), some (.int r851)] [] _ _
                  refine am_e18 hi_211_211 ?_
                  refine am_e35 hi_211_249 ?_
                  show am_E _ _ _ _ [some (.ref 39), some (.int 28), some (.int on), some (.int tw)] [] _ _
                  refine am_e18 hi_181_180 ?_
                  refine am_e35 hi_181_397 ?_
                  show am_E _ _ _ _ [some (.ref 39), some (.int 28), some (.int on), some (.int tw), some (.int th)] [] _ _
                  refine am_e35 hi_180_13 ?_
                  have hRc := rj_clear0 hR1005
                  refine ⟨_, _, [], _, rfl, hS896, Or.inr ⟨hRc, rfl, (by show 0 ≤ z826.toInt; omega), (by show z826.toInt ≤ (f 0).toInt; omega), (by show 0 ≤ (f 32).toInt; omega), (by show (f 32).toInt ≤ 63; omega), (by show 1 ≤ (f 53).toInt; omega), (by show (f 53).toInt ≤ 600; omega), (by show 0 ≤ z840.toInt; omega), (by show z840.toInt ≤ 60000; omega), (by show 0 ≤ (f 48).toInt; omega), (by show (f 48).toInt ≤ 8000; omega), (by show 0 ≤ (f 37).toInt; omega), (by show (f 37).toInt ≤ 128; omega), (by show 0 ≤ o807.toInt; omega), (by show o807.toInt ≤ 65000; omega), (by show 0 ≤ (f 19).toInt; omega), (by show (f 19).toInt ≤ 600; omega)⟩⟩
              · refine am_e13f hi_212_58 (am_cF (m := r876.toInt) (n := (62 : Int)) rfl (by decide) c881) ?_
                refine am_e2 (v := 39) hi_212_61 rfl ?_
                refine am_e0 hi_212_62 ?_
                refine am_e1 (v := 1) hi_212_64 rfl ?_
                refine am_e1 (v := z826) hi_212_65 rfl ?_
                refine am_e0 hi_212_66 ?_
                refine am_e32n (as := [.ref 39, .int 33, .int 1, .int z826, .int 0]) (la := [some (.ref 39), some (.int 33), some (.int 1), some (.int z826), some (.int 0)]) (rest := []) hi_212_67 (am_hd0 (M := 212) (by decide) 67) (Nat.le_of_ble_eq_true rfl) (Nat.le_of_ble_eq_true rfl) (show 5 ≤ am_P0.2.2.1 179 from by decide +kernel) rfl (am_recv_ok hS878.fs) rfl rfl (ct_pile (d := (d + 4)) hS878 hR865_ (mj_e_plain (by decide)) (by show (0 : Int) ≤ z859.toInt; omega) (by show z859.toInt ≤ (65535 : Int); omega)) ?_
                rintro v1006 S1007 (⟨z1008, g'1009, hv1010, hS1011, hR1014, h1012, h1013⟩)
                subst hv1010
                have h1012_ : z1008.toInt = z859.toInt + 1 := h1012
                have h1013_ : ∀ j, j ∉ [11, 12, 13, 14] → g'1009 j = g'860 j := h1013
                replace hS1011 : MS S0 S1007 (upd (upd (upd (upd (upd f 4 z826) 10 z1008) 62 o807) 68 z840) 75 m809) g'1009 := hS1011
                have hR1014_ : RJ (upd (upd (upd (upd (upd f 4 z826) 10 z1008) 62 o807) 68 z840) 75 m809) g'1009 (((33 : Int), (1 : Int), z826.toInt, (0 : Int), []) :: (((28 : Int), (0 : Int), (0 : Int), (0 : Int), []) :: gs)) bc [] 0 (s808.toNatClampNeg :: []) := hR1014
                show am_E _ _ _ _ [some (.ref 39), some (.int 1), some (.int z826)] [] _ _
                refine am_e2 (v := 39) hi_212_70 rfl ?_
                refine am_e32w (as := [.ref 39]) (la := [some (.ref 39), none]) (rest := []) hi_212_71 (am_hd0 (M := 212) (by decide) 71) (Nat.le_of_ble_eq_true rfl) (Nat.le_of_ble_eq_true rfl) (show 1 ≤ am_P0.2.2.1 192 from by decide +kernel) rfl (am_recv_ok hS1011.fs) rfl rfl ?_
                refine am_e2 (v := 39) hi_192_0 rfl ?_
                refine mm_20 (v := .int z826) hS1011 hi_192_1 rfl ?_
                refine am_e3 (ls' := [some (.ref 39), some (.int z826)]) hi_192_4 (Nat.le_of_ble_eq_true rfl) rfl ?_
                refine am_e2 (v := 39) hi_192_5 rfl ?_
                refine am_e0 hi_192_6 ?_
                refine am_e32n (as := [.ref 39, .int 62]) (la := [some (.ref 39), some (.int 62)]) (rest := []) hi_192_8 (am_hd0 (M := 192) (by decide) 8) (Nat.le_of_ble_eq_true rfl) (Nat.le_of_ble_eq_true rfl) (show 2 ≤ am_P0.2.2.1 193 from by decide +kernel) rfl (am_recv_ok hS1011.fs) rfl rfl (ct_enter (d := (d + 1)) hS1011   (by show (0 : Int) ≤ z826.toInt; omega) (by show (f 0).toInt ≤ (16384 : Int); omega) (by show (0 : Int) ≤ (62 : Int); omega) (by show (0 : Int) ≤ (f 5).toInt; omega) (by show (f 5).toInt ≤ (48 : Int); omega)) ?_
                rintro v1015 S1016 (⟨z1017, y1018, hv1019, hS1020, h1021, h1022, h1023, h1024⟩ | ⟨a1026, b1027, hv1028, hS1029⟩)
                · subst hv1019
                  have h1021_ : z1017.toInt = z826.toInt + 1 := h1021
                  have h1022_ : z826.toInt < (f 0).toInt := h1022
                  have h1023_ : y1018.toInt = (f 5).toInt + 1 := h1023
                  have h1024_ : y1018.toInt ≤ (48 : Int) := h1024
                  replace hS1020 : MS S0 S1016 (upd (upd (upd (upd (upd (upd f 4 z1017) 5 y1018) 10 z1008) 62 o807) 68 z840) 75 m809) g'1009 := hS1020
                  have hR1031 : RJ (upd (upd (upd (upd (upd (upd f 4 z1017) 5 y1018) 10 z1008) 62 o807) 68 z840) 75 m809) g'1009 (((33 : Int), (1 : Int), z826.toInt, (0 : Int), []) :: (((28 : Int), (0 : Int), (0 : Int), (0 : Int), []) :: gs)) bc [] 0 (s808.toNatClampNeg :: []) := RJ.at hR1014_ (by show z826.toInt ≤ z1017.toInt; omega)
                  show am_E _ _ _ _ [some (.ref 39), some (.int z826)] [.int 1] _ _
                  refine am_e12t hi_192_11 (by decide) ?_
                  refine am_e2 (v := 39) hi_192_15 rfl ?_
                  refine am_e0 hi_192_16 ?_
                  refine am_e0 hi_192_18 ?_
                  refine am_e0 hi_192_19 ?_
                  refine am_e1 (v := z826) hi_192_20 rfl ?_
                  refine am_e32n (as := [.ref 39, .int 20, .int 0, .int 0, .int z826]) (la := [some (.ref 39), some (.int 20), some (.int 0), some (.int 0), some (.int z826)]) (rest := []) hi_192_21 (am_hd0 (M := 192) (by decide) 21) (Nat.le_of_ble_eq_true rfl) (Nat.le_of_ble_eq_true rfl) (show 5 ≤ am_P0.2.2.1 189 from by decide +kernel) rfl (am_recv_ok hS1020.fs) rfl rfl (ct_put (d := (d + 3)) hS1020 hR1031  (by show (0 : Int) ≤ (f 32).toInt; omega) (by show (f 32).toInt ≤ (63 : Int); omega) (by show (f 53).toInt ≤ (4096 : Int); omega) (by show (0 : Int) ≤ z840.toInt; omega) (by show z840.toInt ≤ (65534 : Int); omega)) ?_
                  rintro v1032 S1033 (⟨z1034, r1035, g'1036, hv1037, hS1038, hR1042, h1039, h1040, h1041⟩)
                  subst hv1037
                  have h1039_ : z1034.toInt = z840.toInt + 1 := h1039
                  have h1040_ : r1035.toInt = z840.toInt := h1040
                  have h1041_ : ∀ j, j ∉ [60, 69, 70, 71, 72, 73] → g'1036 j = g'1009 j := h1041
                  replace hS1038 : MS S0 S1033 (upd (upd (upd (upd (upd (upd f 4 z1017) 5 y1018) 10 z1008) 62 o807) 68 z1034) 75 m809) g'1036 := hS1038
                  have hR1042_ : RJ (upd (upd (upd (upd (upd (upd f 4 z1017) 5 y1018) 10 z1008) 62 o807) 68 z1034) 75 m809) g'1036 (((33 : Int), (1 : Int), z826.toInt, (0 : Int), []) :: (((28 : Int), (0 : Int), (0 : Int), (0 : Int), []) :: gs)) bc [] 0 (z840.toNatClampNeg :: (s808.toNatClampNeg :: [])) := hR1042
                  show am_E _ _ _ _ [some (.ref 39), some (.int z826)] [.int r1035] _ _
                  refine am_e6i hi_192_24 ?_
                  refine am_e2 (v := 39) hi_192_25 rfl ?_
                  refine am_e0 hi_192_26 ?_
                  refine am_e0 hi_192_27 ?_
                  refine am_e0 hi_192_28 ?_
                  refine am_e32n (as := [.ref 39, .int 0, .int 0, .int 0]) (la := [some (.ref 39), some (.int 0), some (.int 0), some (.int 0)]) (rest := []) hi_192_29 (am_hd0 (M := 192) (by decide) 29) (Nat.le_of_ble_eq_true rfl) (Nat.le_of_ble_eq_true rfl) (show 4 ≤ am_P0.2.2.1 190 from by decide +kernel) rfl (am_recv_ok hS1038.fs) rfl rfl (ct_value (d := (d + 3)) hS1038 hR1042_ (fun h => absurd h (by decide)) (fun h => absurd h (by decide)) (by show (0 : Int) ≤ (f 15).toInt; omega) (by show (f 15).toInt ≤ (32767 : Int); omega)) ?_
                  rintro v1043 S1044 (⟨z1045, g'1046, hv1047, hS1048, hR1053, h1049, h1050, h1051, h1052⟩)
                  subst hv1047
                  have h1049_ : z1045.toInt = (f 15).toInt + 1 := h1049
                  have h1050_ : ∀ j, j ∉ [16, 17, 18] → g'1046 j = g'1036 j := h1050
                  have h1051_ : mj_n (g'1046 16) z1045.toNatClampNeg 3 ≤ mj_n (g'810 16) (f 15).toNatClampNeg 3 + 1 := by rw [show g'1036 16 = g'1009 16 from h1041_ 16 (by decide), show g'1009 16 = g'860 16 from h1013_ 16 (by decide), show g'860 16 = g'842 16 from h864_ 16 (by decide), show g'842 16 = g'810 16 from h847_ 16 (by decide)] at h1051; exact h1051
                  have h1052_ : (0 : Int) = 3 ∨ mj_n (g'1046 16) z1045.toNatClampNeg 3 ≤ mj_n (g'810 16) (f 15).toNatClampNeg 3 := by rw [show g'1036 16 = g'1009 16 from h1041_ 16 (by decide), show g'1009 16 = g'860 16 from h1013_ 16 (by decide), show g'860 16 = g'842 16 from h864_ 16 (by decide), show g'842 16 = g'810 16 from h847_ 16 (by decide)] at h1052; exact h1052
                  replace hS1048 : MS S0 S1044 (upd (upd (upd (upd (upd (upd (upd f 4 z1017) 5 y1018) 10 z1008) 15 z1045) 62 o807) 68 z1034) 75 m809) g'1046 := hS1048
                  have hR1053_ : RJ (upd (upd (upd (upd (upd (upd (upd f 4 z1017) 5 y1018) 10 z1008) 15 z1045) 62 o807) 68 z1034) 75 m809) g'1046 (((33 : Int), (1 : Int), z826.toInt, (0 : Int), []) :: (((28 : Int), (0 : Int), (0 : Int), (0 : Int), []) :: gs)) bc [] 0 (z840.toNatClampNeg :: (s808.toNatClampNeg :: [])) := hR1053
                  show am_E _ _ _ _ [some (.ref 39), some (.int z826)] [] _ _
                  refine am_e2 (v := 39) hi_192_32 rfl ?_
                  refine am_e0 hi_192_33 ?_
                  refine am_e0 hi_192_35 ?_
                  refine am_e0 hi_192_36 ?_
                  refine am_e0 hi_192_37 ?_
                  refine am_e32n (as := [.ref 39, .int 35, .int 0, .int 0, .int 0]) (la := [some (.ref 39), some (.int 35), some (.int 0), some (.int 0), some (.int 0)]) (rest := []) hi_192_38 (am_hd0 (M := 192) (by decide) 38) (Nat.le_of_ble_eq_true rfl) (Nat.le_of_ble_eq_true rfl) (show 5 ≤ am_P0.2.2.1 179 from by decide +kernel) rfl (am_recv_ok hS1048.fs) rfl rfl (ct_pile (d := (d + 3)) hS1048 hR1053_ (mj_e_plain (by decide)) (by show (0 : Int) ≤ z1008.toInt; omega) (by show z1008.toInt ≤ (65535 : Int); omega)) ?_
                  rintro v1054 S1055 (⟨z1056, g'1057, hv1058, hS1059, hR1062, h1060, h1061⟩)
                  subst hv1058
                  have h1060_ : z1056.toInt = z1008.toInt + 1 := h1060
                  have h1061_ : ∀ j, j ∉ [11, 12, 13, 14] → g'1057 j = g'1046 j := h1061
                  replace hS1059 : MS S0 S1055 (upd (upd (upd (upd (upd (upd (upd f 4 z1017) 5 y1018) 10 z1056) 15 z1045) 62 o807) 68 z1034) 75 m809) g'1057 := hS1059
                  have hR1062_ : RJ (upd (upd (upd (upd (upd (upd (upd f 4 z1017) 5 y1018) 10 z1056) 15 z1045) 62 o807) 68 z1034) 75 m809) g'1057 (((35 : Int), (0 : Int), (0 : Int), (0 : Int), []) :: (((33 : Int), (1 : Int), z826.toInt, (0 : Int), []) :: (((28 : Int), (0 : Int), (0 : Int), (0 : Int), []) :: gs))) bc [] 0 (z840.toNatClampNeg :: (s808.toNatClampNeg :: [])) := hR1062
                  show am_E _ _ _ _ [some (.ref 39), some (.int z826)] [] _ _
                  refine am_e35 hi_192_41 ?_
                  show am_E _ _ _ _ [some (.ref 39), some (.int 1), some (.int z826)] [] _ _
                  refine am_e18 hi_212_74 ?_
                  refine am_e35 hi_212_125 ?_
                  show am_E _ _ _ _ [some (.ref 39), some (.int r2), some (.int (f 4)), some (.int r851)] [] _ _
                  refine am_e18 hi_211_211 ?_
                  refine am_e35 hi_211_249 ?_
                  show am_E _ _ _ _ [some (.ref 39), some (.int 28), some (.int on), some (.int tw)] [] _ _
                  refine am_e18 hi_181_180 ?_
                  refine am_e35 hi_181_397 ?_
                  show am_E _ _ _ _ [some (.ref 39), some (.int 28), some (.int on), some (.int tw), some (.int th)] [] _ _
                  refine am_e35 hi_180_13 ?_
                  have q1 : mg_p1 (((35 : Int), (0 : Int), (0 : Int), (0 : Int), []) :: (((33 : Int), (1 : Int), z826.toInt, (0 : Int), []) :: (((28 : Int), (0 : Int), (0 : Int), (0 : Int), []) :: gs))) = 0 + (0 + (0 + (mg_p1 gs))) := rfl
                  have q2 : mg_p2 (((35 : Int), (0 : Int), (0 : Int), (0 : Int), []) :: (((33 : Int), (1 : Int), z826.toInt, (0 : Int), []) :: (((28 : Int), (0 : Int), (0 : Int), (0 : Int), []) :: gs))) = 0 + (0 + (0 + (mg_p2 gs))) := rfl
                  have q3 : mg_p3 (((35 : Int), (0 : Int), (0 : Int), (0 : Int), []) :: (((33 : Int), (1 : Int), z826.toInt, (0 : Int), []) :: (((28 : Int), (0 : Int), (0 : Int), (0 : Int), []) :: gs))) = 3 + (1 + (1 + (mg_p3 gs))) := rfl
                  have q4 : mg_p4 (((35 : Int), (0 : Int), (0 : Int), (0 : Int), []) :: (((33 : Int), (1 : Int), z826.toInt, (0 : Int), []) :: (((28 : Int), (0 : Int), (0 : Int), (0 : Int), []) :: gs))) = 0 + (3 + (0 + (mg_p4 gs))) := rfl
                  refine ⟨_, _, _, bc, rfl, hS1059, Or.inl ⟨⟨(RJ.fewer (pj' := []) hR1062_ (fun _ h => nomatch h)), ?_, ?_⟩, rfl, ?_⟩⟩
                  · exact (⟨⟨(show mg_k 35 from by decide), (show (0 : Int) ≤ z1045.toInt from by omega), (show 0 ≤ (f 20).toInt from by omega), (show 1 ≤ (f 37).toInt from by omega), (show 0 ≤ (f 32).toInt from by omega), (show (f 32).toInt ≤ y1018.toInt from by omega), (show y1018.toInt ≤ 48 from by omega), (show (f 37).toInt ≤ 2 * (y1018.toInt) + 2 from by omega), trivial⟩, ⟨⟨(show mg_k 33 from by decide), (show (2 : Int) ≤ z1045.toInt + 0 from by omega), (show 0 ≤ (f 20).toInt from by omega), (show 1 ≤ (f 37).toInt + 0 from by omega), (show 0 ≤ (f 32).toInt + 0 from by omega), (show (f 32).toInt + 0 ≤ y1018.toInt + -1 from by omega), (show y1018.toInt + -1 ≤ 48 from by omega), (show (f 37).toInt + 0 ≤ 2 * (y1018.toInt + -1) + 2 from by omega), trivial⟩, ⟨⟨(show mg_k 28 from by decide), (show (1 : Int) ≤ z1045.toInt + 0 + -1 from by omega), (show 0 ≤ (f 20).toInt from by omega), (show 1 ≤ (f 37).toInt + 0 + 0 from by omega), (show 0 ≤ (f 32).toInt + 0 + 0 from by omega), (show (f 32).toInt + 0 + 0 ≤ y1018.toInt + -1 + 0 from by omega), (show y1018.toInt + -1 + 0 ≤ 48 from by omega), (show (f 37).toInt + 0 + 0 ≤ 2 * (y1018.toInt + -1 + 0) + 2 from by omega), trivial⟩, mg_cast (mg_good_ext _ _ _ _ _ _ (fun i _ => by show g'1057 34 i = g 34 i; rw [show g'1057 34 = g'1046 34 from h1061_ 34 (by decide), show g'1046 34 = g'1036 34 from h1050_ 34 (by decide), show g'1036 34 = g'1009 34 from h1041_ 34 (by decide), show g'1009 34 = g'860 34 from h1013_ 34 (by decide), show g'860 34 = g'842 34 from h864_ 34 (by decide), show g'842 34 = g'810 34 from h847_ 34 (by decide), show g'810 34 = g 34 from h818_ 34 (by decide)]) (fun i _ => by show g'1057 38 i = g 38 i; rw [show g'1057 38 = g'1046 38 from h1061_ 38 (by decide), show g'1046 38 = g'1036 38 from h1050_ 38 (by decide), show g'1036 38 = g'1009 38 from h1041_ 38 (by decide), show g'1009 38 = g'860 38 from h1013_ 38 (by decide), show g'860 38 = g'842 38 from h864_ 38 (by decide), show g'842 38 = g'810 38 from h847_ 38 (by decide), show g'810 38 = g 38 from h818_ 38 (by decide)]) (fun i _ => by show g'1057 23 i = g 23 i; rw [show g'1057 23 = g'1046 23 from h1061_ 23 (by decide), show g'1046 23 = g'1036 23 from h1050_ 23 (by decide), show g'1036 23 = g'1009 23 from h1041_ 23 (by decide), show g'1009 23 = g'860 23 from h1013_ 23 (by decide), show g'860 23 = g'842 23 from h864_ 23 (by decide), show g'842 23 = g'810 23 from h847_ 23 (by decide), show g'810 23 = g 23 from h818_ 23 (by decide)]) hrest) (by show (f 15).toInt + 0 = z1045.toInt + 0 + -1 + 0; omega) (by show (f 20).toInt = (f 20).toInt; omega) (by show (f 37).toInt + 0 = (f 37).toInt + 0 + 0 + 0; omega) (by show (f 32).toInt + 0 = (f 32).toInt + 0 + 0 + 0; omega) (by show (f 5).toInt + 0 = y1018.toInt + -1 + 0 + 0; omega)⟩⟩⟩ : mg_good (g'1057 34) (g'1057 38) (g'1057 23) (((35 : Int), (0 : Int), (0 : Int), (0 : Int), []) :: (((33 : Int), (1 : Int), z826.toInt, (0 : Int), []) :: (((28 : Int), (0 : Int), (0 : Int), (0 : Int), []) :: gs))) (z1045.toInt) ((f 20).toInt) ((f 37).toInt) ((f 32).toInt) (y1018.toInt))
                  · exact ⟨(by show 0 ≤ z1017.toInt; omega), (by show z1017.toInt ≤ (f 0).toInt; omega), (by show (f 0).toInt ≤ 512; omega), (by show 0 ≤ (f 24).toInt; omega), (by show (f 24).toInt + (f 20).toInt + mg_p1 (((35 : Int), (0 : Int), (0 : Int), (0 : Int), []) :: (((33 : Int), (1 : Int), z826.toInt, (0 : Int), []) :: (((28 : Int), (0 : Int), (0 : Int), (0 : Int), []) :: gs))) ≤ 4 * z1017.toInt; omega), (by show (f 20).toInt ≤ z1017.toInt; omega), (by show z1045.toInt + mg_p2 (((35 : Int), (0 : Int), (0 : Int), (0 : Int), []) :: (((33 : Int), (1 : Int), z826.toInt, (0 : Int), []) :: (((28 : Int), (0 : Int), (0 : Int), (0 : Int), []) :: gs))) ≤ z1017.toInt; omega), (by show mg_p3 (((35 : Int), (0 : Int), (0 : Int), (0 : Int), []) :: (((33 : Int), (1 : Int), z826.toInt, (0 : Int), []) :: (((28 : Int), (0 : Int), (0 : Int), (0 : Int), []) :: gs))) ≤ 20 * z1017.toInt + 20; omega), (by show 0 ≤ z1034.toInt; omega), (by show z1034.toInt + 3 * (f 20).toInt + mg_p4 (((35 : Int), (0 : Int), (0 : Int), (0 : Int), []) :: (((33 : Int), (1 : Int), z826.toInt, (0 : Int), []) :: (((28 : Int), (0 : Int), (0 : Int), (0 : Int), []) :: gs))) ≤ 60 * z1017.toInt + 60; omega), (by show 0 ≤ o807.toInt; omega), (by show o807.toInt + 64 * mj_n (g'1057 16) z1045.toNatClampNeg 3 ≤ 64 * z1017.toInt; rw [show g'1057 16 = g'1046 16 from h1061_ 16 (by decide)]; omega), (by show 0 ≤ (f 44).toInt; omega), (by show (f 44).toInt ≤ z1017.toInt; omega), (by show 0 ≤ (f 48).toInt; omega), (by show (f 48).toInt ≤ z1017.toInt; omega), (by show 1 ≤ (f 53).toInt; omega), (by show (f 53).toInt ≤ z1017.toInt + 1; omega), (by show 0 ≤ (f 19).toInt; omega), (by show (f 19).toInt ≤ 600; omega)⟩
                  · show 100 * ((f 0).toInt - z1017.toInt) + mg_p3 (((35 : Int), (0 : Int), (0 : Int), (0 : Int), []) :: (((33 : Int), (1 : Int), z826.toInt, (0 : Int), []) :: (((28 : Int), (0 : Int), (0 : Int), (0 : Int), []) :: gs))) < 100 * ((f 0).toInt - (f 4).toInt) + (1 + mg_p3 gs); omega
                · subst hv1028
                  replace hS1029 : MS S0 S1016 (upd (upd (upd (upd (upd (upd (upd f 4 z826) 6 a1026) 7 b1027) 10 0) 62 o807) 68 z840) 75 m809) g'1009 := hS1029
                  have hR1063 := rj_clear0 hR1014_
                  have hR1064 : RJ (upd (upd (upd (upd (upd (upd (upd f 4 z826) 6 a1026) 7 b1027) 10 0) 62 o807) 68 z840) 75 m809) g'1009 [] bc [] 0 [] := hR1063
                  show am_E _ _ _ _ [some (.ref 39), some (.int z826)] [.int 0] _ _
                  refine am_e12f hi_192_11 (by decide) ?_
                  refine am_e35 hi_192_14 ?_
                  show am_E _ _ _ _ [some (.ref 39), some (.int 1), some (.int z826)] [] _ _
                  refine am_e18 hi_212_74 ?_
                  refine am_e35 hi_212_125 ?_
                  show am_E _ _ _ _ [some (.ref 39), some (.int r2), some (.int (f 4)), some (.int r851)] [] _ _
                  refine am_e18 hi_211_211 ?_
                  refine am_e35 hi_211_249 ?_
                  show am_E _ _ _ _ [some (.ref 39), some (.int 28), some (.int on), some (.int tw)] [] _ _
                  refine am_e18 hi_181_180 ?_
                  refine am_e35 hi_181_397 ?_
                  show am_E _ _ _ _ [some (.ref 39), some (.int 28), some (.int on), some (.int tw), some (.int th)] [] _ _
                  refine am_e35 hi_180_13 ?_
                  have hRc := rj_clear0 hR1064
                  refine ⟨_, _, [], _, rfl, hS1029, Or.inr ⟨hRc, rfl, (by show 0 ≤ z826.toInt; omega), (by show z826.toInt ≤ (f 0).toInt; omega), (by show 0 ≤ (f 32).toInt; omega), (by show (f 32).toInt ≤ 63; omega), (by show 1 ≤ (f 53).toInt; omega), (by show (f 53).toInt ≤ 600; omega), (by show 0 ≤ z840.toInt; omega), (by show z840.toInt ≤ 60000; omega), (by show 0 ≤ (f 48).toInt; omega), (by show (f 48).toInt ≤ 8000; omega), (by show 0 ≤ (f 37).toInt; omega), (by show (f 37).toInt ≤ 128; omega), (by show 0 ≤ o807.toInt; omega), (by show o807.toInt ≤ 65000; omega), (by show 0 ≤ (f 19).toInt; omega), (by show (f 19).toInt ≤ 600; omega)⟩⟩
            · refine am_e13f hi_212_10 (am_cF (m := r868.toInt) (n := (3 : Int)) rfl (by decide) c873) ?_
              refine am_e2 (v := 39) hi_212_13 rfl ?_
              refine am_e0 hi_212_14 ?_
              refine am_e2 (v := 39) hi_212_15 rfl ?_
              refine mm_20 (v := .ref 41) hS870 hi_212_16 rfl ?_
              refine am_e2 (v := 39) hi_212_19 rfl ?_
              refine mm_20 (v := .int z826) hS870 hi_212_20 rfl ?_
              refine mm_25 hS870 ma_2 hi_212_23 (by decide) (by omega) (by omega) ?_
              show am_E _ _ _ _ _ (.int (g'860 2 z826.toNatClampNeg) :: _) _ _
              rw [show g'860 2 = g'842 2 from h864_ 2 (by decide), show g'842 2 = g'810 2 from h847_ 2 (by decide), show g'810 2 = g 2 from h818_ 2 (by decide)]
              show am_E _ _ _ _ [some (.ref 39), some (.int 1), some (.int z826)] [.int (g 2 z826.toNatClampNeg), .int 5, .ref 39] _ _
              refine am_e0 hi_212_24 ?_
              refine am_e0 hi_212_25 ?_
              refine am_e32n (as := [.ref 39, .int 5, .int (g 2 z826.toNatClampNeg), .int 0, .int 0]) (la := [some (.ref 39), some (.int 5), some (.int (g 2 z826.toNatClampNeg)), some (.int 0), some (.int 0)]) (rest := []) hi_212_26 (am_hd0 (M := 212) (by decide) 26) (Nat.le_of_ble_eq_true rfl) (Nat.le_of_ble_eq_true rfl) (show 5 ≤ am_P0.2.2.1 189 from by decide +kernel) rfl (am_recv_ok hS870.fs) rfl rfl (ct_put (d := (d + 4)) hS870 hR865_  (by show (0 : Int) ≤ (f 32).toInt; omega) (by show (f 32).toInt ≤ (63 : Int); omega) (by show (f 53).toInt ≤ (4096 : Int); omega) (by show (0 : Int) ≤ z840.toInt; omega) (by show z840.toInt ≤ (65534 : Int); omega)) ?_
              rintro v1065 S1066 (⟨z1067, r1068, g'1069, hv1070, hS1071, hR1075, h1072, h1073, h1074⟩)
              subst hv1070
              have h1072_ : z1067.toInt = z840.toInt + 1 := h1072
              have h1073_ : r1068.toInt = z840.toInt := h1073
              have h1074_ : ∀ j, j ∉ [60, 69, 70, 71, 72, 73] → g'1069 j = g'860 j := h1074
              replace hS1071 : MS S0 S1066 (upd (upd (upd (upd (upd f 4 z826) 10 z859) 62 o807) 68 z1067) 75 m809) g'1069 := hS1071
              have hR1075_ : RJ (upd (upd (upd (upd (upd f 4 z826) 10 z859) 62 o807) 68 z1067) 75 m809) g'1069 (((28 : Int), (0 : Int), (0 : Int), (0 : Int), []) :: gs) bc [] 0 (z840.toNatClampNeg :: (s808.toNatClampNeg :: [])) := hR1075
              show am_E _ _ _ _ [some (.ref 39), some (.int 1), some (.int z826)] [.int r1068] _ _
              refine am_e6i hi_212_29 ?_
              refine am_e2 (v := 39) hi_212_30 rfl ?_
              refine am_e7 hi_212_31 ?_
              refine mm_20 (v := .int z826) hS1071 hi_212_32 rfl ?_
              refine am_e0 hi_212_35 ?_
              obtain ⟨z1076, hz1076, tz1076⟩ := am_addI (x := z826) (y := 1) (m := z826.toInt) (n := (1 : Int)) rfl (by decide) (by omega) (by omega)
              refine am_e10 (z := z1076) hi_212_36 hz1076 ?_
              refine mm_21 (v := z1076) hS1071 hi_212_37 rfl (Nat.le_of_ble_eq_true rfl) ms_4 ?_
              intro S1077 hS1078
              replace hS1078 : MS S0 S1077 (upd (upd (upd (upd (upd f 4 z1076) 10 z859) 62 o807) 68 z1067) 75 m809) g'1069 := hS1078
              have hR1079 : RJ (upd (upd (upd (upd (upd f 4 z1076) 10 z859) 62 o807) 68 z1067) 75 m809) g'1069 (((28 : Int), (0 : Int), (0 : Int), (0 : Int), []) :: gs) bc [] 0 (z840.toNatClampNeg :: (s808.toNatClampNeg :: [])) := RJ.at hR1075_ (by show z826.toInt ≤ z1076.toInt; omega)
              refine am_e2 (v := 39) hi_212_40 rfl ?_
              refine am_e0 hi_212_41 ?_
              refine am_e1 (v := 1) hi_212_42 rfl ?_
              refine am_e10 (z := 2) hi_212_43 (by decide) ?_
              refine am_e0 hi_212_44 ?_
              refine am_e1 (v := z826) hi_212_45 rfl ?_
              refine am_e32w (as := [.ref 39, .int 2, .int 0, .int z826]) (la := [some (.ref 39), some (.int 2), some (.int 0), some (.int z826), none]) (rest := []) hi_212_46 (am_hd0 (M := 212) (by decide) 46) (Nat.le_of_ble_eq_true rfl) (Nat.le_of_ble_eq_true rfl) (show 4 ≤ am_P0.2.2.1 213 from by decide +kernel) rfl (am_recv_ok hS1078.fs) rfl rfl ?_
              refine am_e2 (v := 39) hi_213_0 rfl ?_
              refine am_e0 hi_213_1 ?_
              refine am_e1 (v := 2) hi_213_3 rfl ?_
              refine am_e1 (v := 0) hi_213_4 rfl ?_
              refine am_e0 hi_213_5 ?_
              refine am_e10 (z := 2) hi_213_6 (by decide) ?_
              refine am_e1 (v := z826) hi_213_7 rfl ?_
              refine am_e32n (as := [.ref 39, .int 13, .int 2, .int 2, .int z826]) (la := [some (.ref 39), some (.int 13), some (.int 2), some (.int 2), some (.int z826)]) (rest := []) hi_213_8 (am_hd0 (M := 213) (by decide) 8) (Nat.le_of_ble_eq_true rfl) (Nat.le_of_ble_eq_true rfl) (show 5 ≤ am_P0.2.2.1 189 from by decide +kernel) rfl (am_recv_ok hS1078.fs) rfl rfl (ct_put (d := (d + 3)) hS1078 hR1079  (by show (0 : Int) ≤ (f 32).toInt; omega) (by show (f 32).toInt ≤ (63 : Int); omega) (by show (f 53).toInt ≤ (4096 : Int); omega) (by show (0 : Int) ≤ z1067.toInt; omega) (by show z1067.toInt ≤ (65534 : Int); omega)) ?_
              rintro v1080 S1081 (⟨z1082, r1083, g'1084, hv1085, hS1086, hR1090, h1087, h1088, h1089⟩)
              subst hv1085
              have h1087_ : z1082.toInt = z1067.toInt + 1 := h1087
              have h1088_ : r1083.toInt = z1067.toInt := h1088
              have h1089_ : ∀ j, j ∉ [60, 69, 70, 71, 72, 73] → g'1084 j = g'1069 j := h1089
              replace hS1086 : MS S0 S1081 (upd (upd (upd (upd (upd f 4 z1076) 10 z859) 62 o807) 68 z1082) 75 m809) g'1084 := hS1086
              have hR1090_ : RJ (upd (upd (upd (upd (upd f 4 z1076) 10 z859) 62 o807) 68 z1082) 75 m809) g'1084 (((28 : Int), (0 : Int), (0 : Int), (0 : Int), []) :: gs) bc [] 0 (z1067.toNatClampNeg :: (z840.toNatClampNeg :: (s808.toNatClampNeg :: []))) := hR1090
              show am_E _ _ _ _ [some (.ref 39), some (.int 2), some (.int 0), some (.int z826), none] [.int r1083] _ _
              refine am_e3 (ls' := [some (.ref 39), some (.int 2), some (.int 0), some (.int z826), some (.int r1083)]) hi_213_11 (Nat.le_of_ble_eq_true rfl) rfl ?_
              refine am_e2 (v := 39) hi_213_13 rfl ?_
              refine am_e7 hi_213_14 ?_
              refine mm_20 (v := .int (f 15)) hS1086 hi_213_15 rfl ?_
              refine am_e0 hi_213_18 ?_
              obtain ⟨z1091, hz1091, tz1091⟩ := am_subI (x := f 15) (y := 1) (m := (f 15).toInt) (n := (1 : Int)) rfl (by decide) (by omega) (by omega)
              refine am_e10 (z := z1091) hi_213_19 hz1091 ?_
              refine mm_21 (v := z1091) hS1086 hi_213_20 rfl (Nat.le_of_ble_eq_true rfl) ms_15 ?_
              intro S1092 hS1093
              replace hS1093 : MS S0 S1092 (upd (upd (upd (upd (upd (upd f 4 z1076) 10 z859) 15 z1091) 62 o807) 68 z1082) 75 m809) g'1084 := hS1093
              have hp1094 : mj_n (g'810 16) (f 15).toNatClampNeg 3 = mj_n (g'810 16) z1091.toNatClampNeg 3 + if (g'810 16 z1091.toNatClampNeg).toInt = 3 then 1 else 0 := mj_pop (by rw [cl_toNat, cl_toNat]; omega)
              have hp10941 : mj_n (g'810 16) z1091.toNatClampNeg 3 ≤ mj_n (g'810 16) (f 15).toNatClampNeg 3 := by rw [hp1094]; split <;> omega
              have hp10942 : (g'810 16 z1091.toNatClampNeg).toInt = 3 → mj_n (g'810 16) z1091.toNatClampNeg 3 + 1 ≤ mj_n (g'810 16) (f 15).toNatClampNeg 3 := fun q => by rw [hp1094, if_pos q]; exact Int.le_refl _
              refine am_e2 (v := 39) hi_213_23 rfl ?_
              refine am_e0 hi_213_24 ?_
              refine am_e1 (v := r1083) hi_213_25 rfl ?_
              refine am_e1 (v := z826) hi_213_27 rfl ?_
              refine am_e32n (as := [.ref 39, .int 1, .int r1083, .int z826]) (la := [some (.ref 39), some (.int 1), some (.int r1083), some (.int z826)]) (rest := []) hi_213_28 (am_hd0 (M := 213) (by decide) 28) (Nat.le_of_ble_eq_true rfl) (Nat.le_of_ble_eq_true rfl) (show 4 ≤ am_P0.2.2.1 190 from by decide +kernel) rfl (am_recv_ok hS1093.fs) rfl rfl (ct_value (d := (d + 3)) hS1093 hR1090_ (fun h => absurd h (by decide)) (fun _ => ⟨by omega, by omega⟩) (by show (0 : Int) ≤ z1091.toInt; omega) (by show z1091.toInt ≤ (32767 : Int); omega)) ?_
              rintro v1095 S1096 (⟨z1097, g'1098, hv1099, hS1100, hR1105, h1101, h1102, h1103, h1104⟩)
              subst hv1099
              have h1101_ : z1097.toInt = z1091.toInt + 1 := h1101
              have h1102_ : ∀ j, j ∉ [16, 17, 18] → g'1098 j = g'1084 j := h1102
              have h1103_ : mj_n (g'1098 16) z1097.toNatClampNeg 3 ≤ mj_n (g'810 16) z1091.toNatClampNeg 3 + 1 := by rw [show g'1084 16 = g'1069 16 from h1089_ 16 (by decide), show g'1069 16 = g'860 16 from h1074_ 16 (by decide), show g'860 16 = g'842 16 from h864_ 16 (by decide), show g'842 16 = g'810 16 from h847_ 16 (by decide)] at h1103; exact h1103
              have h1104_ : (1 : Int) = 3 ∨ mj_n (g'1098 16) z1097.toNatClampNeg 3 ≤ mj_n (g'810 16) z1091.toNatClampNeg 3 := by rw [show g'1084 16 = g'1069 16 from h1089_ 16 (by decide), show g'1069 16 = g'860 16 from h1074_ 16 (by decide), show g'860 16 = g'842 16 from h864_ 16 (by decide), show g'842 16 = g'810 16 from h847_ 16 (by decide)] at h1104; exact h1104
              replace hS1100 : MS S0 S1096 (upd (upd (upd (upd (upd (upd f 4 z1076) 10 z859) 15 z1097) 62 o807) 68 z1082) 75 m809) g'1098 := hS1100
              have hR1105_ : RJ (upd (upd (upd (upd (upd (upd f 4 z1076) 10 z859) 15 z1097) 62 o807) 68 z1082) 75 m809) g'1098 (((28 : Int), (0 : Int), (0 : Int), (0 : Int), []) :: gs) bc [] 0 (z1067.toNatClampNeg :: (z840.toNatClampNeg :: (s808.toNatClampNeg :: []))) := hR1105
              show am_E _ _ _ _ [some (.ref 39), some (.int 2), some (.int 0), some (.int z826), some (.int r1083)] [] _ _
              refine am_e35 hi_213_31 ?_
              show am_E _ _ _ _ [some (.ref 39), some (.int 1), some (.int z826)] [] _ _
              refine am_e18 hi_212_49 ?_
              refine am_e35 hi_212_125 ?_
              show am_E _ _ _ _ [some (.ref 39), some (.int r2), some (.int (f 4)), some (.int r851)] [] _ _
              refine am_e18 hi_211_211 ?_
              refine am_e35 hi_211_249 ?_
              show am_E _ _ _ _ [some (.ref 39), some (.int 28), some (.int on), some (.int tw)] [] _ _
              refine am_e18 hi_181_180 ?_
              refine am_e35 hi_181_397 ?_
              show am_E _ _ _ _ [some (.ref 39), some (.int 28), some (.int on), some (.int tw), some (.int th)] [] _ _
              refine am_e35 hi_180_13 ?_
              have q1 : mg_p1 (((28 : Int), (0 : Int), (0 : Int), (0 : Int), []) :: gs) = 0 + (mg_p1 gs) := rfl
              have q2 : mg_p2 (((28 : Int), (0 : Int), (0 : Int), (0 : Int), []) :: gs) = 0 + (mg_p2 gs) := rfl
              have q3 : mg_p3 (((28 : Int), (0 : Int), (0 : Int), (0 : Int), []) :: gs) = 1 + (mg_p3 gs) := rfl
              have q4 : mg_p4 (((28 : Int), (0 : Int), (0 : Int), (0 : Int), []) :: gs) = 0 + (mg_p4 gs) := rfl
              refine ⟨_, _, _, bc, rfl, hS1100, Or.inl ⟨⟨(RJ.fewer (pj' := []) hR1105_ (fun _ h => nomatch h)), ?_, ?_⟩, rfl, ?_⟩⟩
              · exact (⟨⟨(show mg_k 28 from by decide), (show (1 : Int) ≤ z1097.toInt from by omega), (show 0 ≤ (f 20).toInt from by omega), (show 1 ≤ (f 37).toInt from by omega), (show 0 ≤ (f 32).toInt from by omega), (show (f 32).toInt ≤ (f 5).toInt from by omega), (show (f 5).toInt ≤ 48 from by omega), (show (f 37).toInt ≤ 2 * ((f 5).toInt) + 2 from by omega), trivial⟩, mg_cast (mg_good_ext _ _ _ _ _ _ (fun i _ => by show g'1098 34 i = g 34 i; rw [show g'1098 34 = g'1084 34 from h1102_ 34 (by decide), show g'1084 34 = g'1069 34 from h1089_ 34 (by decide), show g'1069 34 = g'860 34 from h1074_ 34 (by decide), show g'860 34 = g'842 34 from h864_ 34 (by decide), show g'842 34 = g'810 34 from h847_ 34 (by decide), show g'810 34 = g 34 from h818_ 34 (by decide)]) (fun i _ => by show g'1098 38 i = g 38 i; rw [show g'1098 38 = g'1084 38 from h1102_ 38 (by decide), show g'1084 38 = g'1069 38 from h1089_ 38 (by decide), show g'1069 38 = g'860 38 from h1074_ 38 (by decide), show g'860 38 = g'842 38 from h864_ 38 (by decide), show g'842 38 = g'810 38 from h847_ 38 (by decide), show g'810 38 = g 38 from h818_ 38 (by decide)]) (fun i _ => by show g'1098 23 i = g 23 i; rw [show g'1098 23 = g'1084 23 from h1102_ 23 (by decide), show g'1084 23 = g'1069 23 from h1089_ 23 (by decide), show g'1069 23 = g'860 23 from h1074_ 23 (by decide), show g'860 23 = g'842 23 from h864_ 23 (by decide), show g'842 23 = g'810 23 from h847_ 23 (by decide), show g'810 23 = g 23 from h818_ 23 (by decide)]) hrest) (by show (f 15).toInt + 0 = z1097.toInt + 0; omega) (by show (f 20).toInt = (f 20).toInt; omega) (by show (f 37).toInt + 0 = (f 37).toInt + 0; omega) (by show (f 32).toInt + 0 = (f 32).toInt + 0; omega) (by show (f 5).toInt + 0 = (f 5).toInt + 0; omega)⟩ : mg_good (g'1098 34) (g'1098 38) (g'1098 23) (((28 : Int), (0 : Int), (0 : Int), (0 : Int), []) :: gs) (z1097.toInt) ((f 20).toInt) ((f 37).toInt) ((f 32).toInt) ((f 5).toInt))
              · exact ⟨(by show 0 ≤ z1076.toInt; omega), (by show z1076.toInt ≤ (f 0).toInt; omega), (by show (f 0).toInt ≤ 512; omega), (by show 0 ≤ (f 24).toInt; omega), (by show (f 24).toInt + (f 20).toInt + mg_p1 (((28 : Int), (0 : Int), (0 : Int), (0 : Int), []) :: gs) ≤ 4 * z1076.toInt; omega), (by show (f 20).toInt ≤ z1076.toInt; omega), (by show z1097.toInt + mg_p2 (((28 : Int), (0 : Int), (0 : Int), (0 : Int), []) :: gs) ≤ z1076.toInt; omega), (by show mg_p3 (((28 : Int), (0 : Int), (0 : Int), (0 : Int), []) :: gs) ≤ 20 * z1076.toInt + 20; omega), (by show 0 ≤ z1082.toInt; omega), (by show z1082.toInt + 3 * (f 20).toInt + mg_p4 (((28 : Int), (0 : Int), (0 : Int), (0 : Int), []) :: gs) ≤ 60 * z1076.toInt + 60; omega), (by show 0 ≤ o807.toInt; omega), (by show o807.toInt + 64 * mj_n (g'1098 16) z1097.toNatClampNeg 3 ≤ 64 * z1076.toInt; omega), (by show 0 ≤ (f 44).toInt; omega), (by show (f 44).toInt ≤ z1076.toInt; omega), (by show 0 ≤ (f 48).toInt; omega), (by show (f 48).toInt ≤ z1076.toInt; omega), (by show 1 ≤ (f 53).toInt; omega), (by show (f 53).toInt ≤ z1076.toInt + 1; omega), (by show 0 ≤ (f 19).toInt; omega), (by show (f 19).toInt ≤ 600; omega)⟩
              · show 100 * ((f 0).toInt - z1076.toInt) + mg_p3 (((28 : Int), (0 : Int), (0 : Int), (0 : Int), []) :: gs) < 100 * ((f 0).toInt - (f 4).toInt) + (1 + mg_p3 gs); omega
          · refine am_e13f hi_211_175 (am_cF (m := r851.toInt) (n := (60 : Int)) rfl (by decide) c856) ?_
            refine am_e1 (v := r851) hi_211_178 rfl ?_
            refine am_e0 hi_211_179 ?_
            by_cases c1106 : r851.toInt = (3 : Int)
            · refine am_e13t hi_211_180 (am_cT (m := r851.toInt) (n := (3 : Int)) rfl (by decide) c1106) ?_
              refine am_e2 (v := 39) hi_211_197 rfl ?_
              refine am_e0 hi_211_198 ?_
              refine am_e0 hi_211_200 ?_
              refine am_e0 hi_211_201 ?_
              refine am_e0 hi_211_202 ?_
              refine am_e32n (as := [.ref 39, .int 28, .int 0, .int 0, .int 0]) (la := [some (.ref 39), some (.int 28), some (.int 0), some (.int 0), some (.int 0)]) (rest := []) hi_211_203 (am_hd0 (M := 211) (by decide) 203) (Nat.le_of_ble_eq_true rfl) (Nat.le_of_ble_eq_true rfl) (show 5 ≤ am_P0.2.2.1 179 from by decide +kernel) rfl (am_recv_ok hS853.fs) rfl rfl (ct_pile (d := (d + 5)) hS853 hR848_ (mj_e_plain (by decide)) (by show (0 : Int) ≤ (f 10).toInt; omega) (by show (f 10).toInt ≤ (65535 : Int); omega)) ?_
              rintro v1107 S1108 (⟨z1109, g'1110, hv1111, hS1112, hR1115, h1113, h1114⟩)
              subst hv1111
              have h1113_ : z1109.toInt = (f 10).toInt + 1 := h1113
              have h1114_ : ∀ j, j ∉ [11, 12, 13, 14] → g'1110 j = g'842 j := h1114
              replace hS1112 : MS S0 S1108 (upd (upd (upd (upd (upd f 4 z826) 10 z1109) 62 o807) 68 z840) 75 m809) g'1110 := hS1112
              have hR1115_ : RJ (upd (upd (upd (upd (upd f 4 z826) 10 z1109) 62 o807) 68 z840) 75 m809) g'1110 (((28 : Int), (0 : Int), (0 : Int), (0 : Int), []) :: gs) bc [] 0 (s808.toNatClampNeg :: []) := hR1115
              show am_E _ _ _ _ [some (.ref 39), some (.int r2), some (.int (f 4)), some (.int r851)] [] _ _
              refine am_e2 (v := 39) hi_211_206 rfl ?_
              refine am_e0 hi_211_207 ?_
              refine am_e32w (as := [.ref 39, .int 1]) (la := [some (.ref 39), some (.int 1), none]) (rest := []) hi_211_208 (am_hd0 (M := 211) (by decide) 208) (Nat.le_of_ble_eq_true rfl) (Nat.le_of_ble_eq_true rfl) (show 2 ≤ am_P0.2.2.1 212 from by decide +kernel) rfl (am_recv_ok hS1112.fs) rfl rfl ?_
              refine am_e2 (v := 39) hi_212_0 rfl ?_
              refine mm_20 (v := .int z826) hS1112 hi_212_1 rfl ?_
              refine am_e3 (ls' := [some (.ref 39), some (.int 1), some (.int z826)]) hi_212_4 (Nat.le_of_ble_eq_true rfl) rfl ?_
              refine am_e2 (v := 39) hi_212_5 rfl ?_
              refine am_e32n (as := [.ref 39]) (la := [some (.ref 39)]) (rest := []) hi_212_6 (am_hd0 (M := 212) (by decide) 6) (Nat.le_of_ble_eq_true rfl) (Nat.le_of_ble_eq_true rfl) (show 1 ≤ am_P0.2.2.1 183 from by decide +kernel) rfl (am_recv_ok hS1112.fs) rfl rfl (ct_next (d := (d + 3)) hS1112   (by show (0 : Int) ≤ z826.toInt; omega) (by show (f 0).toInt ≤ (16384 : Int); omega)) ?_
              rintro v1116 S1117 (⟨r1118, hv1119, hS1120, h1121⟩)
              subst hv1119
              have h1121_ : z826.toInt < (f 0).toInt ∨ r1118.toInt = (-1 : Int) := h1121
              show am_E _ _ _ _ [some (.ref 39), some (.int 1), some (.int z826)] [.int r1118] _ _
              refine am_e0 hi_212_9 ?_
              by_cases c1123 : ¬ r1118.toInt = (3 : Int)
              · refine am_e13t hi_212_10 (am_cT (m := r1118.toInt) (n := (3 : Int)) rfl (by decide) c1123) ?_
                refine am_e2 (v := 39) hi_212_52 rfl ?_
                refine am_e32n (as := [.ref 39]) (la := [some (.ref 39)]) (rest := []) hi_212_53 (am_hd0 (M := 212) (by decide) 53) (Nat.le_of_ble_eq_true rfl) (Nat.le_of_ble_eq_true rfl) (show 1 ≤ am_P0.2.2.1 183 from by decide +kernel) rfl (am_recv_ok hS1120.fs) rfl rfl (ct_next (d := (d + 3)) hS1120   (by show (0 : Int) ≤ z826.toInt; omega) (by show (f 0).toInt ≤ (16384 : Int); omega)) ?_
                rintro v1124 S1125 (⟨r1126, hv1127, hS1128, h1129⟩)
                subst hv1127
                have h1129_ : z826.toInt < (f 0).toInt ∨ r1126.toInt = (-1 : Int) := h1129
                show am_E _ _ _ _ [some (.ref 39), some (.int 1), some (.int z826)] [.int r1126] _ _
                refine am_e0 hi_212_56 ?_
                by_cases c1131 : ¬ r1126.toInt = (62 : Int)
                · refine am_e13t hi_212_58 (am_cT (m := r1126.toInt) (n := (62 : Int)) rfl (by decide) c1131) ?_
                  refine am_e2 (v := 39) hi_212_77 rfl ?_
                  refine am_e0 hi_212_78 ?_
                  refine am_e32n (as := [.ref 39, .int 60]) (la := [some (.ref 39), some (.int 60)]) (rest := []) hi_212_80 (am_hd0 (M := 212) (by decide) 80) (Nat.le_of_ble_eq_true rfl) (Nat.le_of_ble_eq_true rfl) (show 2 ≤ am_P0.2.2.1 193 from by decide +kernel) rfl (am_recv_ok hS1128.fs) rfl rfl (ct_enter (d := (d + 2)) hS1128   (by show (0 : Int) ≤ z826.toInt; omega) (by show (f 0).toInt ≤ (16384 : Int); omega) (by show (0 : Int) ≤ (60 : Int); omega) (by show (0 : Int) ≤ (f 5).toInt; omega) (by show (f 5).toInt ≤ (48 : Int); omega)) ?_
                  rintro v1132 S1133 (⟨z1134, y1135, hv1136, hS1137, h1138, h1139, h1140, h1141⟩ | ⟨a1143, b1144, hv1145, hS1146⟩)
                  · subst hv1136
                    have h1138_ : z1134.toInt = z826.toInt + 1 := h1138
                    have h1139_ : z826.toInt < (f 0).toInt := h1139
                    have h1140_ : y1135.toInt = (f 5).toInt + 1 := h1140
                    have h1141_ : y1135.toInt ≤ (48 : Int) := h1141
                    replace hS1137 : MS S0 S1133 (upd (upd (upd (upd (upd (upd f 4 z1134) 5 y1135) 10 z1109) 62 o807) 68 z840) 75 m809) g'1110 := hS1137
                    have hR1148 : RJ (upd (upd (upd (upd (upd (upd f 4 z1134) 5 y1135) 10 z1109) 62 o807) 68 z840) 75 m809) g'1110 (((28 : Int), (0 : Int), (0 : Int), (0 : Int), []) :: gs) bc [] 0 (s808.toNatClampNeg :: []) := RJ.at hR1115_ (by show z826.toInt ≤ z1134.toInt; omega)
                    show am_E _ _ _ _ [some (.ref 39), some (.int 1), some (.int z826)] [.int 1] _ _
                    refine am_e12f hi_212_83 (by decide) ?_
                    refine am_e2 (v := 39) hi_212_86 rfl ?_
                    refine am_e32n (as := [.ref 39]) (la := [some (.ref 39)]) (rest := []) hi_212_87 (am_hd0 (M := 212) (by decide) 87) (Nat.le_of_ble_eq_true rfl) (Nat.le_of_ble_eq_true rfl) (show 1 ≤ am_P0.2.2.1 183 from by decide +kernel) rfl (am_recv_ok hS1137.fs) rfl rfl (ct_next (d := (d + 3)) hS1137   (by show (0 : Int) ≤ z1134.toInt; omega) (by show (f 0).toInt ≤ (16384 : Int); omega)) ?_
                    rintro v1149 S1150 (⟨r1151, hv1152, hS1153, h1154⟩)
                    subst hv1152
                    have h1154_ : z1134.toInt < (f 0).toInt ∨ r1151.toInt = (-1 : Int) := h1154
                    show am_E _ _ _ _ [some (.ref 39), some (.int 1), some (.int z826)] [.int r1151] _ _
                    refine am_e0 hi_212_90 ?_
                    by_cases c1156 : ¬ r1151.toInt = (61 : Int)
                    · refine am_e13t hi_212_92 (am_cT (m := r1151.toInt) (n := (61 : Int)) rfl (by decide) c1156) ?_
                      refine am_e2 (v := 39) hi_212_112 rfl ?_
                      refine am_e0 hi_212_113 ?_
                      refine am_e1 (v := 1) hi_212_115 rfl ?_
                      refine am_e1 (v := z826) hi_212_116 rfl ?_
                      refine am_e0 hi_212_117 ?_
                      refine am_e32n (as := [.ref 39, .int 32, .int 1, .int z826, .int 0]) (la := [some (.ref 39), some (.int 32), some (.int 1), some (.int z826), some (.int 0)]) (rest := []) hi_212_118 (am_hd0 (M := 212) (by decide) 118) (Nat.le_of_ble_eq_true rfl) (Nat.le_of_ble_eq_true rfl) (show 5 ≤ am_P0.2.2.1 179 from by decide +kernel) rfl (am_recv_ok hS1153.fs) rfl rfl (ct_pile (d := (d + 4)) hS1153 hR1148 (mj_e_plain (by decide)) (by show (0 : Int) ≤ z1109.toInt; omega) (by show z1109.toInt ≤ (65535 : Int); omega)) ?_
                      rintro v1157 S1158 (⟨z1159, g'1160, hv1161, hS1162, hR1165, h1163, h1164⟩)
                      subst hv1161
                      have h1163_ : z1159.toInt = z1109.toInt + 1 := h1163
                      have h1164_ : ∀ j, j ∉ [11, 12, 13, 14] → g'1160 j = g'1110 j := h1164
                      replace hS1162 : MS S0 S1158 (upd (upd (upd (upd (upd (upd f 4 z1134) 5 y1135) 10 z1159) 62 o807) 68 z840) 75 m809) g'1160 := hS1162
                      have hR1165_ : RJ (upd (upd (upd (upd (upd (upd f 4 z1134) 5 y1135) 10 z1159) 62 o807) 68 z840) 75 m809) g'1160 (((32 : Int), (1 : Int), z826.toInt, (0 : Int), []) :: (((28 : Int), (0 : Int), (0 : Int), (0 : Int), []) :: gs)) bc [] 0 (s808.toNatClampNeg :: []) := hR1165
                      show am_E _ _ _ _ [some (.ref 39), some (.int 1), some (.int z826)] [] _ _
                      refine am_e2 (v := 39) hi_212_121 rfl ?_
                      refine am_e32w (as := [.ref 39]) (la := [some (.ref 39)]) (rest := []) hi_212_122 (am_hd0 (M := 212) (by decide) 122) (Nat.le_of_ble_eq_true rfl) (Nat.le_of_ble_eq_true rfl) (show 1 ≤ am_P0.2.2.1 214 from by decide +kernel) rfl (am_recv_ok hS1162.fs) rfl rfl ?_
                      refine am_e2 (v := 39) hi_214_0 rfl ?_
                      refine am_e0 hi_214_1 ?_
                      refine am_e0 hi_214_3 ?_
                      refine am_e0 hi_214_4 ?_
                      refine am_e0 hi_214_5 ?_
                      refine am_e32n (as := [.ref 39, .int 34, .int 1, .int 0, .int 0]) (la := [some (.ref 39), some (.int 34), some (.int 1), some (.int 0), some (.int 0)]) (rest := []) hi_214_6 (am_hd0 (M := 214) (by decide) 6) (Nat.le_of_ble_eq_true rfl) (Nat.le_of_ble_eq_true rfl) (show 5 ≤ am_P0.2.2.1 179 from by decide +kernel) rfl (am_recv_ok hS1162.fs) rfl rfl (ct_pile (d := (d + 3)) hS1162 hR1165_ (mj_e_plain (by decide)) (by show (0 : Int) ≤ z1159.toInt; omega) (by show z1159.toInt ≤ (65535 : Int); omega)) ?_
                      rintro v1166 S1167 (⟨z1168, g'1169, hv1170, hS1171, hR1174, h1172, h1173⟩)
                      subst hv1170
                      have h1172_ : z1168.toInt = z1159.toInt + 1 := h1172
                      have h1173_ : ∀ j, j ∉ [11, 12, 13, 14] → g'1169 j = g'1160 j := h1173
                      replace hS1171 : MS S0 S1167 (upd (upd (upd (upd (upd (upd f 4 z1134) 5 y1135) 10 z1168) 62 o807) 68 z840) 75 m809) g'1169 := hS1171
                      have hR1174_ : RJ (upd (upd (upd (upd (upd (upd f 4 z1134) 5 y1135) 10 z1168) 62 o807) 68 z840) 75 m809) g'1169 (((34 : Int), (1 : Int), (0 : Int), (0 : Int), []) :: (((32 : Int), (1 : Int), z826.toInt, (0 : Int), []) :: (((28 : Int), (0 : Int), (0 : Int), (0 : Int), []) :: gs))) bc [] 0 (s808.toNatClampNeg :: []) := hR1174
                      show am_E _ _ _ _ [some (.ref 39)] [] _ _
                      refine am_e2 (v := 39) hi_214_9 rfl ?_
                      refine am_e0 hi_214_10 ?_
                      refine am_e32w (as := [.ref 39, .int 0]) (la := [some (.ref 39), some (.int 0)]) (rest := []) hi_214_11 (am_hd0 (M := 214) (by decide) 11) (Nat.le_of_ble_eq_true rfl) (Nat.le_of_ble_eq_true rfl) (show 2 ≤ am_P0.2.2.1 186 from by decide +kernel) rfl (am_recv_ok hS1171.fs) rfl rfl ?_
                      refine am_e2 (v := 39) hi_186_0 rfl ?_
                      refine am_e0 hi_186_1 ?_
                      refine am_e1 (v := 0) hi_186_3 rfl ?_
                      refine am_e0 hi_186_4 ?_
                      refine am_e0 hi_186_5 ?_
                      refine am_e32n (as := [.ref 39, .int 23, .int 0, .int 0, .int 0]) (la := [some (.ref 39), some (.int 23), some (.int 0), some (.int 0), some (.int 0)]) (rest := []) hi_186_6 (am_hd0 (M := 186) (by decide) 6) (Nat.le_of_ble_eq_true rfl) (Nat.le_of_ble_eq_true rfl) (show 5 ≤ am_P0.2.2.1 179 from by decide +kernel) rfl (am_recv_ok hS1171.fs) rfl rfl (ct_pile (d := (d + 2)) hS1171 hR1174_ (mj_e_plain (by decide)) (by show (0 : Int) ≤ z1168.toInt; omega) (by show z1168.toInt ≤ (65535 : Int); omega)) ?_
                      rintro v1175 S1176 (⟨z1177, g'1178, hv1179, hS1180, hR1183, h1181, h1182⟩)
                      subst hv1179
                      have h1181_ : z1177.toInt = z1168.toInt + 1 := h1181
                      have h1182_ : ∀ j, j ∉ [11, 12, 13, 14] → g'1178 j = g'1169 j := h1182
                      replace hS1180 : MS S0 S1176 (upd (upd (upd (upd (upd (upd f 4 z1134) 5 y1135) 10 z1177) 62 o807) 68 z840) 75 m809) g'1178 := hS1180
                      have hR1183_ : RJ (upd (upd (upd (upd (upd (upd f 4 z1134) 5 y1135) 10 z1177) 62 o807) 68 z840) 75 m809) g'1178 (((23 : Int), (0 : Int), (0 : Int), (0 : Int), []) :: (((34 : Int), (1 : Int), (0 : Int), (0 : Int), []) :: (((32 : Int), (1 : Int), z826.toInt, (0 : Int), []) :: (((28 : Int), (0 : Int), (0 : Int), (0 : Int), []) :: gs)))) bc [] 0 (s808.toNatClampNeg :: []) := hR1183
                      show am_E _ _ _ _ [some (.ref 39), some (.int 0)] [] _ _
                      refine am_e35 hi_186_9 ?_
                      show am_E _ _ _ _ [some (.ref 39)] [] _ _
                      refine am_e35 hi_214_14 ?_
                      show am_E _ _ _ _ [some (.ref 39), some (.int 1), some (.int z826)] [] _ _
                      refine am_e35 hi_212_125 ?_
                      show am_E _ _ _ _ [some (.ref 39), some (.int r2), some (.int (f 4)), some (.int r851)] [] _ _
                      refine am_e18 hi_211_211 ?_
                      refine am_e35 hi_211_249 ?_
                      show am_E _ _ _ _ [some (.ref 39), some (.int 28), some (.int on), some (.int tw)] [] _ _
                      refine am_e18 hi_181_180 ?_
                      refine am_e35 hi_181_397 ?_
                      show am_E _ _ _ _ [some (.ref 39), some (.int 28), some (.int on), some (.int tw), some (.int th)] [] _ _
                      refine am_e35 hi_180_13 ?_
                      have q1 : mg_p1 (((23 : Int), (0 : Int), (0 : Int), (0 : Int), []) :: (((34 : Int), (1 : Int), (0 : Int), (0 : Int), []) :: (((32 : Int), (1 : Int), z826.toInt, (0 : Int), []) :: (((28 : Int), (0 : Int), (0 : Int), (0 : Int), []) :: gs)))) = 0 + (0 + (0 + (0 + (mg_p1 gs)))) := rfl
                      have q2 : mg_p2 (((23 : Int), (0 : Int), (0 : Int), (0 : Int), []) :: (((34 : Int), (1 : Int), (0 : Int), (0 : Int), []) :: (((32 : Int), (1 : Int), z826.toInt, (0 : Int), []) :: (((28 : Int), (0 : Int), (0 : Int), (0 : Int), []) :: gs)))) = 0 + (((1 : Int) - 1) + (0 + (0 + (mg_p2 gs)))) := rfl
                      have q3 : mg_p3 (((23 : Int), (0 : Int), (0 : Int), (0 : Int), []) :: (((34 : Int), (1 : Int), (0 : Int), (0 : Int), []) :: (((32 : Int), (1 : Int), z826.toInt, (0 : Int), []) :: (((28 : Int), (0 : Int), (0 : Int), (0 : Int), []) :: gs)))) = 1 + (1 + (1 + (1 + (mg_p3 gs)))) := rfl
                      have q4 : mg_p4 (((23 : Int), (0 : Int), (0 : Int), (0 : Int), []) :: (((34 : Int), (1 : Int), (0 : Int), (0 : Int), []) :: (((32 : Int), (1 : Int), z826.toInt, (0 : Int), []) :: (((28 : Int), (0 : Int), (0 : Int), (0 : Int), []) :: gs)))) = 0 + (0 + (0 + (0 + (mg_p4 gs)))) := rfl
                      refine ⟨_, _, _, bc, rfl, hS1180, Or.inl ⟨⟨(RJ.fewer (pj' := []) hR1183_ (fun _ h => nomatch h)), ?_, ?_⟩, rfl, ?_⟩⟩
                      · exact (⟨⟨(show mg_k 23 from by decide), (show (0 : Int) ≤ (f 15).toInt from by omega), (show 0 ≤ (f 20).toInt from by omega), (show 1 ≤ (f 37).toInt from by omega), (show 0 ≤ (f 32).toInt from by omega), (show (f 32).toInt ≤ y1135.toInt from by omega), (show y1135.toInt ≤ 48 from by omega), (show (f 37).toInt ≤ 2 * (y1135.toInt) + 2 from by omega), (show 0 ≤ (0 : Int) from by omega)⟩, ⟨⟨(show mg_k 34 from by decide), (show (1 : Int) ≤ (f 15).toInt + 1 from by omega), (show 0 ≤ (f 20).toInt from by omega), (show 1 ≤ (f 37).toInt + 0 from by omega), (show 0 ≤ (f 32).toInt + 0 from by omega), (show (f 32).toInt + 0 ≤ y1135.toInt + 0 from by omega), (show y1135.toInt + 0 ≤ 48 from by omega), (show (f 37).toInt + 0 ≤ 2 * (y1135.toInt + 0) + 2 from by omega), (show 1 ≤ (1 : Int) from by omega)⟩, ⟨⟨(show mg_k 32 from by decide), (show (2 : Int) ≤ (f 15).toInt + 1 + 0 from by omega), (show 0 ≤ (f 20).toInt from by omega), (show 1 ≤ (f 37).toInt + 0 + 0 from by omega), (show 0 ≤ (f 32).toInt + 0 + 0 from by omega), (show (f 32).toInt + 0 + 0 ≤ y1135.toInt + 0 + 0 from by omega), (show y1135.toInt + 0 + 0 ≤ 48 from by omega), (show (f 37).toInt + 0 + 0 ≤ 2 * (y1135.toInt + 0 + 0) + 2 from by omega), trivial⟩, ⟨⟨(show mg_k 28 from by decide), (show (1 : Int) ≤ (f 15).toInt + 1 + 0 + -1 from by omega), (show 0 ≤ (f 20).toInt from by omega), (show 1 ≤ (f 37).toInt + 0 + 0 + 0 from by omega), (show 0 ≤ (f 32).toInt + 0 + 0 + 0 from by omega), (show (f 32).toInt + 0 + 0 + 0 ≤ y1135.toInt + 0 + 0 + -1 from by omega), (show y1135.toInt + 0 + 0 + -1 ≤ 48 from by omega), (show (f 37).toInt + 0 + 0 + 0 ≤ 2 * (y1135.toInt + 0 + 0 + -1) + 2 from by omega), trivial⟩, mg_cast (mg_good_ext _ _ _ _ _ _ (fun i _ => by show g'1178 34 i = g 34 i; rw [show g'1178 34 = g'1169 34 from h1182_ 34 (by decide), show g'1169 34 = g'1160 34 from h1173_ 34 (by decide), show g'1160 34 = g'1110 34 from h1164_ 34 (by decide), show g'1110 34 = g'842 34 from h1114_ 34 (by decide), show g'842 34 = g'810 34 from h847_ 34 (by decide), show g'810 34 = g 34 from h818_ 34 (by decide)]) (fun i _ => by show g'1178 38 i = g 38 i; rw [show g'1178 38 = g'1169 38 from h1182_ 38 (by decide), show g'1169 38 = g'1160 38 from h1173_ 38 (by decide), show g'1160 38 = g'1110 38 from h1164_ 38 (by decide), show g'1110 38 = g'842 38 from h1114_ 38 (by decide), show g'842 38 = g'810 38 from h847_ 38 (by decide), show g'810 38 = g 38 from h818_ 38 (by decide)]) (fun i _ => by show g'1178 23 i = g 23 i; rw [show g'1178 23 = g'1169 23 from h1182_ 23 (by decide), show g'1169 23 = g'1160 23 from h1173_ 23 (by decide), show g'1160 23 = g'1110 23 from h1164_ 23 (by decide), show g'1110 23 = g'842 23 from h1114_ 23 (by decide), show g'842 23 = g'810 23 from h847_ 23 (by decide), show g'810 23 = g 23 from h818_ 23 (by decide)]) hrest) (by show (f 15).toInt + 0 = (f 15).toInt + 1 + 0 + -1 + 0; omega) (by show (f 20).toInt = (f 20).toInt; omega) (by show (f 37).toInt + 0 = (f 37).toInt + 0 + 0 + 0 + 0; omega) (by show (f 32).toInt + 0 = (f 32).toInt + 0 + 0 + 0 + 0; omega) (by show (f 5).toInt + 0 = y1135.toInt + 0 + 0 + -1 + 0; omega)⟩⟩⟩⟩ : mg_good (g'1178 34) (g'1178 38) (g'1178 23) (((23 : Int), (0 : Int), (0 : Int), (0 : Int), []) :: (((34 : Int), (1 : Int), (0 : Int), (0 : Int), []) :: (((32 : Int), (1 : Int), z826.toInt, (0 : Int), []) :: (((28 : Int), (0 : Int), (0 : Int), (0 : Int), []) :: gs)))) ((f 15).toInt) ((f 20).toInt) ((f 37).toInt) ((f 32).toInt) (y1135.toInt))
                      · exact ⟨(by show 0 ≤ z1134.toInt; omega), (by show z1134.toInt ≤ (f 0).toInt; omega), (by show (f 0).toInt ≤ 512; omega), (by show 0 ≤ (f 24).toInt; omega), (by show (f 24).toInt + (f 20).toInt + mg_p1 (((23 : Int), (0 : Int), (0 : Int), (0 : Int), []) :: (((34 : Int), (1 : Int), (0 : Int), (0 : Int), []) :: (((32 : Int), (1 : Int), z826.toInt, (0 : Int), []) :: (((28 : Int), (0 : Int), (0 : Int), (0 : Int), []) :: gs)))) ≤ 4 * z1134.toInt; omega), (by show (f 20).toInt ≤ z1134.toInt; omega), (by show (f 15).toInt + mg_p2 (((23 : Int), (0 : Int), (0 : Int), (0 : Int), []) :: (((34 : Int), (1 : Int), (0 : Int), (0 : Int), []) :: (((32 : Int), (1 : Int), z826.toInt, (0 : Int), []) :: (((28 : Int), (0 : Int), (0 : Int), (0 : Int), []) :: gs)))) ≤ z1134.toInt; omega), (by show mg_p3 (((23 : Int), (0 : Int), (0 : Int), (0 : Int), []) :: (((34 : Int), (1 : Int), (0 : Int), (0 : Int), []) :: (((32 : Int), (1 : Int), z826.toInt, (0 : Int), []) :: (((28 : Int), (0 : Int), (0 : Int), (0 : Int), []) :: gs)))) ≤ 20 * z1134.toInt + 20; omega), (by show 0 ≤ z840.toInt; omega), (by show z840.toInt + 3 * (f 20).toInt + mg_p4 (((23 : Int), (0 : Int), (0 : Int), (0 : Int), []) :: (((34 : Int), (1 : Int), (0 : Int), (0 : Int), []) :: (((32 : Int), (1 : Int), z826.toInt, (0 : Int), []) :: (((28 : Int), (0 : Int), (0 : Int), (0 : Int), []) :: gs)))) ≤ 60 * z1134.toInt + 60; omega), (by show 0 ≤ o807.toInt; omega), (by show o807.toInt + 64 * mj_n (g'1178 16) (f 15).toNatClampNeg 3 ≤ 64 * z1134.toInt; rw [show g'1178 16 = g'1169 16 from h1182_ 16 (by decide), show g'1169 16 = g'1160 16 from h1173_ 16 (by decide), show g'1160 16 = g'1110 16 from h1164_ 16 (by decide), show g'1110 16 = g'842 16 from h1114_ 16 (by decide), show g'842 16 = g'810 16 from h847_ 16 (by decide)]; omega), (by show 0 ≤ (f 44).toInt; omega), (by show (f 44).toInt ≤ z1134.toInt; omega), (by show 0 ≤ (f 48).toInt; omega), (by show (f 48).toInt ≤ z1134.toInt; omega), (by show 1 ≤ (f 53).toInt; omega), (by show (f 53).toInt ≤ z1134.toInt + 1; omega), (by show 0 ≤ (f 19).toInt; omega), (by show (f 19).toInt ≤ 600; omega)⟩
                      · show 100 * ((f 0).toInt - z1134.toInt) + mg_p3 (((23 : Int), (0 : Int), (0 : Int), (0 : Int), []) :: (((34 : Int), (1 : Int), (0 : Int), (0 : Int), []) :: (((32 : Int), (1 : Int), z826.toInt, (0 : Int), []) :: (((28 : Int), (0 : Int), (0 : Int), (0 : Int), []) :: gs)))) < 100 * ((f 0).toInt - (f 4).toInt) + (1 + mg_p3 gs); omega
                    · refine am_e13f hi_212_92 (am_cF (m := r1151.toInt) (n := (61 : Int)) rfl (by decide) c1156) ?_
                      refine am_e2 (v := 39) hi_212_95 rfl ?_
                      refine am_e0 hi_212_96 ?_
                      refine am_e32n (as := [.ref 39, .int 61]) (la := [some (.ref 39), some (.int 61)]) (rest := []) hi_212_98 (am_hd0 (M := 212) (by decide) 98) (Nat.le_of_ble_eq_true rfl) (Nat.le_of_ble_eq_true rfl) (show 2 ≤ am_P0.2.2.1 199 from by decide +kernel) rfl (am_recv_ok hS1153.fs) rfl rfl (ct_leave (d := (d + 1)) hS1153   (by show (0 : Int) ≤ z1134.toInt; omega) (by show (f 0).toInt ≤ (16384 : Int); omega) (by show (0 : Int) ≤ (61 : Int); omega) (by show (0 : Int) ≤ y1135.toInt; omega) (by show y1135.toInt ≤ (48 : Int); omega)) ?_
                      rintro v1184 S1185 (⟨z1186, y1187, hv1188, hS1189, h1190, h1191, h1192⟩ | ⟨a1194, b1195, hv1196, hS1197⟩)
                      · subst hv1188
                        have h1190_ : z1186.toInt = z1134.toInt + 1 := h1190
                        have h1191_ : z1134.toInt < (f 0).toInt := h1191
                        have h1192_ : y1187.toInt = y1135.toInt - 1 := h1192
                        replace hS1189 : MS S0 S1185 (upd (upd (upd (upd (upd (upd f 4 z1186) 5 y1187) 10 z1109) 62 o807) 68 z840) 75 m809) g'1110 := hS1189
                        have hR1199 : RJ (upd (upd (upd (upd (upd (upd f 4 z1186) 5 y1187) 10 z1109) 62 o807) 68 z840) 75 m809) g'1110 (((28 : Int), (0 : Int), (0 : Int), (0 : Int), []) :: gs) bc [] 0 (s808.toNatClampNeg :: []) := RJ.at hR1148 (by show z1134.toInt ≤ z1186.toInt; omega)
                        show am_E _ _ _ _ [some (.ref 39), some (.int 1), some (.int z826)] [.int 1] _ _
                        refine am_e6i hi_212_101 ?_
                        refine am_e2 (v := 39) hi_212_102 rfl ?_
                        refine am_e1 (v := 1) hi_212_103 rfl ?_
                        refine am_e0 hi_212_104 ?_
                        refine am_e1 (v := z826) hi_212_105 rfl ?_
                        refine am_e32w (as := [.ref 39, .int 1, .int 0, .int z826]) (la := [some (.ref 39), some (.int 1), some (.int 0), some (.int z826), none]) (rest := []) hi_212_106 (am_hd0 (M := 212) (by decide) 106) (Nat.le_of_ble_eq_true rfl) (Nat.le_of_ble_eq_true rfl) (show 4 ≤ am_P0.2.2.1 213 from by decide +kernel) rfl (am_recv_ok hS1189.fs) rfl rfl ?_
                        refine am_e2 (v := 39) hi_213_0 rfl ?_
                        refine am_e0 hi_213_1 ?_
                        refine am_e1 (v := 1) hi_213_3 rfl ?_
                        refine am_e1 (v := 0) hi_213_4 rfl ?_
                        refine am_e0 hi_213_5 ?_
                        refine am_e10 (z := 2) hi_213_6 (by decide) ?_
                        refine am_e1 (v := z826) hi_213_7 rfl ?_
                        refine am_e32n (as := [.ref 39, .int 13, .int 1, .int 2, .int z826]) (la := [some (.ref 39), some (.int 13), some (.int 1), some (.int 2), some (.int z826)]) (rest := []) hi_213_8 (am_hd0 (M := 213) (by decide) 8) (Nat.le_of_ble_eq_true rfl) (Nat.le_of_ble_eq_true rfl) (show 5 ≤ am_P0.2.2.1 189 from by decide +kernel) rfl (am_recv_ok hS1189.fs) rfl rfl (ct_put (d := (d + 3)) hS1189 hR1199  (by show (0 : Int) ≤ (f 32).toInt; omega) (by show (f 32).toInt ≤ (63 : Int); omega) (by show (f 53).toInt ≤ (4096 : Int); omega) (by show (0 : Int) ≤ z840.toInt; omega) (by show z840.toInt ≤ (65534 : Int); omega)) ?_
                        rintro v1200 S1201 (⟨z1202, r1203, g'1204, hv1205, hS1206, hR1210, h1207, h1208, h1209⟩)
                        subst hv1205
                        have h1207_ : z1202.toInt = z840.toInt + 1 := h1207
                        have h1208_ : r1203.toInt = z840.toInt := h1208
                        have h1209_ : ∀ j, j ∉ [60, 69, 70, 71, 72, 73] → g'1204 j = g'1110 j := h1209
                        replace hS1206 : MS S0 S1201 (upd (upd (upd (upd (upd (upd f 4 z1186) 5 y1187) 10 z1109) 62 o807) 68 z1202) 75 m809) g'1204 := hS1206
                        have hR1210_ : RJ (upd (upd (upd (upd (upd (upd f 4 z1186) 5 y1187) 10 z1109) 62 o807) 68 z1202) 75 m809) g'1204 (((28 : Int), (0 : Int), (0 : Int), (0 : Int), []) :: gs) bc [] 0 (z840.toNatClampNeg :: (s808.toNatClampNeg :: [])) := hR1210
                        show am_E _ _ _ _ [some (.ref 39), some (.int 1), some (.int 0), some (.int z826), none] [.int r1203] _ _
                        refine am_e3 (ls' := [some (.ref 39), some (.int 1), some (.int 0), some (.int z826), some (.int r1203)]) hi_213_11 (Nat.le_of_ble_eq_true rfl) rfl ?_
                        refine am_e2 (v := 39) hi_213_13 rfl ?_
                        refine am_e7 hi_213_14 ?_
                        refine mm_20 (v := .int (f 15)) hS1206 hi_213_15 rfl ?_
                        refine am_e0 hi_213_18 ?_
                        obtain ⟨z1211, hz1211, tz1211⟩ := am_subI (x := f 15) (y := 1) (m := (f 15).toInt) (n := (1 : Int)) rfl (by decide) (by omega) (by omega)
                        refine am_e10 (z := z1211) hi_213_19 hz1211 ?_
                        refine mm_21 (v := z1211) hS1206 hi_213_20 rfl (Nat.le_of_ble_eq_true rfl) ms_15 ?_
                        intro S1212 hS1213
                        replace hS1213 : MS S0 S1212 (upd (upd (upd (upd (upd (upd (upd f 4 z1186) 5 y1187) 10 z1109) 15 z1211) 62 o807) 68 z1202) 75 m809) g'1204 := hS1213
                        have hp1214 : mj_n (g'810 16) (f 15).toNatClampNeg 3 = mj_n (g'810 16) z1211.toNatClampNeg 3 + if (g'810 16 z1211.toNatClampNeg).toInt = 3 then 1 else 0 := mj_pop (by rw [cl_toNat, cl_toNat]; omega)
                        have hp12141 : mj_n (g'810 16) z1211.toNatClampNeg 3 ≤ mj_n (g'810 16) (f 15).toNatClampNeg 3 := by rw [hp1214]; split <;> omega
                        have hp12142 : (g'810 16 z1211.toNatClampNeg).toInt = 3 → mj_n (g'810 16) z1211.toNatClampNeg 3 + 1 ≤ mj_n (g'810 16) (f 15).toNatClampNeg 3 := fun q => by rw [hp1214, if_pos q]; exact Int.le_refl _
                        refine am_e2 (v := 39) hi_213_23 rfl ?_
                        refine am_e0 hi_213_24 ?_
                        refine am_e1 (v := r1203) hi_213_25 rfl ?_
                        refine am_e1 (v := z826) hi_213_27 rfl ?_
                        refine am_e32n (as := [.ref 39, .int 1, .int r1203, .int z826]) (la := [some (.ref 39), some (.int 1), some (.int r1203), some (.int z826)]) (rest := []) hi_213_28 (am_hd0 (M := 213) (by decide) 28) (Nat.le_of_ble_eq_true rfl) (Nat.le_of_ble_eq_true rfl) (show 4 ≤ am_P0.2.2.1 190 from by decide +kernel) rfl (am_recv_ok hS1213.fs) rfl rfl (ct_value (d := (d + 3)) hS1213 hR1210_ (fun h => absurd h (by decide)) (fun _ => ⟨by omega, by omega⟩) (by show (0 : Int) ≤ z1211.toInt; omega) (by show z1211.toInt ≤ (32767 : Int); omega)) ?_
                        rintro v1215 S1216 (⟨z1217, g'1218, hv1219, hS1220, hR1225, h1221, h1222, h1223, h1224⟩)
                        subst hv1219
                        have h1221_ : z1217.toInt = z1211.toInt + 1 := h1221
                        have h1222_ : ∀ j, j ∉ [16, 17, 18] → g'1218 j = g'1204 j := h1222
                        have h1223_ : mj_n (g'1218 16) z1217.toNatClampNeg 3 ≤ mj_n (g'810 16) z1211.toNatClampNeg 3 + 1 := by rw [show g'1204 16 = g'1110 16 from h1209_ 16 (by decide), show g'1110 16 = g'842 16 from h1114_ 16 (by decide), show g'842 16 = g'810 16 from h847_ 16 (by decide)] at h1223; exact h1223
                        have h1224_ : (1 : Int) = 3 ∨ mj_n (g'1218 16) z1217.toNatClampNeg 3 ≤ mj_n (g'810 16) z1211.toNatClampNeg 3 := by rw [show g'1204 16 = g'1110 16 from h1209_ 16 (by decide), show g'1110 16 = g'842 16 from h1114_ 16 (by decide), show g'842 16 = g'810 16 from h847_ 16 (by decide)] at h1224; exact h1224
                        replace hS1220 : MS S0 S1216 (upd (upd (upd (upd (upd (upd (upd f 4 z1186) 5 y1187) 10 z1109) 15 z1217) 62 o807) 68 z1202) 75 m809) g'1218 := hS1220
                        have hR1225_ : RJ (upd (upd (upd (upd (upd (upd (upd f 4 z1186) 5 y1187) 10 z1109) 15 z1217) 62 o807) 68 z1202) 75 m809) g'1218 (((28 : Int), (0 : Int), (0 : Int), (0 : Int), []) :: gs) bc [] 0 (z840.toNatClampNeg :: (s808.toNatClampNeg :: [])) := hR1225
                        show am_E _ _ _ _ [some (.ref 39), some (.int 1), some (.int 0), some (.int z826), some (.int r1203)] [] _ _
                        refine am_e35 hi_213_31 ?_
                        show am_E _ _ _ _ [some (.ref 39), some (.int 1), some (.int z826)] [] _ _
                        refine am_e18 hi_212_109 ?_
                        refine am_e35 hi_212_125 ?_
                        show am_E _ _ _ _ [some (.ref 39), some (.int r2), some (.int (f 4)), some (.int r851)] [] _ _
                        refine am_e18 hi_211_211 ?_
                        refine am_e35 hi_211_249 ?_
                        show am_E _ _ _ _ [some (.ref 39), some (.int 28), some (.int on), some (.int tw)] [] _ _
                        refine am_e18 hi_181_180 ?_
                        refine am_e35 hi_181_397 ?_
                        show am_E _ _ _ _ [some (.ref 39), some (.int 28), some (.int on), some (.int tw), some (.int th)] [] _ _
                        refine am_e35 hi_180_13 ?_
                        have q1 : mg_p1 (((28 : Int), (0 : Int), (0 : Int), (0 : Int), []) :: gs) = 0 + (mg_p1 gs) := rfl
                        have q2 : mg_p2 (((28 : Int), (0 : Int), (0 : Int), (0 : Int), []) :: gs) = 0 + (mg_p2 gs) := rfl
                        have q3 : mg_p3 (((28 : Int), (0 : Int), (0 : Int), (0 : Int), []) :: gs) = 1 + (mg_p3 gs) := rfl
                        have q4 : mg_p4 (((28 : Int), (0 : Int), (0 : Int), (0 : Int), []) :: gs) = 0 + (mg_p4 gs) := rfl
                        refine ⟨_, _, _, bc, rfl, hS1220, Or.inl ⟨⟨(RJ.fewer (pj' := []) hR1225_ (fun _ h => nomatch h)), ?_, ?_⟩, rfl, ?_⟩⟩
                        · exact (⟨⟨(show mg_k 28 from by decide), (show (1 : Int) ≤ z1217.toInt from by omega), (show 0 ≤ (f 20).toInt from by omega), (show 1 ≤ (f 37).toInt from by omega), (show 0 ≤ (f 32).toInt from by omega), (show (f 32).toInt ≤ y1187.toInt from by omega), (show y1187.toInt ≤ 48 from by omega), (show (f 37).toInt ≤ 2 * (y1187.toInt) + 2 from by omega), trivial⟩, mg_cast (mg_good_ext _ _ _ _ _ _ (fun i _ => by show g'1218 34 i = g 34 i; rw [show g'1218 34 = g'1204 34 from h1222_ 34 (by decide), show g'1204 34 = g'1110 34 from h1209_ 34 (by decide), show g'1110 34 = g'842 34 from h1114_ 34 (by decide), show g'842 34 = g'810 34 from h847_ 34 (by decide), show g'810 34 = g 34 from h818_ 34 (by decide)]) (fun i _ => by show g'1218 38 i = g 38 i; rw [show g'1218 38 = g'1204 38 from h1222_ 38 (by decide), show g'1204 38 = g'1110 38 from h1209_ 38 (by decide), show g'1110 38 = g'842 38 from h1114_ 38 (by decide), show g'842 38 = g'810 38 from h847_ 38 (by decide), show g'810 38 = g 38 from h818_ 38 (by decide)]) (fun i _ => by show g'1218 23 i = g 23 i; rw [show g'1218 23 = g'1204 23 from h1222_ 23 (by decide), show g'1204 23 = g'1110 23 from h1209_ 23 (by decide), show g'1110 23 = g'842 23 from h1114_ 23 (by decide), show g'842 23 = g'810 23 from h847_ 23 (by decide), show g'810 23 = g 23 from h818_ 23 (by decide)]) hrest) (by show (f 15).toInt + 0 = z1217.toInt + 0; omega) (by show (f 20).toInt = (f 20).toInt; omega) (by show (f 37).toInt + 0 = (f 37).toInt + 0; omega) (by show (f 32).toInt + 0 = (f 32).toInt + 0; omega) (by show (f 5).toInt + 0 = y1187.toInt + 0; omega)⟩ : mg_good (g'1218 34) (g'1218 38) (g'1218 23) (((28 : Int), (0 : Int), (0 : Int), (0 : Int), []) :: gs) (z1217.toInt) ((f 20).toInt) ((f 37).toInt) ((f 32).toInt) (y1187.toInt))
                        · exact ⟨(by show 0 ≤ z1186.toInt; omega), (by show z1186.toInt ≤ (f 0).toInt; omega), (by show (f 0).toInt ≤ 512; omega), (by show 0 ≤ (f 24).toInt; omega), (by show (f 24).toInt + (f 20).toInt + mg_p1 (((28 : Int), (0 : Int), (0 : Int), (0 : Int), []) :: gs) ≤ 4 * z1186.toInt; omega), (by show (f 20).toInt ≤ z1186.toInt; omega), (by show z1217.toInt + mg_p2 (((28 : Int), (0 : Int), (0 : Int), (0 : Int), []) :: gs) ≤ z1186.toInt; omega), (by show mg_p3 (((28 : Int), (0 : Int), (0 : Int), (0 : Int), []) :: gs) ≤ 20 * z1186.toInt + 20; omega), (by show 0 ≤ z1202.toInt; omega), (by show z1202.toInt + 3 * (f 20).toInt + mg_p4 (((28 : Int), (0 : Int), (0 : Int), (0 : Int), []) :: gs) ≤ 60 * z1186.toInt + 60; omega), (by show 0 ≤ o807.toInt; omega), (by show o807.toInt + 64 * mj_n (g'1218 16) z1217.toNatClampNeg 3 ≤ 64 * z1186.toInt; omega), (by show 0 ≤ (f 44).toInt; omega), (by show (f 44).toInt ≤ z1186.toInt; omega), (by show 0 ≤ (f 48).toInt; omega), (by show (f 48).toInt ≤ z1186.toInt; omega), (by show 1 ≤ (f 53).toInt; omega), (by show (f 53).toInt ≤ z1186.toInt + 1; omega), (by show 0 ≤ (f 19).toInt; omega), (by show (f 19).toInt ≤ 600; omega)⟩
                        · show 100 * ((f 0).toInt - z1186.toInt) + mg_p3 (((28 : Int), (0 : Int), (0 : Int), (0 : Int), []) :: gs) < 100 * ((f 0).toInt - (f 4).toInt) + (1 + mg_p3 gs); omega
                      · subst hv1196
                        replace hS1197 : MS S0 S1185 (upd (upd (upd (upd (upd (upd (upd (upd f 4 z1134) 5 y1135) 6 a1194) 7 b1195) 10 0) 62 o807) 68 z840) 75 m809) g'1110 := hS1197
                        have hR1226 := rj_clear0 hR1148
                        have hR1227 : RJ (upd (upd (upd (upd (upd (upd (upd (upd f 4 z1134) 5 y1135) 6 a1194) 7 b1195) 10 0) 62 o807) 68 z840) 75 m809) g'1110 [] bc [] 0 [] := hR1226
                        show am_E _ _ _ _ [some (.ref 39), some (.int 1), some (.int z826)] [.int 0] _ _
                        refine am_e6i hi_212_101 ?_
                        refine am_e2 (v := 39) hi_212_102 rfl ?_
                        refine am_e1 (v := 1) hi_212_103 rfl ?_
                        refine am_e0 hi_212_104 ?_
                        refine am_e1 (v := z826) hi_212_105 rfl ?_
                        refine am_e32w (as := [.ref 39, .int 1, .int 0, .int z826]) (la := [some (.ref 39), some (.int 1), some (.int 0), some (.int z826), none]) (rest := []) hi_212_106 (am_hd0 (M := 212) (by decide) 106) (Nat.le_of_ble_eq_true rfl) (Nat.le_of_ble_eq_true rfl) (show 4 ≤ am_P0.2.2.1 213 from by decide +kernel) rfl (am_recv_ok hS1197.fs) rfl rfl ?_
                        refine am_e2 (v := 39) hi_213_0 rfl ?_
                        refine am_e0 hi_213_1 ?_
                        refine am_e1 (v := 1) hi_213_3 rfl ?_
                        refine am_e1 (v := 0) hi_213_4 rfl ?_
                        refine am_e0 hi_213_5 ?_
                        refine am_e10 (z := 2) hi_213_6 (by decide) ?_
                        refine am_e1 (v := z826) hi_213_7 rfl ?_
                        refine am_e32n (as := [.ref 39, .int 13, .int 1, .int 2, .int z826]) (la := [some (.ref 39), some (.int 13), some (.int 1), some (.int 2), some (.int z826)]) (rest := []) hi_213_8 (am_hd0 (M := 213) (by decide) 8) (Nat.le_of_ble_eq_true rfl) (Nat.le_of_ble_eq_true rfl) (show 5 ≤ am_P0.2.2.1 189 from by decide +kernel) rfl (am_recv_ok hS1197.fs) rfl rfl (ct_put (d := (d + 3)) hS1197 hR1227  (by show (0 : Int) ≤ (f 32).toInt; omega) (by show (f 32).toInt ≤ (63 : Int); omega) (by show (f 53).toInt ≤ (4096 : Int); omega) (by show (0 : Int) ≤ z840.toInt; omega) (by show z840.toInt ≤ (65534 : Int); omega)) ?_
                        rintro v1228 S1229 (⟨z1230, r1231, g'1232, hv1233, hS1234, hR1238, h1235, h1236, h1237⟩)
                        subst hv1233
                        have h1235_ : z1230.toInt = z840.toInt + 1 := h1235
                        have h1236_ : r1231.toInt = z840.toInt := h1236
                        have h1237_ : ∀ j, j ∉ [60, 69, 70, 71, 72, 73] → g'1232 j = g'1110 j := h1237
                        replace hS1234 : MS S0 S1229 (upd (upd (upd (upd (upd (upd (upd (upd f 4 z1134) 5 y1135) 6 a1194) 7 b1195) 10 0) 62 o807) 68 z1230) 75 m809) g'1232 := hS1234
                        have hR1238_ : RJ (upd (upd (upd (upd (upd (upd (upd (upd f 4 z1134) 5 y1135) 6 a1194) 7 b1195) 10 0) 62 o807) 68 z1230) 75 m809) g'1232 [] bc [] 0 (z840.toNatClampNeg :: []) := hR1238
                        show am_E _ _ _ _ [some (.ref 39), some (.int 1), some (.int 0), some (.int z826), none] [.int r1231] _ _
                        refine am_e3 (ls' := [some (.ref 39), some (.int 1), some (.int 0), some (.int z826), some (.int r1231)]) hi_213_11 (Nat.le_of_ble_eq_true rfl) rfl ?_
                        refine am_e2 (v := 39) hi_213_13 rfl ?_
                        refine am_e7 hi_213_14 ?_
                        refine mm_20 (v := .int (f 15)) hS1234 hi_213_15 rfl ?_
                        refine am_e0 hi_213_18 ?_
                        obtain ⟨z1239, hz1239, tz1239⟩ := am_subI (x := f 15) (y := 1) (m := (f 15).toInt) (n := (1 : Int)) rfl (by decide) (by omega) (by omega)
                        refine am_e10 (z := z1239) hi_213_19 hz1239 ?_
                        refine mm_21 (v := z1239) hS1234 hi_213_20 rfl (Nat.le_of_ble_eq_true rfl) ms_15 ?_
                        intro S1240 hS1241
                        replace hS1241 : MS S0 S1240 (upd (upd (upd (upd (upd (upd (upd (upd (upd f 4 z1134) 5 y1135) 6 a1194) 7 b1195) 10 0) 15 z1239) 62 o807) 68 z1230) 75 m809) g'1232 := hS1241
                        have hp1242 : mj_n (g'810 16) (f 15).toNatClampNeg 3 = mj_n (g'810 16) z1239.toNatClampNeg 3 + if (g'810 16 z1239.toNatClampNeg).toInt = 3 then 1 else 0 := mj_pop (by rw [cl_toNat, cl_toNat]; omega)
                        have hp12421 : mj_n (g'810 16) z1239.toNatClampNeg 3 ≤ mj_n (g'810 16) (f 15).toNatClampNeg 3 := by rw [hp1242]; split <;> omega
                        have hp12422 : (g'810 16 z1239.toNatClampNeg).toInt = 3 → mj_n (g'810 16) z1239.toNatClampNeg 3 + 1 ≤ mj_n (g'810 16) (f 15).toNatClampNeg 3 := fun q => by rw [hp1242, if_pos q]; exact Int.le_refl _
                        refine am_e2 (v := 39) hi_213_23 rfl ?_
                        refine am_e0 hi_213_24 ?_
                        refine am_e1 (v := r1231) hi_213_25 rfl ?_
                        refine am_e1 (v := z826) hi_213_27 rfl ?_
                        refine am_e32n (as := [.ref 39, .int 1, .int r1231, .int z826]) (la := [some (.ref 39), some (.int 1), some (.int r1231), some (.int z826)]) (rest := []) hi_213_28 (am_hd0 (M := 213) (by decide) 28) (Nat.le_of_ble_eq_true rfl) (Nat.le_of_ble_eq_true rfl) (show 4 ≤ am_P0.2.2.1 190 from by decide +kernel) rfl (am_recv_ok hS1241.fs) rfl rfl (ct_value (d := (d + 3)) hS1241 hR1238_ (fun h => absurd h (by decide)) (fun _ => ⟨by omega, by omega⟩) (by show (0 : Int) ≤ z1239.toInt; omega) (by show z1239.toInt ≤ (32767 : Int); omega)) ?_
                        rintro v1243 S1244 (⟨z1245, g'1246, hv1247, hS1248, hR1253, h1249, h1250, h1251, h1252⟩)
                        subst hv1247
                        have h1249_ : z1245.toInt = z1239.toInt + 1 := h1249
                        have h1250_ : ∀ j, j ∉ [16, 17, 18] → g'1246 j = g'1232 j := h1250
                        have h1251_ : mj_n (g'1246 16) z1245.toNatClampNeg 3 ≤ mj_n (g'810 16) z1239.toNatClampNeg 3 + 1 := by rw [show g'1232 16 = g'1110 16 from h1237_ 16 (by decide), show g'1110 16 = g'842 16 from h1114_ 16 (by decide), show g'842 16 = g'810 16 from h847_ 16 (by decide)] at h1251; exact h1251
                        have h1252_ : (1 : Int) = 3 ∨ mj_n (g'1246 16) z1245.toNatClampNeg 3 ≤ mj_n (g'810 16) z1239.toNatClampNeg 3 := by rw [show g'1232 16 = g'1110 16 from h1237_ 16 (by decide), show g'1110 16 = g'842 16 from h1114_ 16 (by decide), show g'842 16 = g'810 16 from h847_ 16 (by decide)] at h1252; exact h1252
                        replace hS1248 : MS S0 S1244 (upd (upd (upd (upd (upd (upd (upd (upd (upd f 4 z1134) 5 y1135) 6 a1194) 7 b1195) 10 0) 15 z1245) 62 o807) 68 z1230) 75 m809) g'1246 := hS1248
                        have hR1253_ : RJ (upd (upd (upd (upd (upd (upd (upd (upd (upd f 4 z1134) 5 y1135) 6 a1194) 7 b1195) 10 0) 15 z1245) 62 o807) 68 z1230) 75 m809) g'1246 [] bc [] 0 (z840.toNatClampNeg :: []) := hR1253
                        show am_E _ _ _ _ [some (.ref 39), some (.int 1), some (.int 0), some (.int z826), some (.int r1231)] [] _ _
                        refine am_e35 hi_213_31 ?_
                        show am_E _ _ _ _ [some (.ref 39), some (.int 1), some (.int z826)] [] _ _
                        refine am_e18 hi_212_109 ?_
                        refine am_e35 hi_212_125 ?_
                        show am_E _ _ _ _ [some (.ref 39), some (.int r2), some (.int (f 4)), some (.int r851)] [] _ _
                        refine am_e18 hi_211_211 ?_
                        refine am_e35 hi_211_249 ?_
                        show am_E _ _ _ _ [some (.ref 39), some (.int 28), some (.int on), some (.int tw)] [] _ _
                        refine am_e18 hi_181_180 ?_
                        refine am_e35 hi_181_397 ?_
                        show am_E _ _ _ _ [some (.ref 39), some (.int 28), some (.int on), some (.int tw), some (.int th)] [] _ _
                        refine am_e35 hi_180_13 ?_
                        have hRc := rj_clear0 hR1253_
                        refine ⟨_, _, [], _, rfl, hS1248, Or.inr ⟨hRc, rfl, (by show 0 ≤ z1134.toInt; omega), (by show z1134.toInt ≤ (f 0).toInt; omega), (by show 0 ≤ (f 32).toInt; omega), (by show (f 32).toInt ≤ 63; omega), (by show 1 ≤ (f 53).toInt; omega), (by show (f 53).toInt ≤ 600; omega), (by show 0 ≤ z1230.toInt; omega), (by show z1230.toInt ≤ 60000; omega), (by show 0 ≤ (f 48).toInt; omega), (by show (f 48).toInt ≤ 8000; omega), (by show 0 ≤ (f 37).toInt; omega), (by show (f 37).toInt ≤ 128; omega), (by show 0 ≤ o807.toInt; omega), (by show o807.toInt ≤ 65000; omega), (by show 0 ≤ (f 19).toInt; omega), (by show (f 19).toInt ≤ 600; omega)⟩⟩
                  · subst hv1145
                    replace hS1146 : MS S0 S1133 (upd (upd (upd (upd (upd (upd (upd f 4 z826) 6 a1143) 7 b1144) 10 0) 62 o807) 68 z840) 75 m809) g'1110 := hS1146
                    have hR1254 := rj_clear0 hR1115_
                    have hR1255 : RJ (upd (upd (upd (upd (upd (upd (upd f 4 z826) 6 a1143) 7 b1144) 10 0) 62 o807) 68 z840) 75 m809) g'1110 [] bc [] 0 [] := hR1254
                    show am_E _ _ _ _ [some (.ref 39), some (.int 1), some (.int z826)] [.int 0] _ _
                    refine am_e12t hi_212_83 (by decide) ?_
                    refine am_e35 hi_212_125 ?_
                    show am_E _ _ _ _ [some (.ref 39), some (.int r2), some (.int (f 4)), some (.int r851)] [] _ _
                    refine am_e18 hi_211_211 ?_
                    refine am_e35 hi_211_249 ?_
                    show am_E _ _ _ _ [some (.ref 39), some (.int 28), some (.int on), some (.int tw)] [] _ _
                    refine am_e18 hi_181_180 ?_
                    refine am_e35 hi_181_397 ?_
                    show am_E _ _ _ _ [some (.ref 39), some (.int 28), some (.int on), some (.int tw), some (.int th)] [] _ _
                    refine am_e35 hi_180_13 ?_
                    have hRc := rj_clear0 hR1255
                    refine ⟨_, _, [], _, rfl, hS1146, Or.inr ⟨hRc, rfl, (by show 0 ≤ z826.toInt; omega), (by show z826.toInt ≤ (f 0).toInt; omega), (by show 0 ≤ (f 32).toInt; omega), (by show (f 32).toInt ≤ 63; omega), (by show 1 ≤ (f 53).toInt; omega), (by show (f 53).toInt ≤ 600; omega), (by show 0 ≤ z840.toInt; omega), (by show z840.toInt ≤ 60000; omega), (by show 0 ≤ (f 48).toInt; omega), (by show (f 48).toInt ≤ 8000; omega), (by show 0 ≤ (f 37).toInt; omega), (by show (f 37).toInt ≤ 128; omega), (by show 0 ≤ o807.toInt; omega), (by show o807.toInt ≤ 65000; omega), (by show 0 ≤ (f 19).toInt; omega), (by show (f 19).toInt ≤ 600; omega)⟩⟩
                · refine am_e13f hi_212_58 (am_cF (m := r1126.toInt) (n := (62 : Int)) rfl (by decide) c1131) ?_
                  refine am_e2 (v := 39) hi_212_61 rfl ?_
                  refine am_e0 hi_212_62 ?_
                  refine am_e1 (v := 1) hi_212_64 rfl ?_
                  refine am_e1 (v := z826) hi_212_65 rfl ?_
                  refine am_e0 hi_212_66 ?_
                  refine am_e32n (as := [.ref 39, .int 33, .int 1, .int z826, .int 0]) (la := [some (.ref 39), some (.int 33), some (.int 1), some (.int z826), some (.int 0)]) (rest := []) hi_212_67 (am_hd0 (M := 212) (by decide) 67) (Nat.le_of_ble_eq_true rfl) (Nat.le_of_ble_eq_true rfl) (show 5 ≤ am_P0.2.2.1 179 from by decide +kernel) rfl (am_recv_ok hS1128.fs) rfl rfl (ct_pile (d := (d + 4)) hS1128 hR1115_ (mj_e_plain (by decide)) (by show (0 : Int) ≤ z1109.toInt; omega) (by show z1109.toInt ≤ (65535 : Int); omega)) ?_
                  rintro v1256 S1257 (⟨z1258, g'1259, hv1260, hS1261, hR1264, h1262, h1263⟩)
                  subst hv1260
                  have h1262_ : z1258.toInt = z1109.toInt + 1 := h1262
                  have h1263_ : ∀ j, j ∉ [11, 12, 13, 14] → g'1259 j = g'1110 j := h1263
                  replace hS1261 : MS S0 S1257 (upd (upd (upd (upd (upd f 4 z826) 10 z1258) 62 o807) 68 z840) 75 m809) g'1259 := hS1261
                  have hR1264_ : RJ (upd (upd (upd (upd (upd f 4 z826) 10 z1258) 62 o807) 68 z840) 75 m809) g'1259 (((33 : Int), (1 : Int), z826.toInt, (0 : Int), []) :: (((28 : Int), (0 : Int), (0 : Int), (0 : Int), []) :: gs)) bc [] 0 (s808.toNatClampNeg :: []) := hR1264
                  show am_E _ _ _ _ [some (.ref 39), some (.int 1), some (.int z826)] [] _ _
                  refine am_e2 (v := 39) hi_212_70 rfl ?_
                  refine am_e32w (as := [.ref 39]) (la := [some (.ref 39), none]) (rest := []) hi_212_71 (am_hd0 (M := 212) (by decide) 71) (Nat.le_of_ble_eq_true rfl) (Nat.le_of_ble_eq_true rfl) (show 1 ≤ am_P0.2.2.1 192 from by decide +kernel) rfl (am_recv_ok hS1261.fs) rfl rfl ?_
                  refine am_e2 (v := 39) hi_192_0 rfl ?_
                  refine mm_20 (v := .int z826) hS1261 hi_192_1 rfl ?_
                  refine am_e3 (ls' := [some (.ref 39), some (.int z826)]) hi_192_4 (Nat.le_of_ble_eq_true rfl) rfl ?_
                  refine am_e2 (v := 39) hi_192_5 rfl ?_
                  refine am_e0 hi_192_6 ?_
                  refine am_e32n (as := [.ref 39, .int 62]) (la := [some (.ref 39), some (.int 62)]) (rest := []) hi_192_8 (am_hd0 (M := 192) (by decide) 8) (Nat.le_of_ble_eq_true rfl) (Nat.le_of_ble_eq_true rfl) (show 2 ≤ am_P0.2.2.1 193 from by decide +kernel) rfl (am_recv_ok hS1261.fs) rfl rfl (ct_enter (d := (d + 1)) hS1261   (by show (0 : Int) ≤ z826.toInt; omega) (by show (f 0).toInt ≤ (16384 : Int); omega) (by show (0 : Int) ≤ (62 : Int); omega) (by show (0 : Int) ≤ (f 5).toInt; omega) (by show (f 5).toInt ≤ (48 : Int); omega)) ?_
                  rintro v1265 S1266 (⟨z1267, y1268, hv1269, hS1270, h1271, h1272, h1273, h1274⟩ | ⟨a1276, b1277, hv1278, hS1279⟩)
                  · subst hv1269
                    have h1271_ : z1267.toInt = z826.toInt + 1 := h1271
                    have h1272_ : z826.toInt < (f 0).toInt := h1272
                    have h1273_ : y1268.toInt = (f 5).toInt + 1 := h1273
                    have h1274_ : y1268.toInt ≤ (48 : Int) := h1274
                    replace hS1270 : MS S0 S1266 (upd (upd (upd (upd (upd (upd f 4 z1267) 5 y1268) 10 z1258) 62 o807) 68 z840) 75 m809) g'1259 := hS1270
                    have hR1281 : RJ (upd (upd (upd (upd (upd (upd f 4 z1267) 5 y1268) 10 z1258) 62 o807) 68 z840) 75 m809) g'1259 (((33 : Int), (1 : Int), z826.toInt, (0 : Int), []) :: (((28 : Int), (0 : Int), (0 : Int), (0 : Int), []) :: gs)) bc [] 0 (s808.toNatClampNeg :: []) := RJ.at hR1264_ (by show z826.toInt ≤ z1267.toInt; omega)
                    show am_E _ _ _ _ [some (.ref 39), some (.int z826)] [.int 1] _ _
                    refine am_e12t hi_192_11 (by decide) ?_
                    refine am_e2 (v := 39) hi_192_15 rfl ?_
                    refine am_e0 hi_192_16 ?_
                    refine am_e0 hi_192_18 ?_
                    refine am_e0 hi_192_19 ?_
                    refine am_e1 (v := z826) hi_192_20 rfl ?_
                    refine am_e32n (as := [.ref 39, .int 20, .int 0, .int 0, .int z826]) (la := [some (.ref 39), some (.int 20), some (.int 0), some (.int 0), some (.int z826)]) (rest := []) hi_192_21 (am_hd0 (M := 192) (by decide) 21) (Nat.le_of_ble_eq_true rfl) (Nat.le_of_ble_eq_true rfl) (show 5 ≤ am_P0.2.2.1 189 from by decide +kernel) rfl (am_recv_ok hS1270.fs) rfl rfl (ct_put (d := (d + 3)) hS1270 hR1281  (by show (0 : Int) ≤ (f 32).toInt; omega) (by show (f 32).toInt ≤ (63 : Int); omega) (by show (f 53).toInt ≤ (4096 : Int); omega) (by show (0 : Int) ≤ z840.toInt; omega) (by show z840.toInt ≤ (65534 : Int); omega)) ?_
                    rintro v1282 S1283 (⟨z1284, r1285, g'1286, hv1287, hS1288, hR1292, h1289, h1290, h1291⟩)
                    subst hv1287
                    have h1289_ : z1284.toInt = z840.toInt + 1 := h1289
                    have h1290_ : r1285.toInt = z840.toInt := h1290
                    have h1291_ : ∀ j, j ∉ [60, 69, 70, 71, 72, 73] → g'1286 j = g'1259 j := h1291
                    replace hS1288 : MS S0 S1283 (upd (upd (upd (upd (upd (upd f 4 z1267) 5 y1268) 10 z1258) 62 o807) 68 z1284) 75 m809) g'1286 := hS1288
                    have hR1292_ : RJ (upd (upd (upd (upd (upd (upd f 4 z1267) 5 y1268) 10 z1258) 62 o807) 68 z1284) 75 m809) g'1286 (((33 : Int), (1 : Int), z826.toInt, (0 : Int), []) :: (((28 : Int), (0 : Int), (0 : Int), (0 : Int), []) :: gs)) bc [] 0 (z840.toNatClampNeg :: (s808.toNatClampNeg :: [])) := hR1292
                    show am_E _ _ _ _ [some (.ref 39), some (.int z826)] [.int r1285] _ _
                    refine am_e6i hi_192_24 ?_
                    refine am_e2 (v := 39) hi_192_25 rfl ?_
                    refine am_e0 hi_192_26 ?_
                    refine am_e0 hi_192_27 ?_
                    refine am_e0 hi_192_28 ?_
                    refine am_e32n (as := [.ref 39, .int 0, .int 0, .int 0]) (la := [some (.ref 39), some (.int 0), some (.int 0), some (.int 0)]) (rest := []) hi_192_29 (am_hd0 (M := 192) (by decide) 29) (Nat.le_of_ble_eq_true rfl) (Nat.le_of_ble_eq_true rfl) (show 4 ≤ am_P0.2.2.1 190 from by decide +kernel) rfl (am_recv_ok hS1288.fs) rfl rfl (ct_value (d := (d + 3)) hS1288 hR1292_ (fun h => absurd h (by decide)) (fun h => absurd h (by decide)) (by show (0 : Int) ≤ (f 15).toInt; omega) (by show (f 15).toInt ≤ (32767 : Int); omega)) ?_
                    rintro v1293 S1294 (⟨z1295, g'1296, hv1297, hS1298, hR1303, h1299, h1300, h1301, h1302⟩)
                    subst hv1297
                    have h1299_ : z1295.toInt = (f 15).toInt + 1 := h1299
                    have h1300_ : ∀ j, j ∉ [16, 17, 18] → g'1296 j = g'1286 j := h1300
                    have h1301_ : mj_n (g'1296 16) z1295.toNatClampNeg 3 ≤ mj_n (g'810 16) (f 15).toNatClampNeg 3 + 1 := by rw [show g'1286 16 = g'1259 16 from h1291_ 16 (by decide), show g'1259 16 = g'1110 16 from h1263_ 16 (by decide), show g'1110 16 = g'842 16 from h1114_ 16 (by decide), show g'842 16 = g'810 16 from h847_ 16 (by decide)] at h1301; exact h1301
                    have h1302_ : (0 : Int) = 3 ∨ mj_n (g'1296 16) z1295.toNatClampNeg 3 ≤ mj_n (g'810 16) (f 15).toNatClampNeg 3 := by rw [show g'1286 16 = g'1259 16 from h1291_ 16 (by decide), show g'1259 16 = g'1110 16 from h1263_ 16 (by decide), show g'1110 16 = g'842 16 from h1114_ 16 (by decide), show g'842 16 = g'810 16 from h847_ 16 (by decide)] at h1302; exact h1302
                    replace hS1298 : MS S0 S1294 (upd (upd (upd (upd (upd (upd (upd f 4 z1267) 5 y1268) 10 z1258) 15 z1295) 62 o807) 68 z1284) 75 m809) g'1296 := hS1298
                    have hR1303_ : RJ (upd (upd (upd (upd (upd (upd (upd f 4 z1267) 5 y1268) 10 z1258) 15 z1295) 62 o807) 68 z1284) 75 m809) g'1296 (((33 : Int), (1 : Int), z826.toInt, (0 : Int), []) :: (((28 : Int), (0 : Int), (0 : Int), (0 : Int), []) :: gs)) bc [] 0 (z840.toNatClampNeg :: (s808.toNatClampNeg :: [])) := hR1303
                    show am_E _ _ _ _ [some (.ref 39), some (.int z826)] [] _ _
                    refine am_e2 (v := 39) hi_192_32 rfl ?_
                    refine am_e0 hi_192_33 ?_
                    refine am_e0 hi_192_35 ?_
                    refine am_e0 hi_192_36 ?_
                    refine am_e0 hi_192_37 ?_
                    refine am_e32n (as := [.ref 39, .int 35, .int 0, .int 0, .int 0]) (la := [some (.ref 39), some (.int 35), some (.int 0), some (.int 0), some (.int 0)]) (rest := []) hi_192_38 (am_hd0 (M := 192) (by decide) 38) (Nat.le_of_ble_eq_true rfl) (Nat.le_of_ble_eq_true rfl) (show 5 ≤ am_P0.2.2.1 179 from by decide +kernel) rfl (am_recv_ok hS1298.fs) rfl rfl (ct_pile (d := (d + 3)) hS1298 hR1303_ (mj_e_plain (by decide)) (by show (0 : Int) ≤ z1258.toInt; omega) (by show z1258.toInt ≤ (65535 : Int); omega)) ?_
                    rintro v1304 S1305 (⟨z1306, g'1307, hv1308, hS1309, hR1312, h1310, h1311⟩)
                    subst hv1308
                    have h1310_ : z1306.toInt = z1258.toInt + 1 := h1310
                    have h1311_ : ∀ j, j ∉ [11, 12, 13, 14] → g'1307 j = g'1296 j := h1311
                    replace hS1309 : MS S0 S1305 (upd (upd (upd (upd (upd (upd (upd f 4 z1267) 5 y1268) 10 z1306) 15 z1295) 62 o807) 68 z1284) 75 m809) g'1307 := hS1309
                    have hR1312_ : RJ (upd (upd (upd (upd (upd (upd (upd f 4 z1267) 5 y1268) 10 z1306) 15 z1295) 62 o807) 68 z1284) 75 m809) g'1307 (((35 : Int), (0 : Int), (0 : Int), (0 : Int), []) :: (((33 : Int), (1 : Int), z826.toInt, (0 : Int), []) :: (((28 : Int), (0 : Int), (0 : Int), (0 : Int), []) :: gs))) bc [] 0 (z840.toNatClampNeg :: (s808.toNatClampNeg :: [])) := hR1312
                    show am_E _ _ _ _ [some (.ref 39), some (.int z826)] [] _ _
                    refine am_e35 hi_192_41 ?_
                    show am_E _ _ _ _ [some (.ref 39), some (.int 1), some (.int z826)] [] _ _
                    refine am_e18 hi_212_74 ?_
                    refine am_e35 hi_212_125 ?_
                    show am_E _ _ _ _ [some (.ref 39), some (.int r2), some (.int (f 4)), some (.int r851)] [] _ _
                    refine am_e18 hi_211_211 ?_
                    refine am_e35 hi_211_249 ?_
                    show am_E _ _ _ _ [some (.ref 39), some (.int 28), some (.int on), some (.int tw)] [] _ _
                    refine am_e18 hi_181_180 ?_
                    refine am_e35 hi_181_397 ?_
                    show am_E _ _ _ _ [some (.ref 39), some (.int 28), some (.int on), some (.int tw), some (.int th)] [] _ _
                    refine am_e35 hi_180_13 ?_
                    have q1 : mg_p1 (((35 : Int), (0 : Int), (0 : Int), (0 : Int), []) :: (((33 : Int), (1 : Int), z826.toInt, (0 : Int), []) :: (((28 : Int), (0 : Int), (0 : Int), (0 : Int), []) :: gs))) = 0 + (0 + (0 + (mg_p1 gs))) := rfl
                    have q2 : mg_p2 (((35 : Int), (0 : Int), (0 : Int), (0 : Int), []) :: (((33 : Int), (1 : Int), z826.toInt, (0 : Int), []) :: (((28 : Int), (0 : Int), (0 : Int), (0 : Int), []) :: gs))) = 0 + (0 + (0 + (mg_p2 gs))) := rfl
                    have q3 : mg_p3 (((35 : Int), (0 : Int), (0 : Int), (0 : Int), []) :: (((33 : Int), (1 : Int), z826.toInt, (0 : Int), []) :: (((28 : Int), (0 : Int), (0 : Int), (0 : Int), []) :: gs))) = 3 + (1 + (1 + (mg_p3 gs))) := rfl
                    have q4 : mg_p4 (((35 : Int), (0 : Int), (0 : Int), (0 : Int), []) :: (((33 : Int), (1 : Int), z826.toInt, (0 : Int), []) :: (((28 : Int), (0 : Int), (0 : Int), (0 : Int), []) :: gs))) = 0 + (3 + (0 + (mg_p4 gs))) := rfl
                    refine ⟨_, _, _, bc, rfl, hS1309, Or.inl ⟨⟨(RJ.fewer (pj' := []) hR1312_ (fun _ h => nomatch h)), ?_, ?_⟩, rfl, ?_⟩⟩
                    · exact (⟨⟨(show mg_k 35 from by decide), (show (0 : Int) ≤ z1295.toInt from by omega), (show 0 ≤ (f 20).toInt from by omega), (show 1 ≤ (f 37).toInt from by omega), (show 0 ≤ (f 32).toInt from by omega), (show (f 32).toInt ≤ y1268.toInt from by omega), (show y1268.toInt ≤ 48 from by omega), (show (f 37).toInt ≤ 2 * (y1268.toInt) + 2 from by omega), trivial⟩, ⟨⟨(show mg_k 33 from by decide), (show (2 : Int) ≤ z1295.toInt + 0 from by omega), (show 0 ≤ (f 20).toInt from by omega), (show 1 ≤ (f 37).toInt + 0 from by omega), (show 0 ≤ (f 32).toInt + 0 from by omega), (show (f 32).toInt + 0 ≤ y1268.toInt + -1 from by omega), (show y1268.toInt + -1 ≤ 48 from by omega), (show (f 37).toInt + 0 ≤ 2 * (y1268.toInt + -1) + 2 from by omega), trivial⟩, ⟨⟨(show mg_k 28 from by decide), (show (1 : Int) ≤ z1295.toInt + 0 + -1 from by omega), (show 0 ≤ (f 20).toInt from by omega), (show 1 ≤ (f 37).toInt + 0 + 0 from by omega), (show 0 ≤ (f 32).toInt + 0 + 0 from by omega), (show (f 32).toInt + 0 + 0 ≤ y1268.toInt + -1 + 0 from by omega), (show y1268.toInt + -1 + 0 ≤ 48 from by omega), (show (f 37).toInt + 0 + 0 ≤ 2 * (y1268.toInt + -1 + 0) + 2 from by omega), trivial⟩, mg_cast (mg_good_ext _ _ _ _ _ _ (fun i _ => by show g'1307 34 i = g 34 i; rw [show g'1307 34 = g'1296 34 from h1311_ 34 (by decide), show g'1296 34 = g'1286 34 from h1300_ 34 (by decide), show g'1286 34 = g'1259 34 from h1291_ 34 (by decide), show g'1259 34 = g'1110 34 from h1263_ 34 (by decide), show g'1110 34 = g'842 34 from h1114_ 34 (by decide), show g'842 34 = g'810 34 from h847_ 34 (by decide), show g'810 34 = g 34 from h818_ 34 (by decide)]) (fun i _ => by show g'1307 38 i = g 38 i; rw [show g'1307 38 = g'1296 38 from h1311_ 38 (by decide), show g'1296 38 = g'1286 38 from h1300_ 38 (by decide), show g'1286 38 = g'1259 38 from h1291_ 38 (by decide), show g'1259 38 = g'1110 38 from h1263_ 38 (by decide), show g'1110 38 = g'842 38 from h1114_ 38 (by decide), show g'842 38 = g'810 38 from h847_ 38 (by decide), show g'810 38 = g 38 from h818_ 38 (by decide)]) (fun i _ => by show g'1307 23 i = g 23 i; rw [show g'1307 23 = g'1296 23 from h1311_ 23 (by decide), show g'1296 23 = g'1286 23 from h1300_ 23 (by decide), show g'1286 23 = g'1259 23 from h1291_ 23 (by decide), show g'1259 23 = g'1110 23 from h1263_ 23 (by decide), show g'1110 23 = g'842 23 from h1114_ 23 (by decide), show g'842 23 = g'810 23 from h847_ 23 (by decide), show g'810 23 = g 23 from h818_ 23 (by decide)]) hrest) (by show (f 15).toInt + 0 = z1295.toInt + 0 + -1 + 0; omega) (by show (f 20).toInt = (f 20).toInt; omega) (by show (f 37).toInt + 0 = (f 37).toInt + 0 + 0 + 0; omega) (by show (f 32).toInt + 0 = (f 32).toInt + 0 + 0 + 0; omega) (by show (f 5).toInt + 0 = y1268.toInt + -1 + 0 + 0; omega)⟩⟩⟩ : mg_good (g'1307 34) (g'1307 38) (g'1307 23) (((35 : Int), (0 : Int), (0 : Int), (0 : Int), []) :: (((33 : Int), (1 : Int), z826.toInt, (0 : Int), []) :: (((28 : Int), (0 : Int), (0 : Int), (0 : Int), []) :: gs))) (z1295.toInt) ((f 20).toInt) ((f 37).toInt) ((f 32).toInt) (y1268.toInt))
                    · exact ⟨(by show 0 ≤ z1267.toInt; omega), (by show z1267.toInt ≤ (f 0).toInt; omega), (by show (f 0).toInt ≤ 512; omega), (by show 0 ≤ (f 24).toInt; omega), (by show (f 24).toInt + (f 20).toInt + mg_p1 (((35 : Int), (0 : Int), (0 : Int), (0 : Int), []) :: (((33 : Int), (1 : Int), z826.toInt, (0 : Int), []) :: (((28 : Int), (0 : Int), (0 : Int), (0 : Int), []) :: gs))) ≤ 4 * z1267.toInt; omega), (by show (f 20).toInt ≤ z1267.toInt; omega), (by show z1295.toInt + mg_p2 (((35 : Int), (0 : Int), (0 : Int), (0 : Int), []) :: (((33 : Int), (1 : Int), z826.toInt, (0 : Int), []) :: (((28 : Int), (0 : Int), (0 : Int), (0 : Int), []) :: gs))) ≤ z1267.toInt; omega), (by show mg_p3 (((35 : Int), (0 : Int), (0 : Int), (0 : Int), []) :: (((33 : Int), (1 : Int), z826.toInt, (0 : Int), []) :: (((28 : Int), (0 : Int), (0 : Int), (0 : Int), []) :: gs))) ≤ 20 * z1267.toInt + 20; omega), (by show 0 ≤ z1284.toInt; omega), (by show z1284.toInt + 3 * (f 20).toInt + mg_p4 (((35 : Int), (0 : Int), (0 : Int), (0 : Int), []) :: (((33 : Int), (1 : Int), z826.toInt, (0 : Int), []) :: (((28 : Int), (0 : Int), (0 : Int), (0 : Int), []) :: gs))) ≤ 60 * z1267.toInt + 60; omega), (by show 0 ≤ o807.toInt; omega), (by show o807.toInt + 64 * mj_n (g'1307 16) z1295.toNatClampNeg 3 ≤ 64 * z1267.toInt; rw [show g'1307 16 = g'1296 16 from h1311_ 16 (by decide)]; omega), (by show 0 ≤ (f 44).toInt; omega), (by show (f 44).toInt ≤ z1267.toInt; omega), (by show 0 ≤ (f 48).toInt; omega), (by show (f 48).toInt ≤ z1267.toInt; omega), (by show 1 ≤ (f 53).toInt; omega), (by show (f 53).toInt ≤ z1267.toInt + 1; omega), (by show 0 ≤ (f 19).toInt; omega), (by show (f 19).toInt ≤ 600; omega)⟩
                    · show 100 * ((f 0).toInt - z1267.toInt) + mg_p3 (((35 : Int), (0 : Int), (0 : Int), (0 : Int), []) :: (((33 : Int), (1 : Int), z826.toInt, (0 : Int), []) :: (((28 : Int), (0 : Int), (0 : Int), (0 : Int), []) :: gs))) < 100 * ((f 0).toInt - (f 4).toInt) + (1 + mg_p3 gs); omega
                  · subst hv1278
                    replace hS1279 : MS S0 S1266 (upd (upd (upd (upd (upd (upd (upd f 4 z826) 6 a1276) 7 b1277) 10 0) 62 o807) 68 z840) 75 m809) g'1259 := hS1279
                    have hR1313 := rj_clear0 hR1264_
                    have hR1314 : RJ (upd (upd (upd (upd (upd (upd (upd f 4 z826) 6 a1276) 7 b1277) 10 0) 62 o807) 68 z840) 75 m809) g'1259 [] bc [] 0 [] := hR1313
                    show am_E _ _ _ _ [some (.ref 39), some (.int z826)] [.int 0] _ _
                    refine am_e12f hi_192_11 (by decide) ?_
                    refine am_e35 hi_192_14 ?_
                    show am_E _ _ _ _ [some (.ref 39), some (.int 1), some (.int z826)] [] _ _
                    refine am_e18 hi_212_74 ?_
                    refine am_e35 hi_212_125 ?_
                    show am_E _ _ _ _ [some (.ref 39), some (.int r2), some (.int (f 4)), some (.int r851)] [] _ _
                    refine am_e18 hi_211_211 ?_
                    refine am_e35 hi_211_249 ?_
                    show am_E _ _ _ _ [some (.ref 39), some (.int 28), some (.int on), some (.int tw)] [] _ _
                    refine am_e18 hi_181_180 ?_
                    refine am_e35 hi_181_397 ?_
                    show am_E _ _ _ _ [some (.ref 39), some (.int 28), some (.int on), some (.int tw), some (.int th)] [] _ _
                    refine am_e35 hi_180_13 ?_
                    have hRc := rj_clear0 hR1314
                    refine ⟨_, _, [], _, rfl, hS1279, Or.inr ⟨hRc, rfl, (by show 0 ≤ z826.toInt; omega), (by show z826.toInt ≤ (f 0).toInt; omega), (by show 0 ≤ (f 32).toInt; omega), (by show (f 32).toInt ≤ 63; omega), (by show 1 ≤ (f 53).toInt; omega), (by show (f 53).toInt ≤ 600; omega), (by show 0 ≤ z840.toInt; omega), (by show z840.toInt ≤ 60000; omega), (by show 0 ≤ (f 48).toInt; omega), (by show (f 48).toInt ≤ 8000; omega), (by show 0 ≤ (f 37).toInt; omega), (by show (f 37).toInt ≤ 128; omega), (by show 0 ≤ o807.toInt; omega), (by show o807.toInt ≤ 65000; omega), (by show 0 ≤ (f 19).toInt; omega), (by show (f 19).toInt ≤ 600; omega)⟩⟩
              · refine am_e13f hi_212_10 (am_cF (m := r1118.toInt) (n := (3 : Int)) rfl (by decide) c1123) ?_
                refine am_e2 (v := 39) hi_212_13 rfl ?_
                refine am_e0 hi_212_14 ?_
                refine am_e2 (v := 39) hi_212_15 rfl ?_
                refine mm_20 (v := .ref 41) hS1120 hi_212_16 rfl ?_
                refine am_e2 (v := 39) hi_212_19 rfl ?_
                refine mm_20 (v := .int z826) hS1120 hi_212_20 rfl ?_
                refine mm_25 hS1120 ma_2 hi_212_23 (by decide) (by omega) (by omega) ?_
                show am_E _ _ _ _ _ (.int (g'1110 2 z826.toNatClampNeg) :: _) _ _
                rw [show g'1110 2 = g'842 2 from h1114_ 2 (by decide), show g'842 2 = g'810 2 from h847_ 2 (by decide), show g'810 2 = g 2 from h818_ 2 (by decide)]
                show am_E _ _ _ _ [some (.ref 39), some (.int 1), some (.int z826)] [.int (g 2 z826.toNatClampNeg), .int 5, .ref 39] _ _
                refine am_e0 hi_212_24 ?_
                refine am_e0 hi_212_25 ?_
                refine am_e32n (as := [.ref 39, .int 5, .int (g 2 z826.toNatClampNeg), .int 0, .int 0]) (la := [some (.ref 39), some (.int 5), some (.int (g 2 z826.toNatClampNeg)), some (.int 0), some (.int 0)]) (rest := []) hi_212_26 (am_hd0 (M := 212) (by decide) 26) (Nat.le_of_ble_eq_true rfl) (Nat.le_of_ble_eq_true rfl) (show 5 ≤ am_P0.2.2.1 189 from by decide +kernel) rfl (am_recv_ok hS1120.fs) rfl rfl (ct_put (d := (d + 4)) hS1120 hR1115_  (by show (0 : Int) ≤ (f 32).toInt; omega) (by show (f 32).toInt ≤ (63 : Int); omega) (by show (f 53).toInt ≤ (4096 : Int); omega) (by show (0 : Int) ≤ z840.toInt; omega) (by show z840.toInt ≤ (65534 : Int); omega)) ?_
                rintro v1315 S1316 (⟨z1317, r1318, g'1319, hv1320, hS1321, hR1325, h1322, h1323, h1324⟩)
                subst hv1320
                have h1322_ : z1317.toInt = z840.toInt + 1 := h1322
                have h1323_ : r1318.toInt = z840.toInt := h1323
                have h1324_ : ∀ j, j ∉ [60, 69, 70, 71, 72, 73] → g'1319 j = g'1110 j := h1324
                replace hS1321 : MS S0 S1316 (upd (upd (upd (upd (upd f 4 z826) 10 z1109) 62 o807) 68 z1317) 75 m809) g'1319 := hS1321
                have hR1325_ : RJ (upd (upd (upd (upd (upd f 4 z826) 10 z1109) 62 o807) 68 z1317) 75 m809) g'1319 (((28 : Int), (0 : Int), (0 : Int), (0 : Int), []) :: gs) bc [] 0 (z840.toNatClampNeg :: (s808.toNatClampNeg :: [])) := hR1325
                show am_E _ _ _ _ [some (.ref 39), some (.int 1), some (.int z826)] [.int r1318] _ _
                refine am_e6i hi_212_29 ?_
                refine am_e2 (v := 39) hi_212_30 rfl ?_
                refine am_e7 hi_212_31 ?_
                refine mm_20 (v := .int z826) hS1321 hi_212_32 rfl ?_
                refine am_e0 hi_212_35 ?_
                obtain ⟨z1326, hz1326, tz1326⟩ := am_addI (x := z826) (y := 1) (m := z826.toInt) (n := (1 : Int)) rfl (by decide) (by omega) (by omega)
                refine am_e10 (z := z1326) hi_212_36 hz1326 ?_
                refine mm_21 (v := z1326) hS1321 hi_212_37 rfl (Nat.le_of_ble_eq_true rfl) ms_4 ?_
                intro S1327 hS1328
                replace hS1328 : MS S0 S1327 (upd (upd (upd (upd (upd f 4 z1326) 10 z1109) 62 o807) 68 z1317) 75 m809) g'1319 := hS1328
                have hR1329 : RJ (upd (upd (upd (upd (upd f 4 z1326) 10 z1109) 62 o807) 68 z1317) 75 m809) g'1319 (((28 : Int), (0 : Int), (0 : Int), (0 : Int), []) :: gs) bc [] 0 (z840.toNatClampNeg :: (s808.toNatClampNeg :: [])) := RJ.at hR1325_ (by show z826.toInt ≤ z1326.toInt; omega)
                refine am_e2 (v := 39) hi_212_40 rfl ?_
                refine am_e0 hi_212_41 ?_
                refine am_e1 (v := 1) hi_212_42 rfl ?_
                refine am_e10 (z := 2) hi_212_43 (by decide) ?_
                refine am_e0 hi_212_44 ?_
                refine am_e1 (v := z826) hi_212_45 rfl ?_
                refine am_e32w (as := [.ref 39, .int 2, .int 0, .int z826]) (la := [some (.ref 39), some (.int 2), some (.int 0), some (.int z826), none]) (rest := []) hi_212_46 (am_hd0 (M := 212) (by decide) 46) (Nat.le_of_ble_eq_true rfl) (Nat.le_of_ble_eq_true rfl) (show 4 ≤ am_P0.2.2.1 213 from by decide +kernel) rfl (am_recv_ok hS1328.fs) rfl rfl ?_
                refine am_e2 (v := 39) hi_213_0 rfl ?_
                refine am_e0 hi_213_1 ?_
                refine am_e1 (v := 2) hi_213_3 rfl ?_
                refine am_e1 (v := 0) hi_213_4 rfl ?_
                refine am_e0 hi_213_5 ?_
                refine am_e10 (z := 2) hi_213_6 (by decide) ?_
                refine am_e1 (v := z826) hi_213_7 rfl ?_
                refine am_e32n (as := [.ref 39, .int 13, .int 2, .int 2, .int z826]) (la := [some (.ref 39), some (.int 13), some (.int 2), some (.int 2), some (.int z826)]) (rest := []) hi_213_8 (am_hd0 (M := 213) (by decide) 8) (Nat.le_of_ble_eq_true rfl) (Nat.le_of_ble_eq_true rfl) (show 5 ≤ am_P0.2.2.1 189 from by decide +kernel) rfl (am_recv_ok hS1328.fs) rfl rfl (ct_put (d := (d + 3)) hS1328 hR1329  (by show (0 : Int) ≤ (f 32).toInt; omega) (by show (f 32).toInt ≤ (63 : Int); omega) (by show (f 53).toInt ≤ (4096 : Int); omega) (by show (0 : Int) ≤ z1317.toInt; omega) (by show z1317.toInt ≤ (65534 : Int); omega)) ?_
                rintro v1330 S1331 (⟨z1332, r1333, g'1334, hv1335, hS1336, hR1340, h1337, h1338, h1339⟩)
                subst hv1335
                have h1337_ : z1332.toInt = z1317.toInt + 1 := h1337
                have h1338_ : r1333.toInt = z1317.toInt := h1338
                have h1339_ : ∀ j, j ∉ [60, 69, 70, 71, 72, 73] → g'1334 j = g'1319 j := h1339
                replace hS1336 : MS S0 S1331 (upd (upd (upd (upd (upd f 4 z1326) 10 z1109) 62 o807) 68 z1332) 75 m809) g'1334 := hS1336
                have hR1340_ : RJ (upd (upd (upd (upd (upd f 4 z1326) 10 z1109) 62 o807) 68 z1332) 75 m809) g'1334 (((28 : Int), (0 : Int), (0 : Int), (0 : Int), []) :: gs) bc [] 0 (z1317.toNatClampNeg :: (z840.toNatClampNeg :: (s808.toNatClampNeg :: []))) := hR1340
                show am_E _ _ _ _ [some (.ref 39), some (.int 2), some (.int 0), some (.int z826), none] [.int r1333] _ _
                refine am_e3 (ls' := [some (.ref 39), some (.int 2), some (.int 0), some (.int z826), some (.int r1333)]) hi_213_11 (Nat.le_of_ble_eq_true rfl) rfl ?_
                refine am_e2 (v := 39) hi_213_13 rfl ?_
                refine am_e7 hi_213_14 ?_
                refine mm_20 (v := .int (f 15)) hS1336 hi_213_15 rfl ?_
                refine am_e0 hi_213_18 ?_
                obtain ⟨z1341, hz1341, tz1341⟩ := am_subI (x := f 15) (y := 1) (m := (f 15).toInt) (n := (1 : Int)) rfl (by decide) (by omega) (by omega)
                refine am_e10 (z := z1341) hi_213_19 hz1341 ?_
                refine mm_21 (v := z1341) hS1336 hi_213_20 rfl (Nat.le_of_ble_eq_true rfl) ms_15 ?_
                intro S1342 hS1343
                replace hS1343 : MS S0 S1342 (upd (upd (upd (upd (upd (upd f 4 z1326) 10 z1109) 15 z1341) 62 o807) 68 z1332) 75 m809) g'1334 := hS1343
                have hp1344 : mj_n (g'810 16) (f 15).toNatClampNeg 3 = mj_n (g'810 16) z1341.toNatClampNeg 3 + if (g'810 16 z1341.toNatClampNeg).toInt = 3 then 1 else 0 := mj_pop (by rw [cl_toNat, cl_toNat]; omega)
                have hp13441 : mj_n (g'810 16) z1341.toNatClampNeg 3 ≤ mj_n (g'810 16) (f 15).toNatClampNeg 3 := by rw [hp1344]; split <;> omega
                have hp13442 : (g'810 16 z1341.toNatClampNeg).toInt = 3 → mj_n (g'810 16) z1341.toNatClampNeg 3 + 1 ≤ mj_n (g'810 16) (f 15).toNatClampNeg 3 := fun q => by rw [hp1344, if_pos q]; exact Int.le_refl _
                refine am_e2 (v := 39) hi_213_23 rfl ?_
                refine am_e0 hi_213_24 ?_
                refine am_e1 (v := r1333) hi_213_25 rfl ?_
                refine am_e1 (v := z826) hi_213_27 rfl ?_
                refine am_e32n (as := [.ref 39, .int 1, .int r1333, .int z826]) (la := [some (.ref 39), some (.int 1), some (.int r1333), some (.int z826)]) (rest := []) hi_213_28 (am_hd0 (M := 213) (by decide) 28) (Nat.le_of_ble_eq_true rfl) (Nat.le_of_ble_eq_true rfl) (show 4 ≤ am_P0.2.2.1 190 from by decide +kernel) rfl (am_recv_ok hS1343.fs) rfl rfl (ct_value (d := (d + 3)) hS1343 hR1340_ (fun h => absurd h (by decide)) (fun _ => ⟨by omega, by omega⟩) (by show (0 : Int) ≤ z1341.toInt; omega) (by show z1341.toInt ≤ (32767 : Int); omega)) ?_
                rintro v1345 S1346 (⟨z1347, g'1348, hv1349, hS1350, hR1355, h1351, h1352, h1353, h1354⟩)
                subst hv1349
                have h1351_ : z1347.toInt = z1341.toInt + 1 := h1351
                have h1352_ : ∀ j, j ∉ [16, 17, 18] → g'1348 j = g'1334 j := h1352
                have h1353_ : mj_n (g'1348 16) z1347.toNatClampNeg 3 ≤ mj_n (g'810 16) z1341.toNatClampNeg 3 + 1 := by rw [show g'1334 16 = g'1319 16 from h1339_ 16 (by decide), show g'1319 16 = g'1110 16 from h1324_ 16 (by decide), show g'1110 16 = g'842 16 from h1114_ 16 (by decide), show g'842 16 = g'810 16 from h847_ 16 (by decide)] at h1353; exact h1353
                have h1354_ : (1 : Int) = 3 ∨ mj_n (g'1348 16) z1347.toNatClampNeg 3 ≤ mj_n (g'810 16) z1341.toNatClampNeg 3 := by rw [show g'1334 16 = g'1319 16 from h1339_ 16 (by decide), show g'1319 16 = g'1110 16 from h1324_ 16 (by decide), show g'1110 16 = g'842 16 from h1114_ 16 (by decide), show g'842 16 = g'810 16 from h847_ 16 (by decide)] at h1354; exact h1354
                replace hS1350 : MS S0 S1346 (upd (upd (upd (upd (upd (upd f 4 z1326) 10 z1109) 15 z1347) 62 o807) 68 z1332) 75 m809) g'1348 := hS1350
                have hR1355_ : RJ (upd (upd (upd (upd (upd (upd f 4 z1326) 10 z1109) 15 z1347) 62 o807) 68 z1332) 75 m809) g'1348 (((28 : Int), (0 : Int), (0 : Int), (0 : Int), []) :: gs) bc [] 0 (z1317.toNatClampNeg :: (z840.toNatClampNeg :: (s808.toNatClampNeg :: []))) := hR1355
                show am_E _ _ _ _ [some (.ref 39), some (.int 2), some (.int 0), some (.int z826), some (.int r1333)] [] _ _
                refine am_e35 hi_213_31 ?_
                show am_E _ _ _ _ [some (.ref 39), some (.int 1), some (.int z826)] [] _ _
                refine am_e18 hi_212_49 ?_
                refine am_e35 hi_212_125 ?_
                show am_E _ _ _ _ [some (.ref 39), some (.int r2), some (.int (f 4)), some (.int r851)] [] _ _
                refine am_e18 hi_211_211 ?_
                refine am_e35 hi_211_249 ?_
                show am_E _ _ _ _ [some (.ref 39), some (.int 28), some (.int on), some (.int tw)] [] _ _
                refine am_e18 hi_181_180 ?_
                refine am_e35 hi_181_397 ?_
                show am_E _ _ _ _ [some (.ref 39), some (.int 28), some (.int on), some (.int tw), some (.int th)] [] _ _
                refine am_e35 hi_180_13 ?_
                have q1 : mg_p1 (((28 : Int), (0 : Int), (0 : Int), (0 : Int), []) :: gs) = 0 + (mg_p1 gs) := rfl
                have q2 : mg_p2 (((28 : Int), (0 : Int), (0 : Int), (0 : Int), []) :: gs) = 0 + (mg_p2 gs) := rfl
                have q3 : mg_p3 (((28 : Int), (0 : Int), (0 : Int), (0 : Int), []) :: gs) = 1 + (mg_p3 gs) := rfl
                have q4 : mg_p4 (((28 : Int), (0 : Int), (0 : Int), (0 : Int), []) :: gs) = 0 + (mg_p4 gs) := rfl
                refine ⟨_, _, _, bc, rfl, hS1350, Or.inl ⟨⟨(RJ.fewer (pj' := []) hR1355_ (fun _ h => nomatch h)), ?_, ?_⟩, rfl, ?_⟩⟩
                · exact (⟨⟨(show mg_k 28 from by decide), (show (1 : Int) ≤ z1347.toInt from by omega), (show 0 ≤ (f 20).toInt from by omega), (show 1 ≤ (f 37).toInt from by omega), (show 0 ≤ (f 32).toInt from by omega), (show (f 32).toInt ≤ (f 5).toInt from by omega), (show (f 5).toInt ≤ 48 from by omega), (show (f 37).toInt ≤ 2 * ((f 5).toInt) + 2 from by omega), trivial⟩, mg_cast (mg_good_ext _ _ _ _ _ _ (fun i _ => by show g'1348 34 i = g 34 i; rw [show g'1348 34 = g'1334 34 from h1352_ 34 (by decide), show g'1334 34 = g'1319 34 from h1339_ 34 (by decide), show g'1319 34 = g'1110 34 from h1324_ 34 (by decide), show g'1110 34 = g'842 34 from h1114_ 34 (by decide), show g'842 34 = g'810 34 from h847_ 34 (by decide), show g'810 34 = g 34 from h818_ 34 (by decide)]) (fun i _ => by show g'1348 38 i = g 38 i; rw [show g'1348 38 = g'1334 38 from h1352_ 38 (by decide), show g'1334 38 = g'1319 38 from h1339_ 38 (by decide), show g'1319 38 = g'1110 38 from h1324_ 38 (by decide), show g'1110 38 = g'842 38 from h1114_ 38 (by decide), show g'842 38 = g'810 38 from h847_ 38 (by decide), show g'810 38 = g 38 from h818_ 38 (by decide)]) (fun i _ => by show g'1348 23 i = g 23 i; rw [show g'1348 23 = g'1334 23 from h1352_ 23 (by decide), show g'1334 23 = g'1319 23 from h1339_ 23 (by decide), show g'1319 23 = g'1110 23 from h1324_ 23 (by decide), show g'1110 23 = g'842 23 from h1114_ 23 (by decide), show g'842 23 = g'810 23 from h847_ 23 (by decide), show g'810 23 = g 23 from h818_ 23 (by decide)]) hrest) (by show (f 15).toInt + 0 = z1347.toInt + 0; omega) (by show (f 20).toInt = (f 20).toInt; omega) (by show (f 37).toInt + 0 = (f 37).toInt + 0; omega) (by show (f 32).toInt + 0 = (f 32).toInt + 0; omega) (by show (f 5).toInt + 0 = (f 5).toInt + 0; omega)⟩ : mg_good (g'1348 34) (g'1348 38) (g'1348 23) (((28 : Int), (0 : Int), (0 : Int), (0 : Int), []) :: gs) (z1347.toInt) ((f 20).toInt) ((f 37).toInt) ((f 32).toInt) ((f 5).toInt))
                · exact ⟨(by show 0 ≤ z1326.toInt; omega), (by show z1326.toInt ≤ (f 0).toInt; omega), (by show (f 0).toInt ≤ 512; omega), (by show 0 ≤ (f 24).toInt; omega), (by show (f 24).toInt + (f 20).toInt + mg_p1 (((28 : Int), (0 : Int), (0 : Int), (0 : Int), []) :: gs) ≤ 4 * z1326.toInt; omega), (by show (f 20).toInt ≤ z1326.toInt; omega), (by show z1347.toInt + mg_p2 (((28 : Int), (0 : Int), (0 : Int), (0 : Int), []) :: gs) ≤ z1326.toInt; omega), (by show mg_p3 (((28 : Int), (0 : Int), (0 : Int), (0 : Int), []) :: gs) ≤ 20 * z1326.toInt + 20; omega), (by show 0 ≤ z1332.toInt; omega), (by show z1332.toInt + 3 * (f 20).toInt + mg_p4 (((28 : Int), (0 : Int), (0 : Int), (0 : Int), []) :: gs) ≤ 60 * z1326.toInt + 60; omega), (by show 0 ≤ o807.toInt; omega), (by show o807.toInt + 64 * mj_n (g'1348 16) z1347.toNatClampNeg 3 ≤ 64 * z1326.toInt; omega), (by show 0 ≤ (f 44).toInt; omega), (by show (f 44).toInt ≤ z1326.toInt; omega), (by show 0 ≤ (f 48).toInt; omega), (by show (f 48).toInt ≤ z1326.toInt; omega), (by show 1 ≤ (f 53).toInt; omega), (by show (f 53).toInt ≤ z1326.toInt + 1; omega), (by show 0 ≤ (f 19).toInt; omega), (by show (f 19).toInt ≤ 600; omega)⟩
                · show 100 * ((f 0).toInt - z1326.toInt) + mg_p3 (((28 : Int), (0 : Int), (0 : Int), (0 : Int), []) :: gs) < 100 * ((f 0).toInt - (f 4).toInt) + (1 + mg_p3 gs); omega
            · refine am_e13f hi_211_180 (am_cF (m := r851.toInt) (n := (3 : Int)) rfl (by decide) c1106) ?_
              refine am_e1 (v := r851) hi_211_183 rfl ?_
              refine am_e0 hi_211_184 ?_
              by_cases c1356 : r851.toInt = (62 : Int)
              · refine am_e13t hi_211_186 (am_cT (m := r851.toInt) (n := (62 : Int)) rfl (by decide) c1356) ?_
                refine am_e2 (v := 39) hi_211_197 rfl ?_
                refine am_e0 hi_211_198 ?_
                refine am_e0 hi_211_200 ?_
                refine am_e0 hi_211_201 ?_
                refine am_e0 hi_211_202 ?_
                refine am_e32n (as := [.ref 39, .int 28, .int 0, .int 0, .int 0]) (la := [some (.ref 39), some (.int 28), some (.int 0), some (.int 0), some (.int 0)]) (rest := []) hi_211_203 (am_hd0 (M := 211) (by decide) 203) (Nat.le_of_ble_eq_true rfl) (Nat.le_of_ble_eq_true rfl) (show 5 ≤ am_P0.2.2.1 179 from by decide +kernel) rfl (am_recv_ok hS853.fs) rfl rfl (ct_pile (d := (d + 5)) hS853 hR848_ (mj_e_plain (by decide)) (by show (0 : Int) ≤ (f 10).toInt; omega) (by show (f 10).toInt ≤ (65535 : Int); omega)) ?_
                rintro v1357 S1358 (⟨z1359, g'1360, hv1361, hS1362, hR1365, h1363, h1364⟩)
                subst hv1361
                have h1363_ : z1359.toInt = (f 10).toInt + 1 := h1363
                have h1364_ : ∀ j, j ∉ [11, 12, 13, 14] → g'1360 j = g'842 j := h1364
                replace hS1362 : MS S0 S1358 (upd (upd (upd (upd (upd f 4 z826) 10 z1359) 62 o807) 68 z840) 75 m809) g'1360 := hS1362
                have hR1365_ : RJ (upd (upd (upd (upd (upd f 4 z826) 10 z1359) 62 o807) 68 z840) 75 m809) g'1360 (((28 : Int), (0 : Int), (0 : Int), (0 : Int), []) :: gs) bc [] 0 (s808.toNatClampNeg :: []) := hR1365
                show am_E _ _ _ _ [some (.ref 39), some (.int r2), some (.int (f 4)), some (.int r851)] [] _ _
                refine am_e2 (v := 39) hi_211_206 rfl ?_
                refine am_e0 hi_211_207 ?_
                refine am_e32w (as := [.ref 39, .int 1]) (la := [some (.ref 39), some (.int 1), none]) (rest := []) hi_211_208 (am_hd0 (M := 211) (by decide) 208) (Nat.le_of_ble_eq_true rfl) (Nat.le_of_ble_eq_true rfl) (show 2 ≤ am_P0.2.2.1 212 from by decide +kernel) rfl (am_recv_ok hS1362.fs) rfl rfl ?_
                refine am_e2 (v := 39) hi_212_0 rfl ?_
                refine mm_20 (v := .int z826) hS1362 hi_212_1 rfl ?_
                refine am_e3 (ls' := [some (.ref 39), some (.int 1), some (.int z826)]) hi_212_4 (Nat.le_of_ble_eq_true rfl) rfl ?_
                refine am_e2 (v := 39) hi_212_5 rfl ?_
                refine am_e32n (as := [.ref 39]) (la := [some (.ref 39)]) (rest := []) hi_212_6 (am_hd0 (M := 212) (by decide) 6) (Nat.le_of_ble_eq_true rfl) (Nat.le_of_ble_eq_true rfl) (show 1 ≤ am_P0.2.2.1 183 from by decide +kernel) rfl (am_recv_ok hS1362.fs) rfl rfl (ct_next (d := (d + 3)) hS1362   (by show (0 : Int) ≤ z826.toInt; omega) (by show (f 0).toInt ≤ (16384 : Int); omega)) ?_
                rintro v1366 S1367 (⟨r1368, hv1369, hS1370, h1371⟩)
                subst hv1369
                have h1371_ : z826.toInt < (f 0).toInt ∨ r1368.toInt = (-1 : Int) := h1371
                show am_E _ _ _ _ [some (.ref 39), some (.int 1), some (.int z826)] [.int r1368] _ _
                refine am_e0 hi_212_9 ?_
                by_cases c1373 : ¬ r1368.toInt = (3 : Int)
                · refine am_e13t hi_212_10 (am_cT (m := r1368.toInt) (n := (3 : Int)) rfl (by decide) c1373) ?_
                  refine am_e2 (v := 39) hi_212_52 rfl ?_
                  refine am_e32n (as := [.ref 39]) (la := [some (.ref 39)]) (rest := []) hi_212_53 (am_hd0 (M := 212) (by decide) 53) (Nat.le_of_ble_eq_true rfl) (Nat.le_of_ble_eq_true rfl) (show 1 ≤ am_P0.2.2.1 183 from by decide +kernel) rfl (am_recv_ok hS1370.fs) rfl rfl (ct_next (d := (d + 3)) hS1370   (by show (0 : Int) ≤ z826.toInt; omega) (by show (f 0).toInt ≤ (16384 : Int); omega)) ?_
                  rintro v1374 S1375 (⟨r1376, hv1377, hS1378, h1379⟩)
                  subst hv1377
                  have h1379_ : z826.toInt < (f 0).toInt ∨ r1376.toInt = (-1 : Int) := h1379
                  show am_E _ _ _ _ [some (.ref 39), some (.int 1), some (.int z826)] [.int r1376] _ _
                  refine am_e0 hi_212_56 ?_
                  by_cases c1381 : ¬ r1376.toInt = (62 : Int)
                  · refine am_e13t hi_212_58 (am_cT (m := r1376.toInt) (n := (62 : Int)) rfl (by decide) c1381) ?_
                    refine am_e2 (v := 39) hi_212_77 rfl ?_
                    refine am_e0 hi_212_78 ?_
                    refine am_e32n (as := [.ref 39, .int 60]) (la := [some (.ref 39), some (.int 60)]) (rest := []) hi_212_80 (am_hd0 (M := 212) (by decide) 80) (Nat.le_of_ble_eq_true rfl) (Nat.le_of_ble_eq_true rfl) (show 2 ≤ am_P0.2.2.1 193 from by decide +kernel) rfl (am_recv_ok hS1378.fs) rfl rfl (ct_enter (d := (d + 2)) hS1378   (by show (0 : Int) ≤ z826.toInt; omega) (by show (f 0).toInt ≤ (16384 : Int); omega) (by show (0 : Int) ≤ (60 : Int); omega) (by show (0 : Int) ≤ (f 5).toInt; omega) (by show (f 5).toInt ≤ (48 : Int); omega)) ?_
                    rintro v1382 S1383 (⟨z1384, y1385, hv1386, hS1387, h1388, h1389, h1390, h1391⟩ | ⟨a1393, b1394, hv1395, hS1396⟩)
                    · subst hv1386
                      have h1388_ : z1384.toInt = z826.toInt + 1 := h1388
                      have h1389_ : z826.toInt < (f 0).toInt := h1389
                      have h1390_ : y1385.toInt = (f 5).toInt + 1 := h1390
                      have h1391_ : y1385.toInt ≤ (48 : Int) := h1391
                      replace hS1387 : MS S0 S1383 (upd (upd (upd (upd (upd (upd f 4 z1384) 5 y1385) 10 z1359) 62 o807) 68 z840) 75 m809) g'1360 := hS1387
                      have hR1398 : RJ (upd (upd (upd (upd (upd (upd f 4 z1384) 5 y1385) 10 z1359) 62 o807) 68 z840) 75 m809) g'1360 (((28 : Int), (0 : Int), (0 : Int), (0 : Int), []) :: gs) bc [] 0 (s808.toNatClampNeg :: []) := RJ.at hR1365_ (by show z826.toInt ≤ z1384.toInt; omega)
                      show am_E _ _ _ _ [some (.ref 39), some (.int 1), some (.int z826)] [.int 1] _ _
                      refine am_e12f hi_212_83 (by decide) ?_
                      refine am_e2 (v := 39) hi_212_86 rfl ?_
                      refine am_e32n (as := [.ref 39]) (la := [some (.ref 39)]) (rest := []) hi_212_87 (am_hd0 (M := 212) (by decide) 87) (Nat.le_of_ble_eq_true rfl) (Nat.le_of_ble_eq_true rfl) (show 1 ≤ am_P0.2.2.1 183 from by decide +kernel) rfl (am_recv_ok hS1387.fs) rfl rfl (ct_next (d := (d + 3)) hS1387   (by show (0 : Int) ≤ z1384.toInt; omega) (by show (f 0).toInt ≤ (16384 : Int); omega)) ?_
                      rintro v1399 S1400 (⟨r1401, hv1402, hS1403, h1404⟩)
                      subst hv1402
                      have h1404_ : z1384.toInt < (f 0).toInt ∨ r1401.toInt = (-1 : Int) := h1404
                      show am_E _ _ _ _ [some (.ref 39), some (.int 1), some (.int z826)] [.int r1401] _ _
                      refine am_e0 hi_212_90 ?_
                      by_cases c1406 : ¬ r1401.toInt = (61 : Int)
                      · refine am_e13t hi_212_92 (am_cT (m := r1401.toInt) (n := (61 : Int)) rfl (by decide) c1406) ?_
                        refine am_e2 (v := 39) hi_212_112 rfl ?_
                        refine am_e0 hi_212_113 ?_
                        refine am_e1 (v := 1) hi_212_115 rfl ?_
                        refine am_e1 (v := z826) hi_212_116 rfl ?_
                        refine am_e0 hi_212_117 ?_
                        refine am_e32n (as := [.ref 39, .int 32, .int 1, .int z826, .int 0]) (la := [some (.ref 39), some (.int 32), some (.int 1), some (.int z826), some (.int 0)]) (rest := []) hi_212_118 (am_hd0 (M := 212) (by decide) 118) (Nat.le_of_ble_eq_true rfl) (Nat.le_of_ble_eq_true rfl) (show 5 ≤ am_P0.2.2.1 179 from by decide +kernel) rfl (am_recv_ok hS1403.fs) rfl rfl (ct_pile (d := (d + 4)) hS1403 hR1398 (mj_e_plain (by decide)) (by show (0 : Int) ≤ z1359.toInt; omega) (by show z1359.toInt ≤ (65535 : Int); omega)) ?_
                        rintro v1407 S1408 (⟨z1409, g'1410, hv1411, hS1412, hR1415, h1413, h1414⟩)
                        subst hv1411
                        have h1413_ : z1409.toInt = z1359.toInt + 1 := h1413
                        have h1414_ : ∀ j, j ∉ [11, 12, 13, 14] → g'1410 j = g'1360 j := h1414
                        replace hS1412 : MS S0 S1408 (upd (upd (upd (upd (upd (upd f 4 z1384) 5 y1385) 10 z1409) 62 o807) 68 z840) 75 m809) g'1410 := hS1412
                        have hR1415_ : RJ (upd (upd (upd (upd (upd (upd f 4 z1384) 5 y1385) 10 z1409) 62 o807) 68 z840) 75 m809) g'1410 (((32 : Int), (1 : Int), z826.toInt, (0 : Int), []) :: (((28 : Int), (0 : Int), (0 : Int), (0 : Int), []) :: gs)) bc [] 0 (s808.toNatClampNeg :: []) := hR1415
                        show am_E _ _ _ _ [some (.ref 39), some (.int 1), some (.int z826)] [] _ _
                        refine am_e2 (v := 39) hi_212_121 rfl ?_
                        refine am_e32w (as := [.ref 39]) (la := [some (.ref 39)]) (rest := []) hi_212_122 (am_hd0 (M := 212) (by decide) 122) (Nat.le_of_ble_eq_true rfl) (Nat.le_of_ble_eq_true rfl) (show 1 ≤ am_P0.2.2.1 214 from by decide +kernel) rfl (am_recv_ok hS1412.fs) rfl rfl ?_
                        refine am_e2 (v := 39) hi_214_0 rfl ?_
                        refine am_e0 hi_214_1 ?_
                        refine am_e0 hi_214_3 ?_
                        refine am_e0 hi_214_4 ?_
                        refine am_e0 hi_214_5 ?_
                        refine am_e32n (as := [.ref 39, .int 34, .int 1, .int 0, .int 0]) (la := [some (.ref 39), some (.int 34), some (.int 1), some (.int 0), some (.int 0)]) (rest := []) hi_214_6 (am_hd0 (M := 214) (by decide) 6) (Nat.le_of_ble_eq_true rfl) (Nat.le_of_ble_eq_true rfl) (show 5 ≤ am_P0.2.2.1 179 from by decide +kernel) rfl (am_recv_ok hS1412.fs) rfl rfl (ct_pile (d := (d + 3)) hS1412 hR1415_ (mj_e_plain (by decide)) (by show (0 : Int) ≤ z1409.toInt; omega) (by show z1409.toInt ≤ (65535 : Int); omega)) ?_
                        rintro v1416 S1417 (⟨z1418, g'1419, hv1420, hS1421, hR1424, h1422, h1423⟩)
                        subst hv1420
                        have h1422_ : z1418.toInt = z1409.toInt + 1 := h1422
                        have h1423_ : ∀ j, j ∉ [11, 12, 13, 14] → g'1419 j = g'1410 j := h1423
                        replace hS1421 : MS S0 S1417 (upd (upd (upd (upd (upd (upd f 4 z1384) 5 y1385) 10 z1418) 62 o807) 68 z840) 75 m809) g'1419 := hS1421
                        have hR1424_ : RJ (upd (upd (upd (upd (upd (upd f 4 z1384) 5 y1385) 10 z1418) 62 o807) 68 z840) 75 m809) g'1419 (((34 : Int), (1 : Int), (0 : Int), (0 : Int), []) :: (((32 : Int), (1 : Int), z826.toInt, (0 : Int), []) :: (((28 : Int), (0 : Int), (0 : Int), (0 : Int), []) :: gs))) bc [] 0 (s808.toNatClampNeg :: []) := hR1424
                        show am_E _ _ _ _ [some (.ref 39)] [] _ _
                        refine am_e2 (v := 39) hi_214_9 rfl ?_
                        refine am_e0 hi_214_10 ?_
                        refine am_e32w (as := [.ref 39, .int 0]) (la := [some (.ref 39), some (.int 0)]) (rest := []) hi_214_11 (am_hd0 (M := 214) (by decide) 11) (Nat.le_of_ble_eq_true rfl) (Nat.le_of_ble_eq_true rfl) (show 2 ≤ am_P0.2.2.1 186 from by decide +kernel) rfl (am_recv_ok hS1421.fs) rfl rfl ?_
                        refine am_e2 (v := 39) hi_186_0 rfl ?_
                        refine am_e0 hi_186_1 ?_
                        refine am_e1 (v := 0) hi_186_3 rfl ?_
                        refine am_e0 hi_186_4 ?_
                        refine am_e0 hi_186_5 ?_
                        refine am_e32n (as := [.ref 39, .int 23, .int 0, .int 0, .int 0]) (la := [some (.ref 39), some (.int 23), some (.int 0), some (.int 0), some (.int 0)]) (rest := []) hi_186_6 (am_hd0 (M := 186) (by decide) 6) (Nat.le_of_ble_eq_true rfl) (Nat.le_of_ble_eq_true rfl) (show 5 ≤ am_P0.2.2.1 179 from by decide +kernel) rfl (am_recv_ok hS1421.fs) rfl rfl (ct_pile (d := (d + 2)) hS1421 hR1424_ (mj_e_plain (by decide)) (by show (0 : Int) ≤ z1418.toInt; omega) (by show z1418.toInt ≤ (65535 : Int); omega)) ?_
                        rintro v1425 S1426 (⟨z1427, g'1428, hv1429, hS1430, hR1433, h1431, h1432⟩)
                        subst hv1429
                        have h1431_ : z1427.toInt = z1418.toInt + 1 := h1431
                        have h1432_ : ∀ j, j ∉ [11, 12, 13, 14] → g'1428 j = g'1419 j := h1432
                        replace hS1430 : MS S0 S1426 (upd (upd (upd (upd (upd (upd f 4 z1384) 5 y1385) 10 z1427) 62 o807) 68 z840) 75 m809) g'1428 := hS1430
                        have hR1433_ : RJ (upd (upd (upd (upd (upd (upd f 4 z1384) 5 y1385) 10 z1427) 62 o807) 68 z840) 75 m809) g'1428 (((23 : Int), (0 : Int), (0 : Int), (0 : Int), []) :: (((34 : Int), (1 : Int), (0 : Int), (0 : Int), []) :: (((32 : Int), (1 : Int), z826.toInt, (0 : Int), []) :: (((28 : Int), (0 : Int), (0 : Int), (0 : Int), []) :: gs)))) bc [] 0 (s808.toNatClampNeg :: []) := hR1433
                        show am_E _ _ _ _ [some (.ref 39), some (.int 0)] [] _ _
                        refine am_e35 hi_186_9 ?_
                        show am_E _ _ _ _ [some (.ref 39)] [] _ _
                        refine am_e35 hi_214_14 ?_
                        show am_E _ _ _ _ [some (.ref 39), some (.int 1), some (.int z826)] [] _ _
                        refine am_e35 hi_212_125 ?_
                        show am_E _ _ _ _ [some (.ref 39), some (.int r2), some (.int (f 4)), some (.int r851)] [] _ _
                        refine am_e18 hi_211_211 ?_
                        refine am_e35 hi_211_249 ?_
                        show am_E _ _ _ _ [some (.ref 39), some (.int 28), some (.int on), some (.int tw)] [] _ _
                        refine am_e18 hi_181_180 ?_
                        refine am_e35 hi_181_397 ?_
                        show am_E _ _ _ _ [some (.ref 39), some (.int 28), some (.int on), some (.int tw), some (.int th)] [] _ _
                        refine am_e35 hi_180_13 ?_
                        have q1 : mg_p1 (((23 : Int), (0 : Int), (0 : Int), (0 : Int), []) :: (((34 : Int), (1 : Int), (0 : Int), (0 : Int), []) :: (((32 : Int), (1 : Int), z826.toInt, (0 : Int), []) :: (((28 : Int), (0 : Int), (0 : Int), (0 : Int), []) :: gs)))) = 0 + (0 + (0 + (0 + (mg_p1 gs)))) := rfl
                        have q2 : mg_p2 (((23 : Int), (0 : Int), (0 : Int), (0 : Int), []) :: (((34 : Int), (1 : Int), (0 : Int), (0 : Int), []) :: (((32 : Int), (1 : Int), z826.toInt, (0 : Int), []) :: (((28 : Int), (0 : Int), (0 : Int), (0 : Int), []) :: gs)))) = 0 + (((1 : Int) - 1) + (0 + (0 + (mg_p2 gs)))) := rfl
                        have q3 : mg_p3 (((23 : Int), (0 : Int), (0 : Int), (0 : Int), []) :: (((34 : Int), (1 : Int), (0 : Int), (0 : Int), []) :: (((32 : Int), (1 : Int), z826.toInt, (0 : Int), []) :: (((28 : Int), (0 : Int), (0 : Int), (0 : Int), []) :: gs)))) = 1 + (1 + (1 + (1 + (mg_p3 gs)))) := rfl
                        have q4 : mg_p4 (((23 : Int), (0 : Int), (0 : Int), (0 : Int), []) :: (((34 : Int), (1 : Int), (0 : Int), (0 : Int), []) :: (((32 : Int), (1 : Int), z826.toInt, (0 : Int), []) :: (((28 : Int), (0 : Int), (0 : Int), (0 : Int), []) :: gs)))) = 0 + (0 + (0 + (0 + (mg_p4 gs)))) := rfl
                        refine ⟨_, _, _, bc, rfl, hS1430, Or.inl ⟨⟨(RJ.fewer (pj' := []) hR1433_ (fun _ h => nomatch h)), ?_, ?_⟩, rfl, ?_⟩⟩
                        · exact (⟨⟨(show mg_k 23 from by decide), (show (0 : Int) ≤ (f 15).toInt from by omega), (show 0 ≤ (f 20).toInt from by omega), (show 1 ≤ (f 37).toInt from by omega), (show 0 ≤ (f 32).toInt from by omega), (show (f 32).toInt ≤ y1385.toInt from by omega), (show y1385.toInt ≤ 48 from by omega), (show (f 37).toInt ≤ 2 * (y1385.toInt) + 2 from by omega), (show 0 ≤ (0 : Int) from by omega)⟩, ⟨⟨(show mg_k 34 from by decide), (show (1 : Int) ≤ (f 15).toInt + 1 from by omega), (show 0 ≤ (f 20).toInt from by omega), (show 1 ≤ (f 37).toInt + 0 from by omega), (show 0 ≤ (f 32).toInt + 0 from by omega), (show (f 32).toInt + 0 ≤ y1385.toInt + 0 from by omega), (show y1385.toInt + 0 ≤ 48 from by omega), (show (f 37).toInt + 0 ≤ 2 * (y1385.toInt + 0) + 2 from by omega), (show 1 ≤ (1 : Int) from by omega)⟩, ⟨⟨(show mg_k 32 from by decide), (show (2 : Int) ≤ (f 15).toInt + 1 + 0 from by omega), (show 0 ≤ (f 20).toInt from by omega), (show 1 ≤ (f 37).toInt + 0 + 0 from by omega), (show 0 ≤ (f 32).toInt + 0 + 0 from by omega), (show (f 32).toInt + 0 + 0 ≤ y1385.toInt + 0 + 0 from by omega), (show y1385.toInt + 0 + 0 ≤ 48 from by omega), (show (f 37).toInt + 0 + 0 ≤ 2 * (y1385.toInt + 0 + 0) + 2 from by omega), trivial⟩, ⟨⟨(show mg_k 28 from by decide), (show (1 : Int) ≤ (f 15).toInt + 1 + 0 + -1 from by omega), (show 0 ≤ (f 20).toInt from by omega), (show 1 ≤ (f 37).toInt + 0 + 0 + 0 from by omega), (show 0 ≤ (f 32).toInt + 0 + 0 + 0 from by omega), (show (f 32).toInt + 0 + 0 + 0 ≤ y1385.toInt + 0 + 0 + -1 from by omega), (show y1385.toInt + 0 + 0 + -1 ≤ 48 from by omega), (show (f 37).toInt + 0 + 0 + 0 ≤ 2 * (y1385.toInt + 0 + 0 + -1) + 2 from by omega), trivial⟩, mg_cast (mg_good_ext _ _ _ _ _ _ (fun i _ => by show g'1428 34 i = g 34 i; rw [show g'1428 34 = g'1419 34 from h1432_ 34 (by decide), show g'1419 34 = g'1410 34 from h1423_ 34 (by decide), show g'1410 34 = g'1360 34 from h1414_ 34 (by decide), show g'1360 34 = g'842 34 from h1364_ 34 (by decide), show g'842 34 = g'810 34 from h847_ 34 (by decide), show g'810 34 = g 34 from h818_ 34 (by decide)]) (fun i _ => by show g'1428 38 i = g 38 i; rw [show g'1428 38 = g'1419 38 from h1432_ 38 (by decide), show g'1419 38 = g'1410 38 from h1423_ 38 (by decide), show g'1410 38 = g'1360 38 from h1414_ 38 (by decide), show g'1360 38 = g'842 38 from h1364_ 38 (by decide), show g'842 38 = g'810 38 from h847_ 38 (by decide), show g'810 38 = g 38 from h818_ 38 (by decide)]) (fun i _ => by show g'1428 23 i = g 23 i; rw [show g'1428 23 = g'1419 23 from h1432_ 23 (by decide), show g'1419 23 = g'1410 23 from h1423_ 23 (by decide), show g'1410 23 = g'1360 23 from h1414_ 23 (by decide), show g'1360 23 = g'842 23 from h1364_ 23 (by decide), show g'842 23 = g'810 23 from h847_ 23 (by decide), show g'810 23 = g 23 from h818_ 23 (by decide)]) hrest) (by show (f 15).toInt + 0 = (f 15).toInt + 1 + 0 + -1 + 0; omega) (by show (f 20).toInt = (f 20).toInt; omega) (by show (f 37).toInt + 0 = (f 37).toInt + 0 + 0 + 0 + 0; omega) (by show (f 32).toInt + 0 = (f 32).toInt + 0 + 0 + 0 + 0; omega) (by show (f 5).toInt + 0 = y1385.toInt + 0 + 0 + -1 + 0; omega)⟩⟩⟩⟩ : mg_good (g'1428 34) (g'1428 38) (g'1428 23) (((23 : Int), (0 : Int), (0 : Int), (0 : Int), []) :: (((34 : Int), (1 : Int), (0 : Int), (0 : Int), []) :: (((32 : Int), (1 : Int), z826.toInt, (0 : Int), []) :: (((28 : Int), (0 : Int), (0 : Int), (0 : Int), []) :: gs)))) ((f 15).toInt) ((f 20).toInt) ((f 37).toInt) ((f 32).toInt) (y1385.toInt))
                        · exact ⟨(by show 0 ≤ z1384.toInt; omega), (by show z1384.toInt ≤ (f 0).toInt; omega), (by show (f 0).toInt ≤ 512; omega), (by show 0 ≤ (f 24).toInt; omega), (by show (f 24).toInt + (f 20).toInt + mg_p1 (((23 : Int), (0 : Int), (0 : Int), (0 : Int), []) :: (((34 : Int), (1 : Int), (0 : Int), (0 : Int), []) :: (((32 : Int), (1 : Int), z826.toInt, (0 : Int), []) :: (((28 : Int), (0 : Int), (0 : Int), (0 : Int), []) :: gs)))) ≤ 4 * z1384.toInt; omega), (by show (f 20).toInt ≤ z1384.toInt; omega), (by show (f 15).toInt + mg_p2 (((23 : Int), (0 : Int), (0 : Int), (0 : Int), []) :: (((34 : Int), (1 : Int), (0 : Int), (0 : Int), []) :: (((32 : Int), (1 : Int), z826.toInt, (0 : Int), []) :: (((28 : Int), (0 : Int), (0 : Int), (0 : Int), []) :: gs)))) ≤ z1384.toInt; omega), (by show mg_p3 (((23 : Int), (0 : Int), (0 : Int), (0 : Int), []) :: (((34 : Int), (1 : Int), (0 : Int), (0 : Int), []) :: (((32 : Int), (1 : Int), z826.toInt, (0 : Int), []) :: (((28 : Int), (0 : Int), (0 : Int), (0 : Int), []) :: gs)))) ≤ 20 * z1384.toInt + 20; omega), (by show 0 ≤ z840.toInt; omega), (by show z840.toInt + 3 * (f 20).toInt + mg_p4 (((23 : Int), (0 : Int), (0 : Int), (0 : Int), []) :: (((34 : Int), (1 : Int), (0 : Int), (0 : Int), []) :: (((32 : Int), (1 : Int), z826.toInt, (0 : Int), []) :: (((28 : Int), (0 : Int), (0 : Int), (0 : Int), []) :: gs)))) ≤ 60 * z1384.toInt + 60; omega), (by show 0 ≤ o807.toInt; omega), (by show o807.toInt + 64 * mj_n (g'1428 16) (f 15).toNatClampNeg 3 ≤ 64 * z1384.toInt; rw [show g'1428 16 = g'1419 16 from h1432_ 16 (by decide), show g'1419 16 = g'1410 16 from h1423_ 16 (by decide), show g'1410 16 = g'1360 16 from h1414_ 16 (by decide), show g'1360 16 = g'842 16 from h1364_ 16 (by decide), show g'842 16 = g'810 16 from h847_ 16 (by decide)]; omega), (by show 0 ≤ (f 44).toInt; omega), (by show (f 44).toInt ≤ z1384.toInt; omega), (by show 0 ≤ (f 48).toInt; omega), (by show (f 48).toInt ≤ z1384.toInt; omega), (by show 1 ≤ (f 53).toInt; omega), (by show (f 53).toInt ≤ z1384.toInt + 1; omega), (by show 0 ≤ (f 19).toInt; omega), (by show (f 19).toInt ≤ 600; omega)⟩
                        · show 100 * ((f 0).toInt - z1384.toInt) + mg_p3 (((23 : Int), (0 : Int), (0 : Int), (0 : Int), []) :: (((34 : Int), (1 : Int), (0 : Int), (0 : Int), []) :: (((32 : Int), (1 : Int), z826.toInt, (0 : Int), []) :: (((28 : Int), (0 : Int), (0 : Int), (0 : Int), []) :: gs)))) < 100 * ((f 0).toInt - (f 4).toInt) + (1 + mg_p3 gs); omega
                      · refine am_e13f hi_212_92 (am_cF (m := r1401.toInt) (n := (61 : Int)) rfl (by decide) c1406) ?_
                        refine am_e2 (v := 39) hi_212_95 rfl ?_
                        refine am_e0 hi_212_96 ?_
                        refine am_e32n (as := [.ref 39, .int 61]) (la := [some (.ref 39), some (.int 61)]) (rest := []) hi_212_98 (am_hd0 (M := 212) (by decide) 98) (Nat.le_of_ble_eq_true rfl) (Nat.le_of_ble_eq_true rfl) (show 2 ≤ am_P0.2.2.1 199 from by decide +kernel) rfl (am_recv_ok hS1403.fs) rfl rfl (ct_leave (d := (d + 1)) hS1403   (by show (0 : Int) ≤ z1384.toInt; omega) (by show (f 0).toInt ≤ (16384 : Int); omega) (by show (0 : Int) ≤ (61 : Int); omega) (by show (0 : Int) ≤ y1385.toInt; omega) (by show y1385.toInt ≤ (48 : Int); omega)) ?_
                        rintro v1434 S1435 (⟨z1436, y1437, hv1438, hS1439, h1440, h1441, h1442⟩ | ⟨a1444, b1445, hv1446, hS1447⟩)
                        · subst hv1438
                          have h1440_ : z1436.toInt = z1384.toInt + 1 := h1440
                          have h1441_ : z1384.toInt < (f 0).toInt := h1441
                          have h1442_ : y1437.toInt = y1385.toInt - 1 := h1442
                          replace hS1439 : MS S0 S1435 (upd (upd (upd (upd (upd (upd f 4 z1436) 5 y1437) 10 z1359) 62 o807) 68 z840) 75 m809) g'1360 := hS1439
                          have hR1449 : RJ (upd (upd (upd (upd (upd (upd f 4 z1436) 5 y1437) 10 z1359) 62 o807) 68 z840) 75 m809) g'1360 (((28 : Int), (0 : Int), (0 : Int), (0 : Int), []) :: gs) bc [] 0 (s808.toNatClampNeg :: []) := RJ.at hR1398 (by show z1384.toInt ≤ z1436.toInt; omega)
                          show am_E _ _ _ _ [some (.ref 39), some (.int 1), some (.int z826)] [.int 1] _ _
                          refine am_e6i hi_212_101 ?_
                          refine am_e2 (v := 39) hi_212_102 rfl ?_
                          refine am_e1 (v := 1) hi_212_103 rfl ?_
                          refine am_e0 hi_212_104 ?_
                          refine am_e1 (v := z826) hi_212_105 rfl ?_
                          refine am_e32w (as := [.ref 39, .int 1, .int 0, .int z826]) (la := [some (.ref 39), some (.int 1), some (.int 0), some (.int z826), none]) (rest := []) hi_212_106 (am_hd0 (M := 212) (by decide) 106) (Nat.le_of_ble_eq_true rfl) (Nat.le_of_ble_eq_true rfl) (show 4 ≤ am_P0.2.2.1 213 from by decide +kernel) rfl (am_recv_ok hS1439.fs) rfl rfl ?_
                          refine am_e2 (v := 39) hi_213_0 rfl ?_
                          refine am_e0 hi_213_1 ?_
                          refine am_e1 (v := 1) hi_213_3 rfl ?_
                          refine am_e1 (v := 0) hi_213_4 rfl ?_
                          refine am_e0 hi_213_5 ?_
                          refine am_e10 (z := 2) hi_213_6 (by decide) ?_
                          refine am_e1 (v := z826) hi_213_7 rfl ?_
                          refine am_e32n (as := [.ref 39, .int 13, .int 1, .int 2, .int z826]) (la := [some (.ref 39), some (.int 13), some (.int 1), some (.int 2), some (.int z826)]) (rest := []) hi_213_8 (am_hd0 (M := 213) (by decide) 8) (Nat.le_of_ble_eq_true rfl) (Nat.le_of_ble_eq_true rfl) (show 5 ≤ am_P0.2.2.1 189 from by decide +kernel) rfl (am_recv_ok hS1439.fs) rfl rfl (ct_put (d := (d + 3)) hS1439 hR1449  (by show (0 : Int) ≤ (f 32).toInt; omega) (by show (f 32).toInt ≤ (63 : Int); omega) (by show (f 53).toInt ≤ (4096 : Int); omega) (by show (0 : Int) ≤ z840.toInt; omega) (by show z840.toInt ≤ (65534 : Int); omega)) ?_
                          rintro v1450 S1451 (⟨z1452, r1453, g'1454, hv1455, hS1456, hR1460, h1457, h1458, h1459⟩)
                          subst hv1455
                          have h1457_ : z1452.toInt = z840.toInt + 1 := h1457
                          have h1458_ : r1453.toInt = z840.toInt := h1458
                          have h1459_ : ∀ j, j ∉ [60, 69, 70, 71, 72, 73] → g'1454 j = g'1360 j := h1459
                          replace hS1456 : MS S0 S1451 (upd (upd (upd (upd (upd (upd f 4 z1436) 5 y1437) 10 z1359) 62 o807) 68 z1452) 75 m809) g'1454 := hS1456
                          have hR1460_ : RJ (upd (upd (upd (upd (upd (upd f 4 z1436) 5 y1437) 10 z1359) 62 o807) 68 z1452) 75 m809) g'1454 (((28 : Int), (0 : Int), (0 : Int), (0 : Int), []) :: gs) bc [] 0 (z840.toNatClampNeg :: (s808.toNatClampNeg :: [])) := hR1460
                          show am_E _ _ _ _ [some (.ref 39), some (.int 1), some (.int 0), some (.int z826), none] [.int r1453] _ _
                          refine am_e3 (ls' := [some (.ref 39), some (.int 1), some (.int 0), some (.int z826), some (.int r1453)]) hi_213_11 (Nat.le_of_ble_eq_true rfl) rfl ?_
                          refine am_e2 (v := 39) hi_213_13 rfl ?_
                          refine am_e7 hi_213_14 ?_
                          refine mm_20 (v := .int (f 15)) hS1456 hi_213_15 rfl ?_
                          refine am_e0 hi_213_18 ?_
                          obtain ⟨z1461, hz1461, tz1461⟩ := am_subI (x := f 15) (y := 1) (m := (f 15).toInt) (n := (1 : Int)) rfl (by decide) (by omega) (by omega)
                          refine am_e10 (z := z1461) hi_213_19 hz1461 ?_
                          refine mm_21 (v := z1461) hS1456 hi_213_20 rfl (Nat.le_of_ble_eq_true rfl) ms_15 ?_
                          intro S1462 hS1463
                          replace hS1463 : MS S0 S1462 (upd (upd (upd (upd (upd (upd (upd f 4 z1436) 5 y1437) 10 z1359) 15 z1461) 62 o807) 68 z1452) 75 m809) g'1454 := hS1463
                          have hp1464 : mj_n (g'810 16) (f 15).toNatClampNeg 3 = mj_n (g'810 16) z1461.toNatClampNeg 3 + if (g'810 16 z1461.toNatClampNeg).toInt = 3 then 1 else 0 := mj_pop (by rw [cl_toNat, cl_toNat]; omega)
                          have hp14641 : mj_n (g'810 16) z1461.toNatClampNeg 3 ≤ mj_n (g'810 16) (f 15).toNatClampNeg 3 := by rw [hp1464]; split <;> omega
                          have hp14642 : (g'810 16 z1461.toNatClampNeg).toInt = 3 → mj_n (g'810 16) z1461.toNatClampNeg 3 + 1 ≤ mj_n (g'810 16) (f 15).toNatClampNeg 3 := fun q => by rw [hp1464, if_pos q]; exact Int.le_refl _
                          refine am_e2 (v := 39) hi_213_23 rfl ?_
                          refine am_e0 hi_213_24 ?_
                          refine am_e1 (v := r1453) hi_213_25 rfl ?_
                          refine am_e1 (v := z826) hi_213_27 rfl ?_
                          refine am_e32n (as := [.ref 39, .int 1, .int r1453, .int z826]) (la := [some (.ref 39), some (.int 1), some (.int r1453), some (.int z826)]) (rest := []) hi_213_28 (am_hd0 (M := 213) (by decide) 28) (Nat.le_of_ble_eq_true rfl) (Nat.le_of_ble_eq_true rfl) (show 4 ≤ am_P0.2.2.1 190 from by decide +kernel) rfl (am_recv_ok hS1463.fs) rfl rfl (ct_value (d := (d + 3)) hS1463 hR1460_ (fun h => absurd h (by decide)) (fun _ => ⟨by omega, by omega⟩) (by show (0 : Int) ≤ z1461.toInt; omega) (by show z1461.toInt ≤ (32767 : Int); omega)) ?_
                          rintro v1465 S1466 (⟨z1467, g'1468, hv1469, hS1470, hR1475, h1471, h1472, h1473, h1474⟩)
                          subst hv1469
                          have h1471_ : z1467.toInt = z1461.toInt + 1 := h1471
                          have h1472_ : ∀ j, j ∉ [16, 17, 18] → g'1468 j = g'1454 j := h1472
                          have h1473_ : mj_n (g'1468 16) z1467.toNatClampNeg 3 ≤ mj_n (g'810 16) z1461.toNatClampNeg 3 + 1 := by rw [show g'1454 16 = g'1360 16 from h1459_ 16 (by decide), show g'1360 16 = g'842 16 from h1364_ 16 (by decide), show g'842 16 = g'810 16 from h847_ 16 (by decide)] at h1473; exact h1473
                          have h1474_ : (1 : Int) = 3 ∨ mj_n (g'1468 16) z1467.toNatClampNeg 3 ≤ mj_n (g'810 16) z1461.toNatClampNeg 3 := by rw [show g'1454 16 = g'1360 16 from h1459_ 16 (by decide), show g'1360 16 = g'842 16 from h1364_ 16 (by decide), show g'842 16 = g'810 16 from h847_ 16 (by decide)] at h1474; exact h1474
                          replace hS1470 : MS S0 S1466 (upd (upd (upd (upd (upd (upd (upd f 4 z1436) 5 y1437) 10 z1359) 15 z1467) 62 o807) 68 z1452) 75 m809) g'1468 := hS1470
                          have hR1475_ : RJ (upd (upd (upd (upd (upd (upd (upd f 4 z1436) 5 y1437) 10 z1359) 15 z1467) 62 o807) 68 z1452) 75 m809) g'1468 (((28 : Int), (0 : Int), (0 : Int), (0 : Int), []) :: gs) bc [] 0 (z840.toNatClampNeg :: (s808.toNatClampNeg :: [])) := hR1475
                          show am_E _ _ _ _ [some (.ref 39), some (.int 1), some (.int 0), some (.int z826), some (.int r1453)] [] _ _
                          refine am_e35 hi_213_31 ?_
                          show am_E _ _ _ _ [some (.ref 39), some (.int 1), some (.int z826)] [] _ _
                          refine am_e18 hi_212_109 ?_
                          refine am_e35 hi_212_125 ?_
                          show am_E _ _ _ _ [some (.ref 39), some (.int r2), some (.int (f 4)), some (.int r851)] [] _ _
                          refine am_e18 hi_211_211 ?_
                          refine am_e35 hi_211_249 ?_
                          show am_E _ _ _ _ [some (.ref 39), some (.int 28), some (.int on), some (.int tw)] [] _ _
                          refine am_e18 hi_181_180 ?_
                          refine am_e35 hi_181_397 ?_
                          show am_E _ _ _ _ [some (.ref 39), some (.int 28), some (.int on), some (.int tw), some (.int th)] [] _ _
                          refine am_e35 hi_180_13 ?_
                          have q1 : mg_p1 (((28 : Int), (0 : Int), (0 : Int), (0 : Int), []) :: gs) = 0 + (mg_p1 gs) := rfl
                          have q2 : mg_p2 (((28 : Int), (0 : Int), (0 : Int), (0 : Int), []) :: gs) = 0 + (mg_p2 gs) := rfl
                          have q3 : mg_p3 (((28 : Int), (0 : Int), (0 : Int), (0 : Int), []) :: gs) = 1 + (mg_p3 gs) := rfl
                          have q4 : mg_p4 (((28 : Int), (0 : Int), (0 : Int), (0 : Int), []) :: gs) = 0 + (mg_p4 gs) := rfl
                          refine ⟨_, _, _, bc, rfl, hS1470, Or.inl ⟨⟨(RJ.fewer (pj' := []) hR1475_ (fun _ h => nomatch h)), ?_, ?_⟩, rfl, ?_⟩⟩
                          · exact (⟨⟨(show mg_k 28 from by decide), (show (1 : Int) ≤ z1467.toInt from by omega), (show 0 ≤ (f 20).toInt from by omega), (show 1 ≤ (f 37).toInt from by omega), (show 0 ≤ (f 32).toInt from by omega), (show (f 32).toInt ≤ y1437.toInt from by omega), (show y1437.toInt ≤ 48 from by omega), (show (f 37).toInt ≤ 2 * (y1437.toInt) + 2 from by omega), trivial⟩, mg_cast (mg_good_ext _ _ _ _ _ _ (fun i _ => by show g'1468 34 i = g 34 i; rw [show g'1468 34 = g'1454 34 from h1472_ 34 (by decide), show g'1454 34 = g'1360 34 from h1459_ 34 (by decide), show g'1360 34 = g'842 34 from h1364_ 34 (by decide), show g'842 34 = g'810 34 from h847_ 34 (by decide), show g'810 34 = g 34 from h818_ 34 (by decide)]) (fun i _ => by show g'1468 38 i = g 38 i; rw [show g'1468 38 = g'1454 38 from h1472_ 38 (by decide), show g'1454 38 = g'1360 38 from h1459_ 38 (by decide), show g'1360 38 = g'842 38 from h1364_ 38 (by decide), show g'842 38 = g'810 38 from h847_ 38 (by decide), show g'810 38 = g 38 from h818_ 38 (by decide)]) (fun i _ => by show g'1468 23 i = g 23 i; rw [show g'1468 23 = g'1454 23 from h1472_ 23 (by decide), show g'1454 23 = g'1360 23 from h1459_ 23 (by decide), show g'1360 23 = g'842 23 from h1364_ 23 (by decide), show g'842 23 = g'810 23 from h847_ 23 (by decide), show g'810 23 = g 23 from h818_ 23 (by decide)]) hrest) (by show (f 15).toInt + 0 = z1467.toInt + 0; omega) (by show (f 20).toInt = (f 20).toInt; omega) (by show (f 37).toInt + 0 = (f 37).toInt + 0; omega) (by show (f 32).toInt + 0 = (f 32).toInt + 0; omega) (by show (f 5).toInt + 0 = y1437.toInt + 0; omega)⟩ : mg_good (g'1468 34) (g'1468 38) (g'1468 23) (((28 : Int), (0 : Int), (0 : Int), (0 : Int), []) :: gs) (z1467.toInt) ((f 20).toInt) ((f 37).toInt) ((f 32).toInt) (y1437.toInt))
                          · exact ⟨(by show 0 ≤ z1436.toInt; omega), (by show z1436.toInt ≤ (f 0).toInt; omega), (by show (f 0).toInt ≤ 512; omega), (by show 0 ≤ (f 24).toInt; omega), (by show (f 24).toInt + (f 20).toInt + mg_p1 (((28 : Int), (0 : Int), (0 : Int), (0 : Int), []) :: gs) ≤ 4 * z1436.toInt; omega), (by show (f 20).toInt ≤ z1436.toInt; omega), (by show z1467.toInt + mg_p2 (((28 : Int), (0 : Int), (0 : Int), (0 : Int), []) :: gs) ≤ z1436.toInt; omega), (by show mg_p3 (((28 : Int), (0 : Int), (0 : Int), (0 : Int), []) :: gs) ≤ 20 * z1436.toInt + 20; omega), (by show 0 ≤ z1452.toInt; omega), (by show z1452.toInt + 3 * (f 20).toInt + mg_p4 (((28 : Int), (0 : Int), (0 : Int), (0 : Int), []) :: gs) ≤ 60 * z1436.toInt + 60; omega), (by show 0 ≤ o807.toInt; omega), (by show o807.toInt + 64 * mj_n (g'1468 16) z1467.toNatClampNeg 3 ≤ 64 * z1436.toInt; omega), (by show 0 ≤ (f 44).toInt; omega), (by show (f 44).toInt ≤ z1436.toInt; omega), (by show 0 ≤ (f 48).toInt; omega), (by show (f 48).toInt ≤ z1436.toInt; omega), (by show 1 ≤ (f 53).toInt; omega), (by show (f 53).toInt ≤ z1436.toInt + 1; omega), (by show 0 ≤ (f 19).toInt; omega), (by show (f 19).toInt ≤ 600; omega)⟩
                          · show 100 * ((f 0).toInt - z1436.toInt) + mg_p3 (((28 : Int), (0 : Int), (0 : Int), (0 : Int), []) :: gs) < 100 * ((f 0).toInt - (f 4).toInt) + (1 + mg_p3 gs); omega
                        · subst hv1446
                          replace hS1447 : MS S0 S1435 (upd (upd (upd (upd (upd (upd (upd (upd f 4 z1384) 5 y1385) 6 a1444) 7 b1445) 10 0) 62 o807) 68 z840) 75 m809) g'1360 := hS1447
                          have hR1476 := rj_clear0 hR1398
                          have hR1477 : RJ (upd (upd (upd (upd (upd (upd (upd (upd f 4 z1384) 5 y1385) 6 a1444) 7 b1445) 10 0) 62 o807) 68 z840) 75 m809) g'1360 [] bc [] 0 [] := hR1476
                          show am_E _ _ _ _ [some (.ref 39), some (.int 1), some (.int z826)] [.int 0] _ _
                          refine am_e6i hi_212_101 ?_
                          refine am_e2 (v := 39) hi_212_102 rfl ?_
                          refine am_e1 (v := 1) hi_212_103 rfl ?_
                          refine am_e0 hi_212_104 ?_
                          refine am_e1 (v := z826) hi_212_105 rfl ?_
                          refine am_e32w (as := [.ref 39, .int 1, .int 0, .int z826]) (la := [some (.ref 39), some (.int 1), some (.int 0), some (.int z826), none]) (rest := []) hi_212_106 (am_hd0 (M := 212) (by decide) 106) (Nat.le_of_ble_eq_true rfl) (Nat.le_of_ble_eq_true rfl) (show 4 ≤ am_P0.2.2.1 213 from by decide +kernel) rfl (am_recv_ok hS1447.fs) rfl rfl ?_
                          refine am_e2 (v := 39) hi_213_0 rfl ?_
                          refine am_e0 hi_213_1 ?_
                          refine am_e1 (v := 1) hi_213_3 rfl ?_
                          refine am_e1 (v := 0) hi_213_4 rfl ?_
                          refine am_e0 hi_213_5 ?_
                          refine am_e10 (z := 2) hi_213_6 (by decide) ?_
                          refine am_e1 (v := z826) hi_213_7 rfl ?_
                          refine am_e32n (as := [.ref 39, .int 13, .int 1, .int 2, .int z826]) (la := [some (.ref 39), some (.int 13), some (.int 1), some (.int 2), some (.int z826)]) (rest := []) hi_213_8 (am_hd0 (M := 213) (by decide) 8) (Nat.le_of_ble_eq_true rfl) (Nat.le_of_ble_eq_true rfl) (show 5 ≤ am_P0.2.2.1 189 from by decide +kernel) rfl (am_recv_ok hS1447.fs) rfl rfl (ct_put (d := (d + 3)) hS1447 hR1477  (by show (0 : Int) ≤ (f 32).toInt; omega) (by show (f 32).toInt ≤ (63 : Int); omega) (by show (f 53).toInt ≤ (4096 : Int); omega) (by show (0 : Int) ≤ z840.toInt; omega) (by show z840.toInt ≤ (65534 : Int); omega)) ?_
                          rintro v1478 S1479 (⟨z1480, r1481, g'1482, hv1483, hS1484, hR1488, h1485, h1486, h1487⟩)
                          subst hv1483
                          have h1485_ : z1480.toInt = z840.toInt + 1 := h1485
                          have h1486_ : r1481.toInt = z840.toInt := h1486
                          have h1487_ : ∀ j, j ∉ [60, 69, 70, 71, 72, 73] → g'1482 j = g'1360 j := h1487
                          replace hS1484 : MS S0 S1479 (upd (upd (upd (upd (upd (upd (upd (upd f 4 z1384) 5 y1385) 6 a1444) 7 b1445) 10 0) 62 o807) 68 z1480) 75 m809) g'1482 := hS1484
                          have hR1488_ : RJ (upd (upd (upd (upd (upd (upd (upd (upd f 4 z1384) 5 y1385) 6 a1444) 7 b1445) 10 0) 62 o807) 68 z1480) 75 m809) g'1482 [] bc [] 0 (z840.toNatClampNeg :: []) := hR1488
                          show am_E _ _ _ _ [some (.ref 39), some (.int 1), some (.int 0), some (.int z826), none] [.int r1481] _ _
                          refine am_e3 (ls' := [some (.ref 39), some (.int 1), some (.int 0), some (.int z826), some (.int r1481)]) hi_213_11 (Nat.le_of_ble_eq_true rfl) rfl ?_
                          refine am_e2 (v := 39) hi_213_13 rfl ?_
                          refine am_e7 hi_213_14 ?_
                          refine mm_20 (v := .int (f 15)) hS1484 hi_213_15 rfl ?_
                          refine am_e0 hi_213_18 ?_
                          obtain ⟨z1489, hz1489, tz1489⟩ := am_subI (x := f 15) (y := 1) (m := (f 15).toInt) (n := (1 : Int)) rfl (by decide) (by omega) (by omega)
                          refine am_e10 (z := z1489) hi_213_19 hz1489 ?_
                          refine mm_21 (v := z1489) hS1484 hi_213_20 rfl (Nat.le_of_ble_eq_true rfl) ms_15 ?_
                          intro S1490 hS1491
                          replace hS1491 : MS S0 S1490 (upd (upd (upd (upd (upd (upd (upd (upd (upd f 4 z1384) 5 y1385) 6 a1444) 7 b1445) 10 0) 15 z1489) 62 o807) 68 z1480) 75 m809) g'1482 := hS1491
                          have hp1492 : mj_n (g'810 16) (f 15).toNatClampNeg 3 = mj_n (g'810 16) z1489.toNatClampNeg 3 + if (g'810 16 z1489.toNatClampNeg).toInt = 3 then 1 else 0 := mj_pop (by rw [cl_toNat, cl_toNat]; omega)
                          have hp14921 : mj_n (g'810 16) z1489.toNatClampNeg 3 ≤ mj_n (g'810 16) (f 15).toNatClampNeg 3 := by rw [hp1492]; split <;> omega
                          have hp14922 : (g'810 16 z1489.toNatClampNeg).toInt = 3 → mj_n (g'810 16) z1489.toNatClampNeg 3 + 1 ≤ mj_n (g'810 16) (f 15).toNatClampNeg 3 := fun q => by rw [hp1492, if_pos q]; exact Int.le_refl _
                          refine am_e2 (v := 39) hi_213_23 rfl ?_
                          refine am_e0 hi_213_24 ?_
                          refine am_e1 (v := r1481) hi_213_25 rfl ?_
                          refine am_e1 (v := z826) hi_213_27 rfl ?_
                          refine am_e32n (as := [.ref 39, .int 1, .int r1481, .int z826]) (la := [some (.ref 39), some (.int 1), some (.int r1481), some (.int z826)]) (rest := []) hi_213_28 (am_hd0 (M := 213) (by decide) 28) (Nat.le_of_ble_eq_true rfl) (Nat.le_of_ble_eq_true rfl) (show 4 ≤ am_P0.2.2.1 190 from by decide +kernel) rfl (am_recv_ok hS1491.fs) rfl rfl (ct_value (d := (d + 3)) hS1491 hR1488_ (fun h => absurd h (by decide)) (fun _ => ⟨by omega, by omega⟩) (by show (0 : Int) ≤ z1489.toInt; omega) (by show z1489.toInt ≤ (32767 : Int); omega)) ?_
                          rintro v1493 S1494 (⟨z1495, g'1496, hv1497, hS1498, hR1503, h1499, h1500, h1501, h1502⟩)
                          subst hv1497
                          have h1499_ : z1495.toInt = z1489.toInt + 1 := h1499
                          have h1500_ : ∀ j, j ∉ [16, 17, 18] → g'1496 j = g'1482 j := h1500
                          have h1501_ : mj_n (g'1496 16) z1495.toNatClampNeg 3 ≤ mj_n (g'810 16) z1489.toNatClampNeg 3 + 1 := by rw [show g'1482 16 = g'1360 16 from h1487_ 16 (by decide), show g'1360 16 = g'842 16 from h1364_ 16 (by decide), show g'842 16 = g'810 16 from h847_ 16 (by decide)] at h1501; exact h1501
                          have h1502_ : (1 : Int) = 3 ∨ mj_n (g'1496 16) z1495.toNatClampNeg 3 ≤ mj_n (g'810 16) z1489.toNatClampNeg 3 := by rw [show g'1482 16 = g'1360 16 from h1487_ 16 (by decide), show g'1360 16 = g'842 16 from h1364_ 16 (by decide), show g'842 16 = g'810 16 from h847_ 16 (by decide)] at h1502; exact h1502
                          replace hS1498 : MS S0 S1494 (upd (upd (upd (upd (upd (upd (upd (upd (upd f 4 z1384) 5 y1385) 6 a1444) 7 b1445) 10 0) 15 z1495) 62 o807) 68 z1480) 75 m809) g'1496 := hS1498
                          have hR1503_ : RJ (upd (upd (upd (upd (upd (upd (upd (upd (upd f 4 z1384) 5 y1385) 6 a1444) 7 b1445) 10 0) 15 z1495) 62 o807) 68 z1480) 75 m809) g'1496 [] bc [] 0 (z840.toNatClampNeg :: []) := hR1503
                          show am_E _ _ _ _ [some (.ref 39), some (.int 1), some (.int 0), some (.int z826), some (.int r1481)] [] _ _
                          refine am_e35 hi_213_31 ?_
                          show am_E _ _ _ _ [some (.ref 39), some (.int 1), some (.int z826)] [] _ _
                          refine am_e18 hi_212_109 ?_
                          refine am_e35 hi_212_125 ?_
                          show am_E _ _ _ _ [some (.ref 39), some (.int r2), some (.int (f 4)), some (.int r851)] [] _ _
                          refine am_e18 hi_211_211 ?_
                          refine am_e35 hi_211_249 ?_
                          show am_E _ _ _ _ [some (.ref 39), some (.int 28), some (.int on), some (.int tw)] [] _ _
                          refine am_e18 hi_181_180 ?_
                          refine am_e35 hi_181_397 ?_
                          show am_E _ _ _ _ [some (.ref 39), some (.int 28), some (.int on), some (.int tw), some (.int th)] [] _ _
                          refine am_e35 hi_180_13 ?_
                          have hRc := rj_clear0 hR1503_
                          refine ⟨_, _, [], _, rfl, hS1498, Or.inr ⟨hRc, rfl, (by show 0 ≤ z1384.toInt; omega), (by show z1384.toInt ≤ (f 0).toInt; omega), (by show 0 ≤ (f 32).toInt; omega), (by show (f 32).toInt ≤ 63; omega), (by show 1 ≤ (f 53).toInt; omega), (by show (f 53).toInt ≤ 600; omega), (by show 0 ≤ z1480.toInt; omega), (by show z1480.toInt ≤ 60000; omega), (by show 0 ≤ (f 48).toInt; omega), (by show (f 48).toInt ≤ 8000; omega), (by show 0 ≤ (f 37).toInt; omega), (by show (f 37).toInt ≤ 128; omega), (by show 0 ≤ o807.toInt; omega), (by show o807.toInt ≤ 65000; omega), (by show 0 ≤ (f 19).toInt; omega), (by show (f 19).toInt ≤ 600; omega)⟩⟩
                    · subst hv1395
                      replace hS1396 : MS S0 S1383 (upd (upd (upd (upd (upd (upd (upd f 4 z826) 6 a1393) 7 b1394) 10 0) 62 o807) 68 z840) 75 m809) g'1360 := hS1396
                      have hR1504 := rj_clear0 hR1365_
                      have hR1505 : RJ (upd (upd (upd (upd (upd (upd (upd f 4 z826) 6 a1393) 7 b1394) 10 0) 62 o807) 68 z840) 75 m809) g'1360 [] bc [] 0 [] := hR1504
                      show am_E _ _ _ _ [some (.ref 39), some (.int 1), some (.int z826)] [.int 0] _ _
                      refine am_e12t hi_212_83 (by decide) ?_
                      refine am_e35 hi_212_125 ?_
                      show am_E _ _ _ _ [some (.ref 39), some (.int r2), some (.int (f 4)), some (.int r851)] [] _ _
                      refine am_e18 hi_211_211 ?_
                      refine am_e35 hi_211_249 ?_
                      show am_E _ _ _ _ [some (.ref 39), some (.int 28), some (.int on), some (.int tw)] [] _ _
                      refine am_e18 hi_181_180 ?_
                      refine am_e35 hi_181_397 ?_
                      show am_E _ _ _ _ [some (.ref 39), some (.int 28), some (.int on), some (.int tw), some (.int th)] [] _ _
                      refine am_e35 hi_180_13 ?_
                      have hRc := rj_clear0 hR1505
                      refine ⟨_, _, [], _, rfl, hS1396, Or.inr ⟨hRc, rfl, (by show 0 ≤ z826.toInt; omega), (by show z826.toInt ≤ (f 0).toInt; omega), (by show 0 ≤ (f 32).toInt; omega), (by show (f 32).toInt ≤ 63; omega), (by show 1 ≤ (f 53).toInt; omega), (by show (f 53).toInt ≤ 600; omega), (by show 0 ≤ z840.toInt; omega), (by show z840.toInt ≤ 60000; omega), (by show 0 ≤ (f 48).toInt; omega), (by show (f 48).toInt ≤ 8000; omega), (by show 0 ≤ (f 37).toInt; omega), (by show (f 37).toInt ≤ 128; omega), (by show 0 ≤ o807.toInt; omega), (by show o807.toInt ≤ 65000; omega), (by show 0 ≤ (f 19).toInt; omega), (by show (f 19).toInt ≤ 600; omega)⟩⟩
                  · refine am_e13f hi_212_58 (am_cF (m := r1376.toInt) (n := (62 : Int)) rfl (by decide) c1381) ?_
                    refine am_e2 (v := 39) hi_212_61 rfl ?_
                    refine am_e0 hi_212_62 ?_
                    refine am_e1 (v := 1) hi_212_64 rfl ?_
                    refine am_e1 (v := z826) hi_212_65 rfl ?_
                    refine am_e0 hi_212_66 ?_
                    refine am_e32n (as := [.ref 39, .int 33, .int 1, .int z826, .int 0]) (la := [some (.ref 39), some (.int 33), some (.int 1), some (.int z826), some (.int 0)]) (rest := []) hi_212_67 (am_hd0 (M := 212) (by decide) 67) (Nat.le_of_ble_eq_true rfl) (Nat.le_of_ble_eq_true rfl) (show 5 ≤ am_P0.2.2.1 179 from by decide +kernel) rfl (am_recv_ok hS1378.fs) rfl rfl (ct_pile (d := (d + 4)) hS1378 hR1365_ (mj_e_plain (by decide)) (by show (0 : Int) ≤ z1359.toInt; omega) (by show z1359.toInt ≤ (65535 : Int); omega)) ?_
                    rintro v1506 S1507 (⟨z1508, g'1509, hv1510, hS1511, hR1514, h1512, h1513⟩)
                    subst hv1510
                    have h1512_ : z1508.toInt = z1359.toInt + 1 := h1512
                    have h1513_ : ∀ j, j ∉ [11, 12, 13, 14] → g'1509 j = g'1360 j := h1513
                    replace hS1511 : MS S0 S1507 (upd (upd (upd (upd (upd f 4 z826) 10 z1508) 62 o807) 68 z840) 75 m809) g'1509 := hS1511
                    have hR1514_ : RJ (upd (upd (upd (upd (upd f 4 z826) 10 z1508) 62 o807) 68 z840) 75 m809) g'1509 (((33 : Int), (1 : Int), z826.toInt, (0 : Int), []) :: (((28 : Int), (0 : Int), (0 : Int), (0 : Int), []) :: gs)) bc [] 0 (s808.toNatClampNeg :: []) := hR1514
                    show am_E _ _ _ _ [some (.ref 39), some (.int 1), some (.int z826)] [] _ _
                    refine am_e2 (v := 39) hi_212_70 rfl ?_
                    refine am_e32w (as := [.ref 39]) (la := [some (.ref 39), none]) (rest := []) hi_212_71 (am_hd0 (M := 212) (by decide) 71) (Nat.le_of_ble_eq_true rfl) (Nat.le_of_ble_eq_true rfl) (show 1 ≤ am_P0.2.2.1 192 from by decide +kernel) rfl (am_recv_ok hS1511.fs) rfl rfl ?_
                    refine am_e2 (v := 39) hi_192_0 rfl ?_
                    refine mm_20 (v := .int z826) hS1511 hi_192_1 rfl ?_
                    refine am_e3 (ls' := [some (.ref 39), some (.int z826)]) hi_192_4 (Nat.le_of_ble_eq_true rfl) rfl ?_
                    refine am_e2 (v := 39) hi_192_5 rfl ?_
                    refine am_e0 hi_192_6 ?_
                    refine am_e32n (as := [.ref 39, .int 62]) (la := [some (.ref 39), some (.int 62)]) (rest := []) hi_192_8 (am_hd0 (M := 192) (by decide) 8) (Nat.le_of_ble_eq_true rfl) (Nat.le_of_ble_eq_true rfl) (show 2 ≤ am_P0.2.2.1 193 from by decide +kernel) rfl (am_recv_ok hS1511.fs) rfl rfl (ct_enter (d := (d + 1)) hS1511   (by show (0 : Int) ≤ z826.toInt; omega) (by show (f 0).toInt ≤ (16384 : Int); omega) (by show (0 : Int) ≤ (62 : Int); omega) (by show (0 : Int) ≤ (f 5).toInt; omega) (by show (f 5).toInt ≤ (48 : Int); omega)) ?_
                    rintro v1515 S1516 (⟨z1517, y1518, hv1519, hS1520, h1521, h1522, h1523, h1524⟩ | ⟨a1526, b1527, hv1528, hS1529⟩)
                    · subst hv1519
                      have h1521_ : z1517.toInt = z826.toInt + 1 := h1521
                      have h1522_ : z826.toInt < (f 0).toInt := h1522
                      have h1523_ : y1518.toInt = (f 5).toInt + 1 := h1523
                      have h1524_ : y1518.toInt ≤ (48 : Int) := h1524
                      replace hS1520 : MS S0 S1516 (upd (upd (upd (upd (upd (upd f 4 z1517) 5 y1518) 10 z1508) 62 o807) 68 z840) 75 m809) g'1509 := hS1520
                      have hR1531 : RJ (upd (upd (upd (upd (upd (upd f 4 z1517) 5 y1518) 10 z1508) 62 o807) 68 z840) 75 m809) g'1509 (((33 : Int), (1 : Int), z826.toInt, (0 : Int), []) :: (((28 : Int), (0 : Int), (0 : Int), (0 : Int), []) :: gs)) bc [] 0 (s808.toNatClampNeg :: []) := RJ.at hR1514_ (by show z826.toInt ≤ z1517.toInt; omega)
                      show am_E _ _ _ _ [some (.ref 39), some (.int z826)] [.int 1] _ _
                      refine am_e12t hi_192_11 (by decide) ?_
                      refine am_e2 (v := 39) hi_192_15 rfl ?_
                      refine am_e0 hi_192_16 ?_
                      refine am_e0 hi_192_18 ?_
                      refine am_e0 hi_192_19 ?_
                      refine am_e1 (v := z826) hi_192_20 rfl ?_
                      refine am_e32n (as := [.ref 39, .int 20, .int 0, .int 0, .int z826]) (la := [some (.ref 39), some (.int 20), some (.int 0), some (.int 0), some (.int z826)]) (rest := []) hi_192_21 (am_hd0 (M := 192) (by decide) 21) (Nat.le_of_ble_eq_true rfl) (Nat.le_of_ble_eq_true rfl) (show 5 ≤ am_P0.2.2.1 189 from by decide +kernel) rfl (am_recv_ok hS1520.fs) rfl rfl (ct_put (d := (d + 3)) hS1520 hR1531  (by show (0 : Int) ≤ (f 32).toInt; omega) (by show (f 32).toInt ≤ (63 : Int); omega) (by show (f 53).toInt ≤ (4096 : Int); omega) (by show (0 : Int) ≤ z840.toInt; omega) (by show z840.toInt ≤ (65534 : Int); omega)) ?_
                      rintro v1532 S1533 (⟨z1534, r1535, g'1536, hv1537, hS1538, hR1542, h1539, h1540, h1541⟩)
                      subst hv1537
                      have h1539_ : z1534.toInt = z840.toInt + 1 := h1539
                      have h1540_ : r1535.toInt = z840.toInt := h1540
                      have h1541_ : ∀ j, j ∉ [60, 69, 70, 71, 72, 73] → g'1536 j = g'1509 j := h1541
                      replace hS1538 : MS S0 S1533 (upd (upd (upd (upd (upd (upd f 4 z1517) 5 y1518) 10 z1508) 62 o807) 68 z1534) 75 m809) g'1536 := hS1538
                      have hR1542_ : RJ (upd (upd (upd (upd (upd (upd f 4 z1517) 5 y1518) 10 z1508) 62 o807) 68 z1534) 75 m809) g'1536 (((33 : Int), (1 : Int), z826.toInt, (0 : Int), []) :: (((28 : Int), (0 : Int), (0 : Int), (0 : Int), []) :: gs)) bc [] 0 (z840.toNatClampNeg :: (s808.toNatClampNeg :: [])) := hR1542
                      show am_E _ _ _ _ [some (.ref 39), some (.int z826)] [.int r1535] _ _
                      refine am_e6i hi_192_24 ?_
                      refine am_e2 (v := 39) hi_192_25 rfl ?_
                      refine am_e0 hi_192_26 ?_
                      refine am_e0 hi_192_27 ?_
                      refine am_e0 hi_192_28 ?_
                      refine am_e32n (as := [.ref 39, .int 0, .int 0, .int 0]) (la := [some (.ref 39), some (.int 0), some (.int 0), some (.int 0)]) (rest := []) hi_192_29 (am_hd0 (M := 192) (by decide) 29) (Nat.le_of_ble_eq_true rfl) (Nat.le_of_ble_eq_true rfl) (show 4 ≤ am_P0.2.2.1 190 from by decide +kernel) rfl (am_recv_ok hS1538.fs) rfl rfl (ct_value (d := (d + 3)) hS1538 hR1542_ (fun h => absurd h (by decide)) (fun h => absurd h (by decide)) (by show (0 : Int) ≤ (f 15).toInt; omega) (by show (f 15).toInt ≤ (32767 : Int); omega)) ?_
                      rintro v1543 S1544 (⟨z1545, g'1546, hv1547, hS1548, hR1553, h1549, h1550, h1551, h1552⟩)
                      subst hv1547
                      have h1549_ : z1545.toInt = (f 15).toInt + 1 := h1549
                      have h1550_ : ∀ j, j ∉ [16, 17, 18] → g'1546 j = g'1536 j := h1550
                      have h1551_ : mj_n (g'1546 16) z1545.toNatClampNeg 3 ≤ mj_n (g'810 16) (f 15).toNatClampNeg 3 + 1 := by rw [show g'1536 16 = g'1509 16 from h1541_ 16 (by decide), show g'1509 16 = g'1360 16 from h1513_ 16 (by decide), show g'1360 16 = g'842 16 from h1364_ 16 (by decide), show g'842 16 = g'810 16 from h847_ 16 (by decide)] at h1551; exact h1551
                      have h1552_ : (0 : Int) = 3 ∨ mj_n (g'1546 16) z1545.toNatClampNeg 3 ≤ mj_n (g'810 16) (f 15).toNatClampNeg 3 := by rw [show g'1536 16 = g'1509 16 from h1541_ 16 (by decide), show g'1509 16 = g'1360 16 from h1513_ 16 (by decide), show g'1360 16 = g'842 16 from h1364_ 16 (by decide), show g'842 16 = g'810 16 from h847_ 16 (by decide)] at h1552; exact h1552
                      replace hS1548 : MS S0 S1544 (upd (upd (upd (upd (upd (upd (upd f 4 z1517) 5 y1518) 10 z1508) 15 z1545) 62 o807) 68 z1534) 75 m809) g'1546 := hS1548
                      have hR1553_ : RJ (upd (upd (upd (upd (upd (upd (upd f 4 z1517) 5 y1518) 10 z1508) 15 z1545) 62 o807) 68 z1534) 75 m809) g'1546 (((33 : Int), (1 : Int), z826.toInt, (0 : Int), []) :: (((28 : Int), (0 : Int), (0 : Int), (0 : Int), []) :: gs)) bc [] 0 (z840.toNatClampNeg :: (s808.toNatClampNeg :: [])) := hR1553
                      show am_E _ _ _ _ [some (.ref 39), some (.int z826)] [] _ _
                      refine am_e2 (v := 39) hi_192_32 rfl ?_
                      refine am_e0 hi_192_33 ?_
                      refine am_e0 hi_192_35 ?_
                      refine am_e0 hi_192_36 ?_
                      refine am_e0 hi_192_37 ?_
                      refine am_e32n (as := [.ref 39, .int 35, .int 0, .int 0, .int 0]) (la := [some (.ref 39), some (.int 35), some (.int 0), some (.int 0), some (.int 0)]) (rest := []) hi_192_38 (am_hd0 (M := 192) (by decide) 38) (Nat.le_of_ble_eq_true rfl) (Nat.le_of_ble_eq_true rfl) (show 5 ≤ am_P0.2.2.1 179 from by decide +kernel) rfl (am_recv_ok hS1548.fs) rfl rfl (ct_pile (d := (d + 3)) hS1548 hR1553_ (mj_e_plain (by decide)) (by show (0 : Int) ≤ z1508.toInt; omega) (by show z1508.toInt ≤ (65535 : Int); omega)) ?_
                      rintro v1554 S1555 (⟨z1556, g'1557, hv1558, hS1559, hR1562, h1560, h1561⟩)
                      subst hv1558
                      have h1560_ : z1556.toInt = z1508.toInt + 1 := h1560
                      have h1561_ : ∀ j, j ∉ [11, 12, 13, 14] → g'1557 j = g'1546 j := h1561
                      replace hS1559 : MS S0 S1555 (upd (upd (upd (upd (upd (upd (upd f 4 z1517) 5 y1518) 10 z1556) 15 z1545) 62 o807) 68 z1534) 75 m809) g'1557 := hS1559
                      have hR1562_ : RJ (upd (upd (upd (upd (upd (upd (upd f 4 z1517) 5 y1518) 10 z1556) 15 z1545) 62 o807) 68 z1534) 75 m809) g'1557 (((35 : Int), (0 : Int), (0 : Int), (0 : Int), []) :: (((33 : Int), (1 : Int), z826.toInt, (0 : Int), []) :: (((28 : Int), (0 : Int), (0 : Int), (0 : Int), []) :: gs))) bc [] 0 (z840.toNatClampNeg :: (s808.toNatClampNeg :: [])) := hR1562
                      show am_E _ _ _ _ [some (.ref 39), some (.int z826)] [] _ _
                      refine am_e35 hi_192_41 ?_
                      show am_E _ _ _ _ [some (.ref 39), some (.int 1), some (.int z826)] [] _ _
                      refine am_e18 hi_212_74 ?_
                      refine am_e35 hi_212_125 ?_
                      show am_E _ _ _ _ [some (.ref 39), some (.int r2), some (.int (f 4)), some (.int r851)] [] _ _
                      refine am_e18 hi_211_211 ?_
                      refine am_e35 hi_211_249 ?_
                      show am_E _ _ _ _ [some (.ref 39), some (.int 28), some (.int on), some (.int tw)] [] _ _
                      refine am_e18 hi_181_180 ?_
                      refine am_e35 hi_181_397 ?_
                      show am_E _ _ _ _ [some (.ref 39), some (.int 28), some (.int on), some (.int tw), some (.int th)] [] _ _
                      refine am_e35 hi_180_13 ?_
                      have q1 : mg_p1 (((35 : Int), (0 : Int), (0 : Int), (0 : Int), []) :: (((33 : Int), (1 : Int), z826.toInt, (0 : Int), []) :: (((28 : Int), (0 : Int), (0 : Int), (0 : Int), []) :: gs))) = 0 + (0 + (0 + (mg_p1 gs))) := rfl
                      have q2 : mg_p2 (((35 : Int), (0 : Int), (0 : Int), (0 : Int), []) :: (((33 : Int), (1 : Int), z826.toInt, (0 : Int), []) :: (((28 : Int), (0 : Int), (0 : Int), (0 : Int), []) :: gs))) = 0 + (0 + (0 + (mg_p2 gs))) := rfl
                      have q3 : mg_p3 (((35 : Int), (0 : Int), (0 : Int), (0 : Int), []) :: (((33 : Int), (1 : Int), z826.toInt, (0 : Int), []) :: (((28 : Int), (0 : Int), (0 : Int), (0 : Int), []) :: gs))) = 3 + (1 + (1 + (mg_p3 gs))) := rfl
                      have q4 : mg_p4 (((35 : Int), (0 : Int), (0 : Int), (0 : Int), []) :: (((33 : Int), (1 : Int), z826.toInt, (0 : Int), []) :: (((28 : Int), (0 : Int), (0 : Int), (0 : Int), []) :: gs))) = 0 + (3 + (0 + (mg_p4 gs))) := rfl
                      refine ⟨_, _, _, bc, rfl, hS1559, Or.inl ⟨⟨(RJ.fewer (pj' := []) hR1562_ (fun _ h => nomatch h)), ?_, ?_⟩, rfl, ?_⟩⟩
                      · exact (⟨⟨(show mg_k 35 from by decide), (show (0 : Int) ≤ z1545.toInt from by omega), (show 0 ≤ (f 20).toInt from by omega), (show 1 ≤ (f 37).toInt from by omega), (show 0 ≤ (f 32).toInt from by omega), (show (f 32).toInt ≤ y1518.toInt from by omega), (show y1518.toInt ≤ 48 from by omega), (show (f 37).toInt ≤ 2 * (y1518.toInt) + 2 from by omega), trivial⟩, ⟨⟨(show mg_k 33 from by decide), (show (2 : Int) ≤ z1545.toInt + 0 from by omega), (show 0 ≤ (f 20).toInt from by omega), (show 1 ≤ (f 37).toInt + 0 from by omega), (show 0 ≤ (f 32).toInt + 0 from by omega), (show (f 32).toInt + 0 ≤ y1518.toInt + -1 from by omega), (show y1518.toInt + -1 ≤ 48 from by omega), (show (f 37).toInt + 0 ≤ 2 * (y1518.toInt + -1) + 2 from by omega), trivial⟩, ⟨⟨(show mg_k 28 from by decide), (show (1 : Int) ≤ z1545.toInt + 0 + -1 from by omega), (show 0 ≤ (f 20).toInt from by omega), (show 1 ≤ (f 37).toInt + 0 + 0 from by omega), (show 0 ≤ (f 32).toInt + 0 + 0 from by omega), (show (f 32).toInt + 0 + 0 ≤ y1518.toInt + -1 + 0 from by omega), (show y1518.toInt + -1 + 0 ≤ 48 from by omega), (show (f 37).toInt + 0 + 0 ≤ 2 * (y1518.toInt + -1 + 0) + 2 from by omega), trivial⟩, mg_cast (mg_good_ext _ _ _ _ _ _ (fun i _ => by show g'1557 34 i = g 34 i; rw [show g'1557 34 = g'1546 34 from h1561_ 34 (by decide), show g'1546 34 = g'1536 34 from h1550_ 34 (by decide), show g'1536 34 = g'1509 34 from h1541_ 34 (by decide), show g'1509 34 = g'1360 34 from h1513_ 34 (by decide), show g'1360 34 = g'842 34 from h1364_ 34 (by decide), show g'842 34 = g'810 34 from h847_ 34 (by decide), show g'810 34 = g 34 from h818_ 34 (by decide)]) (fun i _ => by show g'1557 38 i = g 38 i; rw [show g'1557 38 = g'1546 38 from h1561_ 38 (by decide), show g'1546 38 = g'1536 38 from h1550_ 38 (by decide), show g'1536 38 = g'1509 38 from h1541_ 38 (by decide), show g'1509 38 = g'1360 38 from h1513_ 38 (by decide), show g'1360 38 = g'842 38 from h1364_ 38 (by decide), show g'842 38 = g'810 38 from h847_ 38 (by decide), show g'810 38 = g 38 from h818_ 38 (by decide)]) (fun i _ => by show g'1557 23 i = g 23 i; rw [show g'1557 23 = g'1546 23 from h1561_ 23 (by decide), show g'1546 23 = g'1536 23 from h1550_ 23 (by decide), show g'1536 23 = g'1509 23 from h1541_ 23 (by decide), show g'1509 23 = g'1360 23 from h1513_ 23 (by decide), show g'1360 23 = g'842 23 from h1364_ 23 (by decide), show g'842 23 = g'810 23 from h847_ 23 (by decide), show g'810 23 = g 23 from h818_ 23 (by decide)]) hrest) (by show (f 15).toInt + 0 = z1545.toInt + 0 + -1 + 0; omega) (by show (f 20).toInt = (f 20).toInt; omega) (by show (f 37).toInt + 0 = (f 37).toInt + 0 + 0 + 0; omega) (by show (f 32).toInt + 0 = (f 32).toInt + 0 + 0 + 0; omega) (by show (f 5).toInt + 0 = y1518.toInt + -1 + 0 + 0; omega)⟩⟩⟩ : mg_good (g'1557 34) (g'1557 38) (g'1557 23) (((35 : Int), (0 : Int), (0 : Int), (0 : Int), []) :: (((33 : Int), (1 : Int), z826.toInt, (0 : Int), []) :: (((28 : Int), (0 : Int), (0 : Int), (0 : Int), []) :: gs))) (z1545.toInt) ((f 20).toInt) ((f 37).toInt) ((f 32).toInt) (y1518.toInt))
                      · exact ⟨(by show 0 ≤ z1517.toInt; omega), (by show z1517.toInt ≤ (f 0).toInt; omega), (by show (f 0).toInt ≤ 512; omega), (by show 0 ≤ (f 24).toInt; omega), (by show (f 24).toInt + (f 20).toInt + mg_p1 (((35 : Int), (0 : Int), (0 : Int), (0 : Int), []) :: (((33 : Int), (1 : Int), z826.toInt, (0 : Int), []) :: (((28 : Int), (0 : Int), (0 : Int), (0 : Int), []) :: gs))) ≤ 4 * z1517.toInt; omega), (by show (f 20).toInt ≤ z1517.toInt; omega), (by show z1545.toInt + mg_p2 (((35 : Int), (0 : Int), (0 : Int), (0 : Int), []) :: (((33 : Int), (1 : Int), z826.toInt, (0 : Int), []) :: (((28 : Int), (0 : Int), (0 : Int), (0 : Int), []) :: gs))) ≤ z1517.toInt; omega), (by show mg_p3 (((35 : Int), (0 : Int), (0 : Int), (0 : Int), []) :: (((33 : Int), (1 : Int), z826.toInt, (0 : Int), []) :: (((28 : Int), (0 : Int), (0 : Int), (0 : Int), []) :: gs))) ≤ 20 * z1517.toInt + 20; omega), (by show 0 ≤ z1534.toInt; omega), (by show z1534.toInt + 3 * (f 20).toInt + mg_p4 (((35 : Int), (0 : Int), (0 : Int), (0 : Int), []) :: (((33 : Int), (1 : Int), z826.toInt, (0 : Int), []) :: (((28 : Int), (0 : Int), (0 : Int), (0 : Int), []) :: gs))) ≤ 60 * z1517.toInt + 60; omega), (by show 0 ≤ o807.toInt; omega), (by show o807.toInt + 64 * mj_n (g'1557 16) z1545.toNatClampNeg 3 ≤ 64 * z1517.toInt; rw [show g'1557 16 = g'1546 16 from h1561_ 16 (by decide)]; omega), (by show 0 ≤ (f 44).toInt; omega), (by show (f 44).toInt ≤ z1517.toInt; omega), (by show 0 ≤ (f 48).toInt; omega), (by show (f 48).toInt ≤ z1517.toInt; omega), (by show 1 ≤ (f 53).toInt; omega), (by show (f 53).toInt ≤ z1517.toInt + 1; omega), (by show 0 ≤ (f 19).toInt; omega), (by show (f 19).toInt ≤ 600; omega)⟩
                      · show 100 * ((f 0).toInt - z1517.toInt) + mg_p3 (((35 : Int), (0 : Int), (0 : Int), (0 : Int), []) :: (((33 : Int), (1 : Int), z826.toInt, (0 : Int), []) :: (((28 : Int), (0 : Int), (0 : Int), (0 : Int), []) :: gs))) < 100 * ((f 0).toInt - (f 4).toInt) + (1 + mg_p3 gs); omega
                    · subst hv1528
                      replace hS1529 : MS S0 S1516 (upd (upd (upd (upd (upd (upd (upd f 4 z826) 6 a1526) 7 b1527) 10 0) 62 o807) 68 z840) 75 m809) g'1509 := hS1529
                      have hR1563 := rj_clear0 hR1514_
                      have hR1564 : RJ (upd (upd (upd (upd (upd (upd (upd f 4 z826) 6 a1526) 7 b1527) 10 0) 62 o807) 68 z840) 75 m809) g'1509 [] bc [] 0 [] := hR1563
                      show am_E _ _ _ _ [some (.ref 39), some (.int z826)] [.int 0] _ _
                      refine am_e12f hi_192_11 (by decide) ?_
                      refine am_e35 hi_192_14 ?_
                      show am_E _ _ _ _ [some (.ref 39), some (.int 1), some (.int z826)] [] _ _
                      refine am_e18 hi_212_74 ?_
                      refine am_e35 hi_212_125 ?_
                      show am_E _ _ _ _ [some (.ref 39), some (.int r2), some (.int (f 4)), some (.int r851)] [] _ _
                      refine am_e18 hi_211_211 ?_
                      refine am_e35 hi_211_249 ?_
                      show am_E _ _ _ _ [some (.ref 39), some (.int 28), some (.int on), some (.int tw)] [] _ _
                      refine am_e18 hi_181_180 ?_
                      refine am_e35 hi_181_397 ?_
                      show am_E _ _ _ _ [some (.ref 39), some (.int 28), some (.int on), some (.int tw), some (.int th)] [] _ _
                      refine am_e35 hi_180_13 ?_
                      have hRc := rj_clear0 hR1564
                      refine ⟨_, _, [], _, rfl, hS1529, Or.inr ⟨hRc, rfl, (by show 0 ≤ z826.toInt; omega), (by show z826.toInt ≤ (f 0).toInt; omega), (by show 0 ≤ (f 32).toInt; omega), (by show (f 32).toInt ≤ 63; omega), (by show 1 ≤ (f 53).toInt; omega), (by show (f 53).toInt ≤ 600; omega), (by show 0 ≤ z840.toInt; omega), (by show z840.toInt ≤ 60000; omega), (by show 0 ≤ (f 48).toInt; omega), (by show (f 48).toInt ≤ 8000; omega), (by show 0 ≤ (f 37).toInt; omega), (by show (f 37).toInt ≤ 128; omega), (by show 0 ≤ o807.toInt; omega), (by show o807.toInt ≤ 65000; omega), (by show 0 ≤ (f 19).toInt; omega), (by show (f 19).toInt ≤ 600; omega)⟩⟩
                · refine am_e13f hi_212_10 (am_cF (m := r1368.toInt) (n := (3 : Int)) rfl (by decide) c1373) ?_
                  refine am_e2 (v := 39) hi_212_13 rfl ?_
                  refine am_e0 hi_212_14 ?_
                  refine am_e2 (v := 39) hi_212_15 rfl ?_
                  refine mm_20 (v := .ref 41) hS1370 hi_212_16 rfl ?_
                  refine am_e2 (v := 39) hi_212_19 rfl ?_
                  refine mm_20 (v := .int z826) hS1370 hi_212_20 rfl ?_
                  refine mm_25 hS1370 ma_2 hi_212_23 (by decide) (by omega) (by omega) ?_
                  show am_E _ _ _ _ _ (.int (g'1360 2 z826.toNatClampNeg) :: _) _ _
                  rw [show g'1360 2 = g'842 2 from h1364_ 2 (by decide), show g'842 2 = g'810 2 from h847_ 2 (by decide), show g'810 2 = g 2 from h818_ 2 (by decide)]
                  show am_E _ _ _ _ [some (.ref 39), some (.int 1), some (.int z826)] [.int (g 2 z826.toNatClampNeg), .int 5, .ref 39] _ _
                  refine am_e0 hi_212_24 ?_
                  refine am_e0 hi_212_25 ?_
                  refine am_e32n (as := [.ref 39, .int 5, .int (g 2 z826.toNatClampNeg), .int 0, .int 0]) (la := [some (.ref 39), some (.int 5), some (.int (g 2 z826.toNatClampNeg)), some (.int 0), some (.int 0)]) (rest := []) hi_212_26 (am_hd0 (M := 212) (by decide) 26) (Nat.le_of_ble_eq_true rfl) (Nat.le_of_ble_eq_true rfl) (show 5 ≤ am_P0.2.2.1 189 from by decide +kernel) rfl (am_recv_ok hS1370.fs) rfl rfl (ct_put (d := (d + 4)) hS1370 hR1365_  (by show (0 : Int) ≤ (f 32).toInt; omega) (by show (f 32).toInt ≤ (63 : Int); omega) (by show (f 53).toInt ≤ (4096 : Int); omega) (by show (0 : Int) ≤ z840.toInt; omega) (by show z840.toInt ≤ (65534 : Int); omega)) ?_
                  rintro v1565 S1566 (⟨z1567, r1568, g'1569, hv1570, hS1571, hR1575, h1572, h1573, h1574⟩)
                  subst hv1570
                  have h1572_ : z1567.toInt = z840.toInt + 1 := h1572
                  have h1573_ : r1568.toInt = z840.toInt := h1573
                  have h1574_ : ∀ j, j ∉ [60, 69, 70, 71, 72, 73] → g'1569 j = g'1360 j := h1574
                  replace hS1571 : MS S0 S1566 (upd (upd (upd (upd (upd f 4 z826) 10 z1359) 62 o807) 68 z1567) 75 m809) g'1569 := hS1571
                  have hR1575_ : RJ (upd (upd (upd (upd (upd f 4 z826) 10 z1359) 62 o807) 68 z1567) 75 m809) g'1569 (((28 : Int), (0 : Int), (0 : Int), (0 : Int), []) :: gs) bc [] 0 (z840.toNatClampNeg :: (s808.toNatClampNeg :: [])) := hR1575
                  show am_E _ _ _ _ [some (.ref 39), some (.int 1), some (.int z826)] [.int r1568] _ _
                  refine am_e6i hi_212_29 ?_
                  refine am_e2 (v := 39) hi_212_30 rfl ?_
                  refine am_e7 hi_212_31 ?_
                  refine mm_20 (v := .int z826) hS1571 hi_212_32 rfl ?_
                  refine am_e0 hi_212_35 ?_
                  obtain ⟨z1576, hz1576, tz1576⟩ := am_addI (x := z826) (y := 1) (m := z826.toInt) (n := (1 : Int)) rfl (by decide) (by omega) (by omega)
                  refine am_e10 (z := z1576) hi_212_36 hz1576 ?_
                  refine mm_21 (v := z1576) hS1571 hi_212_37 rfl (Nat.le_of_ble_eq_true rfl) ms_4 ?_
                  intro S1577 hS1578
                  replace hS1578 : MS S0 S1577 (upd (upd (upd (upd (upd f 4 z1576) 10 z1359) 62 o807) 68 z1567) 75 m809) g'1569 := hS1578
                  have hR1579 : RJ (upd (upd (upd (upd (upd f 4 z1576) 10 z1359) 62 o807) 68 z1567) 75 m809) g'1569 (((28 : Int), (0 : Int), (0 : Int), (0 : Int), []) :: gs) bc [] 0 (z840.toNatClampNeg :: (s808.toNatClampNeg :: [])) := RJ.at hR1575_ (by show z826.toInt ≤ z1576.toInt; omega)
                  refine am_e2 (v := 39) hi_212_40 rfl ?_
                  refine am_e0 hi_212_41 ?_
                  refine am_e1 (v := 1) hi_212_42 rfl ?_
                  refine am_e10 (z := 2) hi_212_43 (by decide) ?_
                  refine am_e0 hi_212_44 ?_
                  refine am_e1 (v := z826) hi_212_45 rfl ?_
                  refine am_e32w (as := [.ref 39, .int 2, .int 0, .int z826]) (la := [some (.ref 39), some (.int 2), some (.int 0), some (.int z826), none]) (rest := []) hi_212_46 (am_hd0 (M := 212) (by decide) 46) (Nat.le_of_ble_eq_true rfl) (Nat.le_of_ble_eq_true rfl) (show 4 ≤ am_P0.2.2.1 213 from by decide +kernel) rfl (am_recv_ok hS1578.fs) rfl rfl ?_
                  refine am_e2 (v := 39) hi_213_0 rfl ?_
                  refine am_e0 hi_213_1 ?_
                  refine am_e1 (v := 2) hi_213_3 rfl ?_
                  refine am_e1 (v := 0) hi_213_4 rfl ?_
                  refine am_e0 hi_213_5 ?_
                  refine am_e10 (z := 2) hi_213_6 (by decide) ?_
                  refine am_e1 (v := z826) hi_213_7 rfl ?_
                  refine am_e32n (as := [.ref 39, .int 13, .int 2, .int 2, .int z826]) (la := [some (.ref 39), some (.int 13), some (.int 2), some (.int 2), some (.int z826)]) (rest := []) hi_213_8 (am_hd0 (M := 213) (by decide) 8) (Nat.le_of_ble_eq_true rfl) (Nat.le_of_ble_eq_true rfl) (show 5 ≤ am_P0.2.2.1 189 from by decide +kernel) rfl (am_recv_ok hS1578.fs) rfl rfl (ct_put (d := (d + 3)) hS1578 hR1579  (by show (0 : Int) ≤ (f 32).toInt; omega) (by show (f 32).toInt ≤ (63 : Int); omega) (by show (f 53).toInt ≤ (4096 : Int); omega) (by show (0 : Int) ≤ z1567.toInt; omega) (by show z1567.toInt ≤ (65534 : Int); omega)) ?_
                  rintro v1580 S1581 (⟨z1582, r1583, g'1584, hv1585, hS1586, hR1590, h1587, h1588, h1589⟩)
                  subst hv1585
                  have h1587_ : z1582.toInt = z1567.toInt + 1 := h1587
                  have h1588_ : r1583.toInt = z1567.toInt := h1588
                  have h1589_ : ∀ j, j ∉ [60, 69, 70, 71, 72, 73] → g'1584 j = g'1569 j := h1589
                  replace hS1586 : MS S0 S1581 (upd (upd (upd (upd (upd f 4 z1576) 10 z1359) 62 o807) 68 z1582) 75 m809) g'1584 := hS1586
                  have hR1590_ : RJ (upd (upd (upd (upd (upd f 4 z1576) 10 z1359) 62 o807) 68 z1582) 75 m809) g'1584 (((28 : Int), (0 : Int), (0 : Int), (0 : Int), []) :: gs) bc [] 0 (z1567.toNatClampNeg :: (z840.toNatClampNeg :: (s808.toNatClampNeg :: []))) := hR1590
                  show am_E _ _ _ _ [some (.ref 39), some (.int 2), some (.int 0), some (.int z826), none] [.int r1583] _ _
                  refine am_e3 (ls' := [some (.ref 39), some (.int 2), some (.int 0), some (.int z826), some (.int r1583)]) hi_213_11 (Nat.le_of_ble_eq_true rfl) rfl ?_
                  refine am_e2 (v := 39) hi_213_13 rfl ?_
                  refine am_e7 hi_213_14 ?_
                  refine mm_20 (v := .int (f 15)) hS1586 hi_213_15 rfl ?_
                  refine am_e0 hi_213_18 ?_
                  obtain ⟨z1591, hz1591, tz1591⟩ := am_subI (x := f 15) (y := 1) (m := (f 15).toInt) (n := (1 : Int)) rfl (by decide) (by omega) (by omega)
                  refine am_e10 (z := z1591) hi_213_19 hz1591 ?_
                  refine mm_21 (v := z1591) hS1586 hi_213_20 rfl (Nat.le_of_ble_eq_true rfl) ms_15 ?_
                  intro S1592 hS1593
                  replace hS1593 : MS S0 S1592 (upd (upd (upd (upd (upd (upd f 4 z1576) 10 z1359) 15 z1591) 62 o807) 68 z1582) 75 m809) g'1584 := hS1593
                  have hp1594 : mj_n (g'810 16) (f 15).toNatClampNeg 3 = mj_n (g'810 16) z1591.toNatClampNeg 3 + if (g'810 16 z1591.toNatClampNeg).toInt = 3 then 1 else 0 := mj_pop (by rw [cl_toNat, cl_toNat]; omega)
                  have hp15941 : mj_n (g'810 16) z1591.toNatClampNeg 3 ≤ mj_n (g'810 16) (f 15).toNatClampNeg 3 := by rw [hp1594]; split <;> omega
                  have hp15942 : (g'810 16 z1591.toNatClampNeg).toInt = 3 → mj_n (g'810 16) z1591.toNatClampNeg 3 + 1 ≤ mj_n (g'810 16) (f 15).toNatClampNeg 3 := fun q => by rw [hp1594, if_pos q]; exact Int.le_refl _
                  refine am_e2 (v := 39) hi_213_23 rfl ?_
                  refine am_e0 hi_213_24 ?_
                  refine am_e1 (v := r1583) hi_213_25 rfl ?_
                  refine am_e1 (v := z826) hi_213_27 rfl ?_
                  refine am_e32n (as := [.ref 39, .int 1, .int r1583, .int z826]) (la := [some (.ref 39), some (.int 1), some (.int r1583), some (.int z826)]) (rest := []) hi_213_28 (am_hd0 (M := 213) (by decide) 28) (Nat.le_of_ble_eq_true rfl) (Nat.le_of_ble_eq_true rfl) (show 4 ≤ am_P0.2.2.1 190 from by decide +kernel) rfl (am_recv_ok hS1593.fs) rfl rfl (ct_value (d := (d + 3)) hS1593 hR1590_ (fun h => absurd h (by decide)) (fun _ => ⟨by omega, by omega⟩) (by show (0 : Int) ≤ z1591.toInt; omega) (by show z1591.toInt ≤ (32767 : Int); omega)) ?_
                  rintro v1595 S1596 (⟨z1597, g'1598, hv1599, hS1600, hR1605, h1601, h1602, h1603, h1604⟩)
                  subst hv1599
                  have h1601_ : z1597.toInt = z1591.toInt + 1 := h1601
                  have h1602_ : ∀ j, j ∉ [16, 17, 18] → g'1598 j = g'1584 j := h1602
                  have h1603_ : mj_n (g'1598 16) z1597.toNatClampNeg 3 ≤ mj_n (g'810 16) z1591.toNatClampNeg 3 + 1 := by rw [show g'1584 16 = g'1569 16 from h1589_ 16 (by decide), show g'1569 16 = g'1360 16 from h1574_ 16 (by decide), show g'1360 16 = g'842 16 from h1364_ 16 (by decide), show g'842 16 = g'810 16 from h847_ 16 (by decide)] at h1603; exact h1603
                  have h1604_ : (1 : Int) = 3 ∨ mj_n (g'1598 16) z1597.toNatClampNeg 3 ≤ mj_n (g'810 16) z1591.toNatClampNeg 3 := by rw [show g'1584 16 = g'1569 16 from h1589_ 16 (by decide), show g'1569 16 = g'1360 16 from h1574_ 16 (by decide), show g'1360 16 = g'842 16 from h1364_ 16 (by decide), show g'842 16 = g'810 16 from h847_ 16 (by decide)] at h1604; exact h1604
                  replace hS1600 : MS S0 S1596 (upd (upd (upd (upd (upd (upd f 4 z1576) 10 z1359) 15 z1597) 62 o807) 68 z1582) 75 m809) g'1598 := hS1600
                  have hR1605_ : RJ (upd (upd (upd (upd (upd (upd f 4 z1576) 10 z1359) 15 z1597) 62 o807) 68 z1582) 75 m809) g'1598 (((28 : Int), (0 : Int), (0 : Int), (0 : Int), []) :: gs) bc [] 0 (z1567.toNatClampNeg :: (z840.toNatClampNeg :: (s808.toNatClampNeg :: []))) := hR1605
                  show am_E _ _ _ _ [some (.ref 39), some (.int 2), some (.int 0), some (.int z826), some (.int r1583)] [] _ _
                  refine am_e35 hi_213_31 ?_
                  show am_E _ _ _ _ [some (.ref 39), some (.int 1), some (.int z826)] [] _ _
                  refine am_e18 hi_212_49 ?_
                  refine am_e35 hi_212_125 ?_
                  show am_E _ _ _ _ [some (.ref 39), some (.int r2), some (.int (f 4)), some (.int r851)] [] _ _
                  refine am_e18 hi_211_211 ?_
                  refine am_e35 hi_211_249 ?_
                  show am_E _ _ _ _ [some (.ref 39), some (.int 28), some (.int on), some (.int tw)] [] _ _
                  refine am_e18 hi_181_180 ?_
                  refine am_e35 hi_181_397 ?_
                  show am_E _ _ _ _ [some (.ref 39), some (.int 28), some (.int on), some (.int tw), some (.int th)] [] _ _
                  refine am_e35 hi_180_13 ?_
                  have q1 : mg_p1 (((28 : Int), (0 : Int), (0 : Int), (0 : Int), []) :: gs) = 0 + (mg_p1 gs) := rfl
                  have q2 : mg_p2 (((28 : Int), (0 : Int), (0 : Int), (0 : Int), []) :: gs) = 0 + (mg_p2 gs) := rfl
                  have q3 : mg_p3 (((28 : Int), (0 : Int), (0 : Int), (0 : Int), []) :: gs) = 1 + (mg_p3 gs) := rfl
                  have q4 : mg_p4 (((28 : Int), (0 : Int), (0 : Int), (0 : Int), []) :: gs) = 0 + (mg_p4 gs) := rfl
                  refine ⟨_, _, _, bc, rfl, hS1600, Or.inl ⟨⟨(RJ.fewer (pj' := []) hR1605_ (fun _ h => nomatch h)), ?_, ?_⟩, rfl, ?_⟩⟩
                  · exact (⟨⟨(show mg_k 28 from by decide), (show (1 : Int) ≤ z1597.toInt from by omega), (show 0 ≤ (f 20).toInt from by omega), (show 1 ≤ (f 37).toInt from by omega), (show 0 ≤ (f 32).toInt from by omega), (show (f 32).toInt ≤ (f 5).toInt from by omega), (show (f 5).toInt ≤ 48 from by omega), (show (f 37).toInt ≤ 2 * ((f 5).toInt) + 2 from by omega), trivial⟩, mg_cast (mg_good_ext _ _ _ _ _ _ (fun i _ => by show g'1598 34 i = g 34 i; rw [show g'1598 34 = g'1584 34 from h1602_ 34 (by decide), show g'1584 34 = g'1569 34 from h1589_ 34 (by decide), show g'1569 34 = g'1360 34 from h1574_ 34 (by decide), show g'1360 34 = g'842 34 from h1364_ 34 (by decide), show g'842 34 = g'810 34 from h847_ 34 (by decide), show g'810 34 = g 34 from h818_ 34 (by decide)]) (fun i _ => by show g'1598 38 i = g 38 i; rw [show g'1598 38 = g'1584 38 from h1602_ 38 (by decide), show g'1584 38 = g'1569 38 from h1589_ 38 (by decide), show g'1569 38 = g'1360 38 from h1574_ 38 (by decide), show g'1360 38 = g'842 38 from h1364_ 38 (by decide), show g'842 38 = g'810 38 from h847_ 38 (by decide), show g'810 38 = g 38 from h818_ 38 (by decide)]) (fun i _ => by show g'1598 23 i = g 23 i; rw [show g'1598 23 = g'1584 23 from h1602_ 23 (by decide), show g'1584 23 = g'1569 23 from h1589_ 23 (by decide), show g'1569 23 = g'1360 23 from h1574_ 23 (by decide), show g'1360 23 = g'842 23 from h1364_ 23 (by decide), show g'842 23 = g'810 23 from h847_ 23 (by decide), show g'810 23 = g 23 from h818_ 23 (by decide)]) hrest) (by show (f 15).toInt + 0 = z1597.toInt + 0; omega) (by show (f 20).toInt = (f 20).toInt; omega) (by show (f 37).toInt + 0 = (f 37).toInt + 0; omega) (by show (f 32).toInt + 0 = (f 32).toInt + 0; omega) (by show (f 5).toInt + 0 = (f 5).toInt + 0; omega)⟩ : mg_good (g'1598 34) (g'1598 38) (g'1598 23) (((28 : Int), (0 : Int), (0 : Int), (0 : Int), []) :: gs) (z1597.toInt) ((f 20).toInt) ((f 37).toInt) ((f 32).toInt) ((f 5).toInt))
                  · exact ⟨(by show 0 ≤ z1576.toInt; omega), (by show z1576.toInt ≤ (f 0).toInt; omega), (by show (f 0).toInt ≤ 512; omega), (by show 0 ≤ (f 24).toInt; omega), (by show (f 24).toInt + (f 20).toInt + mg_p1 (((28 : Int), (0 : Int), (0 : Int), (0 : Int), []) :: gs) ≤ 4 * z1576.toInt; omega), (by show (f 20).toInt ≤ z1576.toInt; omega), (by show z1597.toInt + mg_p2 (((28 : Int), (0 : Int), (0 : Int), (0 : Int), []) :: gs) ≤ z1576.toInt; omega), (by show mg_p3 (((28 : Int), (0 : Int), (0 : Int), (0 : Int), []) :: gs) ≤ 20 * z1576.toInt + 20; omega), (by show 0 ≤ z1582.toInt; omega), (by show z1582.toInt + 3 * (f 20).toInt + mg_p4 (((28 : Int), (0 : Int), (0 : Int), (0 : Int), []) :: gs) ≤ 60 * z1576.toInt + 60; omega), (by show 0 ≤ o807.toInt; omega), (by show o807.toInt + 64 * mj_n (g'1598 16) z1597.toNatClampNeg 3 ≤ 64 * z1576.toInt; omega), (by show 0 ≤ (f 44).toInt; omega), (by show (f 44).toInt ≤ z1576.toInt; omega), (by show 0 ≤ (f 48).toInt; omega), (by show (f 48).toInt ≤ z1576.toInt; omega), (by show 1 ≤ (f 53).toInt; omega), (by show (f 53).toInt ≤ z1576.toInt + 1; omega), (by show 0 ≤ (f 19).toInt; omega), (by show (f 19).toInt ≤ 600; omega)⟩
                  · show 100 * ((f 0).toInt - z1576.toInt) + mg_p3 (((28 : Int), (0 : Int), (0 : Int), (0 : Int), []) :: gs) < 100 * ((f 0).toInt - (f 4).toInt) + (1 + mg_p3 gs); omega
              · refine am_e13f hi_211_186 (am_cF (m := r851.toInt) (n := (62 : Int)) rfl (by decide) c1356) ?_
                refine am_e2 (v := 39) hi_211_189 rfl ?_
                refine am_e0 hi_211_190 ?_
                refine am_e32n (as := [.ref 39, .int 7]) (la := [some (.ref 39), some (.int 7)]) (rest := []) hi_211_192 (am_hd0 (M := 211) (by decide) 192) (Nat.le_of_ble_eq_true rfl) (Nat.le_of_ble_eq_true rfl) (show 2 ≤ am_P0.2.2.1 194 from by decide +kernel) rfl (am_recv_ok hS853.fs) rfl rfl (ct_fail (d := (d + 5)) hS853   ) ?_
                rintro v1606 S1607 (⟨a1608, b1609, hv1610, hS1611⟩)
                subst hv1610
                replace hS1611 : MS S0 S1607 (upd (upd (upd (upd (upd (upd (upd f 4 z826) 6 a1608) 7 b1609) 10 0) 62 o807) 68 z840) 75 m809) g'842 := hS1611
                have hR1613 := rj_clear0 hR848_
                have hR1614 : RJ (upd (upd (upd (upd (upd (upd (upd f 4 z826) 6 a1608) 7 b1609) 10 0) 62 o807) 68 z840) 75 m809) g'842 [] bc [] 0 [] := hR1613
                show am_E _ _ _ _ [some (.ref 39), some (.int r2), some (.int (f 4)), some (.int r851)] [.int 0] _ _
                refine am_e6i hi_211_195 ?_
                refine am_e35 hi_211_196 ?_
                show am_E _ _ _ _ [some (.ref 39), some (.int 28), some (.int on), some (.int tw)] [] _ _
                refine am_e18 hi_181_180 ?_
                refine am_e35 hi_181_397 ?_
                show am_E _ _ _ _ [some (.ref 39), some (.int 28), some (.int on), some (.int tw), some (.int th)] [] _ _
                refine am_e35 hi_180_13 ?_
                have hRc := rj_clear0 hR1614
                refine ⟨_, _, [], _, rfl, hS1611, Or.inr ⟨hRc, rfl, (by show 0 ≤ z826.toInt; omega), (by show z826.toInt ≤ (f 0).toInt; omega), (by show 0 ≤ (f 32).toInt; omega), (by show (f 32).toInt ≤ 63; omega), (by show 1 ≤ (f 53).toInt; omega), (by show (f 53).toInt ≤ 600; omega), (by show 0 ≤ z840.toInt; omega), (by show z840.toInt ≤ 60000; omega), (by show 0 ≤ (f 48).toInt; omega), (by show (f 48).toInt ≤ 8000; omega), (by show 0 ≤ (f 37).toInt; omega), (by show (f 37).toInt ≤ 128; omega), (by show 0 ≤ o807.toInt; omega), (by show o807.toInt ≤ 65000; omega), (by show 0 ≤ (f 19).toInt; omega), (by show (f 19).toInt ≤ 600; omega)⟩⟩
        · subst hv834
          replace hS835 : MS S0 S825 (upd (upd (upd (upd (upd (upd (upd f 4 z820) 6 a832) 7 b833) 10 0) 62 o807) 68 s808) 75 m809) g'810 := hS835
          have hR1615 := rj_clear0 hR823
          have hR1616 : RJ (upd (upd (upd (upd (upd (upd (upd f 4 z820) 6 a832) 7 b833) 10 0) 62 o807) 68 s808) 75 m809) g'810 [] bc [] 0 [] := hR1615
          show am_E _ _ _ _ [some (.ref 39), some (.int r2), some (.int (f 4)), none] [.int 0] _ _
          refine am_e12f hi_211_146 (by decide) ?_
          refine am_e35 hi_211_149 ?_
          show am_E _ _ _ _ [some (.ref 39), some (.int 28), some (.int on), some (.int tw)] [] _ _
          refine am_e18 hi_181_180 ?_
          refine am_e35 hi_181_397 ?_
          show am_E _ _ _ _ [some (.ref 39), some (.int 28), some (.int on), some (.int tw), some (.int th)] [] _ _
          refine am_e35 hi_180_13 ?_
          have hRc := rj_clear0 hR1616
          refine ⟨_, _, [], _, rfl, hS835, Or.inr ⟨hRc, rfl, (by show 0 ≤ z820.toInt; omega), (by show z820.toInt ≤ (f 0).toInt; omega), (by show 0 ≤ (f 32).toInt; omega), (by show (f 32).toInt ≤ 63; omega), (by show 1 ≤ (f 53).toInt; omega), (by show (f 53).toInt ≤ 600; omega), (by show 0 ≤ s808.toInt; omega), (by show s808.toInt ≤ 60000; omega), (by show 0 ≤ (f 48).toInt; omega), (by show (f 48).toInt ≤ 8000; omega), (by show 0 ≤ (f 37).toInt; omega), (by show (f 37).toInt ≤ 128; omega), (by show 0 ≤ o807.toInt; omega), (by show o807.toInt ≤ 65000; omega), (by show 0 ≤ (f 19).toInt; omega), (by show (f 19).toInt ≤ 600; omega)⟩⟩
    · refine am_e13f hi_211_78 (am_cF (m := r2.toInt) (n := (64 : Int)) rfl (by decide) c8) ?_
      refine am_e2 (v := 39) hi_211_81 rfl ?_
      refine am_e32n (as := [.ref 39]) (la := [some (.ref 39), none, none, none]) (rest := []) hi_211_82 (am_hd0 (M := 211) (by decide) 82) (Nat.le_of_ble_eq_true rfl) (Nat.le_of_ble_eq_true rfl) (show 1 ≤ am_P0.2.2.1 204 from by decide +kernel) rfl (am_recv_ok hS4.fs) rfl rfl (ct_load (d := (d + 3)) hS4 hR  (by show (0 : Int) ≤ (f 32).toInt; omega) (by show (f 32).toInt ≤ (63 : Int); omega) (by show (f 53).toInt ≤ (4096 : Int); omega) (by show (0 : Int) ≤ (f 68).toInt; omega) (by show (f 68).toInt ≤ (65534 : Int); omega) (by show (1 : Int) ≤ (f 15).toInt; omega) (by show (f 15).toInt ≤ (32767 : Int); omega) (by show (0 : Int) ≤ (f 24).toInt; omega) (by show (f 24).toInt ≤ (16384 : Int); omega) (by show (0 : Int) ≤ (f 62).toInt; omega) (by show (f 62).toInt ≤ (65000 : Int); omega)) ?_
      rintro v1617 S1618 (⟨o1619, s1620, m1621, g'1622, hv1623, hS1624, hR1631, h1625, h1626, h1627, h1628, h1629, h1630⟩)
      subst hv1623
      have h1625_ : (f 62).toInt ≤ o1619.toInt := h1625
      have h1626_ : o1619.toInt ≤ (f 62).toInt + 64 := h1626
      have h1627_ : (f 68).toInt ≤ s1620.toInt := h1627
      have h1628_ : s1620.toInt ≤ (f 68).toInt + 1 := h1628
      have h1629_ : o1619.toInt + 64 * mj_n (g'1622 16) (f 15).toNatClampNeg 3 ≤ (f 62).toInt + 64 * mj_n (g 16) (f 15).toNatClampNeg 3 := h1629
      have h1630_ : ∀ j, j ∉ [16, 60, 63, 64, 65, 66, 67, 69, 70, 71, 72, 73] → g'1622 j = g j := h1630
      have hR1631_ : RJ (upd (upd (upd f 62 o1619) 68 s1620) 75 m1621) g'1622 gs bc [] 0 [] := hR1631
      show am_E _ _ _ _ [some (.ref 39), some (.int r2), some (.int (f 4)), none] [] _ _
      refine am_e2 (v := 39) hi_211_85 rfl ?_
      refine am_e0 hi_211_86 ?_
      refine am_e32n (as := [.ref 39, .int 64]) (la := [some (.ref 39), some (.int 64)]) (rest := []) hi_211_88 (am_hd0 (M := 211) (by decide) 88) (Nat.le_of_ble_eq_true rfl) (Nat.le_of_ble_eq_true rfl) (show 2 ≤ am_P0.2.2.1 193 from by decide +kernel) rfl (am_recv_ok hS1624.fs) rfl rfl (ct_enter (d := (d + 3)) hS1624   (by show (0 : Int) ≤ (f 4).toInt; omega) (by show (f 0).toInt ≤ (16384 : Int); omega) (by show (0 : Int) ≤ (64 : Int); omega) (by show (0 : Int) ≤ (f 5).toInt; omega) (by show (f 5).toInt ≤ (48 : Int); omega)) ?_
      rintro v1632 S1633 (⟨z1634, y1635, hv1636, hS1637, h1638, h1639, h1640, h1641⟩ | ⟨a1643, b1644, hv1645, hS1646⟩)
      · subst hv1636
        have h1638_ : z1634.toInt = (f 4).toInt + 1 := h1638
        have h1639_ : (f 4).toInt < (f 0).toInt := h1639
        have h1640_ : y1635.toInt = (f 5).toInt + 1 := h1640
        have h1641_ : y1635.toInt ≤ (48 : Int) := h1641
        replace hS1637 : MS S0 S1633 (upd (upd (upd (upd (upd f 4 z1634) 5 y1635) 62 o1619) 68 s1620) 75 m1621) g'1622 := hS1637
        have hR1648 : RJ (upd (upd (upd (upd (upd f 4 z1634) 5 y1635) 62 o1619) 68 s1620) 75 m1621) g'1622 gs bc [] 0 [] := RJ.at hR1631_ (by show (f 4).toInt ≤ z1634.toInt; omega)
        show am_E _ _ _ _ [some (.ref 39), some (.int r2), some (.int (f 4)), none] [.int 1] _ _
        refine am_e12t hi_211_91 (by decide) ?_
        refine am_e2 (v := 39) hi_211_95 rfl ?_
        refine am_e0 hi_211_96 ?_
        refine am_e0 hi_211_98 ?_
        refine am_e0 hi_211_99 ?_
        refine am_e0 hi_211_100 ?_
        refine am_e32n (as := [.ref 39, .int 28, .int 0, .int 0, .int 0]) (la := [some (.ref 39), some (.int 28), some (.int 0), some (.int 0), some (.int 0)]) (rest := []) hi_211_101 (am_hd0 (M := 211) (by decide) 101) (Nat.le_of_ble_eq_true rfl) (Nat.le_of_ble_eq_true rfl) (show 5 ≤ am_P0.2.2.1 179 from by decide +kernel) rfl (am_recv_ok hS1637.fs) rfl rfl (ct_pile (d := (d + 5)) hS1637 hR1648 (mj_e_plain (by decide)) (by show (0 : Int) ≤ (f 10).toInt; omega) (by show (f 10).toInt ≤ (65535 : Int); omega)) ?_
        rintro v1649 S1650 (⟨z1651, g'1652, hv1653, hS1654, hR1657, h1655, h1656⟩)
        subst hv1653
        have h1655_ : z1651.toInt = (f 10).toInt + 1 := h1655
        have h1656_ : ∀ j, j ∉ [11, 12, 13, 14] → g'1652 j = g'1622 j := h1656
        replace hS1654 : MS S0 S1650 (upd (upd (upd (upd (upd (upd f 4 z1634) 5 y1635) 10 z1651) 62 o1619) 68 s1620) 75 m1621) g'1652 := hS1654
        have hR1657_ : RJ (upd (upd (upd (upd (upd (upd f 4 z1634) 5 y1635) 10 z1651) 62 o1619) 68 s1620) 75 m1621) g'1652 (((28 : Int), (0 : Int), (0 : Int), (0 : Int), []) :: gs) bc [] 0 [] := hR1657
        show am_E _ _ _ _ [some (.ref 39), some (.int r2), some (.int (f 4)), none] [] _ _
        refine am_e2 (v := 39) hi_211_104 rfl ?_
        refine am_e0 hi_211_105 ?_
        refine am_e1 (v := f 4) hi_211_107 rfl ?_
        refine am_e0 hi_211_108 ?_
        refine am_e0 hi_211_109 ?_
        refine am_e32n (as := [.ref 39, .int 30, .int (f 4), .int 0, .int 0]) (la := [some (.ref 39), some (.int 30), some (.int (f 4)), some (.int 0), some (.int 0)]) (rest := []) hi_211_110 (am_hd0 (M := 211) (by decide) 110) (Nat.le_of_ble_eq_true rfl) (Nat.le_of_ble_eq_true rfl) (show 5 ≤ am_P0.2.2.1 179 from by decide +kernel) rfl (am_recv_ok hS1654.fs) rfl rfl (ct_pile (d := (d + 5)) hS1654 hR1657_ (mj_e_plain (by decide)) (by show (0 : Int) ≤ z1651.toInt; omega) (by show z1651.toInt ≤ (65535 : Int); omega)) ?_
        rintro v1658 S1659 (⟨z1660, g'1661, hv1662, hS1663, hR1666, h1664, h1665⟩)
        subst hv1662
        have h1664_ : z1660.toInt = z1651.toInt + 1 := h1664
        have h1665_ : ∀ j, j ∉ [11, 12, 13, 14] → g'1661 j = g'1652 j := h1665
        replace hS1663 : MS S0 S1659 (upd (upd (upd (upd (upd (upd f 4 z1634) 5 y1635) 10 z1660) 62 o1619) 68 s1620) 75 m1621) g'1661 := hS1663
        have hR1666_ : RJ (upd (upd (upd (upd (upd (upd f 4 z1634) 5 y1635) 10 z1660) 62 o1619) 68 s1620) 75 m1621) g'1661 (((30 : Int), (f 4).toInt, (0 : Int), (0 : Int), []) :: (((28 : Int), (0 : Int), (0 : Int), (0 : Int), []) :: gs)) bc [] 0 [] := hR1666
        show am_E _ _ _ _ [some (.ref 39), some (.int r2), some (.int (f 4)), none] [] _ _
        refine am_e2 (v := 39) hi_211_113 rfl ?_
        refine am_e0 hi_211_114 ?_
        refine am_e32w (as := [.ref 39, .int 0]) (la := [some (.ref 39), some (.int 0)]) (rest := []) hi_211_115 (am_hd0 (M := 211) (by decide) 115) (Nat.le_of_ble_eq_true rfl) (Nat.le_of_ble_eq_true rfl) (show 2 ≤ am_P0.2.2.1 186 from by decide +kernel) rfl (am_recv_ok hS1663.fs) rfl rfl ?_
        refine am_e2 (v := 39) hi_186_0 rfl ?_
        refine am_e0 hi_186_1 ?_
        refine am_e1 (v := 0) hi_186_3 rfl ?_
        refine am_e0 hi_186_4 ?_
        refine am_e0 hi_186_5 ?_
        refine am_e32n (as := [.ref 39, .int 23, .int 0, .int 0, .int 0]) (la := [some (.ref 39), some (.int 23), some (.int 0), some (.int 0), some (.int 0)]) (rest := []) hi_186_6 (am_hd0 (M := 186) (by decide) 6) (Nat.le_of_ble_eq_true rfl) (Nat.le_of_ble_eq_true rfl) (show 5 ≤ am_P0.2.2.1 179 from by decide +kernel) rfl (am_recv_ok hS1663.fs) rfl rfl (ct_pile (d := (d + 4)) hS1663 hR1666_ (mj_e_plain (by decide)) (by show (0 : Int) ≤ z1660.toInt; omega) (by show z1660.toInt ≤ (65535 : Int); omega)) ?_
        rintro v1667 S1668 (⟨z1669, g'1670, hv1671, hS1672, hR1675, h1673, h1674⟩)
        subst hv1671
        have h1673_ : z1669.toInt = z1660.toInt + 1 := h1673
        have h1674_ : ∀ j, j ∉ [11, 12, 13, 14] → g'1670 j = g'1661 j := h1674
        replace hS1672 : MS S0 S1668 (upd (upd (upd (upd (upd (upd f 4 z1634) 5 y1635) 10 z1669) 62 o1619) 68 s1620) 75 m1621) g'1670 := hS1672
        have hR1675_ : RJ (upd (upd (upd (upd (upd (upd f 4 z1634) 5 y1635) 10 z1669) 62 o1619) 68 s1620) 75 m1621) g'1670 (((23 : Int), (0 : Int), (0 : Int), (0 : Int), []) :: (((30 : Int), (f 4).toInt, (0 : Int), (0 : Int), []) :: (((28 : Int), (0 : Int), (0 : Int), (0 : Int), []) :: gs))) bc [] 0 [] := hR1675
        show am_E _ _ _ _ [some (.ref 39), some (.int 0)] [] _ _
        refine am_e35 hi_186_9 ?_
        show am_E _ _ _ _ [some (.ref 39), some (.int r2), some (.int (f 4)), none] [] _ _
        refine am_e18 hi_211_118 ?_
        refine am_e35 hi_211_249 ?_
        show am_E _ _ _ _ [some (.ref 39), some (.int 28), some (.int on), some (.int tw)] [] _ _
        refine am_e18 hi_181_180 ?_
        refine am_e35 hi_181_397 ?_
        show am_E _ _ _ _ [some (.ref 39), some (.int 28), some (.int on), some (.int tw), some (.int th)] [] _ _
        refine am_e35 hi_180_13 ?_
        have q1 : mg_p1 (((23 : Int), (0 : Int), (0 : Int), (0 : Int), []) :: (((30 : Int), (f 4).toInt, (0 : Int), (0 : Int), []) :: (((28 : Int), (0 : Int), (0 : Int), (0 : Int), []) :: gs))) = 0 + (0 + (0 + (mg_p1 gs))) := rfl
        have q2 : mg_p2 (((23 : Int), (0 : Int), (0 : Int), (0 : Int), []) :: (((30 : Int), (f 4).toInt, (0 : Int), (0 : Int), []) :: (((28 : Int), (0 : Int), (0 : Int), (0 : Int), []) :: gs))) = 0 + (0 + (0 + (mg_p2 gs))) := rfl
        have q3 : mg_p3 (((23 : Int), (0 : Int), (0 : Int), (0 : Int), []) :: (((30 : Int), (f 4).toInt, (0 : Int), (0 : Int), []) :: (((28 : Int), (0 : Int), (0 : Int), (0 : Int), []) :: gs))) = 1 + (1 + (1 + (mg_p3 gs))) := rfl
        have q4 : mg_p4 (((23 : Int), (0 : Int), (0 : Int), (0 : Int), []) :: (((30 : Int), (f 4).toInt, (0 : Int), (0 : Int), []) :: (((28 : Int), (0 : Int), (0 : Int), (0 : Int), []) :: gs))) = 0 + (0 + (0 + (mg_p4 gs))) := rfl
        refine ⟨_, _, _, bc, rfl, hS1672, Or.inl ⟨⟨hR1675_, ?_, ?_⟩, rfl, ?_⟩⟩
        · exact (⟨⟨(show mg_k 23 from by decide), (show (0 : Int) ≤ (f 15).toInt from by omega), (show 0 ≤ (f 20).toInt from by omega), (show 1 ≤ (f 37).toInt from by omega), (show 0 ≤ (f 32).toInt from by omega), (show (f 32).toInt ≤ y1635.toInt from by omega), (show y1635.toInt ≤ 48 from by omega), (show (f 37).toInt ≤ 2 * (y1635.toInt) + 2 from by omega), (show 0 ≤ (0 : Int) from by omega)⟩, ⟨⟨(show mg_k 30 from by decide), (show (2 : Int) ≤ (f 15).toInt + 1 from by omega), (show 0 ≤ (f 20).toInt from by omega), (show 1 ≤ (f 37).toInt + 0 from by omega), (show 0 ≤ (f 32).toInt + 0 from by omega), (show (f 32).toInt + 0 ≤ y1635.toInt + 0 from by omega), (show y1635.toInt + 0 ≤ 48 from by omega), (show (f 37).toInt + 0 ≤ 2 * (y1635.toInt + 0) + 2 from by omega), trivial⟩, ⟨⟨(show mg_k 28 from by decide), (show (1 : Int) ≤ (f 15).toInt + 1 + -1 from by omega), (show 0 ≤ (f 20).toInt from by omega), (show 1 ≤ (f 37).toInt + 0 + 0 from by omega), (show 0 ≤ (f 32).toInt + 0 + 0 from by omega), (show (f 32).toInt + 0 + 0 ≤ y1635.toInt + 0 + -1 from by omega), (show y1635.toInt + 0 + -1 ≤ 48 from by omega), (show (f 37).toInt + 0 + 0 ≤ 2 * (y1635.toInt + 0 + -1) + 2 from by omega), trivial⟩, mg_cast (mg_good_ext _ _ _ _ _ _ (fun i _ => by show g'1670 34 i = g 34 i; rw [show g'1670 34 = g'1661 34 from h1674_ 34 (by decide), show g'1661 34 = g'1652 34 from h1665_ 34 (by decide), show g'1652 34 = g'1622 34 from h1656_ 34 (by decide), show g'1622 34 = g 34 from h1630_ 34 (by decide)]) (fun i _ => by show g'1670 38 i = g 38 i; rw [show g'1670 38 = g'1661 38 from h1674_ 38 (by decide), show g'1661 38 = g'1652 38 from h1665_ 38 (by decide), show g'1652 38 = g'1622 38 from h1656_ 38 (by decide), show g'1622 38 = g 38 from h1630_ 38 (by decide)]) (fun i _ => by show g'1670 23 i = g 23 i; rw [show g'1670 23 = g'1661 23 from h1674_ 23 (by decide), show g'1661 23 = g'1652 23 from h1665_ 23 (by decide), show g'1652 23 = g'1622 23 from h1656_ 23 (by decide), show g'1622 23 = g 23 from h1630_ 23 (by decide)]) hrest) (by show (f 15).toInt + 0 = (f 15).toInt + 1 + -1 + 0; omega) (by show (f 20).toInt = (f 20).toInt; omega) (by show (f 37).toInt + 0 = (f 37).toInt + 0 + 0 + 0; omega) (by show (f 32).toInt + 0 = (f 32).toInt + 0 + 0 + 0; omega) (by show (f 5).toInt + 0 = y1635.toInt + 0 + -1 + 0; omega)⟩⟩⟩ : mg_good (g'1670 34) (g'1670 38) (g'1670 23) (((23 : Int), (0 : Int), (0 : Int), (0 : Int), []) :: (((30 : Int), (f 4).toInt, (0 : Int), (0 : Int), []) :: (((28 : Int), (0 : Int), (0 : Int), (0 : Int), []) :: gs))) ((f 15).toInt) ((f 20).toInt) ((f 37).toInt) ((f 32).toInt) (y1635.toInt))
        · exact ⟨(by show 0 ≤ z1634.toInt; omega), (by show z1634.toInt ≤ (f 0).toInt; omega), (by show (f 0).toInt ≤ 512; omega), (by show 0 ≤ (f 24).toInt; omega), (by show (f 24).toInt + (f 20).toInt + mg_p1 (((23 : Int), (0 : Int), (0 : Int), (0 : Int), []) :: (((30 : Int), (f 4).toInt, (0 : Int), (0 : Int), []) :: (((28 : Int), (0 : Int), (0 : Int), (0 : Int), []) :: gs))) ≤ 4 * z1634.toInt; omega), (by show (f 20).toInt ≤ z1634.toInt; omega), (by show (f 15).toInt + mg_p2 (((23 : Int), (0 : Int), (0 : Int), (0 : Int), []) :: (((30 : Int), (f 4).toInt, (0 : Int), (0 : Int), []) :: (((28 : Int), (0 : Int), (0 : Int), (0 : Int), []) :: gs))) ≤ z1634.toInt; omega), (by show mg_p3 (((23 : Int), (0 : Int), (0 : Int), (0 : Int), []) :: (((30 : Int), (f 4).toInt, (0 : Int), (0 : Int), []) :: (((28 : Int), (0 : Int), (0 : Int), (0 : Int), []) :: gs))) ≤ 20 * z1634.toInt + 20; omega), (by show 0 ≤ s1620.toInt; omega), (by show s1620.toInt + 3 * (f 20).toInt + mg_p4 (((23 : Int), (0 : Int), (0 : Int), (0 : Int), []) :: (((30 : Int), (f 4).toInt, (0 : Int), (0 : Int), []) :: (((28 : Int), (0 : Int), (0 : Int), (0 : Int), []) :: gs))) ≤ 60 * z1634.toInt + 60; omega), (by show 0 ≤ o1619.toInt; omega), (by show o1619.toInt + 64 * mj_n (g'1670 16) (f 15).toNatClampNeg 3 ≤ 64 * z1634.toInt; rw [show g'1670 16 = g'1661 16 from h1674_ 16 (by decide), show g'1661 16 = g'1652 16 from h1665_ 16 (by decide), show g'1652 16 = g'1622 16 from h1656_ 16 (by decide)]; omega), (by show 0 ≤ (f 44).toInt; omega), (by show (f 44).toInt ≤ z1634.toInt; omega), (by show 0 ≤ (f 48).toInt; omega), (by show (f 48).toInt ≤ z1634.toInt; omega), (by show 1 ≤ (f 53).toInt; omega), (by show (f 53).toInt ≤ z1634.toInt + 1; omega), (by show 0 ≤ (f 19).toInt; omega), (by show (f 19).toInt ≤ 600; omega)⟩
        · show 100 * ((f 0).toInt - z1634.toInt) + mg_p3 (((23 : Int), (0 : Int), (0 : Int), (0 : Int), []) :: (((30 : Int), (f 4).toInt, (0 : Int), (0 : Int), []) :: (((28 : Int), (0 : Int), (0 : Int), (0 : Int), []) :: gs))) < 100 * ((f 0).toInt - (f 4).toInt) + (1 + mg_p3 gs); omega
      · subst hv1645
        replace hS1646 : MS S0 S1633 (upd (upd (upd (upd (upd (upd f 6 a1643) 7 b1644) 10 0) 62 o1619) 68 s1620) 75 m1621) g'1622 := hS1646
        have hR1676 := rj_clear0 hR1631_
        have hR1677 : RJ (upd (upd (upd (upd (upd (upd f 6 a1643) 7 b1644) 10 0) 62 o1619) 68 s1620) 75 m1621) g'1622 [] bc [] 0 [] := hR1676
        show am_E _ _ _ _ [some (.ref 39), some (.int r2), some (.int (f 4)), none] [.int 0] _ _
        refine am_e12f hi_211_91 (by decide) ?_
        refine am_e35 hi_211_94 ?_
        show am_E _ _ _ _ [some (.ref 39), some (.int 28), some (.int on), some (.int tw)] [] _ _
        refine am_e18 hi_181_180 ?_
        refine am_e35 hi_181_397 ?_
        show am_E _ _ _ _ [some (.ref 39), some (.int 28), some (.int on), some (.int tw), some (.int th)] [] _ _
        refine am_e35 hi_180_13 ?_
        have hRc := rj_clear0 hR1677
        refine ⟨_, _, [], _, rfl, hS1646, Or.inr ⟨hRc, rfl, (by show 0 ≤ (f 4).toInt; omega), (by show (f 4).toInt ≤ (f 0).toInt; omega), (by show 0 ≤ (f 32).toInt; omega), (by show (f 32).toInt ≤ 63; omega), (by show 1 ≤ (f 53).toInt; omega), (by show (f 53).toInt ≤ 600; omega), (by show 0 ≤ s1620.toInt; omega), (by show s1620.toInt ≤ 60000; omega), (by show 0 ≤ (f 48).toInt; omega), (by show (f 48).toInt ≤ 8000; omega), (by show 0 ≤ (f 37).toInt; omega), (by show (f 37).toInt ≤ 128; omega), (by show 0 ≤ o1619.toInt; omega), (by show o1619.toInt ≤ 65000; omega), (by show 0 ≤ (f 19).toInt; omega), (by show (f 19).toInt ≤ 600; omega)⟩⟩
  · refine am_e13f hi_211_13 (am_cF (m := r2.toInt) (n := (70 : Int)) rfl (by decide) c7) ?_
    refine am_e2 (v := 39) hi_211_16 rfl ?_
    refine am_e32n (as := [.ref 39]) (la := [some (.ref 39), none, none, none]) (rest := []) hi_211_17 (am_hd0 (M := 211) (by decide) 17) (Nat.le_of_ble_eq_true rfl) (Nat.le_of_ble_eq_true rfl) (show 1 ≤ am_P0.2.2.1 204 from by decide +kernel) rfl (am_recv_ok hS4.fs) rfl rfl (ct_load (d := (d + 3)) hS4 hR  (by show (0 : Int) ≤ (f 32).toInt; omega) (by show (f 32).toInt ≤ (63 : Int); omega) (by show (f 53).toInt ≤ (4096 : Int); omega) (by show (0 : Int) ≤ (f 68).toInt; omega) (by show (f 68).toInt ≤ (65534 : Int); omega) (by show (1 : Int) ≤ (f 15).toInt; omega) (by show (f 15).toInt ≤ (32767 : Int); omega) (by show (0 : Int) ≤ (f 24).toInt; omega) (by show (f 24).toInt ≤ (16384 : Int); omega) (by show (0 : Int) ≤ (f 62).toInt; omega) (by show (f 62).toInt ≤ (65000 : Int); omega)) ?_
    rintro v1678 S1679 (⟨o1680, s1681, m1682, g'1683, hv1684, hS1685, hR1692, h1686, h1687, h1688, h1689, h1690, h1691⟩)
    subst hv1684
    have h1686_ : (f 62).toInt ≤ o1680.toInt := h1686
    have h1687_ : o1680.toInt ≤ (f 62).toInt + 64 := h1687
    have h1688_ : (f 68).toInt ≤ s1681.toInt := h1688
    have h1689_ : s1681.toInt ≤ (f 68).toInt + 1 := h1689
    have h1690_ : o1680.toInt + 64 * mj_n (g'1683 16) (f 15).toNatClampNeg 3 ≤ (f 62).toInt + 64 * mj_n (g 16) (f 15).toNatClampNeg 3 := h1690
    have h1691_ : ∀ j, j ∉ [16, 60, 63, 64, 65, 66, 67, 69, 70, 71, 72, 73] → g'1683 j = g j := h1691
    have hR1692_ : RJ (upd (upd (upd f 62 o1680) 68 s1681) 75 m1682) g'1683 gs bc [] 0 [] := hR1692
    show am_E _ _ _ _ [some (.ref 39), some (.int r2), some (.int (f 4)), none] [] _ _
    refine am_e2 (v := 39) hi_211_20 rfl ?_
    refine am_e7 hi_211_21 ?_
    refine mm_20 (v := .int (f 4)) hS1685 hi_211_22 rfl ?_
    refine am_e0 hi_211_25 ?_
    obtain ⟨z1693, hz1693, tz1693⟩ := am_addI (x := f 4) (y := 1) (m := (f 4).toInt) (n := (1 : Int)) rfl (by decide) (by omega) (by omega)
    refine am_e10 (z := z1693) hi_211_26 hz1693 ?_
    refine mm_21 (v := z1693) hS1685 hi_211_27 rfl (Nat.le_of_ble_eq_true rfl) ms_4 ?_
    intro S1694 hS1695
    replace hS1695 : MS S0 S1694 (upd (upd (upd (upd f 4 z1693) 62 o1680) 68 s1681) 75 m1682) g'1683 := hS1695
    have hR1696 : RJ (upd (upd (upd (upd f 4 z1693) 62 o1680) 68 s1681) 75 m1682) g'1683 gs bc [] 0 [] := RJ.at hR1692_ (by show (f 4).toInt ≤ z1693.toInt; omega)
    refine am_e2 (v := 39) hi_211_30 rfl ?_
    refine am_e0 hi_211_31 ?_
    refine am_e32n (as := [.ref 39, .int 1]) (la := [some (.ref 39), some (.int 1)]) (rest := []) hi_211_32 (am_hd0 (M := 211) (by decide) 32) (Nat.le_of_ble_eq_true rfl) (Nat.le_of_ble_eq_true rfl) (show 2 ≤ am_P0.2.2.1 200 from by decide +kernel) rfl (am_recv_ok hS1695.fs) rfl rfl (ct_take (d := (d + 3)) hS1695   (by show (0 : Int) ≤ z1693.toInt; omega) (by show (f 0).toInt ≤ (16384 : Int); omega) (by show (0 : Int) ≤ (1 : Int); omega)) ?_
    rintro v1697 S1698 (⟨z1699, hv1700, hS1701, h1702, h1703⟩ | ⟨a1705, b1706, hv1707, hS1708⟩)
    · subst hv1700
      have h1702_ : z1699.toInt = z1693.toInt + 1 := h1702
      have h1703_ : z1693.toInt < (f 0).toInt := h1703
      replace hS1701 : MS S0 S1698 (upd (upd (upd (upd f 4 z1699) 62 o1680) 68 s1681) 75 m1682) g'1683 := hS1701
      have hR1710 : RJ (upd (upd (upd (upd f 4 z1699) 62 o1680) 68 s1681) 75 m1682) g'1683 gs bc [] 0 [] := RJ.at hR1696 (by show z1693.toInt ≤ z1699.toInt; omega)
      show am_E _ _ _ _ [some (.ref 39), some (.int r2), some (.int (f 4)), none] [.int 1] _ _
      refine am_e12t hi_211_35 (by decide) ?_
      refine am_e2 (v := 39) hi_211_39 rfl ?_
      refine am_e7 hi_211_40 ?_
      refine mm_20 (v := .int (f 15)) hS1701 hi_211_41 rfl ?_
      refine am_e0 hi_211_44 ?_
      obtain ⟨z1711, hz1711, tz1711⟩ := am_subI (x := f 15) (y := 1) (m := (f 15).toInt) (n := (1 : Int)) rfl (by decide) (by omega) (by omega)
      refine am_e10 (z := z1711) hi_211_45 hz1711 ?_
      refine mm_21 (v := z1711) hS1701 hi_211_46 rfl (Nat.le_of_ble_eq_true rfl) ms_15 ?_
      intro S1712 hS1713
      replace hS1713 : MS S0 S1712 (upd (upd (upd (upd (upd f 4 z1699) 15 z1711) 62 o1680) 68 s1681) 75 m1682) g'1683 := hS1713
      have hp1714 : mj_n (g'1683 16) (f 15).toNatClampNeg 3 = mj_n (g'1683 16) z1711.toNatClampNeg 3 + if (g'1683 16 z1711.toNatClampNeg).toInt = 3 then 1 else 0 := mj_pop (by rw [cl_toNat, cl_toNat]; omega)
      have hp17141 : mj_n (g'1683 16) z1711.toNatClampNeg 3 ≤ mj_n (g'1683 16) (f 15).toNatClampNeg 3 := by rw [hp1714]; split <;> omega
      have hp17142 : (g'1683 16 z1711.toNatClampNeg).toInt = 3 → mj_n (g'1683 16) z1711.toNatClampNeg 3 + 1 ≤ mj_n (g'1683 16) (f 15).toNatClampNeg 3 := fun q => by rw [hp1714, if_pos q]; exact Int.le_refl _
      refine am_e2 (v := 39) hi_211_49 rfl ?_
      refine am_e0 hi_211_50 ?_
      refine am_e2 (v := 39) hi_211_51 rfl ?_
      refine mm_20 (v := .ref 41) hS1713 hi_211_52 rfl ?_
      refine am_e1 (v := f 4) hi_211_55 rfl ?_
      refine am_e0 hi_211_56 ?_
      refine am_e10 (z := z1693) hi_211_57 hz1693 ?_
      refine mm_25 hS1713 ma_2 hi_211_58 (by decide) (by omega) (by omega) ?_
      show am_E _ _ _ _ _ (.int (g'1683 2 z1693.toNatClampNeg) :: _) _ _
      rw [show g'1683 2 = g 2 from h1691_ 2 (by decide)]
      show am_E _ _ _ _ [some (.ref 39), some (.int r2), some (.int (f 4)), none] [.int (g 2 z1693.toNatClampNeg), .int 5, .ref 39] _ _
      refine am_e1 (v := f 4) hi_211_59 rfl ?_
      refine am_e32n (as := [.ref 39, .int 5, .int (g 2 z1693.toNatClampNeg), .int (f 4)]) (la := [some (.ref 39), some (.int 5), some (.int (g 2 z1693.toNatClampNeg)), some (.int (f 4))]) (rest := []) hi_211_60 (am_hd0 (M := 211) (by decide) 60) (Nat.le_of_ble_eq_true rfl) (Nat.le_of_ble_eq_true rfl) (show 4 ≤ am_P0.2.2.1 190 from by decide +kernel) rfl (am_recv_ok hS1713.fs) rfl rfl (ct_value (d := (d + 5)) hS1713 hR1710 (fun h => absurd h (by decide)) (fun h => absurd h (by decide)) (by show (0 : Int) ≤ z1711.toInt; omega) (by show z1711.toInt ≤ (32767 : Int); omega)) ?_
      rintro v1715 S1716 (⟨z1717, g'1718, hv1719, hS1720, hR1725, h1721, h1722, h1723, h1724⟩)
      subst hv1719
      have h1721_ : z1717.toInt = z1711.toInt + 1 := h1721
      have h1722_ : ∀ j, j ∉ [16, 17, 18] → g'1718 j = g'1683 j := h1722
      have h1723_ : mj_n (g'1718 16) z1717.toNatClampNeg 3 ≤ mj_n (g'1683 16) z1711.toNatClampNeg 3 + 1 := h1723
      have h1724_ : (5 : Int) = 3 ∨ mj_n (g'1718 16) z1717.toNatClampNeg 3 ≤ mj_n (g'1683 16) z1711.toNatClampNeg 3 := h1724
      replace hS1720 : MS S0 S1716 (upd (upd (upd (upd (upd f 4 z1699) 15 z1717) 62 o1680) 68 s1681) 75 m1682) g'1718 := hS1720
      have hR1725_ : RJ (upd (upd (upd (upd (upd f 4 z1699) 15 z1717) 62 o1680) 68 s1681) 75 m1682) g'1718 gs bc [] 0 [] := hR1725
      show am_E _ _ _ _ [some (.ref 39), some (.int r2), some (.int (f 4)), none] [] _ _
      refine am_e2 (v := 39) hi_211_63 rfl ?_
      refine am_e0 hi_211_64 ?_
      refine am_e0 hi_211_66 ?_
      refine am_e0 hi_211_67 ?_
      refine am_e0 hi_211_68 ?_
      refine am_e32n (as := [.ref 39, .int 28, .int 0, .int 0, .int 0]) (la := [some (.ref 39), some (.int 28), some (.int 0), some (.int 0), some (.int 0)]) (rest := []) hi_211_69 (am_hd0 (M := 211) (by decide) 69) (Nat.le_of_ble_eq_true rfl) (Nat.le_of_ble_eq_true rfl) (show 5 ≤ am_P0.2.2.1 179 from by decide +kernel) rfl (am_recv_ok hS1720.fs) rfl rfl (ct_pile (d := (d + 5)) hS1720 hR1725_ (mj_e_plain (by decide)) (by show (0 : Int) ≤ (f 10).toInt; omega) (by show (f 10).toInt ≤ (65535 : Int); omega)) ?_
      rintro v1726 S1727 (⟨z1728, g'1729, hv1730, hS1731, hR1734, h1732, h1733⟩)
      subst hv1730
      have h1732_ : z1728.toInt = (f 10).toInt + 1 := h1732
      have h1733_ : ∀ j, j ∉ [11, 12, 13, 14] → g'1729 j = g'1718 j := h1733
      replace hS1731 : MS S0 S1727 (upd (upd (upd (upd (upd (upd f 4 z1699) 10 z1728) 15 z1717) 62 o1680) 68 s1681) 75 m1682) g'1729 := hS1731
      have hR1734_ : RJ (upd (upd (upd (upd (upd (upd f 4 z1699) 10 z1728) 15 z1717) 62 o1680) 68 s1681) 75 m1682) g'1729 (((28 : Int), (0 : Int), (0 : Int), (0 : Int), []) :: gs) bc [] 0 [] := hR1734
      show am_E _ _ _ _ [some (.ref 39), some (.int r2), some (.int (f 4)), none] [] _ _
      refine am_e18 hi_211_72 ?_
      refine am_e35 hi_211_249 ?_
      show am_E _ _ _ _ [some (.ref 39), some (.int 28), some (.int on), some (.int tw)] [] _ _
      refine am_e18 hi_181_180 ?_
      refine am_e35 hi_181_397 ?_
      show am_E _ _ _ _ [some (.ref 39), some (.int 28), some (.int on), some (.int tw), some (.int th)] [] _ _
      refine am_e35 hi_180_13 ?_
      have q1 : mg_p1 (((28 : Int), (0 : Int), (0 : Int), (0 : Int), []) :: gs) = 0 + (mg_p1 gs) := rfl
      have q2 : mg_p2 (((28 : Int), (0 : Int), (0 : Int), (0 : Int), []) :: gs) = 0 + (mg_p2 gs) := rfl
      have q3 : mg_p3 (((28 : Int), (0 : Int), (0 : Int), (0 : Int), []) :: gs) = 1 + (mg_p3 gs) := rfl
      have q4 : mg_p4 (((28 : Int), (0 : Int), (0 : Int), (0 : Int), []) :: gs) = 0 + (mg_p4 gs) := rfl
      refine ⟨_, _, _, bc, rfl, hS1731, Or.inl ⟨⟨hR1734_, ?_, ?_⟩, rfl, ?_⟩⟩
      · exact (⟨⟨(show mg_k 28 from by decide), (show (1 : Int) ≤ z1717.toInt from by omega), (show 0 ≤ (f 20).toInt from by omega), (show 1 ≤ (f 37).toInt from by omega), (show 0 ≤ (f 32).toInt from by omega), (show (f 32).toInt ≤ (f 5).toInt from by omega), (show (f 5).toInt ≤ 48 from by omega), (show (f 37).toInt ≤ 2 * ((f 5).toInt) + 2 from by omega), trivial⟩, mg_cast (mg_good_ext _ _ _ _ _ _ (fun i _ => by show g'1729 34 i = g 34 i; rw [show g'1729 34 = g'1718 34 from h1733_ 34 (by decide), show g'1718 34 = g'1683 34 from h1722_ 34 (by decide), show g'1683 34 = g 34 from h1691_ 34 (by decide)]) (fun i _ => by show g'1729 38 i = g 38 i; rw [show g'1729 38 = g'1718 38 from h1733_ 38 (by decide), show g'1718 38 = g'1683 38 from h1722_ 38 (by decide), show g'1683 38 = g 38 from h1691_ 38 (by decide)]) (fun i _ => by show g'1729 23 i = g 23 i; rw [show g'1729 23 = g'1718 23 from h1733_ 23 (by decide), show g'1718 23 = g'1683 23 from h1722_ 23 (by decide), show g'1683 23 = g 23 from h1691_ 23 (by decide)]) hrest) (by show (f 15).toInt + 0 = z1717.toInt + 0; omega) (by show (f 20).toInt = (f 20).toInt; omega) (by show (f 37).toInt + 0 = (f 37).toInt + 0; omega) (by show (f 32).toInt + 0 = (f 32).toInt + 0; omega) (by show (f 5).toInt + 0 = (f 5).toInt + 0; omega)⟩ : mg_good (g'1729 34) (g'1729 38) (g'1729 23) (((28 : Int), (0 : Int), (0 : Int), (0 : Int), []) :: gs) (z1717.toInt) ((f 20).toInt) ((f 37).toInt) ((f 32).toInt) ((f 5).toInt))
      · exact ⟨(by show 0 ≤ z1699.toInt; omega), (by show z1699.toInt ≤ (f 0).toInt; omega), (by show (f 0).toInt ≤ 512; omega), (by show 0 ≤ (f 24).toInt; omega), (by show (f 24).toInt + (f 20).toInt + mg_p1 (((28 : Int), (0 : Int), (0 : Int), (0 : Int), []) :: gs) ≤ 4 * z1699.toInt; omega), (by show (f 20).toInt ≤ z1699.toInt; omega), (by show z1717.toInt + mg_p2 (((28 : Int), (0 : Int), (0 : Int), (0 : Int), []) :: gs) ≤ z1699.toInt; omega), (by show mg_p3 (((28 : Int), (0 : Int), (0 : Int), (0 : Int), []) :: gs) ≤ 20 * z1699.toInt + 20; omega), (by show 0 ≤ s1681.toInt; omega), (by show s1681.toInt + 3 * (f 20).toInt + mg_p4 (((28 : Int), (0 : Int), (0 : Int), (0 : Int), []) :: gs) ≤ 60 * z1699.toInt + 60; omega), (by show 0 ≤ o1680.toInt; omega), (by show o1680.toInt + 64 * mj_n (g'1729 16) z1717.toNatClampNeg 3 ≤ 64 * z1699.toInt; rw [show g'1729 16 = g'1718 16 from h1733_ 16 (by decide)]; omega), (by show 0 ≤ (f 44).toInt; omega), (by show (f 44).toInt ≤ z1699.toInt; omega), (by show 0 ≤ (f 48).toInt; omega), (by show (f 48).toInt ≤ z1699.toInt; omega), (by show 1 ≤ (f 53).toInt; omega), (by show (f 53).toInt ≤ z1699.toInt + 1; omega), (by show 0 ≤ (f 19).toInt; omega), (by show (f 19).toInt ≤ 600; omega)⟩
      · show 100 * ((f 0).toInt - z1699.toInt) + mg_p3 (((28 : Int), (0 : Int), (0 : Int), (0 : Int), []) :: gs) < 100 * ((f 0).toInt - (f 4).toInt) + (1 + mg_p3 gs); omega
    · subst hv1707
      replace hS1708 : MS S0 S1698 (upd (upd (upd (upd (upd (upd (upd f 4 z1693) 6 a1705) 7 b1706) 10 0) 62 o1680) 68 s1681) 75 m1682) g'1683 := hS1708
      have hR1735 := rj_clear0 hR1696
      have hR1736 : RJ (upd (upd (upd (upd (upd (upd (upd f 4 z1693) 6 a1705) 7 b1706) 10 0) 62 o1680) 68 s1681) 75 m1682) g'1683 [] bc [] 0 [] := hR1735
      show am_E _ _ _ _ [some (.ref 39), some (.int r2), some (.int (f 4)), none] [.int 0] _ _
      refine am_e12f hi_211_35 (by decide) ?_
      refine am_e35 hi_211_38 ?_
      show am_E _ _ _ _ [some (.ref 39), some (.int 28), some (.int on), some (.int tw)] [] _ _
      refine am_e18 hi_181_180 ?_
      refine am_e35 hi_181_397 ?_
      show am_E _ _ _ _ [some (.ref 39), some (.int 28), some (.int on), some (.int tw), some (.int th)] [] _ _
      refine am_e35 hi_180_13 ?_
      have hRc := rj_clear0 hR1736
      refine ⟨_, _, [], _, rfl, hS1708, Or.inr ⟨hRc, rfl, (by show 0 ≤ z1693.toInt; omega), (by show z1693.toInt ≤ (f 0).toInt; omega), (by show 0 ≤ (f 32).toInt; omega), (by show (f 32).toInt ≤ 63; omega), (by show 1 ≤ (f 53).toInt; omega), (by show (f 53).toInt ≤ 600; omega), (by show 0 ≤ s1681.toInt; omega), (by show s1681.toInt ≤ 60000; omega), (by show 0 ≤ (f 48).toInt; omega), (by show (f 48).toInt ≤ 8000; omega), (by show 0 ≤ (f 37).toInt; omega), (by show (f 37).toInt ≤ 128; omega), (by show 0 ≤ o1680.toInt; omega), (by show o1680.toInt ≤ 65000; omega), (by show 0 ≤ (f 19).toInt; omega), (by show (f 19).toInt ≤ 600; omega)⟩⟩
