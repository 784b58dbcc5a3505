/-! STEPS: prefixes (printed by wip/p2/st1.py) -/
theorem st_28 {sc : Nat × (Nat → Int32)} {d : Nat} {S0 S : am_S} {f : Nat → Int32} {g : Nat → Nat → Int32} {on : Int32} {tw : Int32} {th : Int32} {gs : List mg_E} {bc : List (List Nat)} (hS : MS S0 S f g) (hR : RJ f g gs bc [] 0 []) (hrest : mg_good (g 34) (g 38) gs ((f 15).toInt + 0) ((f 20).toInt) ((f 37).toInt + 0) ((f 32).toInt + 0) ((f 5).toInt + 0)) (p0 : 0 ≤ (f 4).toInt) (p1 : (f 4).toInt ≤ (f 0).toInt) (p2 : (f 0).toInt ≤ 512) (p3 : 0 ≤ (f 24).toInt) (p4 : (f 24).toInt + (f 20).toInt + mg_p1 gs ≤ 4 * (f 4).toInt) (p5 : (f 20).toInt ≤ (f 4).toInt) (p6 : (f 15).toInt + 0 + mg_p2 gs ≤ (f 4).toInt) (p7 : 1 + mg_p3 gs ≤ 20 * (f 4).toInt + 20) (p8 : 0 ≤ (f 68).toInt) (p9 : (f 68).toInt + 3 * (f 20).toInt + 0 + mg_p4 gs ≤ 60 * (f 4).toInt + 60) (p10 : 0 ≤ (f 62).toInt) (p11 : (f 62).toInt + 64 * mj_n (g 16) (f 15).toNatClampNeg 3 ≤ 64 * (f 4).toInt) (p12 : 0 ≤ (f 44).toInt) (p13 : (f 44).toInt ≤ (f 4).toInt) (p14 : 0 ≤ (f 48).toInt) (p15 : (f 48).toInt ≤ (f 4).toInt) (p16 : 1 ≤ (f 53).toInt) (p17 : (f 53).toInt ≤ (f 4).toInt + 1) (p18 : 0 ≤ mg_p1 gs) (p19 : 0 ≤ mg_p2 gs) (p20 : 0 ≤ mg_p4 gs) (p21 : 0 ≤ (f 10).toInt) (p22 : (f 10).toInt ≤ mg_p3 gs) (p23 : 0 ≤ mj_n (g 16) (f 15).toNatClampNeg 3) (p24 : 1 ≤ (f 15).toInt) (p25 : 0 ≤ (f 20).toInt) (p26 : 1 ≤ (f 37).toInt) (p27 : 0 ≤ (f 32).toInt) (p28 : (f 32).toInt ≤ (f 5).toInt) (p29 : (f 5).toInt ≤ 48) (p30 : (f 37).toInt ≤ 2 * (f 5).toInt + 2) : am_E (am_PP sc) (d + 8) 180 0 [some (.ref 39), some (.int 28), some (.int on), some (.int tw), some (.int th)] [] S (am_N fun v S1 => ∃ (f' : Nat → Int32) (g' : Nat → Nat → Int32) (gs' : List mg_E) (bc' : List (List Nat)), v = none ∧ MS S0 S1 f' g' ∧ (mg_on f (100 * ((f 0).toInt - (f 4).toInt) + (1 + mg_p3 gs)) f' g' gs' bc' ∨ mg_off f f' g' bc')) := by
  have hbs := mg_basic hrest
  refine am_e1 (v := 28) hi_180_0 rfl ?_
  refine am_e0 hi_180_1 ?_
  refine am_e13f hi_180_3 (by decide) ?_
  refine am_e2 (v := 39) hi_180_6 rfl ?_
  refine am_e1 (v := 28) hi_180_7 rfl ?_
  refine am_e1 (v := on) hi_180_8 rfl ?_
  refine am_e1 (v := tw) hi_180_9 rfl ?_
  refine am_e32w (as := [.ref 39, .int 28, .int on, .int tw]) (la := [some (.ref 39), some (.int 28), some (.int on), some (.int tw)]) (rest := []) hi_180_10 (am_hd0 (M := 180) (by decide) 10) (Nat.le_of_ble_eq_true rfl) (Nat.le_of_ble_eq_true rfl) (show 4 ≤ am_P0.2.2.1 181 from by decide +kernel) rfl (am_recv_ok hS.fs) rfl rfl ?_
  refine am_e1 (v := 28) hi_181_0 rfl ?_
  refine am_e19 (t := 176) hi_181_1 (by decide) ?_
  refine am_e2 (v := 39) hi_181_176 rfl ?_
  refine am_e32w (as := [.ref 39]) (la := [some (.ref 39), none, none, none]) (rest := []) hi_181_177 (am_hd0 (M := 181) (by decide) 177) (Nat.le_of_ble_eq_true rfl) (Nat.le_of_ble_eq_true rfl) (show 1 ≤ am_P0.2.2.1 211 from by decide +kernel) rfl (am_recv_ok hS.fs) rfl rfl ?_
  refine am_e2 (v := 39) hi_211_0 rfl ?_
  refine am_e32n (as := [.ref 39]) (la := [some (.ref 39)]) (rest := []) hi_211_1 (am_hd0 (M := 211) (by decide) 1) (Nat.le_of_ble_eq_true rfl) (Nat.le_of_ble_eq_true rfl) (show 1 ≤ am_P0.2.2.1 183 from by decide +kernel) rfl (am_recv_ok hS.fs) rfl rfl (ct_next (d := (d + 4)) hS   (by show (0 : Int) ≤ (f 4).toInt; omega) (by show (f 0).toInt ≤ (16384 : Int); omega)) ?_
  rintro v0 S1 (⟨r2, hv3, hS4, h5⟩)
  subst hv3
  have h5_ : (f 4).toInt < (f 0).toInt ∨ r2.toInt = (-1 : Int) := h5
  show am_E _ _ _ _ [some (.ref 39), none, none, none] [.int r2] _ _
  refine am_e3 (ls' := [some (.ref 39), some (.int r2), none, none]) hi_211_4 (Nat.le_of_ble_eq_true rfl) rfl ?_
  refine am_e2 (v := 39) hi_211_5 rfl ?_
  refine mm_20 (v := .int (f 4)) hS4 hi_211_6 rfl ?_
  refine am_e3 (ls' := [some (.ref 39), some (.int r2), some (.int (f 4)), none]) hi_211_9 (Nat.le_of_ble_eq_true rfl) rfl ?_
  refine am_e1 (v := r2) hi_211_10 rfl ?_
  refine am_e0 hi_211_11 ?_
  by_cases c7 : ¬ r2.toInt = (70 : Int)
  · refine am_e13t hi_211_13 (am_cT (m := r2.toInt) (n := (70 : Int)) rfl (by decide) c7) ?_
    refine am_e1 (v := r2) hi_211_75 rfl ?_
    refine am_e0 hi_211_76 ?_
    by_cases c8 : ¬ r2.toInt = (64 : Int)
    · refine am_e13t hi_211_78 (am_cT (m := r2.toInt) (n := (64 : Int)) rfl (by decide) c8) ?_
      refine am_e1 (v := r2) hi_211_121 rfl ?_
      refine am_e0 hi_211_122 ?_
      by_cases c9 : ¬ r2.toInt = (68 : Int)
      · refine am_e13t hi_211_124 (am_cT (m := r2.toInt) (n := (68 : Int)) rfl (by decide) c9) ?_
        refine am_e1 (v := r2) hi_211_214 rfl ?_
        refine am_e0 hi_211_215 ?_
        by_cases c10 : r2.toInt = (60 : Int)
        · refine am_e13t hi_211_217 (am_cT (m := r2.toInt) (n := (60 : Int)) rfl (by decide) c10) ?_
          refine am_e2 (v := 39) hi_211_231 rfl ?_
          refine am_e32n (as := [.ref 39]) (la := [some (.ref 39), none, none, none]) (rest := []) hi_211_232 (am_hd0 (M := 211) (by decide) 232) (Nat.le_of_ble_eq_true rfl) (Nat.le_of_ble_eq_true rfl) (show 1 ≤ am_P0.2.2.1 204 from by decide +kernel) rfl (am_recv_ok hS4.fs) rfl rfl (ct_load (d := (d + 3)) hS4 hR  (by show (0 : Int) ≤ (f 32).toInt; omega) (by show (f 32).toInt ≤ (63 : Int); omega) (by show (f 53).toInt ≤ (4096 : Int); omega) (by show (0 : Int) ≤ (f 68).toInt; omega) (by show (f 68).toInt ≤ (65534 : Int); omega) (by show (1 : Int) ≤ (f 15).toInt; omega) (by show (f 15).toInt ≤ (32767 : Int); omega) (by show (0 : Int) ≤ (f 24).toInt; omega) (by show (f 24).toInt ≤ (16384 : Int); omega) (by show (0 : Int) ≤ (f 62).toInt; omega) (by show (f 62).toInt ≤ (65000 : Int); omega)) ?_
          rintro v11 S12 (⟨o13, s14, m15, g'16, hv17, hS18, hR25, h19, h20, h21, h22, h23, h24⟩)
          subst hv17
          have h19_ : (f 62).toInt ≤ o13.toInt := h19
          have h20_ : o13.toInt ≤ (f 62).toInt + 64 := h20
          have h21_ : (f 68).toInt ≤ s14.toInt := h21
          have h22_ : s14.toInt ≤ (f 68).toInt + 1 := h22
          have h23_ : o13.toInt + 64 * mj_n (g'16 16) (f 15).toNatClampNeg 3 ≤ (f 62).toInt + 64 * mj_n (g 16) (f 15).toNatClampNeg 3 := h23
          have h24_ : ∀ j, j ∉ [16, 60, 63, 64, 65, 66, 67, 69, 70, 71, 72, 73] → g'16 j = g j := h24
          have hR25_ : RJ (upd (upd (upd f 62 o13) 68 s14) 75 m15) g'16 gs bc [] 0 [] := hR25
          show am_E _ _ _ _ [some (.ref 39), some (.int r2), some (.int (f 4)), none] [] _ _
          refine am_e2 (v := 39) hi_211_235 rfl ?_
          refine am_e0 hi_211_236 ?_
          refine am_e0 hi_211_238 ?_
          refine am_e0 hi_211_239 ?_
          refine am_e0 hi_211_240 ?_
          refine am_e32n (as := [.ref 39, .int 28, .int 0, .int 0, .int 0]) (la := [some (.ref 39), some (.int 28), some (.int 0), some (.int 0), some (.int 0)]) (rest := []) hi_211_241 (am_hd0 (M := 211) (by decide) 241) (Nat.le_of_ble_eq_true rfl) (Nat.le_of_ble_eq_true rfl) (show 5 ≤ am_P0.2.2.1 179 from by decide +kernel) rfl (am_recv_ok hS18.fs) rfl rfl (ct_pile (d := (d + 5)) hS18 hR25_ (mj_e_plain (by decide)) (by show (0 : Int) ≤ (f 10).toInt; omega) (by show (f 10).toInt ≤ (65535 : Int); omega)) ?_
          rintro v26 S27 (⟨z28, g'29, hv30, hS31, hR34, h32, h33⟩)
          subst hv30
          have h32_ : z28.toInt = (f 10).toInt + 1 := h32
          have h33_ : ∀ j, j ∉ [11, 12, 13, 14] → g'29 j = g'16 j := h33
          replace hS31 : MS S0 S27 (upd (upd (upd (upd f 10 z28) 62 o13) 68 s14) 75 m15) g'29 := hS31
          have hR34_ : RJ (upd (upd (upd (upd f 10 z28) 62 o13) 68 s14) 75 m15) g'29 (((28 : Int), (0 : Int), (0 : Int), (0 : Int), []) :: gs) bc [] 0 [] := hR34
          show am_E _ _ _ _ [some (.ref 39), some (.int r2), some (.int (f 4)), none] [] _ _
          refine am_e2 (v := 39) hi_211_244 rfl ?_
          refine am_e0 hi_211_245 ?_
          refine am_e32w (as := [.ref 39, .int 0]) (la := [some (.ref 39), some (.int 0), none]) (rest := []) hi_211_246 (am_hd0 (M := 211) (by decide) 246) (Nat.le_of_ble_eq_true rfl) (Nat.le_of_ble_eq_true rfl) (show 2 ≤ am_P0.2.2.1 212 from by decide +kernel) rfl (am_recv_ok hS31.fs) rfl rfl ?_
          refine am_e2 (v := 39) hi_212_0 rfl ?_
          refine mm_20 (v := .int (f 4)) hS31 hi_212_1 rfl ?_
          refine am_e3 (ls' := [some (.ref 39), some (.int 0), some (.int (f 4))]) hi_212_4 (Nat.le_of_ble_eq_true rfl) rfl ?_
          refine am_e2 (v := 39) hi_212_5 rfl ?_
          refine am_e32n (as := [.ref 39]) (la := [some (.ref 39)]) (rest := []) hi_212_6 (am_hd0 (M := 212) (by decide) 6) (Nat.le_of_ble_eq_true rfl) (Nat.le_of_ble_eq_true rfl) (show 1 ≤ am_P0.2.2.1 183 from by decide +kernel) rfl (am_recv_ok hS31.fs) rfl rfl (ct_next (d := (d + 3)) hS31   (by show (0 : Int) ≤ (f 4).toInt; omega) (by show (f 0).toInt ≤ (16384 : Int); omega)) ?_
          rintro v35 S36 (⟨r37, hv38, hS39, h40⟩)
          subst hv38
          have h40_ : (f 4).toInt < (f 0).toInt ∨ r37.toInt = (-1 : Int) := h40
          show am_E _ _ _ _ [some (.ref 39), some (.int 0), some (.int (f 4))] [.int r37] _ _
          refine am_e0 hi_212_9 ?_
          by_cases c42 : ¬ r37.toInt = (3 : Int)
          · refine am_e13t hi_212_10 (am_cT (m := r37.toInt) (n := (3 : Int)) rfl (by decide) c42) ?_
            refine am_e2 (v := 39) hi_212_52 rfl ?_
            refine am_e32n (as := [.ref 39]) (la := [some (.ref 39)]) (rest := []) hi_212_53 (am_hd0 (M := 212) (by decide) 53) (Nat.le_of_ble_eq_true rfl) (Nat.le_of_ble_eq_true rfl) (show 1 ≤ am_P0.2.2.1 183 from by decide +kernel) rfl (am_recv_ok hS39.fs) rfl rfl (ct_next (d := (d + 3)) hS39   (by show (0 : Int) ≤ (f 4).toInt; omega) (by show (f 0).toInt ≤ (16384 : Int); omega)) ?_
            rintro v43 S44 (⟨r45, hv46, hS47, h48⟩)
            subst hv46
            have h48_ : (f 4).toInt < (f 0).toInt ∨ r45.toInt = (-1 : Int) := h48
            show am_E _ _ _ _ [some (.ref 39), some (.int 0), some (.int (f 4))] [.int r45] _ _
            refine am_e0 hi_212_56 ?_
            by_cases c50 : ¬ r45.toInt = (62 : Int)
            · refine am_e13t hi_212_58 (am_cT (m := r45.toInt) (n := (62 : Int)) rfl (by decide) c50) ?_
              refine am_e2 (v := 39) hi_212_77 rfl ?_
              refine am_e0 hi_212_78 ?_
              refine am_e32n (as := [.ref 39, .int 60]) (la := [some (.ref 39), some (.int 60)]) (rest := []) hi_212_80 (am_hd0 (M := 212) (by decide) 80) (Nat.le_of_ble_eq_true rfl) (Nat.le_of_ble_eq_true rfl) (show 2 ≤ am_P0.2.2.1 193 from by decide +kernel) rfl (am_recv_ok hS47.fs) rfl rfl (ct_enter (d := (d + 2)) hS47   (by show (0 : Int) ≤ (f 4).toInt; omega) (by show (f 0).toInt ≤ (16384 : Int); omega) (by show (0 : Int) ≤ (60 : Int); omega) (by show (0 : Int) ≤ (f 5).toInt; omega) (by show (f 5).toInt ≤ (48 : Int); omega)) ?_
              rintro v51 S52 (⟨z53, y54, hv55, hS56, h57, h58, h59, h60⟩ | ⟨a62, b63, hv64, hS65⟩)
              · subst hv55
                have h57_ : z53.toInt = (f 4).toInt + 1 := h57
                have h58_ : (f 4).toInt < (f 0).toInt := h58
                have h59_ : y54.toInt = (f 5).toInt + 1 := h59
                have h60_ : y54.toInt ≤ (48 : Int) := h60
                replace hS56 : MS S0 S52 (upd (upd (upd (upd (upd (upd f 4 z53) 5 y54) 10 z28) 62 o13) 68 s14) 75 m15) g'29 := hS56
                have hR67 : RJ (upd (upd (upd (upd (upd (upd f 4 z53) 5 y54) 10 z28) 62 o13) 68 s14) 75 m15) g'29 (((28 : Int), (0 : Int), (0 : Int), (0 : Int), []) :: gs) bc [] 0 [] := RJ.at hR34_ (by show (f 4).toInt ≤ z53.toInt; omega)
                show am_E _ _ _ _ [some (.ref 39), some (.int 0), some (.int (f 4))] [.int 1] _ _
                refine am_e12f hi_212_83 (by decide) ?_
                refine am_e2 (v := 39) hi_212_86 rfl ?_
                refine am_e32n (as := [.ref 39]) (la := [some (.ref 39)]) (rest := []) hi_212_87 (am_hd0 (M := 212) (by decide) 87) (Nat.le_of_ble_eq_true rfl) (Nat.le_of_ble_eq_true rfl) (show 1 ≤ am_P0.2.2.1 183 from by decide +kernel) rfl (am_recv_ok hS56.fs) rfl rfl (ct_next (d := (d + 3)) hS56   (by show (0 : Int) ≤ z53.toInt; omega) (by show (f 0).toInt ≤ (16384 : Int); omega)) ?_
                rintro v68 S69 (⟨r70, hv71, hS72, h73⟩)
                subst hv71
                have h73_ : z53.toInt < (f 0).toInt ∨ r70.toInt = (-1 : Int) := h73
                show am_E _ _ _ _ [some (.ref 39), some (.int 0), some (.int (f 4))] [.int r70] _ _
                refine am_e0 hi_212_90 ?_
                by_cases c75 : ¬ r70.toInt = (61 : Int)
                · refine am_e13t hi_212_92 (am_cT (m := r70.toInt) (n := (61 : Int)) rfl (by decide) c75) ?_
                  refine am_e2 (v := 39) hi_212_112 rfl ?_
                  refine am_e0 hi_212_113 ?_
                  refine am_e1 (v := 0) hi_212_115 rfl ?_
                  refine am_e1 (v := f 4) hi_212_116 rfl ?_
                  refine am_e0 hi_212_117 ?_
                  refine am_e32n (as := [.ref 39, .int 32, .int 0, .int (f 4), .int 0]) (la := [some (.ref 39), some (.int 32), some (.int 0), some (.int (f 4)), some (.int 0)]) (rest := []) hi_212_118 (am_hd0 (M := 212) (by decide) 118) (Nat.le_of_ble_eq_true rfl) (Nat.le_of_ble_eq_true rfl) (show 5 ≤ am_P0.2.2.1 179 from by decide +kernel) rfl (am_recv_ok hS72.fs) rfl rfl (ct_pile (d := (d + 4)) hS72 hR67 (mj_e_plain (by decide)) (by show (0 : Int) ≤ z28.toInt; omega) (by show z28.toInt ≤ (65535 : Int); omega)) ?_
                  rintro v76 S77 (⟨z78, g'79, hv80, hS81, hR84, h82, h83⟩)
                  subst hv80
                  have h82_ : z78.toInt = z28.toInt + 1 := h82
                  have h83_ : ∀ j, j ∉ [11, 12, 13, 14] → g'79 j = g'29 j := h83
                  replace hS81 : MS S0 S77 (upd (upd (upd (upd (upd (upd f 4 z53) 5 y54) 10 z78) 62 o13) 68 s14) 75 m15) g'79 := hS81
                  have hR84_ : RJ (upd (upd (upd (upd (upd (upd f 4 z53) 5 y54) 10 z78) 62 o13) 68 s14) 75 m15) g'79 (((32 : Int), (0 : Int), (f 4).toInt, (0 : Int), []) :: (((28 : Int), (0 : Int), (0 : Int), (0 : Int), []) :: gs)) bc [] 0 [] := hR84
                  show am_E _ _ _ _ [some (.ref 39), some (.int 0), some (.int (f 4))] [] _ _
                  refine am_e2 (v := 39) hi_212_121 rfl ?_
                  refine am_e32w (as := [.ref 39]) (la := [some (.ref 39)]) (rest := []) hi_212_122 (am_hd0 (M := 212) (by decide) 122) (Nat.le_of_ble_eq_true rfl) (Nat.le_of_ble_eq_true rfl) (show 1 ≤ am_P0.2.2.1 214 from by decide +kernel) rfl (am_recv_ok hS81.fs) rfl rfl ?_
                  refine am_e2 (v := 39) hi_214_0 rfl ?_
                  refine am_e0 hi_214_1 ?_
                  refine am_e0 hi_214_3 ?_
                  refine am_e0 hi_214_4 ?_
                  refine am_e0 hi_214_5 ?_
                  refine am_e32n (as := [.ref 39, .int 34, .int 1, .int 0, .int 0]) (la := [some (.ref 39), some (.int 34), some (.int 1), some (.int 0), some (.int 0)]) (rest := []) hi_214_6 (am_hd0 (M := 214) (by decide) 6) (Nat.le_of_ble_eq_true rfl) (Nat.le_of_ble_eq_true rfl) (show 5 ≤ am_P0.2.2.1 179 from by decide +kernel) rfl (am_recv_ok hS81.fs) rfl rfl (ct_pile (d := (d + 3)) hS81 hR84_ (mj_e_plain (by decide)) (by show (0 : Int) ≤ z78.toInt; omega) (by show z78.toInt ≤ (65535 : Int); omega)) ?_
                  rintro v85 S86 (⟨z87, g'88, hv89, hS90, hR93, h91, h92⟩)
                  subst hv89
                  have h91_ : z87.toInt = z78.toInt + 1 := h91
                  have h92_ : ∀ j, j ∉ [11, 12, 13, 14] → g'88 j = g'79 j := h92
                  replace hS90 : MS S0 S86 (upd (upd (upd (upd (upd (upd f 4 z53) 5 y54) 10 z87) 62 o13) 68 s14) 75 m15) g'88 := hS90
                  have hR93_ : RJ (upd (upd (upd (upd (upd (upd f 4 z53) 5 y54) 10 z87) 62 o13) 68 s14) 75 m15) g'88 (((34 : Int), (1 : Int), (0 : Int), (0 : Int), []) :: (((32 : Int), (0 : Int), (f 4).toInt, (0 : Int), []) :: (((28 : Int), (0 : Int), (0 : Int), (0 : Int), []) :: gs))) bc [] 0 [] := hR93
                  show am_E _ _ _ _ [some (.ref 39)] [] _ _
                  refine am_e2 (v := 39) hi_214_9 rfl ?_
                  refine am_e0 hi_214_10 ?_
                  refine am_e32w (as := [.ref 39, .int 0]) (la := [some (.ref 39), some (.int 0)]) (rest := []) hi_214_11 (am_hd0 (M := 214) (by decide) 11) (Nat.le_of_ble_eq_true rfl) (Nat.le_of_ble_eq_true rfl) (show 2 ≤ am_P0.2.2.1 186 from by decide +kernel) rfl (am_recv_ok hS90.fs) rfl rfl ?_
                  refine am_e2 (v := 39) hi_186_0 rfl ?_
                  refine am_e0 hi_186_1 ?_
                  refine am_e1 (v := 0) hi_186_3 rfl ?_
                  refine am_e0 hi_186_4 ?_
                  refine am_e0 hi_186_5 ?_
                  refine am_e32n (as := [.ref 39, .int 23, .int 0, .int 0, .int 0]) (la := [some (.ref 39), some (.int 23), some (.int 0), some (.int 0), some (.int 0)]) (rest := []) hi_186_6 (am_hd0 (M := 186) (by decide) 6) (Nat.le_of_ble_eq_true rfl) (Nat.le_of_ble_eq_true rfl) (show 5 ≤ am_P0.2.2.1 179 from by decide +kernel) rfl (am_recv_ok hS90.fs) rfl rfl (ct_pile (d := (d + 2)) hS90 hR93_ (mj_e_plain (by decide)) (by show (0 : Int) ≤ z87.toInt; omega) (by show z87.toInt ≤ (65535 : Int); omega)) ?_
                  rintro v94 S95 (⟨z96, g'97, hv98, hS99, hR102, h100, h101⟩)
                  subst hv98
                  have h100_ : z96.toInt = z87.toInt + 1 := h100
                  have h101_ : ∀ j, j ∉ [11, 12, 13, 14] → g'97 j = g'88 j := h101
                  replace hS99 : MS S0 S95 (upd (upd (upd (upd (upd (upd f 4 z53) 5 y54) 10 z96) 62 o13) 68 s14) 75 m15) g'97 := hS99
                  have hR102_ : RJ (upd (upd (upd (upd (upd (upd f 4 z53) 5 y54) 10 z96) 62 o13) 68 s14) 75 m15) g'97 (((23 : Int), (0 : Int), (0 : Int), (0 : Int), []) :: (((34 : Int), (1 : Int), (0 : Int), (0 : Int), []) :: (((32 : Int), (0 : Int), (f 4).toInt, (0 : Int), []) :: (((28 : Int), (0 : Int), (0 : Int), (0 : Int), []) :: gs)))) bc [] 0 [] := hR102
                  show am_E _ _ _ _ [some (.ref 39), some (.int 0)] [] _ _
                  refine am_e35 hi_186_9 ?_
                  show am_E _ _ _ _ [some (.ref 39)] [] _ _
                  refine am_e35 hi_214_14 ?_
                  show am_E _ _ _ _ [some (.ref 39), some (.int 0), some (.int (f 4))] [] _ _
                  refine am_e35 hi_212_125 ?_
                  show am_E _ _ _ _ [some (.ref 39), some (.int r2), some (.int (f 4)), none] [] _ _
                  refine am_e35 hi_211_249 ?_
                  show am_E _ _ _ _ [some (.ref 39), some (.int 28), some (.int on), some (.int tw)] [] _ _
                  refine am_e18 hi_181_180 ?_
                  refine am_e35 hi_181_397 ?_
                  show am_E _ _ _ _ [some (.ref 39), some (.int 28), some (.int on), some (.int tw), some (.int th)] [] _ _
                  refine am_e35 hi_180_13 ?_
                  have q1 : mg_p1 (((23 : Int), (0 : Int), (0 : Int), (0 : Int), []) :: (((34 : Int), (1 : Int), (0 : Int), (0 : Int), []) :: (((32 : Int), (0 : Int), (f 4).toInt, (0 : Int), []) :: (((28 : Int), (0 : Int), (0 : Int), (0 : Int), []) :: gs)))) = 0 + (0 + (0 + (0 + (mg_p1 gs)))) := rfl
                  have q2 : mg_p2 (((23 : Int), (0 : Int), (0 : Int), (0 : Int), []) :: (((34 : Int), (1 : Int), (0 : Int), (0 : Int), []) :: (((32 : Int), (0 : Int), (f 4).toInt, (0 : Int), []) :: (((28 : Int), (0 : Int), (0 : Int), (0 : Int), []) :: gs)))) = 0 + (0 + (0 + (0 + (mg_p2 gs)))) := rfl
                  have q3 : mg_p3 (((23 : Int), (0 : Int), (0 : Int), (0 : Int), []) :: (((34 : Int), (1 : Int), (0 : Int), (0 : Int), []) :: (((32 : Int), (0 : Int), (f 4).toInt, (0 : Int), []) :: (((28 : Int), (0 : Int), (0 : Int), (0 : Int), []) :: gs)))) = 1 + (1 + (1 + (1 + (mg_p3 gs)))) := rfl
                  have q4 : mg_p4 (((23 : Int), (0 : Int), (0 : Int), (0 : Int), []) :: (((34 : Int), (1 : Int), (0 : Int), (0 : Int), []) :: (((32 : Int), (0 : Int), (f 4).toInt, (0 : Int), []) :: (((28 : Int), (0 : Int), (0 : Int), (0 : Int), []) :: gs)))) = 0 + (0 + (0 + (0 + (mg_p4 gs)))) := rfl
                  refine ⟨_, _, _, bc, rfl, hS99, Or.inl ⟨⟨hR102_, ?_, ?_⟩, rfl, ?_⟩⟩
                  · exact (⟨⟨(show (0 : Int) ≤ 23 from by decide), (show (0 : Int) ≤ (f 15).toInt from by omega), (show 0 ≤ (f 20).toInt from by omega), (show 1 ≤ (f 37).toInt from by omega), (show 0 ≤ (f 32).toInt from by omega), (show (f 32).toInt ≤ y54.toInt from by omega), (show y54.toInt ≤ 48 from by omega), (show (f 37).toInt ≤ 2 * (y54.toInt) + 2 from by omega), (show 0 ≤ (0 : Int) from by omega)⟩, ⟨⟨(show (0 : Int) ≤ 34 from by decide), (show (1 : Int) ≤ (f 15).toInt + 1 from by omega), (show 0 ≤ (f 20).toInt from by omega), (show 1 ≤ (f 37).toInt + 0 from by omega), (show 0 ≤ (f 32).toInt + 0 from by omega), (show (f 32).toInt + 0 ≤ y54.toInt + 0 from by omega), (show y54.toInt + 0 ≤ 48 from by omega), (show (f 37).toInt + 0 ≤ 2 * (y54.toInt + 0) + 2 from by omega), trivial⟩, ⟨⟨(show (0 : Int) ≤ 32 from by decide), (show (2 : Int) ≤ (f 15).toInt + 1 + 0 from by omega), (show 0 ≤ (f 20).toInt from by omega), (show 1 ≤ (f 37).toInt + 0 + 0 from by omega), (show 0 ≤ (f 32).toInt + 0 + 0 from by omega), (show (f 32).toInt + 0 + 0 ≤ y54.toInt + 0 + 0 from by omega), (show y54.toInt + 0 + 0 ≤ 48 from by omega), (show (f 37).toInt + 0 + 0 ≤ 2 * (y54.toInt + 0 + 0) + 2 from by omega), trivial⟩, ⟨⟨(show (0 : Int) ≤ 28 from by decide), (show (1 : Int) ≤ (f 15).toInt + 1 + 0 + -1 from by omega), (show 0 ≤ (f 20).toInt from by omega), (show 1 ≤ (f 37).toInt + 0 + 0 + 0 from by omega), (show 0 ≤ (f 32).toInt + 0 + 0 + 0 from by omega), (show (f 32).toInt + 0 + 0 + 0 ≤ y54.toInt + 0 + 0 + -1 from by omega), (show y54.toInt + 0 + 0 + -1 ≤ 48 from by omega), (show (f 37).toInt + 0 + 0 + 0 ≤ 2 * (y54.toInt + 0 + 0 + -1) + 2 from by omega), trivial⟩, mg_cast (mg_good_ext _ _ _ _ _ _ (fun i _ => by show g'97 34 i = g 34 i; rw [show g'97 34 = g'88 34 from h101_ 34 (by decide), show g'88 34 = g'79 34 from h92_ 34 (by decide), show g'79 34 = g'29 34 from h83_ 34 (by decide), show g'29 34 = g'16 34 from h33_ 34 (by decide), show g'16 34 = g 34 from h24_ 34 (by decide)]) (fun i _ => by show g'97 38 i = g 38 i; rw [show g'97 38 = g'88 38 from h101_ 38 (by decide), show g'88 38 = g'79 38 from h92_ 38 (by decide), show g'79 38 = g'29 38 from h83_ 38 (by decide), show g'29 38 = g'16 38 from h33_ 38 (by decide), show g'16 38 = g 38 from h24_ 38 (by decide)]) hrest) (by show (f 15).toInt + 0 = (f 15).toInt + 1 + 0 + -1 + 0; omega) (by show (f 20).toInt = (f 20).toInt; omega) (by show (f 37).toInt + 0 = (f 37).toInt + 0 + 0 + 0 + 0; omega) (by show (f 32).toInt + 0 = (f 32).toInt + 0 + 0 + 0 + 0; omega) (by show (f 5).toInt + 0 = y54.toInt + 0 + 0 + -1 + 0; omega)⟩⟩⟩⟩ : mg_good (g'97 34) (g'97 38) (((23 : Int), (0 : Int), (0 : Int), (0 : Int), []) :: (((34 : Int), (1 : Int), (0 : Int), (0 : Int), []) :: (((32 : Int), (0 : Int), (f 4).toInt, (0 : Int), []) :: (((28 : Int), (0 : Int), (0 : Int), (0 : Int), []) :: gs)))) ((f 15).toInt) ((f 20).toInt) ((f 37).toInt) ((f 32).toInt) (y54.toInt))
                  · exact ⟨(by show 0 ≤ z53.toInt; omega), (by show z53.toInt ≤ (f 0).toInt; omega), (by show (f 0).toInt ≤ 512; omega), (by show 0 ≤ (f 24).toInt; omega), (by show (f 24).toInt + (f 20).toInt + mg_p1 (((23 : Int), (0 : Int), (0 : Int), (0 : Int), []) :: (((34 : Int), (1 : Int), (0 : Int), (0 : Int), []) :: (((32 : Int), (0 : Int), (f 4).toInt, (0 : Int), []) :: (((28 : Int), (0 : Int), (0 : Int), (0 : Int), []) :: gs)))) ≤ 4 * z53.toInt; omega), (by show (f 20).toInt ≤ z53.toInt; omega), (by show (f 15).toInt + mg_p2 (((23 : Int), (0 : Int), (0 : Int), (0 : Int), []) :: (((34 : Int), (1 : Int), (0 : Int), (0 : Int), []) :: (((32 : Int), (0 : Int), (f 4).toInt, (0 : Int), []) :: (((28 : Int), (0 : Int), (0 : Int), (0 : Int), []) :: gs)))) ≤ z53.toInt; omega), (by show mg_p3 (((23 : Int), (0 : Int), (0 : Int), (0 : Int), []) :: (((34 : Int), (1 : Int), (0 : Int), (0 : Int), []) :: (((32 : Int), (0 : Int), (f 4).toInt, (0 : Int), []) :: (((28 : Int), (0 : Int), (0 : Int), (0 : Int), []) :: gs)))) ≤ 20 * z53.toInt + 20; omega), (by show 0 ≤ s14.toInt; omega), (by show s14.toInt + 3 * (f 20).toInt + mg_p4 (((23 : Int), (0 : Int), (0 : Int), (0 : Int), []) :: (((34 : Int), (1 : Int), (0 : Int), (0 : Int), []) :: (((32 : Int), (0 : Int), (f 4).toInt, (0 : Int), []) :: (((28 : Int), (0 : Int), (0 : Int), (0 : Int), []) :: gs)))) ≤ 60 * z53.toInt + 60; omega), (by show 0 ≤ o13.toInt; omega), (by show o13.toInt + 64 * mj_n (g'97 16) (f 15).toNatClampNeg 3 ≤ 64 * z53.toInt; rw [show g'97 16 = g'88 16 from h101_ 16 (by decide), show g'88 16 = g'79 16 from h92_ 16 (by decide), show g'79 16 = g'29 16 from h83_ 16 (by decide), show g'29 16 = g'16 16 from h33_ 16 (by decide)]; omega), (by show 0 ≤ (f 44).toInt; omega), (by show (f 44).toInt ≤ z53.toInt; omega), (by show 0 ≤ (f 48).toInt; omega), (by show (f 48).toInt ≤ z53.toInt; omega), (by show 1 ≤ (f 53).toInt; omega), (by show (f 53).toInt ≤ z53.toInt + 1; omega)⟩
                  · show 100 * ((f 0).toInt - z53.toInt) + mg_p3 (((23 : Int), (0 : Int), (0 : Int), (0 : Int), []) :: (((34 : Int), (1 : Int), (0 : Int), (0 : Int), []) :: (((32 : Int), (0 : Int), (f 4).toInt, (0 : Int), []) :: (((28 : Int), (0 : Int), (0 : Int), (0 : Int), []) :: gs)))) < 100 * ((f 0).toInt - (f 4).toInt) + (1 + mg_p3 gs); omega
                · refine am_e13f hi_212_92 (am_cF (m := r70.toInt) (n := (61 : Int)) rfl (by decide) c75) ?_
                  refine am_e2 (v := 39) hi_212_95 rfl ?_
                  refine am_e0 hi_212_96 ?_
                  refine am_e32n (as := [.ref 39, .int 61]) (la := [some (.ref 39), some (.int 61)]) (rest := []) hi_212_98 (am_hd0 (M := 212) (by decide) 98) (Nat.le_of_ble_eq_true rfl) (Nat.le_of_ble_eq_true rfl) (show 2 ≤ am_P0.2.2.1 199 from by decide +kernel) rfl (am_recv_ok hS72.fs) rfl rfl (ct_leave (d := (d + 1)) hS72   (by show (0 : Int) ≤ z53.toInt; omega) (by show (f 0).toInt ≤ (16384 : Int); omega) (by show (0 : Int) ≤ (61 : Int); omega) (by show (0 : Int) ≤ y54.toInt; omega) (by show y54.toInt ≤ (48 : Int); omega)) ?_
                  rintro v103 S104 (⟨z105, y106, hv107, hS108, h109, h110, h111⟩ | ⟨a113, b114, hv115, hS116⟩)
                  · subst hv107
                    have h109_ : z105.toInt = z53.toInt + 1 := h109
                    have h110_ : z53.toInt < (f 0).toInt := h110
                    have h111_ : y106.toInt = y54.toInt - 1 := h111
                    replace hS108 : MS S0 S104 (upd (upd (upd (upd (upd (upd f 4 z105) 5 y106) 10 z28) 62 o13) 68 s14) 75 m15) g'29 := hS108
                    have hR118 : RJ (upd (upd (upd (upd (upd (upd f 4 z105) 5 y106) 10 z28) 62 o13) 68 s14) 75 m15) g'29 (((28 : Int), (0 : Int), (0 : Int), (0 : Int), []) :: gs) bc [] 0 [] := RJ.at hR67 (by show z53.toInt ≤ z105.toInt; omega)
                    show am_E _ _ _ _ [some (.ref 39), some (.int 0), some (.int (f 4))] [.int 1] _ _
                    refine am_e6i hi_212_101 ?_
                    refine am_e2 (v := 39) hi_212_102 rfl ?_
                    refine am_e1 (v := 0) hi_212_103 rfl ?_
                    refine am_e0 hi_212_104 ?_
                    refine am_e1 (v := f 4) hi_212_105 rfl ?_
                    refine am_e32w (as := [.ref 39, .int 0, .int 0, .int (f 4)]) (la := [some (.ref 39), some (.int 0), some (.int 0), some (.int (f 4)), none]) (rest := []) hi_212_106 (am_hd0 (M := 212) (by decide) 106) (Nat.le_of_ble_eq_true rfl) (Nat.le_of_ble_eq_true rfl) (show 4 ≤ am_P0.2.2.1 213 from by decide +kernel) rfl (am_recv_ok hS108.fs) rfl rfl ?_
                    refine am_e2 (v := 39) hi_213_0 rfl ?_
                    refine am_e0 hi_213_1 ?_
                    refine am_e1 (v := 0) hi_213_3 rfl ?_
                    refine am_e1 (v := 0) hi_213_4 rfl ?_
                    refine am_e0 hi_213_5 ?_
                    refine am_e10 (z := 2) hi_213_6 (by decide) ?_
                    refine am_e1 (v := f 4) hi_213_7 rfl ?_
                    refine am_e32n (as := [.ref 39, .int 13, .int 0, .int 2, .int (f 4)]) (la := [some (.ref 39), some (.int 13), some (.int 0), some (.int 2), some (.int (f 4))]) (rest := []) hi_213_8 (am_hd0 (M := 213) (by decide) 8) (Nat.le_of_ble_eq_true rfl) (Nat.le_of_ble_eq_true rfl) (show 5 ≤ am_P0.2.2.1 189 from by decide +kernel) rfl (am_recv_ok hS108.fs) rfl rfl (ct_put (d := (d + 3)) hS108 hR118  (by show (0 : Int) ≤ (f 32).toInt; omega) (by show (f 32).toInt ≤ (63 : Int); omega) (by show (f 53).toInt ≤ (4096 : Int); omega) (by show (0 : Int) ≤ s14.toInt; omega) (by show s14.toInt ≤ (65534 : Int); omega)) ?_
                    rintro v119 S120 (⟨z121, r122, g'123, hv124, hS125, hR129, h126, h127, h128⟩)
                    subst hv124
                    have h126_ : z121.toInt = s14.toInt + 1 := h126
                    have h127_ : r122.toInt = s14.toInt := h127
                    have h128_ : ∀ j, j ∉ [60, 69, 70, 71, 72, 73] → g'123 j = g'29 j := h128
                    replace hS125 : MS S0 S120 (upd (upd (upd (upd (upd (upd f 4 z105) 5 y106) 10 z28) 62 o13) 68 z121) 75 m15) g'123 := hS125
                    have hR129_ : RJ (upd (upd (upd (upd (upd (upd f 4 z105) 5 y106) 10 z28) 62 o13) 68 z121) 75 m15) g'123 (((28 : Int), (0 : Int), (0 : Int), (0 : Int), []) :: gs) bc [] 0 (s14.toNatClampNeg :: []) := hR129
                    show am_E _ _ _ _ [some (.ref 39), some (.int 0), some (.int 0), some (.int (f 4)), none] [.int r122] _ _
                    refine am_e3 (ls' := [some (.ref 39), some (.int 0), some (.int 0), some (.int (f 4)), some (.int r122)]) hi_213_11 (Nat.le_of_ble_eq_true rfl) rfl ?_
                    refine am_e2 (v := 39) hi_213_13 rfl ?_
                    refine am_e7 hi_213_14 ?_
                    refine mm_20 (v := .int (f 15)) hS125 hi_213_15 rfl ?_
                    refine am_e0 hi_213_18 ?_
                    obtain ⟨z130, hz130, tz130⟩ := am_subI (x := f 15) (y := 1) (m := (f 15).toInt) (n := (1 : Int)) rfl (by decide) (by omega) (by omega)
                    refine am_e10 (z := z130) hi_213_19 hz130 ?_
                    refine mm_21 (v := z130) hS125 hi_213_20 rfl (Nat.le_of_ble_eq_true rfl) ms_15 ?_
                    intro S131 hS132
                    replace hS132 : MS S0 S131 (upd (upd (upd (upd (upd (upd (upd f 4 z105) 5 y106) 10 z28) 15 z130) 62 o13) 68 z121) 75 m15) g'123 := hS132
                    have hp133 : mj_n (g'16 16) (f 15).toNatClampNeg 3 = mj_n (g'16 16) z130.toNatClampNeg 3 + if (g'16 16 z130.toNatClampNeg).toInt = 3 then 1 else 0 := mj_pop (by rw [cl_toNat, cl_toNat]; omega)
                    have hp1331 : mj_n (g'16 16) z130.toNatClampNeg 3 ≤ mj_n (g'16 16) (f 15).toNatClampNeg 3 := by rw [hp133]; split <;> omega
                    have hp1332 : (g'16 16 z130.toNatClampNeg).toInt = 3 → mj_n (g'16 16) z130.toNatClampNeg 3 + 1 ≤ mj_n (g'16 16) (f 15).toNatClampNeg 3 := fun q => by rw [hp133, if_pos q]; exact Int.le_refl _
                    refine am_e2 (v := 39) hi_213_23 rfl ?_
                    refine am_e0 hi_213_24 ?_
                    refine am_e1 (v := r122) hi_213_25 rfl ?_
                    refine am_e1 (v := f 4) hi_213_27 rfl ?_
                    refine am_e32n (as := [.ref 39, .int 1, .int r122, .int (f 4)]) (la := [some (.ref 39), some (.int 1), some (.int r122), some (.int (f 4))]) (rest := []) hi_213_28 (am_hd0 (M := 213) (by decide) 28) (Nat.le_of_ble_eq_true rfl) (Nat.le_of_ble_eq_true rfl) (show 4 ≤ am_P0.2.2.1 190 from by decide +kernel) rfl (am_recv_ok hS132.fs) rfl rfl (ct_value (d := (d + 3)) hS132 hR129_ (fun h => absurd h (by decide)) (fun _ => ⟨by omega, by omega⟩) (by show (0 : Int) ≤ z130.toInt; omega) (by show z130.toInt ≤ (32767 : Int); omega)) ?_
                    rintro v134 S135 (⟨z136, g'137, hv138, hS139, hR144, h140, h141, h142, h143⟩)
                    subst hv138
                    have h140_ : z136.toInt = z130.toInt + 1 := h140
                    have h141_ : ∀ j, j ∉ [16, 17, 18] → g'137 j = g'123 j := h141
                    have h142_ : mj_n (g'137 16) z136.toNatClampNeg 3 ≤ mj_n (g'16 16) z130.toNatClampNeg 3 + 1 := by rw [show g'123 16 = g'29 16 from h128_ 16 (by decide), show g'29 16 = g'16 16 from h33_ 16 (by decide)] at h142; exact h142
                    have h143_ : (1 : Int) = 3 ∨ mj_n (g'137 16) z136.toNatClampNeg 3 ≤ mj_n (g'16 16) z130.toNatClampNeg 3 := by rw [show g'123 16 = g'29 16 from h128_ 16 (by decide), show g'29 16 = g'16 16 from h33_ 16 (by decide)] at h143; exact h143
                    replace hS139 : MS S0 S135 (upd (upd (upd (upd (upd (upd (upd f 4 z105) 5 y106) 10 z28) 15 z136) 62 o13) 68 z121) 75 m15) g'137 := hS139
                    have hR144_ : RJ (upd (upd (upd (upd (upd (upd (upd f 4 z105) 5 y106) 10 z28) 15 z136) 62 o13) 68 z121) 75 m15) g'137 (((28 : Int), (0 : Int), (0 : Int), (0 : Int), []) :: gs) bc [] 0 (s14.toNatClampNeg :: []) := hR144
                    show am_E _ _ _ _ [some (.ref 39), some (.int 0), some (.int 0), some (.int (f 4)), some (.int r122)] [] _ _
                    refine am_e35 hi_213_31 ?_
                    show am_E _ _ _ _ [some (.ref 39), some (.int 0), some (.int (f 4))] [] _ _
                    refine am_e18 hi_212_109 ?_
                    refine am_e35 hi_212_125 ?_
                    show am_E _ _ _ _ [some (.ref 39), some (.int r2), some (.int (f 4)), none] [] _ _
                    refine am_e35 hi_211_249 ?_
                    show am_E _ _ _ _ [some (.ref 39), some (.int 28), some (.int on), some (.int tw)] [] _ _
                    refine am_e18 hi_181_180 ?_
                    refine am_e35 hi_181_397 ?_
                    show am_E _ _ _ _ [some (.ref 39), some (.int 28), some (.int on), some (.int tw), some (.int th)] [] _ _
                    refine am_e35 hi_180_13 ?_
                    have q1 : mg_p1 (((28 : Int), (0 : Int), (0 : Int), (0 : Int), []) :: gs) = 0 + (mg_p1 gs) := rfl
                    have q2 : mg_p2 (((28 : Int), (0 : Int), (0 : Int), (0 : Int), []) :: gs) = 0 + (mg_p2 gs) := rfl
                    have q3 : mg_p3 (((28 : Int), (0 : Int), (0 : Int), (0 : Int), []) :: gs) = 1 + (mg_p3 gs) := rfl
                    have q4 : mg_p4 (((28 : Int), (0 : Int), (0 : Int), (0 : Int), []) :: gs) = 0 + (mg_p4 gs) := rfl
                    refine ⟨_, _, _, bc, rfl, hS139, Or.inl ⟨⟨(RJ.fewer (pj' := []) hR144_ (fun _ h => nomatch h)), ?_, ?_⟩, rfl, ?_⟩⟩
                    · exact (⟨⟨(show (0 : Int) ≤ 28 from by decide), (show (1 : Int) ≤ z136.toInt from by omega), (show 0 ≤ (f 20).toInt from by omega), (show 1 ≤ (f 37).toInt from by omega), (show 0 ≤ (f 32).toInt from by omega), (show (f 32).toInt ≤ y106.toInt from by omega), (show y106.toInt ≤ 48 from by omega), (show (f 37).toInt ≤ 2 * (y106.toInt) + 2 from by omega), trivial⟩, mg_cast (mg_good_ext _ _ _ _ _ _ (fun i _ => by show g'137 34 i = g 34 i; rw [show g'137 34 = g'123 34 from h141_ 34 (by decide), show g'123 34 = g'29 34 from h128_ 34 (by decide), show g'29 34 = g'16 34 from h33_ 34 (by decide), show g'16 34 = g 34 from h24_ 34 (by decide)]) (fun i _ => by show g'137 38 i = g 38 i; rw [show g'137 38 = g'123 38 from h141_ 38 (by decide), show g'123 38 = g'29 38 from h128_ 38 (by decide), show g'29 38 = g'16 38 from h33_ 38 (by decide), show g'16 38 = g 38 from h24_ 38 (by decide)]) hrest) (by show (f 15).toInt + 0 = z136.toInt + 0; omega) (by show (f 20).toInt = (f 20).toInt; omega) (by show (f 37).toInt + 0 = (f 37).toInt + 0; omega) (by show (f 32).toInt + 0 = (f 32).toInt + 0; omega) (by show (f 5).toInt + 0 = y106.toInt + 0; omega)⟩ : mg_good (g'137 34) (g'137 38) (((28 : Int), (0 : Int), (0 : Int), (0 : Int), []) :: gs) (z136.toInt) ((f 20).toInt) ((f 37).toInt) ((f 32).toInt) (y106.toInt))
                    · exact ⟨(by show 0 ≤ z105.toInt; omega), (by show z105.toInt ≤ (f 0).toInt; omega), (by show (f 0).toInt ≤ 512; omega), (by show 0 ≤ (f 24).toInt; omega), (by show (f 24).toInt + (f 20).toInt + mg_p1 (((28 : Int), (0 : Int), (0 : Int), (0 : Int), []) :: gs) ≤ 4 * z105.toInt; omega), (by show (f 20).toInt ≤ z105.toInt; omega), (by show z136.toInt + mg_p2 (((28 : Int), (0 : Int), (0 : Int), (0 : Int), []) :: gs) ≤ z105.toInt; omega), (by show mg_p3 (((28 : Int), (0 : Int), (0 : Int), (0 : Int), []) :: gs) ≤ 20 * z105.toInt + 20; omega), (by show 0 ≤ z121.toInt; omega), (by show z121.toInt + 3 * (f 20).toInt + mg_p4 (((28 : Int), (0 : Int), (0 : Int), (0 : Int), []) :: gs) ≤ 60 * z105.toInt + 60; omega), (by show 0 ≤ o13.toInt; omega), (by show o13.toInt + 64 * mj_n (g'137 16) z136.toNatClampNeg 3 ≤ 64 * z105.toInt; omega), (by show 0 ≤ (f 44).toInt; omega), (by show (f 44).toInt ≤ z105.toInt; omega), (by show 0 ≤ (f 48).toInt; omega), (by show (f 48).toInt ≤ z105.toInt; omega), (by show 1 ≤ (f 53).toInt; omega), (by show (f 53).toInt ≤ z105.toInt + 1; omega)⟩
                    · show 100 * ((f 0).toInt - z105.toInt) + mg_p3 (((28 : Int), (0 : Int), (0 : Int), (0 : Int), []) :: gs) < 100 * ((f 0).toInt - (f 4).toInt) + (1 + mg_p3 gs); omega
                  · subst hv115
                    replace hS116 : MS S0 S104 (upd (upd (upd (upd (upd (upd (upd (upd f 4 z53) 5 y54) 6 a113) 7 b114) 10 0) 62 o13) 68 s14) 75 m15) g'29 := hS116
                    show am_E _ _ _ _ [some (.ref 39), some (.int 0), some (.int (f 4))] [.int 0] _ _
                    refine am_e6i hi_212_101 ?_
                    refine am_e2 (v := 39) hi_212_102 rfl ?_
                    refine am_e1 (v := 0) hi_212_103 rfl ?_
                    refine am_e0 hi_212_104 ?_
                    refine am_e1 (v := f 4) hi_212_105 rfl ?_
                    refine am_e32w (as := [.ref 39, .int 0, .int 0, .int (f 4)]) (la := [some (.ref 39), some (.int 0), some (.int 0), some (.int (f 4)), none]) (rest := []) hi_212_106 (am_hd0 (M := 212) (by decide) 106) (Nat.le_of_ble_eq_true rfl) (Nat.le_of_ble_eq_true rfl) (show 4 ≤ am_P0.2.2.1 213 from by decide +kernel) rfl (am_recv_ok hS116.fs) rfl rfl ?_
                    refine am_e2 (v := 39) hi_213_0 rfl ?_
                    refine am_e0 hi_213_1 ?_
                    refine am_e1 (v := 0) hi_213_3 rfl ?_
                    refine am_e1 (v := 0) hi_213_4 rfl ?_
                    refine am_e0 hi_213_5 ?_
                    refine am_e10 (z := 2) hi_213_6 (by decide) ?_
                    refine am_e1 (v := f 4) hi_213_7 rfl ?_
                    refine am_e32n (as := [.ref 39, .int 13, .int 0, .int 2, .int (f 4)]) (la := [some (.ref 39), some (.int 13), some (.int 0), some (.int 2), some (.int (f 4))]) (rest := []) hi_213_8 (am_hd0 (M := 213) (by decide) 8) (Nat.le_of_ble_eq_true rfl) (Nat.le_of_ble_eq_true rfl) (show 5 ≤ am_P0.2.2.1 189 from by decide +kernel) rfl (am_recv_ok hS116.fs) rfl rfl (ct_put (d := (d + 3)) hS116 hR67  (by show (0 : Int) ≤ (f 32).toInt; omega) (by show (f 32).toInt ≤ (63 : Int); omega) (by show (f 53).toInt ≤ (4096 : Int); omega) (by show (0 : Int) ≤ s14.toInt; omega) (by show s14.toInt ≤ (65534 : Int); omega)) ?_
                    rintro v145 S146 (⟨z147, r148, g'149, hv150, hS151, hR155, h152, h153, h154⟩)
                    subst hv150
                    have h152_ : z147.toInt = s14.toInt + 1 := h152
                    have h153_ : r148.toInt = s14.toInt := h153
                    have h154_ : ∀ j, j ∉ [60, 69, 70, 71, 72, 73] → g'149 j = g'29 j := h154
                    replace hS151 : MS S0 S146 (upd (upd (upd (upd (upd (upd (upd (upd f 4 z53) 5 y54) 6 a113) 7 b114) 10 0) 62 o13) 68 z147) 75 m15) g'149 := hS151
                    have hR155_ : RJ (upd (upd (upd (upd (upd (upd (upd (upd f 4 z53) 5 y54) 6 a113) 7 b114) 10 0) 62 o13) 68 z147) 75 m15) g'149 (((28 : Int), (0 : Int), (0 : Int), (0 : Int), []) :: gs) bc [] 0 (s14.toNatClampNeg :: []) := hR155
                    show am_E _ _ _ _ [some (.ref 39), some (.int 0), some (.int 0), some (.int (f 4)), none] [.int r148] _ _
                    refine am_e3 (ls' := [some (.ref 39), some (.int 0), some (.int 0), some (.int (f 4)), some (.int r148)]) hi_213_11 (Nat.le_of_ble_eq_true rfl) rfl ?_
                    refine am_e2 (v := 39) hi_213_13 rfl ?_
                    refine am_e7 hi_213_14 ?_
                    refine mm_20 (v := .int (f 15)) hS151 hi_213_15 rfl ?_
                    refine am_e0 hi_213_18 ?_
                    obtain ⟨z156, hz156, tz156⟩ := am_subI (x := f 15) (y := 1) (m := (f 15).toInt) (n := (1 : Int)) rfl (by decide) (by omega) (by omega)
                    refine am_e10 (z := z156) hi_213_19 hz156 ?_
                    refine mm_21 (v := z156) hS151 hi_213_20 rfl (Nat.le_of_ble_eq_true rfl) ms_15 ?_
                    intro S157 hS158
                    replace hS158 : MS S0 S157 (upd (upd (upd (upd (upd (upd (upd (upd (upd f 4 z53) 5 y54) 6 a113) 7 b114) 10 0) 15 z156) 62 o13) 68 z147) 75 m15) g'149 := hS158
                    have hp159 : mj_n (g'16 16) (f 15).toNatClampNeg 3 = mj_n (g'16 16) z156.toNatClampNeg 3 + if (g'16 16 z156.toNatClampNeg).toInt = 3 then 1 else 0 := mj_pop (by rw [cl_toNat, cl_toNat]; omega)
                    have hp1591 : mj_n (g'16 16) z156.toNatClampNeg 3 ≤ mj_n (g'16 16) (f 15).toNatClampNeg 3 := by rw [hp159]; split <;> omega
                    have hp1592 : (g'16 16 z156.toNatClampNeg).toInt = 3 → mj_n (g'16 16) z156.toNatClampNeg 3 + 1 ≤ mj_n (g'16 16) (f 15).toNatClampNeg 3 := fun q => by rw [hp159, if_pos q]; exact Int.le_refl _
                    refine am_e2 (v := 39) hi_213_23 rfl ?_
                    refine am_e0 hi_213_24 ?_
                    refine am_e1 (v := r148) hi_213_25 rfl ?_
                    refine am_e1 (v := f 4) hi_213_27 rfl ?_
                    refine am_e32n (as := [.ref 39, .int 1, .int r148, .int (f 4)]) (la := [some (.ref 39), some (.int 1), some (.int r148), some (.int (f 4))]) (rest := []) hi_213_28 (am_hd0 (M := 213) (by decide) 28) (Nat.le_of_ble_eq_true rfl) (Nat.le_of_ble_eq_true rfl) (show 4 ≤ am_P0.2.2.1 190 from by decide +kernel) rfl (am_recv_ok hS158.fs) rfl rfl (ct_value (d := (d + 3)) hS158 hR155_ (fun h => absurd h (by decide)) (fun _ => ⟨by omega, by omega⟩) (by show (0 : Int) ≤ z156.toInt; omega) (by show z156.toInt ≤ (32767 : Int); omega)) ?_
                    rintro v160 S161 (⟨z162, g'163, hv164, hS165, hR170, h166, h167, h168, h169⟩)
                    subst hv164
                    have h166_ : z162.toInt = z156.toInt + 1 := h166
                    have h167_ : ∀ j, j ∉ [16, 17, 18] → g'163 j = g'149 j := h167
                    have h168_ : mj_n (g'163 16) z162.toNatClampNeg 3 ≤ mj_n (g'16 16) z156.toNatClampNeg 3 + 1 := by rw [show g'149 16 = g'29 16 from h154_ 16 (by decide), show g'29 16 = g'16 16 from h33_ 16 (by decide)] at h168; exact h168
                    have h169_ : (1 : Int) = 3 ∨ mj_n (g'163 16) z162.toNatClampNeg 3 ≤ mj_n (g'16 16) z156.toNatClampNeg 3 := by rw [show g'149 16 = g'29 16 from h154_ 16 (by decide), show g'29 16 = g'16 16 from h33_ 16 (by decide)] at h169; exact h169
                    replace hS165 : MS S0 S161 (upd (upd (upd (upd (upd (upd (upd (upd (upd f 4 z53) 5 y54) 6 a113) 7 b114) 10 0) 15 z162) 62 o13) 68 z147) 75 m15) g'163 := hS165
                    have hR170_ : RJ (upd (upd (upd (upd (upd (upd (upd (upd (upd f 4 z53) 5 y54) 6 a113) 7 b114) 10 0) 15 z162) 62 o13) 68 z147) 75 m15) g'163 (((28 : Int), (0 : Int), (0 : Int), (0 : Int), []) :: gs) bc [] 0 (s14.toNatClampNeg :: []) := hR170
                    show am_E _ _ _ _ [some (.ref 39), some (.int 0), some (.int 0), some (.int (f 4)), some (.int r148)] [] _ _
                    refine am_e35 hi_213_31 ?_
                    show am_E _ _ _ _ [some (.ref 39), some (.int 0), some (.int (f 4))] [] _ _
                    refine am_e18 hi_212_109 ?_
                    refine am_e35 hi_212_125 ?_
                    show am_E _ _ _ _ [some (.ref 39), some (.int r2), some (.int (f 4)), none] [] _ _
                    refine am_e35 hi_211_249 ?_
                    show am_E _ _ _ _ [some (.ref 39), some (.int 28), some (.int on), some (.int tw)] [] _ _
                    refine am_e18 hi_181_180 ?_
                    refine am_e35 hi_181_397 ?_
                    show am_E _ _ _ _ [some (.ref 39), some (.int 28), some (.int on), some (.int tw), some (.int th)] [] _ _
                    refine am_e35 hi_180_13 ?_
                    have hRc := rj_clear0 hR170_
                    refine ⟨_, _, [], _, rfl, hS165, Or.inr ⟨hRc, rfl, (by show 0 ≤ z53.toInt; omega), (by show z53.toInt ≤ (f 0).toInt; omega), (by show 0 ≤ (f 32).toInt; omega), (by show (f 32).toInt ≤ 63; omega), (by show 1 ≤ (f 53).toInt; omega), (by show (f 53).toInt ≤ 600; omega), (by show 0 ≤ z147.toInt; omega), (by show z147.toInt ≤ 60000; omega), (by show 0 ≤ (f 48).toInt; omega), (by show (f 48).toInt ≤ 8000; omega), (by show 0 ≤ (f 37).toInt; omega), (by show (f 37).toInt ≤ 128; omega), (by show 0 ≤ o13.toInt; omega), (by show o13.toInt ≤ 65000; omega)⟩⟩
              · subst hv64
                replace hS65 : MS S0 S52 (upd (upd (upd (upd (upd (upd f 6 a62) 7 b63) 10 0) 62 o13) 68 s14) 75 m15) g'29 := hS65
                show am_E _ _ _ _ [some (.ref 39), some (.int 0), some (.int (f 4))] [.int 0] _ _
                refine am_e12t hi_212_83 (by decide) ?_
                refine am_e35 hi_212_125 ?_
                show am_E _ _ _ _ [some (.ref 39), some (.int r2), some (.int (f 4)), none] [] _ _
                refine am_e35 hi_211_249 ?_
                show am_E _ _ _ _ [some (.ref 39), some (.int 28), some (.int on), some (.int tw)] [] _ _
                refine am_e18 hi_181_180 ?_
                refine am_e35 hi_181_397 ?_
                show am_E _ _ _ _ [some (.ref 39), some (.int 28), some (.int on), some (.int tw), some (.int th)] [] _ _
                refine am_e35 hi_180_13 ?_
                have hRc := rj_clear0 hR34_
                refine ⟨_, _, [], _, rfl, hS65, Or.inr ⟨hRc, rfl, (by show 0 ≤ (f 4).toInt; omega), (by show (f 4).toInt ≤ (f 0).toInt; omega), (by show 0 ≤ (f 32).toInt; omega), (by show (f 32).toInt ≤ 63; omega), (by show 1 ≤ (f 53).toInt; omega), (by show (f 53).toInt ≤ 600; omega), (by show 0 ≤ s14.toInt; omega), (by show s14.toInt ≤ 60000; omega), (by show 0 ≤ (f 48).toInt; omega), (by show (f 48).toInt ≤ 8000; omega), (by show 0 ≤ (f 37).toInt; omega), (by show (f 37).toInt ≤ 128; omega), (by show 0 ≤ o13.toInt; omega), (by show o13.toInt ≤ 65000; omega)⟩⟩
            · refine am_e13f hi_212_58 (am_cF (m := r45.toInt) (n := (62 : Int)) rfl (by decide) c50) ?_
              refine am_e2 (v := 39) hi_212_61 rfl ?_
              refine am_e0 hi_212_62 ?_
              refine am_e1 (v := 0) hi_212_64 rfl ?_
              refine am_e1 (v := f 4) hi_212_65 rfl ?_
              refine am_e0 hi_212_66 ?_
              refine am_e32n (as := [.ref 39, .int 33, .int 0, .int (f 4), .int 0]) (la := [some (.ref 39), some (.int 33), some (.int 0), some (.int (f 4)), some (.int 0)]) (rest := []) hi_212_67 (am_hd0 (M := 212) (by decide) 67) (Nat.le_of_ble_eq_true rfl) (Nat.le_of_ble_eq_true rfl) (show 5 ≤ am_P0.2.2.1 179 from by decide +kernel) rfl (am_recv_ok hS47.fs) rfl rfl (ct_pile (d := (d + 4)) hS47 hR34_ (mj_e_plain (by decide)) (by show (0 : Int) ≤ z28.toInt; omega) (by show z28.toInt ≤ (65535 : Int); omega)) ?_
              rintro v171 S172 (⟨z173, g'174, hv175, hS176, hR179, h177, h178⟩)
              subst hv175
              have h177_ : z173.toInt = z28.toInt + 1 := h177
              have h178_ : ∀ j, j ∉ [11, 12, 13, 14] → g'174 j = g'29 j := h178
              replace hS176 : MS S0 S172 (upd (upd (upd (upd f 10 z173) 62 o13) 68 s14) 75 m15) g'174 := hS176
              have hR179_ : RJ (upd (upd (upd (upd f 10 z173) 62 o13) 68 s14) 75 m15) g'174 (((33 : Int), (0 : Int), (f 4).toInt, (0 : Int), []) :: (((28 : Int), (0 : Int), (0 : Int), (0 : Int), []) :: gs)) bc [] 0 [] := hR179
              show am_E _ _ _ _ [some (.ref 39), some (.int 0), some (.int (f 4))] [] _ _
              refine am_e2 (v := 39) hi_212_70 rfl ?_
              refine am_e32w (as := [.ref 39]) (la := [some (.ref 39), none]) (rest := []) hi_212_71 (am_hd0 (M := 212) (by decide) 71) (Nat.le_of_ble_eq_true rfl) (Nat.le_of_ble_eq_true rfl) (show 1 ≤ am_P0.2.2.1 192 from by decide +kernel) rfl (am_recv_ok hS176.fs) rfl rfl ?_
              refine am_e2 (v := 39) hi_192_0 rfl ?_
              refine mm_20 (v := .int (f 4)) hS176 hi_192_1 rfl ?_
              refine am_e3 (ls' := [some (.ref 39), some (.int (f 4))]) hi_192_4 (Nat.le_of_ble_eq_true rfl) rfl ?_
              refine am_e2 (v := 39) hi_192_5 rfl ?_
              refine am_e0 hi_192_6 ?_
              refine am_e32n (as := [.ref 39, .int 62]) (la := [some (.ref 39), some (.int 62)]) (rest := []) hi_192_8 (am_hd0 (M := 192) (by decide) 8) (Nat.le_of_ble_eq_true rfl) (Nat.le_of_ble_eq_true rfl) (show 2 ≤ am_P0.2.2.1 193 from by decide +kernel) rfl (am_recv_ok hS176.fs) rfl rfl (ct_enter (d := (d + 1)) hS176   (by show (0 : Int) ≤ (f 4).toInt; omega) (by show (f 0).toInt ≤ (16384 : Int); omega) (by show (0 : Int) ≤ (62 : Int); omega) (by show (0 : Int) ≤ (f 5).toInt; omega) (by show (f 5).toInt ≤ (48 : Int); omega)) ?_
              rintro v180 S181 (⟨z182, y183, hv184, hS185, h186, h187, h188, h189⟩ | ⟨a191, b192, hv193, hS194⟩)
              · subst hv184
                have h186_ : z182.toInt = (f 4).toInt + 1 := h186
                have h187_ : (f 4).toInt < (f 0).toInt := h187
                have h188_ : y183.toInt = (f 5).toInt + 1 := h188
                have h189_ : y183.toInt ≤ (48 : Int) := h189
                replace hS185 : MS S0 S181 (upd (upd (upd (upd (upd (upd f 4 z182) 5 y183) 10 z173) 62 o13) 68 s14) 75 m15) g'174 := hS185
                have hR196 : RJ (upd (upd (upd (upd (upd (upd f 4 z182) 5 y183) 10 z173) 62 o13) 68 s14) 75 m15) g'174 (((33 : Int), (0 : Int), (f 4).toInt, (0 : Int), []) :: (((28 : Int), (0 : Int), (0 : Int), (0 : Int), []) :: gs)) bc [] 0 [] := RJ.at hR179_ (by show (f 4).toInt ≤ z182.toInt; omega)
                show am_E _ _ _ _ [some (.ref 39), some (.int (f 4))] [.int 1] _ _
                refine am_e12t hi_192_11 (by decide) ?_
                refine am_e2 (v := 39) hi_192_15 rfl ?_
                refine am_e0 hi_192_16 ?_
                refine am_e0 hi_192_18 ?_
                refine am_e0 hi_192_19 ?_
                refine am_e1 (v := f 4) hi_192_20 rfl ?_
                refine am_e32n (as := [.ref 39, .int 20, .int 0, .int 0, .int (f 4)]) (la := [some (.ref 39), some (.int 20), some (.int 0), some (.int 0), some (.int (f 4))]) (rest := []) hi_192_21 (am_hd0 (M := 192) (by decide) 21) (Nat.le_of_ble_eq_true rfl) (Nat.le_of_ble_eq_true rfl) (show 5 ≤ am_P0.2.2.1 189 from by decide +kernel) rfl (am_recv_ok hS185.fs) rfl rfl (ct_put (d := (d + 3)) hS185 hR196  (by show (0 : Int) ≤ (f 32).toInt; omega) (by show (f 32).toInt ≤ (63 : Int); omega) (by show (f 53).toInt ≤ (4096 : Int); omega) (by show (0 : Int) ≤ s14.toInt; omega) (by show s14.toInt ≤ (65534 : Int); omega)) ?_
                rintro v197 S198 (⟨z199, r200, g'201, hv202, hS203, hR207, h204, h205, h206⟩)
                subst hv202
                have h204_ : z199.toInt = s14.toInt + 1 := h204
                have h205_ : r200.toInt = s14.toInt := h205
                have h206_ : ∀ j, j ∉ [60, 69, 70, 71, 72, 73] → g'201 j = g'174 j := h206
                replace hS203 : MS S0 S198 (upd (upd (upd (upd (upd (upd f 4 z182) 5 y183) 10 z173) 62 o13) 68 z199) 75 m15) g'201 := hS203
                have hR207_ : RJ (upd (upd (upd (upd (upd (upd f 4 z182) 5 y183) 10 z173) 62 o13) 68 z199) 75 m15) g'201 (((33 : Int), (0 : Int), (f 4).toInt, (0 : Int), []) :: (((28 : Int), (0 : Int), (0 : Int), (0 : Int), []) :: gs)) bc [] 0 (s14.toNatClampNeg :: []) := hR207
                show am_E _ _ _ _ [some (.ref 39), some (.int (f 4))] [.int r200] _ _
                refine am_e6i hi_192_24 ?_
                refine am_e2 (v := 39) hi_192_25 rfl ?_
                refine am_e0 hi_192_26 ?_
                refine am_e0 hi_192_27 ?_
                refine am_e0 hi_192_28 ?_
                refine am_e32n (as := [.ref 39, .int 0, .int 0, .int 0]) (la := [some (.ref 39), some (.int 0), some (.int 0), some (.int 0)]) (rest := []) hi_192_29 (am_hd0 (M := 192) (by decide) 29) (Nat.le_of_ble_eq_true rfl) (Nat.le_of_ble_eq_true rfl) (show 4 ≤ am_P0.2.2.1 190 from by decide +kernel) rfl (am_recv_ok hS203.fs) rfl rfl (ct_value (d := (d + 3)) hS203 hR207_ (fun h => absurd h (by decide)) (fun h => absurd h (by decide)) (by show (0 : Int) ≤ (f 15).toInt; omega) (by show (f 15).toInt ≤ (32767 : Int); omega)) ?_
                rintro v208 S209 (⟨z210, g'211, hv212, hS213, hR218, h214, h215, h216, h217⟩)
                subst hv212
                have h214_ : z210.toInt = (f 15).toInt + 1 := h214
                have h215_ : ∀ j, j ∉ [16, 17, 18] → g'211 j = g'201 j := h215
                have h216_ : mj_n (g'211 16) z210.toNatClampNeg 3 ≤ mj_n (g'16 16) (f 15).toNatClampNeg 3 + 1 := by rw [show g'201 16 = g'174 16 from h206_ 16 (by decide), show g'174 16 = g'29 16 from h178_ 16 (by decide), show g'29 16 = g'16 16 from h33_ 16 (by decide)] at h216; exact h216
                have h217_ : (0 : Int) = 3 ∨ mj_n (g'211 16) z210.toNatClampNeg 3 ≤ mj_n (g'16 16) (f 15).toNatClampNeg 3 := by rw [show g'201 16 = g'174 16 from h206_ 16 (by decide), show g'174 16 = g'29 16 from h178_ 16 (by decide), show g'29 16 = g'16 16 from h33_ 16 (by decide)] at h217; exact h217
                replace hS213 : MS S0 S209 (upd (upd (upd (upd (upd (upd (upd f 4 z182) 5 y183) 10 z173) 15 z210) 62 o13) 68 z199) 75 m15) g'211 := hS213
                have hR218_ : RJ (upd (upd (upd (upd (upd (upd (upd f 4 z182) 5 y183) 10 z173) 15 z210) 62 o13) 68 z199) 75 m15) g'211 (((33 : Int), (0 : Int), (f 4).toInt, (0 : Int), []) :: (((28 : Int), (0 : Int), (0 : Int), (0 : Int), []) :: gs)) bc [] 0 (s14.toNatClampNeg :: []) := hR218
                show am_E _ _ _ _ [some (.ref 39), some (.int (f 4))] [] _ _
                refine am_e2 (v := 39) hi_192_32 rfl ?_
                refine am_e0 hi_192_33 ?_
                refine am_e0 hi_192_35 ?_
                refine am_e0 hi_192_36 ?_
                refine am_e0 hi_192_37 ?_
                refine am_e32n (as := [.ref 39, .int 35, .int 0, .int 0, .int 0]) (la := [some (.ref 39), some (.int 35), some (.int 0), some (.int 0), some (.int 0)]) (rest := []) hi_192_38 (am_hd0 (M := 192) (by decide) 38) (Nat.le_of_ble_eq_true rfl) (Nat.le_of_ble_eq_true rfl) (show 5 ≤ am_P0.2.2.1 179 from by decide +kernel) rfl (am_recv_ok hS213.fs) rfl rfl (ct_pile (d := (d + 3)) hS213 hR218_ (mj_e_plain (by decide)) (by show (0 : Int) ≤ z173.toInt; omega) (by show z173.toInt ≤ (65535 : Int); omega)) ?_
                rintro v219 S220 (⟨z221, g'222, hv223, hS224, hR227, h225, h226⟩)
                subst hv223
                have h225_ : z221.toInt = z173.toInt + 1 := h225
                have h226_ : ∀ j, j ∉ [11, 12, 13, 14] → g'222 j = g'211 j := h226
                replace hS224 : MS S0 S220 (upd (upd (upd (upd (upd (upd (upd f 4 z182) 5 y183) 10 z221) 15 z210) 62 o13) 68 z199) 75 m15) g'222 := hS224
                have hR227_ : RJ (upd (upd (upd (upd (upd (upd (upd f 4 z182) 5 y183) 10 z221) 15 z210) 62 o13) 68 z199) 75 m15) g'222 (((35 : Int), (0 : Int), (0 : Int), (0 : Int), []) :: (((33 : Int), (0 : Int), (f 4).toInt, (0 : Int), []) :: (((28 : Int), (0 : Int), (0 : Int), (0 : Int), []) :: gs))) bc [] 0 (s14.toNatClampNeg :: []) := hR227
                show am_E _ _ _ _ [some (.ref 39), some (.int (f 4))] [] _ _
                refine am_e35 hi_192_41 ?_
                show am_E _ _ _ _ [some (.ref 39), some (.int 0), some (.int (f 4))] [] _ _
                refine am_e18 hi_212_74 ?_
                refine am_e35 hi_212_125 ?_
                show am_E _ _ _ _ [some (.ref 39), some (.int r2), some (.int (f 4)), none] [] _ _
                refine am_e35 hi_211_249 ?_
                show am_E _ _ _ _ [some (.ref 39), some (.int 28), some (.int on), some (.int tw)] [] _ _
                refine am_e18 hi_181_180 ?_
                refine am_e35 hi_181_397 ?_
                show am_E _ _ _ _ [some (.ref 39), some (.int 28), some (.int on), some (.int tw), some (.int th)] [] _ _
                refine am_e35 hi_180_13 ?_
                have q1 : mg_p1 (((35 : Int), (0 : Int), (0 : Int), (0 : Int), []) :: (((33 : Int), (0 : Int), (f 4).toInt, (0 : Int), []) :: (((28 : Int), (0 : Int), (0 : Int), (0 : Int), []) :: gs))) = 0 + (0 + (0 + (mg_p1 gs))) := rfl
                have q2 : mg_p2 (((35 : Int), (0 : Int), (0 : Int), (0 : Int), []) :: (((33 : Int), (0 : Int), (f 4).toInt, (0 : Int), []) :: (((28 : Int), (0 : Int), (0 : Int), (0 : Int), []) :: gs))) = 0 + (0 + (0 + (mg_p2 gs))) := rfl
                have q3 : mg_p3 (((35 : Int), (0 : Int), (0 : Int), (0 : Int), []) :: (((33 : Int), (0 : Int), (f 4).toInt, (0 : Int), []) :: (((28 : Int), (0 : Int), (0 : Int), (0 : Int), []) :: gs))) = 3 + (1 + (1 + (mg_p3 gs))) := rfl
                have q4 : mg_p4 (((35 : Int), (0 : Int), (0 : Int), (0 : Int), []) :: (((33 : Int), (0 : Int), (f 4).toInt, (0 : Int), []) :: (((28 : Int), (0 : Int), (0 : Int), (0 : Int), []) :: gs))) = 0 + (3 + (0 + (mg_p4 gs))) := rfl
                refine ⟨_, _, _, bc, rfl, hS224, Or.inl ⟨⟨(RJ.fewer (pj' := []) hR227_ (fun _ h => nomatch h)), ?_, ?_⟩, rfl, ?_⟩⟩
                · exact (⟨⟨(show (0 : Int) ≤ 35 from by decide), (show (0 : Int) ≤ z210.toInt from by omega), (show 0 ≤ (f 20).toInt from by omega), (show 1 ≤ (f 37).toInt from by omega), (show 0 ≤ (f 32).toInt from by omega), (show (f 32).toInt ≤ y183.toInt from by omega), (show y183.toInt ≤ 48 from by omega), (show (f 37).toInt ≤ 2 * (y183.toInt) + 2 from by omega), trivial⟩, ⟨⟨(show (0 : Int) ≤ 33 from by decide), (show (2 : Int) ≤ z210.toInt + 0 from by omega), (show 0 ≤ (f 20).toInt from by omega), (show 1 ≤ (f 37).toInt + 0 from by omega), (show 0 ≤ (f 32).toInt + 0 from by omega), (show (f 32).toInt + 0 ≤ y183.toInt + -1 from by omega), (show y183.toInt + -1 ≤ 48 from by omega), (show (f 37).toInt + 0 ≤ 2 * (y183.toInt + -1) + 2 from by omega), trivial⟩, ⟨⟨(show (0 : Int) ≤ 28 from by decide), (show (1 : Int) ≤ z210.toInt + 0 + -1 from by omega), (show 0 ≤ (f 20).toInt from by omega), (show 1 ≤ (f 37).toInt + 0 + 0 from by omega), (show 0 ≤ (f 32).toInt + 0 + 0 from by omega), (show (f 32).toInt + 0 + 0 ≤ y183.toInt + -1 + 0 from by omega), (show y183.toInt + -1 + 0 ≤ 48 from by omega), (show (f 37).toInt + 0 + 0 ≤ 2 * (y183.toInt + -1 + 0) + 2 from by omega), trivial⟩, mg_cast (mg_good_ext _ _ _ _ _ _ (fun i _ => by show g'222 34 i = g 34 i; rw [show g'222 34 = g'211 34 from h226_ 34 (by decide), show g'211 34 = g'201 34 from h215_ 34 (by decide), show g'201 34 = g'174 34 from h206_ 34 (by decide), show g'174 34 = g'29 34 from h178_ 34 (by decide), show g'29 34 = g'16 34 from h33_ 34 (by decide), show g'16 34 = g 34 from h24_ 34 (by decide)]) (fun i _ => by show g'222 38 i = g 38 i; rw [show g'222 38 = g'211 38 from h226_ 38 (by decide), show g'211 38 = g'201 38 from h215_ 38 (by decide), show g'201 38 = g'174 38 from h206_ 38 (by decide), show g'174 38 = g'29 38 from h178_ 38 (by decide), show g'29 38 = g'16 38 from h33_ 38 (by decide), show g'16 38 = g 38 from h24_ 38 (by decide)]) hrest) (by show (f 15).toInt + 0 = z210.toInt + 0 + -1 + 0; omega) (by show (f 20).toInt = (f 20).toInt; omega) (by show (f 37).toInt + 0 = (f 37).toInt + 0 + 0 + 0; omega) (by show (f 32).toInt + 0 = (f 32).toInt + 0 + 0 + 0; omega) (by show (f 5).toInt + 0 = y183.toInt + -1 + 0 + 0; omega)⟩⟩⟩ : mg_good (g'222 34) (g'222 38) (((35 : Int), (0 : Int), (0 : Int), (0 : Int), []) :: (((33 : Int), (0 : Int), (f 4).toInt, (0 : Int), []) :: (((28 : Int), (0 : Int), (0 : Int), (0 : Int), []) :: gs))) (z210.toInt) ((f 20).toInt) ((f 37).toInt) ((f 32).toInt) (y183.toInt))
                · exact ⟨(by show 0 ≤ z182.toInt; omega), (by show z182.toInt ≤ (f 0).toInt; omega), (by show (f 0).toInt ≤ 512; omega), (by show 0 ≤ (f 24).toInt; omega), (by show (f 24).toInt + (f 20).toInt + mg_p1 (((35 : Int), (0 : Int), (0 : Int), (0 : Int), []) :: (((33 : Int), (0 : Int), (f 4).toInt, (0 : Int), []) :: (((28 : Int), (0 : Int), (0 : Int), (0 : Int), []) :: gs))) ≤ 4 * z182.toInt; omega), (by show (f 20).toInt ≤ z182.toInt; omega), (by show z210.toInt + mg_p2 (((35 : Int), (0 : Int), (0 : Int), (0 : Int), []) :: (((33 : Int), (0 : Int), (f 4).toInt, (0 : Int), []) :: (((28 : Int), (0 : Int), (0 : Int), (0 : Int), []) :: gs))) ≤ z182.toInt; omega), (by show mg_p3 (((35 : Int), (0 : Int), (0 : Int), (0 : Int), []) :: (((33 : Int), (0 : Int), (f 4).toInt, (0 : Int), []) :: (((28 : Int), (0 : Int), (0 : Int), (0 : Int), []) :: gs))) ≤ 20 * z182.toInt + 20; omega), (by show 0 ≤ z199.toInt; omega), (by show z199.toInt + 3 * (f 20).toInt + mg_p4 (((35 : Int), (0 : Int), (0 : Int), (0 : Int), []) :: (((33 : Int), (0 : Int), (f 4).toInt, (0 : Int), []) :: (((28 : Int), (0 : Int), (0 : Int), (0 : Int), []) :: gs))) ≤ 60 * z182.toInt + 60; omega), (by show 0 ≤ o13.toInt; omega), (by show o13.toInt + 64 * mj_n (g'222 16) z210.toNatClampNeg 3 ≤ 64 * z182.toInt; rw [show g'222 16 = g'211 16 from h226_ 16 (by decide)]; omega), (by show 0 ≤ (f 44).toInt; omega), (by show (f 44).toInt ≤ z182.toInt; omega), (by show 0 ≤ (f 48).toInt; omega), (by show (f 48).toInt ≤ z182.toInt; omega), (by show 1 ≤ (f 53).toInt; omega), (by show (f 53).toInt ≤ z182.toInt + 1; omega)⟩
                · show 100 * ((f 0).toInt - z182.toInt) + mg_p3 (((35 : Int), (0 : Int), (0 : Int), (0 : Int), []) :: (((33 : Int), (0 : Int), (f 4).toInt, (0 : Int), []) :: (((28 : Int), (0 : Int), (0 : Int), (0 : Int), []) :: gs))) < 100 * ((f 0).toInt - (f 4).toInt) + (1 + mg_p3 gs); omega
              · subst hv193
                replace hS194 : MS S0 S181 (upd (upd (upd (upd (upd (upd f 6 a191) 7 b192) 10 0) 62 o13) 68 s14) 75 m15) g'174 := hS194
                show am_E _ _ _ _ [some (.ref 39), some (.int (f 4))] [.int 0] _ _
                refine am_e12f hi_192_11 (by decide) ?_
                refine am_e35 hi_192_14 ?_
                show am_E _ _ _ _ [some (.ref 39), some (.int 0), some (.int (f 4))] [] _ _
                refine am_e18 hi_212_74 ?_
                refine am_e35 hi_212_125 ?_
                show am_E _ _ _ _ [some (.ref 39), some (.int r2), some (.int (f 4)), none] [] _ _
                refine am_e35 hi_211_249 ?_
                show am_E _ _ _ _ [some (.ref 39), some (.int 28), some (.int on), some (.int tw)] [] _ _
                refine am_e18 hi_181_180 ?_
                refine am_e35 hi_181_397 ?_
                show am_E _ _ _ _ [some (.ref 39), some (.int 28), some (.int on), some (.int tw), some (.int th)] [] _ _
                refine am_e35 hi_180_13 ?_
                have hRc := rj_clear0 hR179_
                refine ⟨_, _, [], _, rfl, hS194, Or.inr ⟨hRc, rfl, (by show 0 ≤ (f 4).toInt; omega), (by show (f 4).toInt ≤ (f 0).toInt; omega), (by show 0 ≤ (f 32).toInt; omega), (by show (f 32).toInt ≤ 63; omega), (by show 1 ≤ (f 53).toInt; omega), (by show (f 53).toInt ≤ 600; omega), (by show 0 ≤ s14.toInt; omega), (by show s14.toInt ≤ 60000; omega), (by show 0 ≤ (f 48).toInt; omega), (by show (f 48).toInt ≤ 8000; omega), (by show 0 ≤ (f 37).toInt; omega), (by show (f 37).toInt ≤ 128; omega), (by show 0 ≤ o13.toInt; omega), (by show o13.toInt ≤ 65000; omega)⟩⟩
          · refine am_e13f hi_212_10 (am_cF (m := r37.toInt) (n := (3 : Int)) rfl (by decide) c42) ?_
            refine am_e2 (v := 39) hi_212_13 rfl ?_
            refine am_e0 hi_212_14 ?_
            refine am_e2 (v := 39) hi_212_15 rfl ?_
            refine mm_20 (v := .ref 41) hS39 hi_212_16 rfl ?_
            refine am_e2 (v := 39) hi_212_19 rfl ?_
            refine mm_20 (v := .int (f 4)) hS39 hi_212_20 rfl ?_
            refine mm_25 hS39 ma_2 hi_212_23 (by decide) (by omega) (by omega) ?_
            show am_E _ _ _ _ _ (.int (g'29 2 (f 4).toNatClampNeg) :: _) _ _
            rw [show g'29 2 = g'16 2 from h33_ 2 (by decide), show g'16 2 = g 2 from h24_ 2 (by decide)]
            show am_E _ _ _ _ [some (.ref 39), some (.int 0), some (.int (f 4))] [.int (g 2 (f 4).toNatClampNeg), .int 5, .ref 39] _ _
            refine am_e0 hi_212_24 ?_
            refine am_e0 hi_212_25 ?_
            refine am_e32n (as := [.ref 39, .int 5, .int (g 2 (f 4).toNatClampNeg), .int 0, .int 0]) (la := [some (.ref 39), some (.int 5), some (.int (g 2 (f 4).toNatClampNeg)), some (.int 0), some (.int 0)]) (rest := []) hi_212_26 (am_hd0 (M := 212) (by decide) 26) (Nat.le_of_ble_eq_true rfl) (Nat.le_of_ble_eq_true rfl) (show 5 ≤ am_P0.2.2.1 189 from by decide +kernel) rfl (am_recv_ok hS39.fs) rfl rfl (ct_put (d := (d + 4)) hS39 hR34_  (by show (0 : Int) ≤ (f 32).toInt; omega) (by show (f 32).toInt ≤ (63 : Int); omega) (by show (f 53).toInt ≤ (4096 : Int); omega) (by show (0 : Int) ≤ s14.toInt; omega) (by show s14.toInt ≤ (65534 : Int); omega)) ?_
            rintro v228 S229 (⟨z230, r231, g'232, hv233, hS234, hR238, h235, h236, h237⟩)
            subst hv233
            have h235_ : z230.toInt = s14.toInt + 1 := h235
            have h236_ : r231.toInt = s14.toInt := h236
            have h237_ : ∀ j, j ∉ [60, 69, 70, 71, 72, 73] → g'232 j = g'29 j := h237
            replace hS234 : MS S0 S229 (upd (upd (upd (upd f 10 z28) 62 o13) 68 z230) 75 m15) g'232 := hS234
            have hR238_ : RJ (upd (upd (upd (upd f 10 z28) 62 o13) 68 z230) 75 m15) g'232 (((28 : Int), (0 : Int), (0 : Int), (0 : Int), []) :: gs) bc [] 0 (s14.toNatClampNeg :: []) := hR238
            show am_E _ _ _ _ [some (.ref 39), some (.int 0), some (.int (f 4))] [.int r231] _ _
            refine am_e6i hi_212_29 ?_
            refine am_e2 (v := 39) hi_212_30 rfl ?_
            refine am_e7 hi_212_31 ?_
            refine mm_20 (v := .int (f 4)) hS234 hi_212_32 rfl ?_
            refine am_e0 hi_212_35 ?_
            obtain ⟨z239, hz239, tz239⟩ := am_addI (x := f 4) (y := 1) (m := (f 4).toInt) (n := (1 : Int)) rfl (by decide) (by omega) (by omega)
            refine am_e10 (z := z239) hi_212_36 hz239 ?_
            refine mm_21 (v := z239) hS234 hi_212_37 rfl (Nat.le_of_ble_eq_true rfl) ms_4 ?_
            intro S240 hS241
            replace hS241 : MS S0 S240 (upd (upd (upd (upd (upd f 4 z239) 10 z28) 62 o13) 68 z230) 75 m15) g'232 := hS241
            have hR242 : RJ (upd (upd (upd (upd (upd f 4 z239) 10 z28) 62 o13) 68 z230) 75 m15) g'232 (((28 : Int), (0 : Int), (0 : Int), (0 : Int), []) :: gs) bc [] 0 (s14.toNatClampNeg :: []) := RJ.at hR238_ (by show (f 4).toInt ≤ z239.toInt; omega)
            refine am_e2 (v := 39) hi_212_40 rfl ?_
            refine am_e0 hi_212_41 ?_
            refine am_e1 (v := 0) hi_212_42 rfl ?_
            refine am_e10 (z := 1) hi_212_43 (by decide) ?_
            refine am_e0 hi_212_44 ?_
            refine am_e1 (v := f 4) hi_212_45 rfl ?_
            refine am_e32w (as := [.ref 39, .int 1, .int 0, .int (f 4)]) (la := [some (.ref 39), some (.int 1), some (.int 0), some (.int (f 4)), none]) (rest := []) hi_212_46 (am_hd0 (M := 212) (by decide) 46) (Nat.le_of_ble_eq_true rfl) (Nat.le_of_ble_eq_true rfl) (show 4 ≤ am_P0.2.2.1 213 from by decide +kernel) rfl (am_recv_ok hS241.fs) rfl rfl ?_
            refine am_e2 (v := 39) hi_213_0 rfl ?_
            refine am_e0 hi_213_1 ?_
            refine am_e1 (v := 1) hi_213_3 rfl ?_
            refine am_e1 (v := 0) hi_213_4 rfl ?_
            refine am_e0 hi_213_5 ?_
            refine am_e10 (z := 2) hi_213_6 (by decide) ?_
            refine am_e1 (v := f 4) hi_213_7 rfl ?_
            refine am_e32n (as := [.ref 39, .int 13, .int 1, .int 2, .int (f 4)]) (la := [some (.ref 39), some (.int 13), some (.int 1), some (.int 2), some (.int (f 4))]) (rest := []) hi_213_8 (am_hd0 (M := 213) (by decide) 8) (Nat.le_of_ble_eq_true rfl) (Nat.le_of_ble_eq_true rfl) (show 5 ≤ am_P0.2.2.1 189 from by decide +kernel) rfl (am_recv_ok hS241.fs) rfl rfl (ct_put (d := (d + 3)) hS241 hR242  (by show (0 : Int) ≤ (f 32).toInt; omega) (by show (f 32).toInt ≤ (63 : Int); omega) (by show (f 53).toInt ≤ (4096 : Int); omega) (by show (0 : Int) ≤ z230.toInt; omega) (by show z230.toInt ≤ (65534 : Int); omega)) ?_
            rintro v243 S244 (⟨z245, r246, g'247, hv248, hS249, hR253, h250, h251, h252⟩)
            subst hv248
            have h250_ : z245.toInt = z230.toInt + 1 := h250
            have h251_ : r246.toInt = z230.toInt := h251
            have h252_ : ∀ j, j ∉ [60, 69, 70, 71, 72, 73] → g'247 j = g'232 j := h252
            replace hS249 : MS S0 S244 (upd (upd (upd (upd (upd f 4 z239) 10 z28) 62 o13) 68 z245) 75 m15) g'247 := hS249
            have hR253_ : RJ (upd (upd (upd (upd (upd f 4 z239) 10 z28) 62 o13) 68 z245) 75 m15) g'247 (((28 : Int), (0 : Int), (0 : Int), (0 : Int), []) :: gs) bc [] 0 (z230.toNatClampNeg :: (s14.toNatClampNeg :: [])) := hR253
            show am_E _ _ _ _ [some (.ref 39), some (.int 1), some (.int 0), some (.int (f 4)), none] [.int r246] _ _
            refine am_e3 (ls' := [some (.ref 39), some (.int 1), some (.int 0), some (.int (f 4)), some (.int r246)]) hi_213_11 (Nat.le_of_ble_eq_true rfl) rfl ?_
            refine am_e2 (v := 39) hi_213_13 rfl ?_
            refine am_e7 hi_213_14 ?_
            refine mm_20 (v := .int (f 15)) hS249 hi_213_15 rfl ?_
            refine am_e0 hi_213_18 ?_
            obtain ⟨z254, hz254, tz254⟩ := am_subI (x := f 15) (y := 1) (m := (f 15).toInt) (n := (1 : Int)) rfl (by decide) (by omega) (by omega)
            refine am_e10 (z := z254) hi_213_19 hz254 ?_
            refine mm_21 (v := z254) hS249 hi_213_20 rfl (Nat.le_of_ble_eq_true rfl) ms_15 ?_
            intro S255 hS256
            replace hS256 : MS S0 S255 (upd (upd (upd (upd (upd (upd f 4 z239) 10 z28) 15 z254) 62 o13) 68 z245) 75 m15) g'247 := hS256
            have hp257 : mj_n (g'16 16) (f 15).toNatClampNeg 3 = mj_n (g'16 16) z254.toNatClampNeg 3 + if (g'16 16 z254.toNatClampNeg).toInt = 3 then 1 else 0 := mj_pop (by rw [cl_toNat, cl_toNat]; omega)
            have hp2571 : mj_n (g'16 16) z254.toNatClampNeg 3 ≤ mj_n (g'16 16) (f 15).toNatClampNeg 3 := by rw [hp257]; split <;> omega
            have hp2572 : (g'16 16 z254.toNatClampNeg).toInt = 3 → mj_n (g'16 16) z254.toNatClampNeg 3 + 1 ≤ mj_n (g'16 16) (f 15).toNatClampNeg 3 := fun q => by rw [hp257, if_pos q]; exact Int.le_refl _
            refine am_e2 (v := 39) hi_213_23 rfl ?_
            refine am_e0 hi_213_24 ?_
            refine am_e1 (v := r246) hi_213_25 rfl ?_
            refine am_e1 (v := f 4) hi_213_27 rfl ?_
            refine am_e32n (as := [.ref 39, .int 1, .int r246, .int (f 4)]) (la := [some (.ref 39), some (.int 1), some (.int r246), some (.int (f 4))]) (rest := []) hi_213_28 (am_hd0 (M := 213) (by decide) 28) (Nat.le_of_ble_eq_true rfl) (Nat.le_of_ble_eq_true rfl) (show 4 ≤ am_P0.2.2.1 190 from by decide +kernel) rfl (am_recv_ok hS256.fs) rfl rfl (ct_value (d := (d + 3)) hS256 hR253_ (fun h => absurd h (by decide)) (fun _ => ⟨by omega, by omega⟩) (by show (0 : Int) ≤ z254.toInt; omega) (by show z254.toInt ≤ (32767 : Int); omega)) ?_
            rintro v258 S259 (⟨z260, g'261, hv262, hS263, hR268, h264, h265, h266, h267⟩)
            subst hv262
            have h264_ : z260.toInt = z254.toInt + 1 := h264
            have h265_ : ∀ j, j ∉ [16, 17, 18] → g'261 j = g'247 j := h265
            have h266_ : mj_n (g'261 16) z260.toNatClampNeg 3 ≤ mj_n (g'16 16) z254.toNatClampNeg 3 + 1 := by rw [show g'247 16 = g'232 16 from h252_ 16 (by decide), show g'232 16 = g'29 16 from h237_ 16 (by decide), show g'29 16 = g'16 16 from h33_ 16 (by decide)] at h266; exact h266
            have h267_ : (1 : Int) = 3 ∨ mj_n (g'261 16) z260.toNatClampNeg 3 ≤ mj_n (g'16 16) z254.toNatClampNeg 3 := by rw [show g'247 16 = g'232 16 from h252_ 16 (by decide), show g'232 16 = g'29 16 from h237_ 16 (by decide), show g'29 16 = g'16 16 from h33_ 16 (by decide)] at h267; exact h267
            replace hS263 : MS S0 S259 (upd (upd (upd (upd (upd (upd f 4 z239) 10 z28) 15 z260) 62 o13) 68 z245) 75 m15) g'261 := hS263
            have hR268_ : RJ (upd (upd (upd (upd (upd (upd f 4 z239) 10 z28) 15 z260) 62 o13) 68 z245) 75 m15) g'261 (((28 : Int), (0 : Int), (0 : Int), (0 : Int), []) :: gs) bc [] 0 (z230.toNatClampNeg :: (s14.toNatClampNeg :: [])) := hR268
            show am_E _ _ _ _ [some (.ref 39), some (.int 1), some (.int 0), some (.int (f 4)), some (.int r246)] [] _ _
            refine am_e35 hi_213_31 ?_
            show am_E _ _ _ _ [some (.ref 39), some (.int 0), some (.int (f 4))] [] _ _
            refine am_e18 hi_212_49 ?_
            refine am_e35 hi_212_125 ?_
            show am_E _ _ _ _ [some (.ref 39), some (.int r2), some (.int (f 4)), none] [] _ _
            refine am_e35 hi_211_249 ?_
            show am_E _ _ _ _ [some (.ref 39), some (.int 28), some (.int on), some (.int tw)] [] _ _
            refine am_e18 hi_181_180 ?_
            refine am_e35 hi_181_397 ?_
            show am_E _ _ _ _ [some (.ref 39), some (.int 28), some (.int on), some (.int tw), some (.int th)] [] _ _
            refine am_e35 hi_180_13 ?_
            have q1 : mg_p1 (((28 : Int), (0 : Int), (0 : Int), (0 : Int), []) :: gs) = 0 + (mg_p1 gs) := rfl
            have q2 : mg_p2 (((28 : Int), (0 : Int), (0 : Int), (0 : Int), []) :: gs) = 0 + (mg_p2 gs) := rfl
            have q3 : mg_p3 (((28 : Int), (0 : Int), (0 : Int), (0 : Int), []) :: gs) = 1 + (mg_p3 gs) := rfl
            have q4 : mg_p4 (((28 : Int), (0 : Int), (0 : Int), (0 : Int), []) :: gs) = 0 + (mg_p4 gs) := rfl
            refine ⟨_, _, _, bc, rfl, hS263, Or.inl ⟨⟨(RJ.fewer (pj' := []) hR268_ (fun _ h => nomatch h)), ?_, ?_⟩, rfl, ?_⟩⟩
            · exact (⟨⟨(show (0 : Int) ≤ 28 from by decide), (show (1 : Int) ≤ z260.toInt from by omega), (show 0 ≤ (f 20).toInt from by omega), (show 1 ≤ (f 37).toInt from by omega), (show 0 ≤ (f 32).toInt from by omega), (show (f 32).toInt ≤ (f 5).toInt from by omega), (show (f 5).toInt ≤ 48 from by omega), (show (f 37).toInt ≤ 2 * ((f 5).toInt) + 2 from by omega), trivial⟩, mg_cast (mg_good_ext _ _ _ _ _ _ (fun i _ => by show g'261 34 i = g 34 i; rw [show g'261 34 = g'247 34 from h265_ 34 (by decide), show g'247 34 = g'232 34 from h252_ 34 (by decide), show g'232 34 = g'29 34 from h237_ 34 (by decide), show g'29 34 = g'16 34 from h33_ 34 (by decide), show g'16 34 = g 34 from h24_ 34 (by decide)]) (fun i _ => by show g'261 38 i = g 38 i; rw [show g'261 38 = g'247 38 from h265_ 38 (by decide), show g'247 38 = g'232 38 from h252_ 38 (by decide), show g'232 38 = g'29 38 from h237_ 38 (by decide), show g'29 38 = g'16 38 from h33_ 38 (by decide), show g'16 38 = g 38 from h24_ 38 (by decide)]) hrest) (by show (f 15).toInt + 0 = z260.toInt + 0; omega) (by show (f 20).toInt = (f 20).toInt; omega) (by show (f 37).toInt + 0 = (f 37).toInt + 0; omega) (by show (f 32).toInt + 0 = (f 32).toInt + 0; omega) (by show (f 5).toInt + 0 = (f 5).toInt + 0; omega)⟩ : mg_good (g'261 34) (g'261 38) (((28 : Int), (0 : Int), (0 : Int), (0 : Int), []) :: gs) (z260.toInt) ((f 20).toInt) ((f 37).toInt) ((f 32).toInt) ((f 5).toInt))
            · exact ⟨(by show 0 ≤ z239.toInt; omega), (by show z239.toInt ≤ (f 0).toInt; omega), (by show (f 0).toInt ≤ 512; omega), (by show 0 ≤ (f 24).toInt; omega), (by show (f 24).toInt + (f 20).toInt + mg_p1 (((28 : Int), (0 : Int), (0 : Int), (0 : Int), []) :: gs) ≤ 4 * z239.toInt; omega), (by show (f 20).toInt ≤ z239.toInt; omega), (by show z260.toInt + mg_p2 (((28 : Int), (0 : Int), (0 : Int), (0 : Int), []) :: gs) ≤ z239.toInt; omega), (by show mg_p3 (((28 : Int), (0 : Int), (0 : Int), (0 : Int), []) :: gs) ≤ 20 * z239.toInt + 20; omega), (by show 0 ≤ z245.toInt; omega), (by show z245.toInt + 3 * (f 20).toInt + mg_p4 (((28 : Int), (0 : Int), (0 : Int), (0 : Int), []) :: gs) ≤ 60 * z239.toInt + 60; omega), (by show 0 ≤ o13.toInt; omega), (by show o13.toInt + 64 * mj_n (g'261 16) z260.toNatClampNeg 3 ≤ 64 * z239.toInt; omega), (by show 0 ≤ (f 44).toInt; omega), (by show (f 44).toInt ≤ z239.toInt; omega), (by show 0 ≤ (f 48).toInt; omega), (by show (f 48).toInt ≤ z239.toInt; omega), (by show 1 ≤ (f 53).toInt; omega), (by show (f 53).toInt ≤ z239.toInt + 1; omega)⟩
            · show 100 * ((f 0).toInt - z239.toInt) + mg_p3 (((28 : Int), (0 : Int), (0 : Int), (0 : Int), []) :: gs) < 100 * ((f 0).toInt - (f 4).toInt) + (1 + mg_p3 gs); omega
        · refine am_e13f hi_211_217 (am_cF (m := r2.toInt) (n := (60 : Int)) rfl (by decide) c10) ?_
          refine am_e1 (v := r2) hi_211_220 rfl ?_
          refine am_e0 hi_211_221 ?_
          by_cases c269 : r2.toInt = (3 : Int)
          · refine am_e13t hi_211_222 (am_cT (m := r2.toInt) (n := (3 : Int)) rfl (by decide) c269) ?_
            refine am_e2 (v := 39) hi_211_231 rfl ?_
            refine am_e32n (as := [.ref 39]) (la := [some (.ref 39), none, none, none]) (rest := []) hi_211_232 (am_hd0 (M := 211) (by decide) 232) (Nat.le_of_ble_eq_true rfl) (Nat.le_of_ble_eq_true rfl) (show 1 ≤ am_P0.2.2.1 204 from by decide +kernel) rfl (am_recv_ok hS4.fs) rfl rfl (ct_load (d := (d + 3)) hS4 hR  (by show (0 : Int) ≤ (f 32).toInt; omega) (by show (f 32).toInt ≤ (63 : Int); omega) (by show (f 53).toInt ≤ (4096 : Int); omega) (by show (0 : Int) ≤ (f 68).toInt; omega) (by show (f 68).toInt ≤ (65534 : Int); omega) (by show (1 : Int) ≤ (f 15).toInt; omega) (by show (f 15).toInt ≤ (32767 : Int); omega) (by show (0 : Int) ≤ (f 24).toInt; omega) (by show (f 24).toInt ≤ (16384 : Int); omega) (by show (0 : Int) ≤ (f 62).toInt; omega) (by show (f 62).toInt ≤ (65000 : Int); omega)) ?_
            rintro v270 S271 (⟨o272, s273, m274, g'275, hv276, hS277, hR284, h278, h279, h280, h281, h282, h283⟩)
            subst hv276
            have h278_ : (f 62).toInt ≤ o272.toInt := h278
            have h279_ : o272.toInt ≤ (f 62).toInt + 64 := h279
            have h280_ : (f 68).toInt ≤ s273.toInt := h280
            have h281_ : s273.toInt ≤ (f 68).toInt + 1 := h281
            have h282_ : o272.toInt + 64 * mj_n (g'275 16) (f 15).toNatClampNeg 3 ≤ (f 62).toInt + 64 * mj_n (g 16) (f 15).toNatClampNeg 3 := h282
            have h283_ : ∀ j, j ∉ [16, 60, 63, 64, 65, 66, 67, 69, 70, 71, 72, 73] → g'275 j = g j := h283
            have hR284_ : RJ (upd (upd (upd f 62 o272) 68 s273) 75 m274) g'275 gs bc [] 0 [] := hR284
            show am_E _ _ _ _ [some (.ref 39), some (.int r2), some (.int (f 4)), none] [] _ _
            refine am_e2 (v := 39) hi_211_235 rfl ?_
            refine am_e0 hi_211_236 ?_
            refine am_e0 hi_211_238 ?_
            refine am_e0 hi_211_239 ?_
            refine am_e0 hi_211_240 ?_
            refine am_e32n (as := [.ref 39, .int 28, .int 0, .int 0, .int 0]) (la := [some (.ref 39), some (.int 28), some (.int 0), some (.int 0), some (.int 0)]) (rest := []) hi_211_241 (am_hd0 (M := 211) (by decide) 241) (Nat.le_of_ble_eq_true rfl) (Nat.le_of_ble_eq_true rfl) (show 5 ≤ am_P0.2.2.1 179 from by decide +kernel) rfl (am_recv_ok hS277.fs) rfl rfl (ct_pile (d := (d + 5)) hS277 hR284_ (mj_e_plain (by decide)) (by show (0 : Int) ≤ (f 10).toInt; omega) (by show (f 10).toInt ≤ (65535 : Int); omega)) ?_
            rintro v285 S286 (⟨z287, g'288, hv289, hS290, hR293, h291, h292⟩)
            subst hv289
            have h291_ : z287.toInt = (f 10).toInt + 1 := h291
            have h292_ : ∀ j, j ∉ [11, 12, 13, 14] → g'288 j = g'275 j := h292
            replace hS290 : MS S0 S286 (upd (upd (upd (upd f 10 z287) 62 o272) 68 s273) 75 m274) g'288 := hS290
            have hR293_ : RJ (upd (upd (upd (upd f 10 z287) 62 o272) 68 s273) 75 m274) g'288 (((28 : Int), (0 : Int), (0 : Int), (0 : Int), []) :: gs) bc [] 0 [] := hR293
            show am_E _ _ _ _ [some (.ref 39), some (.int r2), some (.int (f 4)), none] [] _ _
            refine am_e2 (v := 39) hi_211_244 rfl ?_
            refine am_e0 hi_211_245 ?_
            refine am_e32w (as := [.ref 39, .int 0]) (la := [some (.ref 39), some (.int 0), none]) (rest := []) hi_211_246 (am_hd0 (M := 211) (by decide) 246) (Nat.le_of_ble_eq_true rfl) (Nat.le_of_ble_eq_true rfl) (show 2 ≤ am_P0.2.2.1 212 from by decide +kernel) rfl (am_recv_ok hS290.fs) rfl rfl ?_
            refine am_e2 (v := 39) hi_212_0 rfl ?_
            refine mm_20 (v := .int (f 4)) hS290 hi_212_1 rfl ?_
            refine am_e3 (ls' := [some (.ref 39), some (.int 0), some (.int (f 4))]) hi_212_4 (Nat.le_of_ble_eq_true rfl) rfl ?_
            refine am_e2 (v := 39) hi_212_5 rfl ?_
            refine am_e32n (as := [.ref 39]) (la := [some (.ref 39)]) (rest := []) hi_212_6 (am_hd0 (M := 212) (by decide) 6) (Nat.le_of_ble_eq_true rfl) (Nat.le_of_ble_eq_true rfl) (show 1 ≤ am_P0.2.2.1 183 from by decide +kernel) rfl (am_recv_ok hS290.fs) rfl rfl (ct_next (d := (d + 3)) hS290   (by show (0 : Int) ≤ (f 4).toInt; omega) (by show (f 0).toInt ≤ (16384 : Int); omega)) ?_
            rintro v294 S295 (⟨r296, hv297, hS298, h299⟩)
            subst hv297
            have h299_ : (f 4).toInt < (f 0).toInt ∨ r296.toInt = (-1 : Int) := h299
            show am_E _ _ _ _ [some (.ref 39), some (.int 0), some (.int (f 4))] [.int r296] _ _
            refine am_e0 hi_212_9 ?_
            by_cases c301 : ¬ r296.toInt = (3 : Int)
            · refine am_e13t hi_212_10 (am_cT (m := r296.toInt) (n := (3 : Int)) rfl (by decide) c301) ?_
              refine am_e2 (v := 39) hi_212_52 rfl ?_
              refine am_e32n (as := [.ref 39]) (la := [some (.ref 39)]) (rest := []) hi_212_53 (am_hd0 (M := 212) (by decide) 53) (Nat.le_of_ble_eq_true rfl) (Nat.le_of_ble_eq_true rfl) (show 1 ≤ am_P0.2.2.1 183 from by decide +kernel) rfl (am_recv_ok hS298.fs) rfl rfl (ct_next (d := (d + 3)) hS298   (by show (0 : Int) ≤ (f 4).toInt; omega) (by show (f 0).toInt ≤ (16384 : Int); omega)) ?_
              rintro v302 S303 (⟨r304, hv305, hS306, h307⟩)
              subst hv305
              have h307_ : (f 4).toInt < (f 0).toInt ∨ r304.toInt = (-1 : Int) := h307
              show am_E _ _ _ _ [some (.ref 39), some (.int 0), some (.int (f 4))] [.int r304] _ _
              refine am_e0 hi_212_56 ?_
              by_cases c309 : ¬ r304.toInt = (62 : Int)
              · refine am_e13t hi_212_58 (am_cT (m := r304.toInt) (n := (62 : Int)) rfl (by decide) c309) ?_
                refine am_e2 (v := 39) hi_212_77 rfl ?_
                refine am_e0 hi_212_78 ?_
                refine am_e32n (as := [.ref 39, .int 60]) (la := [some (.ref 39), some (.int 60)]) (rest := []) hi_212_80 (am_hd0 (M := 212) (by decide) 80) (Nat.le_of_ble_eq_true rfl) (Nat.le_of_ble_eq_true rfl) (show 2 ≤ am_P0.2.2.1 193 from by decide +kernel) rfl (am_recv_ok hS306.fs) rfl rfl (ct_enter (d := (d + 2)) hS306   (by show (0 : Int) ≤ (f 4).toInt; omega) (by show (f 0).toInt ≤ (16384 : Int); omega) (by show (0 : Int) ≤ (60 : Int); omega) (by show (0 : Int) ≤ (f 5).toInt; omega) (by show (f 5).toInt ≤ (48 : Int); omega)) ?_
                rintro v310 S311 (⟨z312, y313, hv314, hS315, h316, h317, h318, h319⟩ | ⟨a321, b322, hv323, hS324⟩)
                · subst hv314
                  have h316_ : z312.toInt = (f 4).toInt + 1 := h316
                  have h317_ : (f 4).toInt < (f 0).toInt := h317
                  have h318_ : y313.toInt = (f 5).toInt + 1 := h318
                  have h319_ : y313.toInt ≤ (48 : Int) := h319
                  replace hS315 : MS S0 S311 (upd (upd (upd (upd (upd (upd f 4 z312) 5 y313) 10 z287) 62 o272) 68 s273) 75 m274) g'288 := hS315
                  have hR326 : RJ (upd (upd (upd (upd (upd (upd f 4 z312) 5 y313) 10 z287) 62 o272) 68 s273) 75 m274) g'288 (((28 : Int), (0 : Int), (0 : Int), (0 : Int), []) :: gs) bc [] 0 [] := RJ.at hR293_ (by show (f 4).toInt ≤ z312.toInt; omega)
                  show am_E _ _ _ _ [some (.ref 39), some (.int 0), some (.int (f 4))] [.int 1] _ _
                  refine am_e12f hi_212_83 (by decide) ?_
                  refine am_e2 (v := 39) hi_212_86 rfl ?_
                  refine am_e32n (as := [.ref 39]) (la := [some (.ref 39)]) (rest := []) hi_212_87 (am_hd0 (M := 212) (by decide) 87) (Nat.le_of_ble_eq_true rfl) (Nat.le_of_ble_eq_true rfl) (show 1 ≤ am_P0.2.2.1 183 from by decide +kernel) rfl (am_recv_ok hS315.fs) rfl rfl (ct_next (d := (d + 3)) hS315   (by show (0 : Int) ≤ z312.toInt; omega) (by show (f 0).toInt ≤ (16384 : Int); omega)) ?_
                  rintro v327 S328 (⟨r329, hv330, hS331, h332⟩)
                  subst hv330
                  have h332_ : z312.toInt < (f 0).toInt ∨ r329.toInt = (-1 : Int) := h332
                  show am_E _ _ _ _ [some (.ref 39), some (.int 0), some (.int (f 4))] [.int r329] _ _
                  refine am_e0 hi_212_90 ?_
                  by_cases c334 : ¬ r329.toInt = (61 : Int)
                  · refine am_e13t hi_212_92 (am_cT (m := r329.toInt) (n := (61 : Int)) rfl (by decide) c334) ?_
                    refine am_e2 (v := 39) hi_212_112 rfl ?_
                    refine am_e0 hi_212_113 ?_
                    refine am_e1 (v := 0) hi_212_115 rfl ?_
                    refine am_e1 (v := f 4) hi_212_116 rfl ?_
                    refine am_e0 hi_212_117 ?_
                    refine am_e32n (as := [.ref 39, .int 32, .int 0, .int (f 4), .int 0]) (la := [some (.ref 39), some (.int 32), some (.int 0), some (.int (f 4)), some (.int 0)]) (rest := []) hi_212_118 (am_hd0 (M := 212) (by decide) 118) (Nat.le_of_ble_eq_true rfl) (Nat.le_of_ble_eq_true rfl) (show 5 ≤ am_P0.2.2.1 179 from by decide +kernel) rfl (am_recv_ok hS331.fs) rfl rfl (ct_pile (d := (d + 4)) hS331 hR326 (mj_e_plain (by decide)) (by show (0 : Int) ≤ z287.toInt; omega) (by show z287.toInt ≤ (65535 : Int); omega)) ?_
                    rintro v335 S336 (⟨z337, g'338, hv339, hS340, hR343, h341, h342⟩)
                    subst hv339
                    have h341_ : z337.toInt = z287.toInt + 1 := h341
                    have h342_ : ∀ j, j ∉ [11, 12, 13, 14] → g'338 j = g'288 j := h342
                    replace hS340 : MS S0 S336 (upd (upd (upd (upd (upd (upd f 4 z312) 5 y313) 10 z337) 62 o272) 68 s273) 75 m274) g'338 := hS340
                    have hR343_ : RJ (upd (upd (upd (upd (upd (upd f 4 z312) 5 y313) 10 z337) 62 o272) 68 s273) 75 m274) g'338 (((32 : Int), (0 : Int), (f 4).toInt, (0 : Int), []) :: (((28 : Int), (0 : Int), (0 : Int), (0 : Int), []) :: gs)) bc [] 0 [] := hR343
                    show am_E _ _ _ _ [some (.ref 39), some (.int 0), some (.int (f 4))] [] _ _
                    refine am_e2 (v := 39) hi_212_121 rfl ?_
                    refine am_e32w (as := [.ref 39]) (la := [some (.ref 39)]) (rest := []) hi_212_122 (am_hd0 (M := 212) (by decide) 122) (Nat.le_of_ble_eq_true rfl) (Nat.le_of_ble_eq_true rfl) (show 1 ≤ am_P0.2.2.1 214 from by decide +kernel) rfl (am_recv_ok hS340.fs) rfl rfl ?_
                    refine am_e2 (v := 39) hi_214_0 rfl ?_
                    refine am_e0 hi_214_1 ?_
                    refine am_e0 hi_214_3 ?_
                    refine am_e0 hi_214_4 ?_
                    refine am_e0 hi_214_5 ?_
                    refine am_e32n (as := [.ref 39, .int 34, .int 1, .int 0, .int 0]) (la := [some (.ref 39), some (.int 34), some (.int 1), some (.int 0), some (.int 0)]) (rest := []) hi_214_6 (am_hd0 (M := 214) (by decide) 6) (Nat.le_of_ble_eq_true rfl) (Nat.le_of_ble_eq_true rfl) (show 5 ≤ am_P0.2.2.1 179 from by decide +kernel) rfl (am_recv_ok hS340.fs) rfl rfl (ct_pile (d := (d + 3)) hS340 hR343_ (mj_e_plain (by decide)) (by show (0 : Int) ≤ z337.toInt; omega) (by show z337.toInt ≤ (65535 : Int); omega)) ?_
                    rintro v344 S345 (⟨z346, g'347, hv348, hS349, hR352, h350, h351⟩)
                    subst hv348
                    have h350_ : z346.toInt = z337.toInt + 1 := h350
                    have h351_ : ∀ j, j ∉ [11, 12, 13, 14] → g'347 j = g'338 j := h351
                    replace hS349 : MS S0 S345 (upd (upd (upd (upd (upd (upd f 4 z312) 5 y313) 10 z346) 62 o272) 68 s273) 75 m274) g'347 := hS349
                    have hR352_ : RJ (upd (upd (upd (upd (upd (upd f 4 z312) 5 y313) 10 z346) 62 o272) 68 s273) 75 m274) g'347 (((34 : Int), (1 : Int), (0 : Int), (0 : Int), []) :: (((32 : Int), (0 : Int), (f 4).toInt, (0 : Int), []) :: (((28 : Int), (0 : Int), (0 : Int), (0 : Int), []) :: gs))) bc [] 0 [] := hR352
                    show am_E _ _ _ _ [some (.ref 39)] [] _ _
                    refine am_e2 (v := 39) hi_214_9 rfl ?_
                    refine am_e0 hi_214_10 ?_
                    refine am_e32w (as := [.ref 39, .int 0]) (la := [some (.ref 39), some (.int 0)]) (rest := []) hi_214_11 (am_hd0 (M := 214) (by decide) 11) (Nat.le_of_ble_eq_true rfl) (Nat.le_of_ble_eq_true rfl) (show 2 ≤ am_P0.2.2.1 186 from by decide +kernel) rfl (am_recv_ok hS349.fs) rfl rfl ?_
                    refine am_e2 (v := 39) hi_186_0 rfl ?_
                    refine am_e0 hi_186_1 ?_
                    refine am_e1 (v := 0) hi_186_3 rfl ?_
                    refine am_e0 hi_186_4 ?_
                    refine am_e0 hi_186_5 ?_
                    refine am_e32n (as := [.ref 39, .int 23, .int 0, .int 0, .int 0]) (la := [some (.ref 39), some (.int 23), some (.int 0), some (.int 0), some (.int 0)]) (rest := []) hi_186_6 (am_hd0 (M := 186) (by decide) 6) (Nat.le_of_ble_eq_true rfl) (Nat.le_of_ble_eq_true rfl) (show 5 ≤ am_P0.2.2.1 179 from by decide +kernel) rfl (am_recv_ok hS349.fs) rfl rfl (ct_pile (d := (d + 2)) hS349 hR352_ (mj_e_plain (by decide)) (by show (0 : Int) ≤ z346.toInt; omega) (by show z346.toInt ≤ (65535 : Int); omega)) ?_
                    rintro v353 S354 (⟨z355, g'356, hv357, hS358, hR361, h359, h360⟩)
                    subst hv357
                    have h359_ : z355.toInt = z346.toInt + 1 := h359
                    have h360_ : ∀ j, j ∉ [11, 12, 13, 14] → g'356 j = g'347 j := h360
                    replace hS358 : MS S0 S354 (upd (upd (upd (upd (upd (upd f 4 z312) 5 y313) 10 z355) 62 o272) 68 s273) 75 m274) g'356 := hS358
                    have hR361_ : RJ (upd (upd (upd (upd (upd (upd f 4 z312) 5 y313) 10 z355) 62 o272) 68 s273) 75 m274) g'356 (((23 : Int), (0 : Int), (0 : Int), (0 : Int), []) :: (((34 : Int), (1 : Int), (0 : Int), (0 : Int), []) :: (((32 : Int), (0 : Int), (f 4).toInt, (0 : Int), []) :: (((28 : Int), (0 : Int), (0 : Int), (0 : Int), []) :: gs)))) bc [] 0 [] := hR361
                    show am_E _ _ _ _ [some (.ref 39), some (.int 0)] [] _ _
                    refine am_e35 hi_186_9 ?_
                    show am_E _ _ _ _ [some (.ref 39)] [] _ _
                    refine am_e35 hi_214_14 ?_
                    show am_E _ _ _ _ [some (.ref 39), some (.int 0), some (.int (f 4))] [] _ _
                    refine am_e35 hi_212_125 ?_
                    show am_E _ _ _ _ [some (.ref 39), some (.int r2), some (.int (f 4)), none] [] _ _
                    refine am_e35 hi_211_249 ?_
                    show am_E _ _ _ _ [some (.ref 39), some (.int 28), some (.int on), some (.int tw)] [] _ _
                    refine am_e18 hi_181_180 ?_
                    refine am_e35 hi_181_397 ?_
                    show am_E _ _ _ _ [some (.ref 39), some (.int 28), some (.int on), some (.int tw), some (.int th)] [] _ _
                    refine am_e35 hi_180_13 ?_
                    have q1 : mg_p1 (((23 : Int), (0 : Int), (0 : Int), (0 : Int), []) :: (((34 : Int), (1 : Int), (0 : Int), (0 : Int), []) :: (((32 : Int), (0 : Int), (f 4).toInt, (0 : Int), []) :: (((28 : Int), (0 : Int), (0 : Int), (0 : Int), []) :: gs)))) = 0 + (0 + (0 + (0 + (mg_p1 gs)))) := rfl
                    have q2 : mg_p2 (((23 : Int), (0 : Int), (0 : Int), (0 : Int), []) :: (((34 : Int), (1 : Int), (0 : Int), (0 : Int), []) :: (((32 : Int), (0 : Int), (f 4).toInt, (0 : Int), []) :: (((28 : Int), (0 : Int), (0 : Int), (0 : Int), []) :: gs)))) = 0 + (0 + (0 + (0 + (mg_p2 gs)))) := rfl
                    have q3 : mg_p3 (((23 : Int), (0 : Int), (0 : Int), (0 : Int), []) :: (((34 : Int), (1 : Int), (0 : Int), (0 : Int), []) :: (((32 : Int), (0 : Int), (f 4).toInt, (0 : Int), []) :: (((28 : Int), (0 : Int), (0 : Int), (0 : Int), []) :: gs)))) = 1 + (1 + (1 + (1 + (mg_p3 gs)))) := rfl
                    have q4 : mg_p4 (((23 : Int), (0 : Int), (0 : Int), (0 : Int), []) :: (((34 : Int), (1 : Int), (0 : Int), (0 : Int), []) :: (((32 : Int), (0 : Int), (f 4).toInt, (0 : Int), []) :: (((28 : Int), (0 : Int), (0 : Int), (0 : Int), []) :: gs)))) = 0 + (0 + (0 + (0 + (mg_p4 gs)))) := rfl
                    refine ⟨_, _, _, bc, rfl, hS358, Or.inl ⟨⟨hR361_, ?_, ?_⟩, rfl, ?_⟩⟩
                    · exact (⟨⟨(show (0 : Int) ≤ 23 from by decide), (show (0 : Int) ≤ (f 15).toInt from by omega), (show 0 ≤ (f 20).toInt from by omega), (show 1 ≤ (f 37).toInt from by omega), (show 0 ≤ (f 32).toInt from by omega), (show (f 32).toInt ≤ y313.toInt from by omega), (show y313.toInt ≤ 48 from by omega), (show (f 37).toInt ≤ 2 * (y313.toInt) + 2 from by omega), (show 0 ≤ (0 : Int) from by omega)⟩, ⟨⟨(show (0 : Int) ≤ 34 from by decide), (show (1 : Int) ≤ (f 15).toInt + 1 from by omega), (show 0 ≤ (f 20).toInt from by omega), (show 1 ≤ (f 37).toInt + 0 from by omega), (show 0 ≤ (f 32).toInt + 0 from by omega), (show (f 32).toInt + 0 ≤ y313.toInt + 0 from by omega), (show y313.toInt + 0 ≤ 48 from by omega), (show (f 37).toInt + 0 ≤ 2 * (y313.toInt + 0) + 2 from by omega), trivial⟩, ⟨⟨(show (0 : Int) ≤ 32 from by decide), (show (2 : Int) ≤ (f 15).toInt + 1 + 0 from by omega), (show 0 ≤ (f 20).toInt from by omega), (show 1 ≤ (f 37).toInt + 0 + 0 from by omega), (show 0 ≤ (f 32).toInt + 0 + 0 from by omega), (show (f 32).toInt + 0 + 0 ≤ y313.toInt + 0 + 0 from by omega), (show y313.toInt + 0 + 0 ≤ 48 from by omega), (show (f 37).toInt + 0 + 0 ≤ 2 * (y313.toInt + 0 + 0) + 2 from by omega), trivial⟩, ⟨⟨(show (0 : Int) ≤ 28 from by decide), (show (1 : Int) ≤ (f 15).toInt + 1 + 0 + -1 from by omega), (show 0 ≤ (f 20).toInt from by omega), (show 1 ≤ (f 37).toInt + 0 + 0 + 0 from by omega), (show 0 ≤ (f 32).toInt + 0 + 0 + 0 from by omega), (show (f 32).toInt + 0 + 0 + 0 ≤ y313.toInt + 0 + 0 + -1 from by omega), (show y313.toInt + 0 + 0 + -1 ≤ 48 from by omega), (show (f 37).toInt + 0 + 0 + 0 ≤ 2 * (y313.toInt + 0 + 0 + -1) + 2 from by omega), trivial⟩, mg_cast (mg_good_ext _ _ _ _ _ _ (fun i _ => by show g'356 34 i = g 34 i; rw [show g'356 34 = g'347 34 from h360_ 34 (by decide), show g'347 34 = g'338 34 from h351_ 34 (by decide), show g'338 34 = g'288 34 from h342_ 34 (by decide), show g'288 34 = g'275 34 from h292_ 34 (by decide), show g'275 34 = g 34 from h283_ 34 (by decide)]) (fun i _ => by show g'356 38 i = g 38 i; rw [show g'356 38 = g'347 38 from h360_ 38 (by decide), show g'347 38 = g'338 38 from h351_ 38 (by decide), show g'338 38 = g'288 38 from h342_ 38 (by decide), show g'288 38 = g'275 38 from h292_ 38 (by decide), show g'275 38 = g 38 from h283_ 38 (by decide)]) hrest) (by show (f 15).toInt + 0 = (f 15).toInt + 1 + 0 + -1 + 0; omega) (by show (f 20).toInt = (f 20).toInt; omega) (by show (f 37).toInt + 0 = (f 37).toInt + 0 + 0 + 0 + 0; omega) (by show (f 32).toInt + 0 = (f 32).toInt + 0 + 0 + 0 + 0; omega) (by show (f 5).toInt + 0 = y313.toInt + 0 + 0 + -1 + 0; omega)⟩⟩⟩⟩ : mg_good (g'356 34) (g'356 38) (((23 : Int), (0 : Int), (0 : Int), (0 : Int), []) :: (((34 : Int), (1 : Int), (0 : Int), (0 : Int), []) :: (((32 : Int), (0 : Int), (f 4).toInt, (0 : Int), []) :: (((28 : Int), (0 : Int), (0 : Int), (0 : Int), []) :: gs)))) ((f 15).toInt) ((f 20).toInt) ((f 37).toInt) ((f 32).toInt) (y313.toInt))
                    · exact ⟨(by show 0 ≤ z312.toInt; omega), (by show z312.toInt ≤ (f 0).toInt; omega), (by show (f 0).toInt ≤ 512; omega), (by show 0 ≤ (f 24).toInt; omega), (by show (f 24).toInt + (f 20).toInt + mg_p1 (((23 : Int), (0 : Int), (0 : Int), (0 : Int), []) :: (((34 : Int), (1 : Int), (0 : Int), (0 : Int), []) :: (((32 : Int), (0 : Int), (f 4).toInt, (0 : Int), []) :: (((28 : Int), (0 : Int), (0 : Int), (0 : Int), []) :: gs)))) ≤ 4 * z312.toInt; omega), (by show (f 20).toInt ≤ z312.toInt; omega), (by show (f 15).toInt + mg_p2 (((23 : Int), (0 : Int), (0 : Int), (0 : Int), []) :: (((34 : Int), (1 : Int), (0 : Int), (0 : Int), []) :: (((32 : Int), (0 : Int), (f 4).toInt, (0 : Int), []) :: (((28 : Int), (0 : Int), (0 : Int), (0 : Int), []) :: gs)))) ≤ z312.toInt; omega), (by show mg_p3 (((23 : Int), (0 : Int), (0 : Int), (0 : Int), []) :: (((34 : Int), (1 : Int), (0 : Int), (0 : Int), []) :: (((32 : Int), (0 : Int), (f 4).toInt, (0 : Int), []) :: (((28 : Int), (0 : Int), (0 : Int), (0 : Int), []) :: gs)))) ≤ 20 * z312.toInt + 20; omega), (by show 0 ≤ s273.toInt; omega), (by show s273.toInt + 3 * (f 20).toInt + mg_p4 (((23 : Int), (0 : Int), (0 : Int), (0 : Int), []) :: (((34 : Int), (1 : Int), (0 : Int), (0 : Int), []) :: (((32 : Int), (0 : Int), (f 4).toInt, (0 : Int), []) :: (((28 : Int), (0 : Int), (0 : Int), (0 : Int), []) :: gs)))) ≤ 60 * z312.toInt + 60; omega), (by show 0 ≤ o272.toInt; omega), (by show o272.toInt + 64 * mj_n (g'356 16) (f 15).toNatClampNeg 3 ≤ 64 * z312.toInt; rw [show g'356 16 = g'347 16 from h360_ 16 (by decide), show g'347 16 = g'338 16 from h351_ 16 (by decide), show g'338 16 = g'288 16 from h342_ 16 (by decide), show g'288 16 = g'275 16 from h292_ 16 (by decide)]; omega), (by show 0 ≤ (f 44).toInt; omega), (by show (f 44).toInt ≤ z312.toInt; omega), (by show 0 ≤ (f 48).toInt; omega), (by show (f 48).toInt ≤ z312.toInt; omega), (by show 1 ≤ (f 53).toInt; omega), (by show (f 53).toInt ≤ z312.toInt + 1; omega)⟩
                    · show 100 * ((f 0).toInt - z312.toInt) + mg_p3 (((23 : Int), (0 : Int), (0 : Int), (0 : Int), []) :: (((34 : Int), (1 : Int), (0 : Int), (0 : Int), []) :: (((32 : Int), (0 : Int), (f 4).toInt, (0 : Int), []) :: (((28 : Int), (0 : Int), (0 : Int), (0 : Int), []) :: gs)))) < 100 * ((f 0).toInt - (f 4).toInt) + (1 + mg_p3 gs); omega
                  · refine am_e13f hi_212_92 (am_cF (m := r329.toInt) (n := (61 : Int)) rfl (by decide) c334) ?_
                    refine am_e2 (v := 39) hi_212_95 rfl ?_
                    refine am_e0 hi_212_96 ?_
                    refine am_e32n (as := [.ref 39, .int 61]) (la := [some (.ref 39), some (.int 61)]) (rest := []) hi_212_98 (am_hd0 (M := 212) (by decide) 98) (Nat.le_of_ble_eq_true rfl) (Nat.le_of_ble_eq_true rfl) (show 2 ≤ am_P0.2.2.1 199 from by decide +kernel) rfl (am_recv_ok hS331.fs) rfl rfl (ct_leave (d := (d + 1)) hS331   (by show (0 : Int) ≤ z312.toInt; omega) (by show (f 0).toInt ≤ (16384 : Int); omega) (by show (0 : Int) ≤ (61 : Int); omega) (by show (0 : Int) ≤ y313.toInt; omega) (by show y313.toInt ≤ (48 : Int); omega)) ?_
                    rintro v362 S363 (⟨z364, y365, hv366, hS367, h368, h369, h370⟩ | ⟨a372, b373, hv374, hS375⟩)
                    · subst hv366
                      have h368_ : z364.toInt = z312.toInt + 1 := h368
                      have h369_ : z312.toInt < (f 0).toInt := h369
                      have h370_ : y365.toInt = y313.toInt - 1 := h370
                      replace hS367 : MS S0 S363 (upd (upd (upd (upd (upd (upd f 4 z364) 5 y365) 10 z287) 62 o272) 68 s273) 75 m274) g'288 := hS367
                      have hR377 : RJ (upd (upd (upd (upd (upd (upd f 4 z364) 5 y365) 10 z287) 62 o272) 68 s273) 75 m274) g'288 (((28 : Int), (0 : Int), (0 : Int), (0 : Int), []) :: gs) bc [] 0 [] := RJ.at hR326 (by show z312.toInt ≤ z364.toInt; omega)
                      show am_E _ _ _ _ [some (.ref 39), some (.int 0), some (.int (f 4))] [.int 1] _ _
                      refine am_e6i hi_212_101 ?_
                      refine am_e2 (v := 39) hi_212_102 rfl ?_
                      refine am_e1 (v := 0) hi_212_103 rfl ?_
                      refine am_e0 hi_212_104 ?_
                      refine am_e1 (v := f 4) hi_212_105 rfl ?_
                      refine am_e32w (as := [.ref 39, .int 0, .int 0, .int (f 4)]) (la := [some (.ref 39), some (.int 0), some (.int 0), some (.int (f 4)), none]) (rest := []) hi_212_106 (am_hd0 (M := 212) (by decide) 106) (Nat.le_of_ble_eq_true rfl) (Nat.le_of_ble_eq_true rfl) (show 4 ≤ am_P0.2.2.1 213 from by decide +kernel) rfl (am_recv_ok hS367.fs) rfl rfl ?_
                      refine am_e2 (v := 39) hi_213_0 rfl ?_
                      refine am_e0 hi_213_1 ?_
                      refine am_e1 (v := 0) hi_213_3 rfl ?_
                      refine am_e1 (v := 0) hi_213_4 rfl ?_
                      refine am_e0 hi_213_5 ?_
                      refine am_e10 (z := 2) hi_213_6 (by decide) ?_
                      refine am_e1 (v := f 4) hi_213_7 rfl ?_
                      refine am_e32n (as := [.ref 39, .int 13, .int 0, .int 2, .int (f 4)]) (la := [some (.ref 39), some (.int 13), some (.int 0), some (.int 2), some (.int (f 4))]) (rest := []) hi_213_8 (am_hd0 (M := 213) (by decide) 8) (Nat.le_of_ble_eq_true rfl) (Nat.le_of_ble_eq_true rfl) (show 5 ≤ am_P0.2.2.1 189 from by decide +kernel) rfl (am_recv_ok hS367.fs) rfl rfl (ct_put (d := (d + 3)) hS367 hR377  (by show (0 : Int) ≤ (f 32).toInt; omega) (by show (f 32).toInt ≤ (63 : Int); omega) (by show (f 53).toInt ≤ (4096 : Int); omega) (by show (0 : Int) ≤ s273.toInt; omega) (by show s273.toInt ≤ (65534 : Int); omega)) ?_
                      rintro v378 S379 (⟨z380, r381, g'382, hv383, hS384, hR388, h385, h386, h387⟩)
                      subst hv383
                      have h385_ : z380.toInt = s273.toInt + 1 := h385
                      have h386_ : r381.toInt = s273.toInt := h386
                      have h387_ : ∀ j, j ∉ [60, 69, 70, 71, 72, 73] → g'382 j = g'288 j := h387
                      replace hS384 : MS S0 S379 (upd (upd (upd (upd (upd (upd f 4 z364) 5 y365) 10 z287) 62 o272) 68 z380) 75 m274) g'382 := hS384
                      have hR388_ : RJ (upd (upd (upd (upd (upd (upd f 4 z364) 5 y365) 10 z287) 62 o272) 68 z380) 75 m274) g'382 (((28 : Int), (0 : Int), (0 : Int), (0 : Int), []) :: gs) bc [] 0 (s273.toNatClampNeg :: []) := hR388
                      show am_E _ _ _ _ [some (.ref 39), some (.int 0), some (.int 0), some (.int (f 4)), none] [.int r381] _ _
                      refine am_e3 (ls' := [some (.ref 39), some (.int 0), some (.int 0), some (.int (f 4)), some (.int r381)]) hi_213_11 (Nat.le_of_ble_eq_true rfl) rfl ?_
                      refine am_e2 (v := 39) hi_213_13 rfl ?_
                      refine am_e7 hi_213_14 ?_
                      refine mm_20 (v := .int (f 15)) hS384 hi_213_15 rfl ?_
                      refine am_e0 hi_213_18 ?_
                      obtain ⟨z389, hz389, tz389⟩ := am_subI (x := f 15) (y := 1) (m := (f 15).toInt) (n := (1 : Int)) rfl (by decide) (by omega) (by omega)
                      refine am_e10 (z := z389) hi_213_19 hz389 ?_
                      refine mm_21 (v := z389) hS384 hi_213_20 rfl (Nat.le_of_ble_eq_true rfl) ms_15 ?_
                      intro S390 hS391
                      replace hS391 : MS S0 S390 (upd (upd (upd (upd (upd (upd (upd f 4 z364) 5 y365) 10 z287) 15 z389) 62 o272) 68 z380) 75 m274) g'382 := hS391
                      have hp392 : mj_n (g'275 16) (f 15).toNatClampNeg 3 = mj_n (g'275 16) z389.toNatClampNeg 3 + if (g'275 16 z389.toNatClampNeg).toInt = 3 then 1 else 0 := mj_pop (by rw [cl_toNat, cl_toNat]; omega)
                      have hp3921 : mj_n (g'275 16) z389.toNatClampNeg 3 ≤ mj_n (g'275 16) (f 15).toNatClampNeg 3 := by rw [hp392]; split <;> omega
                      have hp3922 : (g'275 16 z389.toNatClampNeg).toInt = 3 → mj_n (g'275 16) z389.toNatClampNeg 3 + 1 ≤ mj_n (g'275 16) (f 15).toNatClampNeg 3 := fun q => by rw [hp392, if_pos q]; exact Int.le_refl _
                      refine am_e2 (v := 39) hi_213_23 rfl ?_
                      refine am_e0 hi_213_24 ?_
                      refine am_e1 (v := r381) hi_213_25 rfl ?_
                      refine am_e1 (v := f 4) hi_213_27 rfl ?_
                      refine am_e32n (as := [.ref 39, .int 1, .int r381, .int (f 4)]) (la := [some (.ref 39), some (.int 1), some (.int r381), some (.int (f 4))]) (rest := []) hi_213_28 (am_hd0 (M := 213) (by decide) 28) (Nat.le_of_ble_eq_true rfl) (Nat.le_of_ble_eq_true rfl) (show 4 ≤ am_P0.2.2.1 190 from by decide +kernel) rfl (am_recv_ok hS391.fs) rfl rfl (ct_value (d := (d + 3)) hS391 hR388_ (fun h => absurd h (by decide)) (fun _ => ⟨by omega, by omega⟩) (by show (0 : Int) ≤ z389.toInt; omega) (by show z389.toInt ≤ (32767 : Int); omega)) ?_
                      rintro v393 S394 (⟨z395, g'396, hv397, hS398, hR403, h399, h400, h401, h402⟩)
                      subst hv397
                      have h399_ : z395.toInt = z389.toInt + 1 := h399
                      have h400_ : ∀ j, j ∉ [16, 17, 18] → g'396 j = g'382 j := h400
                      have h401_ : mj_n (g'396 16) z395.toNatClampNeg 3 ≤ mj_n (g'275 16) z389.toNatClampNeg 3 + 1 := by rw [show g'382 16 = g'288 16 from h387_ 16 (by decide), show g'288 16 = g'275 16 from h292_ 16 (by decide)] at h401; exact h401
                      have h402_ : (1 : Int) = 3 ∨ mj_n (g'396 16) z395.toNatClampNeg 3 ≤ mj_n (g'275 16) z389.toNatClampNeg 3 := by rw [show g'382 16 = g'288 16 from h387_ 16 (by decide), show g'288 16 = g'275 16 from h292_ 16 (by decide)] at h402; exact h402
                      replace hS398 : MS S0 S394 (upd (upd (upd (upd (upd (upd (upd f 4 z364) 5 y365) 10 z287) 15 z395) 62 o272) 68 z380) 75 m274) g'396 := hS398
                      have hR403_ : RJ (upd (upd (upd (upd (upd (upd (upd f 4 z364) 5 y365) 10 z287) 15 z395) 62 o272) 68 z380) 75 m274) g'396 (((28 : Int), (0 : Int), (0 : Int), (0 : Int), []) :: gs) bc [] 0 (s273.toNatClampNeg :: []) := hR403
                      show am_E _ _ _ _ [some (.ref 39), some (.int 0), some (.int 0), some (.int (f 4)), some (.int r381)] [] _ _
                      refine am_e35 hi_213_31 ?_
                      show am_E _ _ _ _ [some (.ref 39), some (.int 0), some (.int (f 4))] [] _ _
                      refine am_e18 hi_212_109 ?_
                      refine am_e35 hi_212_125 ?_
                      show am_E _ _ _ _ [some (.ref 39), some (.int r2), some (.int (f 4)), none] [] _ _
                      refine am_e35 hi_211_249 ?_
                      show am_E _ _ _ _ [some (.ref 39), some (.int 28), some (.int on), some (.int tw)] [] _ _
                      refine am_e18 hi_181_180 ?_
                      refine am_e35 hi_181_397 ?_
                      show am_E _ _ _ _ [some (.ref 39), some (.int 28), some (.int on), some (.int tw), some (.int th)] [] _ _
                      refine am_e35 hi_180_13 ?_
                      have q1 : mg_p1 (((28 : Int), (0 : Int), (0 : Int), (0 : Int), []) :: gs) = 0 + (mg_p1 gs) := rfl
                      have q2 : mg_p2 (((28 : Int), (0 : Int), (0 : Int), (0 : Int), []) :: gs) = 0 + (mg_p2 gs) := rfl
                      have q3 : mg_p3 (((28 : Int), (0 : Int), (0 : Int), (0 : Int), []) :: gs) = 1 + (mg_p3 gs) := rfl
                      have q4 : mg_p4 (((28 : Int), (0 : Int), (0 : Int), (0 : Int), []) :: gs) = 0 + (mg_p4 gs) := rfl
                      refine ⟨_, _, _, bc, rfl, hS398, Or.inl ⟨⟨(RJ.fewer (pj' := []) hR403_ (fun _ h => nomatch h)), ?_, ?_⟩, rfl, ?_⟩⟩
                      · exact (⟨⟨(show (0 : Int) ≤ 28 from by decide), (show (1 : Int) ≤ z395.toInt from by omega), (show 0 ≤ (f 20).toInt from by omega), (show 1 ≤ (f 37).toInt from by omega), (show 0 ≤ (f 32).toInt from by omega), (show (f 32).toInt ≤ y365.toInt from by omega), (show y365.toInt ≤ 48 from by omega), (show (f 37).toInt ≤ 2 * (y365.toInt) + 2 from by omega), trivial⟩, mg_cast (mg_good_ext _ _ _ _ _ _ (fun i _ => by show g'396 34 i = g 34 i; rw [show g'396 34 = g'382 34 from h400_ 34 (by decide), show g'382 34 = g'288 34 from h387_ 34 (by decide), show g'288 34 = g'275 34 from h292_ 34 (by decide), show g'275 34 = g 34 from h283_ 34 (by decide)]) (fun i _ => by show g'396 38 i = g 38 i; rw [show g'396 38 = g'382 38 from h400_ 38 (by decide), show g'382 38 = g'288 38 from h387_ 38 (by decide), show g'288 38 = g'275 38 from h292_ 38 (by decide), show g'275 38 = g 38 from h283_ 38 (by decide)]) hrest) (by show (f 15).toInt + 0 = z395.toInt + 0; omega) (by show (f 20).toInt = (f 20).toInt; omega) (by show (f 37).toInt + 0 = (f 37).toInt + 0; omega) (by show (f 32).toInt + 0 = (f 32).toInt + 0; omega) (by show (f 5).toInt + 0 = y365.toInt + 0; omega)⟩ : mg_good (g'396 34) (g'396 38) (((28 : Int), (0 : Int), (0 : Int), (0 : Int), []) :: gs) (z395.toInt) ((f 20).toInt) ((f 37).toInt) ((f 32).toInt) (y365.toInt))
                      · exact ⟨(by show 0 ≤ z364.toInt; omega), (by show z364.toInt ≤ (f 0).toInt; omega), (by show (f 0).toInt ≤ 512; omega), (by show 0 ≤ (f 24).toInt; omega), (by show (f 24).toInt + (f 20).toInt + mg_p1 (((28 : Int), (0 : Int), (0 : Int), (0 : Int), []) :: gs) ≤ 4 * z364.toInt; omega), (by show (f 20).toInt ≤ z364.toInt; omega), (by show z395.toInt + mg_p2 (((28 : Int), (0 : Int), (0 : Int), (0 : Int), []) :: gs) ≤ z364.toInt; omega), (by show mg_p3 (((28 : Int), (0 : Int), (0 : Int), (0 : Int), []) :: gs) ≤ 20 * z364.toInt + 20; omega), (by show 0 ≤ z380.toInt; omega), (by show z380.toInt + 3 * (f 20).toInt + mg_p4 (((28 : Int), (0 : Int), (0 : Int), (0 : Int), []) :: gs) ≤ 60 * z364.toInt + 60; omega), (by show 0 ≤ o272.toInt; omega), (by show o272.toInt + 64 * mj_n (g'396 16) z395.toNatClampNeg 3 ≤ 64 * z364.toInt; omega), (by show 0 ≤ (f 44).toInt; omega), (by show (f 44).toInt ≤ z364.toInt; omega), (by show 0 ≤ (f 48).toInt; omega), (by show (f 48).toInt ≤ z364.toInt; omega), (by show 1 ≤ (f 53).toInt; omega), (by show (f 53).toInt ≤ z364.toInt + 1; omega)⟩
                      · show 100 * ((f 0).toInt - z364.toInt) + mg_p3 (((28 : Int), (0 : Int), (0 : Int), (0 : Int), []) :: gs) < 100 * ((f 0).toInt - (f 4).toInt) + (1 + mg_p3 gs); omega
                    · subst hv374
                      replace hS375 : MS S0 S363 (upd (upd (upd (upd (upd (upd (upd (upd f 4 z312) 5 y313) 6 a372) 7 b373) 10 0) 62 o272) 68 s273) 75 m274) g'288 := hS375
                      show am_E _ _ _ _ [some (.ref 39), some (.int 0), some (.int (f 4))] [.int 0] _ _
                      refine am_e6i hi_212_101 ?_
                      refine am_e2 (v := 39) hi_212_102 rfl ?_
                      refine am_e1 (v := 0) hi_212_103 rfl ?_
                      refine am_e0 hi_212_104 ?_
                      refine am_e1 (v := f 4) hi_212_105 rfl ?_
                      refine am_e32w (as := [.ref 39, .int 0, .int 0, .int (f 4)]) (la := [some (.ref 39), some (.int 0), some (.int 0), some (.int (f 4)), none]) (rest := []) hi_212_106 (am_hd0 (M := 212) (by decide) 106) (Nat.le_of_ble_eq_true rfl) (Nat.le_of_ble_eq_true rfl) (show 4 ≤ am_P0.2.2.1 213 from by decide +kernel) rfl (am_recv_ok hS375.fs) rfl rfl ?_
                      refine am_e2 (v := 39) hi_213_0 rfl ?_
                      refine am_e0 hi_213_1 ?_
                      refine am_e1 (v := 0) hi_213_3 rfl ?_
                      refine am_e1 (v := 0) hi_213_4 rfl ?_
                      refine am_e0 hi_213_5 ?_
                      refine am_e10 (z := 2) hi_213_6 (by decide) ?_
                      refine am_e1 (v := f 4) hi_213_7 rfl ?_
                      refine am_e32n (as := [.ref 39, .int 13, .int 0, .int 2, .int (f 4)]) (la := [some (.ref 39), some (.int 13), some (.int 0), some (.int 2), some (.int (f 4))]) (rest := []) hi_213_8 (am_hd0 (M := 213) (by decide) 8) (Nat.le_of_ble_eq_true rfl) (Nat.le_of_ble_eq_true rfl) (show 5 ≤ am_P0.2.2.1 189 from by decide +kernel) rfl (am_recv_ok hS375.fs) rfl rfl (ct_put (d := (d + 3)) hS375 hR326  (by show (0 : Int) ≤ (f 32).toInt; omega) (by show (f 32).toInt ≤ (63 : Int); omega) (by show (f 53).toInt ≤ (4096 : Int); omega) (by show (0 : Int) ≤ s273.toInt; omega) (by show s273.toInt ≤ (65534 : Int); omega)) ?_
                      rintro v404 S405 (⟨z406, r407, g'408, hv409, hS410, hR414, h411, h412, h413⟩)
                      subst hv409
                      have h411_ : z406.toInt = s273.toInt + 1 := h411
                      have h412_ : r407.toInt = s273.toInt := h412
                      have h413_ : ∀ j, j ∉ [60, 69, 70, 71, 72, 73] → g'408 j = g'288 j := h413
                      replace hS410 : MS S0 S405 (upd (upd (upd (upd (upd (upd (upd (upd f 4 z312) 5 y313) 6 a372) 7 b373) 10 0) 62 o272) 68 z406) 75 m274) g'408 := hS410
                      have hR414_ : RJ (upd (upd (upd (upd (upd (upd (upd (upd f 4 z312) 5 y313) 6 a372) 7 b373) 10 0) 62 o272) 68 z406) 75 m274) g'408 (((28 : Int), (0 : Int), (0 : Int), (0 : Int), []) :: gs) bc [] 0 (s273.toNatClampNeg :: []) := hR414
                      show am_E _ _ _ _ [some (.ref 39), some (.int 0), some (.int 0), some (.int (f 4)), none] [.int r407] _ _
                      refine am_e3 (ls' := [some (.ref 39), some (.int 0), some (.int 0), some (.int (f 4)), some (.int r407)]) hi_213_11 (Nat.le_of_ble_eq_true rfl) rfl ?_
                      refine am_e2 (v := 39) hi_213_13 rfl ?_
                      refine am_e7 hi_213_14 ?_
                      refine mm_20 (v := .int (f 15)) hS410 hi_213_15 rfl ?_
                      refine am_e0 hi_213_18 ?_
                      obtain ⟨z415, hz415, tz415⟩ := am_subI (x := f 15) (y := 1) (m := (f 15).toInt) (n := (1 : Int)) rfl (by decide) (by omega) (by omega)
                      refine am_e10 (z := z415) hi_213_19 hz415 ?_
                      refine mm_21 (v := z415) hS410 hi_213_20 rfl (Nat.le_of_ble_eq_true rfl) ms_15 ?_
                      intro S416 hS417
                      replace hS417 : MS S0 S416 (upd (upd (upd (upd (upd (upd (upd (upd (upd f 4 z312) 5 y313) 6 a372) 7 b373) 10 0) 15 z415) 62 o272) 68 z406) 75 m274) g'408 := hS417
                      have hp418 : mj_n (g'275 16) (f 15).toNatClampNeg 3 = mj_n (g'275 16) z415.toNatClampNeg 3 + if (g'275 16 z415.toNatClampNeg).toInt = 3 then 1 else 0 := mj_pop (by rw [cl_toNat, cl_toNat]; omega)
                      have hp4181 : mj_n (g'275 16) z415.toNatClampNeg 3 ≤ mj_n (g'275 16) (f 15).toNatClampNeg 3 := by rw [hp418]; split <;> omega
                      have hp4182 : (g'275 16 z415.toNatClampNeg).toInt = 3 → mj_n (g'275 16) z415.toNatClampNeg 3 + 1 ≤ mj_n (g'275 16) (f 15).toNatClampNeg 3 := fun q => by rw [hp418, if_pos q]; exact Int.le_refl _
                      refine am_e2 (v := 39) hi_213_23 rfl ?_
                      refine am_e0 hi_213_24 ?_
                      refine am_e1 (v := r407) hi_213_25 rfl ?_
                      refine am_e1 (v := f 4) hi_213_27 rfl ?_
                      refine am_e32n (as := [.ref 39, .int 1, .int r407, .int (f 4)]) (la := [some (.ref 39), some (.int 1), some (.int r407), some (.int (f 4))]) (rest := []) hi_213_28 (am_hd0 (M := 213) (by decide) 28) (Nat.le_of_ble_eq_true rfl) (Nat.le_of_ble_eq_true rfl) (show 4 ≤ am_P0.2.2.1 190 from by decide +kernel) rfl (am_recv_ok hS417.fs) rfl rfl (ct_value (d := (d + 3)) hS417 hR414_ (fun h => absurd h (by decide)) (fun _ => ⟨by omega, by omega⟩) (by show (0 : Int) ≤ z415.toInt; omega) (by show z415.toInt ≤ (32767 : Int); omega)) ?_
                      rintro v419 S420 (⟨z421, g'422, hv423, hS424, hR429, h425, h426, h427, h428⟩)
                      subst hv423
                      have h425_ : z421.toInt = z415.toInt + 1 := h425
                      have h426_ : ∀ j, j ∉ [16, 17, 18] → g'422 j = g'408 j := h426
                      have h427_ : mj_n (g'422 16) z421.toNatClampNeg 3 ≤ mj_n (g'275 16) z415.toNatClampNeg 3 + 1 := by rw [show g'408 16 = g'288 16 from h413_ 16 (by decide), show g'288 16 = g'275 16 from h292_ 16 (by decide)] at h427; exact h427
                      have h428_ : (1 : Int) = 3 ∨ mj_n (g'422 16) z421.toNatClampNeg 3 ≤ mj_n (g'275 16) z415.toNatClampNeg 3 := by rw [show g'408 16 = g'288 16 from h413_ 16 (by decide), show g'288 16 = g'275 16 from h292_ 16 (by decide)] at h428; exact h428
                      replace hS424 : MS S0 S420 (upd (upd (upd (upd (upd (upd (upd (upd (upd f 4 z312) 5 y313) 6 a372) 7 b373) 10 0) 15 z421) 62 o272) 68 z406) 75 m274) g'422 := hS424
                      have hR429_ : RJ (upd (upd (upd (upd (upd (upd (upd (upd (upd f 4 z312) 5 y313) 6 a372) 7 b373) 10 0) 15 z421) 62 o272) 68 z406) 75 m274) g'422 (((28 : Int), (0 : Int), (0 : Int), (0 : Int), []) :: gs) bc [] 0 (s273.toNatClampNeg :: []) := hR429
                      show am_E _ _ _ _ [some (.ref 39), some (.int 0), some (.int 0), some (.int (f 4)), some (.int r407)] [] _ _
                      refine am_e35 hi_213_31 ?_
                      show am_E _ _ _ _ [some (.ref 39), some (.int 0), some (.int (f 4))] [] _ _
                      refine am_e18 hi_212_109 ?_
                      refine am_e35 hi_212_125 ?_
                      show am_E _ _ _ _ [some (.ref 39), some (.int r2), some (.int (f 4)), none] [] _ _
                      refine am_e35 hi_211_249 ?_
                      show am_E _ _ _ _ [some (.ref 39), some (.int 28), some (.int on), some (.int tw)] [] _ _
                      refine am_e18 hi_181_180 ?_
                      refine am_e35 hi_181_397 ?_
                      show am_E _ _ _ _ [some (.ref 39), some (.int 28), some (.int on), some (.int tw), some (.int th)] [] _ _
                      refine am_e35 hi_180_13 ?_
                      have hRc := rj_clear0 hR429_
                      refine ⟨_, _, [], _, rfl, hS424, Or.inr ⟨hRc, rfl, (by show 0 ≤ z312.toInt; omega), (by show z312.toInt ≤ (f 0).toInt; omega), (by show 0 ≤ (f 32).toInt; omega), (by show (f 32).toInt ≤ 63; omega), (by show 1 ≤ (f 53).toInt; omega), (by show (f 53).toInt ≤ 600; omega), (by show 0 ≤ z406.toInt; omega), (by show z406.toInt ≤ 60000; omega), (by show 0 ≤ (f 48).toInt; omega), (by show (f 48).toInt ≤ 8000; omega), (by show 0 ≤ (f 37).toInt; omega), (by show (f 37).toInt ≤ 128; omega), (by show 0 ≤ o272.toInt; omega), (by show o272.toInt ≤ 65000; omega)⟩⟩
                · subst hv323
                  replace hS324 : MS S0 S311 (upd (upd (upd (upd (upd (upd f 6 a321) 7 b322) 10 0) 62 o272) 68 s273) 75 m274) g'288 := hS324
                  show am_E _ _ _ _ [some (.ref 39), some (.int 0), some (.int (f 4))] [.int 0] _ _
                  refine am_e12t hi_212_83 (by decide) ?_
                  refine am_e35 hi_212_125 ?_
                  show am_E _ _ _ _ [some (.ref 39), some (.int r2), some (.int (f 4)), none] [] _ _
                  refine am_e35 hi_211_249 ?_
                  show am_E _ _ _ _ [some (.ref 39), some (.int 28), some (.int on), some (.int tw)] [] _ _
                  refine am_e18 hi_181_180 ?_
                  refine am_e35 hi_181_397 ?_
                  show am_E _ _ _ _ [some (.ref 39), some (.int 28), some (.int on), some (.int tw), some (.int th)] [] _ _
                  refine am_e35 hi_180_13 ?_
                  have hRc := rj_clear0 hR293_
                  refine ⟨_, _, [], _, rfl, hS324, Or.inr ⟨hRc, rfl, (by show 0 ≤ (f 4).toInt; omega), (by show (f 4).toInt ≤ (f 0).toInt; omega), (by show 0 ≤ (f 32).toInt; omega), (by show (f 32).toInt ≤ 63; omega), (by show 1 ≤ (f 53).toInt; omega), (by show (f 53).toInt ≤ 600; omega), (by show 0 ≤ s273.toInt; omega), (by show s273.toInt ≤ 60000; omega), (by show 0 ≤ (f 48).toInt; omega), (by show (f 48).toInt ≤ 8000; omega), (by show 0 ≤ (f 37).toInt; omega), (by show (f 37).toInt ≤ 128; omega), (by show 0 ≤ o272.toInt; omega), (by show o272.toInt ≤ 65000; omega)⟩⟩
              · refine am_e13f hi_212_58 (am_cF (m := r304.toInt) (n := (62 : Int)) rfl (by decide) c309) ?_
                refine am_e2 (v := 39) hi_212_61 rfl ?_
                refine am_e0 hi_212_62 ?_
                refine am_e1 (v := 0) hi_212_64 rfl ?_
                refine am_e1 (v := f 4) hi_212_65 rfl ?_
                refine am_e0 hi_212_66 ?_
                refine am_e32n (as := [.ref 39, .int 33, .int 0, .int (f 4), .int 0]) (la := [some (.ref 39), some (.int 33), some (.int 0), some (.int (f 4)), some (.int 0)]) (rest := []) hi_212_67 (am_hd0 (M := 212) (by decide) 67) (Nat.le_of_ble_eq_true rfl) (Nat.le_of_ble_eq_true rfl) (show 5 ≤ am_P0.2.2.1 179 from by decide +kernel) rfl (am_recv_ok hS306.fs) rfl rfl (ct_pile (d := (d + 4)) hS306 hR293_ (mj_e_plain (by decide)) (by show (0 : Int) ≤ z287.toInt; omega) (by show z287.toInt ≤ (65535 : Int); omega)) ?_
                rintro v430 S431 (⟨z432, g'433, hv434, hS435, hR438, h436, h437⟩)
                subst hv434
                have h436_ : z432.toInt = z287.toInt + 1 := h436
                have h437_ : ∀ j, j ∉ [11, 12, 13, 14] → g'433 j = g'288 j := h437
                replace hS435 : MS S0 S431 (upd (upd (upd (upd f 10 z432) 62 o272) 68 s273) 75 m274) g'433 := hS435
                have hR438_ : RJ (upd (upd (upd (upd f 10 z432) 62 o272) 68 s273) 75 m274) g'433 (((33 : Int), (0 : Int), (f 4).toInt, (0 : Int), []) :: (((28 : Int), (0 : Int), (0 : Int), (0 : Int), []) :: gs)) bc [] 0 [] := hR438
                show am_E _ _ _ _ [some (.ref 39), some (.int 0), some (.int (f 4))] [] _ _
                refine am_e2 (v := 39) hi_212_70 rfl ?_
                refine am_e32w (as := [.ref 39]) (la := [some (.ref 39), none]) (rest := []) hi_212_71 (am_hd0 (M := 212) (by decide) 71) (Nat.le_of_ble_eq_true rfl) (Nat.le_of_ble_eq_true rfl) (show 1 ≤ am_P0.2.2.1 192 from by decide +kernel) rfl (am_recv_ok hS435.fs) rfl rfl ?_
                refine am_e2 (v := 39) hi_192_0 rfl ?_
                refine mm_20 (v := .int (f 4)) hS435 hi_192_1 rfl ?_
                refine am_e3 (ls' := [some (.ref 39), some (.int (f 4))]) hi_192_4 (Nat.le_of_ble_eq_true rfl) rfl ?_
                refine am_e2 (v := 39) hi_192_5 rfl ?_
                refine am_e0 hi_192_6 ?_
                refine am_e32n (as := [.ref 39, .int 62]) (la := [some (.ref 39), some (.int 62)]) (rest := []) hi_192_8 (am_hd0 (M := 192) (by decide) 8) (Nat.le_of_ble_eq_true rfl) (Nat.le_of_ble_eq_true rfl) (show 2 ≤ am_P0.2.2.1 193 from by decide +kernel) rfl (am_recv_ok hS435.fs) rfl rfl (ct_enter (d := (d + 1)) hS435   (by show (0 : Int) ≤ (f 4).toInt; omega) (by show (f 0).toInt ≤ (16384 : Int); omega) (by show (0 : Int) ≤ (62 : Int); omega) (by show (0 : Int) ≤ (f 5).toInt; omega) (by show (f 5).toInt ≤ (48 : Int); omega)) ?_
                rintro v439 S440 (⟨z441, y442, hv443, hS444, h445, h446, h447, h448⟩ | ⟨a450, b451, hv452, hS453⟩)
                · subst hv443
                  have h445_ : z441.toInt = (f 4).toInt + 1 := h445
                  have h446_ : (f 4).toInt < (f 0).toInt := h446
                  have h447_ : y442.toInt = (f 5).toInt + 1 := h447
                  have h448_ : y442.toInt ≤ (48 : Int) := h448
                  replace hS444 : MS S0 S440 (upd (upd (upd (upd (upd (upd f 4 z441) 5 y442) 10 z432) 62 o272) 68 s273) 75 m274) g'433 := hS444
                  have hR455 : RJ (upd (upd (upd (upd (upd (upd f 4 z441) 5 y442) 10 z432) 62 o272) 68 s273) 75 m274) g'433 (((33 : Int), (0 : Int), (f 4).toInt, (0 : Int), []) :: (((28 : Int), (0 : Int), (0 : Int), (0 : Int), []) :: gs)) bc [] 0 [] := RJ.at hR438_ (by show (f 4).toInt ≤ z441.toInt; omega)
                  show am_E _ _ _ _ [some (.ref 39), some (.int (f 4))] [.int 1] _ _
                  refine am_e12t hi_192_11 (by decide) ?_
                  refine am_e2 (v := 39) hi_192_15 rfl ?_
                  refine am_e0 hi_192_16 ?_
                  refine am_e0 hi_192_18 ?_
                  refine am_e0 hi_192_19 ?_
                  refine am_e1 (v := f 4) hi_192_20 rfl ?_
                  refine am_e32n (as := [.ref 39, .int 20, .int 0, .int 0, .int (f 4)]) (la := [some (.ref 39), some (.int 20), some (.int 0), some (.int 0), some (.int (f 4))]) (rest := []) hi_192_21 (am_hd0 (M := 192) (by decide) 21) (Nat.le_of_ble_eq_true rfl) (Nat.le_of_ble_eq_true rfl) (show 5 ≤ am_P0.2.2.1 189 from by decide +kernel) rfl (am_recv_ok hS444.fs) rfl rfl (ct_put (d := (d + 3)) hS444 hR455  (by show (0 : Int) ≤ (f 32).toInt; omega) (by show (f 32).toInt ≤ (63 : Int); omega) (by show (f 53).toInt ≤ (4096 : Int); omega) (by show (0 : Int) ≤ s273.toInt; omega) (by show s273.toInt ≤ (65534 : Int); omega)) ?_
                  rintro v456 S457 (⟨z458, r459, g'460, hv461, hS462, hR466, h463, h464, h465⟩)
                  subst hv461
                  have h463_ : z458.toInt = s273.toInt + 1 := h463
                  have h464_ : r459.toInt = s273.toInt := h464
                  have h465_ : ∀ j, j ∉ [60, 69, 70, 71, 72, 73] → g'460 j = g'433 j := h465
                  replace hS462 : MS S0 S457 (upd (upd (upd (upd (upd (upd f 4 z441) 5 y442) 10 z432) 62 o272) 68 z458) 75 m274) g'460 := hS462
                  have hR466_ : RJ (upd (upd (upd (upd (upd (upd f 4 z441) 5 y442) 10 z432) 62 o272) 68 z458) 75 m274) g'460 (((33 : Int), (0 : Int), (f 4).toInt, (0 : Int), []) :: (((28 : Int), (0 : Int), (0 : Int), (0 : Int), []) :: gs)) bc [] 0 (s273.toNatClampNeg :: []) := hR466
                  show am_E _ _ _ _ [some (.ref 39), some (.int (f 4))] [.int r459] _ _
                  refine am_e6i hi_192_24 ?_
                  refine am_e2 (v := 39) hi_192_25 rfl ?_
                  refine am_e0 hi_192_26 ?_
                  refine am_e0 hi_192_27 ?_
                  refine am_e0 hi_192_28 ?_
                  refine am_e32n (as := [.ref 39, .int 0, .int 0, .int 0]) (la := [some (.ref 39), some (.int 0), some (.int 0), some (.int 0)]) (rest := []) hi_192_29 (am_hd0 (M := 192) (by decide) 29) (Nat.le_of_ble_eq_true rfl) (Nat.le_of_ble_eq_true rfl) (show 4 ≤ am_P0.2.2.1 190 from by decide +kernel) rfl (am_recv_ok hS462.fs) rfl rfl (ct_value (d := (d + 3)) hS462 hR466_ (fun h => absurd h (by decide)) (fun h => absurd h (by decide)) (by show (0 : Int) ≤ (f 15).toInt; omega) (by show (f 15).toInt ≤ (32767 : Int); omega)) ?_
                  rintro v467 S468 (⟨z469, g'470, hv471, hS472, hR477, h473, h474, h475, h476⟩)
                  subst hv471
                  have h473_ : z469.toInt = (f 15).toInt + 1 := h473
                  have h474_ : ∀ j, j ∉ [16, 17, 18] → g'470 j = g'460 j := h474
                  have h475_ : mj_n (g'470 16) z469.toNatClampNeg 3 ≤ mj_n (g'275 16) (f 15).toNatClampNeg 3 + 1 := by rw [show g'460 16 = g'433 16 from h465_ 16 (by decide), show g'433 16 = g'288 16 from h437_ 16 (by decide), show g'288 16 = g'275 16 from h292_ 16 (by decide)] at h475; exact h475
                  have h476_ : (0 : Int) = 3 ∨ mj_n (g'470 16) z469.toNatClampNeg 3 ≤ mj_n (g'275 16) (f 15).toNatClampNeg 3 := by rw [show g'460 16 = g'433 16 from h465_ 16 (by decide), show g'433 16 = g'288 16 from h437_ 16 (by decide), show g'288 16 = g'275 16 from h292_ 16 (by decide)] at h476; exact h476
                  replace hS472 : MS S0 S468 (upd (upd (upd (upd (upd (upd (upd f 4 z441) 5 y442) 10 z432) 15 z469) 62 o272) 68 z458) 75 m274) g'470 := hS472
                  have hR477_ : RJ (upd (upd (upd (upd (upd (upd (upd f 4 z441) 5 y442) 10 z432) 15 z469) 62 o272) 68 z458) 75 m274) g'470 (((33 : Int), (0 : Int), (f 4).toInt, (0 : Int), []) :: (((28 : Int), (0 : Int), (0 : Int), (0 : Int), []) :: gs)) bc [] 0 (s273.toNatClampNeg :: []) := hR477
                  show am_E _ _ _ _ [some (.ref 39), some (.int (f 4))] [] _ _
                  refine am_e2 (v := 39) hi_192_32 rfl ?_
                  refine am_e0 hi_192_33 ?_
                  refine am_e0 hi_192_35 ?_
                  refine am_e0 hi_192_36 ?_
                  refine am_e0 hi_192_37 ?_
                  refine am_e32n (as := [.ref 39, .int 35, .int 0, .int 0, .int 0]) (la := [some (.ref 39), some (.int 35), some (.int 0), some (.int 0), some (.int 0)]) (rest := []) hi_192_38 (am_hd0 (M := 192) (by decide) 38) (Nat.le_of_ble_eq_true rfl) (Nat.le_of_ble_eq_true rfl) (show 5 ≤ am_P0.2.2.1 179 from by decide +kernel) rfl (am_recv_ok hS472.fs) rfl rfl (ct_pile (d := (d + 3)) hS472 hR477_ (mj_e_plain (by decide)) (by show (0 : Int) ≤ z432.toInt; omega) (by show z432.toInt ≤ (65535 : Int); omega)) ?_
                  rintro v478 S479 (⟨z480, g'481, hv482, hS483, hR486, h484, h485⟩)
                  subst hv482
                  have h484_ : z480.toInt = z432.toInt + 1 := h484
                  have h485_ : ∀ j, j ∉ [11, 12, 13, 14] → g'481 j = g'470 j := h485
                  replace hS483 : MS S0 S479 (upd (upd (upd (upd (upd (upd (upd f 4 z441) 5 y442) 10 z480) 15 z469) 62 o272) 68 z458) 75 m274) g'481 := hS483
                  have hR486_ : RJ (upd (upd (upd (upd (upd (upd (upd f 4 z441) 5 y442) 10 z480) 15 z469) 62 o272) 68 z458) 75 m274) g'481 (((35 : Int), (0 : Int), (0 : Int), (0 : Int), []) :: (((33 : Int), (0 : Int), (f 4).toInt, (0 : Int), []) :: (((28 : Int), (0 : Int), (0 : Int), (0 : Int), []) :: gs))) bc [] 0 (s273.toNatClampNeg :: []) := hR486
                  show am_E _ _ _ _ [some (.ref 39), some (.int (f 4))] [] _ _
                  refine am_e35 hi_192_41 ?_
                  show am_E _ _ _ _ [some (.ref 39), some (.int 0), some (.int (f 4))] [] _ _
                  refine am_e18 hi_212_74 ?_
                  refine am_e35 hi_212_125 ?_
                  show am_E _ _ _ _ [some (.ref 39), some (.int r2), some (.int (f 4)), none] [] _ _
                  refine am_e35 hi_211_249 ?_
                  show am_E _ _ _ _ [some (.ref 39), some (.int 28), some (.int on), some (.int tw)] [] _ _
                  refine am_e18 hi_181_180 ?_
                  refine am_e35 hi_181_397 ?_
                  show am_E _ _ _ _ [some (.ref 39), some (.int 28), some (.int on), some (.int tw), some (.int th)] [] _ _
                  refine am_e35 hi_180_13 ?_
                  have q1 : mg_p1 (((35 : Int), (0 : Int), (0 : Int), (0 : Int), []) :: (((33 : Int), (0 : Int), (f 4).toInt, (0 : Int), []) :: (((28 : Int), (0 : Int), (0 : Int), (0 : Int), []) :: gs))) = 0 + (0 + (0 + (mg_p1 gs))) := rfl
                  have q2 : mg_p2 (((35 : Int), (0 : Int), (0 : Int), (0 : Int), []) :: (((33 : Int), (0 : Int), (f 4).toInt, (0 : Int), []) :: (((28 : Int), (0 : Int), (0 : Int), (0 : Int), []) :: gs))) = 0 + (0 + (0 + (mg_p2 gs))) := rfl
                  have q3 : mg_p3 (((35 : Int), (0 : Int), (0 : Int), (0 : Int), []) :: (((33 : Int), (0 : Int), (f 4).toInt, (0 : Int), []) :: (((28 : Int), (0 : Int), (0 : Int), (0 : Int), []) :: gs))) = 3 + (1 + (1 + (mg_p3 gs))) := rfl
                  have q4 : mg_p4 (((35 : Int), (0 : Int), (0 : Int), (0 : Int), []) :: (((33 : Int), (0 : Int), (f 4).toInt, (0 : Int), []) :: (((28 : Int), (0 : Int), (0 : Int), (0 : Int), []) :: gs))) = 0 + (3 + (0 + (mg_p4 gs))) := rfl
                  refine ⟨_, _, _, bc, rfl, hS483, Or.inl ⟨⟨(RJ.fewer (pj' := []) hR486_ (fun _ h => nomatch h)), ?_, ?_⟩, rfl, ?_⟩⟩
                  · exact (⟨⟨(show (0 : Int) ≤ 35 from by decide), (show (0 : Int) ≤ z469.toInt from by omega), (show 0 ≤ (f 20).toInt from by omega), (show 1 ≤ (f 37).toInt from by omega), (show 0 ≤ (f 32).toInt from by omega), (show (f 32).toInt ≤ y442.toInt from by omega), (show y442.toInt ≤ 48 from by omega), (show (f 37).toInt ≤ 2 * (y442.toInt) + 2 from by omega), trivial⟩, ⟨⟨(show (0 : Int) ≤ 33 from by decide), (show (2 : Int) ≤ z469.toInt + 0 from by omega), (show 0 ≤ (f 20).toInt from by omega), (show 1 ≤ (f 37).toInt + 0 from by omega), (show 0 ≤ (f 32).toInt + 0 from by omega), (show (f 32).toInt + 0 ≤ y442.toInt + -1 from by omega), (show y442.toInt + -1 ≤ 48 from by omega), (show (f 37).toInt + 0 ≤ 2 * (y442.toInt + -1) + 2 from by omega), trivial⟩, ⟨⟨(show (0 : Int) ≤ 28 from by decide), (show (1 : Int) ≤ z469.toInt + 0 + -1 from by omega), (show 0 ≤ (f 20).toInt from by omega), (show 1 ≤ (f 37).toInt + 0 + 0 from by omega), (show 0 ≤ (f 32).toInt + 0 + 0 from by omega), (show (f 32).toInt + 0 + 0 ≤ y442.toInt + -1 + 0 from by omega), (show y442.toInt + -1 + 0 ≤ 48 from by omega), (show (f 37).toInt + 0 + 0 ≤ 2 * (y442.toInt + -1 + 0) + 2 from by omega), trivial⟩, mg_cast (mg_good_ext _ _ _ _ _ _ (fun i _ => by show g'481 34 i = g 34 i; rw [show g'481 34 = g'470 34 from h485_ 34 (by decide), show g'470 34 = g'460 34 from h474_ 34 (by decide), show g'460 34 = g'433 34 from h465_ 34 (by decide), show g'433 34 = g'288 34 from h437_ 34 (by decide), show g'288 34 = g'275 34 from h292_ 34 (by decide), show g'275 34 = g 34 from h283_ 34 (by decide)]) (fun i _ => by show g'481 38 i = g 38 i; rw [show g'481 38 = g'470 38 from h485_ 38 (by decide), show g'470 38 = g'460 38 from h474_ 38 (by decide), show g'460 38 = g'433 38 from h465_ 38 (by decide), show g'433 38 = g'288 38 from h437_ 38 (by decide), show g'288 38 = g'275 38 from h292_ 38 (by decide), show g'275 38 = g 38 from h283_ 38 (by decide)]) hrest) (by show (f 15).toInt + 0 = z469.toInt + 0 + -1 + 0; omega) (by show (f 20).toInt = (f 20).toInt; omega) (by show (f 37).toInt + 0 = (f 37).toInt + 0 + 0 + 0; omega) (by show (f 32).toInt + 0 = (f 32).toInt + 0 + 0 + 0; omega) (by show (f 5).toInt + 0 = y442.toInt + -1 + 0 + 0; omega)⟩⟩⟩ : mg_good (g'481 34) (g'481 38) (((35 : Int), (0 : Int), (0 : Int), (0 : Int), []) :: (((33 : Int), (0 : Int), (f 4).toInt, (0 : Int), []) :: (((28 : Int), (0 : Int), (0 : Int), (0 : Int), []) :: gs))) (z469.toInt) ((f 20).toInt) ((f 37).toInt) ((f 32).toInt) (y442.toInt))
                  · exact ⟨(by show 0 ≤ z441.toInt; omega), (by show z441.toInt ≤ (f 0).toInt; omega), (by show (f 0).toInt ≤ 512; omega), (by show 0 ≤ (f 24).toInt; omega), (by show (f 24).toInt + (f 20).toInt + mg_p1 (((35 : Int), (0 : Int), (0 : Int), (0 : Int), []) :: (((33 : Int), (0 : Int), (f 4).toInt, (0 : Int), []) :: (((28 : Int), (0 : Int), (0 : Int), (0 : Int), []) :: gs))) ≤ 4 * z441.toInt; omega), (by show (f 20).toInt ≤ z441.toInt; omega), (by show z469.toInt + mg_p2 (((35 : Int), (0 : Int), (0 : Int), (0 : Int), []) :: (((33 : Int), (0 : Int), (f 4).toInt, (0 : Int), []) :: (((28 : Int), (0 : Int), (0 : Int), (0 : Int), []) :: gs))) ≤ z441.toInt; omega), (by show mg_p3 (((35 : Int), (0 : Int), (0 : Int), (0 : Int), []) :: (((33 : Int), (0 : Int), (f 4).toInt, (0 : Int), []) :: (((28 : Int), (0 : Int), (0 : Int), (0 : Int), []) :: gs))) ≤ 20 * z441.toInt + 20; omega), (by show 0 ≤ z458.toInt; omega), (by show z458.toInt + 3 * (f 20).toInt + mg_p4 (((35 : Int), (0 : Int), (0 : Int), (0 : Int), []) :: (((33 : Int), (0 : Int), (f 4).toInt, (0 : Int), []) :: (((28 : Int), (0 : Int), (0 : Int), (0 : Int), []) :: gs))) ≤ 60 * z441.toInt + 60; omega), (by show 0 ≤ o272.toInt; omega), (by show o272.toInt + 64 * mj_n (g'481 16) z469.toNatClampNeg 3 ≤ 64 * z441.toInt; rw [show g'481 16 = g'470 16 from h485_ 16 (by decide)]; omega), (by show 0 ≤ (f 44).toInt; omega), (by show (f 44).toInt ≤ z441.toInt; omega), (by show 0 ≤ (f 48).toInt; omega), (by show (f 48).toInt ≤ z441.toInt; omega), (by show 1 ≤ (f 53).toInt; omega), (by show (f 53).toInt ≤ z441.toInt + 1; omega)⟩
                  · show 100 * ((f 0).toInt - z441.toInt) + mg_p3 (((35 : Int), (0 : Int), (0 : Int), (0 : Int), []) :: (((33 : Int), (0 : Int), (f 4).toInt, (0 : Int), []) :: (((28 : Int), (0 : Int), (0 : Int), (0 : Int), []) :: gs))) < 100 * ((f 0).toInt - (f 4).toInt) + (1 + mg_p3 gs); omega
                · subst hv452
                  replace hS453 : MS S0 S440 (upd (upd (upd (upd (upd (upd f 6 a450) 7 b451) 10 0) 62 o272) 68 s273) 75 m274) g'433 := hS453
                  show am_E _ _ _ _ [some (.ref 39), some (.int (f 4))] [.int 0] _ _
                  refine am_e12f hi_192_11 (by decide) ?_
                  refine am_e35 hi_192_14 ?_
                  show am_E _ _ _ _ [some (.ref 39), some (.int 0), some (.int (f 4))] [] _ _
                  refine am_e18 hi_212_74 ?_
                  refine am_e35 hi_212_125 ?_
                  show am_E _ _ _ _ [some (.ref 39), some (.int r2), some (.int (f 4)), none] [] _ _
                  refine am_e35 hi_211_249 ?_
                  show am_E _ _ _ _ [some (.ref 39), some (.int 28), some (.int on), some (.int tw)] [] _ _
                  refine am_e18 hi_181_180 ?_
                  refine am_e35 hi_181_397 ?_
                  show am_E _ _ _ _ [some (.ref 39), some (.int 28), some (.int on), some (.int tw), some (.int th)] [] _ _
                  refine am_e35 hi_180_13 ?_
                  have hRc := rj_clear0 hR438_
                  refine ⟨_, _, [], _, rfl, hS453, Or.inr ⟨hRc, rfl, (by show 0 ≤ (f 4).toInt; omega), (by show (f 4).toInt ≤ (f 0).toInt; omega), (by show 0 ≤ (f 32).toInt; omega), (by show (f 32).toInt ≤ 63; omega), (by show 1 ≤ (f 53).toInt; omega), (by show (f 53).toInt ≤ 600; omega), (by show 0 ≤ s273.toInt; omega), (by show s273.toInt ≤ 60000; omega), (by show 0 ≤ (f 48).toInt; omega), (by show (f 48).toInt ≤ 8000; omega), (by show 0 ≤ (f 37).toInt; omega), (by show (f 37).toInt ≤ 128; omega), (by show 0 ≤ o272.toInt; omega), (by show o272.toInt ≤ 65000; omega)⟩⟩
            · refine am_e13f hi_212_10 (am_cF (m := r296.toInt) (n := (3 : Int)) rfl (by decide) c301) ?_
              refine am_e2 (v := 39) hi_212_13 rfl ?_
              refine am_e0 hi_212_14 ?_
              refine am_e2 (v := 39) hi_212_15 rfl ?_
              refine mm_20 (v := .ref 41) hS298 hi_212_16 rfl ?_
              refine am_e2 (v := 39) hi_212_19 rfl ?_
              refine mm_20 (v := .int (f 4)) hS298 hi_212_20 rfl ?_
              refine mm_25 hS298 ma_2 hi_212_23 (by decide) (by omega) (by omega) ?_
              show am_E _ _ _ _ _ (.int (g'288 2 (f 4).toNatClampNeg) :: _) _ _
              rw [show g'288 2 = g'275 2 from h292_ 2 (by decide), show g'275 2 = g 2 from h283_ 2 (by decide)]
              show am_E _ _ _ _ [some (.ref 39), some (.int 0), some (.int (f 4))] [.int (g 2 (f 4).toNatClampNeg), .int 5, .ref 39] _ _
              refine am_e0 hi_212_24 ?_
              refine am_e0 hi_212_25 ?_
              refine am_e32n (as := [.ref 39, .int 5, .int (g 2 (f 4).toNatClampNeg), .int 0, .int 0]) (la := [some (.ref 39), some (.int 5), some (.int (g 2 (f 4).toNatClampNeg)), some (.int 0), some (.int 0)]) (rest := []) hi_212_26 (am_hd0 (M := 212) (by decide) 26) (Nat.le_of_ble_eq_true rfl) (Nat.le_of_ble_eq_true rfl) (show 5 ≤ am_P0.2.2.1 189 from by decide +kernel) rfl (am_recv_ok hS298.fs) rfl rfl (ct_put (d := (d + 4)) hS298 hR293_  (by show (0 : Int) ≤ (f 32).toInt; omega) (by show (f 32).toInt ≤ (63 : Int); omega) (by show (f 53).toInt ≤ (4096 : Int); omega) (by show (0 : Int) ≤ s273.toInt; omega) (by show s273.toInt ≤ (65534 : Int); omega)) ?_
              rintro v487 S488 (⟨z489, r490, g'491, hv492, hS493, hR497, h494, h495, h496⟩)
              subst hv492
              have h494_ : z489.toInt = s273.toInt + 1 := h494
              have h495_ : r490.toInt = s273.toInt := h495
              have h496_ : ∀ j, j ∉ [60, 69, 70, 71, 72, 73] → g'491 j = g'288 j := h496
              replace hS493 : MS S0 S488 (upd (upd (upd (upd f 10 z287) 62 o272) 68 z489) 75 m274) g'491 := hS493
              have hR497_ : RJ (upd (upd (upd (upd f 10 z287) 62 o272) 68 z489) 75 m274) g'491 (((28 : Int), (0 : Int), (0 : Int), (0 : Int), []) :: gs) bc [] 0 (s273.toNatClampNeg :: []) := hR497
              show am_E _ _ _ _ [some (.ref 39), some (.int 0), some (.int (f 4))] [.int r490] _ _
              refine am_e6i hi_212_29 ?_
              refine am_e2 (v := 39) hi_212_30 rfl ?_
              refine am_e7 hi_212_31 ?_
              refine mm_20 (v := .int (f 4)) hS493 hi_212_32 rfl ?_
              refine am_e0 hi_212_35 ?_
              obtain ⟨z498, hz498, tz498⟩ := am_addI (x := f 4) (y := 1) (m := (f 4).toInt) (n := (1 : Int)) rfl (by decide) (by omega) (by omega)
              refine am_e10 (z := z498) hi_212_36 hz498 ?_
              refine mm_21 (v := z498) hS493 hi_212_37 rfl (Nat.le_of_ble_eq_true rfl) ms_4 ?_
              intro S499 hS500
              replace hS500 : MS S0 S499 (upd (upd (upd (upd (upd f 4 z498) 10 z287) 62 o272) 68 z489) 75 m274) g'491 := hS500
              have hR501 : RJ (upd (upd (upd (upd (upd f 4 z498) 10 z287) 62 o272) 68 z489) 75 m274) g'491 (((28 : Int), (0 : Int), (0 : Int), (0 : Int), []) :: gs) bc [] 0 (s273.toNatClampNeg :: []) := RJ.at hR497_ (by show (f 4).toInt ≤ z498.toInt; omega)
              refine am_e2 (v := 39) hi_212_40 rfl ?_
              refine am_e0 hi_212_41 ?_
              refine am_e1 (v := 0) hi_212_42 rfl ?_
              refine am_e10 (z := 1) hi_212_43 (by decide) ?_
              refine am_e0 hi_212_44 ?_
              refine am_e1 (v := f 4) hi_212_45 rfl ?_
              refine am_e32w (as := [.ref 39, .int 1, .int 0, .int (f 4)]) (la := [some (.ref 39), some (.int 1), some (.int 0), some (.int (f 4)), none]) (rest := []) hi_212_46 (am_hd0 (M := 212) (by decide) 46) (Nat.le_of_ble_eq_true rfl) (Nat.le_of_ble_eq_true rfl) (show 4 ≤ am_P0.2.2.1 213 from by decide +kernel) rfl (am_recv_ok hS500.fs) rfl rfl ?_
              refine am_e2 (v := 39) hi_213_0 rfl ?_
              refine am_e0 hi_213_1 ?_
              refine am_e1 (v := 1) hi_213_3 rfl ?_
              refine am_e1 (v := 0) hi_213_4 rfl ?_
              refine am_e0 hi_213_5 ?_
              refine am_e10 (z := 2) hi_213_6 (by decide) ?_
              refine am_e1 (v := f 4) hi_213_7 rfl ?_
              refine am_e32n (as := [.ref 39, .int 13, .int 1, .int 2, .int (f 4)]) (la := [some (.ref 39), some (.int 13), some (.int 1), some (.int 2), some (.int (f 4))]) (rest := []) hi_213_8 (am_hd0 (M := 213) (by decide) 8) (Nat.le_of_ble_eq_true rfl) (Nat.le_of_ble_eq_true rfl) (show 5 ≤ am_P0.2.2.1 189 from by decide +kernel) rfl (am_recv_ok hS500.fs) rfl rfl (ct_put (d := (d + 3)) hS500 hR501  (by show (0 : Int) ≤ (f 32).toInt; omega) (by show (f 32).toInt ≤ (63 : Int); omega) (by show (f 53).toInt ≤ (4096 : Int); omega) (by show (0 : Int) ≤ z489.toInt; omega) (by show z489.toInt ≤ (65534 : Int); omega)) ?_
              rintro v502 S503 (⟨z504, r505, g'506, hv507, hS508, hR512, h509, h510, h511⟩)
              subst hv507
              have h509_ : z504.toInt = z489.toInt + 1 := h509
              have h510_ : r505.toInt = z489.toInt := h510
              have h511_ : ∀ j, j ∉ [60, 69, 70, 71, 72, 73] → g'506 j = g'491 j := h511
              replace hS508 : MS S0 S503 (upd (upd (upd (upd (upd f 4 z498) 10 z287) 62 o272) 68 z504) 75 m274) g'506 := hS508
              have hR512_ : RJ (upd (upd (upd (upd (upd f 4 z498) 10 z287) 62 o272) 68 z504) 75 m274) g'506 (((28 : Int), (0 : Int), (0 : Int), (0 : Int), []) :: gs) bc [] 0 (z489.toNatClampNeg :: (s273.toNatClampNeg :: [])) := hR512
              show am_E _ _ _ _ [some (.ref 39), some (.int 1), some (.int 0), some (.int (f 4)), none] [.int r505] _ _
              refine am_e3 (ls' := [some (.ref 39), some (.int 1), some (.int 0), some (.int (f 4)), some (.int r505)]) hi_213_11 (Nat.le_of_ble_eq_true rfl) rfl ?_
              refine am_e2 (v := 39) hi_213_13 rfl ?_
              refine am_e7 hi_213_14 ?_
              refine mm_20 (v := .int (f 15)) hS508 hi_213_15 rfl ?_
              refine am_e0 hi_213_18 ?_
              obtain ⟨z513, hz513, tz513⟩ := am_subI (x := f 15) (y := 1) (m := (f 15).toInt) (n := (1 : Int)) rfl (by decide) (by omega) (by omega)
              refine am_e10 (z := z513) hi_213_19 hz513 ?_
              refine mm_21 (v := z513) hS508 hi_213_20 rfl (Nat.le_of_ble_eq_true rfl) ms_15 ?_
              intro S514 hS515
              replace hS515 : MS S0 S514 (upd (upd (upd (upd (upd (upd f 4 z498) 10 z287) 15 z513) 62 o272) 68 z504) 75 m274) g'506 := hS515
              have hp516 : mj_n (g'275 16) (f 15).toNatClampNeg 3 = mj_n (g'275 16) z513.toNatClampNeg 3 + if (g'275 16 z513.toNatClampNeg).toInt = 3 then 1 else 0 := mj_pop (by rw [cl_toNat, cl_toNat]; omega)
              have hp5161 : mj_n (g'275 16) z513.toNatClampNeg 3 ≤ mj_n (g'275 16) (f 15).toNatClampNeg 3 := by rw [hp516]; split <;> omega
              have hp5162 : (g'275 16 z513.toNatClampNeg).toInt = 3 → mj_n (g'275 16) z513.toNatClampNeg 3 + 1 ≤ mj_n (g'275 16) (f 15).toNatClampNeg 3 := fun q => by rw [hp516, if_pos q]; exact Int.le_refl _
              refine am_e2 (v := 39) hi_213_23 rfl ?_
              refine am_e0 hi_213_24 ?_
              refine am_e1 (v := r505) hi_213_25 rfl ?_
              refine am_e1 (v := f 4) hi_213_27 rfl ?_
              refine am_e32n (as := [.ref 39, .int 1, .int r505, .int (f 4)]) (la := [some (.ref 39), some (.int 1), some (.int r505), some (.int (f 4))]) (rest := []) hi_213_28 (am_hd0 (M := 213) (by decide) 28) (Nat.le_of_ble_eq_true rfl) (Nat.le_of_ble_eq_true rfl) (show 4 ≤ am_P0.2.2.1 190 from by decide +kernel) rfl (am_recv_ok hS515.fs) rfl rfl (ct_value (d := (d + 3)) hS515 hR512_ (fun h => absurd h (by decide)) (fun _ => ⟨by omega, by omega⟩) (by show (0 : Int) ≤ z513.toInt; omega) (by show z513.toInt ≤ (32767 : Int); omega)) ?_
              rintro v517 S518 (⟨z519, g'520, hv521, hS522, hR527, h523, h524, h525, h526⟩)
              subst hv521
              have h523_ : z519.toInt = z513.toInt + 1 := h523
              have h524_ : ∀ j, j ∉ [16, 17, 18] → g'520 j = g'506 j := h524
              have h525_ : mj_n (g'520 16) z519.toNatClampNeg 3 ≤ mj_n (g'275 16) z513.toNatClampNeg 3 + 1 := by rw [show g'506 16 = g'491 16 from h511_ 16 (by decide), show g'491 16 = g'288 16 from h496_ 16 (by decide), show g'288 16 = g'275 16 from h292_ 16 (by decide)] at h525; exact h525
              have h526_ : (1 : Int) = 3 ∨ mj_n (g'520 16) z519.toNatClampNeg 3 ≤ mj_n (g'275 16) z513.toNatClampNeg 3 := by rw [show g'506 16 = g'491 16 from h511_ 16 (by decide), show g'491 16 = g'288 16 from h496_ 16 (by decide), show g'288 16 = g'275 16 from h292_ 16 (by decide)] at h526; exact h526
              replace hS522 : MS S0 S518 (upd (upd (upd (upd (upd (upd f 4 z498) 10 z287) 15 z519) 62 o272) 68 z504) 75 m274) g'520 := hS522
              have hR527_ : RJ (upd (upd (upd (upd (upd (upd f 4 z498) 10 z287) 15 z519) 62 o272) 68 z504) 75 m274) g'520 (((28 : Int), (0 : Int), (0 : Int), (0 : Int), []) :: gs) bc [] 0 (z489.toNatClampNeg :: (s273.toNatClampNeg :: [])) := hR527
              show am_E _ _ _ _ [some (.ref 39), some (.int 1), some (.int 0), some (.int (f 4)), some (.int r505)] [] _ _
              refine am_e35 hi_213_31 ?_
              show am_E _ _ _ _ [some (.ref 39), some (.int 0), some (.int (f 4))] [] _ _
              refine am_e18 hi_212_49 ?_
              refine am_e35 hi_212_125 ?_
              show am_E _ _ _ _ [some (.ref 39), some (.int r2), some (.int (f 4)), none] [] _ _
              refine am_e35 hi_211_249 ?_
              show am_E _ _ _ _ [some (.ref 39), some (.int 28), some (.int on), some (.int tw)] [] _ _
              refine am_e18 hi_181_180 ?_
              refine am_e35 hi_181_397 ?_
              show am_E _ _ _ _ [some (.ref 39), some (.int 28), some (.int on), some (.int tw), some (.int th)] [] _ _
              refine am_e35 hi_180_13 ?_
              have q1 : mg_p1 (((28 : Int), (0 : Int), (0 : Int), (0 : Int), []) :: gs) = 0 + (mg_p1 gs) := rfl
              have q2 : mg_p2 (((28 : Int), (0 : Int), (0 : Int), (0 : Int), []) :: gs) = 0 + (mg_p2 gs) := rfl
              have q3 : mg_p3 (((28 : Int), (0 : Int), (0 : Int), (0 : Int), []) :: gs) = 1 + (mg_p3 gs) := rfl
              have q4 : mg_p4 (((28 : Int), (0 : Int), (0 : Int), (0 : Int), []) :: gs) = 0 + (mg_p4 gs) := rfl
              refine ⟨_, _, _, bc, rfl, hS522, Or.inl ⟨⟨(RJ.fewer (pj' := []) hR527_ (fun _ h => nomatch h)), ?_, ?_⟩, rfl, ?_⟩⟩
              · exact (⟨⟨(show (0 : Int) ≤ 28 from by decide), (show (1 : Int) ≤ z519.toInt from by omega), (show 0 ≤ (f 20).toInt from by omega), (show 1 ≤ (f 37).toInt from by omega), (show 0 ≤ (f 32).toInt from by omega), (show (f 32).toInt ≤ (f 5).toInt from by omega), (show (f 5).toInt ≤ 48 from by omega), (show (f 37).toInt ≤ 2 * ((f 5).toInt) + 2 from by omega), trivial⟩, mg_cast (mg_good_ext _ _ _ _ _ _ (fun i _ => by show g'520 34 i = g 34 i; rw [show g'520 34 = g'506 34 from h524_ 34 (by decide), show g'506 34 = g'491 34 from h511_ 34 (by decide), show g'491 34 = g'288 34 from h496_ 34 (by decide), show g'288 34 = g'275 34 from h292_ 34 (by decide), show g'275 34 = g 34 from h283_ 34 (by decide)]) (fun i _ => by show g'520 38 i = g 38 i; rw [show g'520 38 = g'506 38 from h524_ 38 (by decide), show g'506 38 = g'491 38 from h511_ 38 (by decide), show g'491 38 = g'288 38 from h496_ 38 (by decide), show g'288 38 = g'275 38 from h292_ 38 (by decide), show g'275 38 = g 38 from h283_ 38 (by decide)]) hrest) (by show (f 15).toInt + 0 = z519.toInt + 0; omega) (by show (f 20).toInt = (f 20).toInt; omega) (by show (f 37).toInt + 0 = (f 37).toInt + 0; omega) (by show (f 32).toInt + 0 = (f 32).toInt + 0; omega) (by show (f 5).toInt + 0 = (f 5).toInt + 0; omega)⟩ : mg_good (g'520 34) (g'520 38) (((28 : Int), (0 : Int), (0 : Int), (0 : Int), []) :: gs) (z519.toInt) ((f 20).toInt) ((f 37).toInt) ((f 32).toInt) ((f 5).toInt))
              · exact ⟨(by show 0 ≤ z498.toInt; omega), (by show z498.toInt ≤ (f 0).toInt; omega), (by show (f 0).toInt ≤ 512; omega), (by show 0 ≤ (f 24).toInt; omega), (by show (f 24).toInt + (f 20).toInt + mg_p1 (((28 : Int), (0 : Int), (0 : Int), (0 : Int), []) :: gs) ≤ 4 * z498.toInt; omega), (by show (f 20).toInt ≤ z498.toInt; omega), (by show z519.toInt + mg_p2 (((28 : Int), (0 : Int), (0 : Int), (0 : Int), []) :: gs) ≤ z498.toInt; omega), (by show mg_p3 (((28 : Int), (0 : Int), (0 : Int), (0 : Int), []) :: gs) ≤ 20 * z498.toInt + 20; omega), (by show 0 ≤ z504.toInt; omega), (by show z504.toInt + 3 * (f 20).toInt + mg_p4 (((28 : Int), (0 : Int), (0 : Int), (0 : Int), []) :: gs) ≤ 60 * z498.toInt + 60; omega), (by show 0 ≤ o272.toInt; omega), (by show o272.toInt + 64 * mj_n (g'520 16) z519.toNatClampNeg 3 ≤ 64 * z498.toInt; omega), (by show 0 ≤ (f 44).toInt; omega), (by show (f 44).toInt ≤ z498.toInt; omega), (by show 0 ≤ (f 48).toInt; omega), (by show (f 48).toInt ≤ z498.toInt; omega), (by show 1 ≤ (f 53).toInt; omega), (by show (f 53).toInt ≤ z498.toInt + 1; omega)⟩
              · show 100 * ((f 0).toInt - z498.toInt) + mg_p3 (((28 : Int), (0 : Int), (0 : Int), (0 : Int), []) :: gs) < 100 * ((f 0).toInt - (f 4).toInt) + (1 + mg_p3 gs); omega
          · refine am_e13f hi_211_222 (am_cF (m := r2.toInt) (n := (3 : Int)) rfl (by decide) c269) ?_
            refine am_e1 (v := r2) hi_211_225 rfl ?_
            refine am_e0 hi_211_226 ?_
            by_cases c528 : ¬ r2.toInt = (62 : Int)
            · refine am_e13t hi_211_228 (am_cT (m := r2.toInt) (n := (62 : Int)) rfl (by decide) c528) ?_
              refine am_e35 hi_211_249 ?_
              show am_E _ _ _ _ [some (.ref 39), some (.int 28), some (.int on), some (.int tw)] [] _ _
              refine am_e18 hi_181_180 ?_
              refine am_e35 hi_181_397 ?_
              show am_E _ _ _ _ [some (.ref 39), some (.int 28), some (.int on), some (.int tw), some (.int th)] [] _ _
              refine am_e35 hi_180_13 ?_
              have q1 : mg_p1 gs = mg_p1 gs := rfl
              have q2 : mg_p2 gs = mg_p2 gs := rfl
              have q3 : mg_p3 gs = mg_p3 gs := rfl
              have q4 : mg_p4 gs = mg_p4 gs := rfl
              refine ⟨_, _, _, bc, rfl, hS4, Or.inl ⟨⟨hR, ?_, ?_⟩, rfl, ?_⟩⟩
              · exact (mg_cast (mg_good_ext _ _ _ _ _ _ (fun _ _ => rfl) (fun _ _ => rfl) hrest) (by show (f 15).toInt + 0 = (f 15).toInt; omega) (by show (f 20).toInt = (f 20).toInt; omega) (by show (f 37).toInt + 0 = (f 37).toInt; omega) (by show (f 32).toInt + 0 = (f 32).toInt; omega) (by show (f 5).toInt + 0 = (f 5).toInt; omega) : mg_good (g 34) (g 38) gs ((f 15).toInt) ((f 20).toInt) ((f 37).toInt) ((f 32).toInt) ((f 5).toInt))
              · exact ⟨(by show 0 ≤ (f 4).toInt; omega), (by show (f 4).toInt ≤ (f 0).toInt; omega), (by show (f 0).toInt ≤ 512; omega), (by show 0 ≤ (f 24).toInt; omega), (by show (f 24).toInt + (f 20).toInt + mg_p1 gs ≤ 4 * (f 4).toInt; omega), (by show (f 20).toInt ≤ (f 4).toInt; omega), (by show (f 15).toInt + mg_p2 gs ≤ (f 4).toInt; omega), (by show mg_p3 gs ≤ 20 * (f 4).toInt + 20; omega), (by show 0 ≤ (f 68).toInt; omega), (by show (f 68).toInt + 3 * (f 20).toInt + mg_p4 gs ≤ 60 * (f 4).toInt + 60; omega), (by show 0 ≤ (f 62).toInt; omega), (by show (f 62).toInt + 64 * mj_n (g 16) (f 15).toNatClampNeg 3 ≤ 64 * (f 4).toInt; omega), (by show 0 ≤ (f 44).toInt; omega), (by show (f 44).toInt ≤ (f 4).toInt; omega), (by show 0 ≤ (f 48).toInt; omega), (by show (f 48).toInt ≤ (f 4).toInt; omega), (by show 1 ≤ (f 53).toInt; omega), (by show (f 53).toInt ≤ (f 4).toInt + 1; omega)⟩
              · show 100 * ((f 0).toInt - (f 4).toInt) + mg_p3 gs < 100 * ((f 0).toInt - (f 4).toInt) + (1 + mg_p3 gs); omega
            · refine am_e13f hi_211_228 (am_cF (m := r2.toInt) (n := (62 : Int)) rfl (by decide) c528) ?_
              refine am_e2 (v := 39) hi_211_231 rfl ?_
              refine am_e32n (as := [.ref 39]) (la := [some (.ref 39), none, none, none]) (rest := []) hi_211_232 (am_hd0 (M := 211) (by decide) 232) (Nat.le_of_ble_eq_true rfl) (Nat.le_of_ble_eq_true rfl) (show 1 ≤ am_P0.2.2.1 204 from by decide +kernel) rfl (am_recv_ok hS4.fs) rfl rfl (ct_load (d := (d + 3)) hS4 hR  (by show (0 : Int) ≤ (f 32).toInt; omega) (by show (f 32).toInt ≤ (63 : Int); omega) (by show (f 53).toInt ≤ (4096 : Int); omega) (by show (0 : Int) ≤ (f 68).toInt; omega) (by show (f 68).toInt ≤ (65534 : Int); omega) (by show (1 : Int) ≤ (f 15).toInt; omega) (by show (f 15).toInt ≤ (32767 : Int); omega) (by show (0 : Int) ≤ (f 24).toInt; omega) (by show (f 24).toInt ≤ (16384 : Int); omega) (by show (0 : Int) ≤ (f 62).toInt; omega) (by show (f 62).toInt ≤ (65000 : Int); omega)) ?_
              rintro v529 S530 (⟨o531, s532, m533, g'534, hv535, hS536, hR543, h537, h538, h539, h540, h541, h542⟩)
              subst hv535
              have h537_ : (f 62).toInt ≤ o531.toInt := h537
              have h538_ : o531.toInt ≤ (f 62).toInt + 64 := h538
              have h539_ : (f 68).toInt ≤ s532.toInt := h539
              have h540_ : s532.toInt ≤ (f 68).toInt + 1 := h540
              have h541_ : o531.toInt + 64 * mj_n (g'534 16) (f 15).toNatClampNeg 3 ≤ (f 62).toInt + 64 * mj_n (g 16) (f 15).toNatClampNeg 3 := h541
              have h542_ : ∀ j, j ∉ [16, 60, 63, 64, 65, 66, 67, 69, 70, 71, 72, 73] → g'534 j = g j := h542
              have hR543_ : RJ (upd (upd (upd f 62 o531) 68 s532) 75 m533) g'534 gs bc [] 0 [] := hR543
              show am_E _ _ _ _ [some (.ref 39), some (.int r2), some (.int (f 4)), none] [] _ _
              refine am_e2 (v := 39) hi_211_235 rfl ?_
              refine am_e0 hi_211_236 ?_
              refine am_e0 hi_211_238 ?_
              refine am_e0 hi_211_239 ?_
              refine am_e0 hi_211_240 ?_
              refine am_e32n (as := [.ref 39, .int 28, .int 0, .int 0, .int 0]) (la := [some (.ref 39), some (.int 28), some (.int 0), some (.int 0), some (.int 0)]) (rest := []) hi_211_241 (am_hd0 (M := 211) (by decide) 241) (Nat.le_of_ble_eq_true rfl) (Nat.le_of_ble_eq_true rfl) (show 5 ≤ am_P0.2.2.1 179 from by decide +kernel) rfl (am_recv_ok hS536.fs) rfl rfl (ct_pile (d := (d + 5)) hS536 hR543_ (mj_e_plain (by decide)) (by show (0 : Int) ≤ (f 10).toInt; omega) (by show (f 10).toInt ≤ (65535 : Int); omega)) ?_
              rintro v544 S545 (⟨z546, g'547, hv548, hS549, hR552, h550, h551⟩)
              subst hv548
              have h550_ : z546.toInt = (f 10).toInt + 1 := h550
              have h551_ : ∀ j, j ∉ [11, 12, 13, 14] → g'547 j = g'534 j := h551
              replace hS549 : MS S0 S545 (upd (upd (upd (upd f 10 z546) 62 o531) 68 s532) 75 m533) g'547 := hS549
              have hR552_ : RJ (upd (upd (upd (upd f 10 z546) 62 o531) 68 s532) 75 m533) g'547 (((28 : Int), (0 : Int), (0 : Int), (0 : Int), []) :: gs) bc [] 0 [] := hR552
              show am_E _ _ _ _ [some (.ref 39), some (.int r2), some (.int (f 4)), none] [] _ _
              refine am_e2 (v := 39) hi_211_244 rfl ?_
              refine am_e0 hi_211_245 ?_
              refine am_e32w (as := [.ref 39, .int 0]) (la := [some (.ref 39), some (.int 0), none]) (rest := []) hi_211_246 (am_hd0 (M := 211) (by decide) 246) (Nat.le_of_ble_eq_true rfl) (Nat.le_of_ble_eq_true rfl) (show 2 ≤ am_P0.2.2.1 212 from by decide +kernel) rfl (am_recv_ok hS549.fs) rfl rfl ?_
              refine am_e2 (v := 39) hi_212_0 rfl ?_
              refine mm_20 (v := .int (f 4)) hS549 hi_212_1 rfl ?_
              refine am_e3 (ls' := [some (.ref 39), some (.int 0), some (.int (f 4))]) hi_212_4 (Nat.le_of_ble_eq_true rfl) rfl ?_
              refine am_e2 (v := 39) hi_212_5 rfl ?_
              refine am_e32n (as := [.ref 39]) (la := [some (.ref 39)]) (rest := []) hi_212_6 (am_hd0 (M := 212) (by decide) 6) (Nat.le_of_ble_eq_true rfl) (Nat.le_of_ble_eq_true rfl) (show 1 ≤ am_P0.2.2.1 183 from by decide +kernel) rfl (am_recv_ok hS549.fs) rfl rfl (ct_next (d := (d + 3)) hS549   (by show (0 : Int) ≤ (f 4).toInt; omega) (by show (f 0).toInt ≤ (16384 : Int); omega)) ?_
              rintro v553 S554 (⟨r555, hv556, hS557, h558⟩)
              subst hv556
              have h558_ : (f 4).toInt < (f 0).toInt ∨ r555.toInt = (-1 : Int) := h558
              show am_E _ _ _ _ [some (.ref 39), some (.int 0), some (.int (f 4))] [.int r555] _ _
              refine am_e0 hi_212_9 ?_
              by_cases c560 : ¬ r555.toInt = (3 : Int)
              · refine am_e13t hi_212_10 (am_cT (m := r555.toInt) (n := (3 : Int)) rfl (by decide) c560) ?_
                refine am_e2 (v := 39) hi_212_52 rfl ?_
                refine am_e32n (as := [.ref 39]) (la := [some (.ref 39)]) (rest := []) hi_212_53 (am_hd0 (M := 212) (by decide) 53) (Nat.le_of_ble_eq_true rfl) (Nat.le_of_ble_eq_true rfl) (show 1 ≤ am_P0.2.2.1 183 from by decide +kernel) rfl (am_recv_ok hS557.fs) rfl rfl (ct_next (d := (d + 3)) hS557   (by show (0 : Int) ≤ (f 4).toInt; omega) (by show (f 0).toInt ≤ (16384 : Int); omega)) ?_
                rintro v561 S562 (⟨r563, hv564, hS565, h566⟩)
                subst hv564
                have h566_ : (f 4).toInt < (f 0).toInt ∨ r563.toInt = (-1 : Int) := h566
                show am_E _ _ _ _ [some (.ref 39), some (.int 0), some (.int (f 4))] [.int r563] _ _
                refine am_e0 hi_212_56 ?_
                by_cases c568 : ¬ r563.toInt = (62 : Int)
                · refine am_e13t hi_212_58 (am_cT (m := r563.toInt) (n := (62 : Int)) rfl (by decide) c568) ?_
                  refine am_e2 (v := 39) hi_212_77 rfl ?_
                  refine am_e0 hi_212_78 ?_
                  refine am_e32n (as := [.ref 39, .int 60]) (la := [some (.ref 39), some (.int 60)]) (rest := []) hi_212_80 (am_hd0 (M := 212) (by decide) 80) (Nat.le_of_ble_eq_true rfl) (Nat.le_of_ble_eq_true rfl) (show 2 ≤ am_P0.2.2.1 193 from by decide +kernel) rfl (am_recv_ok hS565.fs) rfl rfl (ct_enter (d := (d + 2)) hS565   (by show (0 : Int) ≤ (f 4).toInt; omega) (by show (f 0).toInt ≤ (16384 : Int); omega) (by show (0 : Int) ≤ (60 : Int); omega) (by show (0 : Int) ≤ (f 5).toInt; omega) (by show (f 5).toInt ≤ (48 : Int); omega)) ?_
                  rintro v569 S570 (⟨z571, y572, hv573, hS574, h575, h576, h577, h578⟩ | ⟨a580, b581, hv582, hS583⟩)
                  · subst hv573
                    have h575_ : z571.toInt = (f 4).toInt + 1 := h575
                    have h576_ : (f 4).toInt < (f 0).toInt := h576
                    have h577_ : y572.toInt = (f 5).toInt + 1 := h577
                    have h578_ : y572.toInt ≤ (48 : Int) := h578
                    replace hS574 : MS S0 S570 (upd (upd (upd (upd (upd (upd f 4 z571) 5 y572) 10 z546) 62 o531) 68 s532) 75 m533) g'547 := hS574
                    have hR585 : RJ (upd (upd (upd (upd (upd (upd f 4 z571) 5 y572) 10 z546) 62 o531) 68 s532) 75 m533) g'547 (((28 : Int), (0 : Int), (0 : Int), (0 : Int), []) :: gs) bc [] 0 [] := RJ.at hR552_ (by show (f 4).toInt ≤ z571.toInt; omega)
                    show am_E _ _ _ _ [some (.ref 39), some (.int 0), some (.int (f 4))] [.int 1] _ _
                    refine am_e12f hi_212_83 (by decide) ?_
                    refine am_e2 (v := 39) hi_212_86 rfl ?_
                    refine am_e32n (as := [.ref 39]) (la := [some (.ref 39)]) (rest := []) hi_212_87 (am_hd0 (M := 212) (by decide) 87) (Nat.le_of_ble_eq_true rfl) (Nat.le_of_ble_eq_true rfl) (show 1 ≤ am_P0.2.2.1 183 from by decide +kernel) rfl (am_recv_ok hS574.fs) rfl rfl (ct_next (d := (d + 3)) hS574   (by show (0 : Int) ≤ z571.toInt; omega) (by show (f 0).toInt ≤ (16384 : Int); omega)) ?_
                    rintro v586 S587 (⟨r588, hv589, hS590, h591⟩)
                    subst hv589
                    have h591_ : z571.toInt < (f 0).toInt ∨ r588.toInt = (-1 : Int) := h591
                    show am_E _ _ _ _ [some (.ref 39), some (.int 0), some (.int (f 4))] [.int r588] _ _
                    refine am_e0 hi_212_90 ?_
                    by_cases c593 : ¬ r588.toInt = (61 : Int)
                    · refine am_e13t hi_212_92 (am_cT (m := r588.toInt) (n := (61 : Int)) rfl (by decide) c593) ?_
                      refine am_e2 (v := 39) hi_212_112 rfl ?_
                      refine am_e0 hi_212_113 ?_
                      refine am_e1 (v := 0) hi_212_115 rfl ?_
                      refine am_e1 (v := f 4) hi_212_116 rfl ?_
                      refine am_e0 hi_212_117 ?_
                      refine am_e32n (as := [.ref 39, .int 32, .int 0, .int (f 4), .int 0]) (la := [some (.ref 39), some (.int 32), some (.int 0), some (.int (f 4)), some (.int 0)]) (rest := []) hi_212_118 (am_hd0 (M := 212) (by decide) 118) (Nat.le_of_ble_eq_true rfl) (Nat.le_of_ble_eq_true rfl) (show 5 ≤ am_P0.2.2.1 179 from by decide +kernel) rfl (am_recv_ok hS590.fs) rfl rfl (ct_pile (d := (d + 4)) hS590 hR585 (mj_e_plain (by decide)) (by show (0 : Int) ≤ z546.toInt; omega) (by show z546.toInt ≤ (65535 : Int); omega)) ?_
                      rintro v594 S595 (⟨z596, g'597, hv598, hS599, hR602, h600, h601⟩)
                      subst hv598
                      have h600_ : z596.toInt = z546.toInt + 1 := h600
                      have h601_ : ∀ j, j ∉ [11, 12, 13, 14] → g'597 j = g'547 j := h601
                      replace hS599 : MS S0 S595 (upd (upd (upd (upd (upd (upd f 4 z571) 5 y572) 10 z596) 62 o531) 68 s532) 75 m533) g'597 := hS599
                      have hR602_ : RJ (upd (upd (upd (upd (upd (upd f 4 z571) 5 y572) 10 z596) 62 o531) 68 s532) 75 m533) g'597 (((32 : Int), (0 : Int), (f 4).toInt, (0 : Int), []) :: (((28 : Int), (0 : Int), (0 : Int), (0 : Int), []) :: gs)) bc [] 0 [] := hR602
                      show am_E _ _ _ _ [some (.ref 39), some (.int 0), some (.int (f 4))] [] _ _
                      refine am_e2 (v := 39) hi_212_121 rfl ?_
                      refine am_e32w (as := [.ref 39]) (la := [some (.ref 39)]) (rest := []) hi_212_122 (am_hd0 (M := 212) (by decide) 122) (Nat.le_of_ble_eq_true rfl) (Nat.le_of_ble_eq_true rfl) (show 1 ≤ am_P0.2.2.1 214 from by decide +kernel) rfl (am_recv_ok hS599.fs) rfl rfl ?_
                      refine am_e2 (v := 39) hi_214_0 rfl ?_
                      refine am_e0 hi_214_1 ?_
                      refine am_e0 hi_214_3 ?_
                      refine am_e0 hi_214_4 ?_
                      refine am_e0 hi_214_5 ?_
                      refine am_e32n (as := [.ref 39, .int 34, .int 1, .int 0, .int 0]) (la := [some (.ref 39), some (.int 34), some (.int 1), some (.int 0), some (.int 0)]) (rest := []) hi_214_6 (am_hd0 (M := 214) (by decide) 6) (Nat.le_of_ble_eq_true rfl) (Nat.le_of_ble_eq_true rfl) (show 5 ≤ am_P0.2.2.1 179 from by decide +kernel) rfl (am_recv_ok hS599.fs) rfl rfl (ct_pile (d := (d + 3)) hS599 hR602_ (mj_e_plain (by decide)) (by show (0 : Int) ≤ z596.toInt; omega) (by show z596.toInt ≤ (65535 : Int); omega)) ?_
                      rintro v603 S604 (⟨z605, g'606, hv607, hS608, hR611, h609, h610⟩)
                      subst hv607
                      have h609_ : z605.toInt = z596.toInt + 1 := h609
                      have h610_ : ∀ j, j ∉ [11, 12, 13, 14] → g'606 j = g'597 j := h610
                      replace hS608 : MS S0 S604 (upd (upd (upd (upd (upd (upd f 4 z571) 5 y572) 10 z605) 62 o531) 68 s532) 75 m533) g'606 := hS608
                      have hR611_ : RJ (upd (upd (upd (upd (upd (upd f 4 z571) 5 y572) 10 z605) 62 o531) 68 s532) 75 m533) g'606 (((34 : Int), (1 : Int), (0 : Int), (0 : Int), []) :: (((32 : Int), (0 : Int), (f 4).toInt, (0 : Int), []) :: (((28 : Int), (0 : Int), (0 : Int), (0 : Int), []) :: gs))) bc [] 0 [] := hR611
                      show am_E _ _ _ _ [some (.ref 39)] [] _ _
                      refine am_e2 (v := 39) hi_214_9 rfl ?_
                      refine am_e0 hi_214_10 ?_
                      refine am_e32w (as := [.ref 39, .int 0]) (la := [some (.ref 39), some (.int 0)]) (rest := []) hi_214_11 (am_hd0 (M := 214) (by decide) 11) (Nat.le_of_ble_eq_true rfl) (Nat.le_of_ble_eq_true rfl) (show 2 ≤ am_P0.2.2.1 186 from by decide +kernel) rfl (am_recv_ok hS608.fs) rfl rfl ?_
                      refine am_e2 (v := 39) hi_186_0 rfl ?_
                      refine am_e0 hi_186_1 ?_
                      refine am_e1 (v := 0) hi_186_3 rfl ?_
                      refine am_e0 hi_186_4 ?_
                      refine am_e0 hi_186_5 ?_
                      refine am_e32n (as := [.ref 39, .int 23, .int 0, .int 0, .int 0]) (la := [some (.ref 39), some (.int 23), some (.int 0), some (.int 0), some (.int 0)]) (rest := []) hi_186_6 (am_hd0 (M := 186) (by decide) 6) (Nat.le_of_ble_eq_true rfl) (Nat.le_of_ble_eq_true rfl) (show 5 ≤ am_P0.2.2.1 179 from by decide +kernel) rfl (am_recv_ok hS608.fs) rfl rfl (ct_pile (d := (d + 2)) hS608 hR611_ (mj_e_plain (by decide)) (by show (0 : Int) ≤ z605.toInt; omega) (by show z605.toInt ≤ (65535 : Int); omega)) ?_
                      rintro v612 S613 (⟨z614, g'615, hv616, hS617, hR620, h618, h619⟩)
                      subst hv616
                      have h618_ : z614.toInt = z605.toInt + 1 := h618
                      have h619_ : ∀ j, j ∉ [11, 12, 13, 14] → g'615 j = g'606 j := h619
                      replace hS617 : MS S0 S613 (upd (upd (upd (upd (upd (upd f 4 z571) 5 y572) 10 z614) 62 o531) 68 s532) 75 m533) g'615 := hS617
                      have hR620_ : RJ (upd (upd (upd (upd (upd (upd f 4 z571) 5 y572) 10 z614) 62 o531) 68 s532) 75 m533) g'615 (((23 : Int), (0 : Int), (0 : Int), (0 : Int), []) :: (((34 : Int), (1 : Int), (0 : Int), (0 : Int), []) :: (((32 : Int), (0 : Int), (f 4).toInt, (0 : Int), []) :: (((28 : Int), (0 : Int), (0 : Int), (0 : Int), []) :: gs)))) bc [] 0 [] := hR620
                      show am_E _ _ _ _ [some (.ref 39), some (.int 0)] [] _ _
                      refine am_e35 hi_186_9 ?_
                      show am_E _ _ _ _ [some (.ref 39)] [] _ _
                      refine am_e35 hi_214_14 ?_
                      show am_E _ _ _ _ [some (.ref 39), some (.int 0), some (.int (f 4))] [] _ _
                      refine am_e35 hi_212_125 ?_
                      show am_E _ _ _ _ [some (.ref 39), some (.int r2), some (.int (f 4)), none] [] _ _
                      refine am_e35 hi_211_249 ?_
                      show am_E _ _ _ _ [some (.ref 39), some (.int 28), some (.int on), some (.int tw)] [] _ _
                      refine am_e18 hi_181_180 ?_
                      refine am_e35 hi_181_397 ?_
                      show am_E _ _ _ _ [some (.ref 39), some (.int 28), some (.int on), some (.int tw), some (.int th)] [] _ _
                      refine am_e35 hi_180_13 ?_
                      have q1 : mg_p1 (((23 : Int), (0 : Int), (0 : Int), (0 : Int), []) :: (((34 : Int), (1 : Int), (0 : Int), (0 : Int), []) :: (((32 : Int), (0 : Int), (f 4).toInt, (0 : Int), []) :: (((28 : Int), (0 : Int), (0 : Int), (0 : Int), []) :: gs)))) = 0 + (0 + (0 + (0 + (mg_p1 gs)))) := rfl
                      have q2 : mg_p2 (((23 : Int), (0 : Int), (0 : Int), (0 : Int), []) :: (((34 : Int), (1 : Int), (0 : Int), (0 : Int), []) :: (((32 : Int), (0 : Int), (f 4).toInt, (0 : Int), []) :: (((28 : Int), (0 : Int), (0 : Int), (0 : Int), []) :: gs)))) = 0 + (0 + (0 + (0 + (mg_p2 gs)))) := rfl
                      have q3 : mg_p3 (((23 : Int), (0 : Int), (0 : Int), (0 : Int), []) :: (((34 : Int), (1 : Int), (0 : Int), (0 : Int), []) :: (((32 : Int), (0 : Int), (f 4).toInt, (0 : Int), []) :: (((28 : Int), (0 : Int), (0 : Int), (0 : Int), []) :: gs)))) = 1 + (1 + (1 + (1 + (mg_p3 gs)))) := rfl
                      have q4 : mg_p4 (((23 : Int), (0 : Int), (0 : Int), (0 : Int), []) :: (((34 : Int), (1 : Int), (0 : Int), (0 : Int), []) :: (((32 : Int), (0 : Int), (f 4).toInt, (0 : Int), []) :: (((28 : Int), (0 : Int), (0 : Int), (0 : Int), []) :: gs)))) = 0 + (0 + (0 + (0 + (mg_p4 gs)))) := rfl
                      refine ⟨_, _, _, bc, rfl, hS617, Or.inl ⟨⟨hR620_, ?_, ?_⟩, rfl, ?_⟩⟩
                      · exact (⟨⟨(show (0 : Int) ≤ 23 from by decide), (show (0 : Int) ≤ (f 15).toInt from by omega), (show 0 ≤ (f 20).toInt from by omega), (show 1 ≤ (f 37).toInt from by omega), (show 0 ≤ (f 32).toInt from by omega), (show (f 32).toInt ≤ y572.toInt from by omega), (show y572.toInt ≤ 48 from by omega), (show (f 37).toInt ≤ 2 * (y572.toInt) + 2 from by omega), (show 0 ≤ (0 : Int) from by omega)⟩, ⟨⟨(show (0 : Int) ≤ 34 from by decide), (show (1 : Int) ≤ (f 15).toInt + 1 from by omega), (show 0 ≤ (f 20).toInt from by omega), (show 1 ≤ (f 37).toInt + 0 from by omega), (show 0 ≤ (f 32).toInt + 0 from by omega), (show (f 32).toInt + 0 ≤ y572.toInt + 0 from by omega), (show y572.toInt + 0 ≤ 48 from by omega), (show (f 37).toInt + 0 ≤ 2 * (y572.toInt + 0) + 2 from by omega), trivial⟩, ⟨⟨(show (0 : Int) ≤ 32 from by decide), (show (2 : Int) ≤ (f 15).toInt + 1 + 0 from by omega), (show 0 ≤ (f 20).toInt from by omega), (show 1 ≤ (f 37).toInt + 0 + 0 from by omega), (show 0 ≤ (f 32).toInt + 0 + 0 from by omega), (show (f 32).toInt + 0 + 0 ≤ y572.toInt + 0 + 0 from by omega), (show y572.toInt + 0 + 0 ≤ 48 from by omega), (show (f 37).toInt + 0 + 0 ≤ 2 * (y572.toInt + 0 + 0) + 2 from by omega), trivial⟩, ⟨⟨(show (0 : Int) ≤ 28 from by decide), (show (1 : Int) ≤ (f 15).toInt + 1 + 0 + -1 from by omega), (show 0 ≤ (f 20).toInt from by omega), (show 1 ≤ (f 37).toInt + 0 + 0 + 0 from by omega), (show 0 ≤ (f 32).toInt + 0 + 0 + 0 from by omega), (show (f 32).toInt + 0 + 0 + 0 ≤ y572.toInt + 0 + 0 + -1 from by omega), (show y572.toInt + 0 + 0 + -1 ≤ 48 from by omega), (show (f 37).toInt + 0 + 0 + 0 ≤ 2 * (y572.toInt + 0 + 0 + -1) + 2 from by omega), trivial⟩, mg_cast (mg_good_ext _ _ _ _ _ _ (fun i _ => by show g'615 34 i = g 34 i; rw [show g'615 34 = g'606 34 from h619_ 34 (by decide), show g'606 34 = g'597 34 from h610_ 34 (by decide), show g'597 34 = g'547 34 from h601_ 34 (by decide), show g'547 34 = g'534 34 from h551_ 34 (by decide), show g'534 34 = g 34 from h542_ 34 (by decide)]) (fun i _ => by show g'615 38 i = g 38 i; rw [show g'615 38 = g'606 38 from h619_ 38 (by decide), show g'606 38 = g'597 38 from h610_ 38 (by decide), show g'597 38 = g'547 38 from h601_ 38 (by decide), show g'547 38 = g'534 38 from h551_ 38 (by decide), show g'534 38 = g 38 from h542_ 38 (by decide)]) hrest) (by show (f 15).toInt + 0 = (f 15).toInt + 1 + 0 + -1 + 0; omega) (by show (f 20).toInt = (f 20).toInt; omega) (by show (f 37).toInt + 0 = (f 37).toInt + 0 + 0 + 0 + 0; omega) (by show (f 32).toInt + 0 = (f 32).toInt + 0 + 0 + 0 + 0; omega) (by show (f 5).toInt + 0 = y572.toInt + 0 + 0 + -1 + 0; omega)⟩⟩⟩⟩ : mg_good (g'615 34) (g'615 38) (((23 : Int), (0 : Int), (0 : Int), (0 : Int), []) :: (((34 : Int), (1 : Int), (0 : Int), (0 : Int), []) :: (((32 : Int), (0 : Int), (f 4).toInt, (0 : Int), []) :: (((28 : Int), (0 : Int), (0 : Int), (0 : Int), []) :: gs)))) ((f 15).toInt) ((f 20).toInt) ((f 37).toInt) ((f 32).toInt) (y572.toInt))
                      · exact ⟨(by show 0 ≤ z571.toInt; omega), (by show z571.toInt ≤ (f 0).toInt; omega), (by show (f 0).toInt ≤ 512; omega), (by show 0 ≤ (f 24).toInt; omega), (by show (f 24).toInt + (f 20).toInt + mg_p1 (((23 : Int), (0 : Int), (0 : Int), (0 : Int), []) :: (((34 : Int), (1 : Int), (0 : Int), (0 : Int), []) :: (((32 : Int), (0 : Int), (f 4).toInt, (0 : Int), []) :: (((28 : Int), (0 : Int), (0 : Int), (0 : Int), []) :: gs)))) ≤ 4 * z571.toInt; omega), (by show (f 20).toInt ≤ z571.toInt; omega), (by show (f 15).toInt + mg_p2 (((23 : Int), (0 : Int), (0 : Int), (0 : Int), []) :: (((34 : Int), (1 : Int), (0 : Int), (0 : Int), []) :: (((32 : Int), (0 : Int), (f 4).toInt, (0 : Int), []) :: (((28 : Int), (0 : Int), (0 : Int), (0 : Int), []) :: gs)))) ≤ z571.toInt; omega), (by show mg_p3 (((23 : Int), (0 : Int), (0 : Int), (0 : Int), []) :: (((34 : Int), (1 : Int), (0 : Int), (0 : Int), []) :: (((32 : Int), (0 : Int), (f 4).toInt, (0 : Int), []) :: (((28 : Int), (0 : Int), (0 : Int), (0 : Int), []) :: gs)))) ≤ 20 * z571.toInt + 20; omega), (by show 0 ≤ s532.toInt; omega), (by show s532.toInt + 3 * (f 20).toInt + mg_p4 (((23 : Int), (0 : Int), (0 : Int), (0 : Int), []) :: (((34 : Int), (1 : Int), (0 : Int), (0 : Int), []) :: (((32 : Int), (0 : Int), (f 4).toInt, (0 : Int), []) :: (((28 : Int), (0 : Int), (0 : Int), (0 : Int), []) :: gs)))) ≤ 60 * z571.toInt + 60; omega), (by show 0 ≤ o531.toInt; omega), (by show o531.toInt + 64 * mj_n (g'615 16) (f 15).toNatClampNeg 3 ≤ 64 * z571.toInt; rw [show g'615 16 = g'606 16 from h619_ 16 (by decide), show g'606 16 = g'597 16 from h610_ 16 (by decide), show g'597 16 = g'547 16 from h601_ 16 (by decide), show g'547 16 = g'534 16 from h551_ 16 (by decide)]; omega), (by show 0 ≤ (f 44).toInt; omega), (by show (f 44).toInt ≤ z571.toInt; omega), (by show 0 ≤ (f 48).toInt; omega), (by show (f 48).toInt ≤ z571.toInt; omega), (by show 1 ≤ (f 53).toInt; omega), (by show (f 53).toInt ≤ z571.toInt + 1; omega)⟩
                      · show 100 * ((f 0).toInt - z571.toInt) + mg_p3 (((23 : Int), (0 : Int), (0 : Int), (0 : Int), []) :: (((34 : Int), (1 : Int), (0 : Int), (0 : Int), []) :: (((32 : Int), (0 : Int), (f 4).toInt, (0 : Int), []) :: (((28 : Int), (0 : Int), (0 : Int), (0 : Int), []) :: gs)))) < 100 * ((f 0).toInt - (f 4).toInt) + (1 + mg_p3 gs); omega
                    · refine am_e13f hi_212_92 (am_cF (m := r588.toInt) (n := (61 : Int)) rfl (by decide) c593) ?_
                      refine am_e2 (v := 39) hi_212_95 rfl ?_
                      refine am_e0 hi_212_96 ?_
                      refine am_e32n (as := [.ref 39, .int 61]) (la := [some (.ref 39), some (.int 61)]) (rest := []) hi_212_98 (am_hd0 (M := 212) (by decide) 98) (Nat.le_of_ble_eq_true rfl) (Nat.le_of_ble_eq_true rfl) (show 2 ≤ am_P0.2.2.1 199 from by decide +kernel) rfl (am_recv_ok hS590.fs) rfl rfl (ct_leave (d := (d + 1)) hS590   (by show (0 : Int) ≤ z571.toInt; omega) (by show (f 0).toInt ≤ (16384 : Int); omega) (by show (0 : Int) ≤ (61 : Int); omega) (by show (0 : Int) ≤ y572.toInt; omega) (by show y572.toInt ≤ (48 : Int); omega)) ?_
                      rintro v621 S622 (⟨z623, y624, hv625, hS626, h627, h628, h629⟩ | ⟨a631, b632, hv633, hS634⟩)
                      · subst hv625
                        have h627_ : z623.toInt = z571.toInt + 1 := h627
                        have h628_ : z571.toInt < (f 0).toInt := h628
                        have h629_ : y624.toInt = y572.toInt - 1 := h629
                        replace hS626 : MS S0 S622 (upd (upd (upd (upd (upd (upd f 4 z623) 5 y624) 10 z546) 62 o531) 68 s532) 75 m533) g'547 := hS626
                        have hR636 : RJ (upd (upd (upd (upd (upd (upd f 4 z623) 5 y624) 10 z546) 62 o531) 68 s532) 75 m533) g'547 (((28 : Int), (0 : Int), (0 : Int), (0 : Int), []) :: gs) bc [] 0 [] := RJ.at hR585 (by show z571.toInt ≤ z623.toInt; omega)
                        show am_E _ _ _ _ [some (.ref 39), some (.int 0), some (.int (f 4))] [.int 1] _ _
                        refine am_e6i hi_212_101 ?_
                        refine am_e2 (v := 39) hi_212_102 rfl ?_
                        refine am_e1 (v := 0) hi_212_103 rfl ?_
                        refine am_e0 hi_212_104 ?_
                        refine am_e1 (v := f 4) hi_212_105 rfl ?_
                        refine am_e32w (as := [.ref 39, .int 0, .int 0, .int (f 4)]) (la := [some (.ref 39), some (.int 0), some (.int 0), some (.int (f 4)), none]) (rest := []) hi_212_106 (am_hd0 (M := 212) (by decide) 106) (Nat.le_of_ble_eq_true rfl) (Nat.le_of_ble_eq_true rfl) (show 4 ≤ am_P0.2.2.1 213 from by decide +kernel) rfl (am_recv_ok hS626.fs) rfl rfl ?_
                        refine am_e2 (v := 39) hi_213_0 rfl ?_
                        refine am_e0 hi_213_1 ?_
                        refine am_e1 (v := 0) hi_213_3 rfl ?_
                        refine am_e1 (v := 0) hi_213_4 rfl ?_
                        refine am_e0 hi_213_5 ?_
                        refine am_e10 (z := 2) hi_213_6 (by decide) ?_
                        refine am_e1 (v := f 4) hi_213_7 rfl ?_
                        refine am_e32n (as := [.ref 39, .int 13, .int 0, .int 2, .int (f 4)]) (la := [some (.ref 39), some (.int 13), some (.int 0), some (.int 2), some (.int (f 4))]) (rest := []) hi_213_8 (am_hd0 (M := 213) (by decide) 8) (Nat.le_of_ble_eq_true rfl) (Nat.le_of_ble_eq_true rfl) (show 5 ≤ am_P0.2.2.1 189 from by decide +kernel) rfl (am_recv_ok hS626.fs) rfl rfl (ct_put (d := (d + 3)) hS626 hR636  (by show (0 : Int) ≤ (f 32).toInt; omega) (by show (f 32).toInt ≤ (63 : Int); omega) (by show (f 53).toInt ≤ (4096 : Int); omega) (by show (0 : Int) ≤ s532.toInt; omega) (by show s532.toInt ≤ (65534 : Int); omega)) ?_
                        rintro v637 S638 (⟨z639, r640, g'641, hv642, hS643, hR647, h644, h645, h646⟩)
                        subst hv642
                        have h644_ : z639.toInt = s532.toInt + 1 := h644
                        have h645_ : r640.toInt = s532.toInt := h645
                        have h646_ : ∀ j, j ∉ [60, 69, 70, 71, 72, 73] → g'641 j = g'547 j := h646
                        replace hS643 : MS S0 S638 (upd (upd (upd (upd (upd (upd f 4 z623) 5 y624) 10 z546) 62 o531) 68 z639) 75 m533) g'641 := hS643
                        have hR647_ : RJ (upd (upd (upd (upd (upd (upd f 4 z623) 5 y624) 10 z546) 62 o531) 68 z639) 75 m533) g'641 (((28 : Int), (0 : Int), (0 : Int), (0 : Int), []) :: gs) bc [] 0 (s532.toNatClampNeg :: []) := hR647
                        show am_E _ _ _ _ [some (.ref 39), some (.int 0), some (.int 0), some (.int (f 4)), none] [.int r640] _ _
                        refine am_e3 (ls' := [some (.ref 39), some (.int 0), some (.int 0), some (.int (f 4)), some (.int r640)]) hi_213_11 (Nat.le_of_ble_eq_true rfl) rfl ?_
                        refine am_e2 (v := 39) hi_213_13 rfl ?_
                        refine am_e7 hi_213_14 ?_
                        refine mm_20 (v := .int (f 15)) hS643 hi_213_15 rfl ?_
                        refine am_e0 hi_213_18 ?_
                        obtain ⟨z648, hz648, tz648⟩ := am_subI (x := f 15) (y := 1) (m := (f 15).toInt) (n := (1 : Int)) rfl (by decide) (by omega) (by omega)
                        refine am_e10 (z := z648) hi_213_19 hz648 ?_
                        refine mm_21 (v := z648) hS643 hi_213_20 rfl (Nat.le_of_ble_eq_true rfl) ms_15 ?_
                        intro S649 hS650
                        replace hS650 : MS S0 S649 (upd (upd (upd (upd (upd (upd (upd f 4 z623) 5 y624) 10 z546) 15 z648) 62 o531) 68 z639) 75 m533) g'641 := hS650
                        have hp651 : mj_n (g'534 16) (f 15).toNatClampNeg 3 = mj_n (g'534 16) z648.toNatClampNeg 3 + if (g'534 16 z648.toNatClampNeg).toInt = 3 then 1 else 0 := mj_pop (by rw [cl_toNat, cl_toNat]; omega)
                        have hp6511 : mj_n (g'534 16) z648.toNatClampNeg 3 ≤ mj_n (g'534 16) (f 15).toNatClampNeg 3 := by rw [hp651]; split <;> omega
                        have hp6512 : (g'534 16 z648.toNatClampNeg).toInt = 3 → mj_n (g'534 16) z648.toNatClampNeg 3 + 1 ≤ mj_n (g'534 16) (f 15).toNatClampNeg 3 := fun q => by rw [hp651, if_pos q]; exact Int.le_refl _
                        refine am_e2 (v := 39) hi_213_23 rfl ?_
                        refine am_e0 hi_213_24 ?_
                        refine am_e1 (v := r640) hi_213_25 rfl ?_
                        refine am_e1 (v := f 4) hi_213_27 rfl ?_
                        refine am_e32n (as := [.ref 39, .int 1, .int r640, .int (f 4)]) (la := [some (.ref 39), some (.int 1), some (.int r640), some (.int (f 4))]) (rest := []) hi_213_28 (am_hd0 (M := 213) (by decide) 28) (Nat.le_of_ble_eq_true rfl) (Nat.le_of_ble_eq_true rfl) (show 4 ≤ am_P0.2.2.1 190 from by decide +kernel) rfl (am_recv_ok hS650.fs) rfl rfl (ct_value (d := (d + 3)) hS650 hR647_ (fun h => absurd h (by decide)) (fun _ => ⟨by omega, by omega⟩) (by show (0 : Int) ≤ z648.toInt; omega) (by show z648.toInt ≤ (32767 : Int); omega)) ?_
                        rintro v652 S653 (⟨z654, g'655, hv656, hS657, hR662, h658, h659, h660, h661⟩)
                        subst hv656
                        have h658_ : z654.toInt = z648.toInt + 1 := h658
                        have h659_ : ∀ j, j ∉ [16, 17, 18] → g'655 j = g'641 j := h659
                        have h660_ : mj_n (g'655 16) z654.toNatClampNeg 3 ≤ mj_n (g'534 16) z648.toNatClampNeg 3 + 1 := by rw [show g'641 16 = g'547 16 from h646_ 16 (by decide), show g'547 16 = g'534 16 from h551_ 16 (by decide)] at h660; exact h660
                        have h661_ : (1 : Int) = 3 ∨ mj_n (g'655 16) z654.toNatClampNeg 3 ≤ mj_n (g'534 16) z648.toNatClampNeg 3 := by rw [show g'641 16 = g'547 16 from h646_ 16 (by decide), show g'547 16 = g'534 16 from h551_ 16 (by decide)] at h661; exact h661
                        replace hS657 : MS S0 S653 (upd (upd (upd (upd (upd (upd (upd f 4 z623) 5 y624) 10 z546) 15 z654) 62 o531) 68 z639) 75 m533) g'655 := hS657
                        have hR662_ : RJ (upd (upd (upd (upd (upd (upd (upd f 4 z623) 5 y624) 10 z546) 15 z654) 62 o531) 68 z639) 75 m533) g'655 (((28 : Int), (0 : Int), (0 : Int), (0 : Int), []) :: gs) bc [] 0 (s532.toNatClampNeg :: []) := hR662
                        show am_E _ _ _ _ [some (.ref 39), some (.int 0), some (.int 0), some (.int (f 4)), some (.int r640)] [] _ _
                        refine am_e35 hi_213_31 ?_
                        show am_E _ _ _ _ [some (.ref 39), some (.int 0), some (.int (f 4))] [] _ _
                        refine am_e18 hi_212_109 ?_
                        refine am_e35 hi_212_125 ?_
                        show am_E _ _ _ _ [some (.ref 39), some (.int r2), some (.int (f 4)), none] [] _ _
                        refine am_e35 hi_211_249 ?_
                        show am_E _ _ _ _ [some (.ref 39), some (.int 28), some (.int on), some (.int tw)] [] _ _
                        refine am_e18 hi_181_180 ?_
                        refine am_e35 hi_181_397 ?_
                        show am_E _ _ _ _ [some (.ref 39), some (.int 28), some (.int on), some (.int tw), some (.int th)] [] _ _
                        refine am_e35 hi_180_13 ?_
                        have q1 : mg_p1 (((28 : Int), (0 : Int), (0 : Int), (0 : Int), []) :: gs) = 0 + (mg_p1 gs) := rfl
                        have q2 : mg_p2 (((28 : Int), (0 : Int), (0 : Int), (0 : Int), []) :: gs) = 0 + (mg_p2 gs) := rfl
                        have q3 : mg_p3 (((28 : Int), (0 : Int), (0 : Int), (0 : Int), []) :: gs) = 1 + (mg_p3 gs) := rfl
                        have q4 : mg_p4 (((28 : Int), (0 : Int), (0 : Int), (0 : Int), []) :: gs) = 0 + (mg_p4 gs) := rfl
                        refine ⟨_, _, _, bc, rfl, hS657, Or.inl ⟨⟨(RJ.fewer (pj' := []) hR662_ (fun _ h => nomatch h)), ?_, ?_⟩, rfl, ?_⟩⟩
                        · exact (⟨⟨(show (0 : Int) ≤ 28 from by decide), (show (1 : Int) ≤ z654.toInt from by omega), (show 0 ≤ (f 20).toInt from by omega), (show 1 ≤ (f 37).toInt from by omega), (show 0 ≤ (f 32).toInt from by omega), (show (f 32).toInt ≤ y624.toInt from by omega), (show y624.toInt ≤ 48 from by omega), (show (f 37).toInt ≤ 2 * (y624.toInt) + 2 from by omega), trivial⟩, mg_cast (mg_good_ext _ _ _ _ _ _ (fun i _ => by show g'655 34 i = g 34 i; rw [show g'655 34 = g'641 34 from h659_ 34 (by decide), show g'641 34 = g'547 34 from h646_ 34 (by decide), show g'547 34 = g'534 34 from h551_ 34 (by decide), show g'534 34 = g 34 from h542_ 34 (by decide)]) (fun i _ => by show g'655 38 i = g 38 i; rw [show g'655 38 = g'641 38 from h659_ 38 (by decide), show g'641 38 = g'547 38 from h646_ 38 (by decide), show g'547 38 = g'534 38 from h551_ 38 (by decide), show g'534 38 = g 38 from h542_ 38 (by decide)]) hrest) (by show (f 15).toInt + 0 = z654.toInt + 0; omega) (by show (f 20).toInt = (f 20).toInt; omega) (by show (f 37).toInt + 0 = (f 37).toInt + 0; omega) (by show (f 32).toInt + 0 = (f 32).toInt + 0; omega) (by show (f 5).toInt + 0 = y624.toInt + 0; omega)⟩ : mg_good (g'655 34) (g'655 38) (((28 : Int), (0 : Int), (0 : Int), (0 : Int), []) :: gs) (z654.toInt) ((f 20).toInt) ((f 37).toInt) ((f 32).toInt) (y624.toInt))
                        · exact ⟨(by show 0 ≤ z623.toInt; omega), (by show z623.toInt ≤ (f 0).toInt; omega), (by show (f 0).toInt ≤ 512; omega), (by show 0 ≤ (f 24).toInt; omega), (by show (f 24).toInt + (f 20).toInt + mg_p1 (((28 : Int), (0 : Int), (0 : Int), (0 : Int), []) :: gs) ≤ 4 * z623.toInt; omega), (by show (f 20).toInt ≤ z623.toInt; omega), (by show z654.toInt + mg_p2 (((28 : Int), (0 : Int), (0 : Int), (0 : Int), []) :: gs) ≤ z623.toInt; omega), (by show mg_p3 (((28 : Int), (0 : Int), (0 : Int), (0 : Int), []) :: gs) ≤ 20 * z623.toInt + 20; omega), (by show 0 ≤ z639.toInt; omega), (by show z639.toInt + 3 * (f 20).toInt + mg_p4 (((28 : Int), (0 : Int), (0 : Int), (0 : Int), []) :: gs) ≤ 60 * z623.toInt + 60; omega), (by show 0 ≤ o531.toInt; omega), (by show o531.toInt + 64 * mj_n (g'655 16) z654.toNatClampNeg 3 ≤ 64 * z623.toInt; omega), (by show 0 ≤ (f 44).toInt; omega), (by show (f 44).toInt ≤ z623.toInt; omega), (by show 0 ≤ (f 48).toInt; omega), (by show (f 48).toInt ≤ z623.toInt; omega), (by show 1 ≤ (f 53).toInt; omega), (by show (f 53).toInt ≤ z623.toInt + 1; omega)⟩
                        · show 100 * ((f 0).toInt - z623.toInt) + mg_p3 (((28 : Int), (0 : Int), (0 : Int), (0 : Int), []) :: gs) < 100 * ((f 0).toInt - (f 4).toInt) + (1 + mg_p3 gs); omega
                      · subst hv633
                        replace hS634 : MS S0 S622 (upd (upd (upd (upd (upd (upd (upd (upd f 4 z571) 5 y572) 6 a631) 7 b632) 10 0) 62 o531) 68 s532) 75 m533) g'547 := hS634
                        show am_E _ _ _ _ [some (.ref 39), some (.int 0), some (.int (f 4))] [.int 0] _ _
                        refine am_e6i hi_212_101 ?_
                        refine am_e2 (v := 39) hi_212_102 rfl ?_
                        refine am_e1 (v := 0) hi_212_103 rfl ?_
                        refine am_e0 hi_212_104 ?_
                        refine am_e1 (v := f 4) hi_212_105 rfl ?_
                        refine am_e32w (as := [.ref 39, .int 0, .int 0, .int (f 4)]) (la := [some (.ref 39), some (.int 0), some (.int 0), some (.int (f 4)), none]) (rest := []) hi_212_106 (am_hd0 (M := 212) (by decide) 106) (Nat.le_of_ble_eq_true rfl) (Nat.le_of_ble_eq_true rfl) (show 4 ≤ am_P0.2.2.1 213 from by decide +kernel) rfl (am_recv_ok hS634.fs) rfl rfl ?_
                        refine am_e2 (v := 39) hi_213_0 rfl ?_
                        refine am_e0 hi_213_1 ?_
                        refine am_e1 (v := 0) hi_213_3 rfl ?_
                        refine am_e1 (v := 0) hi_213_4 rfl ?_
                        refine am_e0 hi_213_5 ?_
                        refine am_e10 (z := 2) hi_213_6 (by decide) ?_
                        refine am_e1 (v := f 4) hi_213_7 rfl ?_
                        refine am_e32n (as := [.ref 39, .int 13, .int 0, .int 2, .int (f 4)]) (la := [some (.ref 39), some (.int 13), some (.int 0), some (.int 2), some (.int (f 4))]) (rest := []) hi_213_8 (am_hd0 (M := 213) (by decide) 8) (Nat.le_of_ble_eq_true rfl) (Nat.le_of_ble_eq_true rfl) (show 5 ≤ am_P0.2.2.1 189 from by decide +kernel) rfl (am_recv_ok hS634.fs) rfl rfl (ct_put (d := (d + 3)) hS634 hR585  (by show (0 : Int) ≤ (f 32).toInt; omega) (by show (f 32).toInt ≤ (63 : Int); omega) (by show (f 53).toInt ≤ (4096 : Int); omega) (by show (0 : Int) ≤ s532.toInt; omega) (by show s532.toInt ≤ (65534 : Int); omega)) ?_
                        rintro v663 S664 (⟨z665, r666, g'667, hv668, hS669, hR673, h670, h671, h672⟩)
                        subst hv668
                        have h670_ : z665.toInt = s532.toInt + 1 := h670
                        have h671_ : r666.toInt = s532.toInt := h671
                        have h672_ : ∀ j, j ∉ [60, 69, 70, 71, 72, 73] → g'667 j = g'547 j := h672
                        replace hS669 : MS S0 S664 (upd (upd (upd (upd (upd (upd (upd (upd f 4 z571) 5 y572) 6 a631) 7 b632) 10 0) 62 o531) 68 z665) 75 m533) g'667 := hS669
                        have hR673_ : RJ (upd (upd (upd (upd (upd (upd (upd (upd f 4 z571) 5 y572) 6 a631) 7 b632) 10 0) 62 o531) 68 z665) 75 m533) g'667 (((28 : Int), (0 : Int), (0 : Int), (0 : Int), []) :: gs) bc [] 0 (s532.toNatClampNeg :: []) := hR673
                        show am_E _ _ _ _ [some (.ref 39), some (.int 0), some (.int 0), some (.int (f 4)), none] [.int r666] _ _
                        refine am_e3 (ls' := [some (.ref 39), some (.int 0), some (.int 0), some (.int (f 4)), some (.int r666)]) hi_213_11 (Nat.le_of_ble_eq_true rfl) rfl ?_
                        refine am_e2 (v := 39) hi_213_13 rfl ?_
                        refine am_e7 hi_213_14 ?_
                        refine mm_20 (v := .int (f 15)) hS669 hi_213_15 rfl ?_
                        refine am_e0 hi_213_18 ?_
                        obtain ⟨z674, hz674, tz674⟩ := am_subI (x := f 15) (y := 1) (m := (f 15).toInt) (n := (1 : Int)) rfl (by decide) (by omega) (by omega)
                        refine am_e10 (z := z674) hi_213_19 hz674 ?_
                        refine mm_21 (v := z674) hS669 hi_213_20 rfl (Nat.le_of_ble_eq_true rfl) ms_15 ?_
                        intro S675 hS676
                        replace hS676 : MS S0 S675 (upd (upd (upd (upd (upd (upd (upd (upd (upd f 4 z571) 5 y572) 6 a631) 7 b632) 10 0) 15 z674) 62 o531) 68 z665) 75 m533) g'667 := hS676
                        have hp677 : mj_n (g'534 16) (f 15).toNatClampNeg 3 = mj_n (g'534 16) z674.toNatClampNeg 3 + if (g'534 16 z674.toNatClampNeg).toInt = 3 then 1 else 0 := mj_pop (by rw [cl_toNat, cl_toNat]; omega)
                        have hp6771 : mj_n (g'534 16) z674.toNatClampNeg 3 ≤ mj_n (g'534 16) (f 15).toNatClampNeg 3 := by rw [hp677]; split <;> omega
                        have hp6772 : (g'534 16 z674.toNatClampNeg).toInt = 3 → mj_n (g'534 16) z674.toNatClampNeg 3 + 1 ≤ mj_n (g'534 16) (f 15).toNatClampNeg 3 := fun q => by rw [hp677, if_pos q]; exact Int.le_refl _
                        refine am_e2 (v := 39) hi_213_23 rfl ?_
                        refine am_e0 hi_213_24 ?_
                        refine am_e1 (v := r666) hi_213_25 rfl ?_
                        refine am_e1 (v := f 4) hi_213_27 rfl ?_
                        refine am_e32n (as := [.ref 39, .int 1, .int r666, .int (f 4)]) (la := [some (.ref 39), some (.int 1), some (.int r666), some (.int (f 4))]) (rest := []) hi_213_28 (am_hd0 (M := 213) (by decide) 28) (Nat.le_of_ble_eq_true rfl) (Nat.le_of_ble_eq_true rfl) (show 4 ≤ am_P0.2.2.1 190 from by decide +kernel) rfl (am_recv_ok hS676.fs) rfl rfl (ct_value (d := (d + 3)) hS676 hR673_ (fun h => absurd h (by decide)) (fun _ => ⟨by omega, by omega⟩) (by show (0 : Int) ≤ z674.toInt; omega) (by show z674.toInt ≤ (32767 : Int); omega)) ?_
                        rintro v678 S679 (⟨z680, g'681, hv682, hS683, hR688, h684, h685, h686, h687⟩)
                        subst hv682
                        have h684_ : z680.toInt = z674.toInt + 1 := h684
                        have h685_ : ∀ j, j ∉ [16, 17, 18] → g'681 j = g'667 j := h685
                        have h686_ : mj_n (g'681 16) z680.toNatClampNeg 3 ≤ mj_n (g'534 16) z674.toNatClampNeg 3 + 1 := by rw [show g'667 16 = g'547 16 from h672_ 16 (by decide), show g'547 16 = g'534 16 from h551_ 16 (by decide)] at h686; exact h686
                        have h687_ : (1 : Int) = 3 ∨ mj_n (g'681 16) z680.toNatClampNeg 3 ≤ mj_n (g'534 16) z674.toNatClampNeg 3 := by rw [show g'667 16 = g'547 16 from h672_ 16 (by decide), show g'547 16 = g'534 16 from h551_ 16 (by decide)] at h687; exact h687
                        replace hS683 : MS S0 S679 (upd (upd (upd (upd (upd (upd (upd (upd (upd f 4 z571) 5 y572) 6 a631) 7 b632) 10 0) 15 z680) 62 o531) 68 z665) 75 m533) g'681 := hS683
                        have hR688_ : RJ (upd (upd (upd (upd (upd (upd (upd (upd (upd f 4 z571) 5 y572) 6 a631) 7 b632) 10 0) 15 z680) 62 o531) 68 z665) 75 m533) g'681 (((28 : Int), (0 : Int), (0 : Int), (0 : Int), []) :: gs) bc [] 0 (s532.toNatClampNeg :: []) := hR688
                        show am_E _ _ _ _ [some (.ref 39), some (.int 0), some (.int 0), some (.int (f 4)), some (.int r666)] [] _ _
                        refine am_e35 hi_213_31 ?_
                        show am_E _ _ _ _ [some (.ref 39), some (.int 0), some (.int (f 4))] [] _ _
                        refine am_e18 hi_212_109 ?_
                        refine am_e35 hi_212_125 ?_
                        show am_E _ _ _ _ [some (.ref 39), some (.int r2), some (.int (f 4)), none] [] _ _
                        refine am_e35 hi_211_249 ?_
                        show am_E _ _ _ _ [some (.ref 39), some (.int 28), some (.int on), some (.int tw)] [] _ _
                        refine am_e18 hi_181_180 ?_
                        refine am_e35 hi_181_397 ?_
                        show am_E _ _ _ _ [some (.ref 39), some (.int 28), some (.int on), some (.int tw), some (.int th)] [] _ _
                        refine am_e35 hi_180_13 ?_
                        have hRc := rj_clear0 hR688_
                        refine ⟨_, _, [], _, rfl, hS683, Or.inr ⟨hRc, rfl, (by show 0 ≤ z571.toInt; omega), (by show z571.toInt ≤ (f 0).toInt; omega), (by show 0 ≤ (f 32).toInt; omega), (by show (f 32).toInt ≤ 63; omega), (by show 1 ≤ (f 53).toInt; omega), (by show (f 53).toInt ≤ 600; omega), (by show 0 ≤ z665.toInt; omega), (by show z665.toInt ≤ 60000; omega), (by show 0 ≤ (f 48).toInt; omega), (by show (f 48).toInt ≤ 8000; omega), (by show 0 ≤ (f 37).toInt; omega), (by show (f 37).toInt ≤ 128; omega), (by show 0 ≤ o531.toInt; omega), (by show o531.toInt ≤ 65000; omega)⟩⟩
                  · subst hv582
                    replace hS583 : MS S0 S570 (upd (upd (upd (upd (upd (upd f 6 a580) 7 b581) 10 0) 62 o531) 68 s532) 75 m533) g'547 := hS583
                    show am_E _ _ _ _ [some (.ref 39), some (.int 0), some (.int (f 4))] [.int 0] _ _
                    refine am_e12t hi_212_83 (by decide) ?_
                    refine am_e35 hi_212_125 ?_
                    show am_E _ _ _ _ [some (.ref 39), some (.int r2), some (.int (f 4)), none] [] _ _
                    refine am_e35 hi_211_249 ?_
                    show am_E _ _ _ _ [some (.ref 39), some (.int 28), some (.int on), some (.int tw)] [] _ _
                    refine am_e18 hi_181_180 ?_
                    refine am_e35 hi_181_397 ?_
                    show am_E _ _ _ _ [some (.ref 39), some (.int 28), some (.int on), some (.int tw), some (.int th)] [] _ _
                    refine am_e35 hi_180_13 ?_
                    have hRc := rj_clear0 hR552_
                    refine ⟨_, _, [], _, rfl, hS583, Or.inr ⟨hRc, rfl, (by show 0 ≤ (f 4).toInt; omega), (by show (f 4).toInt ≤ (f 0).toInt; omega), (by show 0 ≤ (f 32).toInt; omega), (by show (f 32).toInt ≤ 63; omega), (by show 1 ≤ (f 53).toInt; omega), (by show (f 53).toInt ≤ 600; omega), (by show 0 ≤ s532.toInt; omega), (by show s532.toInt ≤ 60000; omega), (by show 0 ≤ (f 48).toInt; omega), (by show (f 48).toInt ≤ 8000; omega), (by show 0 ≤ (f 37).toInt; omega), (by show (f 37).toInt ≤ 128; omega), (by show 0 ≤ o531.toInt; omega), (by show o531.toInt ≤ 65000; omega)⟩⟩
                · refine am_e13f hi_212_58 (am_cF (m := r563.toInt) (n := (62 : Int)) rfl (by decide) c568) ?_
                  refine am_e2 (v := 39) hi_212_61 rfl ?_
                  refine am_e0 hi_212_62 ?_
                  refine am_e1 (v := 0) hi_212_64 rfl ?_
                  refine am_e1 (v := f 4) hi_212_65 rfl ?_
                  refine am_e0 hi_212_66 ?_
                  refine am_e32n (as := [.ref 39, .int 33, .int 0, .int (f 4), .int 0]) (la := [some (.ref 39), some (.int 33), some (.int 0), some (.int (f 4)), some (.int 0)]) (rest := []) hi_212_67 (am_hd0 (M := 212) (by decide) 67) (Nat.le_of_ble_eq_true rfl) (Nat.le_of_ble_eq_true rfl) (show 5 ≤ am_P0.2.2.1 179 from by decide +kernel) rfl (am_recv_ok hS565.fs) rfl rfl (ct_pile (d := (d + 4)) hS565 hR552_ (mj_e_plain (by decide)) (by show (0 : Int) ≤ z546.toInt; omega) (by show z546.toInt ≤ (65535 : Int); omega)) ?_
                  rintro v689 S690 (⟨z691, g'692, hv693, hS694, hR697, h695, h696⟩)
                  subst hv693
                  have h695_ : z691.toInt = z546.toInt + 1 := h695
                  have h696_ : ∀ j, j ∉ [11, 12, 13, 14] → g'692 j = g'547 j := h696
                  replace hS694 : MS S0 S690 (upd (upd (upd (upd f 10 z691) 62 o531) 68 s532) 75 m533) g'692 := hS694
                  have hR697_ : RJ (upd (upd (upd (upd f 10 z691) 62 o531) 68 s532) 75 m533) g'692 (((33 : Int), (0 : Int), (f 4).toInt, (0 : Int), []) :: (((28 : Int), (0 : Int), (0 : Int), (0 : Int), []) :: gs)) bc [] 0 [] := hR697
                  show am_E _ _ _ _ [some (.ref 39), some (.int 0), some (.int (f 4))] [] _ _
                  refine am_e2 (v := 39) hi_212_70 rfl ?_
                  refine am_e32w (as := [.ref 39]) (la := [some (.ref 39), none]) (rest := []) hi_212_71 (am_hd0 (M := 212) (by decide) 71) (Nat.le_of_ble_eq_true rfl) (Nat.le_of_ble_eq_true rfl) (show 1 ≤ am_P0.2.2.1 192 from by decide +kernel) rfl (am_recv_ok hS694.fs) rfl rfl ?_
                  refine am_e2 (v := 39) hi_192_0 rfl ?_
                  refine mm_20 (v := .int (f 4)) hS694 hi_192_1 rfl ?_
                  refine am_e3 (ls' := [some (.ref 39), some (.int (f 4))]) hi_192_4 (Nat.le_of_ble_eq_true rfl) rfl ?_
                  refine am_e2 (v := 39) hi_192_5 rfl ?_
                  refine am_e0 hi_192_6 ?_
                  refine am_e32n (as := [.ref 39, .int 62]) (la := [some (.ref 39), some (.int 62)]) (rest := []) hi_192_8 (am_hd0 (M := 192) (by decide) 8) (Nat.le_of_ble_eq_true rfl) (Nat.le_of_ble_eq_true rfl) (show 2 ≤ am_P0.2.2.1 193 from by decide +kernel) rfl (am_recv_ok hS694.fs) rfl rfl (ct_enter (d := (d + 1)) hS694   (by show (0 : Int) ≤ (f 4).toInt; omega) (by show (f 0).toInt ≤ (16384 : Int); omega) (by show (0 : Int) ≤ (62 : Int); omega) (by show (0 : Int) ≤ (f 5).toInt; omega) (by show (f 5).toInt ≤ (48 : Int); omega)) ?_
                  rintro v698 S699 (⟨z700, y701, hv702, hS703, h704, h705, h706, h707⟩ | ⟨a709, b710, hv711, hS712⟩)
                  · subst hv702
                    have h704_ : z700.toInt = (f 4).toInt + 1 := h704
                    have h705_ : (f 4).toInt < (f 0).toInt := h705
                    have h706_ : y701.toInt = (f 5).toInt + 1 := h706
                    have h707_ : y701.toInt ≤ (48 : Int) := h707
                    replace hS703 : MS S0 S699 (upd (upd (upd (upd (upd (upd f 4 z700) 5 y701) 10 z691) 62 o531) 68 s532) 75 m533) g'692 := hS703
                    have hR714 : RJ (upd (upd (upd (upd (upd (upd f 4 z700) 5 y701) 10 z691) 62 o531) 68 s532) 75 m533) g'692 (((33 : Int), (0 : Int), (f 4).toInt, (0 : Int), []) :: (((28 : Int), (0 : Int), (0 : Int), (0 : Int), []) :: gs)) bc [] 0 [] := RJ.at hR697_ (by show (f 4).toInt ≤ z700.toInt; omega)
                    show am_E _ _ _ _ [some (.ref 39), some (.int (f 4))] [.int 1] _ _
                    refine am_e12t hi_192_11 (by decide) ?_
                    refine am_e2 (v := 39) hi_192_15 rfl ?_
                    refine am_e0 hi_192_16 ?_
                    refine am_e0 hi_192_18 ?_
                    refine am_e0 hi_192_19 ?_
                    refine am_e1 (v := f 4) hi_192_20 rfl ?_
                    refine am_e32n (as := [.ref 39, .int 20, .int 0, .int 0, .int (f 4)]) (la := [some (.ref 39), some (.int 20), some (.int 0), some (.int 0), some (.int (f 4))]) (rest := []) hi_192_21 (am_hd0 (M := 192) (by decide) 21) (Nat.le_of_ble_eq_true rfl) (Nat.le_of_ble_eq_true rfl) (show 5 ≤ am_P0.2.2.1 189 from by decide +kernel) rfl (am_recv_ok hS703.fs) rfl rfl (ct_put (d := (d + 3)) hS703 hR714  (by show (0 : Int) ≤ (f 32).toInt; omega) (by show (f 32).toInt ≤ (63 : Int); omega) (by show (f 53).toInt ≤ (4096 : Int); omega) (by show (0 : Int) ≤ s532.toInt; omega) (by show s532.toInt ≤ (65534 : Int); omega)) ?_
                    rintro v715 S716 (⟨z717, r718, g'719, hv720, hS721, hR725, h722, h723, h724⟩)
                    subst hv720
                    have h722_ : z717.toInt = s532.toInt + 1 := h722
                    have h723_ : r718.toInt = s532.toInt := h723
                    have h724_ : ∀ j, j ∉ [60, 69, 70, 71, 72, 73] → g'719 j = g'692 j := h724
                    replace hS721 : MS S0 S716 (upd (upd (upd (upd (upd (upd f 4 z700) 5 y701) 10 z691) 62 o531) 68 z717) 75 m533) g'719 := hS721
                    have hR725_ : RJ (upd (upd (upd (upd (upd (upd f 4 z700) 5 y701) 10 z691) 62 o531) 68 z717) 75 m533) g'719 (((33 : Int), (0 : Int), (f 4).toInt, (0 : Int), []) :: (((28 : Int), (0 : Int), (0 : Int), (0 : Int), []) :: gs)) bc [] 0 (s532.toNatClampNeg :: []) := hR725
                    show am_E _ _ _ _ [some (.ref 39), some (.int (f 4))] [.int r718] _ _
                    refine am_e6i hi_192_24 ?_
                    refine am_e2 (v := 39) hi_192_25 rfl ?_
                    refine am_e0 hi_192_26 ?_
                    refine am_e0 hi_192_27 ?_
                    refine am_e0 hi_192_28 ?_
                    refine am_e32n (as := [.ref 39, .int 0, .int 0, .int 0]) (la := [some (.ref 39), some (.int 0), some (.int 0), some (.int 0)]) (rest := []) hi_192_29 (am_hd0 (M := 192) (by decide) 29) (Nat.le_of_ble_eq_true rfl) (Nat.le_of_ble_eq_true rfl) (show 4 ≤ am_P0.2.2.1 190 from by decide +kernel) rfl (am_recv_ok hS721.fs) rfl rfl (ct_value (d := (d + 3)) hS721 hR725_ (fun h => absurd h (by decide)) (fun h => absurd h (by decide)) (by show (0 : Int) ≤ (f 15).toInt; omega) (by show (f 15).toInt ≤ (32767 : Int); omega)) ?_
                    rintro v726 S727 (⟨z728, g'729, hv730, hS731, hR736, h732, h733, h734, h735⟩)
                    subst hv730
                    have h732_ : z728.toInt = (f 15).toInt + 1 := h732
                    have h733_ : ∀ j, j ∉ [16, 17, 18] → g'729 j = g'719 j := h733
                    have h734_ : mj_n (g'729 16) z728.toNatClampNeg 3 ≤ mj_n (g'534 16) (f 15).toNatClampNeg 3 + 1 := by rw [show g'719 16 = g'692 16 from h724_ 16 (by decide), show g'692 16 = g'547 16 from h696_ 16 (by decide), show g'547 16 = g'534 16 from h551_ 16 (by decide)] at h734; exact h734
                    have h735_ : (0 : Int) = 3 ∨ mj_n (g'729 16) z728.toNatClampNeg 3 ≤ mj_n (g'534 16) (f 15).toNatClampNeg 3 := by rw [show g'719 16 = g'692 16 from h724_ 16 (by decide), show g'692 16 = g'547 16 from h696_ 16 (by decide), show g'547 16 = g'534 16 from h551_ 16 (by decide)] at h735; exact h735
                    replace hS731 : MS S0 S727 (upd (upd (upd (upd (upd (upd (upd f 4 z700) 5 y701) 10 z691) 15 z728) 62 o531) 68 z717) 75 m533) g'729 := hS731
                    have hR736_ : RJ (upd (upd (upd (upd (upd (upd (upd f 4 z700) 5 y701) 10 z691) 15 z728) 62 o531) 68 z717) 75 m533) g'729 (((33 : Int), (0 : Int), (f 4).toInt, (0 : Int), []) :: (((28 : Int), (0 : Int), (0 : Int), (0 : Int), []) :: gs)) bc [] 0 (s532.toNatClampNeg :: []) := hR736
                    show am_E _ _ _ _ [some (.ref 39), some (.int (f 4))] [] _ _
                    refine am_e2 (v := 39) hi_192_32 rfl ?_
                    refine am_e0 hi_192_33 ?_
                    refine am_e0 hi_192_35 ?_
                    refine am_e0 hi_192_36 ?_
                    refine am_e0 hi_192_37 ?_
                    refine am_e32n (as := [.ref 39, .int 35, .int 0, .int 0, .int 0]) (la := [some (.ref 39), some (.int 35), some (.int 0), some (.int 0), some (.int 0)]) (rest := []) hi_192_38 (am_hd0 (M := 192) (by decide) 38) (Nat.le_of_ble_eq_true rfl) (Nat.le_of_ble_eq_true rfl) (show 5 ≤ am_P0.2.2.1 179 from by decide +kernel) rfl (am_recv_ok hS731.fs) rfl rfl (ct_pile (d := (d + 3)) hS731 hR736_ (mj_e_plain (by decide)) (by show (0 : Int) ≤ z691.toInt; omega) (by show z691.toInt ≤ (65535 : Int); omega)) ?_
                    rintro v737 S738 (⟨z739, g'740, hv741, hS742, hR745, h743, h744⟩)
                    subst hv741
                    have h743_ : z739.toInt = z691.toInt + 1 := h743
                    have h744_ : ∀ j, j ∉ [11, 12, 13, 14] → g'740 j = g'729 j := h744
                    replace hS742 : MS S0 S738 (upd (upd (upd (upd (upd (upd (upd f 4 z700) 5 y701) 10 z739) 15 z728) 62 o531) 68 z717) 75 m533) g'740 := hS742
                    have hR745_ : RJ (upd (upd (upd (upd (upd (upd (upd f 4 z700) 5 y701) 10 z739) 15 z728) 62 o531) 68 z717) 75 m533) g'740 (((35 : Int), (0 : Int), (0 : Int), (0 : Int), []) :: (((33 : Int), (0 : Int), (f 4).toInt, (0 : Int), []) :: (((28 : Int), (0 : Int), (0 : Int), (0 : Int), []) :: gs))) bc [] 0 (s532.toNatClampNeg :: []) := hR745
                    show am_E _ _ _ _ [some (.ref 39), some (.int (f 4))] [] _ _
                    refine am_e35 hi_192_41 ?_
                    show am_E _ _ _ _ [some (.ref 39), some (.int 0), some (.int (f 4))] [] _ _
                    refine am_e18 hi_212_74 ?_
                    refine am_e35 hi_212_125 ?_
                    show am_E _ _ _ _ [some (.ref 39), some (.int r2), some (.int (f 4)), none] [] _ _
                    refine am_e35 hi_211_249 ?_
                    show am_E _ _ _ _ [some (.ref 39), some (.int 28), some (.int on), some (.int tw)] [] _ _
                    refine am_e18 hi_181_180 ?_
                    refine am_e35 hi_181_397 ?_
                    show am_E _ _ _ _ [some (.ref 39), some (.int 28), some (.int on), some (.int tw), some (.int th)] [] _ _
                    refine am_e35 hi_180_13 ?_
                    have q1 : mg_p1 (((35 : Int), (0 : Int), (0 : Int), (0 : Int), []) :: (((33 : Int), (0 : Int), (f 4).toInt, (0 : Int), []) :: (((28 : Int), (0 : Int), (0 : Int), (0 : Int), []) :: gs))) = 0 + (0 + (0 + (mg_p1 gs))) := rfl
                    have q2 : mg_p2 (((35 : Int), (0 : Int), (0 : Int), (0 : Int), []) :: (((33 : Int), (0 : Int), (f 4).toInt, (0 : Int), []) :: (((28 : Int), (0 : Int), (0 : Int), (0 : Int), []) :: gs))) = 0 + (0 + (0 + (mg_p2 gs))) := rfl
                    have q3 : mg_p3 (((35 : Int), (0 : Int), (0 : Int), (0 : Int), []) :: (((33 : Int), (0 : Int), (f 4).toInt, (0 : Int), []) :: (((28 : Int), (0 : Int), (0 : Int), (0 : Int), []) :: gs))) = 3 + (1 + (1 + (mg_p3 gs))) := rfl
                    have q4 : mg_p4 (((35 : Int), (0 : Int), (0 : Int), (0 : Int), []) :: (((33 : Int), (0 : Int), (f 4).toInt, (0 : Int), []) :: (((28 : Int), (0 : Int), (0 : Int), (0 : Int), []) :: gs))) = 0 + (3 + (0 + (mg_p4 gs))) := rfl
                    refine ⟨_, _, _, bc, rfl, hS742, Or.inl ⟨⟨(RJ.fewer (pj' := []) hR745_ (fun _ h => nomatch h)), ?_, ?_⟩, rfl, ?_⟩⟩
                    · exact (⟨⟨(show (0 : Int) ≤ 35 from by decide), (show (0 : Int) ≤ z728.toInt from by omega), (show 0 ≤ (f 20).toInt from by omega), (show 1 ≤ (f 37).toInt from by omega), (show 0 ≤ (f 32).toInt from by omega), (show (f 32).toInt ≤ y701.toInt from by omega), (show y701.toInt ≤ 48 from by omega), (show (f 37).toInt ≤ 2 * (y701.toInt) + 2 from by omega), trivial⟩, ⟨⟨(show (0 : Int) ≤ 33 from by decide), (show (2 : Int) ≤ z728.toInt + 0 from by omega), (show 0 ≤ (f 20).toInt from by omega), (show 1 ≤ (f 37).toInt + 0 from by omega), (show 0 ≤ (f 32).toInt + 0 from by omega), (show (f 32).toInt + 0 ≤ y701.toInt + -1 from by omega), (show y701.toInt + -1 ≤ 48 from by omega), (show (f 37).toInt + 0 ≤ 2 * (y701.toInt + -1) + 2 from by omega), trivial⟩, ⟨⟨(show (0 : Int) ≤ 28 from by decide), (show (1 : Int) ≤ z728.toInt + 0 + -1 from by omega), (show 0 ≤ (f 20).toInt from by omega), (show 1 ≤ (f 37).toInt + 0 + 0 from by omega), (show 0 ≤ (f 32).toInt + 0 + 0 from by omega), (show (f 32).toInt + 0 + 0 ≤ y701.toInt + -1 + 0 from by omega), (show y701.toInt + -1 + 0 ≤ 48 from by omega), (show (f 37).toInt + 0 + 0 ≤ 2 * (y701.toInt + -1 + 0) + 2 from by omega), trivial⟩, mg_cast (mg_good_ext _ _ _ _ _ _ (fun i _ => by show g'740 34 i = g 34 i; rw [show g'740 34 = g'729 34 from h744_ 34 (by decide), show g'729 34 = g'719 34 from h733_ 34 (by decide), show g'719 34 = g'692 34 from h724_ 34 (by decide), show g'692 34 = g'547 34 from h696_ 34 (by decide), show g'547 34 = g'534 34 from h551_ 34 (by decide), show g'534 34 = g 34 from h542_ 34 (by decide)]) (fun i _ => by show g'740 38 i = g 38 i; rw [show g'740 38 = g'729 38 from h744_ 38 (by decide), show g'729 38 = g'719 38 from h733_ 38 (by decide), show g'719 38 = g'692 38 from h724_ 38 (by decide), show g'692 38 = g'547 38 from h696_ 38 (by decide), show g'547 38 = g'534 38 from h551_ 38 (by decide), show g'534 38 = g 38 from h542_ 38 (by decide)]) hrest) (by show (f 15).toInt + 0 = z728.toInt + 0 + -1 + 0; omega) (by show (f 20).toInt = (f 20).toInt; omega) (by show (f 37).toInt + 0 = (f 37).toInt + 0 + 0 + 0; omega) (by show (f 32).toInt + 0 = (f 32).toInt + 0 + 0 + 0; omega) (by show (f 5).toInt + 0 = y701.toInt + -1 + 0 + 0; omega)⟩⟩⟩ : mg_good (g'740 34) (g'740 38) (((35 : Int), (0 : Int), (0 : Int), (0 : Int), []) :: (((33 : Int), (0 : Int), (f 4).toInt, (0 : Int), []) :: (((28 : Int), (0 : Int), (0 : Int), (0 : Int), []) :: gs))) (z728.toInt) ((f 20).toInt) ((f 37).toInt) ((f 32).toInt) (y701.toInt))
                    · exact ⟨(by show 0 ≤ z700.toInt; omega), (by show z700.toInt ≤ (f 0).toInt; omega), (by show (f 0).toInt ≤ 512; omega), (by show 0 ≤ (f 24).toInt; omega), (by show (f 24).toInt + (f 20).toInt + mg_p1 (((35 : Int), (0 : Int), (0 : Int), (0 : Int), []) :: (((33 : Int), (0 : Int), (f 4).toInt, (0 : Int), []) :: (((28 : Int), (0 : Int), (0 : Int), (0 : Int), []) :: gs))) ≤ 4 * z700.toInt; omega), (by show (f 20).toInt ≤ z700.toInt; omega), (by show z728.toInt + mg_p2 (((35 : Int), (0 : Int), (0 : Int), (0 : Int), []) :: (((33 : Int), (0 : Int), (f 4).toInt, (0 : Int), []) :: (((28 : Int), (0 : Int), (0 : Int), (0 : Int), []) :: gs))) ≤ z700.toInt; omega), (by show mg_p3 (((35 : Int), (0 : Int), (0 : Int), (0 : Int), []) :: (((33 : Int), (0 : Int), (f 4).toInt, (0 : Int), []) :: (((28 : Int), (0 : Int), (0 : Int), (0 : Int), []) :: gs))) ≤ 20 * z700.toInt + 20; omega), (by show 0 ≤ z717.toInt; omega), (by show z717.toInt + 3 * (f 20).toInt + mg_p4 (((35 : Int), (0 : Int), (0 : Int), (0 : Int), []) :: (((33 : Int), (0 : Int), (f 4).toInt, (0 : Int), []) :: (((28 : Int), (0 : Int), (0 : Int), (0 : Int), []) :: gs))) ≤ 60 * z700.toInt + 60; omega), (by show 0 ≤ o531.toInt; omega), (by show o531.toInt + 64 * mj_n (g'740 16) z728.toNatClampNeg 3 ≤ 64 * z700.toInt; rw [show g'740 16 = g'729 16 from h744_ 16 (by decide)]; omega), (by show 0 ≤ (f 44).toInt; omega), (by show (f 44).toInt ≤ z700.toInt; omega), (by show 0 ≤ (f 48).toInt; omega), (by show (f 48).toInt ≤ z700.toInt; omega), (by show 1 ≤ (f 53).toInt; omega), (by show (f 53).toInt ≤ z700.toInt + 1; omega)⟩
                    · show 100 * ((f 0).toInt - z700.toInt) + mg_p3 (((35 : Int), (0 : Int), (0 : Int), (0 : Int), []) :: (((33 : Int), (0 : Int), (f 4).toInt, (0 : Int), []) :: (((28 : Int), (0 : Int), (0 : Int), (0 : Int), []) :: gs))) < 100 * ((f 0).toInt - (f 4).toInt) + (1 + mg_p3 gs); omega
                  · subst hv711
                    replace hS712 : MS S0 S699 (upd (upd (upd (upd (upd (upd f 6 a709) 7 b710) 10 0) 62 o531) 68 s532) 75 m533) g'692 := hS712
                    show am_E _ _ _ _ [some (.ref 39), some (.int (f 4))] [.int 0] _ _
                    refine am_e12f hi_192_11 (by decide) ?_
                    refine am_e35 hi_192_14 ?_
                    show am_E _ _ _ _ [some (.ref 39), some (.int 0), some (.int (f 4))] [] _ _
                    refine am_e18 hi_212_74 ?_
                    refine am_e35 hi_212_125 ?_
                    show am_E _ _ _ _ [some (.ref 39), some (.int r2), some (.int (f 4)), none] [] _ _
                    refine am_e35 hi_211_249 ?_
                    show am_E _ _ _ _ [some (.ref 39), some (.int 28), some (.int on), some (.int tw)] [] _ _
                    refine am_e18 hi_181_180 ?_
                    refine am_e35 hi_181_397 ?_
                    show am_E _ _ _ _ [some (.ref 39), some (.int 28), some (.int on), some (.int tw), some (.int th)] [] _ _
                    refine am_e35 hi_180_13 ?_
                    have hRc := rj_clear0 hR697_
                    refine ⟨_, _, [], _, rfl, hS712, Or.inr ⟨hRc, rfl, (by show 0 ≤ (f 4).toInt; omega), (by show (f 4).toInt ≤ (f 0).toInt; omega), (by show 0 ≤ (f 32).toInt; omega), (by show (f 32).toInt ≤ 63; omega), (by show 1 ≤ (f 53).toInt; omega), (by show (f 53).toInt ≤ 600; omega), (by show 0 ≤ s532.toInt; omega), (by show s532.toInt ≤ 60000; omega), (by show 0 ≤ (f 48).toInt; omega), (by show (f 48).toInt ≤ 8000; omega), (by show 0 ≤ (f 37).toInt; omega), (by show (f 37).toInt ≤ 128; omega), (by show 0 ≤ o531.toInt; omega), (by show o531.toInt ≤ 65000; omega)⟩⟩
              · refine am_e13f hi_212_10 (am_cF (m := r555.toInt) (n := (3 : Int)) rfl (by decide) c560) ?_
                refine am_e2 (v := 39) hi_212_13 rfl ?_
                refine am_e0 hi_212_14 ?_
                refine am_e2 (v := 39) hi_212_15 rfl ?_
                refine mm_20 (v := .ref 41) hS557 hi_212_16 rfl ?_
                refine am_e2 (v := 39) hi_212_19 rfl ?_
                refine mm_20 (v := .int (f 4)) hS557 hi_212_20 rfl ?_
                refine mm_25 hS557 ma_2 hi_212_23 (by decide) (by omega) (by omega) ?_
                show am_E _ _ _ _ _ (.int (g'547 2 (f 4).toNatClampNeg) :: _) _ _
                rw [show g'547 2 = g'534 2 from h551_ 2 (by decide), show g'534 2 = g 2 from h542_ 2 (by decide)]
                show am_E _ _ _ _ [some (.ref 39), some (.int 0), some (.int (f 4))] [.int (g 2 (f 4).toNatClampNeg), .int 5, .ref 39] _ _
                refine am_e0 hi_212_24 ?_
                refine am_e0 hi_212_25 ?_
                refine am_e32n (as := [.ref 39, .int 5, .int (g 2 (f 4).toNatClampNeg), .int 0, .int 0]) (la := [some (.ref 39), some (.int 5), some (.int (g 2 (f 4).toNatClampNeg)), some (.int 0), some (.int 0)]) (rest := []) hi_212_26 (am_hd0 (M := 212) (by decide) 26) (Nat.le_of_ble_eq_true rfl) (Nat.le_of_ble_eq_true rfl) (show 5 ≤ am_P0.2.2.1 189 from by decide +kernel) rfl (am_recv_ok hS557.fs) rfl rfl (ct_put (d := (d + 4)) hS557 hR552_  (by show (0 : Int) ≤ (f 32).toInt; omega) (by show (f 32).toInt ≤ (63 : Int); omega) (by show (f 53).toInt ≤ (4096 : Int); omega) (by show (0 : Int) ≤ s532.toInt; omega) (by show s532.toInt ≤ (65534 : Int); omega)) ?_
                rintro v746 S747 (⟨z748, r749, g'750, hv751, hS752, hR756, h753, h754, h755⟩)
                subst hv751
                have h753_ : z748.toInt = s532.toInt + 1 := h753
                have h754_ : r749.toInt = s532.toInt := h754
                have h755_ : ∀ j, j ∉ [60, 69, 70, 71, 72, 73] → g'750 j = g'547 j := h755
                replace hS752 : MS S0 S747 (upd (upd (upd (upd f 10 z546) 62 o531) 68 z748) 75 m533) g'750 := hS752
                have hR756_ : RJ (upd (upd (upd (upd f 10 z546) 62 o531) 68 z748) 75 m533) g'750 (((28 : Int), (0 : Int), (0 : Int), (0 : Int), []) :: gs) bc [] 0 (s532.toNatClampNeg :: []) := hR756
                show am_E _ _ _ _ [some (.ref 39), some (.int 0), some (.int (f 4))] [.int r749] _ _
                refine am_e6i hi_212_29 ?_
                refine am_e2 (v := 39) hi_212_30 rfl ?_
                refine am_e7 hi_212_31 ?_
                refine mm_20 (v := .int (f 4)) hS752 hi_212_32 rfl ?_
                refine am_e0 hi_212_35 ?_
                obtain ⟨z757, hz757, tz757⟩ := am_addI (x := f 4) (y := 1) (m := (f 4).toInt) (n := (1 : Int)) rfl (by decide) (by omega) (by omega)
                refine am_e10 (z := z757) hi_212_36 hz757 ?_
                refine mm_21 (v := z757) hS752 hi_212_37 rfl (Nat.le_of_ble_eq_true rfl) ms_4 ?_
                intro S758 hS759
                replace hS759 : MS S0 S758 (upd (upd (upd (upd (upd f 4 z757) 10 z546) 62 o531) 68 z748) 75 m533) g'750 := hS759
                have hR760 : RJ (upd (upd (upd (upd (upd f 4 z757) 10 z546) 62 o531) 68 z748) 75 m533) g'750 (((28 : Int), (0 : Int), (0 : Int), (0 : Int), []) :: gs) bc [] 0 (s532.toNatClampNeg :: []) := RJ.at hR756_ (by show (f 4).toInt ≤ z757.toInt; omega)
                refine am_e2 (v := 39) hi_212_40 rfl ?_
                refine am_e0 hi_212_41 ?_
                refine am_e1 (v := 0) hi_212_42 rfl ?_
                refine am_e10 (z := 1) hi_212_43 (by decide) ?_
                refine am_e0 hi_212_44 ?_
                refine am_e1 (v := f 4) hi_212_45 rfl ?_
                refine am_e32w (as := [.ref 39, .int 1, .int 0, .int (f 4)]) (la := [some (.ref 39), some (.int 1), some (.int 0), some (.int (f 4)), none]) (rest := []) hi_212_46 (am_hd0 (M := 212) (by decide) 46) (Nat.le_of_ble_eq_true rfl) (Nat.le_of_ble_eq_true rfl) (show 4 ≤ am_P0.2.2.1 213 from by decide +kernel) rfl (am_recv_ok hS759.fs) rfl rfl ?_
                refine am_e2 (v := 39) hi_213_0 rfl ?_
                refine am_e0 hi_213_1 ?_
                refine am_e1 (v := 1) hi_213_3 rfl ?_
                refine am_e1 (v := 0) hi_213_4 rfl ?_
                refine am_e0 hi_213_5 ?_
                refine am_e10 (z := 2) hi_213_6 (by decide) ?_
                refine am_e1 (v := f 4) hi_213_7 rfl ?_
                refine am_e32n (as := [.ref 39, .int 13, .int 1, .int 2, .int (f 4)]) (la := [some (.ref 39), some (.int 13), some (.int 1), some (.int 2), some (.int (f 4))]) (rest := []) hi_213_8 (am_hd0 (M := 213) (by decide) 8) (Nat.le_of_ble_eq_true rfl) (Nat.le_of_ble_eq_true rfl) (show 5 ≤ am_P0.2.2.1 189 from by decide +kernel) rfl (am_recv_ok hS759.fs) rfl rfl (ct_put (d := (d + 3)) hS759 hR760  (by show (0 : Int) ≤ (f 32).toInt; omega) (by show (f 32).toInt ≤ (63 : Int); omega) (by show (f 53).toInt ≤ (4096 : Int); omega) (by show (0 : Int) ≤ z748.toInt; omega) (by show z748.toInt ≤ (65534 : Int); omega)) ?_
                rintro v761 S762 (⟨z763, r764, g'765, hv766, hS767, hR771, h768, h769, h770⟩)
                subst hv766
                have h768_ : z763.toInt = z748.toInt + 1 := h768
                have h769_ : r764.toInt = z748.toInt := h769
                have h770_ : ∀ j, j ∉ [60, 69, 70, 71, 72, 73] → g'765 j = g'750 j := h770
                replace hS767 : MS S0 S762 (upd (upd (upd (upd (upd f 4 z757) 10 z546) 62 o531) 68 z763) 75 m533) g'765 := hS767
                have hR771_ : RJ (upd (upd (upd (upd (upd f 4 z757) 10 z546) 62 o531) 68 z763) 75 m533) g'765 (((28 : Int), (0 : Int), (0 : Int), (0 : Int), []) :: gs) bc [] 0 (z748.toNatClampNeg :: (s532.toNatClampNeg :: [])) := hR771
                show am_E _ _ _ _ [some (.ref 39), some (.int 1), some (.int 0), some (.int (f 4)), none] [.int r764] _ _
                refine am_e3 (ls' := [some (.ref 39), some (.int 1), some (.int 0), some (.int (f 4)), some (.int r764)]) hi_213_11 (Nat.le_of_ble_eq_true rfl) rfl ?_
                refine am_e2 (v := 39) hi_213_13 rfl ?_
                refine am_e7 hi_213_14 ?_
                refine mm_20 (v := .int (f 15)) hS767 hi_213_15 rfl ?_
                refine am_e0 hi_213_18 ?_
                obtain ⟨z772, hz772, tz772⟩ := am_subI (x := f 15) (y := 1) (m := (f 15).toInt) (n := (1 : Int)) rfl (by decide) (by omega) (by omega)
                refine am_e10 (z := z772) hi_213_19 hz772 ?_
                refine mm_21 (v := z772) hS767 hi_213_20 rfl (Nat.le_of_ble_eq_true rfl) ms_15 ?_
                intro S773 hS774
                replace hS774 : MS S0 S773 (upd (upd (upd (upd (upd (upd f 4 z757) 10 z546) 15 z772) 62 o531) 68 z763) 75 m533) g'765 := hS774
                have hp775 : mj_n (g'534 16) (f 15).toNatClampNeg 3 = mj_n (g'534 16) z772.toNatClampNeg 3 + if (g'534 16 z772.toNatClampNeg).toInt = 3 then 1 else 0 := mj_pop (by rw [cl_toNat, cl_toNat]; omega)
                have hp7751 : mj_n (g'534 16) z772.toNatClampNeg 3 ≤ mj_n (g'534 16) (f 15).toNatClampNeg 3 := by rw [hp775]; split <;> omega
                have hp7752 : (g'534 16 z772.toNatClampNeg).toInt = 3 → mj_n (g'534 16) z772.toNatClampNeg 3 + 1 ≤ mj_n (g'534 16) (f 15).toNatClampNeg 3 := fun q => by rw [hp775, if_pos q]; exact Int.le_refl _
                refine am_e2 (v := 39) hi_213_23 rfl ?_
                refine am_e0 hi_213_24 ?_
                refine am_e1 (v := r764) hi_213_25 rfl ?_
                refine am_e1 (v := f 4) hi_213_27 rfl ?_
                refine am_e32n (as := [.ref 39, .int 1, .int r764, .int (f 4)]) (la := [some (.ref 39), some (.int 1), some (.int r764), some (.int (f 4))]) (rest := []) hi_213_28 (am_hd0 (M := 213) (by decide) 28) (Nat.le_of_ble_eq_true rfl) (Nat.le_of_ble_eq_true rfl) (show 4 ≤ am_P0.2.2.1 190 from by decide +kernel) rfl (am_recv_ok hS774.fs) rfl rfl (ct_value (d := (d + 3)) hS774 hR771_ (fun h => absurd h (by decide)) (fun _ => ⟨by omega, by omega⟩) (by show (0 : Int) ≤ z772.toInt; omega) (by show z772.toInt ≤ (32767 : Int); omega)) ?_
                rintro v776 S777 (⟨z778, g'779, hv780, hS781, hR786, h782, h783, h784, h785⟩)
                subst hv780
                have h782_ : z778.toInt = z772.toInt + 1 := h782
                have h783_ : ∀ j, j ∉ [16, 17, 18] → g'779 j = g'765 j := h783
                have h784_ : mj_n (g'779 16) z778.toNatClampNeg 3 ≤ mj_n (g'534 16) z772.toNatClampNeg 3 + 1 := by rw [show g'765 16 = g'750 16 from h770_ 16 (by decide), show g'750 16 = g'547 16 from h755_ 16 (by decide), show g'547 16 = g'534 16 from h551_ 16 (by decide)] at h784; exact h784
                have h785_ : (1 : Int) = 3 ∨ mj_n (g'779 16) z778.toNatClampNeg 3 ≤ mj_n (g'534 16) z772.toNatClampNeg 3 := by rw [show g'765 16 = g'750 16 from h770_ 16 (by decide), show g'750 16 = g'547 16 from h755_ 16 (by decide), show g'547 16 = g'534 16 from h551_ 16 (by decide)] at h785; exact h785
                replace hS781 : MS S0 S777 (upd (upd (upd (upd (upd (upd f 4 z757) 10 z546) 15 z778) 62 o531) 68 z763) 75 m533) g'779 := hS781
                have hR786_ : RJ (upd (upd (upd (upd (upd (upd f 4 z757) 10 z546) 15 z778) 62 o531) 68 z763) 75 m533) g'779 (((28 : Int), (0 : Int), (0 : Int), (0 : Int), []) :: gs) bc [] 0 (z748.toNatClampNeg :: (s532.toNatClampNeg :: [])) := hR786
                show am_E _ _ _ _ [some (.ref 39), some (.int 1), some (.int 0), some (.int (f 4)), some (.int r764)] [] _ _
                refine am_e35 hi_213_31 ?_
                show am_E _ _ _ _ [some (.ref 39), some (.int 0), some (.int (f 4))] [] _ _
                refine am_e18 hi_212_49 ?_
                refine am_e35 hi_212_125 ?_
                show am_E _ _ _ _ [some (.ref 39), some (.int r2), some (.int (f 4)), none] [] _ _
                refine am_e35 hi_211_249 ?_
                show am_E _ _ _ _ [some (.ref 39), some (.int 28), some (.int on), some (.int tw)] [] _ _
                refine am_e18 hi_181_180 ?_
                refine am_e35 hi_181_397 ?_
                show am_E _ _ _ _ [some (.ref 39), some (.int 28), some (.int on), some (.int tw), some (.int th)] [] _ _
                refine am_e35 hi_180_13 ?_
                have q1 : mg_p1 (((28 : Int), (0 : Int), (0 : Int), (0 : Int), []) :: gs) = 0 + (mg_p1 gs) := rfl
                have q2 : mg_p2 (((28 : Int), (0 : Int), (0 : Int), (0 : Int), []) :: gs) = 0 + (mg_p2 gs) := rfl
                have q3 : mg_p3 (((28 : Int), (0 : Int), (0 : Int), (0 : Int), []) :: gs) = 1 + (mg_p3 gs) := rfl
                have q4 : mg_p4 (((28 : Int), (0 : Int), (0 : Int), (0 : Int), []) :: gs) = 0 + (mg_p4 gs) := rfl
                refine ⟨_, _, _, bc, rfl, hS781, Or.inl ⟨⟨(RJ.fewer (pj' := []) hR786_ (fun _ h => nomatch h)), ?_, ?_⟩, rfl, ?_⟩⟩
                · exact (⟨⟨(show (0 : Int) ≤ 28 from by decide), (show (1 : Int) ≤ z778.toInt from by omega), (show 0 ≤ (f 20).toInt from by omega), (show 1 ≤ (f 37).toInt from by omega), (show 0 ≤ (f 32).toInt from by omega), (show (f 32).toInt ≤ (f 5).toInt from by omega), (show (f 5).toInt ≤ 48 from by omega), (show (f 37).toInt ≤ 2 * ((f 5).toInt) + 2 from by omega), trivial⟩, mg_cast (mg_good_ext _ _ _ _ _ _ (fun i _ => by show g'779 34 i = g 34 i; rw [show g'779 34 = g'765 34 from h783_ 34 (by decide), show g'765 34 = g'750 34 from h770_ 34 (by decide), show g'750 34 = g'547 34 from h755_ 34 (by decide), show g'547 34 = g'534 34 from h551_ 34 (by decide), show g'534 34 = g 34 from h542_ 34 (by decide)]) (fun i _ => by show g'779 38 i = g 38 i; rw [show g'779 38 = g'765 38 from h783_ 38 (by decide), show g'765 38 = g'750 38 from h770_ 38 (by decide), show g'750 38 = g'547 38 from h755_ 38 (by decide), show g'547 38 = g'534 38 from h551_ 38 (by decide), show g'534 38 = g 38 from h542_ 38 (by decide)]) hrest) (by show (f 15).toInt + 0 = z778.toInt + 0; omega) (by show (f 20).toInt = (f 20).toInt; omega) (by show (f 37).toInt + 0 = (f 37).toInt + 0; omega) (by show (f 32).toInt + 0 = (f 32).toInt + 0; omega) (by show (f 5).toInt + 0 = (f 5).toInt + 0; omega)⟩ : mg_good (g'779 34) (g'779 38) (((28 : Int), (0 : Int), (0 : Int), (0 : Int), []) :: gs) (z778.toInt) ((f 20).toInt) ((f 37).toInt) ((f 32).toInt) ((f 5).toInt))
                · exact ⟨(by show 0 ≤ z757.toInt; omega), (by show z757.toInt ≤ (f 0).toInt; omega), (by show (f 0).toInt ≤ 512; omega), (by show 0 ≤ (f 24).toInt; omega), (by show (f 24).toInt + (f 20).toInt + mg_p1 (((28 : Int), (0 : Int), (0 : Int), (0 : Int), []) :: gs) ≤ 4 * z757.toInt; omega), (by show (f 20).toInt ≤ z757.toInt; omega), (by show z778.toInt + mg_p2 (((28 : Int), (0 : Int), (0 : Int), (0 : Int), []) :: gs) ≤ z757.toInt; omega), (by show mg_p3 (((28 : Int), (0 : Int), (0 : Int), (0 : Int), []) :: gs) ≤ 20 * z757.toInt + 20; omega), (by show 0 ≤ z763.toInt; omega), (by show z763.toInt + 3 * (f 20).toInt + mg_p4 (((28 : Int), (0 : Int), (0 : Int), (0 : Int), []) :: gs) ≤ 60 * z757.toInt + 60; omega), (by show 0 ≤ o531.toInt; omega), (by show o531.toInt + 64 * mj_n (g'779 16) z778.toNatClampNeg 3 ≤ 64 * z757.toInt; omega), (by show 0 ≤ (f 44).toInt; omega), (by show (f 44).toInt ≤ z757.toInt; omega), (by show 0 ≤ (f 48).toInt; omega), (by show (f 48).toInt ≤ z757.toInt; omega), (by show 1 ≤ (f 53).toInt; omega), (by show (f 53).toInt ≤ z757.toInt + 1; omega)⟩
                · show 100 * ((f 0).toInt - z757.toInt) + mg_p3 (((28 : Int), (0 : Int), (0 : Int), (0 : Int), []) :: gs) < 100 * ((f 0).toInt - (f 4).toInt) + (1 + mg_p3 gs); omega
      · refine am_e13f hi_211_124 (am_cF (m := r2.toInt) (n := (68 : Int)) rfl (by decide) c9) ?_
        refine am_e2 (v := 39) hi_211_127 rfl ?_
        refine am_e32n (as := [.ref 39]) (la := [some (.ref 39), none, none, none]) (rest := []) hi_211_128 (am_hd0 (M := 211) (by decide) 128) (Nat.le_of_ble_eq_true rfl) (Nat.le_of_ble_eq_true rfl) (show 1 ≤ am_P0.2.2.1 204 from by decide +kernel) rfl (am_recv_ok hS4.fs) rfl rfl (ct_load (d := (d + 3)) hS4 hR  (by show (0 : Int) ≤ (f 32).toInt; omega) (by show (f 32).toInt ≤ (63 : Int); omega) (by show (f 53).toInt ≤ (4096 : Int); omega) (by show (0 : Int) ≤ (f 68).toInt; omega) (by show (f 68).toInt ≤ (65534 : Int); omega) (by show (1 : Int) ≤ (f 15).toInt; omega) (by show (f 15).toInt ≤ (32767 : Int); omega) (by show (0 : Int) ≤ (f 24).toInt; omega) (by show (f 24).toInt ≤ (16384 : Int); omega) (by show (0 : Int) ≤ (f 62).toInt; omega) (by show (f 62).toInt ≤ (65000 : Int); omega)) ?_
        rintro v787 S788 (⟨o789, s790, m791, g'792, hv793, hS794, hR801, h795, h796, h797, h798, h799, h800⟩)
        subst hv793
        have h795_ : (f 62).toInt ≤ o789.toInt := h795
        have h796_ : o789.toInt ≤ (f 62).toInt + 64 := h796
        have h797_ : (f 68).toInt ≤ s790.toInt := h797
        have h798_ : s790.toInt ≤ (f 68).toInt + 1 := h798
        have h799_ : o789.toInt + 64 * mj_n (g'792 16) (f 15).toNatClampNeg 3 ≤ (f 62).toInt + 64 * mj_n (g 16) (f 15).toNatClampNeg 3 := h799
        have h800_ : ∀ j, j ∉ [16, 60, 63, 64, 65, 66, 67, 69, 70, 71, 72, 73] → g'792 j = g j := h800
        have hR801_ : RJ (upd (upd (upd f 62 o789) 68 s790) 75 m791) g'792 gs bc [] 0 [] := hR801
        show am_E _ _ _ _ [some (.ref 39), some (.int r2), some (.int (f 4)), none] [] _ _
        refine am_e2 (v := 39) hi_211_131 rfl ?_
        refine am_e7 hi_211_132 ?_
        refine mm_20 (v := .int (f 4)) hS794 hi_211_133 rfl ?_
        refine am_e0 hi_211_136 ?_
        obtain ⟨z802, hz802, tz802⟩ := am_addI (x := f 4) (y := 1) (m := (f 4).toInt) (n := (1 : Int)) rfl (by decide) (by omega) (by omega)
        refine am_e10 (z := z802) hi_211_137 hz802 ?_
        refine mm_21 (v := z802) hS794 hi_211_138 rfl (Nat.le_of_ble_eq_true rfl) ms_4 ?_
        intro S803 hS804
        replace hS804 : MS S0 S803 (upd (upd (upd (upd f 4 z802) 62 o789) 68 s790) 75 m791) g'792 := hS804
        have hR805 : RJ (upd (upd (upd (upd f 4 z802) 62 o789) 68 s790) 75 m791) g'792 gs bc [] 0 [] := RJ.at hR801_ (by show (f 4).toInt ≤ z802.toInt; omega)
        refine am_e2 (v := 39) hi_211_141 rfl ?_
        refine am_e0 hi_211_142 ?_
        refine am_e32n (as := [.ref 39, .int 1]) (la := [some (.ref 39), some (.int 1)]) (rest := []) hi_211_143 (am_hd0 (M := 211) (by decide) 143) (Nat.le_of_ble_eq_true rfl) (Nat.le_of_ble_eq_true rfl) (show 2 ≤ am_P0.2.2.1 200 from by decide +kernel) rfl (am_recv_ok hS804.fs) rfl rfl (ct_take (d := (d + 3)) hS804   (by show (0 : Int) ≤ z802.toInt; omega) (by show (f 0).toInt ≤ (16384 : Int); omega) (by show (0 : Int) ≤ (1 : Int); omega)) ?_
        rintro v806 S807 (⟨z808, hv809, hS810, h811, h812⟩ | ⟨a814, b815, hv816, hS817⟩)
        · subst hv809
          have h811_ : z808.toInt = z802.toInt + 1 := h811
          have h812_ : z802.toInt < (f 0).toInt := h812
          replace hS810 : MS S0 S807 (upd (upd (upd (upd f 4 z808) 62 o789) 68 s790) 75 m791) g'792 := hS810
          have hR819 : RJ (upd (upd (upd (upd f 4 z808) 62 o789) 68 s790) 75 m791) g'792 gs bc [] 0 [] := RJ.at hR805 (by show z802.toInt ≤ z808.toInt; omega)
          show am_E _ _ _ _ [some (.ref 39), some (.int r2), some (.int (f 4)), none] [.int 1] _ _
          refine am_e12t hi_211_146 (by decide) ?_
          refine am_e2 (v := 39) hi_211_150 rfl ?_
          refine am_e0 hi_211_151 ?_
          refine am_e2 (v := 39) hi_211_153 rfl ?_
          refine mm_20 (v := .ref 41) hS810 hi_211_154 rfl ?_
          refine am_e1 (v := f 4) hi_211_157 rfl ?_
          refine am_e0 hi_211_158 ?_
          refine am_e10 (z := z802) hi_211_159 hz802 ?_
          refine mm_25 hS810 ma_2 hi_211_160 (by decide) (by omega) (by omega) ?_
          show am_E _ _ _ _ _ (.int (g'792 2 z802.toNatClampNeg) :: _) _ _
          rw [show g'792 2 = g 2 from h800_ 2 (by decide)]
          show am_E _ _ _ _ [some (.ref 39), some (.int r2), some (.int (f 4)), none] [.int (g 2 z802.toNatClampNeg), .int 14, .ref 39] _ _
          refine am_e0 hi_211_161 ?_
          refine am_e1 (v := f 4) hi_211_162 rfl ?_
          refine am_e32n (as := [.ref 39, .int 14, .int (g 2 z802.toNatClampNeg), .int 0, .int (f 4)]) (la := [some (.ref 39), some (.int 14), some (.int (g 2 z802.toNatClampNeg)), some (.int 0), some (.int (f 4))]) (rest := []) hi_211_163 (am_hd0 (M := 211) (by decide) 163) (Nat.le_of_ble_eq_true rfl) (Nat.le_of_ble_eq_true rfl) (show 5 ≤ am_P0.2.2.1 189 from by decide +kernel) rfl (am_recv_ok hS810.fs) rfl rfl (ct_put (d := (d + 5)) hS810 hR819  (by show (0 : Int) ≤ (f 32).toInt; omega) (by show (f 32).toInt ≤ (63 : Int); omega) (by show (f 53).toInt ≤ (4096 : Int); omega) (by show (0 : Int) ≤ s790.toInt; omega) (by show s790.toInt ≤ (65534 : Int); omega)) ?_
          rintro v820 S821 (⟨z822, r823, g'824, hv825, hS826, hR830, h827, h828, h829⟩)
          subst hv825
          have h827_ : z822.toInt = s790.toInt + 1 := h827
          have h828_ : r823.toInt = s790.toInt := h828
          have h829_ : ∀ j, j ∉ [60, 69, 70, 71, 72, 73] → g'824 j = g'792 j := h829
          replace hS826 : MS S0 S821 (upd (upd (upd (upd f 4 z808) 62 o789) 68 z822) 75 m791) g'824 := hS826
          have hR830_ : RJ (upd (upd (upd (upd f 4 z808) 62 o789) 68 z822) 75 m791) g'824 gs bc [] 0 (s790.toNatClampNeg :: []) := hR830
          show am_E _ _ _ _ [some (.ref 39), some (.int r2), some (.int (f 4)), none] [.int r823] _ _
          refine am_e6i hi_211_166 ?_
          refine am_e2 (v := 39) hi_211_167 rfl ?_
          refine am_e32n (as := [.ref 39]) (la := [some (.ref 39)]) (rest := []) hi_211_168 (am_hd0 (M := 211) (by decide) 168) (Nat.le_of_ble_eq_true rfl) (Nat.le_of_ble_eq_true rfl) (show 1 ≤ am_P0.2.2.1 183 from by decide +kernel) rfl (am_recv_ok hS826.fs) rfl rfl (ct_next (d := (d + 4)) hS826   (by show (0 : Int) ≤ z808.toInt; omega) (by show (f 0).toInt ≤ (16384 : Int); omega)) ?_
          rintro v831 S832 (⟨r833, hv834, hS835, h836⟩)
          subst hv834
          have h836_ : z808.toInt < (f 0).toInt ∨ r833.toInt = (-1 : Int) := h836
          show am_E _ _ _ _ [some (.ref 39), some (.int r2), some (.int (f 4)), none] [.int r833] _ _
          refine am_e3 (ls' := [some (.ref 39), some (.int r2), some (.int (f 4)), some (.int r833)]) hi_211_171 (Nat.le_of_ble_eq_true rfl) rfl ?_
          refine am_e1 (v := r833) hi_211_172 rfl ?_
          refine am_e0 hi_211_173 ?_
          by_cases c838 : r833.toInt = (60 : Int)
          · refine am_e13t hi_211_175 (am_cT (m := r833.toInt) (n := (60 : Int)) rfl (by decide) c838) ?_
            refine am_e2 (v := 39) hi_211_197 rfl ?_
            refine am_e0 hi_211_198 ?_
            refine am_e0 hi_211_200 ?_
            refine am_e0 hi_211_201 ?_
            refine am_e0 hi_211_202 ?_
            refine am_e32n (as := [.ref 39, .int 28, .int 0, .int 0, .int 0]) (la := [some (.ref 39), some (.int 28), some (.int 0), some (.int 0), some (.int 0)]) (rest := []) hi_211_203 (am_hd0 (M := 211) (by decide) 203) (Nat.le_of_ble_eq_true rfl) (Nat.le_of_ble_eq_true rfl) (show 5 ≤ am_P0.2.2.1 179 from by decide +kernel) rfl (am_recv_ok hS835.fs) rfl rfl (ct_pile (d := (d + 5)) hS835 hR830_ (mj_e_plain (by decide)) (by show (0 : Int) ≤ (f 10).toInt; omega) (by show (f 10).toInt ≤ (65535 : Int); omega)) ?_
            rintro v839 S840 (⟨z841, g'842, hv843, hS844, hR847, h845, h846⟩)
            subst hv843
            have h845_ : z841.toInt = (f 10).toInt + 1 := h845
            have h846_ : ∀ j, j ∉ [11, 12, 13, 14] → g'842 j = g'824 j := h846
            replace hS844 : MS S0 S840 (upd (upd (upd (upd (upd f 4 z808) 10 z841) 62 o789) 68 z822) 75 m791) g'842 := hS844
            have hR847_ : RJ (upd (upd (upd (upd (upd f 4 z808) 10 z841) 62 o789) 68 z822) 75 m791) g'842 (((28 : Int), (0 : Int), (0 : Int), (0 : Int), []) :: gs) bc [] 0 (s790.toNatClampNeg :: []) := hR847
            show am_E _ _ _ _ [some (.ref 39), some (.int r2), some (.int (f 4)), some (.int r833)] [] _ _
            refine am_e2 (v := 39) hi_211_206 rfl ?_
            refine am_e0 hi_211_207 ?_
            refine am_e32w (as := [.ref 39, .int 1]) (la := [some (.ref 39), some (.int 1), none]) (rest := []) hi_211_208 (am_hd0 (M := 211) (by decide) 208) (Nat.le_of_ble_eq_true rfl) (Nat.le_of_ble_eq_true rfl) (show 2 ≤ am_P0.2.2.1 212 from by decide +kernel) rfl (am_recv_ok hS844.fs) rfl rfl ?_
            refine am_e2 (v := 39) hi_212_0 rfl ?_
            refine mm_20 (v := .int z808) hS844 hi_212_1 rfl ?_
            refine am_e3 (ls' := [some (.ref 39), some (.int 1), some (.int z808)]) hi_212_4 (Nat.le_of_ble_eq_true rfl) rfl ?_
            refine am_e2 (v := 39) hi_212_5 rfl ?_
            refine am_e32n (as := [.ref 39]) (la := [some (.ref 39)]) (rest := []) hi_212_6 (am_hd0 (M := 212) (by decide) 6) (Nat.le_of_ble_eq_true rfl) (Nat.le_of_ble_eq_true rfl) (show 1 ≤ am_P0.2.2.1 183 from by decide +kernel) rfl (am_recv_ok hS844.fs) rfl rfl (ct_next (d := (d + 3)) hS844   (by show (0 : Int) ≤ z808.toInt; omega) (by show (f 0).toInt ≤ (16384 : Int); omega)) ?_
            rintro v848 S849 (⟨r850, hv851, hS852, h853⟩)
            subst hv851
            have h853_ : z808.toInt < (f 0).toInt ∨ r850.toInt = (-1 : Int) := h853
            show am_E _ _ _ _ [some (.ref 39), some (.int 1), some (.int z808)] [.int r850] _ _
            refine am_e0 hi_212_9 ?_
            by_cases c855 : ¬ r850.toInt = (3 : Int)
            · refine am_e13t hi_212_10 (am_cT (m := r850.toInt) (n := (3 : Int)) rfl (by decide) c855) ?_
              refine am_e2 (v := 39) hi_212_52 rfl ?_
              refine am_e32n (as := [.ref 39]) (la := [some (.ref 39)]) (rest := []) hi_212_53 (am_hd0 (M := 212) (by decide) 53) (Nat.le_of_ble_eq_true rfl) (Nat.le_of_ble_eq_true rfl) (show 1 ≤ am_P0.2.2.1 183 from by decide +kernel) rfl (am_recv_ok hS852.fs) rfl rfl (ct_next (d := (d + 3)) hS852   (by show (0 : Int) ≤ z808.toInt; omega) (by show (f 0).toInt ≤ (16384 : Int); omega)) ?_
              rintro v856 S857 (⟨r858, hv859, hS860, h861⟩)
              subst hv859
              have h861_ : z808.toInt < (f 0).toInt ∨ r858.toInt = (-1 : Int) := h861
              show am_E _ _ _ _ [some (.ref 39), some (.int 1), some (.int z808)] [.int r858] _ _
              refine am_e0 hi_212_56 ?_
              by_cases c863 : ¬ r858.toInt = (62 : Int)
              · refine am_e13t hi_212_58 (am_cT (m := r858.toInt) (n := (62 : Int)) rfl (by decide) c863) ?_
                refine am_e2 (v := 39) hi_212_77 rfl ?_
                refine am_e0 hi_212_78 ?_
                refine am_e32n (as := [.ref 39, .int 60]) (la := [some (.ref 39), some (.int 60)]) (rest := []) hi_212_80 (am_hd0 (M := 212) (by decide) 80) (Nat.le_of_ble_eq_true rfl) (Nat.le_of_ble_eq_true rfl) (show 2 ≤ am_P0.2.2.1 193 from by decide +kernel) rfl (am_recv_ok hS860.fs) rfl rfl (ct_enter (d := (d + 2)) hS860   (by show (0 : Int) ≤ z808.toInt; omega) (by show (f 0).toInt ≤ (16384 : Int); omega) (by show (0 : Int) ≤ (60 : Int); omega) (by show (0 : Int) ≤ (f 5).toInt; omega) (by show (f 5).toInt ≤ (48 : Int); omega)) ?_
                rintro v864 S865 (⟨z866, y867, hv868, hS869, h870, h871, h872, h873⟩ | ⟨a875, b876, hv877, hS878⟩)
                · subst hv868
                  have h870_ : z866.toInt = z808.toInt + 1 := h870
                  have h871_ : z808.toInt < (f 0).toInt := h871
                  have h872_ : y867.toInt = (f 5).toInt + 1 := h872
                  have h873_ : y867.toInt ≤ (48 : Int) := h873
                  replace hS869 : MS S0 S865 (upd (upd (upd (upd (upd (upd f 4 z866) 5 y867) 10 z841) 62 o789) 68 z822) 75 m791) g'842 := hS869
                  have hR880 : RJ (upd (upd (upd (upd (upd (upd f 4 z866) 5 y867) 10 z841) 62 o789) 68 z822) 75 m791) g'842 (((28 : Int), (0 : Int), (0 : Int), (0 : Int), []) :: gs) bc [] 0 (s790.toNatClampNeg :: []) := RJ.at hR847_ (by show z808.toInt ≤ z866.toInt; omega)
                  show am_E _ _ _ _ [some (.ref 39), some (.int 1), some (.int z808)] [.int 1] _ _
                  refine am_e12f hi_212_83 (by decide) ?_
                  refine am_e2 (v := 39) hi_212_86 rfl ?_
                  refine am_e32n (as := [.ref 39]) (la := [some (.ref 39)]) (rest := []) hi_212_87 (am_hd0 (M := 212) (by decide) 87) (Nat.le_of_ble_eq_true rfl) (Nat.le_of_ble_eq_true rfl) (show 1 ≤ am_P0.2.2.1 183 from by decide +kernel) rfl (am_recv_ok hS869.fs) rfl rfl (ct_next (d := (d + 3)) hS869   (by show (0 : Int) ≤ z866.toInt; omega) (by show (f 0).toInt ≤ (16384 : Int); omega)) ?_
                  rintro v881 S882 (⟨r883, hv884, hS885, h886⟩)
                  subst hv884
                  have h886_ : z866.toInt < (f 0).toInt ∨ r883.toInt = (-1 : Int) := h886
                  show am_E _ _ _ _ [some (.ref 39), some (.int 1), some (.int z808)] [.int r883] _ _
                  refine am_e0 hi_212_90 ?_
                  by_cases c888 : ¬ r883.toInt = (61 : Int)
                  · refine am_e13t hi_212_92 (am_cT (m := r883.toInt) (n := (61 : Int)) rfl (by decide) c888) ?_
                    refine am_e2 (v := 39) hi_212_112 rfl ?_
                    refine am_e0 hi_212_113 ?_
                    refine am_e1 (v := 1) hi_212_115 rfl ?_
                    refine am_e1 (v := z808) hi_212_116 rfl ?_
                    refine am_e0 hi_212_117 ?_
                    refine am_e32n (as := [.ref 39, .int 32, .int 1, .int z808, .int 0]) (la := [some (.ref 39), some (.int 32), some (.int 1), some (.int z808), some (.int 0)]) (rest := []) hi_212_118 (am_hd0 (M := 212) (by decide) 118) (Nat.le_of_ble_eq_true rfl) (Nat.le_of_ble_eq_true rfl) (show 5 ≤ am_P0.2.2.1 179 from by decide +kernel) rfl (am_recv_ok hS885.fs) rfl rfl (ct_pile (d := (d + 4)) hS885 hR880 (mj_e_plain (by decide)) (by show (0 : Int) ≤ z841.toInt; omega) (by show z841.toInt ≤ (65535 : Int); omega)) ?_
                    rintro v889 S890 (⟨z891, g'892, hv893, hS894, hR897, h895, h896⟩)
                    subst hv893
                    have h895_ : z891.toInt = z841.toInt + 1 := h895
                    have h896_ : ∀ j, j ∉ [11, 12, 13, 14] → g'892 j = g'842 j := h896
                    replace hS894 : MS S0 S890 (upd (upd (upd (upd (upd (upd f 4 z866) 5 y867) 10 z891) 62 o789) 68 z822) 75 m791) g'892 := hS894
                    have hR897_ : RJ (upd (upd (upd (upd (upd (upd f 4 z866) 5 y867) 10 z891) 62 o789) 68 z822) 75 m791) g'892 (((32 : Int), (1 : Int), z808.toInt, (0 : Int), []) :: (((28 : Int), (0 : Int), (0 : Int), (0 : Int), []) :: gs)) bc [] 0 (s790.toNatClampNeg :: []) := hR897
                    show am_E _ _ _ _ [some (.ref 39), some (.int 1), some (.int z808)] [] _ _
                    refine am_e2 (v := 39) hi_212_121 rfl ?_
                    refine am_e32w (as := [.ref 39]) (la := [some (.ref 39)]) (rest := []) hi_212_122 (am_hd0 (M := 212) (by decide) 122) (Nat.le_of_ble_eq_true rfl) (Nat.le_of_ble_eq_true rfl) (show 1 ≤ am_P0.2.2.1 214 from by decide +kernel) rfl (am_recv_ok hS894.fs) rfl rfl ?_
                    refine am_e2 (v := 39) hi_214_0 rfl ?_
                    refine am_e0 hi_214_1 ?_
                    refine am_e0 hi_214_3 ?_
                    refine am_e0 hi_214_4 ?_
                    refine am_e0 hi_214_5 ?_
                    refine am_e32n (as := [.ref 39, .int 34, .int 1, .int 0, .int 0]) (la := [some (.ref 39), some (.int 34), some (.int 1), some (.int 0), some (.int 0)]) (rest := []) hi_214_6 (am_hd0 (M := 214) (by decide) 6) (Nat.le_of_ble_eq_true rfl) (Nat.le_of_ble_eq_true rfl) (show 5 ≤ am_P0.2.2.1 179 from by decide +kernel) rfl (am_recv_ok hS894.fs) rfl rfl (ct_pile (d := (d + 3)) hS894 hR897_ (mj_e_plain (by decide)) (by show (0 : Int) ≤ z891.toInt; omega) (by show z891.toInt ≤ (65535 : Int); omega)) ?_
                    rintro v898 S899 (⟨z900, g'901, hv902, hS903, hR906, h904, h905⟩)
                    subst hv902
                    have h904_ : z900.toInt = z891.toInt + 1 := h904
                    have h905_ : ∀ j, j ∉ [11, 12, 13, 14] → g'901 j = g'892 j := h905
                    replace hS903 : MS S0 S899 (upd (upd (upd (upd (upd (upd f 4 z866) 5 y867) 10 z900) 62 o789) 68 z822) 75 m791) g'901 := hS903
                    have hR906_ : RJ (upd (upd (upd (upd (upd (upd f 4 z866) 5 y867) 10 z900) 62 o789) 68 z822) 75 m791) g'901 (((34 : Int), (1 : Int), (0 : Int), (0 : Int), []) :: (((32 : Int), (1 : Int), z808.toInt, (0 : Int), []) :: (((28 : Int), (0 : Int), (0 : Int), (0 : Int), []) :: gs))) bc [] 0 (s790.toNatClampNeg :: []) := hR906
                    show am_E _ _ _ _ [some (.ref 39)] [] _ _
                    refine am_e2 (v := 39) hi_214_9 rfl ?_
                    refine am_e0 hi_214_10 ?_
                    refine am_e32w (as := [.ref 39, .int 0]) (la := [some (.ref 39), some (.int 0)]) (rest := []) hi_214_11 (am_hd0 (M := 214) (by decide) 11) (Nat.le_of_ble_eq_true rfl) (Nat.le_of_ble_eq_true rfl) (show 2 ≤ am_P0.2.2.1 186 from by decide +kernel) rfl (am_recv_ok hS903.fs) rfl rfl ?_
                    refine am_e2 (v := 39) hi_186_0 rfl ?_
                    refine am_e0 hi_186_1 ?_
                    refine am_e1 (v := 0) hi_186_3 rfl ?_
                    refine am_e0 hi_186_4 ?_
                    refine am_e0 hi_186_5 ?_
                    refine am_e32n (as := [.ref 39, .int 23, .int 0, .int 0, .int 0]) (la := [some (.ref 39), some (.int 23), some (.int 0), some (.int 0), some (.int 0)]) (rest := []) hi_186_6 (am_hd0 (M := 186) (by decide) 6) (Nat.le_of_ble_eq_true rfl) (Nat.le_of_ble_eq_true rfl) (show 5 ≤ am_P0.2.2.1 179 from by decide +kernel) rfl (am_recv_ok hS903.fs) rfl rfl (ct_pile (d := (d + 2)) hS903 hR906_ (mj_e_plain (by decide)) (by show (0 : Int) ≤ z900.toInt; omega) (by show z900.toInt ≤ (65535 : Int); omega)) ?_
                    rintro v907 S908 (⟨z909, g'910, hv911, hS912, hR915, h913, h914⟩)
                    subst hv911
                    have h913_ : z909.toInt = z900.toInt + 1 := h913
                    have h914_ : ∀ j, j ∉ [11, 12, 13, 14] → g'910 j = g'901 j := h914
                    replace hS912 : MS S0 S908 (upd (upd (upd (upd (upd (upd f 4 z866) 5 y867) 10 z909) 62 o789) 68 z822) 75 m791) g'910 := hS912
                    have hR915_ : RJ (upd (upd (upd (upd (upd (upd f 4 z866) 5 y867) 10 z909) 62 o789) 68 z822) 75 m791) g'910 (((23 : Int), (0 : Int), (0 : Int), (0 : Int), []) :: (((34 : Int), (1 : Int), (0 : Int), (0 : Int), []) :: (((32 : Int), (1 : Int), z808.toInt, (0 : Int), []) :: (((28 : Int), (0 : Int), (0 : Int), (0 : Int), []) :: gs)))) bc [] 0 (s790.toNatClampNeg :: []) := hR915
                    show am_E _ _ _ _ [some (.ref 39), some (.int 0)] [] _ _
                    refine am_e35 hi_186_9 ?_
                    show am_E _ _ _ _ [some (.ref 39)] [] _ _
                    refine am_e35 hi_214_14 ?_
                    show am_E _ _ _ _ [some (.ref 39), some (.int 1), some (.int z808)] [] _ _
                    refine am_e35 hi_212_125 ?_
                    show am_E _ _ _ _ [some (.ref 39), some (.int r2), some (.int (f 4)), some (.int r833)] [] _ _
                    refine am_e18 hi_211_211 ?_
                    refine am_e35 hi_211_249 ?_
                    show am_E _ _ _ _ [some (.ref 39), some (.int 28), some (.int on), some (.int tw)] [] _ _
                    refine am_e18 hi_181_180 ?_
                    refine am_e35 hi_181_397 ?_
                    show am_E _ _ _ _ [some (.ref 39), some (.int 28), some (.int on), some (.int tw), some (.int th)] [] _ _
                    refine am_e35 hi_180_13 ?_
                    have q1 : mg_p1 (((23 : Int), (0 : Int), (0 : Int), (0 : Int), []) :: (((34 : Int), (1 : Int), (0 : Int), (0 : Int), []) :: (((32 : Int), (1 : Int), z808.toInt, (0 : Int), []) :: (((28 : Int), (0 : Int), (0 : Int), (0 : Int), []) :: gs)))) = 0 + (0 + (0 + (0 + (mg_p1 gs)))) := rfl
                    have q2 : mg_p2 (((23 : Int), (0 : Int), (0 : Int), (0 : Int), []) :: (((34 : Int), (1 : Int), (0 : Int), (0 : Int), []) :: (((32 : Int), (1 : Int), z808.toInt, (0 : Int), []) :: (((28 : Int), (0 : Int), (0 : Int), (0 : Int), []) :: gs)))) = 0 + (0 + (0 + (0 + (mg_p2 gs)))) := rfl
                    have q3 : mg_p3 (((23 : Int), (0 : Int), (0 : Int), (0 : Int), []) :: (((34 : Int), (1 : Int), (0 : Int), (0 : Int), []) :: (((32 : Int), (1 : Int), z808.toInt, (0 : Int), []) :: (((28 : Int), (0 : Int), (0 : Int), (0 : Int), []) :: gs)))) = 1 + (1 + (1 + (1 + (mg_p3 gs)))) := rfl
                    have q4 : mg_p4 (((23 : Int), (0 : Int), (0 : Int), (0 : Int), []) :: (((34 : Int), (1 : Int), (0 : Int), (0 : Int), []) :: (((32 : Int), (1 : Int), z808.toInt, (0 : Int), []) :: (((28 : Int), (0 : Int), (0 : Int), (0 : Int), []) :: gs)))) = 0 + (0 + (0 + (0 + (mg_p4 gs)))) := rfl
                    refine ⟨_, _, _, bc, rfl, hS912, Or.inl ⟨⟨(RJ.fewer (pj' := []) hR915_ (fun _ h => nomatch h)), ?_, ?_⟩, rfl, ?_⟩⟩
                    · exact (⟨⟨(show (0 : Int) ≤ 23 from by decide), (show (0 : Int) ≤ (f 15).toInt from by omega), (show 0 ≤ (f 20).toInt from by omega), (show 1 ≤ (f 37).toInt from by omega), (show 0 ≤ (f 32).toInt from by omega), (show (f 32).toInt ≤ y867.toInt from by omega), (show y867.toInt ≤ 48 from by omega), (show (f 37).toInt ≤ 2 * (y867.toInt) + 2 from by omega), (show 0 ≤ (0 : Int) from by omega)⟩, ⟨⟨(show (0 : Int) ≤ 34 from by decide), (show (1 : Int) ≤ (f 15).toInt + 1 from by omega), (show 0 ≤ (f 20).toInt from by omega), (show 1 ≤ (f 37).toInt + 0 from by omega), (show 0 ≤ (f 32).toInt + 0 from by omega), (show (f 32).toInt + 0 ≤ y867.toInt + 0 from by omega), (show y867.toInt + 0 ≤ 48 from by omega), (show (f 37).toInt + 0 ≤ 2 * (y867.toInt + 0) + 2 from by omega), trivial⟩, ⟨⟨(show (0 : Int) ≤ 32 from by decide), (show (2 : Int) ≤ (f 15).toInt + 1 + 0 from by omega), (show 0 ≤ (f 20).toInt from by omega), (show 1 ≤ (f 37).toInt + 0 + 0 from by omega), (show 0 ≤ (f 32).toInt + 0 + 0 from by omega), (show (f 32).toInt + 0 + 0 ≤ y867.toInt + 0 + 0 from by omega), (show y867.toInt + 0 + 0 ≤ 48 from by omega), (show (f 37).toInt + 0 + 0 ≤ 2 * (y867.toInt + 0 + 0) + 2 from by omega), trivial⟩, ⟨⟨(show (0 : Int) ≤ 28 from by decide), (show (1 : Int) ≤ (f 15).toInt + 1 + 0 + -1 from by omega), (show 0 ≤ (f 20).toInt from by omega), (show 1 ≤ (f 37).toInt + 0 + 0 + 0 from by omega), (show 0 ≤ (f 32).toInt + 0 + 0 + 0 from by omega), (show (f 32).toInt + 0 + 0 + 0 ≤ y867.toInt + 0 + 0 + -1 from by omega), (show y867.toInt + 0 + 0 + -1 ≤ 48 from by omega), (show (f 37).toInt + 0 + 0 + 0 ≤ 2 * (y867.toInt + 0 + 0 + -1) + 2 from by omega), trivial⟩, mg_cast (mg_good_ext _ _ _ _ _ _ (fun i _ => by show g'910 34 i = g 34 i; rw [show g'910 34 = g'901 34 from h914_ 34 (by decide), show g'901 34 = g'892 34 from h905_ 34 (by decide), show g'892 34 = g'842 34 from h896_ 34 (by decide), show g'842 34 = g'824 34 from h846_ 34 (by decide), show g'824 34 = g'792 34 from h829_ 34 (by decide), show g'792 34 = g 34 from h800_ 34 (by decide)]) (fun i _ => by show g'910 38 i = g 38 i; rw [show g'910 38 = g'901 38 from h914_ 38 (by decide), show g'901 38 = g'892 38 from h905_ 38 (by decide), show g'892 38 = g'842 38 from h896_ 38 (by decide), show g'842 38 = g'824 38 from h846_ 38 (by decide), show g'824 38 = g'792 38 from h829_ 38 (by decide), show g'792 38 = g 38 from h800_ 38 (by decide)]) hrest) (by show (f 15).toInt + 0 = (f 15).toInt + 1 + 0 + -1 + 0; omega) (by show (f 20).toInt = (f 20).toInt; omega) (by show (f 37).toInt + 0 = (f 37).toInt + 0 + 0 + 0 + 0; omega) (by show (f 32).toInt + 0 = (f 32).toInt + 0 + 0 + 0 + 0; omega) (by show (f 5).toInt + 0 = y867.toInt + 0 + 0 + -1 + 0; omega)⟩⟩⟩⟩ : mg_good (g'910 34) (g'910 38) (((23 : Int), (0 : Int), (0 : Int), (0 : Int), []) :: (((34 : Int), (1 : Int), (0 : Int), (0 : Int), []) :: (((32 : Int), (1 : Int), z808.toInt, (0 : Int), []) :: (((28 : Int), (0 : Int), (0 : Int), (0 : Int), []) :: gs)))) ((f 15).toInt) ((f 20).toInt) ((f 37).toInt) ((f 32).toInt) (y867.toInt))
                    · exact ⟨(by show 0 ≤ z866.toInt; omega), (by show z866.toInt ≤ (f 0).toInt; omega), (by show (f 0).toInt ≤ 512; omega), (by show 0 ≤ (f 24).toInt; omega), (by show (f 24).toInt + (f 20).toInt + mg_p1 (((23 : Int), (0 : Int), (0 : Int), (0 : Int), []) :: (((34 : Int), (1 : Int), (0 : Int), (0 : Int), []) :: (((32 : Int), (1 : Int), z808.toInt, (0 : Int), []) :: (((28 : Int), (0 : Int), (0 : Int), (0 : Int), []) :: gs)))) ≤ 4 * z866.toInt; omega), (by show (f 20).toInt ≤ z866.toInt; omega), (by show (f 15).toInt + mg_p2 (((23 : Int), (0 : Int), (0 : Int), (0 : Int), []) :: (((34 : Int), (1 : Int), (0 : Int), (0 : Int), []) :: (((32 : Int), (1 : Int), z808.toInt, (0 : Int), []) :: (((28 : Int), (0 : Int), (0 : Int), (0 : Int), []) :: gs)))) ≤ z866.toInt; omega), (by show mg_p3 (((23 : Int), (0 : Int), (0 : Int), (0 : Int), []) :: (((34 : Int), (1 : Int), (0 : Int), (0 : Int), []) :: (((32 : Int), (1 : Int), z808.toInt, (0 : Int), []) :: (((28 : Int), (0 : Int), (0 : Int), (0 : Int), []) :: gs)))) ≤ 20 * z866.toInt + 20; omega), (by show 0 ≤ z822.toInt; omega), (by show z822.toInt + 3 * (f 20).toInt + mg_p4 (((23 : Int), (0 : Int), (0 : Int), (0 : Int), []) :: (((34 : Int), (1 : Int), (0 : Int), (0 : Int), []) :: (((32 : Int), (1 : Int), z808.toInt, (0 : Int), []) :: (((28 : Int), (0 : Int), (0 : Int), (0 : Int), []) :: gs)))) ≤ 60 * z866.toInt + 60; omega), (by show 0 ≤ o789.toInt; omega), (by show o789.toInt + 64 * mj_n (g'910 16) (f 15).toNatClampNeg 3 ≤ 64 * z866.toInt; rw [show g'910 16 = g'901 16 from h914_ 16 (by decide), show g'901 16 = g'892 16 from h905_ 16 (by decide), show g'892 16 = g'842 16 from h896_ 16 (by decide), show g'842 16 = g'824 16 from h846_ 16 (by decide), show g'824 16 = g'792 16 from h829_ 16 (by decide)]; omega), (by show 0 ≤ (f 44).toInt; omega), (by show (f 44).toInt ≤ z866.toInt; omega), (by show 0 ≤ (f 48).toInt; omega), (by show (f 48).toInt ≤ z866.toInt; omega), (by show 1 ≤ (f 53).toInt; omega), (by show (f 53).toInt ≤ z866.toInt + 1; omega)⟩
                    · show 100 * ((f 0).toInt - z866.toInt) + mg_p3 (((23 : Int), (0 : Int), (0 : Int), (0 : Int), []) :: (((34 : Int), (1 : Int), (0 : Int), (0 : Int), []) :: (((32 : Int), (1 : Int), z808.toInt, (0 : Int), []) :: (((28 : Int), (0 : Int), (0 : Int), (0 : Int), []) :: gs)))) < 100 * ((f 0).toInt - (f 4).toInt) + (1 + mg_p3 gs); omega
                  · refine am_e13f hi_212_92 (am_cF (m := r883.toInt) (n := (61 : Int)) rfl (by decide) c888) ?_
                    refine am_e2 (v := 39) hi_212_95 rfl ?_
                    refine am_e0 hi_212_96 ?_
                    refine am_e32n (as := [.ref 39, .int 61]) (la := [some (.ref 39), some (.int 61)]) (rest := []) hi_212_98 (am_hd0 (M := 212) (by decide) 98) (Nat.le_of_ble_eq_true rfl) (Nat.le_of_ble_eq_true rfl) (show 2 ≤ am_P0.2.2.1 199 from by decide +kernel) rfl (am_recv_ok hS885.fs) rfl rfl (ct_leave (d := (d + 1)) hS885   (by show (0 : Int) ≤ z866.toInt; omega) (by show (f 0).toInt ≤ (16384 : Int); omega) (by show (0 : Int) ≤ (61 : Int); omega) (by show (0 : Int) ≤ y867.toInt; omega) (by show y867.toInt ≤ (48 : Int); omega)) ?_
                    rintro v916 S917 (⟨z918, y919, hv920, hS921, h922, h923, h924⟩ | ⟨a926, b927, hv928, hS929⟩)
                    · subst hv920
                      have h922_ : z918.toInt = z866.toInt + 1 := h922
                      have h923_ : z866.toInt < (f 0).toInt := h923
                      have h924_ : y919.toInt = y867.toInt - 1 := h924
                      replace hS921 : MS S0 S917 (upd (upd (upd (upd (upd (upd f 4 z918) 5 y919) 10 z841) 62 o789) 68 z822) 75 m791) g'842 := hS921
                      have hR931 : RJ (upd (upd (upd (upd (upd (upd f 4 z918) 5 y919) 10 z841) 62 o789) 68 z822) 75 m791) g'842 (((28 : Int), (0 : Int), (0 : Int), (0 : Int), []) :: gs) bc [] 0 (s790.toNatClampNeg :: []) := RJ.at hR880 (by show z866.toInt ≤ z918.toInt; omega)
                      show am_E _ _ _ _ [some (.ref 39), some (.int 1), some (.int z808)] [.int 1] _ _
                      refine am_e6i hi_212_101 ?_
                      refine am_e2 (v := 39) hi_212_102 rfl ?_
                      refine am_e1 (v := 1) hi_212_103 rfl ?_
                      refine am_e0 hi_212_104 ?_
                      refine am_e1 (v := z808) hi_212_105 rfl ?_
                      refine am_e32w (as := [.ref 39, .int 1, .int 0, .int z808]) (la := [some (.ref 39), some (.int 1), some (.int 0), some (.int z808), none]) (rest := []) hi_212_106 (am_hd0 (M := 212) (by decide) 106) (Nat.le_of_ble_eq_true rfl) (Nat.le_of_ble_eq_true rfl) (show 4 ≤ am_P0.2.2.1 213 from by decide +kernel) rfl (am_recv_ok hS921.fs) rfl rfl ?_
                      refine am_e2 (v := 39) hi_213_0 rfl ?_
                      refine am_e0 hi_213_1 ?_
                      refine am_e1 (v := 1) hi_213_3 rfl ?_
                      refine am_e1 (v := 0) hi_213_4 rfl ?_
                      refine am_e0 hi_213_5 ?_
                      refine am_e10 (z := 2) hi_213_6 (by decide) ?_
                      refine am_e1 (v := z808) hi_213_7 rfl ?_
                      refine am_e32n (as := [.ref 39, .int 13, .int 1, .int 2, .int z808]) (la := [some (.ref 39), some (.int 13), some (.int 1), some (.int 2), some (.int z808)]) (rest := []) hi_213_8 (am_hd0 (M := 213) (by decide) 8) (Nat.le_of_ble_eq_true rfl) (Nat.le_of_ble_eq_true rfl) (show 5 ≤ am_P0.2.2.1 189 from by decide +kernel) rfl (am_recv_ok hS921.fs) rfl rfl (ct_put (d := (d + 3)) hS921 hR931  (by show (0 : Int) ≤ (f 32).toInt; omega) (by show (f 32).toInt ≤ (63 : Int); omega) (by show (f 53).toInt ≤ (4096 : Int); omega) (by show (0 : Int) ≤ z822.toInt; omega) (by show z822.toInt ≤ (65534 : Int); omega)) ?_
                      rintro v932 S933 (⟨z934, r935, g'936, hv937, hS938, hR942, h939, h940, h941⟩)
                      subst hv937
                      have h939_ : z934.toInt = z822.toInt + 1 := h939
                      have h940_ : r935.toInt = z822.toInt := h940
                      have h941_ : ∀ j, j ∉ [60, 69, 70, 71, 72, 73] → g'936 j = g'842 j := h941
                      replace hS938 : MS S0 S933 (upd (upd (upd (upd (upd (upd f 4 z918) 5 y919) 10 z841) 62 o789) 68 z934) 75 m791) g'936 := hS938
                      have hR942_ : RJ (upd (upd (upd (upd (upd (upd f 4 z918) 5 y919) 10 z841) 62 o789) 68 z934) 75 m791) g'936 (((28 : Int), (0 : Int), (0 : Int), (0 : Int), []) :: gs) bc [] 0 (z822.toNatClampNeg :: (s790.toNatClampNeg :: [])) := hR942
                      show am_E _ _ _ _ [some (.ref 39), some (.int 1), some (.int 0), some (.int z808), none] [.int r935] _ _
                      refine am_e3 (ls' := [some (.ref 39), some (.int 1), some (.int 0), some (.int z808), some (.int r935)]) hi_213_11 (Nat.le_of_ble_eq_true rfl) rfl ?_
                      refine am_e2 (v := 39) hi_213_13 rfl ?_
                      refine am_e7 hi_213_14 ?_
                      refine mm_20 (v := .int (f 15)) hS938 hi_213_15 rfl ?_
                      refine am_e0 hi_213_18 ?_
                      obtain ⟨z943, hz943, tz943⟩ := am_subI (x := f 15) (y := 1) (m := (f 15).toInt) (n := (1 : Int)) rfl (by decide) (by omega) (by omega)
                      refine am_e10 (z := z943) hi_213_19 hz943 ?_
                      refine mm_21 (v := z943) hS938 hi_213_20 rfl (Nat.le_of_ble_eq_true rfl) ms_15 ?_
                      intro S944 hS945
                      replace hS945 : MS S0 S944 (upd (upd (upd (upd (upd (upd (upd f 4 z918) 5 y919) 10 z841) 15 z943) 62 o789) 68 z934) 75 m791) g'936 := hS945
                      have hp946 : mj_n (g'792 16) (f 15).toNatClampNeg 3 = mj_n (g'792 16) z943.toNatClampNeg 3 + if (g'792 16 z943.toNatClampNeg).toInt = 3 then 1 else 0 := mj_pop (by rw [cl_toNat, cl_toNat]; omega)
                      have hp9461 : mj_n (g'792 16) z943.toNatClampNeg 3 ≤ mj_n (g'792 16) (f 15).toNatClampNeg 3 := by rw [hp946]; split <;> omega
                      have hp9462 : (g'792 16 z943.toNatClampNeg).toInt = 3 → mj_n (g'792 16) z943.toNatClampNeg 3 + 1 ≤ mj_n (g'792 16) (f 15).toNatClampNeg 3 := fun q => by rw [hp946, if_pos q]; exact Int.le_refl _
                      refine am_e2 (v := 39) hi_213_23 rfl ?_
                      refine am_e0 hi_213_24 ?_
                      refine am_e1 (v := r935) hi_213_25 rfl ?_
                      refine am_e1 (v := z808) hi_213_27 rfl ?_
                      refine am_e32n (as := [.ref 39, .int 1, .int r935, .int z808]) (la := [some (.ref 39), some (.int 1), some (.int r935), some (.int z808)]) (rest := []) hi_213_28 (am_hd0 (M := 213) (by decide) 28) (Nat.le_of_ble_eq_true rfl) (Nat.le_of_ble_eq_true rfl) (show 4 ≤ am_P0.2.2.1 190 from by decide +kernel) rfl (am_recv_ok hS945.fs) rfl rfl (ct_value (d := (d + 3)) hS945 hR942_ (fun h => absurd h (by decide)) (fun _ => ⟨by omega, by omega⟩) (by show (0 : Int) ≤ z943.toInt; omega) (by show z943.toInt ≤ (32767 : Int); omega)) ?_
                      rintro v947 S948 (⟨z949, g'950, hv951, hS952, hR957, h953, h954, h955, h956⟩)
                      subst hv951
                      have h953_ : z949.toInt = z943.toInt + 1 := h953
                      have h954_ : ∀ j, j ∉ [16, 17, 18] → g'950 j = g'936 j := h954
                      have h955_ : mj_n (g'950 16) z949.toNatClampNeg 3 ≤ mj_n (g'792 16) z943.toNatClampNeg 3 + 1 := by rw [show g'936 16 = g'842 16 from h941_ 16 (by decide), show g'842 16 = g'824 16 from h846_ 16 (by decide), show g'824 16 = g'792 16 from h829_ 16 (by decide)] at h955; exact h955
                      have h956_ : (1 : Int) = 3 ∨ mj_n (g'950 16) z949.toNatClampNeg 3 ≤ mj_n (g'792 16) z943.toNatClampNeg 3 := by rw [show g'936 16 = g'842 16 from h941_ 16 (by decide), show g'842 16 = g'824 16 from h846_ 16 (by decide), show g'824 16 = g'792 16 from h829_ 16 (by decide)] at h956; exact h956
                      replace hS952 : MS S0 S948 (upd (upd (upd (upd (upd (upd (upd f 4 z918) 5 y919) 10 z841) 15 z949) 62 o789) 68 z934) 75 m791) g'950 := hS952
                      have hR957_ : RJ (upd (upd (upd (upd (upd (upd (upd f 4 z918) 5 y919) 10 z841) 15 z949) 62 o789) 68 z934) 75 m791) g'950 (((28 : Int), (0 : Int), (0 : Int), (0 : Int), []) :: gs) bc [] 0 (z822.toNatClampNeg :: (s790.toNatClampNeg :: [])) := hR957
                      show am_E _ _ _ _ [some (.ref 39), some (.int 1), some (.int 0), some (.int z808), some (.int r935)] [] _ _
                      refine am_e35 hi_213_31 ?_
                      show am_E _ _ _ _ [some (.ref 39), some (.int 1), some (.int z808)] [] _ _
                      refine am_e18 hi_212_109 ?_
                      refine am_e35 hi_212_125 ?_
                      show am_E _ _ _ _ [some (.ref 39), some (.int r2), some (.int (f 4)), some (.int r833)] [] _ _
                      refine am_e18 hi_211_211 ?_
                      refine am_e35 hi_211_249 ?_
                      show am_E _ _ _ _ [some (.ref 39), some (.int 28), some (.int on), some (.int tw)] [] _ _
                      refine am_e18 hi_181_180 ?_
                      refine am_e35 hi_181_397 ?_
                      show am_E _ _ _ _ [some (.ref 39), some (.int 28), some (.int on), some (.int tw), some (.int th)] [] _ _
                      refine am_e35 hi_180_13 ?_
                      have q1 : mg_p1 (((28 : Int), (0 : Int), (0 : Int), (0 : Int), []) :: gs) = 0 + (mg_p1 gs) := rfl
                      have q2 : mg_p2 (((28 : Int), (0 : Int), (0 : Int), (0 : Int), []) :: gs) = 0 + (mg_p2 gs) := rfl
                      have q3 : mg_p3 (((28 : Int), (0 : Int), (0 : Int), (0 : Int), []) :: gs) = 1 + (mg_p3 gs) := rfl
                      have q4 : mg_p4 (((28 : Int), (0 : Int), (0 : Int), (0 : Int), []) :: gs) = 0 + (mg_p4 gs) := rfl
                      refine ⟨_, _, _, bc, rfl, hS952, Or.inl ⟨⟨(RJ.fewer (pj' := []) hR957_ (fun _ h => nomatch h)), ?_, ?_⟩, rfl, ?_⟩⟩
                      · exact (⟨⟨(show (0 : Int) ≤ 28 from by decide), (show (1 : Int) ≤ z949.toInt from by omega), (show 0 ≤ (f 20).toInt from by omega), (show 1 ≤ (f 37).toInt from by omega), (show 0 ≤ (f 32).toInt from by omega), (show (f 32).toInt ≤ y919.toInt from by omega), (show y919.toInt ≤ 48 from by omega), (show (f 37).toInt ≤ 2 * (y919.toInt) + 2 from by omega), trivial⟩, mg_cast (mg_good_ext _ _ _ _ _ _ (fun i _ => by show g'950 34 i = g 34 i; rw [show g'950 34 = g'936 34 from h954_ 34 (by decide), show g'936 34 = g'842 34 from h941_ 34 (by decide), show g'842 34 = g'824 34 from h846_ 34 (by decide), show g'824 34 = g'792 34 from h829_ 34 (by decide), show g'792 34 = g 34 from h800_ 34 (by decide)]) (fun i _ => by show g'950 38 i = g 38 i; rw [show g'950 38 = g'936 38 from h954_ 38 (by decide), show g'936 38 = g'842 38 from h941_ 38 (by decide), show g'842 38 = g'824 38 from h846_ 38 (by decide), show g'824 38 = g'792 38 from h829_ 38 (by decide), show g'792 38 = g 38 from h800_ 38 (by decide)]) hrest) (by show (f 15).toInt + 0 = z949.toInt + 0; omega) (by show (f 20).toInt = (f 20).toInt; omega) (by show (f 37).toInt + 0 = (f 37).toInt + 0; omega) (by show (f 32).toInt + 0 = (f 32).toInt + 0; omega) (by show (f 5).toInt + 0 = y919.toInt + 0; omega)⟩ : mg_good (g'950 34) (g'950 38) (((28 : Int), (0 : Int), (0 : Int), (0 : Int), []) :: gs) (z949.toInt) ((f 20).toInt) ((f 37).toInt) ((f 32).toInt) (y919.toInt))
                      · exact ⟨(by show 0 ≤ z918.toInt; omega), (by show z918.toInt ≤ (f 0).toInt; omega), (by show (f 0).toInt ≤ 512; omega), (by show 0 ≤ (f 24).toInt; omega), (by show (f 24).toInt + (f 20).toInt + mg_p1 (((28 : Int), (0 : Int), (0 : Int), (0 : Int), []) :: gs) ≤ 4 * z918.toInt; omega), (by show (f 20).toInt ≤ z918.toInt; omega), (by show z949.toInt + mg_p2 (((28 : Int), (0 : Int), (0 : Int), (0 : Int), []) :: gs) ≤ z918.toInt; omega), (by show mg_p3 (((28 : Int), (0 : Int), (0 : Int), (0 : Int), []) :: gs) ≤ 20 * z918.toInt + 20; omega), (by show 0 ≤ z934.toInt; omega), (by show z934.toInt + 3 * (f 20).toInt + mg_p4 (((28 : Int), (0 : Int), (0 : Int), (0 : Int), []) :: gs) ≤ 60 * z918.toInt + 60; omega), (by show 0 ≤ o789.toInt; omega), (by show o789.toInt + 64 * mj_n (g'950 16) z949.toNatClampNeg 3 ≤ 64 * z918.toInt; omega), (by show 0 ≤ (f 44).toInt; omega), (by show (f 44).toInt ≤ z918.toInt; omega), (by show 0 ≤ (f 48).toInt; omega), (by show (f 48).toInt ≤ z918.toInt; omega), (by show 1 ≤ (f 53).toInt; omega), (by show (f 53).toInt ≤ z918.toInt + 1; omega)⟩
                      · show 100 * ((f 0).toInt - z918.toInt) + mg_p3 (((28 : Int), (0 : Int), (0 : Int), (0 : Int), []) :: gs) < 100 * ((f 0).toInt - (f 4).toInt) + (1 + mg_p3 gs); omega
                    · subst hv928
                      replace hS929 : MS S0 S917 (upd (upd (upd (upd (upd (upd (upd (upd f 4 z866) 5 y867) 6 a926) 7 b927) 10 0) 62 o789) 68 z822) 75 m791) g'842 := hS929
                      show am_E _ _ _ _ [some (.ref 39), some (.int 1), some (.int z808)] [.int 0] _ _
                      refine am_e6i hi_212_101 ?_
                      refine am_e2 (v := 39) hi_212_102 rfl ?_
                      refine am_e1 (v := 1) hi_212_103 rfl ?_
                      refine am_e0 hi_212_104 ?_
                      refine am_e1 (v := z808) hi_212_105 rfl ?_
                      refine am_e32w (as := [.ref 39, .int 1, .int 0, .int z808]) (la := [some (.ref 39), some (.int 1), some (.int 0), some (.int z808), none]) (rest := []) hi_212_106 (am_hd0 (M := 212) (by decide) 106) (Nat.le_of_ble_eq_true rfl) (Nat.le_of_ble_eq_true rfl) (show 4 ≤ am_P0.2.2.1 213 from by decide +kernel) rfl (am_recv_ok hS929.fs) rfl rfl ?_
                      refine am_e2 (v := 39) hi_213_0 rfl ?_
                      refine am_e0 hi_213_1 ?_
                      refine am_e1 (v := 1) hi_213_3 rfl ?_
                      refine am_e1 (v := 0) hi_213_4 rfl ?_
                      refine am_e0 hi_213_5 ?_
                      refine am_e10 (z := 2) hi_213_6 (by decide) ?_
                      refine am_e1 (v := z808) hi_213_7 rfl ?_
                      refine am_e32n (as := [.ref 39, .int 13, .int 1, .int 2, .int z808]) (la := [some (.ref 39), some (.int 13), some (.int 1), some (.int 2), some (.int z808)]) (rest := []) hi_213_8 (am_hd0 (M := 213) (by decide) 8) (Nat.le_of_ble_eq_true rfl) (Nat.le_of_ble_eq_true rfl) (show 5 ≤ am_P0.2.2.1 189 from by decide +kernel) rfl (am_recv_ok hS929.fs) rfl rfl (ct_put (d := (d + 3)) hS929 hR880  (by show (0 : Int) ≤ (f 32).toInt; omega) (by show (f 32).toInt ≤ (63 : Int); omega) (by show (f 53).toInt ≤ (4096 : Int); omega) (by show (0 : Int) ≤ z822.toInt; omega) (by show z822.toInt ≤ (65534 : Int); omega)) ?_
                      rintro v958 S959 (⟨z960, r961, g'962, hv963, hS964, hR968, h965, h966, h967⟩)
                      subst hv963
                      have h965_ : z960.toInt = z822.toInt + 1 := h965
                      have h966_ : r961.toInt = z822.toInt := h966
                      have h967_ : ∀ j, j ∉ [60, 69, 70, 71, 72, 73] → g'962 j = g'842 j := h967
                      replace hS964 : MS S0 S959 (upd (upd (upd (upd (upd (upd (upd (upd f 4 z866) 5 y867) 6 a926) 7 b927) 10 0) 62 o789) 68 z960) 75 m791) g'962 := hS964
                      have hR968_ : RJ (upd (upd (upd (upd (upd (upd (upd (upd f 4 z866) 5 y867) 6 a926) 7 b927) 10 0) 62 o789) 68 z960) 75 m791) g'962 (((28 : Int), (0 : Int), (0 : Int), (0 : Int), []) :: gs) bc [] 0 (z822.toNatClampNeg :: (s790.toNatClampNeg :: [])) := hR968
                      show am_E _ _ _ _ [some (.ref 39), some (.int 1), some (.int 0), some (.int z808), none] [.int r961] _ _
                      refine am_e3 (ls' := [some (.ref 39), some (.int 1), some (.int 0), some (.int z808), some (.int r961)]) hi_213_11 (Nat.le_of_ble_eq_true rfl) rfl ?_
                      refine am_e2 (v := 39) hi_213_13 rfl ?_
                      refine am_e7 hi_213_14 ?_
                      refine mm_20 (v := .int (f 15)) hS964 hi_213_15 rfl ?_
                      refine am_e0 hi_213_18 ?_
                      obtain ⟨z969, hz969, tz969⟩ := am_subI (x := f 15) (y := 1) (m := (f 15).toInt) (n := (1 : Int)) rfl (by decide) (by omega) (by omega)
                      refine am_e10 (z := z969) hi_213_19 hz969 ?_
                      refine mm_21 (v := z969) hS964 hi_213_20 rfl (Nat.le_of_ble_eq_true rfl) ms_15 ?_
                      intro S970 hS971
                      replace hS971 : MS S0 S970 (upd (upd (upd (upd (upd (upd (upd (upd (upd f 4 z866) 5 y867) 6 a926) 7 b927) 10 0) 15 z969) 62 o789) 68 z960) 75 m791) g'962 := hS971
                      have hp972 : mj_n (g'792 16) (f 15).toNatClampNeg 3 = mj_n (g'792 16) z969.toNatClampNeg 3 + if (g'792 16 z969.toNatClampNeg).toInt = 3 then 1 else 0 := mj_pop (by rw [cl_toNat, cl_toNat]; omega)
                      have hp9721 : mj_n (g'792 16) z969.toNatClampNeg 3 ≤ mj_n (g'792 16) (f 15).toNatClampNeg 3 := by rw [hp972]; split <;> omega
                      have hp9722 : (g'792 16 z969.toNatClampNeg).toInt = 3 → mj_n (g'792 16) z969.toNatClampNeg 3 + 1 ≤ mj_n (g'792 16) (f 15).toNatClampNeg 3 := fun q => by rw [hp972, if_pos q]; exact Int.le_refl _
                      refine am_e2 (v := 39) hi_213_23 rfl ?_
                      refine am_e0 hi_213_24 ?_
                      refine am_e1 (v := r961) hi_213_25 rfl ?_
                      refine am_e1 (v := z808) hi_213_27 rfl ?_
                      refine am_e32n (as := [.ref 39, .int 1, .int r961, .int z808]) (la := [some (.ref 39), some (.int 1), some (.int r961), some (.int z808)]) (rest := []) hi_213_28 (am_hd0 (M := 213) (by decide) 28) (Nat.le_of_ble_eq_true rfl) (Nat.le_of_ble_eq_true rfl) (show 4 ≤ am_P0.2.2.1 190 from by decide +kernel) rfl (am_recv_ok hS971.fs) rfl rfl (ct_value (d := (d + 3)) hS971 hR968_ (fun h => absurd h (by decide)) (fun _ => ⟨by omega, by omega⟩) (by show (0 : Int) ≤ z969.toInt; omega) (by show z969.toInt ≤ (32767 : Int); omega)) ?_
                      rintro v973 S974 (⟨z975, g'976, hv977, hS978, hR983, h979, h980, h981, h982⟩)
                      subst hv977
                      have h979_ : z975.toInt = z969.toInt + 1 := h979
                      have h980_ : ∀ j, j ∉ [16, 17, 18] → g'976 j = g'962 j := h980
                      have h981_ : mj_n (g'976 16) z975.toNatClampNeg 3 ≤ mj_n (g'792 16) z969.toNatClampNeg 3 + 1 := by rw [show g'962 16 = g'842 16 from h967_ 16 (by decide), show g'842 16 = g'824 16 from h846_ 16 (by decide), show g'824 16 = g'792 16 from h829_ 16 (by decide)] at h981; exact h981
                      have h982_ : (1 : Int) = 3 ∨ mj_n (g'976 16) z975.toNatClampNeg 3 ≤ mj_n (g'792 16) z969.toNatClampNeg 3 := by rw [show g'962 16 = g'842 16 from h967_ 16 (by decide), show g'842 16 = g'824 16 from h846_ 16 (by decide), show g'824 16 = g'792 16 from h829_ 16 (by decide)] at h982; exact h982
                      replace hS978 : MS S0 S974 (upd (upd (upd (upd (upd (upd (upd (upd (upd f 4 z866) 5 y867) 6 a926) 7 b927) 10 0) 15 z975) 62 o789) 68 z960) 75 m791) g'976 := hS978
                      have hR983_ : RJ (upd (upd (upd (upd (upd (upd (upd (upd (upd f 4 z866) 5 y867) 6 a926) 7 b927) 10 0) 15 z975) 62 o789) 68 z960) 75 m791) g'976 (((28 : Int), (0 : Int), (0 : Int), (0 : Int), []) :: gs) bc [] 0 (z822.toNatClampNeg :: (s790.toNatClampNeg :: [])) := hR983
                      show am_E _ _ _ _ [some (.ref 39), some (.int 1), some (.int 0), some (.int z808), some (.int r961)] [] _ _
                      refine am_e35 hi_213_31 ?_
                      show am_E _ _ _ _ [some (.ref 39), some (.int 1), some (.int z808)] [] _ _
                      refine am_e18 hi_212_109 ?_
                      refine am_e35 hi_212_125 ?_
                      show am_E _ _ _ _ [some (.ref 39), some (.int r2), some (.int (f 4)), some (.int r833)] [] _ _
                      refine am_e18 hi_211_211 ?_
                      refine am_e35 hi_211_249 ?_
                      show am_E _ _ _ _ [some (.ref 39), some (.int 28), some (.int on), some (.int tw)] [] _ _
                      refine am_e18 hi_181_180 ?_
                      refine am_e35 hi_181_397 ?_
                      show am_E _ _ _ _ [some (.ref 39), some (.int 28), some (.int on), some (.int tw), some (.int th)] [] _ _
                      refine am_e35 hi_180_13 ?_
                      have hRc := rj_clear0 hR983_
                      refine ⟨_, _, [], _, rfl, hS978, Or.inr ⟨hRc, rfl, (by show 0 ≤ z866.toInt; omega), (by show z866.toInt ≤ (f 0).toInt; omega), (by show 0 ≤ (f 32).toInt; omega), (by show (f 32).toInt ≤ 63; omega), (by show 1 ≤ (f 53).toInt; omega), (by show (f 53).toInt ≤ 600; omega), (by show 0 ≤ z960.toInt; omega), (by show z960.toInt ≤ 60000; omega), (by show 0 ≤ (f 48).toInt; omega), (by show (f 48).toInt ≤ 8000; omega), (by show 0 ≤ (f 37).toInt; omega), (by show (f 37).toInt ≤ 128; omega), (by show 0 ≤ o789.toInt; omega), (by show o789.toInt ≤ 65000; omega)⟩⟩
                · subst hv877
                  replace hS878 : MS S0 S865 (upd (upd (upd (upd (upd (upd (upd f 4 z808) 6 a875) 7 b876) 10 0) 62 o789) 68 z822) 75 m791) g'842 := hS878
                  show am_E _ _ _ _ [some (.ref 39), some (.int 1), some (.int z808)] [.int 0] _ _
                  refine am_e12t hi_212_83 (by decide) ?_
                  refine am_e35 hi_212_125 ?_
                  show am_E _ _ _ _ [some (.ref 39), some (.int r2), some (.int (f 4)), some (.int r833)] [] _ _
                  refine am_e18 hi_211_211 ?_
                  refine am_e35 hi_211_249 ?_
                  show am_E _ _ _ _ [some (.ref 39), some (.int 28), some (.int on), some (.int tw)] [] _ _
                  refine am_e18 hi_181_180 ?_
                  refine am_e35 hi_181_397 ?_
                  show am_E _ _ _ _ [some (.ref 39), some (.int 28), some (.int on), some (.int tw), some (.int th)] [] _ _
                  refine am_e35 hi_180_13 ?_
                  have hRc := rj_clear0 hR847_
                  refine ⟨_, _, [], _, rfl, hS878, Or.inr ⟨hRc, rfl, (by show 0 ≤ z808.toInt; omega), (by show z808.toInt ≤ (f 0).toInt; omega), (by show 0 ≤ (f 32).toInt; omega), (by show (f 32).toInt ≤ 63; omega), (by show 1 ≤ (f 53).toInt; omega), (by show (f 53).toInt ≤ 600; omega), (by show 0 ≤ z822.toInt; omega), (by show z822.toInt ≤ 60000; omega), (by show 0 ≤ (f 48).toInt; omega), (by show (f 48).toInt ≤ 8000; omega), (by show 0 ≤ (f 37).toInt; omega), (by show (f 37).toInt ≤ 128; omega), (by show 0 ≤ o789.toInt; omega), (by show o789.toInt ≤ 65000; omega)⟩⟩
              · refine am_e13f hi_212_58 (am_cF (m := r858.toInt) (n := (62 : Int)) rfl (by decide) c863) ?_
                refine am_e2 (v := 39) hi_212_61 rfl ?_
                refine am_e0 hi_212_62 ?_
                refine am_e1 (v := 1) hi_212_64 rfl ?_
                refine am_e1 (v := z808) hi_212_65 rfl ?_
                refine am_e0 hi_212_66 ?_
                refine am_e32n (as := [.ref 39, .int 33, .int 1, .int z808, .int 0]) (la := [some (.ref 39), some (.int 33), some (.int 1), some (.int z808), some (.int 0)]) (rest := []) hi_212_67 (am_hd0 (M := 212) (by decide) 67) (Nat.le_of_ble_eq_true rfl) (Nat.le_of_ble_eq_true rfl) (show 5 ≤ am_P0.2.2.1 179 from by decide +kernel) rfl (am_recv_ok hS860.fs) rfl rfl (ct_pile (d := (d + 4)) hS860 hR847_ (mj_e_plain (by decide)) (by show (0 : Int) ≤ z841.toInt; omega) (by show z841.toInt ≤ (65535 : Int); omega)) ?_
                rintro v984 S985 (⟨z986, g'987, hv988, hS989, hR992, h990, h991⟩)
                subst hv988
                have h990_ : z986.toInt = z841.toInt + 1 := h990
                have h991_ : ∀ j, j ∉ [11, 12, 13, 14] → g'987 j = g'842 j := h991
                replace hS989 : MS S0 S985 (upd (upd (upd (upd (upd f 4 z808) 10 z986) 62 o789) 68 z822) 75 m791) g'987 := hS989
                have hR992_ : RJ (upd (upd (upd (upd (upd f 4 z808) 10 z986) 62 o789) 68 z822) 75 m791) g'987 (((33 : Int), (1 : Int), z808.toInt, (0 : Int), []) :: (((28 : Int), (0 : Int), (0 : Int), (0 : Int), []) :: gs)) bc [] 0 (s790.toNatClampNeg :: []) := hR992
                show am_E _ _ _ _ [some (.ref 39), some (.int 1), some (.int z808)] [] _ _
                refine am_e2 (v := 39) hi_212_70 rfl ?_
                refine am_e32w (as := [.ref 39]) (la := [some (.ref 39), none]) (rest := []) hi_212_71 (am_hd0 (M := 212) (by decide) 71) (Nat.le_of_ble_eq_true rfl) (Nat.le_of_ble_eq_true rfl) (show 1 ≤ am_P0.2.2.1 192 from by decide +kernel) rfl (am_recv_ok hS989.fs) rfl rfl ?_
                refine am_e2 (v := 39) hi_192_0 rfl ?_
                refine mm_20 (v := .int z808) hS989 hi_192_1 rfl ?_
                refine am_e3 (ls' := [some (.ref 39), some (.int z808)]) hi_192_4 (Nat.le_of_ble_eq_true rfl) rfl ?_
                refine am_e2 (v := 39) hi_192_5 rfl ?_
                refine am_e0 hi_192_6 ?_
                refine am_e32n (as := [.ref 39, .int 62]) (la := [some (.ref 39), some (.int 62)]) (rest := []) hi_192_8 (am_hd0 (M := 192) (by decide) 8) (Nat.le_of_ble_eq_true rfl) (Nat.le_of_ble_eq_true rfl) (show 2 ≤ am_P0.2.2.1 193 from by decide +kernel) rfl (am_recv_ok hS989.fs) rfl rfl (ct_enter (d := (d + 1)) hS989   (by show (0 : Int) ≤ z808.toInt; omega) (by show (f 0).toInt ≤ (16384 : Int); omega) (by show (0 : Int) ≤ (62 : Int); omega) (by show (0 : Int) ≤ (f 5).toInt; omega) (by show (f 5).toInt ≤ (48 : Int); omega)) ?_
                rintro v993 S994 (⟨z995, y996, hv997, hS998, h999, h1000, h1001, h1002⟩ | ⟨a1004, b1005, hv1006, hS1007⟩)
                · subst hv997
                  have h999_ : z995.toInt = z808.toInt + 1 := h999
                  have h1000_ : z808.toInt < (f 0).toInt := h1000
                  have h1001_ : y996.toInt = (f 5).toInt + 1 := h1001
                  have h1002_ : y996.toInt ≤ (48 : Int) := h1002
                  replace hS998 : MS S0 S994 (upd (upd (upd (upd (upd (upd f 4 z995) 5 y996) 10 z986) 62 o789) 68 z822) 75 m791) g'987 := hS998
                  have hR1009 : RJ (upd (upd (upd (upd (upd (upd f 4 z995) 5 y996) 10 z986) 62 o789) 68 z822) 75 m791) g'987 (((33 : Int), (1 : Int), z808.toInt, (0 : Int), []) :: (((28 : Int), (0 : Int), (0 : Int), (0 : Int), []) :: gs)) bc [] 0 (s790.toNatClampNeg :: []) := RJ.at hR992_ (by show z808.toInt ≤ z995.toInt; omega)
                  show am_E _ _ _ _ [some (.ref 39), some (.int z808)] [.int 1] _ _
                  refine am_e12t hi_192_11 (by decide) ?_
                  refine am_e2 (v := 39) hi_192_15 rfl ?_
                  refine am_e0 hi_192_16 ?_
                  refine am_e0 hi_192_18 ?_
                  refine am_e0 hi_192_19 ?_
                  refine am_e1 (v := z808) hi_192_20 rfl ?_
                  refine am_e32n (as := [.ref 39, .int 20, .int 0, .int 0, .int z808]) (la := [some (.ref 39), some (.int 20), some (.int 0), some (.int 0), some (.int z808)]) (rest := []) hi_192_21 (am_hd0 (M := 192) (by decide) 21) (Nat.le_of_ble_eq_true rfl) (Nat.le_of_ble_eq_true rfl) (show 5 ≤ am_P0.2.2.1 189 from by decide +kernel) rfl (am_recv_ok hS998.fs) rfl rfl (ct_put (d := (d + 3)) hS998 hR1009  (by show (0 : Int) ≤ (f 32).toInt; omega) (by show (f 32).toInt ≤ (63 : Int); omega) (by show (f 53).toInt ≤ (4096 : Int); omega) (by show (0 : Int) ≤ z822.toInt; omega) (by show z822.toInt ≤ (65534 : Int); omega)) ?_
                  rintro v1010 S1011 (⟨z1012, r1013, g'1014, hv1015, hS1016, hR1020, h1017, h1018, h1019⟩)
                  subst hv1015
                  have h1017_ : z1012.toInt = z822.toInt + 1 := h1017
                  have h1018_ : r1013.toInt = z822.toInt := h1018
                  have h1019_ : ∀ j, j ∉ [60, 69, 70, 71, 72, 73] → g'1014 j = g'987 j := h1019
                  replace hS1016 : MS S0 S1011 (upd (upd (upd (upd (upd (upd f 4 z995) 5 y996) 10 z986) 62 o789) 68 z1012) 75 m791) g'1014 := hS1016
                  have hR1020_ : RJ (upd (upd (upd (upd (upd (upd f 4 z995) 5 y996) 10 z986) 62 o789) 68 z1012) 75 m791) g'1014 (((33 : Int), (1 : Int), z808.toInt, (0 : Int), []) :: (((28 : Int), (0 : Int), (0 : Int), (0 : Int), []) :: gs)) bc [] 0 (z822.toNatClampNeg :: (s790.toNatClampNeg :: [])) := hR1020
                  show am_E _ _ _ _ [some (.ref 39), some (.int z808)] [.int r1013] _ _
                  refine am_e6i hi_192_24 ?_
                  refine am_e2 (v := 39) hi_192_25 rfl ?_
                  refine am_e0 hi_192_26 ?_
                  refine am_e0 hi_192_27 ?_
                  refine am_e0 hi_192_28 ?_
                  refine am_e32n (as := [.ref 39, .int 0, .int 0, .int 0]) (la := [some (.ref 39), some (.int 0), some (.int 0), some (.int 0)]) (rest := []) hi_192_29 (am_hd0 (M := 192) (by decide) 29) (Nat.le_of_ble_eq_true rfl) (Nat.le_of_ble_eq_true rfl) (show 4 ≤ am_P0.2.2.1 190 from by decide +kernel) rfl (am_recv_ok hS1016.fs) rfl rfl (ct_value (d := (d + 3)) hS1016 hR1020_ (fun h => absurd h (by decide)) (fun h => absurd h (by decide)) (by show (0 : Int) ≤ (f 15).toInt; omega) (by show (f 15).toInt ≤ (32767 : Int); omega)) ?_
                  rintro v1021 S1022 (⟨z1023, g'1024, hv1025, hS1026, hR1031, h1027, h1028, h1029, h1030⟩)
                  subst hv1025
                  have h1027_ : z1023.toInt = (f 15).toInt + 1 := h1027
                  have h1028_ : ∀ j, j ∉ [16, 17, 18] → g'1024 j = g'1014 j := h1028
                  have h1029_ : mj_n (g'1024 16) z1023.toNatClampNeg 3 ≤ mj_n (g'792 16) (f 15).toNatClampNeg 3 + 1 := by rw [show g'1014 16 = g'987 16 from h1019_ 16 (by decide), show g'987 16 = g'842 16 from h991_ 16 (by decide), show g'842 16 = g'824 16 from h846_ 16 (by decide), show g'824 16 = g'792 16 from h829_ 16 (by decide)] at h1029; exact h1029
                  have h1030_ : (0 : Int) = 3 ∨ mj_n (g'1024 16) z1023.toNatClampNeg 3 ≤ mj_n (g'792 16) (f 15).toNatClampNeg 3 := by rw [show g'1014 16 = g'987 16 from h1019_ 16 (by decide), show g'987 16 = g'842 16 from h991_ 16 (by decide), show g'842 16 = g'824 16 from h846_ 16 (by decide), show g'824 16 = g'792 16 from h829_ 16 (by decide)] at h1030; exact h1030
                  replace hS1026 : MS S0 S1022 (upd (upd (upd (upd (upd (upd (upd f 4 z995) 5 y996) 10 z986) 15 z1023) 62 o789) 68 z1012) 75 m791) g'1024 := hS1026
                  have hR1031_ : RJ (upd (upd (upd (upd (upd (upd (upd f 4 z995) 5 y996) 10 z986) 15 z1023) 62 o789) 68 z1012) 75 m791) g'1024 (((33 : Int), (1 : Int), z808.toInt, (0 : Int), []) :: (((28 : Int), (0 : Int), (0 : Int), (0 : Int), []) :: gs)) bc [] 0 (z822.toNatClampNeg :: (s790.toNatClampNeg :: [])) := hR1031
                  show am_E _ _ _ _ [some (.ref 39), some (.int z808)] [] _ _
                  refine am_e2 (v := 39) hi_192_32 rfl ?_
                  refine am_e0 hi_192_33 ?_
                  refine am_e0 hi_192_35 ?_
                  refine am_e0 hi_192_36 ?_
                  refine am_e0 hi_192_37 ?_
                  refine am_e32n (as := [.ref 39, .int 35, .int 0, .int 0, .int 0]) (la := [some (.ref 39), some (.int 35), some (.int 0), some (.int 0), some (.int 0)]) (rest := []) hi_192_38 (am_hd0 (M := 192) (by decide) 38) (Nat.le_of_ble_eq_true rfl) (Nat.le_of_ble_eq_true rfl) (show 5 ≤ am_P0.2.2.1 179 from by decide +kernel) rfl (am_recv_ok hS1026.fs) rfl rfl (ct_pile (d := (d + 3)) hS1026 hR1031_ (mj_e_plain (by decide)) (by show (0 : Int) ≤ z986.toInt; omega) (by show z986.toInt ≤ (65535 : Int); omega)) ?_
                  rintro v1032 S1033 (⟨z1034, g'1035, hv1036, hS1037, hR1040, h1038, h1039⟩)
                  subst hv1036
                  have h1038_ : z1034.toInt = z986.toInt + 1 := h1038
                  have h1039_ : ∀ j, j ∉ [11, 12, 13, 14] → g'1035 j = g'1024 j := h1039
                  replace hS1037 : MS S0 S1033 (upd (upd (upd (upd (upd (upd (upd f 4 z995) 5 y996) 10 z1034) 15 z1023) 62 o789) 68 z1012) 75 m791) g'1035 := hS1037
                  have hR1040_ : RJ (upd (upd (upd (upd (upd (upd (upd f 4 z995) 5 y996) 10 z1034) 15 z1023) 62 o789) 68 z1012) 75 m791) g'1035 (((35 : Int), (0 : Int), (0 : Int), (0 : Int), []) :: (((33 : Int), (1 : Int), z808.toInt, (0 : Int), []) :: (((28 : Int), (0 : Int), (0 : Int), (0 : Int), []) :: gs))) bc [] 0 (z822.toNatClampNeg :: (s790.toNatClampNeg :: [])) := hR1040
                  show am_E _ _ _ _ [some (.ref 39), some (.int z808)] [] _ _
                  refine am_e35 hi_192_41 ?_
                  show am_E _ _ _ _ [some (.ref 39), some (.int 1), some (.int z808)] [] _ _
                  refine am_e18 hi_212_74 ?_
                  refine am_e35 hi_212_125 ?_
                  show am_E _ _ _ _ [some (.ref 39), some (.int r2), some (.int (f 4)), some (.int r833)] [] _ _
                  refine am_e18 hi_211_211 ?_
                  refine am_e35 hi_211_249 ?_
                  show am_E _ _ _ _ [some (.ref 39), some (.int 28), some (.int on), some (.int tw)] [] _ _
                  refine am_e18 hi_181_180 ?_
                  refine am_e35 hi_181_397 ?_
                  show am_E _ _ _ _ [some (.ref 39), some (.int 28), some (.int on), some (.int tw), some (.int th)] [] _ _
                  refine am_e35 hi_180_13 ?_
                  have q1 : mg_p1 (((35 : Int), (0 : Int), (0 : Int), (0 : Int), []) :: (((33 : Int), (1 : Int), z808.toInt, (0 : Int), []) :: (((28 : Int), (0 : Int), (0 : Int), (0 : Int), []) :: gs))) = 0 + (0 + (0 + (mg_p1 gs))) := rfl
                  have q2 : mg_p2 (((35 : Int), (0 : Int), (0 : Int), (0 : Int), []) :: (((33 : Int), (1 : Int), z808.toInt, (0 : Int), []) :: (((28 : Int), (0 : Int), (0 : Int), (0 : Int), []) :: gs))) = 0 + (0 + (0 + (mg_p2 gs))) := rfl
                  have q3 : mg_p3 (((35 : Int), (0 : Int), (0 : Int), (0 : Int), []) :: (((33 : Int), (1 : Int), z808.toInt, (0 : Int), []) :: (((28 : Int), (0 : Int), (0 : Int), (0 : Int), []) :: gs))) = 3 + (1 + (1 + (mg_p3 gs))) := rfl
                  have q4 : mg_p4 (((35 : Int), (0 : Int), (0 : Int), (0 : Int), []) :: (((33 : Int), (1 : Int), z808.toInt, (0 : Int), []) :: (((28 : Int), (0 : Int), (0 : Int), (0 : Int), []) :: gs))) = 0 + (3 + (0 + (mg_p4 gs))) := rfl
                  refine ⟨_, _, _, bc, rfl, hS1037, Or.inl ⟨⟨(RJ.fewer (pj' := []) hR1040_ (fun _ h => nomatch h)), ?_, ?_⟩, rfl, ?_⟩⟩
                  · exact (⟨⟨(show (0 : Int) ≤ 35 from by decide), (show (0 : Int) ≤ z1023.toInt from by omega), (show 0 ≤ (f 20).toInt from by omega), (show 1 ≤ (f 37).toInt from by omega), (show 0 ≤ (f 32).toInt from by omega), (show (f 32).toInt ≤ y996.toInt from by omega), (show y996.toInt ≤ 48 from by omega), (show (f 37).toInt ≤ 2 * (y996.toInt) + 2 from by omega), trivial⟩, ⟨⟨(show (0 : Int) ≤ 33 from by decide), (show (2 : Int) ≤ z1023.toInt + 0 from by omega), (show 0 ≤ (f 20).toInt from by omega), (show 1 ≤ (f 37).toInt + 0 from by omega), (show 0 ≤ (f 32).toInt + 0 from by omega), (show (f 32).toInt + 0 ≤ y996.toInt + -1 from by omega), (show y996.toInt + -1 ≤ 48 from by omega), (show (f 37).toInt + 0 ≤ 2 * (y996.toInt + -1) + 2 from by omega), trivial⟩, ⟨⟨(show (0 : Int) ≤ 28 from by decide), (show (1 : Int) ≤ z1023.toInt + 0 + -1 from by omega), (show 0 ≤ (f 20).toInt from by omega), (show 1 ≤ (f 37).toInt + 0 + 0 from by omega), (show 0 ≤ (f 32).toInt + 0 + 0 from by omega), (show (f 32).toInt + 0 + 0 ≤ y996.toInt + -1 + 0 from by omega), (show y996.toInt + -1 + 0 ≤ 48 from by omega), (show (f 37).toInt + 0 + 0 ≤ 2 * (y996.toInt + -1 + 0) + 2 from by omega), trivial⟩, mg_cast (mg_good_ext _ _ _ _ _ _ (fun i _ => by show g'1035 34 i = g 34 i; rw [show g'1035 34 = g'1024 34 from h1039_ 34 (by decide), show g'1024 34 = g'1014 34 from h1028_ 34 (by decide), show g'1014 34 = g'987 34 from h1019_ 34 (by decide), show g'987 34 = g'842 34 from h991_ 34 (by decide), show g'842 34 = g'824 34 from h846_ 34 (by decide), show g'824 34 = g'792 34 from h829_ 34 (by decide), show g'792 34 = g 34 from h800_ 34 (by decide)]) (fun i _ => by show g'1035 38 i = g 38 i; rw [show g'1035 38 = g'1024 38 from h1039_ 38 (by decide), show g'1024 38 = g'1014 38 from h1028_ 38 (by decide), show g'1014 38 = g'987 38 from h1019_ 38 (by decide), show g'987 38 = g'842 38 from h991_ 38 (by decide), show g'842 38 = g'824 38 from h846_ 38 (by decide), show g'824 38 = g'792 38 from h829_ 38 (by decide), show g'792 38 = g 38 from h800_ 38 (by decide)]) hrest) (by show (f 15).toInt + 0 = z1023.toInt + 0 + -1 + 0; omega) (by show (f 20).toInt = (f 20).toInt; omega) (by show (f 37).toInt + 0 = (f 37).toInt + 0 + 0 + 0; omega) (by show (f 32).toInt + 0 = (f 32).toInt + 0 + 0 + 0; omega) (by show (f 5).toInt + 0 = y996.toInt + -1 + 0 + 0; omega)⟩⟩⟩ : mg_good (g'1035 34) (g'1035 38) (((35 : Int), (0 : Int), (0 : Int), (0 : Int), []) :: (((33 : Int), (1 : Int), z808.toInt, (0 : Int), []) :: (((28 : Int), (0 : Int), (0 : Int), (0 : Int), []) :: gs))) (z1023.toInt) ((f 20).toInt) ((f 37).toInt) ((f 32).toInt) (y996.toInt))
                  · exact ⟨(by show 0 ≤ z995.toInt; omega), (by show z995.toInt ≤ (f 0).toInt; omega), (by show (f 0).toInt ≤ 512; omega), (by show 0 ≤ (f 24).toInt; omega), (by show (f 24).toInt + (f 20).toInt + mg_p1 (((35 : Int), (0 : Int), (0 : Int), (0 : Int), []) :: (((33 : Int), (1 : Int), z808.toInt, (0 : Int), []) :: (((28 : Int), (0 : Int), (0 : Int), (0 : Int), []) :: gs))) ≤ 4 * z995.toInt; omega), (by show (f 20).toInt ≤ z995.toInt; omega), (by show z1023.toInt + mg_p2 (((35 : Int), (0 : Int), (0 : Int), (0 : Int), []) :: (((33 : Int), (1 : Int), z808.toInt, (0 : Int), []) :: (((28 : Int), (0 : Int), (0 : Int), (0 : Int), []) :: gs))) ≤ z995.toInt; omega), (by show mg_p3 (((35 : Int), (0 : Int), (0 : Int), (0 : Int), []) :: (((33 : Int), (1 : Int), z808.toInt, (0 : Int), []) :: (((28 : Int), (0 : Int), (0 : Int), (0 : Int), []) :: gs))) ≤ 20 * z995.toInt + 20; omega), (by show 0 ≤ z1012.toInt; omega), (by show z1012.toInt + 3 * (f 20).toInt + mg_p4 (((35 : Int), (0 : Int), (0 : Int), (0 : Int), []) :: (((33 : Int), (1 : Int), z808.toInt, (0 : Int), []) :: (((28 : Int), (0 : Int), (0 : Int), (0 : Int), []) :: gs))) ≤ 60 * z995.toInt + 60; omega), (by show 0 ≤ o789.toInt; omega), (by show o789.toInt + 64 * mj_n (g'1035 16) z1023.toNatClampNeg 3 ≤ 64 * z995.toInt; rw [show g'1035 16 = g'1024 16 from h1039_ 16 (by decide)]; omega), (by show 0 ≤ (f 44).toInt; omega), (by show (f 44).toInt ≤ z995.toInt; omega), (by show 0 ≤ (f 48).toInt; omega), (by show (f 48).toInt ≤ z995.toInt; omega), (by show 1 ≤ (f 53).toInt; omega), (by show (f 53).toInt ≤ z995.toInt + 1; omega)⟩
                  · show 100 * ((f 0).toInt - z995.toInt) + mg_p3 (((35 : Int), (0 : Int), (0 : Int), (0 : Int), []) :: (((33 : Int), (1 : Int), z808.toInt, (0 : Int), []) :: (((28 : Int), (0 : Int), (0 : Int), (0 : Int), []) :: gs))) < 100 * ((f 0).toInt - (f 4).toInt) + (1 + mg_p3 gs); omega
                · subst hv1006
                  replace hS1007 : MS S0 S994 (upd (upd (upd (upd (upd (upd (upd f 4 z808) 6 a1004) 7 b1005) 10 0) 62 o789) 68 z822) 75 m791) g'987 := hS1007
                  show am_E _ _ _ _ [some (.ref 39), some (.int z808)] [.int 0] _ _
                  refine am_e12f hi_192_11 (by decide) ?_
                  refine am_e35 hi_192_14 ?_
                  show am_E _ _ _ _ [some (.ref 39), some (.int 1), some (.int z808)] [] _ _
                  refine am_e18 hi_212_74 ?_
                  refine am_e35 hi_212_125 ?_
                  show am_E _ _ _ _ [some (.ref 39), some (.int r2), some (.int (f 4)), some (.int r833)] [] _ _
                  refine am_e18 hi_211_211 ?_
                  refine am_e35 hi_211_249 ?_
                  show am_E _ _ _ _ [some (.ref 39), some (.int 28), some (.int on), some (.int tw)] [] _ _
                  refine am_e18 hi_181_180 ?_
                  refine am_e35 hi_181_397 ?_
                  show am_E _ _ _ _ [some (.ref 39), some (.int 28), some (.int on), some (.int tw), some (.int th)] [] _ _
                  refine am_e35 hi_180_13 ?_
                  have hRc := rj_clear0 hR992_
                  refine ⟨_, _, [], _, rfl, hS1007, Or.inr ⟨hRc, rfl, (by show 0 ≤ z808.toInt; omega), (by show z808.toInt ≤ (f 0).toInt; omega), (by show 0 ≤ (f 32).toInt; omega), (by show (f 32).toInt ≤ 63; omega), (by show 1 ≤ (f 53).toInt; omega), (by show (f 53).toInt ≤ 600; omega), (by show 0 ≤ z822.toInt; omega), (by show z822.toInt ≤ 60000; omega), (by show 0 ≤ (f 48).toInt; omega), (by show (f 48).toInt ≤ 8000; omega), (by show 0 ≤ (f 37).toInt; omega), (by show (f 37).toInt ≤ 128; omega), (by show 0 ≤ o789.toInt; omega), (by show o789.toInt ≤ 65000; omega)⟩⟩
            · refine am_e13f hi_212_10 (am_cF (m := r850.toInt) (n := (3 : Int)) rfl (by decide) c855) ?_
              refine am_e2 (v := 39) hi_212_13 rfl ?_
              refine am_e0 hi_212_14 ?_
              refine am_e2 (v := 39) hi_212_15 rfl ?_
              refine mm_20 (v := .ref 41) hS852 hi_212_16 rfl ?_
              refine am_e2 (v := 39) hi_212_19 rfl ?_
              refine mm_20 (v := .int z808) hS852 hi_212_20 rfl ?_
              refine mm_25 hS852 ma_2 hi_212_23 (by decide) (by omega) (by omega) ?_
              show am_E _ _ _ _ _ (.int (g'842 2 z808.toNatClampNeg) :: _) _ _
              rw [show g'842 2 = g'824 2 from h846_ 2 (by decide), show g'824 2 = g'792 2 from h829_ 2 (by decide), show g'792 2 = g 2 from h800_ 2 (by decide)]
              show am_E _ _ _ _ [some (.ref 39), some (.int 1), some (.int z808)] [.int (g 2 z808.toNatClampNeg), .int 5, .ref 39] _ _
              refine am_e0 hi_212_24 ?_
              refine am_e0 hi_212_25 ?_
              refine am_e32n (as := [.ref 39, .int 5, .int (g 2 z808.toNatClampNeg), .int 0, .int 0]) (la := [some (.ref 39), some (.int 5), some (.int (g 2 z808.toNatClampNeg)), some (.int 0), some (.int 0)]) (rest := []) hi_212_26 (am_hd0 (M := 212) (by decide) 26) (Nat.le_of_ble_eq_true rfl) (Nat.le_of_ble_eq_true rfl) (show 5 ≤ am_P0.2.2.1 189 from by decide +kernel) rfl (am_recv_ok hS852.fs) rfl rfl (ct_put (d := (d + 4)) hS852 hR847_  (by show (0 : Int) ≤ (f 32).toInt; omega) (by show (f 32).toInt ≤ (63 : Int); omega) (by show (f 53).toInt ≤ (4096 : Int); omega) (by show (0 : Int) ≤ z822.toInt; omega) (by show z822.toInt ≤ (65534 : Int); omega)) ?_
              rintro v1041 S1042 (⟨z1043, r1044, g'1045, hv1046, hS1047, hR1051, h1048, h1049, h1050⟩)
              subst hv1046
              have h1048_ : z1043.toInt = z822.toInt + 1 := h1048
              have h1049_ : r1044.toInt = z822.toInt := h1049
              have h1050_ : ∀ j, j ∉ [60, 69, 70, 71, 72, 73] → g'1045 j = g'842 j := h1050
              replace hS1047 : MS S0 S1042 (upd (upd (upd (upd (upd f 4 z808) 10 z841) 62 o789) 68 z1043) 75 m791) g'1045 := hS1047
              have hR1051_ : RJ (upd (upd (upd (upd (upd f 4 z808) 10 z841) 62 o789) 68 z1043) 75 m791) g'1045 (((28 : Int), (0 : Int), (0 : Int), (0 : Int), []) :: gs) bc [] 0 (z822.toNatClampNeg :: (s790.toNatClampNeg :: [])) := hR1051
              show am_E _ _ _ _ [some (.ref 39), some (.int 1), some (.int z808)] [.int r1044] _ _
              refine am_e6i hi_212_29 ?_
              refine am_e2 (v := 39) hi_212_30 rfl ?_
              refine am_e7 hi_212_31 ?_
              refine mm_20 (v := .int z808) hS1047 hi_212_32 rfl ?_
              refine am_e0 hi_212_35 ?_
              obtain ⟨z1052, hz1052, tz1052⟩ := am_addI (x := z808) (y := 1) (m := z808.toInt) (n := (1 : Int)) rfl (by decide) (by omega) (by omega)
              refine am_e10 (z := z1052) hi_212_36 hz1052 ?_
              refine mm_21 (v := z1052) hS1047 hi_212_37 rfl (Nat.le_of_ble_eq_true rfl) ms_4 ?_
              intro S1053 hS1054
              replace hS1054 : MS S0 S1053 (upd (upd (upd (upd (upd f 4 z1052) 10 z841) 62 o789) 68 z1043) 75 m791) g'1045 := hS1054
              have hR1055 : RJ (upd (upd (upd (upd (upd f 4 z1052) 10 z841) 62 o789) 68 z1043) 75 m791) g'1045 (((28 : Int), (0 : Int), (0 : Int), (0 : Int), []) :: gs) bc [] 0 (z822.toNatClampNeg :: (s790.toNatClampNeg :: [])) := RJ.at hR1051_ (by show z808.toInt ≤ z1052.toInt; omega)
              refine am_e2 (v := 39) hi_212_40 rfl ?_
              refine am_e0 hi_212_41 ?_
              refine am_e1 (v := 1) hi_212_42 rfl ?_
              refine am_e10 (z := 2) hi_212_43 (by decide) ?_
              refine am_e0 hi_212_44 ?_
              refine am_e1 (v := z808) hi_212_45 rfl ?_
              refine am_e32w (as := [.ref 39, .int 2, .int 0, .int z808]) (la := [some (.ref 39), some (.int 2), some (.int 0), some (.int z808), none]) (rest := []) hi_212_46 (am_hd0 (M := 212) (by decide) 46) (Nat.le_of_ble_eq_true rfl) (Nat.le_of_ble_eq_true rfl) (show 4 ≤ am_P0.2.2.1 213 from by decide +kernel) rfl (am_recv_ok hS1054.fs) rfl rfl ?_
              refine am_e2 (v := 39) hi_213_0 rfl ?_
              refine am_e0 hi_213_1 ?_
              refine am_e1 (v := 2) hi_213_3 rfl ?_
              refine am_e1 (v := 0) hi_213_4 rfl ?_
              refine am_e0 hi_213_5 ?_
              refine am_e10 (z := 2) hi_213_6 (by decide) ?_
              refine am_e1 (v := z808) hi_213_7 rfl ?_
              refine am_e32n (as := [.ref 39, .int 13, .int 2, .int 2, .int z808]) (la := [some (.ref 39), some (.int 13), some (.int 2), some (.int 2), some (.int z808)]) (rest := []) hi_213_8 (am_hd0 (M := 213) (by decide) 8) (Nat.le_of_ble_eq_true rfl) (Nat.le_of_ble_eq_true rfl) (show 5 ≤ am_P0.2.2.1 189 from by decide +kernel) rfl (am_recv_ok hS1054.fs) rfl rfl (ct_put (d := (d + 3)) hS1054 hR1055  (by show (0 : Int) ≤ (f 32).toInt; omega) (by show (f 32).toInt ≤ (63 : Int); omega) (by show (f 53).toInt ≤ (4096 : Int); omega) (by show (0 : Int) ≤ z1043.toInt; omega) (by show z1043.toInt ≤ (65534 : Int); omega)) ?_
              rintro v1056 S1057 (⟨z1058, r1059, g'1060, hv1061, hS1062, hR1066, h1063, h1064, h1065⟩)
              subst hv1061
              have h1063_ : z1058.toInt = z1043.toInt + 1 := h1063
              have h1064_ : r1059.toInt = z1043.toInt := h1064
              have h1065_ : ∀ j, j ∉ [60, 69, 70, 71, 72, 73] → g'1060 j = g'1045 j := h1065
              replace hS1062 : MS S0 S1057 (upd (upd (upd (upd (upd f 4 z1052) 10 z841) 62 o789) 68 z1058) 75 m791) g'1060 := hS1062
              have hR1066_ : RJ (upd (upd (upd (upd (upd f 4 z1052) 10 z841) 62 o789) 68 z1058) 75 m791) g'1060 (((28 : Int), (0 : Int), (0 : Int), (0 : Int), []) :: gs) bc [] 0 (z1043.toNatClampNeg :: (z822.toNatClampNeg :: (s790.toNatClampNeg :: []))) := hR1066
              show am_E _ _ _ _ [some (.ref 39), some (.int 2), some (.int 0), some (.int z808), none] [.int r1059] _ _
              refine am_e3 (ls' := [some (.ref 39), some (.int 2), some (.int 0), some (.int z808), some (.int r1059)]) hi_213_11 (Nat.le_of_ble_eq_true rfl) rfl ?_
              refine am_e2 (v := 39) hi_213_13 rfl ?_
              refine am_e7 hi_213_14 ?_
              refine mm_20 (v := .int (f 15)) hS1062 hi_213_15 rfl ?_
              refine am_e0 hi_213_18 ?_
              obtain ⟨z1067, hz1067, tz1067⟩ := am_subI (x := f 15) (y := 1) (m := (f 15).toInt) (n := (1 : Int)) rfl (by decide) (by omega) (by omega)
              refine am_e10 (z := z1067) hi_213_19 hz1067 ?_
              refine mm_21 (v := z1067) hS1062 hi_213_20 rfl (Nat.le_of_ble_eq_true rfl) ms_15 ?_
              intro S1068 hS1069
              replace hS1069 : MS S0 S1068 (upd (upd (upd (upd (upd (upd f 4 z1052) 10 z841) 15 z1067) 62 o789) 68 z1058) 75 m791) g'1060 := hS1069
              have hp1070 : mj_n (g'792 16) (f 15).toNatClampNeg 3 = mj_n (g'792 16) z1067.toNatClampNeg 3 + if (g'792 16 z1067.toNatClampNeg).toInt = 3 then 1 else 0 := mj_pop (by rw [cl_toNat, cl_toNat]; omega)
              have hp10701 : mj_n (g'792 16) z1067.toNatClampNeg 3 ≤ mj_n (g'792 16) (f 15).toNatClampNeg 3 := by rw [hp1070]; split <;> omega
              have hp10702 : (g'792 16 z1067.toNatClampNeg).toInt = 3 → mj_n (g'792 16) z1067.toNatClampNeg 3 + 1 ≤ mj_n (g'792 16) (f 15).toNatClampNeg 3 := fun q => by rw [hp1070, if_pos q]; exact Int.le_refl _
              refine am_e2 (v := 39) hi_213_23 rfl ?_
              refine am_e0 hi_213_24 ?_
              refine am_e1 (v := r1059) hi_213_25 rfl ?_
              refine am_e1 (v := z808) hi_213_27 rfl ?_
              refine am_e32n (as := [.ref 39, .int 1, .int r1059, .int z808]) (la := [some (.ref 39), some (.int 1), some (.int r1059), some (.int z808)]) (rest := []) hi_213_28 (am_hd0 (M := 213) (by decide) 28) (Nat.le_of_ble_eq_true rfl) (Nat.le_of_ble_eq_true rfl) (show 4 ≤ am_P0.2.2.1 190 from by decide +kernel) rfl (am_recv_ok hS1069.fs) rfl rfl (ct_value (d := (d + 3)) hS1069 hR1066_ (fun h => absurd h (by decide)) (fun _ => ⟨by omega, by omega⟩) (by show (0 : Int) ≤ z1067.toInt; omega) (by show z1067.toInt ≤ (32767 : Int); omega)) ?_
              rintro v1071 S1072 (⟨z1073, g'1074, hv1075, hS1076, hR1081, h1077, h1078, h1079, h1080⟩)
              subst hv1075
              have h1077_ : z1073.toInt = z1067.toInt + 1 := h1077
              have h1078_ : ∀ j, j ∉ [16, 17, 18] → g'1074 j = g'1060 j := h1078
              have h1079_ : mj_n (g'1074 16) z1073.toNatClampNeg 3 ≤ mj_n (g'792 16) z1067.toNatClampNeg 3 + 1 := by rw [show g'1060 16 = g'1045 16 from h1065_ 16 (by decide), show g'1045 16 = g'842 16 from h1050_ 16 (by decide), show g'842 16 = g'824 16 from h846_ 16 (by decide), show g'824 16 = g'792 16 from h829_ 16 (by decide)] at h1079; exact h1079
              have h1080_ : (1 : Int) = 3 ∨ mj_n (g'1074 16) z1073.toNatClampNeg 3 ≤ mj_n (g'792 16) z1067.toNatClampNeg 3 := by rw [show g'1060 16 = g'1045 16 from h1065_ 16 (by decide), show g'1045 16 = g'842 16 from h1050_ 16 (by decide), show g'842 16 = g'824 16 from h846_ 16 (by decide), show g'824 16 = g'792 16 from h829_ 16 (by decide)] at h1080; exact h1080
              replace hS1076 : MS S0 S1072 (upd (upd (upd (upd (upd (upd f 4 z1052) 10 z841) 15 z1073) 62 o789) 68 z1058) 75 m791) g'1074 := hS1076
              have hR1081_ : RJ (upd (upd (upd (upd (upd (upd f 4 z1052) 10 z841) 15 z1073) 62 o789) 68 z1058) 75 m791) g'1074 (((28 : Int), (0 : Int), (0 : Int), (0 : Int), []) :: gs) bc [] 0 (z1043.toNatClampNeg :: (z822.toNatClampNeg :: (s790.toNatClampNeg :: []))) := hR1081
              show am_E _ _ _ _ [some (.ref 39), some (.int 2), some (.int 0), some (.int z808), some (.int r1059)] [] _ _
              refine am_e35 hi_213_31 ?_
              show am_E _ _ _ _ [some (.ref 39), some (.int 1), some (.int z808)] [] _ _
              refine am_e18 hi_212_49 ?_
              refine am_e35 hi_212_125 ?_
              show am_E _ _ _ _ [some (.ref 39), some (.int r2), some (.int (f 4)), some (.int r833)] [] _ _
              refine am_e18 hi_211_211 ?_
              refine am_e35 hi_211_249 ?_
              show am_E _ _ _ _ [some (.ref 39), some (.int 28), some (.int on), some (.int tw)] [] _ _
              refine am_e18 hi_181_180 ?_
              refine am_e35 hi_181_397 ?_
              show am_E _ _ _ _ [some (.ref 39), some (.int 28), some (.int on), some (.int tw), some (.int th)] [] _ _
              refine am_e35 hi_180_13 ?_
              have q1 : mg_p1 (((28 : Int), (0 : Int), (0 : Int), (0 : Int), []) :: gs) = 0 + (mg_p1 gs) := rfl
              have q2 : mg_p2 (((28 : Int), (0 : Int), (0 : Int), (0 : Int), []) :: gs) = 0 + (mg_p2 gs) := rfl
              have q3 : mg_p3 (((28 : Int), (0 : Int), (0 : Int), (0 : Int), []) :: gs) = 1 + (mg_p3 gs) := rfl
              have q4 : mg_p4 (((28 : Int), (0 : Int), (0 : Int), (0 : Int), []) :: gs) = 0 + (mg_p4 gs) := rfl
              refine ⟨_, _, _, bc, rfl, hS1076, Or.inl ⟨⟨(RJ.fewer (pj' := []) hR1081_ (fun _ h => nomatch h)), ?_, ?_⟩, rfl, ?_⟩⟩
              · exact (⟨⟨(show (0 : Int) ≤ 28 from by decide), (show (1 : Int) ≤ z1073.toInt from by omega), (show 0 ≤ (f 20).toInt from by omega), (show 1 ≤ (f 37).toInt from by omega), (show 0 ≤ (f 32).toInt from by omega), (show (f 32).toInt ≤ (f 5).toInt from by omega), (show (f 5).toInt ≤ 48 from by omega), (show (f 37).toInt ≤ 2 * ((f 5).toInt) + 2 from by omega), trivial⟩, mg_cast (mg_good_ext _ _ _ _ _ _ (fun i _ => by show g'1074 34 i = g 34 i; rw [show g'1074 34 = g'1060 34 from h1078_ 34 (by decide), show g'1060 34 = g'1045 34 from h1065_ 34 (by decide), show g'1045 34 = g'842 34 from h1050_ 34 (by decide), show g'842 34 = g'824 34 from h846_ 34 (by decide), show g'824 34 = g'792 34 from h829_ 34 (by decide), show g'792 34 = g 34 from h800_ 34 (by decide)]) (fun i _ => by show g'1074 38 i = g 38 i; rw [show g'1074 38 = g'1060 38 from h1078_ 38 (by decide), show g'1060 38 = g'1045 38 from h1065_ 38 (by decide), show g'1045 38 = g'842 38 from h1050_ 38 (by decide), show g'842 38 = g'824 38 from h846_ 38 (by decide), show g'824 38 = g'792 38 from h829_ 38 (by decide), show g'792 38 = g 38 from h800_ 38 (by decide)]) hrest) (by show (f 15).toInt + 0 = z1073.toInt + 0; omega) (by show (f 20).toInt = (f 20).toInt; omega) (by show (f 37).toInt + 0 = (f 37).toInt + 0; omega) (by show (f 32).toInt + 0 = (f 32).toInt + 0; omega) (by show (f 5).toInt + 0 = (f 5).toInt + 0; omega)⟩ : mg_good (g'1074 34) (g'1074 38) (((28 : Int), (0 : Int), (0 : Int), (0 : Int), []) :: gs) (z1073.toInt) ((f 20).toInt) ((f 37).toInt) ((f 32).toInt) ((f 5).toInt))
              · exact ⟨(by show 0 ≤ z1052.toInt; omega), (by show z1052.toInt ≤ (f 0).toInt; omega), (by show (f 0).toInt ≤ 512; omega), (by show 0 ≤ (f 24).toInt; omega), (by show (f 24).toInt + (f 20).toInt + mg_p1 (((28 : Int), (0 : Int), (0 : Int), (0 : Int), []) :: gs) ≤ 4 * z1052.toInt; omega), (by show (f 20).toInt ≤ z1052.toInt; omega), (by show z1073.toInt + mg_p2 (((28 : Int), (0 : Int), (0 : Int), (0 : Int), []) :: gs) ≤ z1052.toInt; omega), (by show mg_p3 (((28 : Int), (0 : Int), (0 : Int), (0 : Int), []) :: gs) ≤ 20 * z1052.toInt + 20; omega), (by show 0 ≤ z1058.toInt; omega), (by show z1058.toInt + 3 * (f 20).toInt + mg_p4 (((28 : Int), (0 : Int), (0 : Int), (0 : Int), []) :: gs) ≤ 60 * z1052.toInt + 60; omega), (by show 0 ≤ o789.toInt; omega), (by show o789.toInt + 64 * mj_n (g'1074 16) z1073.toNatClampNeg 3 ≤ 64 * z1052.toInt; omega), (by show 0 ≤ (f 44).toInt; omega), (by show (f 44).toInt ≤ z1052.toInt; omega), (by show 0 ≤ (f 48).toInt; omega), (by show (f 48).toInt ≤ z1052.toInt; omega), (by show 1 ≤ (f 53).toInt; omega), (by show (f 53).toInt ≤ z1052.toInt + 1; omega)⟩
              · show 100 * ((f 0).toInt - z1052.toInt) + mg_p3 (((28 : Int), (0 : Int), (0 : Int), (0 : Int), []) :: gs) < 100 * ((f 0).toInt - (f 4).toInt) + (1 + mg_p3 gs); omega
          · refine am_e13f hi_211_175 (am_cF (m := r833.toInt) (n := (60 : Int)) rfl (by decide) c838) ?_
            refine am_e1 (v := r833) hi_211_178 rfl ?_
            refine am_e0 hi_211_179 ?_
            by_cases c1082 : r833.toInt = (3 : Int)
            · refine am_e13t hi_211_180 (am_cT (m := r833.toInt) (n := (3 : Int)) rfl (by decide) c1082) ?_
              refine am_e2 (v := 39) hi_211_197 rfl ?_
              refine am_e0 hi_211_198 ?_
              refine am_e0 hi_211_200 ?_
              refine am_e0 hi_211_201 ?_
              refine am_e0 hi_211_202 ?_
              refine am_e32n (as := [.ref 39, .int 28, .int 0, .int 0, .int 0]) (la := [some (.ref 39), some (.int 28), some (.int 0), some (.int 0), some (.int 0)]) (rest := []) hi_211_203 (am_hd0 (M := 211) (by decide) 203) (Nat.le_of_ble_eq_true rfl) (Nat.le_of_ble_eq_true rfl) (show 5 ≤ am_P0.2.2.1 179 from by decide +kernel) rfl (am_recv_ok hS835.fs) rfl rfl (ct_pile (d := (d + 5)) hS835 hR830_ (mj_e_plain (by decide)) (by show (0 : Int) ≤ (f 10).toInt; omega) (by show (f 10).toInt ≤ (65535 : Int); omega)) ?_
              rintro v1083 S1084 (⟨z1085, g'1086, hv1087, hS1088, hR1091, h1089, h1090⟩)
              subst hv1087
              have h1089_ : z1085.toInt = (f 10).toInt + 1 := h1089
              have h1090_ : ∀ j, j ∉ [11, 12, 13, 14] → g'1086 j = g'824 j := h1090
              replace hS1088 : MS S0 S1084 (upd (upd (upd (upd (upd f 4 z808) 10 z1085) 62 o789) 68 z822) 75 m791) g'1086 := hS1088
              have hR1091_ : RJ (upd (upd (upd (upd (upd f 4 z808) 10 z1085) 62 o789) 68 z822) 75 m791) g'1086 (((28 : Int), (0 : Int), (0 : Int), (0 : Int), []) :: gs) bc [] 0 (s790.toNatClampNeg :: []) := hR1091
              show am_E _ _ _ _ [some (.ref 39), some (.int r2), some (.int (f 4)), some (.int r833)] [] _ _
              refine am_e2 (v := 39) hi_211_206 rfl ?_
              refine am_e0 hi_211_207 ?_
              refine am_e32w (as := [.ref 39, .int 1]) (la := [some (.ref 39), some (.int 1), none]) (rest := []) hi_211_208 (am_hd0 (M := 211) (by decide) 208) (Nat.le_of_ble_eq_true rfl) (Nat.le_of_ble_eq_true rfl) (show 2 ≤ am_P0.2.2.1 212 from by decide +kernel) rfl (am_recv_ok hS1088.fs) rfl rfl ?_
              refine am_e2 (v := 39) hi_212_0 rfl ?_
              refine mm_20 (v := .int z808) hS1088 hi_212_1 rfl ?_
              refine am_e3 (ls' := [some (.ref 39), some (.int 1), some (.int z808)]) hi_212_4 (Nat.le_of_ble_eq_true rfl) rfl ?_
              refine am_e2 (v := 39) hi_212_5 rfl ?_
              refine am_e32n (as := [.ref 39]) (la := [some (.ref 39)]) (rest := []) hi_212_6 (am_hd0 (M := 212) (by decide) 6) (Nat.le_of_ble_eq_true rfl) (Nat.le_of_ble_eq_true rfl) (show 1 ≤ am_P0.2.2.1 183 from by decide +kernel) rfl (am_recv_ok hS1088.fs) rfl rfl (ct_next (d := (d + 3)) hS1088   (by show (0 : Int) ≤ z808.toInt; omega) (by show (f 0).toInt ≤ (16384 : Int); omega)) ?_
              rintro v1092 S1093 (⟨r1094, hv1095, hS1096, h1097⟩)
              subst hv1095
              have h1097_ : z808.toInt < (f 0).toInt ∨ r1094.toInt = (-1 : Int) := h1097
              show am_E _ _ _ _ [some (.ref 39), some (.int 1), some (.int z808)] [.int r1094] _ _
              refine am_e0 hi_212_9 ?_
              by_cases c1099 : ¬ r1094.toInt = (3 : Int)
              · refine am_e13t hi_212_10 (am_cT (m := r1094.toInt) (n := (3 : Int)) rfl (by decide) c1099) ?_
                refine am_e2 (v := 39) hi_212_52 rfl ?_
                refine am_e32n (as := [.ref 39]) (la := [some (.ref 39)]) (rest := []) hi_212_53 (am_hd0 (M := 212) (by decide) 53) (Nat.le_of_ble_eq_true rfl) (Nat.le_of_ble_eq_true rfl) (show 1 ≤ am_P0.2.2.1 183 from by decide +kernel) rfl (am_recv_ok hS1096.fs) rfl rfl (ct_next (d := (d + 3)) hS1096   (by show (0 : Int) ≤ z808.toInt; omega) (by show (f 0).toInt ≤ (16384 : Int); omega)) ?_
                rintro v1100 S1101 (⟨r1102, hv1103, hS1104, h1105⟩)
                subst hv1103
                have h1105_ : z808.toInt < (f 0).toInt ∨ r1102.toInt = (-1 : Int) := h1105
                show am_E _ _ _ _ [some (.ref 39), some (.int 1), some (.int z808)] [.int r1102] _ _
                refine am_e0 hi_212_56 ?_
                by_cases c1107 : ¬ r1102.toInt = (62 : Int)
                · refine am_e13t hi_212_58 (am_cT (m := r1102.toInt) (n := (62 : Int)) rfl (by decide) c1107) ?_
                  refine am_e2 (v := 39) hi_212_77 rfl ?_
                  refine am_e0 hi_212_78 ?_
                  refine am_e32n (as := [.ref 39, .int 60]) (la := [some (.ref 39), some (.int 60)]) (rest := []) hi_212_80 (am_hd0 (M := 212) (by decide) 80) (Nat.le_of_ble_eq_true rfl) (Nat.le_of_ble_eq_true rfl) (show 2 ≤ am_P0.2.2.1 193 from by decide +kernel) rfl (am_recv_ok hS1104.fs) rfl rfl (ct_enter (d := (d + 2)) hS1104   (by show (0 : Int) ≤ z808.toInt; omega) (by show (f 0).toInt ≤ (16384 : Int); omega) (by show (0 : Int) ≤ (60 : Int); omega) (by show (0 : Int) ≤ (f 5).toInt; omega) (by show (f 5).toInt ≤ (48 : Int); omega)) ?_
                  rintro v1108 S1109 (⟨z1110, y1111, hv1112, hS1113, h1114, h1115, h1116, h1117⟩ | ⟨a1119, b1120, hv1121, hS1122⟩)
                  · subst hv1112
                    have h1114_ : z1110.toInt = z808.toInt + 1 := h1114
                    have h1115_ : z808.toInt < (f 0).toInt := h1115
                    have h1116_ : y1111.toInt = (f 5).toInt + 1 := h1116
                    have h1117_ : y1111.toInt ≤ (48 : Int) := h1117
                    replace hS1113 : MS S0 S1109 (upd (upd (upd (upd (upd (upd f 4 z1110) 5 y1111) 10 z1085) 62 o789) 68 z822) 75 m791) g'1086 := hS1113
                    have hR1124 : RJ (upd (upd (upd (upd (upd (upd f 4 z1110) 5 y1111) 10 z1085) 62 o789) 68 z822) 75 m791) g'1086 (((28 : Int), (0 : Int), (0 : Int), (0 : Int), []) :: gs) bc [] 0 (s790.toNatClampNeg :: []) := RJ.at hR1091_ (by show z808.toInt ≤ z1110.toInt; omega)
                    show am_E _ _ _ _ [some (.ref 39), some (.int 1), some (.int z808)] [.int 1] _ _
                    refine am_e12f hi_212_83 (by decide) ?_
                    refine am_e2 (v := 39) hi_212_86 rfl ?_
                    refine am_e32n (as := [.ref 39]) (la := [some (.ref 39)]) (rest := []) hi_212_87 (am_hd0 (M := 212) (by decide) 87) (Nat.le_of_ble_eq_true rfl) (Nat.le_of_ble_eq_true rfl) (show 1 ≤ am_P0.2.2.1 183 from by decide +kernel) rfl (am_recv_ok hS1113.fs) rfl rfl (ct_next (d := (d + 3)) hS1113   (by show (0 : Int) ≤ z1110.toInt; omega) (by show (f 0).toInt ≤ (16384 : Int); omega)) ?_
                    rintro v1125 S1126 (⟨r1127, hv1128, hS1129, h1130⟩)
                    subst hv1128
                    have h1130_ : z1110.toInt < (f 0).toInt ∨ r1127.toInt = (-1 : Int) := h1130
                    show am_E _ _ _ _ [some (.ref 39), some (.int 1), some (.int z808)] [.int r1127] _ _
                    refine am_e0 hi_212_90 ?_
                    by_cases c1132 : ¬ r1127.toInt = (61 : Int)
                    · refine am_e13t hi_212_92 (am_cT (m := r1127.toInt) (n := (61 : Int)) rfl (by decide) c1132) ?_
                      refine am_e2 (v := 39) hi_212_112 rfl ?_
                      refine am_e0 hi_212_113 ?_
                      refine am_e1 (v := 1) hi_212_115 rfl ?_
                      refine am_e1 (v := z808) hi_212_116 rfl ?_
                      refine am_e0 hi_212_117 ?_
                      refine am_e32n (as := [.ref 39, .int 32, .int 1, .int z808, .int 0]) (la := [some (.ref 39), some (.int 32), some (.int 1), some (.int z808), some (.int 0)]) (rest := []) hi_212_118 (am_hd0 (M := 212) (by decide) 118) (Nat.le_of_ble_eq_true rfl) (Nat.le_of_ble_eq_true rfl) (show 5 ≤ am_P0.2.2.1 179 from by decide +kernel) rfl (am_recv_ok hS1129.fs) rfl rfl (ct_pile (d := (d + 4)) hS1129 hR1124 (mj_e_plain (by decide)) (by show (0 : Int) ≤ z1085.toInt; omega) (by show z1085.toInt ≤ (65535 : Int); omega)) ?_
                      rintro v1133 S1134 (⟨z1135, g'1136, hv1137, hS1138, hR1141, h1139, h1140⟩)
                      subst hv1137
                      have h1139_ : z1135.toInt = z1085.toInt + 1 := h1139
                      have h1140_ : ∀ j, j ∉ [11, 12, 13, 14] → g'1136 j = g'1086 j := h1140
                      replace hS1138 : MS S0 S1134 (upd (upd (upd (upd (upd (upd f 4 z1110) 5 y1111) 10 z1135) 62 o789) 68 z822) 75 m791) g'1136 := hS1138
                      have hR1141_ : RJ (upd (upd (upd (upd (upd (upd f 4 z1110) 5 y1111) 10 z1135) 62 o789) 68 z822) 75 m791) g'1136 (((32 : Int), (1 : Int), z808.toInt, (0 : Int), []) :: (((28 : Int), (0 : Int), (0 : Int), (0 : Int), []) :: gs)) bc [] 0 (s790.toNatClampNeg :: []) := hR1141
                      show am_E _ _ _ _ [some (.ref 39), some (.int 1), some (.int z808)] [] _ _
                      refine am_e2 (v := 39) hi_212_121 rfl ?_
                      refine am_e32w (as := [.ref 39]) (la := [some (.ref 39)]) (rest := []) hi_212_122 (am_hd0 (M := 212) (by decide) 122) (Nat.le_of_ble_eq_true rfl) (Nat.le_of_ble_eq_true rfl) (show 1 ≤ am_P0.2.2.1 214 from by decide +kernel) rfl (am_recv_ok hS1138.fs) rfl rfl ?_
                      refine am_e2 (v := 39) hi_214_0 rfl ?_
                      refine am_e0 hi_214_1 ?_
                      refine am_e0 hi_214_3 ?_
                      refine am_e0 hi_214_4 ?_
                      refine am_e0 hi_214_5 ?_
                      refine am_e32n (as := [.ref 39, .int 34, .int 1, .int 0, .int 0]) (la := [some (.ref 39), some (.int 34), some (.int 1), some (.int 0), some (.int 0)]) (rest := []) hi_214_6 (am_hd0 (M := 214) (by decide) 6) (Nat.le_of_ble_eq_true rfl) (Nat.le_of_ble_eq_true rfl) (show 5 ≤ am_P0.2.2.1 179 from by decide +kernel) rfl (am_recv_ok hS1138.fs) rfl rfl (ct_pile (d := (d + 3)) hS1138 hR1141_ (mj_e_plain (by decide)) (by show (0 : Int) ≤ z1135.toInt; omega) (by show z1135.toInt ≤ (65535 : Int); omega)) ?_
                      rintro v1142 S1143 (⟨z1144, g'1145, hv1146, hS1147, hR1150, h1148, h1149⟩)
                      subst hv1146
                      have h1148_ : z1144.toInt = z1135.toInt + 1 := h1148
                      have h1149_ : ∀ j, j ∉ [11, 12, 13, 14] → g'1145 j = g'1136 j := h1149
                      replace hS1147 : MS S0 S1143 (upd (upd (upd (upd (upd (upd f 4 z1110) 5 y1111) 10 z1144) 62 o789) 68 z822) 75 m791) g'1145 := hS1147
                      have hR1150_ : RJ (upd (upd (upd (upd (upd (upd f 4 z1110) 5 y1111) 10 z1144) 62 o789) 68 z822) 75 m791) g'1145 (((34 : Int), (1 : Int), (0 : Int), (0 : Int), []) :: (((32 : Int), (1 : Int), z808.toInt, (0 : Int), []) :: (((28 : Int), (0 : Int), (0 : Int), (0 : Int), []) :: gs))) bc [] 0 (s790.toNatClampNeg :: []) := hR1150
                      show am_E _ _ _ _ [some (.ref 39)] [] _ _
                      refine am_e2 (v := 39) hi_214_9 rfl ?_
                      refine am_e0 hi_214_10 ?_
                      refine am_e32w (as := [.ref 39, .int 0]) (la := [some (.ref 39), some (.int 0)]) (rest := []) hi_214_11 (am_hd0 (M := 214) (by decide) 11) (Nat.le_of_ble_eq_true rfl) (Nat.le_of_ble_eq_true rfl) (show 2 ≤ am_P0.2.2.1 186 from by decide +kernel) rfl (am_recv_ok hS1147.fs) rfl rfl ?_
                      refine am_e2 (v := 39) hi_186_0 rfl ?_
                      refine am_e0 hi_186_1 ?_
                      refine am_e1 (v := 0) hi_186_3 rfl ?_
                      refine am_e0 hi_186_4 ?_
                      refine am_e0 hi_186_5 ?_
                      refine am_e32n (as := [.ref 39, .int 23, .int 0, .int 0, .int 0]) (la := [some (.ref 39), some (.int 23), some (.int 0), some (.int 0), some (.int 0)]) (rest := []) hi_186_6 (am_hd0 (M := 186) (by decide) 6) (Nat.le_of_ble_eq_true rfl) (Nat.le_of_ble_eq_true rfl) (show 5 ≤ am_P0.2.2.1 179 from by decide +kernel) rfl (am_recv_ok hS1147.fs) rfl rfl (ct_pile (d := (d + 2)) hS1147 hR1150_ (mj_e_plain (by decide)) (by show (0 : Int) ≤ z1144.toInt; omega) (by show z1144.toInt ≤ (65535 : Int); omega)) ?_
                      rintro v1151 S1152 (⟨z1153, g'1154, hv1155, hS1156, hR1159, h1157, h1158⟩)
                      subst hv1155
                      have h1157_ : z1153.toInt = z1144.toInt + 1 := h1157
                      have h1158_ : ∀ j, j ∉ [11, 12, 13, 14] → g'1154 j = g'1145 j := h1158
                      replace hS1156 : MS S0 S1152 (upd (upd (upd (upd (upd (upd f 4 z1110) 5 y1111) 10 z1153) 62 o789) 68 z822) 75 m791) g'1154 := hS1156
                      have hR1159_ : RJ (upd (upd (upd (upd (upd (upd f 4 z1110) 5 y1111) 10 z1153) 62 o789) 68 z822) 75 m791) g'1154 (((23 : Int), (0 : Int), (0 : Int), (0 : Int), []) :: (((34 : Int), (1 : Int), (0 : Int), (0 : Int), []) :: (((32 : Int), (1 : Int), z808.toInt, (0 : Int), []) :: (((28 : Int), (0 : Int), (0 : Int), (0 : Int), []) :: gs)))) bc [] 0 (s790.toNatClampNeg :: []) := hR1159
                      show am_E _ _ _ _ [some (.ref 39), some (.int 0)] [] _ _
                      refine am_e35 hi_186_9 ?_
                      show am_E _ _ _ _ [some (.ref 39)] [] _ _
                      refine am_e35 hi_214_14 ?_
                      show am_E _ _ _ _ [some (.ref 39), some (.int 1), some (.int z808)] [] _ _
                      refine am_e35 hi_212_125 ?_
                      show am_E _ _ _ _ [some (.ref 39), some (.int r2), some (.int (f 4)), some (.int r833)] [] _ _
                      refine am_e18 hi_211_211 ?_
                      refine am_e35 hi_211_249 ?_
                      show am_E _ _ _ _ [some (.ref 39), some (.int 28), some (.int on), some (.int tw)] [] _ _
                      refine am_e18 hi_181_180 ?_
                      refine am_e35 hi_181_397 ?_
                      show am_E _ _ _ _ [some (.ref 39), some (.int 28), some (.int on), some (.int tw), some (.int th)] [] _ _
                      refine am_e35 hi_180_13 ?_
                      have q1 : mg_p1 (((23 : Int), (0 : Int), (0 : Int), (0 : Int), []) :: (((34 : Int), (1 : Int), (0 : Int), (0 : Int), []) :: (((32 : Int), (1 : Int), z808.toInt, (0 : Int), []) :: (((28 : Int), (0 : Int), (0 : Int), (0 : Int), []) :: gs)))) = 0 + (0 + (0 + (0 + (mg_p1 gs)))) := rfl
                      have q2 : mg_p2 (((23 : Int), (0 : Int), (0 : Int), (0 : Int), []) :: (((34 : Int), (1 : Int), (0 : Int), (0 : Int), []) :: (((32 : Int), (1 : Int), z808.toInt, (0 : Int), []) :: (((28 : Int), (0 : Int), (0 : Int), (0 : Int), []) :: gs)))) = 0 + (0 + (0 + (0 + (mg_p2 gs)))) := rfl
                      have q3 : mg_p3 (((23 : Int), (0 : Int), (0 : Int), (0 : Int), []) :: (((34 : Int), (1 : Int), (0 : Int), (0 : Int), []) :: (((32 : Int), (1 : Int), z808.toInt, (0 : Int), []) :: (((28 : Int), (0 : Int), (0 : Int), (0 : Int), []) :: gs)))) = 1 + (1 + (1 + (1 + (mg_p3 gs)))) := rfl
                      have q4 : mg_p4 (((23 : Int), (0 : Int), (0 : Int), (0 : Int), []) :: (((34 : Int), (1 : Int), (0 : Int), (0 : Int), []) :: (((32 : Int), (1 : Int), z808.toInt, (0 : Int), []) :: (((28 : Int), (0 : Int), (0 : Int), (0 : Int), []) :: gs)))) = 0 + (0 + (0 + (0 + (mg_p4 gs)))) := rfl
                      refine ⟨_, _, _, bc, rfl, hS1156, Or.inl ⟨⟨(RJ.fewer (pj' := []) hR1159_ (fun _ h => nomatch h)), ?_, ?_⟩, rfl, ?_⟩⟩
                      · exact (⟨⟨(show (0 : Int) ≤ 23 from by decide), (show (0 : Int) ≤ (f 15).toInt from by omega), (show 0 ≤ (f 20).toInt from by omega), (show 1 ≤ (f 37).toInt from by omega), (show 0 ≤ (f 32).toInt from by omega), (show (f 32).toInt ≤ y1111.toInt from by omega), (show y1111.toInt ≤ 48 from by omega), (show (f 37).toInt ≤ 2 * (y1111.toInt) + 2 from by omega), (show 0 ≤ (0 : Int) from by omega)⟩, ⟨⟨(show (0 : Int) ≤ 34 from by decide), (show (1 : Int) ≤ (f 15).toInt + 1 from by omega), (show 0 ≤ (f 20).toInt from by omega), (show 1 ≤ (f 37).toInt + 0 from by omega), (show 0 ≤ (f 32).toInt + 0 from by omega), (show (f 32).toInt + 0 ≤ y1111.toInt + 0 from by omega), (show y1111.toInt + 0 ≤ 48 from by omega), (show (f 37).toInt + 0 ≤ 2 * (y1111.toInt + 0) + 2 from by omega), trivial⟩, ⟨⟨(show (0 : Int) ≤ 32 from by decide), (show (2 : Int) ≤ (f 15).toInt + 1 + 0 from by omega), (show 0 ≤ (f 20).toInt from by omega), (show 1 ≤ (f 37).toInt + 0 + 0 from by omega), (show 0 ≤ (f 32).toInt + 0 + 0 from by omega), (show (f 32).toInt + 0 + 0 ≤ y1111.toInt + 0 + 0 from by omega), (show y1111.toInt + 0 + 0 ≤ 48 from by omega), (show (f 37).toInt + 0 + 0 ≤ 2 * (y1111.toInt + 0 + 0) + 2 from by omega), trivial⟩, ⟨⟨(show (0 : Int) ≤ 28 from by decide), (show (1 : Int) ≤ (f 15).toInt + 1 + 0 + -1 from by omega), (show 0 ≤ (f 20).toInt from by omega), (show 1 ≤ (f 37).toInt + 0 + 0 + 0 from by omega), (show 0 ≤ (f 32).toInt + 0 + 0 + 0 from by omega), (show (f 32).toInt + 0 + 0 + 0 ≤ y1111.toInt + 0 + 0 + -1 from by omega), (show y1111.toInt + 0 + 0 + -1 ≤ 48 from by omega), (show (f 37).toInt + 0 + 0 + 0 ≤ 2 * (y1111.toInt + 0 + 0 + -1) + 2 from by omega), trivial⟩, mg_cast (mg_good_ext _ _ _ _ _ _ (fun i _ => by show g'1154 34 i = g 34 i; rw [show g'1154 34 = g'1145 34 from h1158_ 34 (by decide), show g'1145 34 = g'1136 34 from h1149_ 34 (by decide), show g'1136 34 = g'1086 34 from h1140_ 34 (by decide), show g'1086 34 = g'824 34 from h1090_ 34 (by decide), show g'824 34 = g'792 34 from h829_ 34 (by decide), show g'792 34 = g 34 from h800_ 34 (by decide)]) (fun i _ => by show g'1154 38 i = g 38 i; rw [show g'1154 38 = g'1145 38 from h1158_ 38 (by decide), show g'1145 38 = g'1136 38 from h1149_ 38 (by decide), show g'1136 38 = g'1086 38 from h1140_ 38 (by decide), show g'1086 38 = g'824 38 from h1090_ 38 (by decide), show g'824 38 = g'792 38 from h829_ 38 (by decide), show g'792 38 = g 38 from h800_ 38 (by decide)]) hrest) (by show (f 15).toInt + 0 = (f 15).toInt + 1 + 0 + -1 + 0; omega) (by show (f 20).toInt = (f 20).toInt; omega) (by show (f 37).toInt + 0 = (f 37).toInt + 0 + 0 + 0 + 0; omega) (by show (f 32).toInt + 0 = (f 32).toInt + 0 + 0 + 0 + 0; omega) (by show (f 5).toInt + 0 = y1111.toInt + 0 + 0 + -1 + 0; omega)⟩⟩⟩⟩ : mg_good (g'1154 34) (g'1154 38) (((23 : Int), (0 : Int), (0 : Int), (0 : Int), []) :: (((34 : Int), (1 : Int), (0 : Int), (0 : Int), []) :: (((32 : Int), (1 : Int), z808.toInt, (0 : Int), []) :: (((28 : Int), (0 : Int), (0 : Int), (0 : Int), []) :: gs)))) ((f 15).toInt) ((f 20).toInt) ((f 37).toInt) ((f 32).toInt) (y1111.toInt))
                      · exact ⟨(by show 0 ≤ z1110.toInt; omega), (by show z1110.toInt ≤ (f 0).toInt; omega), (by show (f 0).toInt ≤ 512; omega), (by show 0 ≤ (f 24).toInt; omega), (by show (f 24).toInt + (f 20).toInt + mg_p1 (((23 : Int), (0 : Int), (0 : Int), (0 : Int), []) :: (((34 : Int), (1 : Int), (0 : Int), (0 : Int), []) :: (((32 : Int), (1 : Int), z808.toInt, (0 : Int), []) :: (((28 : Int), (0 : Int), (0 : Int), (0 : Int), []) :: gs)))) ≤ 4 * z1110.toInt; omega), (by show (f 20).toInt ≤ z1110.toInt; omega), (by show (f 15).toInt + mg_p2 (((23 : Int), (0 : Int), (0 : Int), (0 : Int), []) :: (((34 : Int), (1 : Int), (0 : Int), (0 : Int), []) :: (((32 : Int), (1 : Int), z808.toInt, (0 : Int), []) :: (((28 : Int), (0 : Int), (0 : Int), (0 : Int), []) :: gs)))) ≤ z1110.toInt; omega), (by show mg_p3 (((23 : Int), (0 : Int), (0 : Int), (0 : Int), []) :: (((34 : Int), (1 : Int), (0 : Int), (0 : Int), []) :: (((32 : Int), (1 : Int), z808.toInt, (0 : Int), []) :: (((28 : Int), (0 : Int), (0 : Int), (0 : Int), []) :: gs)))) ≤ 20 * z1110.toInt + 20; omega), (by show 0 ≤ z822.toInt; omega), (by show z822.toInt + 3 * (f 20).toInt + mg_p4 (((23 : Int), (0 : Int), (0 : Int), (0 : Int), []) :: (((34 : Int), (1 : Int), (0 : Int), (0 : Int), []) :: (((32 : Int), (1 : Int), z808.toInt, (0 : Int), []) :: (((28 : Int), (0 : Int), (0 : Int), (0 : Int), []) :: gs)))) ≤ 60 * z1110.toInt + 60; omega), (by show 0 ≤ o789.toInt; omega), (by show o789.toInt + 64 * mj_n (g'1154 16) (f 15).toNatClampNeg 3 ≤ 64 * z1110.toInt; rw [show g'1154 16 = g'1145 16 from h1158_ 16 (by decide), show g'1145 16 = g'1136 16 from h1149_ 16 (by decide), show g'1136 16 = g'1086 16 from h1140_ 16 (by decide), show g'1086 16 = g'824 16 from h1090_ 16 (by decide), show g'824 16 = g'792 16 from h829_ 16 (by decide)]; omega), (by show 0 ≤ (f 44).toInt; omega), (by show (f 44).toInt ≤ z1110.toInt; omega), (by show 0 ≤ (f 48).toInt; omega), (by show (f 48).toInt ≤ z1110.toInt; omega), (by show 1 ≤ (f 53).toInt; omega), (by show (f 53).toInt ≤ z1110.toInt + 1; omega)⟩
                      · show 100 * ((f 0).toInt - z1110.toInt) + mg_p3 (((23 : Int), (0 : Int), (0 : Int), (0 : Int), []) :: (((34 : Int), (1 : Int), (0 : Int), (0 : Int), []) :: (((32 : Int), (1 : Int), z808.toInt, (0 : Int), []) :: (((28 : Int), (0 : Int), (0 : Int), (0 : Int), []) :: gs)))) < 100 * ((f 0).toInt - (f 4).toInt) + (1 + mg_p3 gs); omega
                    · refine am_e13f hi_212_92 (am_cF (m := r1127.toInt) (n := (61 : Int)) rfl (by decide) c1132) ?_
                      refine am_e2 (v := 39) hi_212_95 rfl ?_
                      refine am_e0 hi_212_96 ?_
                      refine am_e32n (as := [.ref 39, .int 61]) (la := [some (.ref 39), some (.int 61)]) (rest := []) hi_212_98 (am_hd0 (M := 212) (by decide) 98) (Nat.le_of_ble_eq_true rfl) (Nat.le_of_ble_eq_true rfl) (show 2 ≤ am_P0.2.2.1 199 from by decide +kernel) rfl (am_recv_ok hS1129.fs) rfl rfl (ct_leave (d := (d + 1)) hS1129   (by show (0 : Int) ≤ z1110.toInt; omega) (by show (f 0).toInt ≤ (16384 : Int); omega) (by show (0 : Int) ≤ (61 : Int); omega) (by show (0 : Int) ≤ y1111.toInt; omega) (by show y1111.toInt ≤ (48 : Int); omega)) ?_
                      rintro v1160 S1161 (⟨z1162, y1163, hv1164, hS1165, h1166, h1167, h1168⟩ | ⟨a1170, b1171, hv1172, hS1173⟩)
                      · subst hv1164
                        have h1166_ : z1162.toInt = z1110.toInt + 1 := h1166
                        have h1167_ : z1110.toInt < (f 0).toInt := h1167
                        have h1168_ : y1163.toInt = y1111.toInt - 1 := h1168
                        replace hS1165 : MS S0 S1161 (upd (upd (upd (upd (upd (upd f 4 z1162) 5 y1163) 10 z1085) 62 o789) 68 z822) 75 m791) g'1086 := hS1165
                        have hR1175 : RJ (upd (upd (upd (upd (upd (upd f 4 z1162) 5 y1163) 10 z1085) 62 o789) 68 z822) 75 m791) g'1086 (((28 : Int), (0 : Int), (0 : Int), (0 : Int), []) :: gs) bc [] 0 (s790.toNatClampNeg :: []) := RJ.at hR1124 (by show z1110.toInt ≤ z1162.toInt; omega)
                        show am_E _ _ _ _ [some (.ref 39), some (.int 1), some (.int z808)] [.int 1] _ _
                        refine am_e6i hi_212_101 ?_
                        refine am_e2 (v := 39) hi_212_102 rfl ?_
                        refine am_e1 (v := 1) hi_212_103 rfl ?_
                        refine am_e0 hi_212_104 ?_
                        refine am_e1 (v := z808) hi_212_105 rfl ?_
                        refine am_e32w (as := [.ref 39, .int 1, .int 0, .int z808]) (la := [some (.ref 39), some (.int 1), some (.int 0), some (.int z808), none]) (rest := []) hi_212_106 (am_hd0 (M := 212) (by decide) 106) (Nat.le_of_ble_eq_true rfl) (Nat.le_of_ble_eq_true rfl) (show 4 ≤ am_P0.2.2.1 213 from by decide +kernel) rfl (am_recv_ok hS1165.fs) rfl rfl ?_
                        refine am_e2 (v := 39) hi_213_0 rfl ?_
                        refine am_e0 hi_213_1 ?_
                        refine am_e1 (v := 1) hi_213_3 rfl ?_
                        refine am_e1 (v := 0) hi_213_4 rfl ?_
                        refine am_e0 hi_213_5 ?_
                        refine am_e10 (z := 2) hi_213_6 (by decide) ?_
                        refine am_e1 (v := z808) hi_213_7 rfl ?_
                        refine am_e32n (as := [.ref 39, .int 13, .int 1, .int 2, .int z808]) (la := [some (.ref 39), some (.int 13), some (.int 1), some (.int 2), some (.int z808)]) (rest := []) hi_213_8 (am_hd0 (M := 213) (by decide) 8) (Nat.le_of_ble_eq_true rfl) (Nat.le_of_ble_eq_true rfl) (show 5 ≤ am_P0.2.2.1 189 from by decide +kernel) rfl (am_recv_ok hS1165.fs) rfl rfl (ct_put (d := (d + 3)) hS1165 hR1175  (by show (0 : Int) ≤ (f 32).toInt; omega) (by show (f 32).toInt ≤ (63 : Int); omega) (by show (f 53).toInt ≤ (4096 : Int); omega) (by show (0 : Int) ≤ z822.toInt; omega) (by show z822.toInt ≤ (65534 : Int); omega)) ?_
                        rintro v1176 S1177 (⟨z1178, r1179, g'1180, hv1181, hS1182, hR1186, h1183, h1184, h1185⟩)
                        subst hv1181
                        have h1183_ : z1178.toInt = z822.toInt + 1 := h1183
                        have h1184_ : r1179.toInt = z822.toInt := h1184
                        have h1185_ : ∀ j, j ∉ [60, 69, 70, 71, 72, 73] → g'1180 j = g'1086 j := h1185
                        replace hS1182 : MS S0 S1177 (upd (upd (upd (upd (upd (upd f 4 z1162) 5 y1163) 10 z1085) 62 o789) 68 z1178) 75 m791) g'1180 := hS1182
                        have hR1186_ : RJ (upd (upd (upd (upd (upd (upd f 4 z1162) 5 y1163) 10 z1085) 62 o789) 68 z1178) 75 m791) g'1180 (((28 : Int), (0 : Int), (0 : Int), (0 : Int), []) :: gs) bc [] 0 (z822.toNatClampNeg :: (s790.toNatClampNeg :: [])) := hR1186
                        show am_E _ _ _ _ [some (.ref 39), some (.int 1), some (.int 0), some (.int z808), none] [.int r1179] _ _
                        refine am_e3 (ls' := [some (.ref 39), some (.int 1), some (.int 0), some (.int z808), some (.int r1179)]) hi_213_11 (Nat.le_of_ble_eq_true rfl) rfl ?_
                        refine am_e2 (v := 39) hi_213_13 rfl ?_
                        refine am_e7 hi_213_14 ?_
                        refine mm_20 (v := .int (f 15)) hS1182 hi_213_15 rfl ?_
                        refine am_e0 hi_213_18 ?_
                        obtain ⟨z1187, hz1187, tz1187⟩ := am_subI (x := f 15) (y := 1) (m := (f 15).toInt) (n := (1 : Int)) rfl (by decide) (by omega) (by omega)
                        refine am_e10 (z := z1187) hi_213_19 hz1187 ?_
                        refine mm_21 (v := z1187) hS1182 hi_213_20 rfl (Nat.le_of_ble_eq_true rfl) ms_15 ?_
                        intro S1188 hS1189
                        replace hS1189 : MS S0 S1188 (upd (upd (upd (upd (upd (upd (upd f 4 z1162) 5 y1163) 10 z1085) 15 z1187) 62 o789) 68 z1178) 75 m791) g'1180 := hS1189
                        have hp1190 : mj_n (g'792 16) (f 15).toNatClampNeg 3 = mj_n (g'792 16) z1187.toNatClampNeg 3 + if (g'792 16 z1187.toNatClampNeg).toInt = 3 then 1 else 0 := mj_pop (by rw [cl_toNat, cl_toNat]; omega)
                        have hp11901 : mj_n (g'792 16) z1187.toNatClampNeg 3 ≤ mj_n (g'792 16) (f 15).toNatClampNeg 3 := by rw [hp1190]; split <;> omega
                        have hp11902 : (g'792 16 z1187.toNatClampNeg).toInt = 3 → mj_n (g'792 16) z1187.toNatClampNeg 3 + 1 ≤ mj_n (g'792 16) (f 15).toNatClampNeg 3 := fun q => by rw [hp1190, if_pos q]; exact Int.le_refl _
                        refine am_e2 (v := 39) hi_213_23 rfl ?_
                        refine am_e0 hi_213_24 ?_
                        refine am_e1 (v := r1179) hi_213_25 rfl ?_
                        refine am_e1 (v := z808) hi_213_27 rfl ?_
                        refine am_e32n (as := [.ref 39, .int 1, .int r1179, .int z808]) (la := [some (.ref 39), some (.int 1), some (.int r1179), some (.int z808)]) (rest := []) hi_213_28 (am_hd0 (M := 213) (by decide) 28) (Nat.le_of_ble_eq_true rfl) (Nat.le_of_ble_eq_true rfl) (show 4 ≤ am_P0.2.2.1 190 from by decide +kernel) rfl (am_recv_ok hS1189.fs) rfl rfl (ct_value (d := (d + 3)) hS1189 hR1186_ (fun h => absurd h (by decide)) (fun _ => ⟨by omega, by omega⟩) (by show (0 : Int) ≤ z1187.toInt; omega) (by show z1187.toInt ≤ (32767 : Int); omega)) ?_
                        rintro v1191 S1192 (⟨z1193, g'1194, hv1195, hS1196, hR1201, h1197, h1198, h1199, h1200⟩)
                        subst hv1195
                        have h1197_ : z1193.toInt = z1187.toInt + 1 := h1197
                        have h1198_ : ∀ j, j ∉ [16, 17, 18] → g'1194 j = g'1180 j := h1198
                        have h1199_ : mj_n (g'1194 16) z1193.toNatClampNeg 3 ≤ mj_n (g'792 16) z1187.toNatClampNeg 3 + 1 := by rw [show g'1180 16 = g'1086 16 from h1185_ 16 (by decide), show g'1086 16 = g'824 16 from h1090_ 16 (by decide), show g'824 16 = g'792 16 from h829_ 16 (by decide)] at h1199; exact h1199
                        have h1200_ : (1 : Int) = 3 ∨ mj_n (g'1194 16) z1193.toNatClampNeg 3 ≤ mj_n (g'792 16) z1187.toNatClampNeg 3 := by rw [show g'1180 16 = g'1086 16 from h1185_ 16 (by decide), show g'1086 16 = g'824 16 from h1090_ 16 (by decide), show g'824 16 = g'792 16 from h829_ 16 (by decide)] at h1200; exact h1200
                        replace hS1196 : MS S0 S1192 (upd (upd (upd (upd (upd (upd (upd f 4 z1162) 5 y1163) 10 z1085) 15 z1193) 62 o789) 68 z1178) 75 m791) g'1194 := hS1196
                        have hR1201_ : RJ (upd (upd (upd (upd (upd (upd (upd f 4 z1162) 5 y1163) 10 z1085) 15 z1193) 62 o789) 68 z1178) 75 m791) g'1194 (((28 : Int), (0 : Int), (0 : Int), (0 : Int), []) :: gs) bc [] 0 (z822.toNatClampNeg :: (s790.toNatClampNeg :: [])) := hR1201
                        show am_E _ _ _ _ [some (.ref 39), some (.int 1), some (.int 0), some (.int z808), some (.int r1179)] [] _ _
                        refine am_e35 hi_213_31 ?_
                        show am_E _ _ _ _ [some (.ref 39), some (.int 1), some (.int z808)] [] _ _
                        refine am_e18 hi_212_109 ?_
                        refine am_e35 hi_212_125 ?_
                        show am_E _ _ _ _ [some (.ref 39), some (.int r2), some (.int (f 4)), some (.int r833)] [] _ _
                        refine am_e18 hi_211_211 ?_
                        refine am_e35 hi_211_249 ?_
                        show am_E _ _ _ _ [some (.ref 39), some (.int 28), some (.int on), some (.int tw)] [] _ _
                        refine am_e18 hi_181_180 ?_
                        refine am_e35 hi_181_397 ?_
                        show am_E _ _ _ _ [some (.ref 39), some (.int 28), some (.int on), some (.int tw), some (.int th)] [] _ _
                        refine am_e35 hi_180_13 ?_
                        have q1 : mg_p1 (((28 : Int), (0 : Int), (0 : Int), (0 : Int), []) :: gs) = 0 + (mg_p1 gs) := rfl
                        have q2 : mg_p2 (((28 : Int), (0 : Int), (0 : Int), (0 : Int), []) :: gs) = 0 + (mg_p2 gs) := rfl
                        have q3 : mg_p3 (((28 : Int), (0 : Int), (0 : Int), (0 : Int), []) :: gs) = 1 + (mg_p3 gs) := rfl
                        have q4 : mg_p4 (((28 : Int), (0 : Int), (0 : Int), (0 : Int), []) :: gs) = 0 + (mg_p4 gs) := rfl
                        refine ⟨_, _, _, bc, rfl, hS1196, Or.inl ⟨⟨(RJ.fewer (pj' := []) hR1201_ (fun _ h => nomatch h)), ?_, ?_⟩, rfl, ?_⟩⟩
                        · exact (⟨⟨(show (0 : Int) ≤ 28 from by decide), (show (1 : Int) ≤ z1193.toInt from by omega), (show 0 ≤ (f 20).toInt from by omega), (show 1 ≤ (f 37).toInt from by omega), (show 0 ≤ (f 32).toInt from by omega), (show (f 32).toInt ≤ y1163.toInt from by omega), (show y1163.toInt ≤ 48 from by omega), (show (f 37).toInt ≤ 2 * (y1163.toInt) + 2 from by omega), trivial⟩, mg_cast (mg_good_ext _ _ _ _ _ _ (fun i _ => by show g'1194 34 i = g 34 i; rw [show g'1194 34 = g'1180 34 from h1198_ 34 (by decide), show g'1180 34 = g'1086 34 from h1185_ 34 (by decide), show g'1086 34 = g'824 34 from h1090_ 34 (by decide), show g'824 34 = g'792 34 from h829_ 34 (by decide), show g'792 34 = g 34 from h800_ 34 (by decide)]) (fun i _ => by show g'1194 38 i = g 38 i; rw [show g'1194 38 = g'1180 38 from h1198_ 38 (by decide), show g'1180 38 = g'1086 38 from h1185_ 38 (by decide), show g'1086 38 = g'824 38 from h1090_ 38 (by decide), show g'824 38 = g'792 38 from h829_ 38 (by decide), show g'792 38 = g 38 from h800_ 38 (by decide)]) hrest) (by show (f 15).toInt + 0 = z1193.toInt + 0; omega) (by show (f 20).toInt = (f 20).toInt; omega) (by show (f 37).toInt + 0 = (f 37).toInt + 0; omega) (by show (f 32).toInt + 0 = (f 32).toInt + 0; omega) (by show (f 5).toInt + 0 = y1163.toInt + 0; omega)⟩ : mg_good (g'1194 34) (g'1194 38) (((28 : Int), (0 : Int), (0 : Int), (0 : Int), []) :: gs) (z1193.toInt) ((f 20).toInt) ((f 37).toInt) ((f 32).toInt) (y1163.toInt))
                        · exact ⟨(by show 0 ≤ z1162.toInt; omega), (by show z1162.toInt ≤ (f 0).toInt; omega), (by show (f 0).toInt ≤ 512; omega), (by show 0 ≤ (f 24).toInt; omega), (by show (f 24).toInt + (f 20).toInt + mg_p1 (((28 : Int), (0 : Int), (0 : Int), (0 : Int), []) :: gs) ≤ 4 * z1162.toInt; omega), (by show (f 20).toInt ≤ z1162.toInt; omega), (by show z1193.toInt + mg_p2 (((28 : Int), (0 : Int), (0 : Int), (0 : Int), []) :: gs) ≤ z1162.toInt; omega), (by show mg_p3 (((28 : Int), (0 : Int), (0 : Int), (0 : Int), []) :: gs) ≤ 20 * z1162.toInt + 20; omega), (by show 0 ≤ z1178.toInt; omega), (by show z1178.toInt + 3 * (f 20).toInt + mg_p4 (((28 : Int), (0 : Int), (0 : Int), (0 : Int), []) :: gs) ≤ 60 * z1162.toInt + 60; omega), (by show 0 ≤ o789.toInt; omega), (by show o789.toInt + 64 * mj_n (g'1194 16) z1193.toNatClampNeg 3 ≤ 64 * z1162.toInt; omega), (by show 0 ≤ (f 44).toInt; omega), (by show (f 44).toInt ≤ z1162.toInt; omega), (by show 0 ≤ (f 48).toInt; omega), (by show (f 48).toInt ≤ z1162.toInt; omega), (by show 1 ≤ (f 53).toInt; omega), (by show (f 53).toInt ≤ z1162.toInt + 1; omega)⟩
                        · show 100 * ((f 0).toInt - z1162.toInt) + mg_p3 (((28 : Int), (0 : Int), (0 : Int), (0 : Int), []) :: gs) < 100 * ((f 0).toInt - (f 4).toInt) + (1 + mg_p3 gs); omega
                      · subst hv1172
                        replace hS1173 : MS S0 S1161 (upd (upd (upd (upd (upd (upd (upd (upd f 4 z1110) 5 y1111) 6 a1170) 7 b1171) 10 0) 62 o789) 68 z822) 75 m791) g'1086 := hS1173
                        show am_E _ _ _ _ [some (.ref 39), some (.int 1), some (.int z808)] [.int 0] _ _
                        refine am_e6i hi_212_101 ?_
                        refine am_e2 (v := 39) hi_212_102 rfl ?_
                        refine am_e1 (v := 1) hi_212_103 rfl ?_
                        refine am_e0 hi_212_104 ?_
                        refine am_e1 (v := z808) hi_212_105 rfl ?_
                        refine am_e32w (as := [.ref 39, .int 1, .int 0, .int z808]) (la := [some (.ref 39), some (.int 1), some (.int 0), some (.int z808), none]) (rest := []) hi_212_106 (am_hd0 (M := 212) (by decide) 106) (Nat.le_of_ble_eq_true rfl) (Nat.le_of_ble_eq_true rfl) (show 4 ≤ am_P0.2.2.1 213 from by decide +kernel) rfl (am_recv_ok hS1173.fs) rfl rfl ?_
                        refine am_e2 (v := 39) hi_213_0 rfl ?_
                        refine am_e0 hi_213_1 ?_
                        refine am_e1 (v := 1) hi_213_3 rfl ?_
                        refine am_e1 (v := 0) hi_213_4 rfl ?_
                        refine am_e0 hi_213_5 ?_
                        refine am_e10 (z := 2) hi_213_6 (by decide) ?_
                        refine am_e1 (v := z808) hi_213_7 rfl ?_
                        refine am_e32n (as := [.ref 39, .int 13, .int 1, .int 2, .int z808]) (la := [some (.ref 39), some (.int 13), some (.int 1), some (.int 2), some (.int z808)]) (rest := []) hi_213_8 (am_hd0 (M := 213) (by decide) 8) (Nat.le_of_ble_eq_true rfl) (Nat.le_of_ble_eq_true rfl) (show 5 ≤ am_P0.2.2.1 189 from by decide +kernel) rfl (am_recv_ok hS1173.fs) rfl rfl (ct_put (d := (d + 3)) hS1173 hR1124  (by show (0 : Int) ≤ (f 32).toInt; omega) (by show (f 32).toInt ≤ (63 : Int); omega) (by show (f 53).toInt ≤ (4096 : Int); omega) (by show (0 : Int) ≤ z822.toInt; omega) (by show z822.toInt ≤ (65534 : Int); omega)) ?_
                        rintro v1202 S1203 (⟨z1204, r1205, g'1206, hv1207, hS1208, hR1212, h1209, h1210, h1211⟩)
                        subst hv1207
                        have h1209_ : z1204.toInt = z822.toInt + 1 := h1209
                        have h1210_ : r1205.toInt = z822.toInt := h1210
                        have h1211_ : ∀ j, j ∉ [60, 69, 70, 71, 72, 73] → g'1206 j = g'1086 j := h1211
                        replace hS1208 : MS S0 S1203 (upd (upd (upd (upd (upd (upd (upd (upd f 4 z1110) 5 y1111) 6 a1170) 7 b1171) 10 0) 62 o789) 68 z1204) 75 m791) g'1206 := hS1208
                        have hR1212_ : RJ (upd (upd (upd (upd (upd (upd (upd (upd f 4 z1110) 5 y1111) 6 a1170) 7 b1171) 10 0) 62 o789) 68 z1204) 75 m791) g'1206 (((28 : Int), (0 : Int), (0 : Int), (0 : Int), []) :: gs) bc [] 0 (z822.toNatClampNeg :: (s790.toNatClampNeg :: [])) := hR1212
                        show am_E _ _ _ _ [some (.ref 39), some (.int 1), some (.int 0), some (.int z808), none] [.int r1205] _ _
                        refine am_e3 (ls' := [some (.ref 39), some (.int 1), some (.int 0), some (.int z808), some (.int r1205)]) hi_213_11 (Nat.le_of_ble_eq_true rfl) rfl ?_
                        refine am_e2 (v := 39) hi_213_13 rfl ?_
                        refine am_e7 hi_213_14 ?_
                        refine mm_20 (v := .int (f 15)) hS1208 hi_213_15 rfl ?_
                        refine am_e0 hi_213_18 ?_
                        obtain ⟨z1213, hz1213, tz1213⟩ := am_subI (x := f 15) (y := 1) (m := (f 15).toInt) (n := (1 : Int)) rfl (by decide) (by omega) (by omega)
                        refine am_e10 (z := z1213) hi_213_19 hz1213 ?_
                        refine mm_21 (v := z1213) hS1208 hi_213_20 rfl (Nat.le_of_ble_eq_true rfl) ms_15 ?_
                        intro S1214 hS1215
                        replace hS1215 : MS S0 S1214 (upd (upd (upd (upd (upd (upd (upd (upd (upd f 4 z1110) 5 y1111) 6 a1170) 7 b1171) 10 0) 15 z1213) 62 o789) 68 z1204) 75 m791) g'1206 := hS1215
                        have hp1216 : mj_n (g'792 16) (f 15).toNatClampNeg 3 = mj_n (g'792 16) z1213.toNatClampNeg 3 + if (g'792 16 z1213.toNatClampNeg).toInt = 3 then 1 else 0 := mj_pop (by rw [cl_toNat, cl_toNat]; omega)
                        have hp12161 : mj_n (g'792 16) z1213.toNatClampNeg 3 ≤ mj_n (g'792 16) (f 15).toNatClampNeg 3 := by rw [hp1216]; split <;> omega
                        have hp12162 : (g'792 16 z1213.toNatClampNeg).toInt = 3 → mj_n (g'792 16) z1213.toNatClampNeg 3 + 1 ≤ mj_n (g'792 16) (f 15).toNatClampNeg 3 := fun q => by rw [hp1216, if_pos q]; exact Int.le_refl _
                        refine am_e2 (v := 39) hi_213_23 rfl ?_
                        refine am_e0 hi_213_24 ?_
                        refine am_e1 (v := r1205) hi_213_25 rfl ?_
                        refine am_e1 (v := z808) hi_213_27 rfl ?_
                        refine am_e32n (as := [.ref 39, .int 1, .int r1205, .int z808]) (la := [some (.ref 39), some (.int 1), some (.int r1205), some (.int z808)]) (rest := []) hi_213_28 (am_hd0 (M := 213) (by decide) 28) (Nat.le_of_ble_eq_true rfl) (Nat.le_of_ble_eq_true rfl) (show 4 ≤ am_P0.2.2.1 190 from by decide +kernel) rfl (am_recv_ok hS1215.fs) rfl rfl (ct_value (d := (d + 3)) hS1215 hR1212_ (fun h => absurd h (by decide)) (fun _ => ⟨by omega, by omega⟩) (by show (0 : Int) ≤ z1213.toInt; omega) (by show z1213.toInt ≤ (32767 : Int); omega)) ?_
                        rintro v1217 S1218 (⟨z1219, g'1220, hv1221, hS1222, hR1227, h1223, h1224, h1225, h1226⟩)
                        subst hv1221
                        have h1223_ : z1219.toInt = z1213.toInt + 1 := h1223
                        have h1224_ : ∀ j, j ∉ [16, 17, 18] → g'1220 j = g'1206 j := h1224
                        have h1225_ : mj_n (g'1220 16) z1219.toNatClampNeg 3 ≤ mj_n (g'792 16) z1213.toNatClampNeg 3 + 1 := by rw [show g'1206 16 = g'1086 16 from h1211_ 16 (by decide), show g'1086 16 = g'824 16 from h1090_ 16 (by decide), show g'824 16 = g'792 16 from h829_ 16 (by decide)] at h1225; exact h1225
                        have h1226_ : (1 : Int) = 3 ∨ mj_n (g'1220 16) z1219.toNatClampNeg 3 ≤ mj_n (g'792 16) z1213.toNatClampNeg 3 := by rw [show g'1206 16 = g'1086 16 from h1211_ 16 (by decide), show g'1086 16 = g'824 16 from h1090_ 16 (by decide), show g'824 16 = g'792 16 from h829_ 16 (by decide)] at h1226; exact h1226
                        replace hS1222 : MS S0 S1218 (upd (upd (upd (upd (upd (upd (upd (upd (upd f 4 z1110) 5 y1111) 6 a1170) 7 b1171) 10 0) 15 z1219) 62 o789) 68 z1204) 75 m791) g'1220 := hS1222
                        have hR1227_ : RJ (upd (upd (upd (upd (upd (upd (upd (upd (upd f 4 z1110) 5 y1111) 6 a1170) 7 b1171) 10 0) 15 z1219) 62 o789) 68 z1204) 75 m791) g'1220 (((28 : Int), (0 : Int), (0 : Int), (0 : Int), []) :: gs) bc [] 0 (z822.toNatClampNeg :: (s790.toNatClampNeg :: [])) := hR1227
                        show am_E _ _ _ _ [some (.ref 39), some (.int 1), some (.int 0), some (.int z808), some (.int r1205)] [] _ _
                        refine am_e35 hi_213_31 ?_
                        show am_E _ _ _ _ [some (.ref 39), some (.int 1), some (.int z808)] [] _ _
                        refine am_e18 hi_212_109 ?_
                        refine am_e35 hi_212_125 ?_
                        show am_E _ _ _ _ [some (.ref 39), some (.int r2), some (.int (f 4)), some (.int r833)] [] _ _
                        refine am_e18 hi_211_211 ?_
                        refine am_e35 hi_211_249 ?_
                        show am_E _ _ _ _ [some (.ref 39), some (.int 28), some (.int on), some (.int tw)] [] _ _
                        refine am_e18 hi_181_180 ?_
                        refine am_e35 hi_181_397 ?_
                        show am_E _ _ _ _ [some (.ref 39), some (.int 28), some (.int on), some (.int tw), some (.int th)] [] _ _
                        refine am_e35 hi_180_13 ?_
                        have hRc := rj_clear0 hR1227_
                        refine ⟨_, _, [], _, rfl, hS1222, Or.inr ⟨hRc, rfl, (by show 0 ≤ z1110.toInt; omega), (by show z1110.toInt ≤ (f 0).toInt; omega), (by show 0 ≤ (f 32).toInt; omega), (by show (f 32).toInt ≤ 63; omega), (by show 1 ≤ (f 53).toInt; omega), (by show (f 53).toInt ≤ 600; omega), (by show 0 ≤ z1204.toInt; omega), (by show z1204.toInt ≤ 60000; omega), (by show 0 ≤ (f 48).toInt; omega), (by show (f 48).toInt ≤ 8000; omega), (by show 0 ≤ (f 37).toInt; omega), (by show (f 37).toInt ≤ 128; omega), (by show 0 ≤ o789.toInt; omega), (by show o789.toInt ≤ 65000; omega)⟩⟩
                  · subst hv1121
                    replace hS1122 : MS S0 S1109 (upd (upd (upd (upd (upd (upd (upd f 4 z808) 6 a1119) 7 b1120) 10 0) 62 o789) 68 z822) 75 m791) g'1086 := hS1122
                    show am_E _ _ _ _ [some (.ref 39), some (.int 1), some (.int z808)] [.int 0] _ _
                    refine am_e12t hi_212_83 (by decide) ?_
                    refine am_e35 hi_212_125 ?_
                    show am_E _ _ _ _ [some (.ref 39), some (.int r2), some (.int (f 4)), some (.int r833)] [] _ _
                    refine am_e18 hi_211_211 ?_
                    refine am_e35 hi_211_249 ?_
                    show am_E _ _ _ _ [some (.ref 39), some (.int 28), some (.int on), some (.int tw)] [] _ _
                    refine am_e18 hi_181_180 ?_
                    refine am_e35 hi_181_397 ?_
                    show am_E _ _ _ _ [some (.ref 39), some (.int 28), some (.int on), some (.int tw), some (.int th)] [] _ _
                    refine am_e35 hi_180_13 ?_
                    have hRc := rj_clear0 hR1091_
                    refine ⟨_, _, [], _, rfl, hS1122, Or.inr ⟨hRc, rfl, (by show 0 ≤ z808.toInt; omega), (by show z808.toInt ≤ (f 0).toInt; omega), (by show 0 ≤ (f 32).toInt; omega), (by show (f 32).toInt ≤ 63; omega), (by show 1 ≤ (f 53).toInt; omega), (by show (f 53).toInt ≤ 600; omega), (by show 0 ≤ z822.toInt; omega), (by show z822.toInt ≤ 60000; omega), (by show 0 ≤ (f 48).toInt; omega), (by show (f 48).toInt ≤ 8000; omega), (by show 0 ≤ (f 37).toInt; omega), (by show (f 37).toInt ≤ 128; omega), (by show 0 ≤ o789.toInt; omega), (by show o789.toInt ≤ 65000; omega)⟩⟩
                · refine am_e13f hi_212_58 (am_cF (m := r1102.toInt) (n := (62 : Int)) rfl (by decide) c1107) ?_
                  refine am_e2 (v := 39) hi_212_61 rfl ?_
                  refine am_e0 hi_212_62 ?_
                  refine am_e1 (v := 1) hi_212_64 rfl ?_
                  refine am_e1 (v := z808) hi_212_65 rfl ?_
                  refine am_e0 hi_212_66 ?_
                  refine am_e32n (as := [.ref 39, .int 33, .int 1, .int z808, .int 0]) (la := [some (.ref 39), some (.int 33), some (.int 1), some (.int z808), some (.int 0)]) (rest := []) hi_212_67 (am_hd0 (M := 212) (by decide) 67) (Nat.le_of_ble_eq_true rfl) (Nat.le_of_ble_eq_true rfl) (show 5 ≤ am_P0.2.2.1 179 from by decide +kernel) rfl (am_recv_ok hS1104.fs) rfl rfl (ct_pile (d := (d + 4)) hS1104 hR1091_ (mj_e_plain (by decide)) (by show (0 : Int) ≤ z1085.toInt; omega) (by show z1085.toInt ≤ (65535 : Int); omega)) ?_
                  rintro v1228 S1229 (⟨z1230, g'1231, hv1232, hS1233, hR1236, h1234, h1235⟩)
                  subst hv1232
                  have h1234_ : z1230.toInt = z1085.toInt + 1 := h1234
                  have h1235_ : ∀ j, j ∉ [11, 12, 13, 14] → g'1231 j = g'1086 j := h1235
                  replace hS1233 : MS S0 S1229 (upd (upd (upd (upd (upd f 4 z808) 10 z1230) 62 o789) 68 z822) 75 m791) g'1231 := hS1233
                  have hR1236_ : RJ (upd (upd (upd (upd (upd f 4 z808) 10 z1230) 62 o789) 68 z822) 75 m791) g'1231 (((33 : Int), (1 : Int), z808.toInt, (0 : Int), []) :: (((28 : Int), (0 : Int), (0 : Int), (0 : Int), []) :: gs)) bc [] 0 (s790.toNatClampNeg :: []) := hR1236
                  show am_E _ _ _ _ [some (.ref 39), some (.int 1), some (.int z808)] [] _ _
                  refine am_e2 (v := 39) hi_212_70 rfl ?_
                  refine am_e32w (as := [.ref 39]) (la := [some (.ref 39), none]) (rest := []) hi_212_71 (am_hd0 (M := 212) (by decide) 71) (Nat.le_of_ble_eq_true rfl) (Nat.le_of_ble_eq_true rfl) (show 1 ≤ am_P0.2.2.1 192 from by decide +kernel) rfl (am_recv_ok hS1233.fs) rfl rfl ?_
                  refine am_e2 (v := 39) hi_192_0 rfl ?_
                  refine mm_20 (v := .int z808) hS1233 hi_192_1 rfl ?_
                  refine am_e3 (ls' := [some (.ref 39), some (.int z808)]) hi_192_4 (Nat.le_of_ble_eq_true rfl) rfl ?_
                  refine am_e2 (v := 39) hi_192_5 rfl ?_
                  refine am_e0 hi_192_6 ?_
                  refine am_e32n (as := [.ref 39, .int 62]) (la := [some (.ref 39), some (.int 62)]) (rest := []) hi_192_8 (am_hd0 (M := 192) (by decide) 8) (Nat.le_of_ble_eq_true rfl) (Nat.le_of_ble_eq_true rfl) (show 2 ≤ am_P0.2.2.1 193 from by decide +kernel) rfl (am_recv_ok hS1233.fs) rfl rfl (ct_enter (d := (d + 1)) hS1233   (by show (0 : Int) ≤ z808.toInt; omega) (by show (f 0).toInt ≤ (16384 : Int); omega) (by show (0 : Int) ≤ (62 : Int); omega) (by show (0 : Int) ≤ (f 5).toInt; omega) (by show (f 5).toInt ≤ (48 : Int); omega)) ?_
                  rintro v1237 S1238 (⟨z1239, y1240, hv1241, hS1242, h1243, h1244, h1245, h1246⟩ | ⟨a1248, b1249, hv1250, hS1251⟩)
                  · subst hv1241
                    have h1243_ : z1239.toInt = z808.toInt + 1 := h1243
                    have h1244_ : z808.toInt < (f 0).toInt := h1244
                    have h1245_ : y1240.toInt = (f 5).toInt + 1 := h1245
                    have h1246_ : y1240.toInt ≤ (48 : Int) := h1246
                    replace hS1242 : MS S0 S1238 (upd (upd (upd (upd (upd (upd f 4 z1239) 5 y1240) 10 z1230) 62 o789) 68 z822) 75 m791) g'1231 := hS1242
                    have hR1253 : RJ (upd (upd (upd (upd (upd (upd f 4 z1239) 5 y1240) 10 z1230) 62 o789) 68 z822) 75 m791) g'1231 (((33 : Int), (1 : Int), z808.toInt, (0 : Int), []) :: (((28 : Int), (0 : Int), (0 : Int), (0 : Int), []) :: gs)) bc [] 0 (s790.toNatClampNeg :: []) := RJ.at hR1236_ (by show z808.toInt ≤ z1239.toInt; omega)
                    show am_E _ _ _ _ [some (.ref 39), some (.int z808)] [.int 1] _ _
                    refine am_e12t hi_192_11 (by decide) ?_
                    refine am_e2 (v := 39) hi_192_15 rfl ?_
                    refine am_e0 hi_192_16 ?_
                    refine am_e0 hi_192_18 ?_
                    refine am_e0 hi_192_19 ?_
                    refine am_e1 (v := z808) hi_192_20 rfl ?_
                    refine am_e32n (as := [.ref 39, .int 20, .int 0, .int 0, .int z808]) (la := [some (.ref 39), some (.int 20), some (.int 0), some (.int 0), some (.int z808)]) (rest := []) hi_192_21 (am_hd0 (M := 192) (by decide) 21) (Nat.le_of_ble_eq_true rfl) (Nat.le_of_ble_eq_true rfl) (show 5 ≤ am_P0.2.2.1 189 from by decide +kernel) rfl (am_recv_ok hS1242.fs) rfl rfl (ct_put (d := (d + 3)) hS1242 hR1253  (by show (0 : Int) ≤ (f 32).toInt; omega) (by show (f 32).toInt ≤ (63 : Int); omega) (by show (f 53).toInt ≤ (4096 : Int); omega) (by show (0 : Int) ≤ z822.toInt; omega) (by show z822.toInt ≤ (65534 : Int); omega)) ?_
                    rintro v1254 S1255 (⟨z1256, r1257, g'1258, hv1259, hS1260, hR1264, h1261, h1262, h1263⟩)
                    subst hv1259
                    have h1261_ : z1256.toInt = z822.toInt + 1 := h1261
                    have h1262_ : r1257.toInt = z822.toInt := h1262
                    have h1263_ : ∀ j, j ∉ [60, 69, 70, 71, 72, 73] → g'1258 j = g'1231 j := h1263
                    replace hS1260 : MS S0 S1255 (upd (upd (upd (upd (upd (upd f 4 z1239) 5 y1240) 10 z1230) 62 o789) 68 z1256) 75 m791) g'1258 := hS1260
                    have hR1264_ : RJ (upd (upd (upd (upd (upd (upd f 4 z1239) 5 y1240) 10 z1230) 62 o789) 68 z1256) 75 m791) g'1258 (((33 : Int), (1 : Int), z808.toInt, (0 : Int), []) :: (((28 : Int), (0 : Int), (0 : Int), (0 : Int), []) :: gs)) bc [] 0 (z822.toNatClampNeg :: (s790.toNatClampNeg :: [])) := hR1264
                    show am_E _ _ _ _ [some (.ref 39), some (.int z808)] [.int r1257] _ _
                    refine am_e6i hi_192_24 ?_
                    refine am_e2 (v := 39) hi_192_25 rfl ?_
                    refine am_e0 hi_192_26 ?_
                    refine am_e0 hi_192_27 ?_
                    refine am_e0 hi_192_28 ?_
                    refine am_e32n (as := [.ref 39, .int 0, .int 0, .int 0]) (la := [some (.ref 39), some (.int 0), some (.int 0), some (.int 0)]) (rest := []) hi_192_29 (am_hd0 (M := 192) (by decide) 29) (Nat.le_of_ble_eq_true rfl) (Nat.le_of_ble_eq_true rfl) (show 4 ≤ am_P0.2.2.1 190 from by decide +kernel) rfl (am_recv_ok hS1260.fs) rfl rfl (ct_value (d := (d + 3)) hS1260 hR1264_ (fun h => absurd h (by decide)) (fun h => absurd h (by decide)) (by show (0 : Int) ≤ (f 15).toInt; omega) (by show (f 15).toInt ≤ (32767 : Int); omega)) ?_
                    rintro v1265 S1266 (⟨z1267, g'1268, hv1269, hS1270, hR1275, h1271, h1272, h1273, h1274⟩)
                    subst hv1269
                    have h1271_ : z1267.toInt = (f 15).toInt + 1 := h1271
                    have h1272_ : ∀ j, j ∉ [16, 17, 18] → g'1268 j = g'1258 j := h1272
                    have h1273_ : mj_n (g'1268 16) z1267.toNatClampNeg 3 ≤ mj_n (g'792 16) (f 15).toNatClampNeg 3 + 1 := by rw [show g'1258 16 = g'1231 16 from h1263_ 16 (by decide), show g'1231 16 = g'1086 16 from h1235_ 16 (by decide), show g'1086 16 = g'824 16 from h1090_ 16 (by decide), show g'824 16 = g'792 16 from h829_ 16 (by decide)] at h1273; exact h1273
                    have h1274_ : (0 : Int) = 3 ∨ mj_n (g'1268 16) z1267.toNatClampNeg 3 ≤ mj_n (g'792 16) (f 15).toNatClampNeg 3 := by rw [show g'1258 16 = g'1231 16 from h1263_ 16 (by decide), show g'1231 16 = g'1086 16 from h1235_ 16 (by decide), show g'1086 16 = g'824 16 from h1090_ 16 (by decide), show g'824 16 = g'792 16 from h829_ 16 (by decide)] at h1274; exact h1274
                    replace hS1270 : MS S0 S1266 (upd (upd (upd (upd (upd (upd (upd f 4 z1239) 5 y1240) 10 z1230) 15 z1267) 62 o789) 68 z1256) 75 m791) g'1268 := hS1270
                    have hR1275_ : RJ (upd (upd (upd (upd (upd (upd (upd f 4 z1239) 5 y1240) 10 z1230) 15 z1267) 62 o789) 68 z1256) 75 m791) g'1268 (((33 : Int), (1 : Int), z808.toInt, (0 : Int), []) :: (((28 : Int), (0 : Int), (0 : Int), (0 : Int), []) :: gs)) bc [] 0 (z822.toNatClampNeg :: (s790.toNatClampNeg :: [])) := hR1275
                    show am_E _ _ _ _ [some (.ref 39), some (.int z808)] [] _ _
                    refine am_e2 (v := 39) hi_192_32 rfl ?_
                    refine am_e0 hi_192_33 ?_
                    refine am_e0 hi_192_35 ?_
                    refine am_e0 hi_192_36 ?_
                    refine am_e0 hi_192_37 ?_
                    refine am_e32n (as := [.ref 39, .int 35, .int 0, .int 0, .int 0]) (la := [some (.ref 39), some (.int 35), some (.int 0), some (.int 0), some (.int 0)]) (rest := []) hi_192_38 (am_hd0 (M := 192) (by decide) 38) (Nat.le_of_ble_eq_true rfl) (Nat.le_of_ble_eq_true rfl) (show 5 ≤ am_P0.2.2.1 179 from by decide +kernel) rfl (am_recv_ok hS1270.fs) rfl rfl (ct_pile (d := (d + 3)) hS1270 hR1275_ (mj_e_plain (by decide)) (by show (0 : Int) ≤ z1230.toInt; omega) (by show z1230.toInt ≤ (65535 : Int); omega)) ?_
                    rintro v1276 S1277 (⟨z1278, g'1279, hv1280, hS1281, hR1284, h1282, h1283⟩)
                    subst hv1280
                    have h1282_ : z1278.toInt = z1230.toInt + 1 := h1282
                    have h1283_ : ∀ j, j ∉ [11, 12, 13, 14] → g'1279 j = g'1268 j := h1283
                    replace hS1281 : MS S0 S1277 (upd (upd (upd (upd (upd (upd (upd f 4 z1239) 5 y1240) 10 z1278) 15 z1267) 62 o789) 68 z1256) 75 m791) g'1279 := hS1281
                    have hR1284_ : RJ (upd (upd (upd (upd (upd (upd (upd f 4 z1239) 5 y1240) 10 z1278) 15 z1267) 62 o789) 68 z1256) 75 m791) g'1279 (((35 : Int), (0 : Int), (0 : Int), (0 : Int), []) :: (((33 : Int), (1 : Int), z808.toInt, (0 : Int), []) :: (((28 : Int), (0 : Int), (0 : Int), (0 : Int), []) :: gs))) bc [] 0 (z822.toNatClampNeg :: (s790.toNatClampNeg :: [])) := hR1284
                    show am_E _ _ _ _ [some (.ref 39), some (.int z808)] [] _ _
                    refine am_e35 hi_192_41 ?_
                    show am_E _ _ _ _ [some (.ref 39), some (.int 1), some (.int z808)] [] _ _
                    refine am_e18 hi_212_74 ?_
                    refine am_e35 hi_212_125 ?_
                    show am_E _ _ _ _ [some (.ref 39), some (.int r2), some (.int (f 4)), some (.int r833)] [] _ _
                    refine am_e18 hi_211_211 ?_
                    refine am_e35 hi_211_249 ?_
                    show am_E _ _ _ _ [some (.ref 39), some (.int 28), some (.int on), some (.int tw)] [] _ _
                    refine am_e18 hi_181_180 ?_
                    refine am_e35 hi_181_397 ?_
                    show am_E _ _ _ _ [some (.ref 39), some (.int 28), some (.int on), some (.int tw), some (.int th)] [] _ _
                    refine am_e35 hi_180_13 ?_
                    have q1 : mg_p1 (((35 : Int), (0 : Int), (0 : Int), (0 : Int), []) :: (((33 : Int), (1 : Int), z808.toInt, (0 : Int), []) :: (((28 : Int), (0 : Int), (0 : Int), (0 : Int), []) :: gs))) = 0 + (0 + (0 + (mg_p1 gs))) := rfl
                    have q2 : mg_p2 (((35 : Int), (0 : Int), (0 : Int), (0 : Int), []) :: (((33 : Int), (1 : Int), z808.toInt, (0 : Int), []) :: (((28 : Int), (0 : Int), (0 : Int), (0 : Int), []) :: gs))) = 0 + (0 + (0 + (mg_p2 gs))) := rfl
                    have q3 : mg_p3 (((35 : Int), (0 : Int), (0 : Int), (0 : Int), []) :: (((33 : Int), (1 : Int), z808.toInt, (0 : Int), []) :: (((28 : Int), (0 : Int), (0 : Int), (0 : Int), []) :: gs))) = 3 + (1 + (1 + (mg_p3 gs))) := rfl
                    have q4 : mg_p4 (((35 : Int), (0 : Int), (0 : Int), (0 : Int), []) :: (((33 : Int), (1 : Int), z808.toInt, (0 : Int), []) :: (((28 : Int), (0 : Int), (0 : Int), (0 : Int), []) :: gs))) = 0 + (3 + (0 + (mg_p4 gs))) := rfl
                    refine ⟨_, _, _, bc, rfl, hS1281, Or.inl ⟨⟨(RJ.fewer (pj' := []) hR1284_ (fun _ h => nomatch h)), ?_, ?_⟩, rfl, ?_⟩⟩
                    · exact (⟨⟨(show (0 : Int) ≤ 35 from by decide), (show (0 : Int) ≤ z1267.toInt from by omega), (show 0 ≤ (f 20).toInt from by omega), (show 1 ≤ (f 37).toInt from by omega), (show 0 ≤ (f 32).toInt from by omega), (show (f 32).toInt ≤ y1240.toInt from by omega), (show y1240.toInt ≤ 48 from by omega), (show (f 37).toInt ≤ 2 * (y1240.toInt) + 2 from by omega), trivial⟩, ⟨⟨(show (0 : Int) ≤ 33 from by decide), (show (2 : Int) ≤ z1267.toInt + 0 from by omega), (show 0 ≤ (f 20).toInt from by omega), (show 1 ≤ (f 37).toInt + 0 from by omega), (show 0 ≤ (f 32).toInt + 0 from by omega), (show (f 32).toInt + 0 ≤ y1240.toInt + -1 from by omega), (show y1240.toInt + -1 ≤ 48 from by omega), (show (f 37).toInt + 0 ≤ 2 * (y1240.toInt + -1) + 2 from by omega), trivial⟩, ⟨⟨(show (0 : Int) ≤ 28 from by decide), (show (1 : Int) ≤ z1267.toInt + 0 + -1 from by omega), (show 0 ≤ (f 20).toInt from by omega), (show 1 ≤ (f 37).toInt + 0 + 0 from by omega), (show 0 ≤ (f 32).toInt + 0 + 0 from by omega), (show (f 32).toInt + 0 + 0 ≤ y1240.toInt + -1 + 0 from by omega), (show y1240.toInt + -1 + 0 ≤ 48 from by omega), (show (f 37).toInt + 0 + 0 ≤ 2 * (y1240.toInt + -1 + 0) + 2 from by omega), trivial⟩, mg_cast (mg_good_ext _ _ _ _ _ _ (fun i _ => by show g'1279 34 i = g 34 i; rw [show g'1279 34 = g'1268 34 from h1283_ 34 (by decide), show g'1268 34 = g'1258 34 from h1272_ 34 (by decide), show g'1258 34 = g'1231 34 from h1263_ 34 (by decide), show g'1231 34 = g'1086 34 from h1235_ 34 (by decide), show g'1086 34 = g'824 34 from h1090_ 34 (by decide), show g'824 34 = g'792 34 from h829_ 34 (by decide), show g'792 34 = g 34 from h800_ 34 (by decide)]) (fun i _ => by show g'1279 38 i = g 38 i; rw [show g'1279 38 = g'1268 38 from h1283_ 38 (by decide), show g'1268 38 = g'1258 38 from h1272_ 38 (by decide), show g'1258 38 = g'1231 38 from h1263_ 38 (by decide), show g'1231 38 = g'1086 38 from h1235_ 38 (by decide), show g'1086 38 = g'824 38 from h1090_ 38 (by decide), show g'824 38 = g'792 38 from h829_ 38 (by decide), show g'792 38 = g 38 from h800_ 38 (by decide)]) hrest) (by show (f 15).toInt + 0 = z1267.toInt + 0 + -1 + 0; omega) (by show (f 20).toInt = (f 20).toInt; omega) (by show (f 37).toInt + 0 = (f 37).toInt + 0 + 0 + 0; omega) (by show (f 32).toInt + 0 = (f 32).toInt + 0 + 0 + 0; omega) (by show (f 5).toInt + 0 = y1240.toInt + -1 + 0 + 0; omega)⟩⟩⟩ : mg_good (g'1279 34) (g'1279 38) (((35 : Int), (0 : Int), (0 : Int), (0 : Int), []) :: (((33 : Int), (1 : Int), z808.toInt, (0 : Int), []) :: (((28 : Int), (0 : Int), (0 : Int), (0 : Int), []) :: gs))) (z1267.toInt) ((f 20).toInt) ((f 37).toInt) ((f 32).toInt) (y1240.toInt))
                    · exact ⟨(by show 0 ≤ z1239.toInt; omega), (by show z1239.toInt ≤ (f 0).toInt; omega), (by show (f 0).toInt ≤ 512; omega), (by show 0 ≤ (f 24).toInt; omega), (by show (f 24).toInt + (f 20).toInt + mg_p1 (((35 : Int), (0 : Int), (0 : Int), (0 : Int), []) :: (((33 : Int), (1 : Int), z808.toInt, (0 : Int), []) :: (((28 : Int), (0 : Int), (0 : Int), (0 : Int), []) :: gs))) ≤ 4 * z1239.toInt; omega), (by show (f 20).toInt ≤ z1239.toInt; omega), (by show z1267.toInt + mg_p2 (((35 : Int), (0 : Int), (0 : Int), (0 : Int), []) :: (((33 : Int), (1 : Int), z808.toInt, (0 : Int), []) :: (((28 : Int), (0 : Int), (0 : Int), (0 : Int), []) :: gs))) ≤ z1239.toInt; omega), (by show mg_p3 (((35 : Int), (0 : Int), (0 : Int), (0 : Int), []) :: (((33 : Int), (1 : Int), z808.toInt, (0 : Int), []) :: (((28 : Int), (0 : Int), (0 : Int), (0 : Int), []) :: gs))) ≤ 20 * z1239.toInt + 20; omega), (by show 0 ≤ z1256.toInt; omega), (by show z1256.toInt + 3 * (f 20).toInt + mg_p4 (((35 : Int), (0 : Int), (0 : Int), (0 : Int), []) :: (((33 : Int), (1 : Int), z808.toInt, (0 : Int), []) :: (((28 : Int), (0 : Int), (0 : Int), (0 : Int), []) :: gs))) ≤ 60 * z1239.toInt + 60; omega), (by show 0 ≤ o789.toInt; omega), (by show o789.toInt + 64 * mj_n (g'1279 16) z1267.toNatClampNeg 3 ≤ 64 * z1239.toInt; rw [show g'1279 16 = g'1268 16 from h1283_ 16 (by decide)]; omega), (by show 0 ≤ (f 44).toInt; omega), (by show (f 44).toInt ≤ z1239.toInt; omega), (by show 0 ≤ (f 48).toInt; omega), (by show (f 48).toInt ≤ z1239.toInt; omega), (by show 1 ≤ (f 53).toInt; omega), (by show (f 53).toInt ≤ z1239.toInt + 1; omega)⟩
                    · show 100 * ((f 0).toInt - z1239.toInt) + mg_p3 (((35 : Int), (0 : Int), (0 : Int), (0 : Int), []) :: (((33 : Int), (1 : Int), z808.toInt, (0 : Int), []) :: (((28 : Int), (0 : Int), (0 : Int), (0 : Int), []) :: gs))) < 100 * ((f 0).toInt - (f 4).toInt) + (1 + mg_p3 gs); omega
                  · subst hv1250
                    replace hS1251 : MS S0 S1238 (upd (upd (upd (upd (upd (upd (upd f 4 z808) 6 a1248) 7 b1249) 10 0) 62 o789) 68 z822) 75 m791) g'1231 := hS1251
                    show am_E _ _ _ _ [some (.ref 39), some (.int z808)] [.int 0] _ _
                    refine am_e12f hi_192_11 (by decide) ?_
                    refine am_e35 hi_192_14 ?_
                    show am_E _ _ _ _ [some (.ref 39), some (.int 1), some (.int z808)] [] _ _
                    refine am_e18 hi_212_74 ?_
                    refine am_e35 hi_212_125 ?_
                    show am_E _ _ _ _ [some (.ref 39), some (.int r2), some (.int (f 4)), some (.int r833)] [] _ _
                    refine am_e18 hi_211_211 ?_
                    refine am_e35 hi_211_249 ?_
                    show am_E _ _ _ _ [some (.ref 39), some (.int 28), some (.int on), some (.int tw)] [] _ _
                    refine am_e18 hi_181_180 ?_
                    refine am_e35 hi_181_397 ?_
                    show am_E _ _ _ _ [some (.ref 39), some (.int 28), some (.int on), some (.int tw), some (.int th)] [] _ _
                    refine am_e35 hi_180_13 ?_
                    have hRc := rj_clear0 hR1236_
                    refine ⟨_, _, [], _, rfl, hS1251, Or.inr ⟨hRc, rfl, (by show 0 ≤ z808.toInt; omega), (by show z808.toInt ≤ (f 0).toInt; omega), (by show 0 ≤ (f 32).toInt; omega), (by show (f 32).toInt ≤ 63; omega), (by show 1 ≤ (f 53).toInt; omega), (by show (f 53).toInt ≤ 600; omega), (by show 0 ≤ z822.toInt; omega), (by show z822.toInt ≤ 60000; omega), (by show 0 ≤ (f 48).toInt; omega), (by show (f 48).toInt ≤ 8000; omega), (by show 0 ≤ (f 37).toInt; omega), (by show (f 37).toInt ≤ 128; omega), (by show 0 ≤ o789.toInt; omega), (by show o789.toInt ≤ 65000; omega)⟩⟩
              · refine am_e13f hi_212_10 (am_cF (m := r1094.toInt) (n := (3 : Int)) rfl (by decide) c1099) ?_
                refine am_e2 (v := 39) hi_212_13 rfl ?_
                refine am_e0 hi_212_14 ?_
                refine am_e2 (v := 39) hi_212_15 rfl ?_
                refine mm_20 (v := .ref 41) hS1096 hi_212_16 rfl ?_
                refine am_e2 (v := 39) hi_212_19 rfl ?_
                refine mm_20 (v := .int z808) hS1096 hi_212_20 rfl ?_
                refine mm_25 hS1096 ma_2 hi_212_23 (by decide) (by omega) (by omega) ?_
                show am_E _ _ _ _ _ (.int (g'1086 2 z808.toNatClampNeg) :: _) _ _
                rw [show g'1086 2 = g'824 2 from h1090_ 2 (by decide), show g'824 2 = g'792 2 from h829_ 2 (by decide), show g'792 2 = g 2 from h800_ 2 (by decide)]
                show am_E _ _ _ _ [some (.ref 39), some (.int 1), some (.int z808)] [.int (g 2 z808.toNatClampNeg), .int 5, .ref 39] _ _
                refine am_e0 hi_212_24 ?_
                refine am_e0 hi_212_25 ?_
                refine am_e32n (as := [.ref 39, .int 5, .int (g 2 z808.toNatClampNeg), .int 0, .int 0]) (la := [some (.ref 39), some (.int 5), some (.int (g 2 z808.toNatClampNeg)), some (.int 0), some (.int 0)]) (rest := []) hi_212_26 (am_hd0 (M := 212) (by decide) 26) (Nat.le_of_ble_eq_true rfl) (Nat.le_of_ble_eq_true rfl) (show 5 ≤ am_P0.2.2.1 189 from by decide +kernel) rfl (am_recv_ok hS1096.fs) rfl rfl (ct_put (d := (d + 4)) hS1096 hR1091_  (by show (0 : Int) ≤ (f 32).toInt; omega) (by show (f 32).toInt ≤ (63 : Int); omega) (by show (f 53).toInt ≤ (4096 : Int); omega) (by show (0 : Int) ≤ z822.toInt; omega) (by show z822.toInt ≤ (65534 : Int); omega)) ?_
                rintro v1285 S1286 (⟨z1287, r1288, g'1289, hv1290, hS1291, hR1295, h1292, h1293, h1294⟩)
                subst hv1290
                have h1292_ : z1287.toInt = z822.toInt + 1 := h1292
                have h1293_ : r1288.toInt = z822.toInt := h1293
                have h1294_ : ∀ j, j ∉ [60, 69, 70, 71, 72, 73] → g'1289 j = g'1086 j := h1294
                replace hS1291 : MS S0 S1286 (upd (upd (upd (upd (upd f 4 z808) 10 z1085) 62 o789) 68 z1287) 75 m791) g'1289 := hS1291
                have hR1295_ : RJ (upd (upd (upd (upd (upd f 4 z808) 10 z1085) 62 o789) 68 z1287) 75 m791) g'1289 (((28 : Int), (0 : Int), (0 : Int), (0 : Int), []) :: gs) bc [] 0 (z822.toNatClampNeg :: (s790.toNatClampNeg :: [])) := hR1295
                show am_E _ _ _ _ [some (.ref 39), some (.int 1), some (.int z808)] [.int r1288] _ _
                refine am_e6i hi_212_29 ?_
                refine am_e2 (v := 39) hi_212_30 rfl ?_
                refine am_e7 hi_212_31 ?_
                refine mm_20 (v := .int z808) hS1291 hi_212_32 rfl ?_
                refine am_e0 hi_212_35 ?_
                obtain ⟨z1296, hz1296, tz1296⟩ := am_addI (x := z808) (y := 1) (m := z808.toInt) (n := (1 : Int)) rfl (by decide) (by omega) (by omega)
                refine am_e10 (z := z1296) hi_212_36 hz1296 ?_
                refine mm_21 (v := z1296) hS1291 hi_212_37 rfl (Nat.le_of_ble_eq_true rfl) ms_4 ?_
                intro S1297 hS1298
                replace hS1298 : MS S0 S1297 (upd (upd (upd (upd (upd f 4 z1296) 10 z1085) 62 o789) 68 z1287) 75 m791) g'1289 := hS1298
                have hR1299 : RJ (upd (upd (upd (upd (upd f 4 z1296) 10 z1085) 62 o789) 68 z1287) 75 m791) g'1289 (((28 : Int), (0 : Int), (0 : Int), (0 : Int), []) :: gs) bc [] 0 (z822.toNatClampNeg :: (s790.toNatClampNeg :: [])) := RJ.at hR1295_ (by show z808.toInt ≤ z1296.toInt; omega)
                refine am_e2 (v := 39) hi_212_40 rfl ?_
                refine am_e0 hi_212_41 ?_
                refine am_e1 (v := 1) hi_212_42 rfl ?_
                refine am_e10 (z := 2) hi_212_43 (by decide) ?_
                refine am_e0 hi_212_44 ?_
                refine am_e1 (v := z808) hi_212_45 rfl ?_
                refine am_e32w (as := [.ref 39, .int 2, .int 0, .int z808]) (la := [some (.ref 39), some (.int 2), some (.int 0), some (.int z808), none]) (rest := []) hi_212_46 (am_hd0 (M := 212) (by decide) 46) (Nat.le_of_ble_eq_true rfl) (Nat.le_of_ble_eq_true rfl) (show 4 ≤ am_P0.2.2.1 213 from by decide +kernel) rfl (am_recv_ok hS1298.fs) rfl rfl ?_
                refine am_e2 (v := 39) hi_213_0 rfl ?_
                refine am_e0 hi_213_1 ?_
                refine am_e1 (v := 2) hi_213_3 rfl ?_
                refine am_e1 (v := 0) hi_213_4 rfl ?_
                refine am_e0 hi_213_5 ?_
                refine am_e10 (z := 2) hi_213_6 (by decide) ?_
                refine am_e1 (v := z808) hi_213_7 rfl ?_
                refine am_e32n (as := [.ref 39, .int 13, .int 2, .int 2, .int z808]) (la := [some (.ref 39), some (.int 13), some (.int 2), some (.int 2), some (.int z808)]) (rest := []) hi_213_8 (am_hd0 (M := 213) (by decide) 8) (Nat.le_of_ble_eq_true rfl) (Nat.le_of_ble_eq_true rfl) (show 5 ≤ am_P0.2.2.1 189 from by decide +kernel) rfl (am_recv_ok hS1298.fs) rfl rfl (ct_put (d := (d + 3)) hS1298 hR1299  (by show (0 : Int) ≤ (f 32).toInt; omega) (by show (f 32).toInt ≤ (63 : Int); omega) (by show (f 53).toInt ≤ (4096 : Int); omega) (by show (0 : Int) ≤ z1287.toInt; omega) (by show z1287.toInt ≤ (65534 : Int); omega)) ?_
                rintro v1300 S1301 (⟨z1302, r1303, g'1304, hv1305, hS1306, hR1310, h1307, h1308, h1309⟩)
                subst hv1305
                have h1307_ : z1302.toInt = z1287.toInt + 1 := h1307
                have h1308_ : r1303.toInt = z1287.toInt := h1308
                have h1309_ : ∀ j, j ∉ [60, 69, 70, 71, 72, 73] → g'1304 j = g'1289 j := h1309
                replace hS1306 : MS S0 S1301 (upd (upd (upd (upd (upd f 4 z1296) 10 z1085) 62 o789) 68 z1302) 75 m791) g'1304 := hS1306
                have hR1310_ : RJ (upd (upd (upd (upd (upd f 4 z1296) 10 z1085) 62 o789) 68 z1302) 75 m791) g'1304 (((28 : Int), (0 : Int), (0 : Int), (0 : Int), []) :: gs) bc [] 0 (z1287.toNatClampNeg :: (z822.toNatClampNeg :: (s790.toNatClampNeg :: []))) := hR1310
                show am_E _ _ _ _ [some (.ref 39), some (.int 2), some (.int 0), some (.int z808), none] [.int r1303] _ _
                refine am_e3 (ls' := [some (.ref 39), some (.int 2), some (.int 0), some (.int z808), some (.int r1303)]) hi_213_11 (Nat.le_of_ble_eq_true rfl) rfl ?_
                refine am_e2 (v := 39) hi_213_13 rfl ?_
                refine am_e7 hi_213_14 ?_
                refine mm_20 (v := .int (f 15)) hS1306 hi_213_15 rfl ?_
                refine am_e0 hi_213_18 ?_
                obtain ⟨z1311, hz1311, tz1311⟩ := am_subI (x := f 15) (y := 1) (m := (f 15).toInt) (n := (1 : Int)) rfl (by decide) (by omega) (by omega)
                refine am_e10 (z := z1311) hi_213_19 hz1311 ?_
                refine mm_21 (v := z1311) hS1306 hi_213_20 rfl (Nat.le_of_ble_eq_true rfl) ms_15 ?_
                intro S1312 hS1313
                replace hS1313 : MS S0 S1312 (upd (upd (upd (upd (upd (upd f 4 z1296) 10 z1085) 15 z1311) 62 o789) 68 z1302) 75 m791) g'1304 := hS1313
                have hp1314 : mj_n (g'792 16) (f 15).toNatClampNeg 3 = mj_n (g'792 16) z1311.toNatClampNeg 3 + if (g'792 16 z1311.toNatClampNeg).toInt = 3 then 1 else 0 := mj_pop (by rw [cl_toNat, cl_toNat]; omega)
                have hp13141 : mj_n (g'792 16) z1311.toNatClampNeg 3 ≤ mj_n (g'792 16) (f 15).toNatClampNeg 3 := by rw [hp1314]; split <;> omega
                have hp13142 : (g'792 16 z1311.toNatClampNeg).toInt = 3 → mj_n (g'792 16) z1311.toNatClampNeg 3 + 1 ≤ mj_n (g'792 16) (f 15).toNatClampNeg 3 := fun q => by rw [hp1314, if_pos q]; exact Int.le_refl _
                refine am_e2 (v := 39) hi_213_23 rfl ?_
                refine am_e0 hi_213_24 ?_
                refine am_e1 (v := r1303) hi_213_25 rfl ?_
                refine am_e1 (v := z808) hi_213_27 rfl ?_
                refine am_e32n (as := [.ref 39, .int 1, .int r1303, .int z808]) (la := [some (.ref 39), some (.int 1), some (.int r1303), some (.int z808)]) (rest := []) hi_213_28 (am_hd0 (M := 213) (by decide) 28) (Nat.le_of_ble_eq_true rfl) (Nat.le_of_ble_eq_true rfl) (show 4 ≤ am_P0.2.2.1 190 from by decide +kernel) rfl (am_recv_ok hS1313.fs) rfl rfl (ct_value (d := (d + 3)) hS1313 hR1310_ (fun h => absurd h (by decide)) (fun _ => ⟨by omega, by omega⟩) (by show (0 : Int) ≤ z1311.toInt; omega) (by show z1311.toInt ≤ (32767 : Int); omega)) ?_
                rintro v1315 S1316 (⟨z1317, g'1318, hv1319, hS1320, hR1325, h1321, h1322, h1323, h1324⟩)
                subst hv1319
                have h1321_ : z1317.toInt = z1311.toInt + 1 := h1321
                have h1322_ : ∀ j, j ∉ [16, 17, 18] → g'1318 j = g'1304 j := h1322
                have h1323_ : mj_n (g'1318 16) z1317.toNatClampNeg 3 ≤ mj_n (g'792 16) z1311.toNatClampNeg 3 + 1 := by rw [show g'1304 16 = g'1289 16 from h1309_ 16 (by decide), show g'1289 16 = g'1086 16 from h1294_ 16 (by decide), show g'1086 16 = g'824 16 from h1090_ 16 (by decide), show g'824 16 = g'792 16 from h829_ 16 (by decide)] at h1323; exact h1323
                have h1324_ : (1 : Int) = 3 ∨ mj_n (g'1318 16) z1317.toNatClampNeg 3 ≤ mj_n (g'792 16) z1311.toNatClampNeg 3 := by rw [show g'1304 16 = g'1289 16 from h1309_ 16 (by decide), show g'1289 16 = g'1086 16 from h1294_ 16 (by decide), show g'1086 16 = g'824 16 from h1090_ 16 (by decide), show g'824 16 = g'792 16 from h829_ 16 (by decide)] at h1324; exact h1324
                replace hS1320 : MS S0 S1316 (upd (upd (upd (upd (upd (upd f 4 z1296) 10 z1085) 15 z1317) 62 o789) 68 z1302) 75 m791) g'1318 := hS1320
                have hR1325_ : RJ (upd (upd (upd (upd (upd (upd f 4 z1296) 10 z1085) 15 z1317) 62 o789) 68 z1302) 75 m791) g'1318 (((28 : Int), (0 : Int), (0 : Int), (0 : Int), []) :: gs) bc [] 0 (z1287.toNatClampNeg :: (z822.toNatClampNeg :: (s790.toNatClampNeg :: []))) := hR1325
                show am_E _ _ _ _ [some (.ref 39), some (.int 2), some (.int 0), some (.int z808), some (.int r1303)] [] _ _
                refine am_e35 hi_213_31 ?_
                show am_E _ _ _ _ [some (.ref 39), some (.int 1), some (.int z808)] [] _ _
                refine am_e18 hi_212_49 ?_
                refine am_e35 hi_212_125 ?_
                show am_E _ _ _ _ [some (.ref 39), some (.int r2), some (.int (f 4)), some (.int r833)] [] _ _
                refine am_e18 hi_211_211 ?_
                refine am_e35 hi_211_249 ?_
                show am_E _ _ _ _ [some (.ref 39), some (.int 28), some (.int on), some (.int tw)] [] _ _
                refine am_e18 hi_181_180 ?_
                refine am_e35 hi_181_397 ?_
                show am_E _ _ _ _ [some (.ref 39), some (.int 28), some (.int on), some (.int tw), some (.int th)] [] _ _
                refine am_e35 hi_180_13 ?_
                have q1 : mg_p1 (((28 : Int), (0 : Int), (0 : Int), (0 : Int), []) :: gs) = 0 + (mg_p1 gs) := rfl
                have q2 : mg_p2 (((28 : Int), (0 : Int), (0 : Int), (0 : Int), []) :: gs) = 0 + (mg_p2 gs) := rfl
                have q3 : mg_p3 (((28 : Int), (0 : Int), (0 : Int), (0 : Int), []) :: gs) = 1 + (mg_p3 gs) := rfl
                have q4 : mg_p4 (((28 : Int), (0 : Int), (0 : Int), (0 : Int), []) :: gs) = 0 + (mg_p4 gs) := rfl
                refine ⟨_, _, _, bc, rfl, hS1320, Or.inl ⟨⟨(RJ.fewer (pj' := []) hR1325_ (fun _ h => nomatch h)), ?_, ?_⟩, rfl, ?_⟩⟩
                · exact (⟨⟨(show (0 : Int) ≤ 28 from by decide), (show (1 : Int) ≤ z1317.toInt from by omega), (show 0 ≤ (f 20).toInt from by omega), (show 1 ≤ (f 37).toInt from by omega), (show 0 ≤ (f 32).toInt from by omega), (show (f 32).toInt ≤ (f 5).toInt from by omega), (show (f 5).toInt ≤ 48 from by omega), (show (f 37).toInt ≤ 2 * ((f 5).toInt) + 2 from by omega), trivial⟩, mg_cast (mg_good_ext _ _ _ _ _ _ (fun i _ => by show g'1318 34 i = g 34 i; rw [show g'1318 34 = g'1304 34 from h1322_ 34 (by decide), show g'1304 34 = g'1289 34 from h1309_ 34 (by decide), show g'1289 34 = g'1086 34 from h1294_ 34 (by decide), show g'1086 34 = g'824 34 from h1090_ 34 (by decide), show g'824 34 = g'792 34 from h829_ 34 (by decide), show g'792 34 = g 34 from h800_ 34 (by decide)]) (fun i _ => by show g'1318 38 i = g 38 i; rw [show g'1318 38 = g'1304 38 from h1322_ 38 (by decide), show g'1304 38 = g'1289 38 from h1309_ 38 (by decide), show g'1289 38 = g'1086 38 from h1294_ 38 (by decide), show g'1086 38 = g'824 38 from h1090_ 38 (by decide), show g'824 38 = g'792 38 from h829_ 38 (by decide), show g'792 38 = g 38 from h800_ 38 (by decide)]) hrest) (by show (f 15).toInt + 0 = z1317.toInt + 0; omega) (by show (f 20).toInt = (f 20).toInt; omega) (by show (f 37).toInt + 0 = (f 37).toInt + 0; omega) (by show (f 32).toInt + 0 = (f 32).toInt + 0; omega) (by show (f 5).toInt + 0 = (f 5).toInt + 0; omega)⟩ : mg_good (g'1318 34) (g'1318 38) (((28 : Int), (0 : Int), (0 : Int), (0 : Int), []) :: gs) (z1317.toInt) ((f 20).toInt) ((f 37).toInt) ((f 32).toInt) ((f 5).toInt))
                · exact ⟨(by show 0 ≤ z1296.toInt; omega), (by show z1296.toInt ≤ (f 0).toInt; omega), (by show (f 0).toInt ≤ 512; omega), (by show 0 ≤ (f 24).toInt; omega), (by show (f 24).toInt + (f 20).toInt + mg_p1 (((28 : Int), (0 : Int), (0 : Int), (0 : Int), []) :: gs) ≤ 4 * z1296.toInt; omega), (by show (f 20).toInt ≤ z1296.toInt; omega), (by show z1317.toInt + mg_p2 (((28 : Int), (0 : Int), (0 : Int), (0 : Int), []) :: gs) ≤ z1296.toInt; omega), (by show mg_p3 (((28 : Int), (0 : Int), (0 : Int), (0 : Int), []) :: gs) ≤ 20 * z1296.toInt + 20; omega), (by show 0 ≤ z1302.toInt; omega), (by show z1302.toInt + 3 * (f 20).toInt + mg_p4 (((28 : Int), (0 : Int), (0 : Int), (0 : Int), []) :: gs) ≤ 60 * z1296.toInt + 60; omega), (by show 0 ≤ o789.toInt; omega), (by show o789.toInt + 64 * mj_n (g'1318 16) z1317.toNatClampNeg 3 ≤ 64 * z1296.toInt; omega), (by show 0 ≤ (f 44).toInt; omega), (by show (f 44).toInt ≤ z1296.toInt; omega), (by show 0 ≤ (f 48).toInt; omega), (by show (f 48).toInt ≤ z1296.toInt; omega), (by show 1 ≤ (f 53).toInt; omega), (by show (f 53).toInt ≤ z1296.toInt + 1; omega)⟩
                · show 100 * ((f 0).toInt - z1296.toInt) + mg_p3 (((28 : Int), (0 : Int), (0 : Int), (0 : Int), []) :: gs) < 100 * ((f 0).toInt - (f 4).toInt) + (1 + mg_p3 gs); omega
            · refine am_e13f hi_211_180 (am_cF (m := r833.toInt) (n := (3 : Int)) rfl (by decide) c1082) ?_
              refine am_e1 (v := r833) hi_211_183 rfl ?_
              refine am_e0 hi_211_184 ?_
              by_cases c1326 : r833.toInt = (62 : Int)
              · refine am_e13t hi_211_186 (am_cT (m := r833.toInt) (n := (62 : Int)) rfl (by decide) c1326) ?_
                refine am_e2 (v := 39) hi_211_197 rfl ?_
                refine am_e0 hi_211_198 ?_
                refine am_e0 hi_211_200 ?_
                refine am_e0 hi_211_201 ?_
                refine am_e0 hi_211_202 ?_
                refine am_e32n (as := [.ref 39, .int 28, .int 0, .int 0, .int 0]) (la := [some (.ref 39), some (.int 28), some (.int 0), some (.int 0), some (.int 0)]) (rest := []) hi_211_203 (am_hd0 (M := 211) (by decide) 203) (Nat.le_of_ble_eq_true rfl) (Nat.le_of_ble_eq_true rfl) (show 5 ≤ am_P0.2.2.1 179 from by decide +kernel) rfl (am_recv_ok hS835.fs) rfl rfl (ct_pile (d := (d + 5)) hS835 hR830_ (mj_e_plain (by decide)) (by show (0 : Int) ≤ (f 10).toInt; omega) (by show (f 10).toInt ≤ (65535 : Int); omega)) ?_
                rintro v1327 S1328 (⟨z1329, g'1330, hv1331, hS1332, hR1335, h1333, h1334⟩)
                subst hv1331
                have h1333_ : z1329.toInt = (f 10).toInt + 1 := h1333
                have h1334_ : ∀ j, j ∉ [11, 12, 13, 14] → g'1330 j = g'824 j := h1334
                replace hS1332 : MS S0 S1328 (upd (upd (upd (upd (upd f 4 z808) 10 z1329) 62 o789) 68 z822) 75 m791) g'1330 := hS1332
                have hR1335_ : RJ (upd (upd (upd (upd (upd f 4 z808) 10 z1329) 62 o789) 68 z822) 75 m791) g'1330 (((28 : Int), (0 : Int), (0 : Int), (0 : Int), []) :: gs) bc [] 0 (s790.toNatClampNeg :: []) := hR1335
                show am_E _ _ _ _ [some (.ref 39), some (.int r2), some (.int (f 4)), some (.int r833)] [] _ _
                refine am_e2 (v := 39) hi_211_206 rfl ?_
                refine am_e0 hi_211_207 ?_
                refine am_e32w (as := [.ref 39, .int 1]) (la := [some (.ref 39), some (.int 1), none]) (rest := []) hi_211_208 (am_hd0 (M := 211) (by decide) 208) (Nat.le_of_ble_eq_true rfl) (Nat.le_of_ble_eq_true rfl) (show 2 ≤ am_P0.2.2.1 212 from by decide +kernel) rfl (am_recv_ok hS1332.fs) rfl rfl ?_
                refine am_e2 (v := 39) hi_212_0 rfl ?_
                refine mm_20 (v := .int z808) hS1332 hi_212_1 rfl ?_
                refine am_e3 (ls' := [some (.ref 39), some (.int 1), some (.int z808)]) hi_212_4 (Nat.le_of_ble_eq_true rfl) rfl ?_
                refine am_e2 (v := 39) hi_212_5 rfl ?_
                refine am_e32n (as := [.ref 39]) (la := [some (.ref 39)]) (rest := []) hi_212_6 (am_hd0 (M := 212) (by decide) 6) (Nat.le_of_ble_eq_true rfl) (Nat.le_of_ble_eq_true rfl) (show 1 ≤ am_P0.2.2.1 183 from by decide +kernel) rfl (am_recv_ok hS1332.fs) rfl rfl (ct_next (d := (d + 3)) hS1332   (by show (0 : Int) ≤ z808.toInt; omega) (by show (f 0).toInt ≤ (16384 : Int); omega)) ?_
                rintro v1336 S1337 (⟨r1338, hv1339, hS1340, h1341⟩)
                subst hv1339
                have h1341_ : z808.toInt < (f 0).toInt ∨ r1338.toInt = (-1 : Int) := h1341
                show am_E _ _ _ _ [some (.ref 39), some (.int 1), some (.int z808)] [.int r1338] _ _
                refine am_e0 hi_212_9 ?_
                by_cases c1343 : ¬ r1338.toInt = (3 : Int)
                · refine am_e13t hi_212_10 (am_cT (m := r1338.toInt) (n := (3 : Int)) rfl (by decide) c1343) ?_
                  refine am_e2 (v := 39) hi_212_52 rfl ?_
                  refine am_e32n (as := [.ref 39]) (la := [some (.ref 39)]) (rest := []) hi_212_53 (am_hd0 (M := 212) (by decide) 53) (Nat.le_of_ble_eq_true rfl) (Nat.le_of_ble_eq_true rfl) (show 1 ≤ am_P0.2.2.1 183 from by decide +kernel) rfl (am_recv_ok hS1340.fs) rfl rfl (ct_next (d := (d + 3)) hS1340   (by show (0 : Int) ≤ z808.toInt; omega) (by show (f 0).toInt ≤ (16384 : Int); omega)) ?_
                  rintro v1344 S1345 (⟨r1346, hv1347, hS1348, h1349⟩)
                  subst hv1347
                  have h1349_ : z808.toInt < (f 0).toInt ∨ r1346.toInt = (-1 : Int) := h1349
                  show am_E _ _ _ _ [some (.ref 39), some (.int 1), some (.int z808)] [.int r1346] _ _
                  refine am_e0 hi_212_56 ?_
                  by_cases c1351 : ¬ r1346.toInt = (62 : Int)
                  · refine am_e13t hi_212_58 (am_cT (m := r1346.toInt) (n := (62 : Int)) rfl (by decide) c1351) ?_
                    refine am_e2 (v := 39) hi_212_77 rfl ?_
                    refine am_e0 hi_212_78 ?_
                    refine am_e32n (as := [.ref 39, .int 60]) (la := [some (.ref 39), some (.int 60)]) (rest := []) hi_212_80 (am_hd0 (M := 212) (by decide) 80) (Nat.le_of_ble_eq_true rfl) (Nat.le_of_ble_eq_true rfl) (show 2 ≤ am_P0.2.2.1 193 from by decide +kernel) rfl (am_recv_ok hS1348.fs) rfl rfl (ct_enter (d := (d + 2)) hS1348   (by show (0 : Int) ≤ z808.toInt; omega) (by show (f 0).toInt ≤ (16384 : Int); omega) (by show (0 : Int) ≤ (60 : Int); omega) (by show (0 : Int) ≤ (f 5).toInt; omega) (by show (f 5).toInt ≤ (48 : Int); omega)) ?_
                    rintro v1352 S1353 (⟨z1354, y1355, hv1356, hS1357, h1358, h1359, h1360, h1361⟩ | ⟨a1363, b1364, hv1365, hS1366⟩)
                    · subst hv1356
                      have h1358_ : z1354.toInt = z808.toInt + 1 := h1358
                      have h1359_ : z808.toInt < (f 0).toInt := h1359
                      have h1360_ : y1355.toInt = (f 5).toInt + 1 := h1360
                      have h1361_ : y1355.toInt ≤ (48 : Int) := h1361
                      replace hS1357 : MS S0 S1353 (upd (upd (upd (upd (upd (upd f 4 z1354) 5 y1355) 10 z1329) 62 o789) 68 z822) 75 m791) g'1330 := hS1357
                      have hR1368 : RJ (upd (upd (upd (upd (upd (upd f 4 z1354) 5 y1355) 10 z1329) 62 o789) 68 z822) 75 m791) g'1330 (((28 : Int), (0 : Int), (0 : Int), (0 : Int), []) :: gs) bc [] 0 (s790.toNatClampNeg :: []) := RJ.at hR1335_ (by show z808.toInt ≤ z1354.toInt; omega)
                      show am_E _ _ _ _ [some (.ref 39), some (.int 1), some (.int z808)] [.int 1] _ _
                      refine am_e12f hi_212_83 (by decide) ?_
                      refine am_e2 (v := 39) hi_212_86 rfl ?_
                      refine am_e32n (as := [.ref 39]) (la := [some (.ref 39)]) (rest := []) hi_212_87 (am_hd0 (M := 212) (by decide) 87) (Nat.le_of_ble_eq_true rfl) (Nat.le_of_ble_eq_true rfl) (show 1 ≤ am_P0.2.2.1 183 from by decide +kernel) rfl (am_recv_ok hS1357.fs) rfl rfl (ct_next (d := (d + 3)) hS1357   (by show (0 : Int) ≤ z1354.toInt; omega) (by show (f 0).toInt ≤ (16384 : Int); omega)) ?_
                      rintro v1369 S1370 (⟨r1371, hv1372, hS1373, h1374⟩)
                      subst hv1372
                      have h1374_ : z1354.toInt < (f 0).toInt ∨ r1371.toInt = (-1 : Int) := h1374
                      show am_E _ _ _ _ [some (.ref 39), some (.int 1), some (.int z808)] [.int r1371] _ _
                      refine am_e0 hi_212_90 ?_
                      by_cases c1376 : ¬ r1371.toInt = (61 : Int)
                      · refine am_e13t hi_212_92 (am_cT (m := r1371.toInt) (n := (61 : Int)) rfl (by decide) c1376) ?_
                        refine am_e2 (v := 39) hi_212_112 rfl ?_
                        refine am_e0 hi_212_113 ?_
                        refine am_e1 (v := 1) hi_212_115 rfl ?_
                        refine am_e1 (v := z808) hi_212_116 rfl ?_
                        refine am_e0 hi_212_117 ?_
                        refine am_e32n (as := [.ref 39, .int 32, .int 1, .int z808, .int 0]) (la := [some (.ref 39), some (.int 32), some (.int 1), some (.int z808), some (.int 0)]) (rest := []) hi_212_118 (am_hd0 (M := 212) (by decide) 118) (Nat.le_of_ble_eq_true rfl) (Nat.le_of_ble_eq_true rfl) (show 5 ≤ am_P0.2.2.1 179 from by decide +kernel) rfl (am_recv_ok hS1373.fs) rfl rfl (ct_pile (d := (d + 4)) hS1373 hR1368 (mj_e_plain (by decide)) (by show (0 : Int) ≤ z1329.toInt; omega) (by show z1329.toInt ≤ (65535 : Int); omega)) ?_
                        rintro v1377 S1378 (⟨z1379, g'1380, hv1381, hS1382, hR1385, h1383, h1384⟩)
                        subst hv1381
                        have h1383_ : z1379.toInt = z1329.toInt + 1 := h1383
                        have h1384_ : ∀ j, j ∉ [11, 12, 13, 14] → g'1380 j = g'1330 j := h1384
                        replace hS1382 : MS S0 S1378 (upd (upd (upd (upd (upd (upd f 4 z1354) 5 y1355) 10 z1379) 62 o789) 68 z822) 75 m791) g'1380 := hS1382
                        have hR1385_ : RJ (upd (upd (upd (upd (upd (upd f 4 z1354) 5 y1355) 10 z1379) 62 o789) 68 z822) 75 m791) g'1380 (((32 : Int), (1 : Int), z808.toInt, (0 : Int), []) :: (((28 : Int), (0 : Int), (0 : Int), (0 : Int), []) :: gs)) bc [] 0 (s790.toNatClampNeg :: []) := hR1385
                        show am_E _ _ _ _ [some (.ref 39), some (.int 1), some (.int z808)] [] _ _
                        refine am_e2 (v := 39) hi_212_121 rfl ?_
                        refine am_e32w (as := [.ref 39]) (la := [some (.ref 39)]) (rest := []) hi_212_122 (am_hd0 (M := 212) (by decide) 122) (Nat.le_of_ble_eq_true rfl) (Nat.le_of_ble_eq_true rfl) (show 1 ≤ am_P0.2.2.1 214 from by decide +kernel) rfl (am_recv_ok hS1382.fs) rfl rfl ?_
                        refine am_e2 (v := 39) hi_214_0 rfl ?_
                        refine am_e0 hi_214_1 ?_
                        refine am_e0 hi_214_3 ?_
                        refine am_e0 hi_214_4 ?_
                        refine am_e0 hi_214_5 ?_
                        refine am_e32n (as := [.ref 39, .int 34, .int 1, .int 0, .int 0]) (la := [some (.ref 39), some (.int 34), some (.int 1), some (.int 0), some (.int 0)]) (rest := []) hi_214_6 (am_hd0 (M := 214) (by decide) 6) (Nat.le_of_ble_eq_true rfl) (Nat.le_of_ble_eq_true rfl) (show 5 ≤ am_P0.2.2.1 179 from by decide +kernel) rfl (am_recv_ok hS1382.fs) rfl rfl (ct_pile (d := (d + 3)) hS1382 hR1385_ (mj_e_plain (by decide)) (by show (0 : Int) ≤ z1379.toInt; omega) (by show z1379.toInt ≤ (65535 : Int); omega)) ?_
                        rintro v1386 S1387 (⟨z1388, g'1389, hv1390, hS1391, hR1394, h1392, h1393⟩)
                        subst hv1390
                        have h1392_ : z1388.toInt = z1379.toInt + 1 := h1392
                        have h1393_ : ∀ j, j ∉ [11, 12, 13, 14] → g'1389 j = g'1380 j := h1393
                        replace hS1391 : MS S0 S1387 (upd (upd (upd (upd (upd (upd f 4 z1354) 5 y1355) 10 z1388) 62 o789) 68 z822) 75 m791) g'1389 := hS1391
                        have hR1394_ : RJ (upd (upd (upd (upd (upd (upd f 4 z1354) 5 y1355) 10 z1388) 62 o789) 68 z822) 75 m791) g'1389 (((34 : Int), (1 : Int), (0 : Int), (0 : Int), []) :: (((32 : Int), (1 : Int), z808.toInt, (0 : Int), []) :: (((28 : Int), (0 : Int), (0 : Int), (0 : Int), []) :: gs))) bc [] 0 (s790.toNatClampNeg :: []) := hR1394
                        show am_E _ _ _ _ [some (.ref 39)] [] _ _
                        refine am_e2 (v := 39) hi_214_9 rfl ?_
                        refine am_e0 hi_214_10 ?_
                        refine am_e32w (as := [.ref 39, .int 0]) (la := [some (.ref 39), some (.int 0)]) (rest := []) hi_214_11 (am_hd0 (M := 214) (by decide) 11) (Nat.le_of_ble_eq_true rfl) (Nat.le_of_ble_eq_true rfl) (show 2 ≤ am_P0.2.2.1 186 from by decide +kernel) rfl (am_recv_ok hS1391.fs) rfl rfl ?_
                        refine am_e2 (v := 39) hi_186_0 rfl ?_
                        refine am_e0 hi_186_1 ?_
                        refine am_e1 (v := 0) hi_186_3 rfl ?_
                        refine am_e0 hi_186_4 ?_
                        refine am_e0 hi_186_5 ?_
                        refine am_e32n (as := [.ref 39, .int 23, .int 0, .int 0, .int 0]) (la := [some (.ref 39), some (.int 23), some (.int 0), some (.int 0), some (.int 0)]) (rest := []) hi_186_6 (am_hd0 (M := 186) (by decide) 6) (Nat.le_of_ble_eq_true rfl) (Nat.le_of_ble_eq_true rfl) (show 5 ≤ am_P0.2.2.1 179 from by decide +kernel) rfl (am_recv_ok hS1391.fs) rfl rfl (ct_pile (d := (d + 2)) hS1391 hR1394_ (mj_e_plain (by decide)) (by show (0 : Int) ≤ z1388.toInt; omega) (by show z1388.toInt ≤ (65535 : Int); omega)) ?_
                        rintro v1395 S1396 (⟨z1397, g'1398, hv1399, hS1400, hR1403, h1401, h1402⟩)
                        subst hv1399
                        have h1401_ : z1397.toInt = z1388.toInt + 1 := h1401
                        have h1402_ : ∀ j, j ∉ [11, 12, 13, 14] → g'1398 j = g'1389 j := h1402
                        replace hS1400 : MS S0 S1396 (upd (upd (upd (upd (upd (upd f 4 z1354) 5 y1355) 10 z1397) 62 o789) 68 z822) 75 m791) g'1398 := hS1400
                        have hR1403_ : RJ (upd (upd (upd (upd (upd (upd f 4 z1354) 5 y1355) 10 z1397) 62 o789) 68 z822) 75 m791) g'1398 (((23 : Int), (0 : Int), (0 : Int), (0 : Int), []) :: (((34 : Int), (1 : Int), (0 : Int), (0 : Int), []) :: (((32 : Int), (1 : Int), z808.toInt, (0 : Int), []) :: (((28 : Int), (0 : Int), (0 : Int), (0 : Int), []) :: gs)))) bc [] 0 (s790.toNatClampNeg :: []) := hR1403
                        show am_E _ _ _ _ [some (.ref 39), some (.int 0)] [] _ _
                        refine am_e35 hi_186_9 ?_
                        show am_E _ _ _ _ [some (.ref 39)] [] _ _
                        refine am_e35 hi_214_14 ?_
                        show am_E _ _ _ _ [some (.ref 39), some (.int 1), some (.int z808)] [] _ _
                        refine am_e35 hi_212_125 ?_
                        show am_E _ _ _ _ [some (.ref 39), some (.int r2), some (.int (f 4)), some (.int r833)] [] _ _
                        refine am_e18 hi_211_211 ?_
                        refine am_e35 hi_211_249 ?_
                        show am_E _ _ _ _ [some (.ref 39), some (.int 28), some (.int on), some (.int tw)] [] _ _
                        refine am_e18 hi_181_180 ?_
                        refine am_e35 hi_181_397 ?_
                        show am_E _ _ _ _ [some (.ref 39), some (.int 28), some (.int on), some (.int tw), some (.int th)] [] _ _
                        refine am_e35 hi_180_13 ?_
                        have q1 : mg_p1 (((23 : Int), (0 : Int), (0 : Int), (0 : Int), []) :: (((34 : Int), (1 : Int), (0 : Int), (0 : Int), []) :: (((32 : Int), (1 : Int), z808.toInt, (0 : Int), []) :: (((28 : Int), (0 : Int), (0 : Int), (0 : Int), []) :: gs)))) = 0 + (0 + (0 + (0 + (mg_p1 gs)))) := rfl
                        have q2 : mg_p2 (((23 : Int), (0 : Int), (0 : Int), (0 : Int), []) :: (((34 : Int), (1 : Int), (0 : Int), (0 : Int), []) :: (((32 : Int), (1 : Int), z808.toInt, (0 : Int), []) :: (((28 : Int), (0 : Int), (0 : Int), (0 : Int), []) :: gs)))) = 0 + (0 + (0 + (0 + (mg_p2 gs)))) := rfl
                        have q3 : mg_p3 (((23 : Int), (0 : Int), (0 : Int), (0 : Int), []) :: (((34 : Int), (1 : Int), (0 : Int), (0 : Int), []) :: (((32 : Int), (1 : Int), z808.toInt, (0 : Int), []) :: (((28 : Int), (0 : Int), (0 : Int), (0 : Int), []) :: gs)))) = 1 + (1 + (1 + (1 + (mg_p3 gs)))) := rfl
                        have q4 : mg_p4 (((23 : Int), (0 : Int), (0 : Int), (0 : Int), []) :: (((34 : Int), (1 : Int), (0 : Int), (0 : Int), []) :: (((32 : Int), (1 : Int), z808.toInt, (0 : Int), []) :: (((28 : Int), (0 : Int), (0 : Int), (0 : Int), []) :: gs)))) = 0 + (0 + (0 + (0 + (mg_p4 gs)))) := rfl
                        refine ⟨_, _, _, bc, rfl, hS1400, Or.inl ⟨⟨(RJ.fewer (pj' := []) hR1403_ (fun _ h => nomatch h)), ?_, ?_⟩, rfl, ?_⟩⟩
                        · exact (⟨⟨(show (0 : Int) ≤ 23 from by decide), (show (0 : Int) ≤ (f 15).toInt from by omega), (show 0 ≤ (f 20).toInt from by omega), (show 1 ≤ (f 37).toInt from by omega), (show 0 ≤ (f 32).toInt from by omega), (show (f 32).toInt ≤ y1355.toInt from by omega), (show y1355.toInt ≤ 48 from by omega), (show (f 37).toInt ≤ 2 * (y1355.toInt) + 2 from by omega), (show 0 ≤ (0 : Int) from by omega)⟩, ⟨⟨(show (0 : Int) ≤ 34 from by decide), (show (1 : Int) ≤ (f 15).toInt + 1 from by omega), (show 0 ≤ (f 20).toInt from by omega), (show 1 ≤ (f 37).toInt + 0 from by omega), (show 0 ≤ (f 32).toInt + 0 from by omega), (show (f 32).toInt + 0 ≤ y1355.toInt + 0 from by omega), (show y1355.toInt + 0 ≤ 48 from by omega), (show (f 37).toInt + 0 ≤ 2 * (y1355.toInt + 0) + 2 from by omega), trivial⟩, ⟨⟨(show (0 : Int) ≤ 32 from by decide), (show (2 : Int) ≤ (f 15).toInt + 1 + 0 from by omega), (show 0 ≤ (f 20).toInt from by omega), (show 1 ≤ (f 37).toInt + 0 + 0 from by omega), (show 0 ≤ (f 32).toInt + 0 + 0 from by omega), (show (f 32).toInt + 0 + 0 ≤ y1355.toInt + 0 + 0 from by omega), (show y1355.toInt + 0 + 0 ≤ 48 from by omega), (show (f 37).toInt + 0 + 0 ≤ 2 * (y1355.toInt + 0 + 0) + 2 from by omega), trivial⟩, ⟨⟨(show (0 : Int) ≤ 28 from by decide), (show (1 : Int) ≤ (f 15).toInt + 1 + 0 + -1 from by omega), (show 0 ≤ (f 20).toInt from by omega), (show 1 ≤ (f 37).toInt + 0 + 0 + 0 from by omega), (show 0 ≤ (f 32).toInt + 0 + 0 + 0 from by omega), (show (f 32).toInt + 0 + 0 + 0 ≤ y1355.toInt + 0 + 0 + -1 from by omega), (show y1355.toInt + 0 + 0 + -1 ≤ 48 from by omega), (show (f 37).toInt + 0 + 0 + 0 ≤ 2 * (y1355.toInt + 0 + 0 + -1) + 2 from by omega), trivial⟩, mg_cast (mg_good_ext _ _ _ _ _ _ (fun i _ => by show g'1398 34 i = g 34 i; rw [show g'1398 34 = g'1389 34 from h1402_ 34 (by decide), show g'1389 34 = g'1380 34 from h1393_ 34 (by decide), show g'1380 34 = g'1330 34 from h1384_ 34 (by decide), show g'1330 34 = g'824 34 from h1334_ 34 (by decide), show g'824 34 = g'792 34 from h829_ 34 (by decide), show g'792 34 = g 34 from h800_ 34 (by decide)]) (fun i _ => by show g'1398 38 i = g 38 i; rw [show g'1398 38 = g'1389 38 from h1402_ 38 (by decide), show g'1389 38 = g'1380 38 from h1393_ 38 (by decide), show g'1380 38 = g'1330 38 from h1384_ 38 (by decide), show g'1330 38 = g'824 38 from h1334_ 38 (by decide), show g'824 38 = g'792 38 from h829_ 38 (by decide), show g'792 38 = g 38 from h800_ 38 (by decide)]) hrest) (by show (f 15).toInt + 0 = (f 15).toInt + 1 + 0 + -1 + 0; omega) (by show (f 20).toInt = (f 20).toInt; omega) (by show (f 37).toInt + 0 = (f 37).toInt + 0 + 0 + 0 + 0; omega) (by show (f 32).toInt + 0 = (f 32).toInt + 0 + 0 + 0 + 0; omega) (by show (f 5).toInt + 0 = y1355.toInt + 0 + 0 + -1 + 0; omega)⟩⟩⟩⟩ : mg_good (g'1398 34) (g'1398 38) (((23 : Int), (0 : Int), (0 : Int), (0 : Int), []) :: (((34 : Int), (1 : Int), (0 : Int), (0 : Int), []) :: (((32 : Int), (1 : Int), z808.toInt, (0 : Int), []) :: (((28 : Int), (0 : Int), (0 : Int), (0 : Int), []) :: gs)))) ((f 15).toInt) ((f 20).toInt) ((f 37).toInt) ((f 32).toInt) (y1355.toInt))
                        · exact ⟨(by show 0 ≤ z1354.toInt; omega), (by show z1354.toInt ≤ (f 0).toInt; omega), (by show (f 0).toInt ≤ 512; omega), (by show 0 ≤ (f 24).toInt; omega), (by show (f 24).toInt + (f 20).toInt + mg_p1 (((23 : Int), (0 : Int), (0 : Int), (0 : Int), []) :: (((34 : Int), (1 : Int), (0 : Int), (0 : Int), []) :: (((32 : Int), (1 : Int), z808.toInt, (0 : Int), []) :: (((28 : Int), (0 : Int), (0 : Int), (0 : Int), []) :: gs)))) ≤ 4 * z1354.toInt; omega), (by show (f 20).toInt ≤ z1354.toInt; omega), (by show (f 15).toInt + mg_p2 (((23 : Int), (0 : Int), (0 : Int), (0 : Int), []) :: (((34 : Int), (1 : Int), (0 : Int), (0 : Int), []) :: (((32 : Int), (1 : Int), z808.toInt, (0 : Int), []) :: (((28 : Int), (0 : Int), (0 : Int), (0 : Int), []) :: gs)))) ≤ z1354.toInt; omega), (by show mg_p3 (((23 : Int), (0 : Int), (0 : Int), (0 : Int), []) :: (((34 : Int), (1 : Int), (0 : Int), (0 : Int), []) :: (((32 : Int), (1 : Int), z808.toInt, (0 : Int), []) :: (((28 : Int), (0 : Int), (0 : Int), (0 : Int), []) :: gs)))) ≤ 20 * z1354.toInt + 20; omega), (by show 0 ≤ z822.toInt; omega), (by show z822.toInt + 3 * (f 20).toInt + mg_p4 (((23 : Int), (0 : Int), (0 : Int), (0 : Int), []) :: (((34 : Int), (1 : Int), (0 : Int), (0 : Int), []) :: (((32 : Int), (1 : Int), z808.toInt, (0 : Int), []) :: (((28 : Int), (0 : Int), (0 : Int), (0 : Int), []) :: gs)))) ≤ 60 * z1354.toInt + 60; omega), (by show 0 ≤ o789.toInt; omega), (by show o789.toInt + 64 * mj_n (g'1398 16) (f 15).toNatClampNeg 3 ≤ 64 * z1354.toInt; rw [show g'1398 16 = g'1389 16 from h1402_ 16 (by decide), show g'1389 16 = g'1380 16 from h1393_ 16 (by decide), show g'1380 16 = g'1330 16 from h1384_ 16 (by decide), show g'1330 16 = g'824 16 from h1334_ 16 (by decide), show g'824 16 = g'792 16 from h829_ 16 (by decide)]; omega), (by show 0 ≤ (f 44).toInt; omega), (by show (f 44).toInt ≤ z1354.toInt; omega), (by show 0 ≤ (f 48).toInt; omega), (by show (f 48).toInt ≤ z1354.toInt; omega), (by show 1 ≤ (f 53).toInt; omega), (by show (f 53).toInt ≤ z1354.toInt + 1; omega)⟩
                        · show 100 * ((f 0).toInt - z1354.toInt) + mg_p3 (((23 : Int), (0 : Int), (0 : Int), (0 : Int), []) :: (((34 : Int), (1 : Int), (0 : Int), (0 : Int), []) :: (((32 : Int), (1 : Int), z808.toInt, (0 : Int), []) :: (((28 : Int), (0 : Int), (0 : Int), (0 : Int), []) :: gs)))) < 100 * ((f 0).toInt - (f 4).toInt) + (1 + mg_p3 gs); omega
                      · refine am_e13f hi_212_92 (am_cF (m := r1371.toInt) (n := (61 : Int)) rfl (by decide) c1376) ?_
                        refine am_e2 (v := 39) hi_212_95 rfl ?_
                        refine am_e0 hi_212_96 ?_
                        refine am_e32n (as := [.ref 39, .int 61]) (la := [some (.ref 39), some (.int 61)]) (rest := []) hi_212_98 (am_hd0 (M := 212) (by decide) 98) (Nat.le_of_ble_eq_true rfl) (Nat.le_of_ble_eq_true rfl) (show 2 ≤ am_P0.2.2.1 199 from by decide +kernel) rfl (am_recv_ok hS1373.fs) rfl rfl (ct_leave (d := (d + 1)) hS1373   (by show (0 : Int) ≤ z1354.toInt; omega) (by show (f 0).toInt ≤ (16384 : Int); omega) (by show (0 : Int) ≤ (61 : Int); omega) (by show (0 : Int) ≤ y1355.toInt; omega) (by show y1355.toInt ≤ (48 : Int); omega)) ?_
                        rintro v1404 S1405 (⟨z1406, y1407, hv1408, hS1409, h1410, h1411, h1412⟩ | ⟨a1414, b1415, hv1416, hS1417⟩)
                        · subst hv1408
                          have h1410_ : z1406.toInt = z1354.toInt + 1 := h1410
                          have h1411_ : z1354.toInt < (f 0).toInt := h1411
                          have h1412_ : y1407.toInt = y1355.toInt - 1 := h1412
                          replace hS1409 : MS S0 S1405 (upd (upd (upd (upd (upd (upd f 4 z1406) 5 y1407) 10 z1329) 62 o789) 68 z822) 75 m791) g'1330 := hS1409
                          have hR1419 : RJ (upd (upd (upd (upd (upd (upd f 4 z1406) 5 y1407) 10 z1329) 62 o789) 68 z822) 75 m791) g'1330 (((28 : Int), (0 : Int), (0 : Int), (0 : Int), []) :: gs) bc [] 0 (s790.toNatClampNeg :: []) := RJ.at hR1368 (by show z1354.toInt ≤ z1406.toInt; omega)
                          show am_E _ _ _ _ [some (.ref 39), some (.int 1), some (.int z808)] [.int 1] _ _
                          refine am_e6i hi_212_101 ?_
                          refine am_e2 (v := 39) hi_212_102 rfl ?_
                          refine am_e1 (v := 1) hi_212_103 rfl ?_
                          refine am_e0 hi_212_104 ?_
                          refine am_e1 (v := z808) hi_212_105 rfl ?_
                          refine am_e32w (as := [.ref 39, .int 1, .int 0, .int z808]) (la := [some (.ref 39), some (.int 1), some (.int 0), some (.int z808), none]) (rest := []) hi_212_106 (am_hd0 (M := 212) (by decide) 106) (Nat.le_of_ble_eq_true rfl) (Nat.le_of_ble_eq_true rfl) (show 4 ≤ am_P0.2.2.1 213 from by decide +kernel) rfl (am_recv_ok hS1409.fs) rfl rfl ?_
                          refine am_e2 (v := 39) hi_213_0 rfl ?_
                          refine am_e0 hi_213_1 ?_
                          refine am_e1 (v := 1) hi_213_3 rfl ?_
                          refine am_e1 (v := 0) hi_213_4 rfl ?_
                          refine am_e0 hi_213_5 ?_
                          refine am_e10 (z := 2) hi_213_6 (by decide) ?_
                          refine am_e1 (v := z808) hi_213_7 rfl ?_
                          refine am_e32n (as := [.ref 39, .int 13, .int 1, .int 2, .int z808]) (la := [some (.ref 39), some (.int 13), some (.int 1), some (.int 2), some (.int z808)]) (rest := []) hi_213_8 (am_hd0 (M := 213) (by decide) 8) (Nat.le_of_ble_eq_true rfl) (Nat.le_of_ble_eq_true rfl) (show 5 ≤ am_P0.2.2.1 189 from by decide +kernel) rfl (am_recv_ok hS1409.fs) rfl rfl (ct_put (d := (d + 3)) hS1409 hR1419  (by show (0 : Int) ≤ (f 32).toInt; omega) (by show (f 32).toInt ≤ (63 : Int); omega) (by show (f 53).toInt ≤ (4096 : Int); omega) (by show (0 : Int) ≤ z822.toInt; omega) (by show z822.toInt ≤ (65534 : Int); omega)) ?_
                          rintro v1420 S1421 (⟨z1422, r1423, g'1424, hv1425, hS1426, hR1430, h1427, h1428, h1429⟩)
                          subst hv1425
                          have h1427_ : z1422.toInt = z822.toInt + 1 := h1427
                          have h1428_ : r1423.toInt = z822.toInt := h1428
                          have h1429_ : ∀ j, j ∉ [60, 69, 70, 71, 72, 73] → g'1424 j = g'1330 j := h1429
                          replace hS1426 : MS S0 S1421 (upd (upd (upd (upd (upd (upd f 4 z1406) 5 y1407) 10 z1329) 62 o789) 68 z1422) 75 m791) g'1424 := hS1426
                          have hR1430_ : RJ (upd (upd (upd (upd (upd (upd f 4 z1406) 5 y1407) 10 z1329) 62 o789) 68 z1422) 75 m791) g'1424 (((28 : Int), (0 : Int), (0 : Int), (0 : Int), []) :: gs) bc [] 0 (z822.toNatClampNeg :: (s790.toNatClampNeg :: [])) := hR1430
                          show am_E _ _ _ _ [some (.ref 39), some (.int 1), some (.int 0), some (.int z808), none] [.int r1423] _ _
                          refine am_e3 (ls' := [some (.ref 39), some (.int 1), some (.int 0), some (.int z808), some (.int r1423)]) hi_213_11 (Nat.le_of_ble_eq_true rfl) rfl ?_
                          refine am_e2 (v := 39) hi_213_13 rfl ?_
                          refine am_e7 hi_213_14 ?_
                          refine mm_20 (v := .int (f 15)) hS1426 hi_213_15 rfl ?_
                          refine am_e0 hi_213_18 ?_
                          obtain ⟨z1431, hz1431, tz1431⟩ := am_subI (x := f 15) (y := 1) (m := (f 15).toInt) (n := (1 : Int)) rfl (by decide) (by omega) (by omega)
                          refine am_e10 (z := z1431) hi_213_19 hz1431 ?_
                          refine mm_21 (v := z1431) hS1426 hi_213_20 rfl (Nat.le_of_ble_eq_true rfl) ms_15 ?_
                          intro S1432 hS1433
                          replace hS1433 : MS S0 S1432 (upd (upd (upd (upd (upd (upd (upd f 4 z1406) 5 y1407) 10 z1329) 15 z1431) 62 o789) 68 z1422) 75 m791) g'1424 := hS1433
                          have hp1434 : mj_n (g'792 16) (f 15).toNatClampNeg 3 = mj_n (g'792 16) z1431.toNatClampNeg 3 + if (g'792 16 z1431.toNatClampNeg).toInt = 3 then 1 else 0 := mj_pop (by rw [cl_toNat, cl_toNat]; omega)
                          have hp14341 : mj_n (g'792 16) z1431.toNatClampNeg 3 ≤ mj_n (g'792 16) (f 15).toNatClampNeg 3 := by rw [hp1434]; split <;> omega
                          have hp14342 : (g'792 16 z1431.toNatClampNeg).toInt = 3 → mj_n (g'792 16) z1431.toNatClampNeg 3 + 1 ≤ mj_n (g'792 16) (f 15).toNatClampNeg 3 := fun q => by rw [hp1434, if_pos q]; exact Int.le_refl _
                          refine am_e2 (v := 39) hi_213_23 rfl ?_
                          refine am_e0 hi_213_24 ?_
                          refine am_e1 (v := r1423) hi_213_25 rfl ?_
                          refine am_e1 (v := z808) hi_213_27 rfl ?_
                          refine am_e32n (as := [.ref 39, .int 1, .int r1423, .int z808]) (la := [some (.ref 39), some (.int 1), some (.int r1423), some (.int z808)]) (rest := []) hi_213_28 (am_hd0 (M := 213) (by decide) 28) (Nat.le_of_ble_eq_true rfl) (Nat.le_of_ble_eq_true rfl) (show 4 ≤ am_P0.2.2.1 190 from by decide +kernel) rfl (am_recv_ok hS1433.fs) rfl rfl (ct_value (d := (d + 3)) hS1433 hR1430_ (fun h => absurd h (by decide)) (fun _ => ⟨by omega, by omega⟩) (by show (0 : Int) ≤ z1431.toInt; omega) (by show z1431.toInt ≤ (32767 : Int); omega)) ?_
                          rintro v1435 S1436 (⟨z1437, g'1438, hv1439, hS1440, hR1445, h1441, h1442, h1443, h1444⟩)
                          subst hv1439
                          have h1441_ : z1437.toInt = z1431.toInt + 1 := h1441
                          have h1442_ : ∀ j, j ∉ [16, 17, 18] → g'1438 j = g'1424 j := h1442
                          have h1443_ : mj_n (g'1438 16) z1437.toNatClampNeg 3 ≤ mj_n (g'792 16) z1431.toNatClampNeg 3 + 1 := by rw [show g'1424 16 = g'1330 16 from h1429_ 16 (by decide), show g'1330 16 = g'824 16 from h1334_ 16 (by decide), show g'824 16 = g'792 16 from h829_ 16 (by decide)] at h1443; exact h1443
                          have h1444_ : (1 : Int) = 3 ∨ mj_n (g'1438 16) z1437.toNatClampNeg 3 ≤ mj_n (g'792 16) z1431.toNatClampNeg 3 := by rw [show g'1424 16 = g'1330 16 from h1429_ 16 (by decide), show g'1330 16 = g'824 16 from h1334_ 16 (by decide), show g'824 16 = g'792 16 from h829_ 16 (by decide)] at h1444; exact h1444
                          replace hS1440 : MS S0 S1436 (upd (upd (upd (upd (upd (upd (upd f 4 z1406) 5 y1407) 10 z1329) 15 z1437) 62 o789) 68 z1422) 75 m791) g'1438 := hS1440
                          have hR1445_ : RJ (upd (upd (upd (upd (upd (upd (upd f 4 z1406) 5 y1407) 10 z1329) 15 z1437) 62 o789) 68 z1422) 75 m791) g'1438 (((28 : Int), (0 : Int), (0 : Int), (0 : Int), []) :: gs) bc [] 0 (z822.toNatClampNeg :: (s790.toNatClampNeg :: [])) := hR1445
                          show am_E _ _ _ _ [some (.ref 39), some (.int 1), some (.int 0), some (.int z808), some (.int r1423)] [] _ _
                          refine am_e35 hi_213_31 ?_
                          show am_E _ _ _ _ [some (.ref 39), some (.int 1), some (.int z808)] [] _ _
                          refine am_e18 hi_212_109 ?_
                          refine am_e35 hi_212_125 ?_
                          show am_E _ _ _ _ [some (.ref 39), some (.int r2), some (.int (f 4)), some (.int r833)] [] _ _
                          refine am_e18 hi_211_211 ?_
                          refine am_e35 hi_211_249 ?_
                          show am_E _ _ _ _ [some (.ref 39), some (.int 28), some (.int on), some (.int tw)] [] _ _
                          refine am_e18 hi_181_180 ?_
                          refine am_e35 hi_181_397 ?_
                          show am_E _ _ _ _ [some (.ref 39), some (.int 28), some (.int on), some (.int tw), some (.int th)] [] _ _
                          refine am_e35 hi_180_13 ?_
                          have q1 : mg_p1 (((28 : Int), (0 : Int), (0 : Int), (0 : Int), []) :: gs) = 0 + (mg_p1 gs) := rfl
                          have q2 : mg_p2 (((28 : Int), (0 : Int), (0 : Int), (0 : Int), []) :: gs) = 0 + (mg_p2 gs) := rfl
                          have q3 : mg_p3 (((28 : Int), (0 : Int), (0 : Int), (0 : Int), []) :: gs) = 1 + (mg_p3 gs) := rfl
                          have q4 : mg_p4 (((28 : Int), (0 : Int), (0 : Int), (0 : Int), []) :: gs) = 0 + (mg_p4 gs) := rfl
                          refine ⟨_, _, _, bc, rfl, hS1440, Or.inl ⟨⟨(RJ.fewer (pj' := []) hR1445_ (fun _ h => nomatch h)), ?_, ?_⟩, rfl, ?_⟩⟩
                          · exact (⟨⟨(show (0 : Int) ≤ 28 from by decide), (show (1 : Int) ≤ z1437.toInt from by omega), (show 0 ≤ (f 20).toInt from by omega), (show 1 ≤ (f 37).toInt from by omega), (show 0 ≤ (f 32).toInt from by omega), (show (f 32).toInt ≤ y1407.toInt from by omega), (show y1407.toInt ≤ 48 from by omega), (show (f 37).toInt ≤ 2 * (y1407.toInt) + 2 from by omega), trivial⟩, mg_cast (mg_good_ext _ _ _ _ _ _ (fun i _ => by show g'1438 34 i = g 34 i; rw [show g'1438 34 = g'1424 34 from h1442_ 34 (by decide), show g'1424 34 = g'1330 34 from h1429_ 34 (by decide), show g'1330 34 = g'824 34 from h1334_ 34 (by decide), show g'824 34 = g'792 34 from h829_ 34 (by decide), show g'792 34 = g 34 from h800_ 34 (by decide)]) (fun i _ => by show g'1438 38 i = g 38 i; rw [show g'1438 38 = g'1424 38 from h1442_ 38 (by decide), show g'1424 38 = g'1330 38 from h1429_ 38 (by decide), show g'1330 38 = g'824 38 from h1334_ 38 (by decide), show g'824 38 = g'792 38 from h829_ 38 (by decide), show g'792 38 = g 38 from h800_ 38 (by decide)]) hrest) (by show (f 15).toInt + 0 = z1437.toInt + 0; omega) (by show (f 20).toInt = (f 20).toInt; omega) (by show (f 37).toInt + 0 = (f 37).toInt + 0; omega) (by show (f 32).toInt + 0 = (f 32).toInt + 0; omega) (by show (f 5).toInt + 0 = y1407.toInt + 0; omega)⟩ : mg_good (g'1438 34) (g'1438 38) (((28 : Int), (0 : Int), (0 : Int), (0 : Int), []) :: gs) (z1437.toInt) ((f 20).toInt) ((f 37).toInt) ((f 32).toInt) (y1407.toInt))
                          · exact ⟨(by show 0 ≤ z1406.toInt; omega), (by show z1406.toInt ≤ (f 0).toInt; omega), (by show (f 0).toInt ≤ 512; omega), (by show 0 ≤ (f 24).toInt; omega), (by show (f 24).toInt + (f 20).toInt + mg_p1 (((28 : Int), (0 : Int), (0 : Int), (0 : Int), []) :: gs) ≤ 4 * z1406.toInt; omega), (by show (f 20).toInt ≤ z1406.toInt; omega), (by show z1437.toInt + mg_p2 (((28 : Int), (0 : Int), (0 : Int), (0 : Int), []) :: gs) ≤ z1406.toInt; omega), (by show mg_p3 (((28 : Int), (0 : Int), (0 : Int), (0 : Int), []) :: gs) ≤ 20 * z1406.toInt + 20; omega), (by show 0 ≤ z1422.toInt; omega), (by show z1422.toInt + 3 * (f 20).toInt + mg_p4 (((28 : Int), (0 : Int), (0 : Int), (0 : Int), []) :: gs) ≤ 60 * z1406.toInt + 60; omega), (by show 0 ≤ o789.toInt; omega), (by show o789.toInt + 64 * mj_n (g'1438 16) z1437.toNatClampNeg 3 ≤ 64 * z1406.toInt; omega), (by show 0 ≤ (f 44).toInt; omega), (by show (f 44).toInt ≤ z1406.toInt; omega), (by show 0 ≤ (f 48).toInt; omega), (by show (f 48).toInt ≤ z1406.toInt; omega), (by show 1 ≤ (f 53).toInt; omega), (by show (f 53).toInt ≤ z1406.toInt + 1; omega)⟩
                          · show 100 * ((f 0).toInt - z1406.toInt) + mg_p3 (((28 : Int), (0 : Int), (0 : Int), (0 : Int), []) :: gs) < 100 * ((f 0).toInt - (f 4).toInt) + (1 + mg_p3 gs); omega
                        · subst hv1416
                          replace hS1417 : MS S0 S1405 (upd (upd (upd (upd (upd (upd (upd (upd f 4 z1354) 5 y1355) 6 a1414) 7 b1415) 10 0) 62 o789) 68 z822) 75 m791) g'1330 := hS1417
                          show am_E _ _ _ _ [some (.ref 39), some (.int 1), some (.int z808)] [.int 0] _ _
                          refine am_e6i hi_212_101 ?_
                          refine am_e2 (v := 39) hi_212_102 rfl ?_
                          refine am_e1 (v := 1) hi_212_103 rfl ?_
                          refine am_e0 hi_212_104 ?_
                          refine am_e1 (v := z808) hi_212_105 rfl ?_
                          refine am_e32w (as := [.ref 39, .int 1, .int 0, .int z808]) (la := [some (.ref 39), some (.int 1), some (.int 0), some (.int z808), none]) (rest := []) hi_212_106 (am_hd0 (M := 212) (by decide) 106) (Nat.le_of_ble_eq_true rfl) (Nat.le_of_ble_eq_true rfl) (show 4 ≤ am_P0.2.2.1 213 from by decide +kernel) rfl (am_recv_ok hS1417.fs) rfl rfl ?_
                          refine am_e2 (v := 39) hi_213_0 rfl ?_
                          refine am_e0 hi_213_1 ?_
                          refine am_e1 (v := 1) hi_213_3 rfl ?_
                          refine am_e1 (v := 0) hi_213_4 rfl ?_
                          refine am_e0 hi_213_5 ?_
                          refine am_e10 (z := 2) hi_213_6 (by decide) ?_
                          refine am_e1 (v := z808) hi_213_7 rfl ?_
                          refine am_e32n (as := [.ref 39, .int 13, .int 1, .int 2, .int z808]) (la := [some (.ref 39), some (.int 13), some (.int 1), some (.int 2), some (.int z808)]) (rest := []) hi_213_8 (am_hd0 (M := 213) (by decide) 8) (Nat.le_of_ble_eq_true rfl) (Nat.le_of_ble_eq_true rfl) (show 5 ≤ am_P0.2.2.1 189 from by decide +kernel) rfl (am_recv_ok hS1417.fs) rfl rfl (ct_put (d := (d + 3)) hS1417 hR1368  (by show (0 : Int) ≤ (f 32).toInt; omega) (by show (f 32).toInt ≤ (63 : Int); omega) (by show (f 53).toInt ≤ (4096 : Int); omega) (by show (0 : Int) ≤ z822.toInt; omega) (by show z822.toInt ≤ (65534 : Int); omega)) ?_
                          rintro v1446 S1447 (⟨z1448, r1449, g'1450, hv1451, hS1452, hR1456, h1453, h1454, h1455⟩)
                          subst hv1451
                          have h1453_ : z1448.toInt = z822.toInt + 1 := h1453
                          have h1454_ : r1449.toInt = z822.toInt := h1454
                          have h1455_ : ∀ j, j ∉ [60, 69, 70, 71, 72, 73] → g'1450 j = g'1330 j := h1455
                          replace hS1452 : MS S0 S1447 (upd (upd (upd (upd (upd (upd (upd (upd f 4 z1354) 5 y1355) 6 a1414) 7 b1415) 10 0) 62 o789) 68 z1448) 75 m791) g'1450 := hS1452
                          have hR1456_ : RJ (upd (upd (upd (upd (upd (upd (upd (upd f 4 z1354) 5 y1355) 6 a1414) 7 b1415) 10 0) 62 o789) 68 z1448) 75 m791) g'1450 (((28 : Int), (0 : Int), (0 : Int), (0 : Int), []) :: gs) bc [] 0 (z822.toNatClampNeg :: (s790.toNatClampNeg :: [])) := hR1456
                          show am_E _ _ _ _ [some (.ref 39), some (.int 1), some (.int 0), some (.int z808), none] [.int r1449] _ _
                          refine am_e3 (ls' := [some (.ref 39), some (.int 1), some (.int 0), some (.int z808), some (.int r1449)]) hi_213_11 (Nat.le_of_ble_eq_true rfl) rfl ?_
                          refine am_e2 (v := 39) hi_213_13 rfl ?_
                          refine am_e7 hi_213_14 ?_
                          refine mm_20 (v := .int (f 15)) hS1452 hi_213_15 rfl ?_
                          refine am_e0 hi_213_18 ?_
                          obtain ⟨z1457, hz1457, tz1457⟩ := am_subI (x := f 15) (y := 1) (m := (f 15).toInt) (n := (1 : Int)) rfl (by decide) (by omega) (by omega)
                          refine am_e10 (z := z1457) hi_213_19 hz1457 ?_
                          refine mm_21 (v := z1457) hS1452 hi_213_20 rfl (Nat.le_of_ble_eq_true rfl) ms_15 ?_
                          intro S1458 hS1459
                          replace hS1459 : MS S0 S1458 (upd (upd (upd (upd (upd (upd (upd (upd (upd f 4 z1354) 5 y1355) 6 a1414) 7 b1415) 10 0) 15 z1457) 62 o789) 68 z1448) 75 m791) g'1450 := hS1459
                          have hp1460 : mj_n (g'792 16) (f 15).toNatClampNeg 3 = mj_n (g'792 16) z1457.toNatClampNeg 3 + if (g'792 16 z1457.toNatClampNeg).toInt = 3 then 1 else 0 := mj_pop (by rw [cl_toNat, cl_toNat]; omega)
                          have hp14601 : mj_n (g'792 16) z1457.toNatClampNeg 3 ≤ mj_n (g'792 16) (f 15).toNatClampNeg 3 := by rw [hp1460]; split <;> omega
                          have hp14602 : (g'792 16 z1457.toNatClampNeg).toInt = 3 → mj_n (g'792 16) z1457.toNatClampNeg 3 + 1 ≤ mj_n (g'792 16) (f 15).toNatClampNeg 3 := fun q => by rw [hp1460, if_pos q]; exact Int.le_refl _
                          refine am_e2 (v := 39) hi_213_23 rfl ?_
                          refine am_e0 hi_213_24 ?_
                          refine am_e1 (v := r1449) hi_213_25 rfl ?_
                          refine am_e1 (v := z808) hi_213_27 rfl ?_
                          refine am_e32n (as := [.ref 39, .int 1, .int r1449, .int z808]) (la := [some (.ref 39), some (.int 1), some (.int r1449), some (.int z808)]) (rest := []) hi_213_28 (am_hd0 (M := 213) (by decide) 28) (Nat.le_of_ble_eq_true rfl) (Nat.le_of_ble_eq_true rfl) (show 4 ≤ am_P0.2.2.1 190 from by decide +kernel) rfl (am_recv_ok hS1459.fs) rfl rfl (ct_value (d := (d + 3)) hS1459 hR1456_ (fun h => absurd h (by decide)) (fun _ => ⟨by omega, by omega⟩) (by show (0 : Int) ≤ z1457.toInt; omega) (by show z1457.toInt ≤ (32767 : Int); omega)) ?_
                          rintro v1461 S1462 (⟨z1463, g'1464, hv1465, hS1466, hR1471, h1467, h1468, h1469, h1470⟩)
                          subst hv1465
                          have h1467_ : z1463.toInt = z1457.toInt + 1 := h1467
                          have h1468_ : ∀ j, j ∉ [16, 17, 18] → g'1464 j = g'1450 j := h1468
                          have h1469_ : mj_n (g'1464 16) z1463.toNatClampNeg 3 ≤ mj_n (g'792 16) z1457.toNatClampNeg 3 + 1 := by rw [show g'1450 16 = g'1330 16 from h1455_ 16 (by decide), show g'1330 16 = g'824 16 from h1334_ 16 (by decide), show g'824 16 = g'792 16 from h829_ 16 (by decide)] at h1469; exact h1469
                          have h1470_ : (1 : Int) = 3 ∨ mj_n (g'1464 16) z1463.toNatClampNeg 3 ≤ mj_n (g'792 16) z1457.toNatClampNeg 3 := by rw [show g'1450 16 = g'1330 16 from h1455_ 16 (by decide), show g'1330 16 = g'824 16 from h1334_ 16 (by decide), show g'824 16 = g'792 16 from h829_ 16 (by decide)] at h1470; exact h1470
                          replace hS1466 : MS S0 S1462 (upd (upd (upd (upd (upd (upd (upd (upd (upd f 4 z1354) 5 y1355) 6 a1414) 7 b1415) 10 0) 15 z1463) 62 o789) 68 z1448) 75 m791) g'1464 := hS1466
                          have hR1471_ : RJ (upd (upd (upd (upd (upd (upd (upd (upd (upd f 4 z1354) 5 y1355) 6 a1414) 7 b1415) 10 0) 15 z1463) 62 o789) 68 z1448) 75 m791) g'1464 (((28 : Int), (0 : Int), (0 : Int), (0 : Int), []) :: gs) bc [] 0 (z822.toNatClampNeg :: (s790.toNatClampNeg :: [])) := hR1471
                          show am_E _ _ _ _ [some (.ref 39), some (.int 1), some (.int 0), some (.int z808), some (.int r1449)] [] _ _
                          refine am_e35 hi_213_31 ?_
                          show am_E _ _ _ _ [some (.ref 39), some (.int 1), some (.int z808)] [] _ _
                          refine am_e18 hi_212_109 ?_
                          refine am_e35 hi_212_125 ?_
                          show am_E _ _ _ _ [some (.ref 39), some (.int r2), some (.int (f 4)), some (.int r833)] [] _ _
                          refine am_e18 hi_211_211 ?_
                          refine am_e35 hi_211_249 ?_
                          show am_E _ _ _ _ [some (.ref 39), some (.int 28), some (.int on), some (.int tw)] [] _ _
                          refine am_e18 hi_181_180 ?_
                          refine am_e35 hi_181_397 ?_
                          show am_E _ _ _ _ [some (.ref 39), some (.int 28), some (.int on), some (.int tw), some (.int th)] [] _ _
                          refine am_e35 hi_180_13 ?_
                          have hRc := rj_clear0 hR1471_
                          refine ⟨_, _, [], _, rfl, hS1466, Or.inr ⟨hRc, rfl, (by show 0 ≤ z1354.toInt; omega), (by show z1354.toInt ≤ (f 0).toInt; omega), (by show 0 ≤ (f 32).toInt; omega), (by show (f 32).toInt ≤ 63; omega), (by show 1 ≤ (f 53).toInt; omega), (by show (f 53).toInt ≤ 600; omega), (by show 0 ≤ z1448.toInt; omega), (by show z1448.toInt ≤ 60000; omega), (by show 0 ≤ (f 48).toInt; omega), (by show (f 48).toInt ≤ 8000; omega), (by show 0 ≤ (f 37).toInt; omega), (by show (f 37).toInt ≤ 128; omega), (by show 0 ≤ o789.toInt; omega), (by show o789.toInt ≤ 65000; omega)⟩⟩
                    · subst hv1365
                      replace hS1366 : MS S0 S1353 (upd (upd (upd (upd (upd (upd (upd f 4 z808) 6 a1363) 7 b1364) 10 0) 62 o789) 68 z822) 75 m791) g'1330 := hS1366
                      show am_E _ _ _ _ [some (.ref 39), some (.int 1), some (.int z808)] [.int 0] _ _
                      refine am_e12t hi_212_83 (by decide) ?_
                      refine am_e35 hi_212_125 ?_
                      show am_E _ _ _ _ [some (.ref 39), some (.int r2), some (.int (f 4)), some (.int r833)] [] _ _
                      refine am_e18 hi_211_211 ?_
                      refine am_e35 hi_211_249 ?_
                      show am_E _ _ _ _ [some (.ref 39), some (.int 28), some (.int on), some (.int tw)] [] _ _
                      refine am_e18 hi_181_180 ?_
                      refine am_e35 hi_181_397 ?_
                      show am_E _ _ _ _ [some (.ref 39), some (.int 28), some (.int on), some (.int tw), some (.int th)] [] _ _
                      refine am_e35 hi_180_13 ?_
                      have hRc := rj_clear0 hR1335_
                      refine ⟨_, _, [], _, rfl, hS1366, Or.inr ⟨hRc, rfl, (by show 0 ≤ z808.toInt; omega), (by show z808.toInt ≤ (f 0).toInt; omega), (by show 0 ≤ (f 32).toInt; omega), (by show (f 32).toInt ≤ 63; omega), (by show 1 ≤ (f 53).toInt; omega), (by show (f 53).toInt ≤ 600; omega), (by show 0 ≤ z822.toInt; omega), (by show z822.toInt ≤ 60000; omega), (by show 0 ≤ (f 48).toInt; omega), (by show (f 48).toInt ≤ 8000; omega), (by show 0 ≤ (f 37).toInt; omega), (by show (f 37).toInt ≤ 128; omega), (by show 0 ≤ o789.toInt; omega), (by show o789.toInt ≤ 65000; omega)⟩⟩
                  · refine am_e13f hi_212_58 (am_cF (m := r1346.toInt) (n := (62 : Int)) rfl (by decide) c1351) ?_
                    refine am_e2 (v := 39) hi_212_61 rfl ?_
                    refine am_e0 hi_212_62 ?_
                    refine am_e1 (v := 1) hi_212_64 rfl ?_
                    refine am_e1 (v := z808) hi_212_65 rfl ?_
                    refine am_e0 hi_212_66 ?_
                    refine am_e32n (as := [.ref 39, .int 33, .int 1, .int z808, .int 0]) (la := [some (.ref 39), some (.int 33), some (.int 1), some (.int z808), some (.int 0)]) (rest := []) hi_212_67 (am_hd0 (M := 212) (by decide) 67) (Nat.le_of_ble_eq_true rfl) (Nat.le_of_ble_eq_true rfl) (show 5 ≤ am_P0.2.2.1 179 from by decide +kernel) rfl (am_recv_ok hS1348.fs) rfl rfl (ct_pile (d := (d + 4)) hS1348 hR1335_ (mj_e_plain (by decide)) (by show (0 : Int) ≤ z1329.toInt; omega) (by show z1329.toInt ≤ (65535 : Int); omega)) ?_
                    rintro v1472 S1473 (⟨z1474, g'1475, hv1476, hS1477, hR1480, h1478, h1479⟩)
                    subst hv1476
                    have h1478_ : z1474.toInt = z1329.toInt + 1 := h1478
                    have h1479_ : ∀ j, j ∉ [11, 12, 13, 14] → g'1475 j = g'1330 j := h1479
                    replace hS1477 : MS S0 S1473 (upd (upd (upd (upd (upd f 4 z808) 10 z1474) 62 o789) 68 z822) 75 m791) g'1475 := hS1477
                    have hR1480_ : RJ (upd (upd (upd (upd (upd f 4 z808) 10 z1474) 62 o789) 68 z822) 75 m791) g'1475 (((33 : Int), (1 : Int), z808.toInt, (0 : Int), []) :: (((28 : Int), (0 : Int), (0 : Int), (0 : Int), []) :: gs)) bc [] 0 (s790.toNatClampNeg :: []) := hR1480
                    show am_E _ _ _ _ [some (.ref 39), some (.int 1), some (.int z808)] [] _ _
                    refine am_e2 (v := 39) hi_212_70 rfl ?_
                    refine am_e32w (as := [.ref 39]) (la := [some (.ref 39), none]) (rest := []) hi_212_71 (am_hd0 (M := 212) (by decide) 71) (Nat.le_of_ble_eq_true rfl) (Nat.le_of_ble_eq_true rfl) (show 1 ≤ am_P0.2.2.1 192 from by decide +kernel) rfl (am_recv_ok hS1477.fs) rfl rfl ?_
                    refine am_e2 (v := 39) hi_192_0 rfl ?_
                    refine mm_20 (v := .int z808) hS1477 hi_192_1 rfl ?_
                    refine am_e3 (ls' := [some (.ref 39), some (.int z808)]) hi_192_4 (Nat.le_of_ble_eq_true rfl) rfl ?_
                    refine am_e2 (v := 39) hi_192_5 rfl ?_
                    refine am_e0 hi_192_6 ?_
                    refine am_e32n (as := [.ref 39, .int 62]) (la := [some (.ref 39), some (.int 62)]) (rest := []) hi_192_8 (am_hd0 (M := 192) (by decide) 8) (Nat.le_of_ble_eq_true rfl) (Nat.le_of_ble_eq_true rfl) (show 2 ≤ am_P0.2.2.1 193 from by decide +kernel) rfl (am_recv_ok hS1477.fs) rfl rfl (ct_enter (d := (d + 1)) hS1477   (by show (0 : Int) ≤ z808.toInt; omega) (by show (f 0).toInt ≤ (16384 : Int); omega) (by show (0 : Int) ≤ (62 : Int); omega) (by show (0 : Int) ≤ (f 5).toInt; omega) (by show (f 5).toInt ≤ (48 : Int); omega)) ?_
                    rintro v1481 S1482 (⟨z1483, y1484, hv1485, hS1486, h1487, h1488, h1489, h1490⟩ | ⟨a1492, b1493, hv1494, hS1495⟩)
                    · subst hv1485
                      have h1487_ : z1483.toInt = z808.toInt + 1 := h1487
                      have h1488_ : z808.toInt < (f 0).toInt := h1488
                      have h1489_ : y1484.toInt = (f 5).toInt + 1 := h1489
                      have h1490_ : y1484.toInt ≤ (48 : Int) := h1490
                      replace hS1486 : MS S0 S1482 (upd (upd (upd (upd (upd (upd f 4 z1483) 5 y1484) 10 z1474) 62 o789) 68 z822) 75 m791) g'1475 := hS1486
                      have hR1497 : RJ (upd (upd (upd (upd (upd (upd f 4 z1483) 5 y1484) 10 z1474) 62 o789) 68 z822) 75 m791) g'1475 (((33 : Int), (1 : Int), z808.toInt, (0 : Int), []) :: (((28 : Int), (0 : Int), (0 : Int), (0 : Int), []) :: gs)) bc [] 0 (s790.toNatClampNeg :: []) := RJ.at hR1480_ (by show z808.toInt ≤ z1483.toInt; omega)
                      show am_E _ _ _ _ [some (.ref 39), some (.int z808)] [.int 1] _ _
                      refine am_e12t hi_192_11 (by decide) ?_
                      refine am_e2 (v := 39) hi_192_15 rfl ?_
                      refine am_e0 hi_192_16 ?_
                      refine am_e0 hi_192_18 ?_
                      refine am_e0 hi_192_19 ?_
                      refine am_e1 (v := z808) hi_192_20 rfl ?_
                      refine am_e32n (as := [.ref 39, .int 20, .int 0, .int 0, .int z808]) (la := [some (.ref 39), some (.int 20), some (.int 0), some (.int 0), some (.int z808)]) (rest := []) hi_192_21 (am_hd0 (M := 192) (by decide) 21) (Nat.le_of_ble_eq_true rfl) (Nat.le_of_ble_eq_true rfl) (show 5 ≤ am_P0.2.2.1 189 from by decide +kernel) rfl (am_recv_ok hS1486.fs) rfl rfl (ct_put (d := (d + 3)) hS1486 hR1497  (by show (0 : Int) ≤ (f 32).toInt; omega) (by show (f 32).toInt ≤ (63 : Int); omega) (by show (f 53).toInt ≤ (4096 : Int); omega) (by show (0 : Int) ≤ z822.toInt; omega) (by show z822.toInt ≤ (65534 : Int); omega)) ?_
                      rintro v1498 S1499 (⟨z1500, r1501, g'1502, hv1503, hS1504, hR1508, h1505, h1506, h1507⟩)
                      subst hv1503
                      have h1505_ : z1500.toInt = z822.toInt + 1 := h1505
                      have h1506_ : r1501.toInt = z822.toInt := h1506
                      have h1507_ : ∀ j, j ∉ [60, 69, 70, 71, 72, 73] → g'1502 j = g'1475 j := h1507
                      replace hS1504 : MS S0 S1499 (upd (upd (upd (upd (upd (upd f 4 z1483) 5 y1484) 10 z1474) 62 o789) 68 z1500) 75 m791) g'1502 := hS1504
                      have hR1508_ : RJ (upd (upd (upd (upd (upd (upd f 4 z1483) 5 y1484) 10 z1474) 62 o789) 68 z1500) 75 m791) g'1502 (((33 : Int), (1 : Int), z808.toInt, (0 : Int), []) :: (((28 : Int), (0 : Int), (0 : Int), (0 : Int), []) :: gs)) bc [] 0 (z822.toNatClampNeg :: (s790.toNatClampNeg :: [])) := hR1508
                      show am_E _ _ _ _ [some (.ref 39), some (.int z808)] [.int r1501] _ _
                      refine am_e6i hi_192_24 ?_
                      refine am_e2 (v := 39) hi_192_25 rfl ?_
                      refine am_e0 hi_192_26 ?_
                      refine am_e0 hi_192_27 ?_
                      refine am_e0 hi_192_28 ?_
                      refine am_e32n (as := [.ref 39, .int 0, .int 0, .int 0]) (la := [some (.ref 39), some (.int 0), some (.int 0), some (.int 0)]) (rest := []) hi_192_29 (am_hd0 (M := 192) (by decide) 29) (Nat.le_of_ble_eq_true rfl) (Nat.le_of_ble_eq_true rfl) (show 4 ≤ am_P0.2.2.1 190 from by decide +kernel) rfl (am_recv_ok hS1504.fs) rfl rfl (ct_value (d := (d + 3)) hS1504 hR1508_ (fun h => absurd h (by decide)) (fun h => absurd h (by decide)) (by show (0 : Int) ≤ (f 15).toInt; omega) (by show (f 15).toInt ≤ (32767 : Int); omega)) ?_
                      rintro v1509 S1510 (⟨z1511, g'1512, hv1513, hS1514, hR1519, h1515, h1516, h1517, h1518⟩)
                      subst hv1513
                      have h1515_ : z1511.toInt = (f 15).toInt + 1 := h1515
                      have h1516_ : ∀ j, j ∉ [16, 17, 18] → g'1512 j = g'1502 j := h1516
                      have h1517_ : mj_n (g'1512 16) z1511.toNatClampNeg 3 ≤ mj_n (g'792 16) (f 15).toNatClampNeg 3 + 1 := by rw [show g'1502 16 = g'1475 16 from h1507_ 16 (by decide), show g'1475 16 = g'1330 16 from h1479_ 16 (by decide), show g'1330 16 = g'824 16 from h1334_ 16 (by decide), show g'824 16 = g'792 16 from h829_ 16 (by decide)] at h1517; exact h1517
                      have h1518_ : (0 : Int) = 3 ∨ mj_n (g'1512 16) z1511.toNatClampNeg 3 ≤ mj_n (g'792 16) (f 15).toNatClampNeg 3 := by rw [show g'1502 16 = g'1475 16 from h1507_ 16 (by decide), show g'1475 16 = g'1330 16 from h1479_ 16 (by decide), show g'1330 16 = g'824 16 from h1334_ 16 (by decide), show g'824 16 = g'792 16 from h829_ 16 (by decide)] at h1518; exact h1518
                      replace hS1514 : MS S0 S1510 (upd (upd (upd (upd (upd (upd (upd f 4 z1483) 5 y1484) 10 z1474) 15 z1511) 62 o789) 68 z1500) 75 m791) g'1512 := hS1514
                      have hR1519_ : RJ (upd (upd (upd (upd (upd (upd (upd f 4 z1483) 5 y1484) 10 z1474) 15 z1511) 62 o789) 68 z1500) 75 m791) g'1512 (((33 : Int), (1 : Int), z808.toInt, (0 : Int), []) :: (((28 : Int), (0 : Int), (0 : Int), (0 : Int), []) :: gs)) bc [] 0 (z822.toNatClampNeg :: (s790.toNatClampNeg :: [])) := hR1519
                      show am_E _ _ _ _ [some (.ref 39), some (.int z808)] [] _ _
                      refine am_e2 (v := 39) hi_192_32 rfl ?_
                      refine am_e0 hi_192_33 ?_
                      refine am_e0 hi_192_35 ?_
                      refine am_e0 hi_192_36 ?_
                      refine am_e0 hi_192_37 ?_
                      refine am_e32n (as := [.ref 39, .int 35, .int 0, .int 0, .int 0]) (la := [some (.ref 39), some (.int 35), some (.int 0), some (.int 0), some (.int 0)]) (rest := []) hi_192_38 (am_hd0 (M := 192) (by decide) 38) (Nat.le_of_ble_eq_true rfl) (Nat.le_of_ble_eq_true rfl) (show 5 ≤ am_P0.2.2.1 179 from by decide +kernel) rfl (am_recv_ok hS1514.fs) rfl rfl (ct_pile (d := (d + 3)) hS1514 hR1519_ (mj_e_plain (by decide)) (by show (0 : Int) ≤ z1474.toInt; omega) (by show z1474.toInt ≤ (65535 : Int); omega)) ?_
                      rintro v1520 S1521 (⟨z1522, g'1523, hv1524, hS1525, hR1528, h1526, h1527⟩)
                      subst hv1524
                      have h1526_ : z1522.toInt = z1474.toInt + 1 := h1526
                      have h1527_ : ∀ j, j ∉ [11, 12, 13, 14] → g'1523 j = g'1512 j := h1527
                      replace hS1525 : MS S0 S1521 (upd (upd (upd (upd (upd (upd (upd f 4 z1483) 5 y1484) 10 z1522) 15 z1511) 62 o789) 68 z1500) 75 m791) g'1523 := hS1525
                      have hR1528_ : RJ (upd (upd (upd (upd (upd (upd (upd f 4 z1483) 5 y1484) 10 z1522) 15 z1511) 62 o789) 68 z1500) 75 m791) g'1523 (((35 : Int), (0 : Int), (0 : Int), (0 : Int), []) :: (((33 : Int), (1 : Int), z808.toInt, (0 : Int), []) :: (((28 : Int), (0 : Int), (0 : Int), (0 : Int), []) :: gs))) bc [] 0 (z822.toNatClampNeg :: (s790.toNatClampNeg :: [])) := hR1528
                      show am_E _ _ _ _ [some (.ref 39), some (.int z808)] [] _ _
                      refine am_e35 hi_192_41 ?_
                      show am_E _ _ _ _ [some (.ref 39), some (.int 1), some (.int z808)] [] _ _
                      refine am_e18 hi_212_74 ?_
                      refine am_e35 hi_212_125 ?_
                      show am_E _ _ _ _ [some (.ref 39), some (.int r2), some (.int (f 4)), some (.int r833)] [] _ _
                      refine am_e18 hi_211_211 ?_
                      refine am_e35 hi_211_249 ?_
                      show am_E _ _ _ _ [some (.ref 39), some (.int 28), some (.int on), some (.int tw)] [] _ _
                      refine am_e18 hi_181_180 ?_
                      refine am_e35 hi_181_397 ?_
                      show am_E _ _ _ _ [some (.ref 39), some (.int 28), some (.int on), some (.int tw), some (.int th)] [] _ _
                      refine am_e35 hi_180_13 ?_
                      have q1 : mg_p1 (((35 : Int), (0 : Int), (0 : Int), (0 : Int), []) :: (((33 : Int), (1 : Int), z808.toInt, (0 : Int), []) :: (((28 : Int), (0 : Int), (0 : Int), (0 : Int), []) :: gs))) = 0 + (0 + (0 + (mg_p1 gs))) := rfl
                      have q2 : mg_p2 (((35 : Int), (0 : Int), (0 : Int), (0 : Int), []) :: (((33 : Int), (1 : Int), z808.toInt, (0 : Int), []) :: (((28 : Int), (0 : Int), (0 : Int), (0 : Int), []) :: gs))) = 0 + (0 + (0 + (mg_p2 gs))) := rfl
                      have q3 : mg_p3 (((35 : Int), (0 : Int), (0 : Int), (0 : Int), []) :: (((33 : Int), (1 : Int), z808.toInt, (0 : Int), []) :: (((28 : Int), (0 : Int), (0 : Int), (0 : Int), []) :: gs))) = 3 + (1 + (1 + (mg_p3 gs))) := rfl
                      have q4 : mg_p4 (((35 : Int), (0 : Int), (0 : Int), (0 : Int), []) :: (((33 : Int), (1 : Int), z808.toInt, (0 : Int), []) :: (((28 : Int), (0 : Int), (0 : Int), (0 : Int), []) :: gs))) = 0 + (3 + (0 + (mg_p4 gs))) := rfl
                      refine ⟨_, _, _, bc, rfl, hS1525, Or.inl ⟨⟨(RJ.fewer (pj' := []) hR1528_ (fun _ h => nomatch h)), ?_, ?_⟩, rfl, ?_⟩⟩
                      · exact (⟨⟨(show (0 : Int) ≤ 35 from by decide), (show (0 : Int) ≤ z1511.toInt from by omega), (show 0 ≤ (f 20).toInt from by omega), (show 1 ≤ (f 37).toInt from by omega), (show 0 ≤ (f 32).toInt from by omega), (show (f 32).toInt ≤ y1484.toInt from by omega), (show y1484.toInt ≤ 48 from by omega), (show (f 37).toInt ≤ 2 * (y1484.toInt) + 2 from by omega), trivial⟩, ⟨⟨(show (0 : Int) ≤ 33 from by decide), (show (2 : Int) ≤ z1511.toInt + 0 from by omega), (show 0 ≤ (f 20).toInt from by omega), (show 1 ≤ (f 37).toInt + 0 from by omega), (show 0 ≤ (f 32).toInt + 0 from by omega), (show (f 32).toInt + 0 ≤ y1484.toInt + -1 from by omega), (show y1484.toInt + -1 ≤ 48 from by omega), (show (f 37).toInt + 0 ≤ 2 * (y1484.toInt + -1) + 2 from by omega), trivial⟩, ⟨⟨(show (0 : Int) ≤ 28 from by decide), (show (1 : Int) ≤ z1511.toInt + 0 + -1 from by omega), (show 0 ≤ (f 20).toInt from by omega), (show 1 ≤ (f 37).toInt + 0 + 0 from by omega), (show 0 ≤ (f 32).toInt + 0 + 0 from by omega), (show (f 32).toInt + 0 + 0 ≤ y1484.toInt + -1 + 0 from by omega), (show y1484.toInt + -1 + 0 ≤ 48 from by omega), (show (f 37).toInt + 0 + 0 ≤ 2 * (y1484.toInt + -1 + 0) + 2 from by omega), trivial⟩, mg_cast (mg_good_ext _ _ _ _ _ _ (fun i _ => by show g'1523 34 i = g 34 i; rw [show g'1523 34 = g'1512 34 from h1527_ 34 (by decide), show g'1512 34 = g'1502 34 from h1516_ 34 (by decide), show g'1502 34 = g'1475 34 from h1507_ 34 (by decide), show g'1475 34 = g'1330 34 from h1479_ 34 (by decide), show g'1330 34 = g'824 34 from h1334_ 34 (by decide), show g'824 34 = g'792 34 from h829_ 34 (by decide), show g'792 34 = g 34 from h800_ 34 (by decide)]) (fun i _ => by show g'1523 38 i = g 38 i; rw [show g'1523 38 = g'1512 38 from h1527_ 38 (by decide), show g'1512 38 = g'1502 38 from h1516_ 38 (by decide), show g'1502 38 = g'1475 38 from h1507_ 38 (by decide), show g'1475 38 = g'1330 38 from h1479_ 38 (by decide), show g'1330 38 = g'824 38 from h1334_ 38 (by decide), show g'824 38 = g'792 38 from h829_ 38 (by decide), show g'792 38 = g 38 from h800_ 38 (by decide)]) hrest) (by show (f 15).toInt + 0 = z1511.toInt + 0 + -1 + 0; omega) (by show (f 20).toInt = (f 20).toInt; omega) (by show (f 37).toInt + 0 = (f 37).toInt + 0 + 0 + 0; omega) (by show (f 32).toInt + 0 = (f 32).toInt + 0 + 0 + 0; omega) (by show (f 5).toInt + 0 = y1484.toInt + -1 + 0 + 0; omega)⟩⟩⟩ : mg_good (g'1523 34) (g'1523 38) (((35 : Int), (0 : Int), (0 : Int), (0 : Int), []) :: (((33 : Int), (1 : Int), z808.toInt, (0 : Int), []) :: (((28 : Int), (0 : Int), (0 : Int), (0 : Int), []) :: gs))) (z1511.toInt) ((f 20).toInt) ((f 37).toInt) ((f 32).toInt) (y1484.toInt))
                      · exact ⟨(by show 0 ≤ z1483.toInt; omega), (by show z1483.toInt ≤ (f 0).toInt; omega), (by show (f 0).toInt ≤ 512; omega), (by show 0 ≤ (f 24).toInt; omega), (by show (f 24).toInt + (f 20).toInt + mg_p1 (((35 : Int), (0 : Int), (0 : Int), (0 : Int), []) :: (((33 : Int), (1 : Int), z808.toInt, (0 : Int), []) :: (((28 : Int), (0 : Int), (0 : Int), (0 : Int), []) :: gs))) ≤ 4 * z1483.toInt; omega), (by show (f 20).toInt ≤ z1483.toInt; omega), (by show z1511.toInt + mg_p2 (((35 : Int), (0 : Int), (0 : Int), (0 : Int), []) :: (((33 : Int), (1 : Int), z808.toInt, (0 : Int), []) :: (((28 : Int), (0 : Int), (0 : Int), (0 : Int), []) :: gs))) ≤ z1483.toInt; omega), (by show mg_p3 (((35 : Int), (0 : Int), (0 : Int), (0 : Int), []) :: (((33 : Int), (1 : Int), z808.toInt, (0 : Int), []) :: (((28 : Int), (0 : Int), (0 : Int), (0 : Int), []) :: gs))) ≤ 20 * z1483.toInt + 20; omega), (by show 0 ≤ z1500.toInt; omega), (by show z1500.toInt + 3 * (f 20).toInt + mg_p4 (((35 : Int), (0 : Int), (0 : Int), (0 : Int), []) :: (((33 : Int), (1 : Int), z808.toInt, (0 : Int), []) :: (((28 : Int), (0 : Int), (0 : Int), (0 : Int), []) :: gs))) ≤ 60 * z1483.toInt + 60; omega), (by show 0 ≤ o789.toInt; omega), (by show o789.toInt + 64 * mj_n (g'1523 16) z1511.toNatClampNeg 3 ≤ 64 * z1483.toInt; rw [show g'1523 16 = g'1512 16 from h1527_ 16 (by decide)]; omega), (by show 0 ≤ (f 44).toInt; omega), (by show (f 44).toInt ≤ z1483.toInt; omega), (by show 0 ≤ (f 48).toInt; omega), (by show (f 48).toInt ≤ z1483.toInt; omega), (by show 1 ≤ (f 53).toInt; omega), (by show (f 53).toInt ≤ z1483.toInt + 1; omega)⟩
                      · show 100 * ((f 0).toInt - z1483.toInt) + mg_p3 (((35 : Int), (0 : Int), (0 : Int), (0 : Int), []) :: (((33 : Int), (1 : Int), z808.toInt, (0 : Int), []) :: (((28 : Int), (0 : Int), (0 : Int), (0 : Int), []) :: gs))) < 100 * ((f 0).toInt - (f 4).toInt) + (1 + mg_p3 gs); omega
                    · subst hv1494
                      replace hS1495 : MS S0 S1482 (upd (upd (upd (upd (upd (upd (upd f 4 z808) 6 a1492) 7 b1493) 10 0) 62 o789) 68 z822) 75 m791) g'1475 := hS1495
                      show am_E _ _ _ _ [some (.ref 39), some (.int z808)] [.int 0] _ _
                      refine am_e12f hi_192_11 (by decide) ?_
                      refine am_e35 hi_192_14 ?_
                      show am_E _ _ _ _ [some (.ref 39), some (.int 1), some (.int z808)] [] _ _
                      refine am_e18 hi_212_74 ?_
                      refine am_e35 hi_212_125 ?_
                      show am_E _ _ _ _ [some (.ref 39), some (.int r2), some (.int (f 4)), some (.int r833)] [] _ _
                      refine am_e18 hi_211_211 ?_
                      refine am_e35 hi_211_249 ?_
                      show am_E _ _ _ _ [some (.ref 39), some (.int 28), some (.int on), some (.int tw)] [] _ _
                      refine am_e18 hi_181_180 ?_
                      refine am_e35 hi_181_397 ?_
                      show am_E _ _ _ _ [some (.ref 39), some (.int 28), some (.int on), some (.int tw), some (.int th)] [] _ _
                      refine am_e35 hi_180_13 ?_
                      have hRc := rj_clear0 hR1480_
                      refine ⟨_, _, [], _, rfl, hS1495, Or.inr ⟨hRc, rfl, (by show 0 ≤ z808.toInt; omega), (by show z808.toInt ≤ (f 0).toInt; omega), (by show 0 ≤ (f 32).toInt; omega), (by show (f 32).toInt ≤ 63; omega), (by show 1 ≤ (f 53).toInt; omega), (by show (f 53).toInt ≤ 600; omega), (by show 0 ≤ z822.toInt; omega), (by show z822.toInt ≤ 60000; omega), (by show 0 ≤ (f 48).toInt; omega), (by show (f 48).toInt ≤ 8000; omega), (by show 0 ≤ (f 37).toInt; omega), (by show (f 37).toInt ≤ 128; omega), (by show 0 ≤ o789.toInt; omega), (by show o789.toInt ≤ 65000; omega)⟩⟩
                · refine am_e13f hi_212_10 (am_cF (m := r1338.toInt) (n := (3 : Int)) rfl (by decide) c1343) ?_
                  refine am_e2 (v := 39) hi_212_13 rfl ?_
                  refine am_e0 hi_212_14 ?_
                  refine am_e2 (v := 39) hi_212_15 rfl ?_
                  refine mm_20 (v := .ref 41) hS1340 hi_212_16 rfl ?_
                  refine am_e2 (v := 39) hi_212_19 rfl ?_
                  refine mm_20 (v := .int z808) hS1340 hi_212_20 rfl ?_
                  refine mm_25 hS1340 ma_2 hi_212_23 (by decide) (by omega) (by omega) ?_
                  show am_E _ _ _ _ _ (.int (g'1330 2 z808.toNatClampNeg) :: _) _ _
                  rw [show g'1330 2 = g'824 2 from h1334_ 2 (by decide), show g'824 2 = g'792 2 from h829_ 2 (by decide), show g'792 2 = g 2 from h800_ 2 (by decide)]
                  show am_E _ _ _ _ [some (.ref 39), some (.int 1), some (.int z808)] [.int (g 2 z808.toNatClampNeg), .int 5, .ref 39] _ _
                  refine am_e0 hi_212_24 ?_
                  refine am_e0 hi_212_25 ?_
                  refine am_e32n (as := [.ref 39, .int 5, .int (g 2 z808.toNatClampNeg), .int 0, .int 0]) (la := [some (.ref 39), some (.int 5), some (.int (g 2 z808.toNatClampNeg)), some (.int 0), some (.int 0)]) (rest := []) hi_212_26 (am_hd0 (M := 212) (by decide) 26) (Nat.le_of_ble_eq_true rfl) (Nat.le_of_ble_eq_true rfl) (show 5 ≤ am_P0.2.2.1 189 from by decide +kernel) rfl (am_recv_ok hS1340.fs) rfl rfl (ct_put (d := (d + 4)) hS1340 hR1335_  (by show (0 : Int) ≤ (f 32).toInt; omega) (by show (f 32).toInt ≤ (63 : Int); omega) (by show (f 53).toInt ≤ (4096 : Int); omega) (by show (0 : Int) ≤ z822.toInt; omega) (by show z822.toInt ≤ (65534 : Int); omega)) ?_
                  rintro v1529 S1530 (⟨z1531, r1532, g'1533, hv1534, hS1535, hR1539, h1536, h1537, h1538⟩)
                  subst hv1534
                  have h1536_ : z1531.toInt = z822.toInt + 1 := h1536
                  have h1537_ : r1532.toInt = z822.toInt := h1537
                  have h1538_ : ∀ j, j ∉ [60, 69, 70, 71, 72, 73] → g'1533 j = g'1330 j := h1538
                  replace hS1535 : MS S0 S1530 (upd (upd (upd (upd (upd f 4 z808) 10 z1329) 62 o789) 68 z1531) 75 m791) g'1533 := hS1535
                  have hR1539_ : RJ (upd (upd (upd (upd (upd f 4 z808) 10 z1329) 62 o789) 68 z1531) 75 m791) g'1533 (((28 : Int), (0 : Int), (0 : Int), (0 : Int), []) :: gs) bc [] 0 (z822.toNatClampNeg :: (s790.toNatClampNeg :: [])) := hR1539
                  show am_E _ _ _ _ [some (.ref 39), some (.int 1), some (.int z808)] [.int r1532] _ _
                  refine am_e6i hi_212_29 ?_
                  refine am_e2 (v := 39) hi_212_30 rfl ?_
                  refine am_e7 hi_212_31 ?_
                  refine mm_20 (v := .int z808) hS1535 hi_212_32 rfl ?_
                  refine am_e0 hi_212_35 ?_
                  obtain ⟨z1540, hz1540, tz1540⟩ := am_addI (x := z808) (y := 1) (m := z808.toInt) (n := (1 : Int)) rfl (by decide) (by omega) (by omega)
                  refine am_e10 (z := z1540) hi_212_36 hz1540 ?_
                  refine mm_21 (v := z1540) hS1535 hi_212_37 rfl (Nat.le_of_ble_eq_true rfl) ms_4 ?_
                  intro S1541 hS1542
                  replace hS1542 : MS S0 S1541 (upd (upd (upd (upd (upd f 4 z1540) 10 z1329) 62 o789) 68 z1531) 75 m791) g'1533 := hS1542
                  have hR1543 : RJ (upd (upd (upd (upd (upd f 4 z1540) 10 z1329) 62 o789) 68 z1531) 75 m791) g'1533 (((28 : Int), (0 : Int), (0 : Int), (0 : Int), []) :: gs) bc [] 0 (z822.toNatClampNeg :: (s790.toNatClampNeg :: [])) := RJ.at hR1539_ (by show z808.toInt ≤ z1540.toInt; omega)
                  refine am_e2 (v := 39) hi_212_40 rfl ?_
                  refine am_e0 hi_212_41 ?_
                  refine am_e1 (v := 1) hi_212_42 rfl ?_
                  refine am_e10 (z := 2) hi_212_43 (by decide) ?_
                  refine am_e0 hi_212_44 ?_
                  refine am_e1 (v := z808) hi_212_45 rfl ?_
                  refine am_e32w (as := [.ref 39, .int 2, .int 0, .int z808]) (la := [some (.ref 39), some (.int 2), some (.int 0), some (.int z808), none]) (rest := []) hi_212_46 (am_hd0 (M := 212) (by decide) 46) (Nat.le_of_ble_eq_true rfl) (Nat.le_of_ble_eq_true rfl) (show 4 ≤ am_P0.2.2.1 213 from by decide +kernel) rfl (am_recv_ok hS1542.fs) rfl rfl ?_
                  refine am_e2 (v := 39) hi_213_0 rfl ?_
                  refine am_e0 hi_213_1 ?_
                  refine am_e1 (v := 2) hi_213_3 rfl ?_
                  refine am_e1 (v := 0) hi_213_4 rfl ?_
                  refine am_e0 hi_213_5 ?_
                  refine am_e10 (z := 2) hi_213_6 (by decide) ?_
                  refine am_e1 (v := z808) hi_213_7 rfl ?_
                  refine am_e32n (as := [.ref 39, .int 13, .int 2, .int 2, .int z808]) (la := [some (.ref 39), some (.int 13), some (.int 2), some (.int 2), some (.int z808)]) (rest := []) hi_213_8 (am_hd0 (M := 213) (by decide) 8) (Nat.le_of_ble_eq_true rfl) (Nat.le_of_ble_eq_true rfl) (show 5 ≤ am_P0.2.2.1 189 from by decide +kernel) rfl (am_recv_ok hS1542.fs) rfl rfl (ct_put (d := (d + 3)) hS1542 hR1543  (by show (0 : Int) ≤ (f 32).toInt; omega) (by show (f 32).toInt ≤ (63 : Int); omega) (by show (f 53).toInt ≤ (4096 : Int); omega) (by show (0 : Int) ≤ z1531.toInt; omega) (by show z1531.toInt ≤ (65534 : Int); omega)) ?_
                  rintro v1544 S1545 (⟨z1546, r1547, g'1548, hv1549, hS1550, hR1554, h1551, h1552, h1553⟩)
                  subst hv1549
                  have h1551_ : z1546.toInt = z1531.toInt + 1 := h1551
                  have h1552_ : r1547.toInt = z1531.toInt := h1552
                  have h1553_ : ∀ j, j ∉ [60, 69, 70, 71, 72, 73] → g'1548 j = g'1533 j := h1553
                  replace hS1550 : MS S0 S1545 (upd (upd (upd (upd (upd f 4 z1540) 10 z1329) 62 o789) 68 z1546) 75 m791) g'1548 := hS1550
                  have hR1554_ : RJ (upd (upd (upd (upd (upd f 4 z1540) 10 z1329) 62 o789) 68 z1546) 75 m791) g'1548 (((28 : Int), (0 : Int), (0 : Int), (0 : Int), []) :: gs) bc [] 0 (z1531.toNatClampNeg :: (z822.toNatClampNeg :: (s790.toNatClampNeg :: []))) := hR1554
                  show am_E _ _ _ _ [some (.ref 39), some (.int 2), some (.int 0), some (.int z808), none] [.int r1547] _ _
                  refine am_e3 (ls' := [some (.ref 39), some (.int 2), some (.int 0), some (.int z808), some (.int r1547)]) hi_213_11 (Nat.le_of_ble_eq_true rfl) rfl ?_
                  refine am_e2 (v := 39) hi_213_13 rfl ?_
                  refine am_e7 hi_213_14 ?_
                  refine mm_20 (v := .int (f 15)) hS1550 hi_213_15 rfl ?_
                  refine am_e0 hi_213_18 ?_
                  obtain ⟨z1555, hz1555, tz1555⟩ := am_subI (x := f 15) (y := 1) (m := (f 15).toInt) (n := (1 : Int)) rfl (by decide) (by omega) (by omega)
                  refine am_e10 (z := z1555) hi_213_19 hz1555 ?_
                  refine mm_21 (v := z1555) hS1550 hi_213_20 rfl (Nat.le_of_ble_eq_true rfl) ms_15 ?_
                  intro S1556 hS1557
                  replace hS1557 : MS S0 S1556 (upd (upd (upd (upd (upd (upd f 4 z1540) 10 z1329) 15 z1555) 62 o789) 68 z1546) 75 m791) g'1548 := hS1557
                  have hp1558 : mj_n (g'792 16) (f 15).toNatClampNeg 3 = mj_n (g'792 16) z1555.toNatClampNeg 3 + if (g'792 16 z1555.toNatClampNeg).toInt = 3 then 1 else 0 := mj_pop (by rw [cl_toNat, cl_toNat]; omega)
                  have hp15581 : mj_n (g'792 16) z1555.toNatClampNeg 3 ≤ mj_n (g'792 16) (f 15).toNatClampNeg 3 := by rw [hp1558]; split <;> omega
                  have hp15582 : (g'792 16 z1555.toNatClampNeg).toInt = 3 → mj_n (g'792 16) z1555.toNatClampNeg 3 + 1 ≤ mj_n (g'792 16) (f 15).toNatClampNeg 3 := fun q => by rw [hp1558, if_pos q]; exact Int.le_refl _
                  refine am_e2 (v := 39) hi_213_23 rfl ?_
                  refine am_e0 hi_213_24 ?_
                  refine am_e1 (v := r1547) hi_213_25 rfl ?_
                  refine am_e1 (v := z808) hi_213_27 rfl ?_
                  refine am_e32n (as := [.ref 39, .int 1, .int r1547, .int z808]) (la := [some (.ref 39), some (.int 1), some (.int r1547), some (.int z808)]) (rest := []) hi_213_28 (am_hd0 (M := 213) (by decide) 28) (Nat.le_of_ble_eq_true rfl) (Nat.le_of_ble_eq_true rfl) (show 4 ≤ am_P0.2.2.1 190 from by decide +kernel) rfl (am_recv_ok hS1557.fs) rfl rfl (ct_value (d := (d + 3)) hS1557 hR1554_ (fun h => absurd h (by decide)) (fun _ => ⟨by omega, by omega⟩) (by show (0 : Int) ≤ z1555.toInt; omega) (by show z1555.toInt ≤ (32767 : Int); omega)) ?_
                  rintro v1559 S1560 (⟨z1561, g'1562, hv1563, hS1564, hR1569, h1565, h1566, h1567, h1568⟩)
                  subst hv1563
                  have h1565_ : z1561.toInt = z1555.toInt + 1 := h1565
                  have h1566_ : ∀ j, j ∉ [16, 17, 18] → g'1562 j = g'1548 j := h1566
                  have h1567_ : mj_n (g'1562 16) z1561.toNatClampNeg 3 ≤ mj_n (g'792 16) z1555.toNatClampNeg 3 + 1 := by rw [show g'1548 16 = g'1533 16 from h1553_ 16 (by decide), show g'1533 16 = g'1330 16 from h1538_ 16 (by decide), show g'1330 16 = g'824 16 from h1334_ 16 (by decide), show g'824 16 = g'792 16 from h829_ 16 (by decide)] at h1567; exact h1567
                  have h1568_ : (1 : Int) = 3 ∨ mj_n (g'1562 16) z1561.toNatClampNeg 3 ≤ mj_n (g'792 16) z1555.toNatClampNeg 3 := by rw [show g'1548 16 = g'1533 16 from h1553_ 16 (by decide), show g'1533 16 = g'1330 16 from h1538_ 16 (by decide), show g'1330 16 = g'824 16 from h1334_ 16 (by decide), show g'824 16 = g'792 16 from h829_ 16 (by decide)] at h1568; exact h1568
                  replace hS1564 : MS S0 S1560 (upd (upd (upd (upd (upd (upd f 4 z1540) 10 z1329) 15 z1561) 62 o789) 68 z1546) 75 m791) g'1562 := hS1564
                  have hR1569_ : RJ (upd (upd (upd (upd (upd (upd f 4 z1540) 10 z1329) 15 z1561) 62 o789) 68 z1546) 75 m791) g'1562 (((28 : Int), (0 : Int), (0 : Int), (0 : Int), []) :: gs) bc [] 0 (z1531.toNatClampNeg :: (z822.toNatClampNeg :: (s790.toNatClampNeg :: []))) := hR1569
                  show am_E _ _ _ _ [some (.ref 39), some (.int 2), some (.int 0), some (.int z808), some (.int r1547)] [] _ _
                  refine am_e35 hi_213_31 ?_
                  show am_E _ _ _ _ [some (.ref 39), some (.int 1), some (.int z808)] [] _ _
                  refine am_e18 hi_212_49 ?_
                  refine am_e35 hi_212_125 ?_
                  show am_E _ _ _ _ [some (.ref 39), some (.int r2), some (.int (f 4)), some (.int r833)] [] _ _
                  refine am_e18 hi_211_211 ?_
                  refine am_e35 hi_211_249 ?_
                  show am_E _ _ _ _ [some (.ref 39), some (.int 28), some (.int on), some (.int tw)] [] _ _
                  refine am_e18 hi_181_180 ?_
                  refine am_e35 hi_181_397 ?_
                  show am_E _ _ _ _ [some (.ref 39), some (.int 28), some (.int on), some (.int tw), some (.int th)] [] _ _
                  refine am_e35 hi_180_13 ?_
                  have q1 : mg_p1 (((28 : Int), (0 : Int), (0 : Int), (0 : Int), []) :: gs) = 0 + (mg_p1 gs) := rfl
                  have q2 : mg_p2 (((28 : Int), (0 : Int), (0 : Int), (0 : Int), []) :: gs) = 0 + (mg_p2 gs) := rfl
                  have q3 : mg_p3 (((28 : Int), (0 : Int), (0 : Int), (0 : Int), []) :: gs) = 1 + (mg_p3 gs) := rfl
                  have q4 : mg_p4 (((28 : Int), (0 : Int), (0 : Int), (0 : Int), []) :: gs) = 0 + (mg_p4 gs) := rfl
                  refine ⟨_, _, _, bc, rfl, hS1564, Or.inl ⟨⟨(RJ.fewer (pj' := []) hR1569_ (fun _ h => nomatch h)), ?_, ?_⟩, rfl, ?_⟩⟩
                  · exact (⟨⟨(show (0 : Int) ≤ 28 from by decide), (show (1 : Int) ≤ z1561.toInt from by omega), (show 0 ≤ (f 20).toInt from by omega), (show 1 ≤ (f 37).toInt from by omega), (show 0 ≤ (f 32).toInt from by omega), (show (f 32).toInt ≤ (f 5).toInt from by omega), (show (f 5).toInt ≤ 48 from by omega), (show (f 37).toInt ≤ 2 * ((f 5).toInt) + 2 from by omega), trivial⟩, mg_cast (mg_good_ext _ _ _ _ _ _ (fun i _ => by show g'1562 34 i = g 34 i; rw [show g'1562 34 = g'1548 34 from h1566_ 34 (by decide), show g'1548 34 = g'1533 34 from h1553_ 34 (by decide), show g'1533 34 = g'1330 34 from h1538_ 34 (by decide), show g'1330 34 = g'824 34 from h1334_ 34 (by decide), show g'824 34 = g'792 34 from h829_ 34 (by decide), show g'792 34 = g 34 from h800_ 34 (by decide)]) (fun i _ => by show g'1562 38 i = g 38 i; rw [show g'1562 38 = g'1548 38 from h1566_ 38 (by decide), show g'1548 38 = g'1533 38 from h1553_ 38 (by decide), show g'1533 38 = g'1330 38 from h1538_ 38 (by decide), show g'1330 38 = g'824 38 from h1334_ 38 (by decide), show g'824 38 = g'792 38 from h829_ 38 (by decide), show g'792 38 = g 38 from h800_ 38 (by decide)]) hrest) (by show (f 15).toInt + 0 = z1561.toInt + 0; omega) (by show (f 20).toInt = (f 20).toInt; omega) (by show (f 37).toInt + 0 = (f 37).toInt + 0; omega) (by show (f 32).toInt + 0 = (f 32).toInt + 0; omega) (by show (f 5).toInt + 0 = (f 5).toInt + 0; omega)⟩ : mg_good (g'1562 34) (g'1562 38) (((28 : Int), (0 : Int), (0 : Int), (0 : Int), []) :: gs) (z1561.toInt) ((f 20).toInt) ((f 37).toInt) ((f 32).toInt) ((f 5).toInt))
                  · exact ⟨(by show 0 ≤ z1540.toInt; omega), (by show z1540.toInt ≤ (f 0).toInt; omega), (by show (f 0).toInt ≤ 512; omega), (by show 0 ≤ (f 24).toInt; omega), (by show (f 24).toInt + (f 20).toInt + mg_p1 (((28 : Int), (0 : Int), (0 : Int), (0 : Int), []) :: gs) ≤ 4 * z1540.toInt; omega), (by show (f 20).toInt ≤ z1540.toInt; omega), (by show z1561.toInt + mg_p2 (((28 : Int), (0 : Int), (0 : Int), (0 : Int), []) :: gs) ≤ z1540.toInt; omega), (by show mg_p3 (((28 : Int), (0 : Int), (0 : Int), (0 : Int), []) :: gs) ≤ 20 * z1540.toInt + 20; omega), (by show 0 ≤ z1546.toInt; omega), (by show z1546.toInt + 3 * (f 20).toInt + mg_p4 (((28 : Int), (0 : Int), (0 : Int), (0 : Int), []) :: gs) ≤ 60 * z1540.toInt + 60; omega), (by show 0 ≤ o789.toInt; omega), (by show o789.toInt + 64 * mj_n (g'1562 16) z1561.toNatClampNeg 3 ≤ 64 * z1540.toInt; omega), (by show 0 ≤ (f 44).toInt; omega), (by show (f 44).toInt ≤ z1540.toInt; omega), (by show 0 ≤ (f 48).toInt; omega), (by show (f 48).toInt ≤ z1540.toInt; omega), (by show 1 ≤ (f 53).toInt; omega), (by show (f 53).toInt ≤ z1540.toInt + 1; omega)⟩
                  · show 100 * ((f 0).toInt - z1540.toInt) + mg_p3 (((28 : Int), (0 : Int), (0 : Int), (0 : Int), []) :: gs) < 100 * ((f 0).toInt - (f 4).toInt) + (1 + mg_p3 gs); omega
              · refine am_e13f hi_211_186 (am_cF (m := r833.toInt) (n := (62 : Int)) rfl (by decide) c1326) ?_
                refine am_e2 (v := 39) hi_211_189 rfl ?_
                refine am_e0 hi_211_190 ?_
                refine am_e32n (as := [.ref 39, .int 7]) (la := [some (.ref 39), some (.int 7)]) (rest := []) hi_211_192 (am_hd0 (M := 211) (by decide) 192) (Nat.le_of_ble_eq_true rfl) (Nat.le_of_ble_eq_true rfl) (show 2 ≤ am_P0.2.2.1 194 from by decide +kernel) rfl (am_recv_ok hS835.fs) rfl rfl (ct_fail (d := (d + 5)) hS835   ) ?_
                rintro v1570 S1571 (⟨a1572, b1573, hv1574, hS1575⟩)
                subst hv1574
                replace hS1575 : MS S0 S1571 (upd (upd (upd (upd (upd (upd (upd f 4 z808) 6 a1572) 7 b1573) 10 0) 62 o789) 68 z822) 75 m791) g'824 := hS1575
                show am_E _ _ _ _ [some (.ref 39), some (.int r2), some (.int (f 4)), some (.int r833)] [.int 0] _ _
                refine am_e6i hi_211_195 ?_
                refine am_e35 hi_211_196 ?_
                show am_E _ _ _ _ [some (.ref 39), some (.int 28), some (.int on), some (.int tw)] [] _ _
                refine am_e18 hi_181_180 ?_
                refine am_e35 hi_181_397 ?_
                show am_E _ _ _ _ [some (.ref 39), some (.int 28), some (.int on), some (.int tw), some (.int th)] [] _ _
                refine am_e35 hi_180_13 ?_
                have hRc := rj_clear0 hR830_
                refine ⟨_, _, [], _, rfl, hS1575, Or.inr ⟨hRc, rfl, (by show 0 ≤ z808.toInt; omega), (by show z808.toInt ≤ (f 0).toInt; omega), (by show 0 ≤ (f 32).toInt; omega), (by show (f 32).toInt ≤ 63; omega), (by show 1 ≤ (f 53).toInt; omega), (by show (f 53).toInt ≤ 600; omega), (by show 0 ≤ z822.toInt; omega), (by show z822.toInt ≤ 60000; omega), (by show 0 ≤ (f 48).toInt; omega), (by show (f 48).toInt ≤ 8000; omega), (by show 0 ≤ (f 37).toInt; omega), (by show (f 37).toInt ≤ 128; omega), (by show 0 ≤ o789.toInt; omega), (by show o789.toInt ≤ 65000; omega)⟩⟩
        · subst hv816
          replace hS817 : MS S0 S807 (upd (upd (upd (upd (upd (upd (upd f 4 z802) 6 a814) 7 b815) 10 0) 62 o789) 68 s790) 75 m791) g'792 := hS817
          show am_E _ _ _ _ [some (.ref 39), some (.int r2), some (.int (f 4)), none] [.int 0] _ _
          refine am_e12f hi_211_146 (by decide) ?_
          refine am_e35 hi_211_149 ?_
          show am_E _ _ _ _ [some (.ref 39), some (.int 28), some (.int on), some (.int tw)] [] _ _
          refine am_e18 hi_181_180 ?_
          refine am_e35 hi_181_397 ?_
          show am_E _ _ _ _ [some (.ref 39), some (.int 28), some (.int on), some (.int tw), some (.int th)] [] _ _
          refine am_e35 hi_180_13 ?_
          have hRc := rj_clear0 hR805
          refine ⟨_, _, [], _, rfl, hS817, Or.inr ⟨hRc, rfl, (by show 0 ≤ z802.toInt; omega), (by show z802.toInt ≤ (f 0).toInt; omega), (by show 0 ≤ (f 32).toInt; omega), (by show (f 32).toInt ≤ 63; omega), (by show 1 ≤ (f 53).toInt; omega), (by show (f 53).toInt ≤ 600; omega), (by show 0 ≤ s790.toInt; omega), (by show s790.toInt ≤ 60000; omega), (by show 0 ≤ (f 48).toInt; omega), (by show (f 48).toInt ≤ 8000; omega), (by show 0 ≤ (f 37).toInt; omega), (by show (f 37).toInt ≤ 128; omega), (by show 0 ≤ o789.toInt; omega), (by show o789.toInt ≤ 65000; omega)⟩⟩
    · refine am_e13f hi_211_78 (am_cF (m := r2.toInt) (n := (64 : Int)) rfl (by decide) c8) ?_
      refine am_e2 (v := 39) hi_211_81 rfl ?_
      refine am_e32n (as := [.ref 39]) (la := [some (.ref 39), none, none, none]) (rest := []) hi_211_82 (am_hd0 (M := 211) (by decide) 82) (Nat.le_of_ble_eq_true rfl) (Nat.le_of_ble_eq_true rfl) (show 1 ≤ am_P0.2.2.1 204 from by decide +kernel) rfl (am_recv_ok hS4.fs) rfl rfl (ct_load (d := (d + 3)) hS4 hR  (by show (0 : Int) ≤ (f 32).toInt; omega) (by show (f 32).toInt ≤ (63 : Int); omega) (by show (f 53).toInt ≤ (4096 : Int); omega) (by show (0 : Int) ≤ (f 68).toInt; omega) (by show (f 68).toInt ≤ (65534 : Int); omega) (by show (1 : Int) ≤ (f 15).toInt; omega) (by show (f 15).toInt ≤ (32767 : Int); omega) (by show (0 : Int) ≤ (f 24).toInt; omega) (by show (f 24).toInt ≤ (16384 : Int); omega) (by show (0 : Int) ≤ (f 62).toInt; omega) (by show (f 62).toInt ≤ (65000 : Int); omega)) ?_
      rintro v1577 S1578 (⟨o1579, s1580, m1581, g'1582, hv1583, hS1584, hR1591, h1585, h1586, h1587, h1588, h1589, h1590⟩)
      subst hv1583
      have h1585_ : (f 62).toInt ≤ o1579.toInt := h1585
      have h1586_ : o1579.toInt ≤ (f 62).toInt + 64 := h1586
      have h1587_ : (f 68).toInt ≤ s1580.toInt := h1587
      have h1588_ : s1580.toInt ≤ (f 68).toInt + 1 := h1588
      have h1589_ : o1579.toInt + 64 * mj_n (g'1582 16) (f 15).toNatClampNeg 3 ≤ (f 62).toInt + 64 * mj_n (g 16) (f 15).toNatClampNeg 3 := h1589
      have h1590_ : ∀ j, j ∉ [16, 60, 63, 64, 65, 66, 67, 69, 70, 71, 72, 73] → g'1582 j = g j := h1590
      have hR1591_ : RJ (upd (upd (upd f 62 o1579) 68 s1580) 75 m1581) g'1582 gs bc [] 0 [] := hR1591
      show am_E _ _ _ _ [some (.ref 39), some (.int r2), some (.int (f 4)), none] [] _ _
      refine am_e2 (v := 39) hi_211_85 rfl ?_
      refine am_e0 hi_211_86 ?_
      refine am_e32n (as := [.ref 39, .int 64]) (la := [some (.ref 39), some (.int 64)]) (rest := []) hi_211_88 (am_hd0 (M := 211) (by decide) 88) (Nat.le_of_ble_eq_true rfl) (Nat.le_of_ble_eq_true rfl) (show 2 ≤ am_P0.2.2.1 193 from by decide +kernel) rfl (am_recv_ok hS1584.fs) rfl rfl (ct_enter (d := (d + 3)) hS1584   (by show (0 : Int) ≤ (f 4).toInt; omega) (by show (f 0).toInt ≤ (16384 : Int); omega) (by show (0 : Int) ≤ (64 : Int); omega) (by show (0 : Int) ≤ (f 5).toInt; omega) (by show (f 5).toInt ≤ (48 : Int); omega)) ?_
      rintro v1592 S1593 (⟨z1594, y1595, hv1596, hS1597, h1598, h1599, h1600, h1601⟩ | ⟨a1603, b1604, hv1605, hS1606⟩)
      · subst hv1596
        have h1598_ : z1594.toInt = (f 4).toInt + 1 := h1598
        have h1599_ : (f 4).toInt < (f 0).toInt := h1599
        have h1600_ : y1595.toInt = (f 5).toInt + 1 := h1600
        have h1601_ : y1595.toInt ≤ (48 : Int) := h1601
        replace hS1597 : MS S0 S1593 (upd (upd (upd (upd (upd f 4 z1594) 5 y1595) 62 o1579) 68 s1580) 75 m1581) g'1582 := hS1597
        have hR1608 : RJ (upd (upd (upd (upd (upd f 4 z1594) 5 y1595) 62 o1579) 68 s1580) 75 m1581) g'1582 gs bc [] 0 [] := RJ.at hR1591_ (by show (f 4).toInt ≤ z1594.toInt; omega)
        show am_E _ _ _ _ [some (.ref 39), some (.int r2), some (.int (f 4)), none] [.int 1] _ _
        refine am_e12t hi_211_91 (by decide) ?_
        refine am_e2 (v := 39) hi_211_95 rfl ?_
        refine am_e0 hi_211_96 ?_
        refine am_e0 hi_211_98 ?_
        refine am_e0 hi_211_99 ?_
        refine am_e0 hi_211_100 ?_
        refine am_e32n (as := [.ref 39, .int 28, .int 0, .int 0, .int 0]) (la := [some (.ref 39), some (.int 28), some (.int 0), some (.int 0), some (.int 0)]) (rest := []) hi_211_101 (am_hd0 (M := 211) (by decide) 101) (Nat.le_of_ble_eq_true rfl) (Nat.le_of_ble_eq_true rfl) (show 5 ≤ am_P0.2.2.1 179 from by decide +kernel) rfl (am_recv_ok hS1597.fs) rfl rfl (ct_pile (d := (d + 5)) hS1597 hR1608 (mj_e_plain (by decide)) (by show (0 : Int) ≤ (f 10).toInt; omega) (by show (f 10).toInt ≤ (65535 : Int); omega)) ?_
        rintro v1609 S1610 (⟨z1611, g'1612, hv1613, hS1614, hR1617, h1615, h1616⟩)
        subst hv1613
        have h1615_ : z1611.toInt = (f 10).toInt + 1 := h1615
        have h1616_ : ∀ j, j ∉ [11, 12, 13, 14] → g'1612 j = g'1582 j := h1616
        replace hS1614 : MS S0 S1610 (upd (upd (upd (upd (upd (upd f 4 z1594) 5 y1595) 10 z1611) 62 o1579) 68 s1580) 75 m1581) g'1612 := hS1614
        have hR1617_ : RJ (upd (upd (upd (upd (upd (upd f 4 z1594) 5 y1595) 10 z1611) 62 o1579) 68 s1580) 75 m1581) g'1612 (((28 : Int), (0 : Int), (0 : Int), (0 : Int), []) :: gs) bc [] 0 [] := hR1617
        show am_E _ _ _ _ [some (.ref 39), some (.int r2), some (.int (f 4)), none] [] _ _
        refine am_e2 (v := 39) hi_211_104 rfl ?_
        refine am_e0 hi_211_105 ?_
        refine am_e1 (v := f 4) hi_211_107 rfl ?_
        refine am_e0 hi_211_108 ?_
        refine am_e0 hi_211_109 ?_
        refine am_e32n (as := [.ref 39, .int 30, .int (f 4), .int 0, .int 0]) (la := [some (.ref 39), some (.int 30), some (.int (f 4)), some (.int 0), some (.int 0)]) (rest := []) hi_211_110 (am_hd0 (M := 211) (by decide) 110) (Nat.le_of_ble_eq_true rfl) (Nat.le_of_ble_eq_true rfl) (show 5 ≤ am_P0.2.2.1 179 from by decide +kernel) rfl (am_recv_ok hS1614.fs) rfl rfl (ct_pile (d := (d + 5)) hS1614 hR1617_ (mj_e_plain (by decide)) (by show (0 : Int) ≤ z1611.toInt; omega) (by show z1611.toInt ≤ (65535 : Int); omega)) ?_
        rintro v1618 S1619 (⟨z1620, g'1621, hv1622, hS1623, hR1626, h1624, h1625⟩)
        subst hv1622
        have h1624_ : z1620.toInt = z1611.toInt + 1 := h1624
        have h1625_ : ∀ j, j ∉ [11, 12, 13, 14] → g'1621 j = g'1612 j := h1625
        replace hS1623 : MS S0 S1619 (upd (upd (upd (upd (upd (upd f 4 z1594) 5 y1595) 10 z1620) 62 o1579) 68 s1580) 75 m1581) g'1621 := hS1623
        have hR1626_ : RJ (upd (upd (upd (upd (upd (upd f 4 z1594) 5 y1595) 10 z1620) 62 o1579) 68 s1580) 75 m1581) g'1621 (((30 : Int), (f 4).toInt, (0 : Int), (0 : Int), []) :: (((28 : Int), (0 : Int), (0 : Int), (0 : Int), []) :: gs)) bc [] 0 [] := hR1626
        show am_E _ _ _ _ [some (.ref 39), some (.int r2), some (.int (f 4)), none] [] _ _
        refine am_e2 (v := 39) hi_211_113 rfl ?_
        refine am_e0 hi_211_114 ?_
        refine am_e32w (as := [.ref 39, .int 0]) (la := [some (.ref 39), some (.int 0)]) (rest := []) hi_211_115 (am_hd0 (M := 211) (by decide) 115) (Nat.le_of_ble_eq_true rfl) (Nat.le_of_ble_eq_true rfl) (show 2 ≤ am_P0.2.2.1 186 from by decide +kernel) rfl (am_recv_ok hS1623.fs) rfl rfl ?_
        refine am_e2 (v := 39) hi_186_0 rfl ?_
        refine am_e0 hi_186_1 ?_
        refine am_e1 (v := 0) hi_186_3 rfl ?_
        refine am_e0 hi_186_4 ?_
        refine am_e0 hi_186_5 ?_
        refine am_e32n (as := [.ref 39, .int 23, .int 0, .int 0, .int 0]) (la := [some (.ref 39), some (.int 23), some (.int 0), some (.int 0), some (.int 0)]) (rest := []) hi_186_6 (am_hd0 (M := 186) (by decide) 6) (Nat.le_of_ble_eq_true rfl) (Nat.le_of_ble_eq_true rfl) (show 5 ≤ am_P0.2.2.1 179 from by decide +kernel) rfl (am_recv_ok hS1623.fs) rfl rfl (ct_pile (d := (d + 4)) hS1623 hR1626_ (mj_e_plain (by decide)) (by show (0 : Int) ≤ z1620.toInt; omega) (by show z1620.toInt ≤ (65535 : Int); omega)) ?_
        rintro v1627 S1628 (⟨z1629, g'1630, hv1631, hS1632, hR1635, h1633, h1634⟩)
        subst hv1631
        have h1633_ : z1629.toInt = z1620.toInt + 1 := h1633
        have h1634_ : ∀ j, j ∉ [11, 12, 13, 14] → g'1630 j = g'1621 j := h1634
        replace hS1632 : MS S0 S1628 (upd (upd (upd (upd (upd (upd f 4 z1594) 5 y1595) 10 z1629) 62 o1579) 68 s1580) 75 m1581) g'1630 := hS1632
        have hR1635_ : RJ (upd (upd (upd (upd (upd (upd f 4 z1594) 5 y1595) 10 z1629) 62 o1579) 68 s1580) 75 m1581) g'1630 (((23 : Int), (0 : Int), (0 : Int), (0 : Int), []) :: (((30 : Int), (f 4).toInt, (0 : Int), (0 : Int), []) :: (((28 : Int), (0 : Int), (0 : Int), (0 : Int), []) :: gs))) bc [] 0 [] := hR1635
        show am_E _ _ _ _ [some (.ref 39), some (.int 0)] [] _ _
        refine am_e35 hi_186_9 ?_
        show am_E _ _ _ _ [some (.ref 39), some (.int r2), some (.int (f 4)), none] [] _ _
        refine am_e18 hi_211_118 ?_
        refine am_e35 hi_211_249 ?_
        show am_E _ _ _ _ [some (.ref 39), some (.int 28), some (.int on), some (.int tw)] [] _ _
        refine am_e18 hi_181_180 ?_
        refine am_e35 hi_181_397 ?_
        show am_E _ _ _ _ [some (.ref 39), some (.int 28), some (.int on), some (.int tw), some (.int th)] [] _ _
        refine am_e35 hi_180_13 ?_
        have q1 : mg_p1 (((23 : Int), (0 : Int), (0 : Int), (0 : Int), []) :: (((30 : Int), (f 4).toInt, (0 : Int), (0 : Int), []) :: (((28 : Int), (0 : Int), (0 : Int), (0 : Int), []) :: gs))) = 0 + (0 + (0 + (mg_p1 gs))) := rfl
        have q2 : mg_p2 (((23 : Int), (0 : Int), (0 : Int), (0 : Int), []) :: (((30 : Int), (f 4).toInt, (0 : Int), (0 : Int), []) :: (((28 : Int), (0 : Int), (0 : Int), (0 : Int), []) :: gs))) = 0 + (0 + (0 + (mg_p2 gs))) := rfl
        have q3 : mg_p3 (((23 : Int), (0 : Int), (0 : Int), (0 : Int), []) :: (((30 : Int), (f 4).toInt, (0 : Int), (0 : Int), []) :: (((28 : Int), (0 : Int), (0 : Int), (0 : Int), []) :: gs))) = 1 + (1 + (1 + (mg_p3 gs))) := rfl
        have q4 : mg_p4 (((23 : Int), (0 : Int), (0 : Int), (0 : Int), []) :: (((30 : Int), (f 4).toInt, (0 : Int), (0 : Int), []) :: (((28 : Int), (0 : Int), (0 : Int), (0 : Int), []) :: gs))) = 0 + (0 + (0 + (mg_p4 gs))) := rfl
        refine ⟨_, _, _, bc, rfl, hS1632, Or.inl ⟨⟨hR1635_, ?_, ?_⟩, rfl, ?_⟩⟩
        · exact (⟨⟨(show (0 : Int) ≤ 23 from by decide), (show (0 : Int) ≤ (f 15).toInt from by omega), (show 0 ≤ (f 20).toInt from by omega), (show 1 ≤ (f 37).toInt from by omega), (show 0 ≤ (f 32).toInt from by omega), (show (f 32).toInt ≤ y1595.toInt from by omega), (show y1595.toInt ≤ 48 from by omega), (show (f 37).toInt ≤ 2 * (y1595.toInt) + 2 from by omega), (show 0 ≤ (0 : Int) from by omega)⟩, ⟨⟨(show (0 : Int) ≤ 30 from by decide), (show (2 : Int) ≤ (f 15).toInt + 1 from by omega), (show 0 ≤ (f 20).toInt from by omega), (show 1 ≤ (f 37).toInt + 0 from by omega), (show 0 ≤ (f 32).toInt + 0 from by omega), (show (f 32).toInt + 0 ≤ y1595.toInt + 0 from by omega), (show y1595.toInt + 0 ≤ 48 from by omega), (show (f 37).toInt + 0 ≤ 2 * (y1595.toInt + 0) + 2 from by omega), trivial⟩, ⟨⟨(show (0 : Int) ≤ 28 from by decide), (show (1 : Int) ≤ (f 15).toInt + 1 + -1 from by omega), (show 0 ≤ (f 20).toInt from by omega), (show 1 ≤ (f 37).toInt + 0 + 0 from by omega), (show 0 ≤ (f 32).toInt + 0 + 0 from by omega), (show (f 32).toInt + 0 + 0 ≤ y1595.toInt + 0 + -1 from by omega), (show y1595.toInt + 0 + -1 ≤ 48 from by omega), (show (f 37).toInt + 0 + 0 ≤ 2 * (y1595.toInt + 0 + -1) + 2 from by omega), trivial⟩, mg_cast (mg_good_ext _ _ _ _ _ _ (fun i _ => by show g'1630 34 i = g 34 i; rw [show g'1630 34 = g'1621 34 from h1634_ 34 (by decide), show g'1621 34 = g'1612 34 from h1625_ 34 (by decide), show g'1612 34 = g'1582 34 from h1616_ 34 (by decide), show g'1582 34 = g 34 from h1590_ 34 (by decide)]) (fun i _ => by show g'1630 38 i = g 38 i; rw [show g'1630 38 = g'1621 38 from h1634_ 38 (by decide), show g'1621 38 = g'1612 38 from h1625_ 38 (by decide), show g'1612 38 = g'1582 38 from h1616_ 38 (by decide), show g'1582 38 = g 38 from h1590_ 38 (by decide)]) hrest) (by show (f 15).toInt + 0 = (f 15).toInt + 1 + -1 + 0; omega) (by show (f 20).toInt = (f 20).toInt; omega) (by show (f 37).toInt + 0 = (f 37).toInt + 0 + 0 + 0; omega) (by show (f 32).toInt + 0 = (f 32).toInt + 0 + 0 + 0; omega) (by show (f 5).toInt + 0 = y1595.toInt + 0 + -1 + 0; omega)⟩⟩⟩ : mg_good (g'1630 34) (g'1630 38) (((23 : Int), (0 : Int), (0 : Int), (0 : Int), []) :: (((30 : Int), (f 4).toInt, (0 : Int), (0 : Int), []) :: (((28 : Int), (0 : Int), (0 : Int), (0 : Int), []) :: gs))) ((f 15).toInt) ((f 20).toInt) ((f 37).toInt) ((f 32).toInt) (y1595.toInt))
        · exact ⟨(by show 0 ≤ z1594.toInt; omega), (by show z1594.toInt ≤ (f 0).toInt; omega), (by show (f 0).toInt ≤ 512; omega), (by show 0 ≤ (f 24).toInt; omega), (by show (f 24).toInt + (f 20).toInt + mg_p1 (((23 : Int), (0 : Int), (0 : Int), (0 : Int), []) :: (((30 : Int), (f 4).toInt, (0 : Int), (0 : Int), []) :: (((28 : Int), (0 : Int), (0 : Int), (0 : Int), []) :: gs))) ≤ 4 * z1594.toInt; omega), (by show (f 20).toInt ≤ z1594.toInt; omega), (by show (f 15).toInt + mg_p2 (((23 : Int), (0 : Int), (0 : Int), (0 : Int), []) :: (((30 : Int), (f 4).toInt, (0 : Int), (0 : Int), []) :: (((28 : Int), (0 : Int), (0 : Int), (0 : Int), []) :: gs))) ≤ z1594.toInt; omega), (by show mg_p3 (((23 : Int), (0 : Int), (0 : Int), (0 : Int), []) :: (((30 : Int), (f 4).toInt, (0 : Int), (0 : Int), []) :: (((28 : Int), (0 : Int), (0 : Int), (0 : Int), []) :: gs))) ≤ 20 * z1594.toInt + 20; omega), (by show 0 ≤ s1580.toInt; omega), (by show s1580.toInt + 3 * (f 20).toInt + mg_p4 (((23 : Int), (0 : Int), (0 : Int), (0 : Int), []) :: (((30 : Int), (f 4).toInt, (0 : Int), (0 : Int), []) :: (((28 : Int), (0 : Int), (0 : Int), (0 : Int), []) :: gs))) ≤ 60 * z1594.toInt + 60; omega), (by show 0 ≤ o1579.toInt; omega), (by show o1579.toInt + 64 * mj_n (g'1630 16) (f 15).toNatClampNeg 3 ≤ 64 * z1594.toInt; rw [show g'1630 16 = g'1621 16 from h1634_ 16 (by decide), show g'1621 16 = g'1612 16 from h1625_ 16 (by decide), show g'1612 16 = g'1582 16 from h1616_ 16 (by decide)]; omega), (by show 0 ≤ (f 44).toInt; omega), (by show (f 44).toInt ≤ z1594.toInt; omega), (by show 0 ≤ (f 48).toInt; omega), (by show (f 48).toInt ≤ z1594.toInt; omega), (by show 1 ≤ (f 53).toInt; omega), (by show (f 53).toInt ≤ z1594.toInt + 1; omega)⟩
        · show 100 * ((f 0).toInt - z1594.toInt) + mg_p3 (((23 : Int), (0 : Int), (0 : Int), (0 : Int), []) :: (((30 : Int), (f 4).toInt, (0 : Int), (0 : Int), []) :: (((28 : Int), (0 : Int), (0 : Int), (0 : Int), []) :: gs))) < 100 * ((f 0).toInt - (f 4).toInt) + (1 + mg_p3 gs); omega
      · subst hv1605
        replace hS1606 : MS S0 S1593 (upd (upd (upd (upd (upd (upd f 6 a1603) 7 b1604) 10 0) 62 o1579) 68 s1580) 75 m1581) g'1582 := hS1606
        show am_E _ _ _ _ [some (.ref 39), some (.int r2), some (.int (f 4)), none] [.int 0] _ _
        refine am_e12f hi_211_91 (by decide) ?_
        refine am_e35 hi_211_94 ?_
        show am_E _ _ _ _ [some (.ref 39), some (.int 28), some (.int on), some (.int tw)] [] _ _
        refine am_e18 hi_181_180 ?_
        refine am_e35 hi_181_397 ?_
        show am_E _ _ _ _ [some (.ref 39), some (.int 28), some (.int on), some (.int tw), some (.int th)] [] _ _
        refine am_e35 hi_180_13 ?_
        have hRc := rj_clear0 hR1591_
        refine ⟨_, _, [], _, rfl, hS1606, Or.inr ⟨hRc, rfl, (by show 0 ≤ (f 4).toInt; omega), (by show (f 4).toInt ≤ (f 0).toInt; omega), (by show 0 ≤ (f 32).toInt; omega), (by show (f 32).toInt ≤ 63; omega), (by show 1 ≤ (f 53).toInt; omega), (by show (f 53).toInt ≤ 600; omega), (by show 0 ≤ s1580.toInt; omega), (by show s1580.toInt ≤ 60000; omega), (by show 0 ≤ (f 48).toInt; omega), (by show (f 48).toInt ≤ 8000; omega), (by show 0 ≤ (f 37).toInt; omega), (by show (f 37).toInt ≤ 128; omega), (by show 0 ≤ o1579.toInt; omega), (by show o1579.toInt ≤ 65000; omega)⟩⟩
  · refine am_e13f hi_211_13 (am_cF (m := r2.toInt) (n := (70 : Int)) rfl (by decide) c7) ?_
    refine am_e2 (v := 39) hi_211_16 rfl ?_
    refine am_e32n (as := [.ref 39]) (la := [some (.ref 39), none, none, none]) (rest := []) hi_211_17 (am_hd0 (M := 211) (by decide) 17) (Nat.le_of_ble_eq_true rfl) (Nat.le_of_ble_eq_true rfl) (show 1 ≤ am_P0.2.2.1 204 from by decide +kernel) rfl (am_recv_ok hS4.fs) rfl rfl (ct_load (d := (d + 3)) hS4 hR  (by show (0 : Int) ≤ (f 32).toInt; omega) (by show (f 32).toInt ≤ (63 : Int); omega) (by show (f 53).toInt ≤ (4096 : Int); omega) (by show (0 : Int) ≤ (f 68).toInt; omega) (by show (f 68).toInt ≤ (65534 : Int); omega) (by show (1 : Int) ≤ (f 15).toInt; omega) (by show (f 15).toInt ≤ (32767 : Int); omega) (by show (0 : Int) ≤ (f 24).toInt; omega) (by show (f 24).toInt ≤ (16384 : Int); omega) (by show (0 : Int) ≤ (f 62).toInt; omega) (by show (f 62).toInt ≤ (65000 : Int); omega)) ?_
    rintro v1636 S1637 (⟨o1638, s1639, m1640, g'1641, hv1642, hS1643, hR1650, h1644, h1645, h1646, h1647, h1648, h1649⟩)
    subst hv1642
    have h1644_ : (f 62).toInt ≤ o1638.toInt := h1644
    have h1645_ : o1638.toInt ≤ (f 62).toInt + 64 := h1645
    have h1646_ : (f 68).toInt ≤ s1639.toInt := h1646
    have h1647_ : s1639.toInt ≤ (f 68).toInt + 1 := h1647
    have h1648_ : o1638.toInt + 64 * mj_n (g'1641 16) (f 15).toNatClampNeg 3 ≤ (f 62).toInt + 64 * mj_n (g 16) (f 15).toNatClampNeg 3 := h1648
    have h1649_ : ∀ j, j ∉ [16, 60, 63, 64, 65, 66, 67, 69, 70, 71, 72, 73] → g'1641 j = g j := h1649
    have hR1650_ : RJ (upd (upd (upd f 62 o1638) 68 s1639) 75 m1640) g'1641 gs bc [] 0 [] := hR1650
    show am_E _ _ _ _ [some (.ref 39), some (.int r2), some (.int (f 4)), none] [] _ _
    refine am_e2 (v := 39) hi_211_20 rfl ?_
    refine am_e7 hi_211_21 ?_
    refine mm_20 (v := .int (f 4)) hS1643 hi_211_22 rfl ?_
    refine am_e0 hi_211_25 ?_
    obtain ⟨z1651, hz1651, tz1651⟩ := am_addI (x := f 4) (y := 1) (m := (f 4).toInt) (n := (1 : Int)) rfl (by decide) (by omega) (by omega)
    refine am_e10 (z := z1651) hi_211_26 hz1651 ?_
    refine mm_21 (v := z1651) hS1643 hi_211_27 rfl (Nat.le_of_ble_eq_true rfl) ms_4 ?_
    intro S1652 hS1653
    replace hS1653 : MS S0 S1652 (upd (upd (upd (upd f 4 z1651) 62 o1638) 68 s1639) 75 m1640) g'1641 := hS1653
    have hR1654 : RJ (upd (upd (upd (upd f 4 z1651) 62 o1638) 68 s1639) 75 m1640) g'1641 gs bc [] 0 [] := RJ.at hR1650_ (by show (f 4).toInt ≤ z1651.toInt; omega)
    refine am_e2 (v := 39) hi_211_30 rfl ?_
    refine am_e0 hi_211_31 ?_
    refine am_e32n (as := [.ref 39, .int 1]) (la := [some (.ref 39), some (.int 1)]) (rest := []) hi_211_32 (am_hd0 (M := 211) (by decide) 32) (Nat.le_of_ble_eq_true rfl) (Nat.le_of_ble_eq_true rfl) (show 2 ≤ am_P0.2.2.1 200 from by decide +kernel) rfl (am_recv_ok hS1653.fs) rfl rfl (ct_take (d := (d + 3)) hS1653   (by show (0 : Int) ≤ z1651.toInt; omega) (by show (f 0).toInt ≤ (16384 : Int); omega) (by show (0 : Int) ≤ (1 : Int); omega)) ?_
    rintro v1655 S1656 (⟨z1657, hv1658, hS1659, h1660, h1661⟩ | ⟨a1663, b1664, hv1665, hS1666⟩)
    · subst hv1658
      have h1660_ : z1657.toInt = z1651.toInt + 1 := h1660
      have h1661_ : z1651.toInt < (f 0).toInt := h1661
      replace hS1659 : MS S0 S1656 (upd (upd (upd (upd f 4 z1657) 62 o1638) 68 s1639) 75 m1640) g'1641 := hS1659
      have hR1668 : RJ (upd (upd (upd (upd f 4 z1657) 62 o1638) 68 s1639) 75 m1640) g'1641 gs bc [] 0 [] := RJ.at hR1654 (by show z1651.toInt ≤ z1657.toInt; omega)
      show am_E _ _ _ _ [some (.ref 39), some (.int r2), some (.int (f 4)), none] [.int 1] _ _
      refine am_e12t hi_211_35 (by decide) ?_
      refine am_e2 (v := 39) hi_211_39 rfl ?_
      refine am_e7 hi_211_40 ?_
      refine mm_20 (v := .int (f 15)) hS1659 hi_211_41 rfl ?_
      refine am_e0 hi_211_44 ?_
      obtain ⟨z1669, hz1669, tz1669⟩ := am_subI (x := f 15) (y := 1) (m := (f 15).toInt) (n := (1 : Int)) rfl (by decide) (by omega) (by omega)
      refine am_e10 (z := z1669) hi_211_45 hz1669 ?_
      refine mm_21 (v := z1669) hS1659 hi_211_46 rfl (Nat.le_of_ble_eq_true rfl) ms_15 ?_
      intro S1670 hS1671
      replace hS1671 : MS S0 S1670 (upd (upd (upd (upd (upd f 4 z1657) 15 z1669) 62 o1638) 68 s1639) 75 m1640) g'1641 := hS1671
      have hp1672 : mj_n (g'1641 16) (f 15).toNatClampNeg 3 = mj_n (g'1641 16) z1669.toNatClampNeg 3 + if (g'1641 16 z1669.toNatClampNeg).toInt = 3 then 1 else 0 := mj_pop (by rw [cl_toNat, cl_toNat]; omega)
      have hp16721 : mj_n (g'1641 16) z1669.toNatClampNeg 3 ≤ mj_n (g'1641 16) (f 15).toNatClampNeg 3 := by rw [hp1672]; split <;> omega
      have hp16722 : (g'1641 16 z1669.toNatClampNeg).toInt = 3 → mj_n (g'1641 16) z1669.toNatClampNeg 3 + 1 ≤ mj_n (g'1641 16) (f 15).toNatClampNeg 3 := fun q => by rw [hp1672, if_pos q]; exact Int.le_refl _
      refine am_e2 (v := 39) hi_211_49 rfl ?_
      refine am_e0 hi_211_50 ?_
      refine am_e2 (v := 39) hi_211_51 rfl ?_
      refine mm_20 (v := .ref 41) hS1671 hi_211_52 rfl ?_
      refine am_e1 (v := f 4) hi_211_55 rfl ?_
      refine am_e0 hi_211_56 ?_
      refine am_e10 (z := z1651) hi_211_57 hz1651 ?_
      refine mm_25 hS1671 ma_2 hi_211_58 (by decide) (by omega) (by omega) ?_
      show am_E _ _ _ _ _ (.int (g'1641 2 z1651.toNatClampNeg) :: _) _ _
      rw [show g'1641 2 = g 2 from h1649_ 2 (by decide)]
      show am_E _ _ _ _ [some (.ref 39), some (.int r2), some (.int (f 4)), none] [.int (g 2 z1651.toNatClampNeg), .int 5, .ref 39] _ _
      refine am_e1 (v := f 4) hi_211_59 rfl ?_
      refine am_e32n (as := [.ref 39, .int 5, .int (g 2 z1651.toNatClampNeg), .int (f 4)]) (la := [some (.ref 39), some (.int 5), some (.int (g 2 z1651.toNatClampNeg)), some (.int (f 4))]) (rest := []) hi_211_60 (am_hd0 (M := 211) (by decide) 60) (Nat.le_of_ble_eq_true rfl) (Nat.le_of_ble_eq_true rfl) (show 4 ≤ am_P0.2.2.1 190 from by decide +kernel) rfl (am_recv_ok hS1671.fs) rfl rfl (ct_value (d := (d + 5)) hS1671 hR1668 (fun h => absurd h (by decide)) (fun h => absurd h (by decide)) (by show (0 : Int) ≤ z1669.toInt; omega) (by show z1669.toInt ≤ (32767 : Int); omega)) ?_
      rintro v1673 S1674 (⟨z1675, g'1676, hv1677, hS1678, hR1683, h1679, h1680, h1681, h1682⟩)
      subst hv1677
      have h1679_ : z1675.toInt = z1669.toInt + 1 := h1679
      have h1680_ : ∀ j, j ∉ [16, 17, 18] → g'1676 j = g'1641 j := h1680
      have h1681_ : mj_n (g'1676 16) z1675.toNatClampNeg 3 ≤ mj_n (g'1641 16) z1669.toNatClampNeg 3 + 1 := h1681
      have h1682_ : (5 : Int) = 3 ∨ mj_n (g'1676 16) z1675.toNatClampNeg 3 ≤ mj_n (g'1641 16) z1669.toNatClampNeg 3 := h1682
      replace hS1678 : MS S0 S1674 (upd (upd (upd (upd (upd f 4 z1657) 15 z1675) 62 o1638) 68 s1639) 75 m1640) g'1676 := hS1678
      have hR1683_ : RJ (upd (upd (upd (upd (upd f 4 z1657) 15 z1675) 62 o1638) 68 s1639) 75 m1640) g'1676 gs bc [] 0 [] := hR1683
      show am_E _ _ _ _ [some (.ref 39), some (.int r2), some (.int (f 4)), none] [] _ _
      refine am_e2 (v := 39) hi_211_63 rfl ?_
      refine am_e0 hi_211_64 ?_
      refine am_e0 hi_211_66 ?_
      refine am_e0 hi_211_67 ?_
      refine am_e0 hi_211_68 ?_
      refine am_e32n (as := [.ref 39, .int 28, .int 0, .int 0, .int 0]) (la := [some (.ref 39), some (.int 28), some (.int 0), some (.int 0), some (.int 0)]) (rest := []) hi_211_69 (am_hd0 (M := 211) (by decide) 69) (Nat.le_of_ble_eq_true rfl) (Nat.le_of_ble_eq_true rfl) (show 5 ≤ am_P0.2.2.1 179 from by decide +kernel) rfl (am_recv_ok hS1678.fs) rfl rfl (ct_pile (d := (d + 5)) hS1678 hR1683_ (mj_e_plain (by decide)) (by show (0 : Int) ≤ (f 10).toInt; omega) (by show (f 10).toInt ≤ (65535 : Int); omega)) ?_
      rintro v1684 S1685 (⟨z1686, g'1687, hv1688, hS1689, hR1692, h1690, h1691⟩)
      subst hv1688
      have h1690_ : z1686.toInt = (f 10).toInt + 1 := h1690
      have h1691_ : ∀ j, j ∉ [11, 12, 13, 14] → g'1687 j = g'1676 j := h1691
      replace hS1689 : MS S0 S1685 (upd (upd (upd (upd (upd (upd f 4 z1657) 10 z1686) 15 z1675) 62 o1638) 68 s1639) 75 m1640) g'1687 := hS1689
      have hR1692_ : RJ (upd (upd (upd (upd (upd (upd f 4 z1657) 10 z1686) 15 z1675) 62 o1638) 68 s1639) 75 m1640) g'1687 (((28 : Int), (0 : Int), (0 : Int), (0 : Int), []) :: gs) bc [] 0 [] := hR1692
      show am_E _ _ _ _ [some (.ref 39), some (.int r2), some (.int (f 4)), none] [] _ _
      refine am_e18 hi_211_72 ?_
      refine am_e35 hi_211_249 ?_
      show am_E _ _ _ _ [some (.ref 39), some (.int 28), some (.int on), some (.int tw)] [] _ _
      refine am_e18 hi_181_180 ?_
      refine am_e35 hi_181_397 ?_
      show am_E _ _ _ _ [some (.ref 39), some (.int 28), some (.int on), some (.int tw), some (.int th)] [] _ _
      refine am_e35 hi_180_13 ?_
      have q1 : mg_p1 (((28 : Int), (0 : Int), (0 : Int), (0 : Int), []) :: gs) = 0 + (mg_p1 gs) := rfl
      have q2 : mg_p2 (((28 : Int), (0 : Int), (0 : Int), (0 : Int), []) :: gs) = 0 + (mg_p2 gs) := rfl
      have q3 : mg_p3 (((28 : Int), (0 : Int), (0 : Int), (0 : Int), []) :: gs) = 1 + (mg_p3 gs) := rfl
      have q4 : mg_p4 (((28 : Int), (0 : Int), (0 : Int), (0 : Int), []) :: gs) = 0 + (mg_p4 gs) := rfl
      refine ⟨_, _, _, bc, rfl, hS1689, Or.inl ⟨⟨hR1692_, ?_, ?_⟩, rfl, ?_⟩⟩
      · exact (⟨⟨(show (0 : Int) ≤ 28 from by decide), (show (1 : Int) ≤ z1675.toInt from by omega), (show 0 ≤ (f 20).toInt from by omega), (show 1 ≤ (f 37).toInt from by omega), (show 0 ≤ (f 32).toInt from by omega), (show (f 32).toInt ≤ (f 5).toInt from by omega), (show (f 5).toInt ≤ 48 from by omega), (show (f 37).toInt ≤ 2 * ((f 5).toInt) + 2 from by omega), trivial⟩, mg_cast (mg_good_ext _ _ _ _ _ _ (fun i _ => by show g'1687 34 i = g 34 i; rw [show g'1687 34 = g'1676 34 from h1691_ 34 (by decide), show g'1676 34 = g'1641 34 from h1680_ 34 (by decide), show g'1641 34 = g 34 from h1649_ 34 (by decide)]) (fun i _ => by show g'1687 38 i = g 38 i; rw [show g'1687 38 = g'1676 38 from h1691_ 38 (by decide), show g'1676 38 = g'1641 38 from h1680_ 38 (by decide), show g'1641 38 = g 38 from h1649_ 38 (by decide)]) hrest) (by show (f 15).toInt + 0 = z1675.toInt + 0; omega) (by show (f 20).toInt = (f 20).toInt; omega) (by show (f 37).toInt + 0 = (f 37).toInt + 0; omega) (by show (f 32).toInt + 0 = (f 32).toInt + 0; omega) (by show (f 5).toInt + 0 = (f 5).toInt + 0; omega)⟩ : mg_good (g'1687 34) (g'1687 38) (((28 : Int), (0 : Int), (0 : Int), (0 : Int), []) :: gs) (z1675.toInt) ((f 20).toInt) ((f 37).toInt) ((f 32).toInt) ((f 5).toInt))
      · exact ⟨(by show 0 ≤ z1657.toInt; omega), (by show z1657.toInt ≤ (f 0).toInt; omega), (by show (f 0).toInt ≤ 512; omega), (by show 0 ≤ (f 24).toInt; omega), (by show (f 24).toInt + (f 20).toInt + mg_p1 (((28 : Int), (0 : Int), (0 : Int), (0 : Int), []) :: gs) ≤ 4 * z1657.toInt; omega), (by show (f 20).toInt ≤ z1657.toInt; omega), (by show z1675.toInt + mg_p2 (((28 : Int), (0 : Int), (0 : Int), (0 : Int), []) :: gs) ≤ z1657.toInt; omega), (by show mg_p3 (((28 : Int), (0 : Int), (0 : Int), (0 : Int), []) :: gs) ≤ 20 * z1657.toInt + 20; omega), (by show 0 ≤ s1639.toInt; omega), (by show s1639.toInt + 3 * (f 20).toInt + mg_p4 (((28 : Int), (0 : Int), (0 : Int), (0 : Int), []) :: gs) ≤ 60 * z1657.toInt + 60; omega), (by show 0 ≤ o1638.toInt; omega), (by show o1638.toInt + 64 * mj_n (g'1687 16) z1675.toNatClampNeg 3 ≤ 64 * z1657.toInt; rw [show g'1687 16 = g'1676 16 from h1691_ 16 (by decide)]; omega), (by show 0 ≤ (f 44).toInt; omega), (by show (f 44).toInt ≤ z1657.toInt; omega), (by show 0 ≤ (f 48).toInt; omega), (by show (f 48).toInt ≤ z1657.toInt; omega), (by show 1 ≤ (f 53).toInt; omega), (by show (f 53).toInt ≤ z1657.toInt + 1; omega)⟩
      · show 100 * ((f 0).toInt - z1657.toInt) + mg_p3 (((28 : Int), (0 : Int), (0 : Int), (0 : Int), []) :: gs) < 100 * ((f 0).toInt - (f 4).toInt) + (1 + mg_p3 gs); omega
    · subst hv1665
      replace hS1666 : MS S0 S1656 (upd (upd (upd (upd (upd (upd (upd f 4 z1651) 6 a1663) 7 b1664) 10 0) 62 o1638) 68 s1639) 75 m1640) g'1641 := hS1666
      show am_E _ _ _ _ [some (.ref 39), some (.int r2), some (.int (f 4)), none] [.int 0] _ _
      refine am_e12f hi_211_35 (by decide) ?_
      refine am_e35 hi_211_38 ?_
      show am_E _ _ _ _ [some (.ref 39), some (.int 28), some (.int on), some (.int tw)] [] _ _
      refine am_e18 hi_181_180 ?_
      refine am_e35 hi_181_397 ?_
      show am_E _ _ _ _ [some (.ref 39), some (.int 28), some (.int on), some (.int tw), some (.int th)] [] _ _
      refine am_e35 hi_180_13 ?_
      have hRc := rj_clear0 hR1654
      refine ⟨_, _, [], _, rfl, hS1666, Or.inr ⟨hRc, rfl, (by show 0 ≤ z1651.toInt; omega), (by show z1651.toInt ≤ (f 0).toInt; omega), (by show 0 ≤ (f 32).toInt; omega), (by show (f 32).toInt ≤ 63; omega), (by show 1 ≤ (f 53).toInt; omega), (by show (f 53).toInt ≤ 600; omega), (by show 0 ≤ s1639.toInt; omega), (by show s1639.toInt ≤ 60000; omega), (by show 0 ≤ (f 48).toInt; omega), (by show (f 48).toInt ≤ 8000; omega), (by show 0 ≤ (f 37).toInt; omega), (by show (f 37).toInt ≤ 128; omega), (by show 0 ≤ o1638.toInt; omega), (by show o1638.toInt ≤ 65000; omega)⟩⟩
