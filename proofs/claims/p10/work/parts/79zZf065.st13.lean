/-! STEPS: loops over numbers begun (printed by wip/p2/st2.py) -/
set_option maxHeartbeats 16000000 in
theorem st_11 {sc : Nat × (Nat → Int32)} {d : Nat} {S0 S : am_S} {f : Nat → Int32} {g : Nat → Nat → Int32} {on : Int32} {tw : Int32} {th : Int32} {gs : List mg_E} {bc : List (List Nat)} (hS : MS S0 S f g) (hR : RJ f g gs bc [] 0 []) (hrest : mg_good (g 34) (g 38) (g 23) gs ((f 15).toInt + -1) ((f 20).toInt) ((f 37).toInt + 0) ((f 32).toInt + 0) ((f 5).toInt + 0)) (p0 : 0 ≤ (f 4).toInt) (p1 : (f 4).toInt ≤ (f 0).toInt) (p2 : (f 0).toInt ≤ 512) (p3 : 0 ≤ (f 24).toInt) (p4 : (f 24).toInt + (f 20).toInt + mg_p1 gs ≤ 4 * (f 4).toInt) (p5 : (f 20).toInt ≤ (f 4).toInt) (p6 : (f 15).toInt + 0 + mg_p2 gs ≤ (f 4).toInt) (p7 : 1 + mg_p3 gs ≤ 20 * (f 4).toInt + 20) (p8 : 0 ≤ (f 68).toInt) (p9 : (f 68).toInt + 3 * (f 20).toInt + 0 + mg_p4 gs ≤ 60 * (f 4).toInt + 60) (p10 : 0 ≤ (f 62).toInt) (p11 : (f 62).toInt + 64 * mj_n (g 16) (f 15).toNatClampNeg 3 ≤ 64 * (f 4).toInt) (p12 : 0 ≤ (f 44).toInt) (p13 : (f 44).toInt ≤ (f 4).toInt) (p14 : 0 ≤ (f 48).toInt) (p15 : (f 48).toInt ≤ (f 4).toInt) (p16 : 1 ≤ (f 53).toInt) (p17 : (f 53).toInt ≤ (f 4).toInt + 1) (p18 : 0 ≤ (f 19).toInt) (p19 : (f 19).toInt ≤ 600) (p20 : 0 ≤ (f 6).toInt) (p21 : 0 ≤ (f 8).toInt) (p22 : 0 ≤ mg_p1 gs) (p23 : 0 ≤ mg_p2 gs) (p24 : 0 ≤ mg_p4 gs) (p25 : 0 ≤ (f 10).toInt) (p26 : (f 10).toInt ≤ mg_p3 gs) (p27 : 0 ≤ mj_n (g 16) (f 15).toNatClampNeg 3) (p28 : 1 ≤ (f 15).toInt) (p29 : 0 ≤ (f 20).toInt) (p30 : 1 ≤ (f 37).toInt) (p31 : 0 ≤ (f 32).toInt) (p32 : (f 32).toInt ≤ (f 5).toInt) (p33 : (f 5).toInt ≤ 48) (p34 : (f 37).toInt ≤ 2 * (f 5).toInt + 1) (p35 : 0 ≤ on.toInt) (p36 : on.toInt ≤ 16000) : am_E (am_PP sc) (d + 8) 180 0 [some (.ref 39), some (.int 11), some (.int on), some (.int tw), some (.int th)] [] S (am_N fun v S1 => ∃ (f' : Nat → Int32) (g' : Nat → Nat → Int32) (gs' : List mg_E) (bc' : List (List Nat)), v = none ∧ MS S0 S1 f' g' ∧ (mg_on f (100 * ((f 0).toInt - (f 4).toInt) + (1 + mg_p3 gs)) f' g' gs' bc' ∨ mg_off f f' g' bc')) := by
  have hbs := mg_basic hrest
  refine am_e1 (v := 11) hi_180_0 rfl ?_
  refine am_e0 hi_180_1 ?_
  refine am_e13t hi_180_3 (by decide) ?_
  refine am_e1 (v := 11) hi_180_14 rfl ?_
  refine am_e19 (t := 231) hi_180_15 (by decide) ?_
  refine am_e2 (v := 39) hi_180_231 rfl ?_
  refine am_e1 (v := on) hi_180_232 rfl ?_
  refine am_e32w (as := [.ref 39, .int on]) (la := [some (.ref 39), some (.int on)]) (rest := []) hi_180_233 (am_hd0 (M := 180) (by decide) 233) (Nat.le_of_ble_eq_true rfl) (Nat.le_of_ble_eq_true rfl) (show 2 ≤ am_P0.2.2.1 252 from by decide +kernel) rfl (am_recv_ok hS.fs) rfl rfl ?_
  refine am_e2 (v := 39) hi_252_0 rfl ?_
  refine am_e32w (as := [.ref 39]) (la := [some (.ref 39)]) (rest := []) hi_252_1 (am_hd0 (M := 252) (by decide) 1) (Nat.le_of_ble_eq_true rfl) (Nat.le_of_ble_eq_true rfl) (show 1 ≤ am_P0.2.2.1 209 from by decide +kernel) rfl (am_recv_ok hS.fs) rfl rfl ?_
  refine am_e2 (v := 39) hi_209_0 rfl ?_
  refine am_e32n (as := [.ref 39]) (la := [some (.ref 39), none, none, none]) (rest := []) hi_209_1 (am_hd0 (M := 209) (by decide) 1) (Nat.le_of_ble_eq_true rfl) (Nat.le_of_ble_eq_true rfl) (show 1 ≤ am_P0.2.2.1 204 from by decide +kernel) rfl (am_recv_ok hS.fs) rfl rfl (ct_load (d := (d + 3)) hS hR  (by show (0 : Int) ≤ (f 32).toInt; omega) (by show (f 32).toInt ≤ (63 : Int); omega) (by show (f 53).toInt ≤ (4096 : Int); omega) (by show (0 : Int) ≤ (f 68).toInt; omega) (by show (f 68).toInt ≤ (65534 : Int); omega) (by show (1 : Int) ≤ (f 15).toInt; omega) (by show (f 15).toInt ≤ (32767 : Int); omega) (by show (0 : Int) ≤ (f 24).toInt; omega) (by show (f 24).toInt ≤ (16384 : Int); omega) (by show (0 : Int) ≤ (f 62).toInt; omega) (by show (f 62).toInt ≤ (65000 : Int); omega)) ?_
  rintro v0 S1 (⟨o2, s3, m4, g'5, hv6, hS7, hR14, h8, h9, h10, h11, h12, h13⟩)
  subst hv6
  have h8_ : (f 62).toInt ≤ o2.toInt := h8
  have h9_ : o2.toInt ≤ (f 62).toInt + 64 := h9
  have h10_ : (f 68).toInt ≤ s3.toInt := h10
  have h11_ : s3.toInt ≤ (f 68).toInt + 1 := h11
  have h12_ : o2.toInt + 64 * mj_n (g'5 16) (f 15).toNatClampNeg 3 ≤ (f 62).toInt + 64 * mj_n (g 16) (f 15).toNatClampNeg 3 := h12
  have h13_ : ∀ j, j ∉ [16, 60, 63, 64, 65, 66, 67, 69, 70, 71, 72, 73] → g'5 j = g j := h13
  have hR14_ : RJ (upd (upd (upd f 62 o2) 68 s3) 75 m4) g'5 gs bc [] 0 [] := hR14
  show am_E _ _ _ _ [some (.ref 39)] [] _ _
  refine am_e2 (v := 39) hi_209_4 rfl ?_
  refine am_e7 hi_209_5 ?_
  refine mm_20 (v := .int (f 15)) hS7 hi_209_6 rfl ?_
  refine am_e0 hi_209_9 ?_
  obtain ⟨z15, hz15, tz15⟩ := am_subI (x := f 15) (y := 1) (m := (f 15).toInt) (n := (1 : Int)) rfl (by decide) (by omega) (by omega)
  refine am_e10 (z := z15) hi_209_10 hz15 ?_
  refine mm_21 (v := z15) hS7 hi_209_11 rfl (Nat.le_of_ble_eq_true rfl) ms_15 ?_
  intro S16 hS17
  replace hS17 : MS S0 S16 (upd (upd (upd (upd f 15 z15) 62 o2) 68 s3) 75 m4) g'5 := hS17
  have hp18 : mj_n (g'5 16) (f 15).toNatClampNeg 3 = mj_n (g'5 16) z15.toNatClampNeg 3 + if (g'5 16 z15.toNatClampNeg).toInt = 3 then 1 else 0 := mj_pop (by rw [cl_toNat, cl_toNat]; omega)
  have hp181 : mj_n (g'5 16) z15.toNatClampNeg 3 ≤ mj_n (g'5 16) (f 15).toNatClampNeg 3 := by rw [hp18]; split <;> omega
  have hp182 : (g'5 16 z15.toNatClampNeg).toInt = 3 → mj_n (g'5 16) z15.toNatClampNeg 3 + 1 ≤ mj_n (g'5 16) (f 15).toNatClampNeg 3 := fun q => by rw [hp18, if_pos q]; exact Int.le_refl _
  refine am_e35 hi_209_14 ?_
  show am_E _ _ _ _ [some (.ref 39), some (.int on)] [] _ _
  refine am_e2 (v := 39) hi_252_4 rfl ?_
  refine am_e32n (as := [.ref 39]) (la := [some (.ref 39)]) (rest := []) hi_252_5 (am_hd0 (M := 252) (by decide) 5) (Nat.le_of_ble_eq_true rfl) (Nat.le_of_ble_eq_true rfl) (show 1 ≤ am_P0.2.2.1 183 from by decide +kernel) rfl (am_recv_ok hS17.fs) rfl rfl (ct_next (d := (d + 5)) hS17   (by show (0 : Int) ≤ (f 4).toInt; omega) (by show (f 0).toInt ≤ (16384 : Int); omega)) ?_
  rintro v19 S20 (⟨r21, hv22, hS23, h24⟩)
  subst hv22
  have h24_ : (f 4).toInt < (f 0).toInt ∨ r21.toInt = (-1 : Int) := h24
  show am_E _ _ _ _ [some (.ref 39), some (.int on)] [.int r21] _ _
  refine am_e0 hi_252_8 ?_
  by_cases c26 : ¬ r21.toInt = (69 : Int)
  · refine am_e13t hi_252_10 (am_cT (m := r21.toInt) (n := (69 : Int)) rfl (by decide) c26) ?_
    refine am_e2 (v := 39) hi_252_40 rfl ?_
    refine am_e0 hi_252_41 ?_
    refine am_e0 hi_252_42 ?_
    refine am_e0 hi_252_44 ?_
    refine am_e0 hi_252_45 ?_
    refine am_e32n (as := [.ref 39, .int 4, .int (-4), .int 0, .int 0]) (la := [some (.ref 39), some (.int 4), some (.int (-4)), some (.int 0), some (.int 0)]) (rest := []) hi_252_46 (am_hd0 (M := 252) (by decide) 46) (Nat.le_of_ble_eq_true rfl) (Nat.le_of_ble_eq_true rfl) (show 5 ≤ am_P0.2.2.1 189 from by decide +kernel) rfl (am_recv_ok hS23.fs) rfl rfl (ct_put (d := (d + 6)) hS23 hR14_  (by show (0 : Int) ≤ (f 32).toInt; omega) (by show (f 32).toInt ≤ (63 : Int); omega) (by show (f 53).toInt ≤ (4096 : Int); omega) (by show (0 : Int) ≤ s3.toInt; omega) (by show s3.toInt ≤ (65534 : Int); omega)) ?_
    rintro v27 S28 (⟨z29, r30, g'31, hv32, hS33, hR37, h34, h35, h36⟩)
    subst hv32
    have h34_ : z29.toInt = s3.toInt + 1 := h34
    have h35_ : r30.toInt = s3.toInt := h35
    have h36_ : ∀ j, j ∉ [60, 69, 70, 71, 72, 73] → g'31 j = g'5 j := h36
    replace hS33 : MS S0 S28 (upd (upd (upd (upd f 15 z15) 62 o2) 68 z29) 75 m4) g'31 := hS33
    have hR37_ : RJ (upd (upd (upd (upd f 15 z15) 62 o2) 68 z29) 75 m4) g'31 gs bc [] 0 (s3.toNatClampNeg :: []) := hR37
    show am_E _ _ _ _ [some (.ref 39), some (.int on)] [.int r30] _ _
    refine am_e6i hi_252_49 ?_
    refine am_e2 (v := 39) hi_252_50 rfl ?_
    refine am_e1 (v := on) hi_252_51 rfl ?_
    refine am_e32w (as := [.ref 39, .int on]) (la := [some (.ref 39), some (.int on), none, none, none]) (rest := []) hi_252_52 (am_hd0 (M := 252) (by decide) 52) (Nat.le_of_ble_eq_true rfl) (Nat.le_of_ble_eq_true rfl) (show 2 ≤ am_P0.2.2.1 253 from by decide +kernel) rfl (am_recv_ok hS33.fs) rfl rfl ?_
    refine am_e2 (v := 39) hi_253_0 rfl ?_
    refine am_e0 hi_253_1 ?_
    refine am_e32n (as := [.ref 39, .int 12]) (la := [some (.ref 39), some (.int 12)]) (rest := []) hi_253_3 (am_hd0 (M := 253) (by decide) 3) (Nat.le_of_ble_eq_true rfl) (Nat.le_of_ble_eq_true rfl) (show 2 ≤ am_P0.2.2.1 193 from by decide +kernel) rfl (am_recv_ok hS33.fs) rfl rfl (ct_enter (d := (d + 3)) hS33   (by show (0 : Int) ≤ (f 4).toInt; omega) (by show (f 0).toInt ≤ (16384 : Int); omega) (by show (0 : Int) ≤ (12 : Int); omega) (by show (0 : Int) ≤ (f 5).toInt; omega) (by show (f 5).toInt ≤ (48 : Int); omega) (by show (0 : Int) ≤ (f 6).toInt; omega)) ?_
    rintro v38 S39 (⟨z40, y41, hv42, hS43, h44, h45, h46, h47⟩ | ⟨a49, b50, hv51, hS52, h53⟩)
    · subst hv42
      have h44_ : z40.toInt = (f 4).toInt + 1 := h44
      have h45_ : (f 4).toInt < (f 0).toInt := h45
      have h46_ : y41.toInt = (f 5).toInt + 1 := h46
      have h47_ : y41.toInt ≤ (48 : Int) := h47
      replace hS43 : MS S0 S39 (upd (upd (upd (upd (upd (upd f 4 z40) 5 y41) 15 z15) 62 o2) 68 z29) 75 m4) g'31 := hS43
      have hR55 : RJ (upd (upd (upd (upd (upd (upd f 4 z40) 5 y41) 15 z15) 62 o2) 68 z29) 75 m4) g'31 gs bc [] 0 (s3.toNatClampNeg :: []) := RJ.at hR37_ (by show (f 4).toInt ≤ z40.toInt; omega)
      show am_E _ _ _ _ [some (.ref 39), some (.int on), none, none, none] [.int 1] _ _
      refine am_e12t hi_253_6 (by decide) ?_
      refine am_e2 (v := 39) hi_253_10 rfl ?_
      refine am_e32w (as := [.ref 39]) (la := [some (.ref 39)]) (rest := []) hi_253_11 (am_hd0 (M := 253) (by decide) 11) (Nat.le_of_ble_eq_true rfl) (Nat.le_of_ble_eq_true rfl) (show 1 ≤ am_P0.2.2.1 197 from by decide +kernel) rfl (am_recv_ok hS43.fs) rfl rfl ?_
      refine am_e2 (v := 39) hi_197_0 rfl ?_
      refine mm_20 (v := .int (f 24)) hS43 hi_197_1 rfl ?_
      refine am_e2 (v := 39) hi_197_4 rfl ?_
      refine mm_20 (v := .ref 59) hS43 hi_197_5 rfl ?_
      refine am_e2 (v := 39) hi_197_8 rfl ?_
      refine mm_20 (v := .int (f 32)) hS43 hi_197_9 rfl ?_
      refine mm_25 hS43 ma_34 hi_197_12 (by decide) (by omega) (by omega) ?_
      show am_E _ _ _ _ _ (.int (g'31 34 (f 32).toNatClampNeg) :: _) _ _
      rw [show g'31 34 = g'5 34 from h36_ 34 (by decide), show g'5 34 = g 34 from h13_ 34 (by decide)]
      show am_E _ _ _ _ [some (.ref 39)] [.int (g 34 (f 32).toNatClampNeg), .int (f 24)] _ _
      have r56 : 0 ≤ (g 34 (f 32).toNatClampNeg).toInt := by
        have h := RJ.ba hR55 (f 32).toNatClampNeg
        rw [show g'31 34 = g'5 34 from h36_ 34 (by decide), show g'5 34 = g 34 from h13_ 34 (by decide)] at h
        exact h
      have r57 : (g 34 (f 32).toNatClampNeg).toInt ≤ 2147483647 := i32_le _
      obtain ⟨z58, hz58, tz58⟩ := am_subI (x := f 24) (y := g 34 (f 32).toNatClampNeg) (m := (f 24).toInt) (n := (g 34 (f 32).toNatClampNeg).toInt) rfl rfl (by omega) (by omega)
      refine am_e10 (z := z58) hi_197_13 hz58 ?_
      refine am_e33 hi_197_14 ?_
      show am_E _ _ _ _ [some (.ref 39), some (.int on), none, none, none] [.int z58] _ _
      refine am_e3 (ls' := [some (.ref 39), some (.int on), some (.int z58), none, none]) hi_253_14 (Nat.le_of_ble_eq_true rfl) rfl ?_
      refine am_e2 (v := 39) hi_253_15 rfl ?_
      refine am_e0 hi_253_16 ?_
      refine am_e0 hi_253_17 ?_
      refine am_e1 (v := on) hi_253_18 rfl ?_
      refine am_e32n (as := [.ref 39, .int 3, .int 0, .int on]) (la := [some (.ref 39), some (.int 3), some (.int 0), some (.int on), none]) (rest := []) hi_253_19 (am_hd0 (M := 253) (by decide) 19) (Nat.le_of_ble_eq_true rfl) (Nat.le_of_ble_eq_true rfl) (show 4 ≤ am_P0.2.2.1 254 from by decide +kernel) rfl (am_recv_ok hS43.fs) rfl rfl (ct_hide (d := (d + 3)) hS43 hR55 (by decide)  (by show (0 : Int) ≤ (f 32).toInt; omega) (by show (f 32).toInt ≤ (63 : Int); omega) (by show (f 53).toInt ≤ (4096 : Int); omega) (by show (0 : Int) ≤ (f 24).toInt; omega) (by show (f 24).toInt ≤ (16000 : Int); omega) (by show (0 : Int) ≤ (3 : Int); omega) (by show (3 : Int) ≤ (16 : Int); omega) (by show (0 : Int) ≤ (f 8).toInt; omega)) ?_
      rintro v59 S60 (⟨a61, b62, l63, y64, g'65, hv66, hS67, hR71, h68, h69, h70⟩)
      subst hv66
      have h68_ : l63.toInt = (f 24).toInt + (3 : Int) := h68
      have h69_ : ∀ j, j ∉ [25, 26, 27, 28, 29, 30, 58] → g'65 j = g'31 j := h69
      have h70_ : (0 : Int) ≤ a61.toInt := h70
      replace hS67 : MS S0 S60 (upd (upd (upd (upd (upd (upd (upd (upd (upd (upd f 4 z40) 5 y41) 8 a61) 9 b62) 15 z15) 24 l63) 31 y64) 62 o2) 68 z29) 75 m4) g'65 := hS67
      have hR71_ : RJ (upd (upd (upd (upd (upd (upd (upd (upd (upd (upd f 4 z40) 5 y41) 8 a61) 9 b62) 15 z15) 24 l63) 31 y64) 62 o2) 68 z29) 75 m4) g'65 gs bc [] 0 (s3.toNatClampNeg :: []) := hR71
      show am_E _ _ _ _ [some (.ref 39), some (.int on), some (.int z58), none, none] [] _ _
      refine am_e2 (v := 39) hi_253_22 rfl ?_
      refine am_e0 hi_253_23 ?_
      refine am_e1 (v := z58) hi_253_25 rfl ?_
      refine am_e0 hi_253_26 ?_
      refine am_e1 (v := on) hi_253_27 rfl ?_
      refine am_e32n (as := [.ref 39, .int 38, .int z58, .int 0, .int on]) (la := [some (.ref 39), some (.int 38), some (.int z58), some (.int 0), some (.int on)]) (rest := []) hi_253_28 (am_hd0 (M := 253) (by decide) 28) (Nat.le_of_ble_eq_true rfl) (Nat.le_of_ble_eq_true rfl) (show 5 ≤ am_P0.2.2.1 189 from by decide +kernel) rfl (am_recv_ok hS67.fs) rfl rfl (ct_put (d := (d + 5)) hS67 hR71_  (by show (0 : Int) ≤ (f 32).toInt; omega) (by show (f 32).toInt ≤ (63 : Int); omega) (by show (f 53).toInt ≤ (4096 : Int); omega) (by show (0 : Int) ≤ z29.toInt; omega) (by show z29.toInt ≤ (65534 : Int); omega)) ?_
      rintro v72 S73 (⟨z74, r75, g'76, hv77, hS78, hR82, h79, h80, h81⟩)
      subst hv77
      have h79_ : z74.toInt = z29.toInt + 1 := h79
      have h80_ : r75.toInt = z29.toInt := h80
      have h81_ : ∀ j, j ∉ [60, 69, 70, 71, 72, 73] → g'76 j = g'65 j := h81
      replace hS78 : MS S0 S73 (upd (upd (upd (upd (upd (upd (upd (upd (upd (upd f 4 z40) 5 y41) 8 a61) 9 b62) 15 z15) 24 l63) 31 y64) 62 o2) 68 z74) 75 m4) g'76 := hS78
      have hR82_ : RJ (upd (upd (upd (upd (upd (upd (upd (upd (upd (upd f 4 z40) 5 y41) 8 a61) 9 b62) 15 z15) 24 l63) 31 y64) 62 o2) 68 z74) 75 m4) g'76 gs bc [] 0 (z29.toNatClampNeg :: (s3.toNatClampNeg :: [])) := hR82
      show am_E _ _ _ _ [some (.ref 39), some (.int on), some (.int z58), none, none] [.int r75] _ _
      refine am_e3 (ls' := [some (.ref 39), some (.int on), some (.int z58), some (.int r75), none]) hi_253_31 (Nat.le_of_ble_eq_true rfl) rfl ?_
      refine am_e2 (v := 39) hi_253_32 rfl ?_
      refine am_e32n (as := [.ref 39]) (la := [some (.ref 39)]) (rest := []) hi_253_33 (am_hd0 (M := 253) (by decide) 33) (Nat.le_of_ble_eq_true rfl) (Nat.le_of_ble_eq_true rfl) (show 1 ≤ am_P0.2.2.1 210 from by decide +kernel) rfl (am_recv_ok hS78.fs) rfl rfl (ct_here (d := (d + 5)) hS78 hR82_  (by show (0 : Int) ≤ (f 32).toInt; omega) (by show (f 32).toInt ≤ (63 : Int); omega) (by show (f 53).toInt ≤ (4096 : Int); omega) (by show (0 : Int) ≤ z74.toInt; omega) (by show z74.toInt ≤ (65534 : Int); omega)) ?_
      rintro v83 S84 (⟨r85, hv86, hS87, h88, h89⟩)
      subst hv86
      have h88_ : (0 : Int) ≤ r85.toInt := h88
      have h89_ : r85.toInt ≤ z74.toInt := h89
      show am_E _ _ _ _ [some (.ref 39), some (.int on), some (.int z58), some (.int r75), none] [.int r85] _ _
      refine am_e3 (ls' := [some (.ref 39), some (.int on), some (.int z58), some (.int r75), some (.int r85)]) hi_253_36 (Nat.le_of_ble_eq_true rfl) rfl ?_
      refine am_e2 (v := 39) hi_253_38 rfl ?_
      refine am_e0 hi_253_39 ?_
      refine am_e0 hi_253_41 ?_
      refine am_e0 hi_253_42 ?_
      refine am_e1 (v := on) hi_253_43 rfl ?_
      refine am_e32n (as := [.ref 39, .int 34, .int 0, .int 0, .int on]) (la := [some (.ref 39), some (.int 34), some (.int 0), some (.int 0), some (.int on)]) (rest := []) hi_253_44 (am_hd0 (M := 253) (by decide) 44) (Nat.le_of_ble_eq_true rfl) (Nat.le_of_ble_eq_true rfl) (show 5 ≤ am_P0.2.2.1 189 from by decide +kernel) rfl (am_recv_ok hS87.fs) rfl rfl (ct_put (d := (d + 5)) hS87 hR82_  (by show (0 : Int) ≤ (f 32).toInt; omega) (by show (f 32).toInt ≤ (63 : Int); omega) (by show (f 53).toInt ≤ (4096 : Int); omega) (by show (0 : Int) ≤ z74.toInt; omega) (by show z74.toInt ≤ (65534 : Int); omega)) ?_
      rintro v91 S92 (⟨z93, r94, g'95, hv96, hS97, hR101, h98, h99, h100⟩)
      subst hv96
      have h98_ : z93.toInt = z74.toInt + 1 := h98
      have h99_ : r94.toInt = z74.toInt := h99
      have h100_ : ∀ j, j ∉ [60, 69, 70, 71, 72, 73] → g'95 j = g'76 j := h100
      replace hS97 : MS S0 S92 (upd (upd (upd (upd (upd (upd (upd (upd (upd (upd f 4 z40) 5 y41) 8 a61) 9 b62) 15 z15) 24 l63) 31 y64) 62 o2) 68 z93) 75 m4) g'95 := hS97
      have hR101_ : RJ (upd (upd (upd (upd (upd (upd (upd (upd (upd (upd f 4 z40) 5 y41) 8 a61) 9 b62) 15 z15) 24 l63) 31 y64) 62 o2) 68 z93) 75 m4) g'95 gs bc [] 0 (z74.toNatClampNeg :: (z29.toNatClampNeg :: (s3.toNatClampNeg :: []))) := hR101
      show am_E _ _ _ _ [some (.ref 39), some (.int on), some (.int z58), some (.int r75), some (.int r85)] [.int r94] _ _
      refine am_e6i hi_253_47 ?_
      refine am_e2 (v := 39) hi_253_48 rfl ?_
      refine am_e0 hi_253_49 ?_
      refine am_e1 (v := z58) hi_253_51 rfl ?_
      refine am_e0 hi_253_52 ?_
      refine am_e0 hi_253_53 ?_
      refine am_e32n (as := [.ref 39, .int 39, .int z58, .int 0, .int 0]) (la := [some (.ref 39), some (.int 39), some (.int z58), some (.int 0), some (.int 0)]) (rest := []) hi_253_54 (am_hd0 (M := 253) (by decide) 54) (Nat.le_of_ble_eq_true rfl) (Nat.le_of_ble_eq_true rfl) (show 5 ≤ am_P0.2.2.1 189 from by decide +kernel) rfl (am_recv_ok hS97.fs) rfl rfl (ct_put (d := (d + 5)) hS97 hR101_  (by show (0 : Int) ≤ (f 32).toInt; omega) (by show (f 32).toInt ≤ (63 : Int); omega) (by show (f 53).toInt ≤ (4096 : Int); omega) (by show (0 : Int) ≤ z93.toInt; omega) (by show z93.toInt ≤ (65534 : Int); omega)) ?_
      rintro v102 S103 (⟨z104, r105, g'106, hv107, hS108, hR112, h109, h110, h111⟩)
      subst hv107
      have h109_ : z104.toInt = z93.toInt + 1 := h109
      have h110_ : r105.toInt = z93.toInt := h110
      have h111_ : ∀ j, j ∉ [60, 69, 70, 71, 72, 73] → g'106 j = g'95 j := h111
      replace hS108 : MS S0 S103 (upd (upd (upd (upd (upd (upd (upd (upd (upd (upd f 4 z40) 5 y41) 8 a61) 9 b62) 15 z15) 24 l63) 31 y64) 62 o2) 68 z104) 75 m4) g'106 := hS108
      have hR112_ : RJ (upd (upd (upd (upd (upd (upd (upd (upd (upd (upd f 4 z40) 5 y41) 8 a61) 9 b62) 15 z15) 24 l63) 31 y64) 62 o2) 68 z104) 75 m4) g'106 gs bc [] 0 (z93.toNatClampNeg :: (z74.toNatClampNeg :: (z29.toNatClampNeg :: (s3.toNatClampNeg :: [])))) := hR112
      show am_E _ _ _ _ [some (.ref 39), some (.int on), some (.int z58), some (.int r75), some (.int r85)] [.int r105] _ _
      refine am_e6i hi_253_57 ?_
      refine am_e2 (v := 39) hi_253_58 rfl ?_
      refine am_e0 hi_253_59 ?_
      refine am_e32n (as := [.ref 39, .int 1]) (la := [some (.ref 39), some (.int 1)]) (rest := []) hi_253_60 (am_hd0 (M := 253) (by decide) 60) (Nat.le_of_ble_eq_true rfl) (Nat.le_of_ble_eq_true rfl) (show 2 ≤ am_P0.2.2.1 177 from by decide +kernel) rfl (am_recv_ok hS108.fs) rfl rfl (ct_beginBlock2 (d := (d + 5)) hS108 hR112_ (by decide)  (by show (0 : Int) ≤ (f 37).toInt; omega) (by show (f 37).toInt ≤ (127 : Int); omega) (by show (0 : Int) ≤ l63.toInt; omega) (by show (0 : Int) ≤ (f 44).toInt; omega) (by show (f 44).toInt ≤ z40.toInt; omega) (by show (0 : Int) ≤ (f 48).toInt; omega)) ?_
      rintro v113 S114 (⟨z115, g'116, hv117, hS118, hR122, h119, h120, h121⟩)
      subst hv117
      have h119_ : z115.toInt = (f 37).toInt + 1 := h119
      have h120_ : ∀ j, j ∉ [38, 39, 40, 41, 42, 43] → g'116 j = g'106 j := h120
      have h121_ : g'116 38 = upd (g'106 38) (f 37).toNatClampNeg l63 := h121
      replace hS118 : MS S0 S114 (upd (upd (upd (upd (upd (upd (upd (upd (upd (upd (upd f 4 z40) 5 y41) 8 a61) 9 b62) 15 z15) 24 l63) 31 y64) 37 z115) 62 o2) 68 z104) 75 m4) g'116 := hS118
      have hR122_ : RJ (upd (upd (upd (upd (upd (upd (upd (upd (upd (upd (upd f 4 z40) 5 y41) 8 a61) 9 b62) 15 z15) 24 l63) 31 y64) 37 z115) 62 o2) 68 z104) 75 m4) g'116 gs ([] :: bc) [] 0 (z93.toNatClampNeg :: (z74.toNatClampNeg :: (z29.toNatClampNeg :: (s3.toNatClampNeg :: [])))) := hR122
      show am_E _ _ _ _ [some (.ref 39), some (.int on), some (.int z58), some (.int r75), some (.int r85)] [] _ _
      refine am_e2 (v := 39) hi_253_63 rfl ?_
      refine am_e2 (v := 39) hi_253_64 rfl ?_
      refine mm_20 (v := .ref 41) hS118 hi_253_65 rfl ?_
      refine am_e1 (v := on) hi_253_68 rfl ?_
      refine am_e0 hi_253_69 ?_
      obtain ⟨z123, hz123, tz123⟩ := am_addI (x := on) (y := 1) (m := on.toInt) (n := (1 : Int)) rfl (by decide) (by omega) (by omega)
      refine am_e10 (z := z123) hi_253_70 hz123 ?_
      refine mm_25 hS118 ma_2 hi_253_71 (by decide) (by omega) (by omega) ?_
      show am_E _ _ _ _ _ (.int (g'116 2 z123.toNatClampNeg) :: _) _ _
      rw [show g'116 2 = g'106 2 from h120_ 2 (by decide), show g'106 2 = g'95 2 from h111_ 2 (by decide), show g'95 2 = g'76 2 from h100_ 2 (by decide), show g'76 2 = g'65 2 from h81_ 2 (by decide), show g'65 2 = g'31 2 from h69_ 2 (by decide), show g'31 2 = g'5 2 from h36_ 2 (by decide), show g'5 2 = g 2 from h13_ 2 (by decide)]
      show am_E _ _ _ _ [some (.ref 39), some (.int on), some (.int z58), some (.int r75), some (.int r85)] [.int (g 2 z123.toNatClampNeg), .ref 39] _ _
      refine am_e0 hi_253_72 ?_
      refine am_e0 hi_253_73 ?_
      refine am_e1 (v := on) hi_253_74 rfl ?_
      refine am_e0 hi_253_75 ?_
      refine am_e10 (z := z123) hi_253_76 hz123 ?_
      refine am_e32n (as := [.ref 39, .int (g 2 z123.toNatClampNeg), .int 0, .int 0, .int z123]) (la := [some (.ref 39), some (.int (g 2 z123.toNatClampNeg)), some (.int 0), some (.int 0), some (.int z123), none]) (rest := []) hi_253_77 (am_hd0 (M := 253) (by decide) 77) (Nat.le_of_ble_eq_true rfl) (Nat.le_of_ble_eq_true rfl) (show 5 ≤ am_P0.2.2.1 196 from by decide +kernel) rfl (am_recv_ok hS118.fs) rfl rfl (ct_declare (d := (d + 4)) hS118 hR122_ (by decide) (by decide)  (by show (0 : Int) ≤ (f 32).toInt; omega) (by show (f 32).toInt ≤ (63 : Int); omega) (by show (f 53).toInt ≤ (4096 : Int); omega) (by show (0 : Int) ≤ l63.toInt; omega) (by show l63.toInt ≤ (16383 : Int); omega) (by show (0 : Int) ≤ a61.toInt; omega)) ?_
      rintro v124 S125 (⟨a126, b127, z128, y129, g'130, hv131, hS132, hR136, h133, h134, h135⟩)
      subst hv131
      have h133_ : z128.toInt = l63.toInt + 1 := h133
      have h134_ : ∀ j, j ∉ [25, 26, 27, 28, 29, 30, 58] → g'130 j = g'116 j := h134
      have h135_ : (0 : Int) ≤ a126.toInt := h135
      replace hS132 : MS S0 S125 (upd (upd (upd (upd (upd (upd (upd (upd (upd (upd (upd f 4 z40) 5 y41) 8 a126) 9 b127) 15 z15) 24 z128) 31 y129) 37 z115) 62 o2) 68 z104) 75 m4) g'130 := hS132
      have hR136_ : RJ (upd (upd (upd (upd (upd (upd (upd (upd (upd (upd (upd f 4 z40) 5 y41) 8 a126) 9 b127) 15 z15) 24 z128) 31 y129) 37 z115) 62 o2) 68 z104) 75 m4) g'130 gs ([] :: bc) [] 0 (z93.toNatClampNeg :: (z74.toNatClampNeg :: (z29.toNatClampNeg :: (s3.toNatClampNeg :: [])))) := hR136
      show am_E _ _ _ _ [some (.ref 39), some (.int on), some (.int z58), some (.int r75), some (.int r85)] [] _ _
      refine am_e2 (v := 39) hi_253_80 rfl ?_
      refine am_e0 hi_253_81 ?_
      refine am_e1 (v := r75) hi_253_83 rfl ?_
      refine am_e1 (v := r85) hi_253_84 rfl ?_
      refine am_e1 (v := z58) hi_253_86 rfl ?_
      refine am_e32n (as := [.ref 39, .int 13, .int r75, .int r85, .int z58]) (la := [some (.ref 39), some (.int 13), some (.int r75), some (.int r85), some (.int z58)]) (rest := []) hi_253_87 (am_hd0 (M := 253) (by decide) 87) (Nat.le_of_ble_eq_true rfl) (Nat.le_of_ble_eq_true rfl) (show 5 ≤ am_P0.2.2.1 179 from by decide +kernel) rfl (am_recv_ok hS132.fs) rfl rfl (ct_pile (d := (d + 5)) hS132 hR136_ (mj_e_b (by decide) (by omega) (by show r75.toInt < z104.toInt; omega)) (by show (0 : Int) ≤ (f 10).toInt; omega) (by show (f 10).toInt ≤ (65535 : Int); omega)) ?_
      rintro v137 S138 (⟨z139, g'140, hv141, hS142, hR145, h143, h144⟩)
      subst hv141
      have h143_ : z139.toInt = (f 10).toInt + 1 := h143
      have h144_ : ∀ j, j ∉ [11, 12, 13, 14] → g'140 j = g'130 j := h144
      replace hS142 : MS S0 S138 (upd (upd (upd (upd (upd (upd (upd (upd (upd (upd (upd (upd f 4 z40) 5 y41) 8 a126) 9 b127) 10 z139) 15 z15) 24 z128) 31 y129) 37 z115) 62 o2) 68 z104) 75 m4) g'140 := hS142
      have hR145_ : RJ (upd (upd (upd (upd (upd (upd (upd (upd (upd (upd (upd (upd f 4 z40) 5 y41) 8 a126) 9 b127) 10 z139) 15 z15) 24 z128) 31 y129) 37 z115) 62 o2) 68 z104) 75 m4) g'140 (((13 : Int), r75.toInt, r85.toInt, z58.toInt, []) :: gs) ([] :: bc) [] 0 (z93.toNatClampNeg :: (z74.toNatClampNeg :: (z29.toNatClampNeg :: (s3.toNatClampNeg :: [])))) := hR145
      show am_E _ _ _ _ [some (.ref 39), some (.int on), some (.int z58), some (.int r75), some (.int r85)] [] _ _
      refine am_e2 (v := 39) hi_253_90 rfl ?_
      refine am_e32w (as := [.ref 39]) (la := [some (.ref 39)]) (rest := []) hi_253_91 (am_hd0 (M := 253) (by decide) 91) (Nat.le_of_ble_eq_true rfl) (Nat.le_of_ble_eq_true rfl) (show 1 ≤ am_P0.2.2.1 178 from by decide +kernel) rfl (am_recv_ok hS142.fs) rfl rfl ?_
      refine am_e2 (v := 39) hi_178_0 rfl ?_
      refine am_e0 hi_178_1 ?_
      refine am_e0 hi_178_2 ?_
      refine am_e0 hi_178_3 ?_
      refine am_e0 hi_178_4 ?_
      refine am_e32n (as := [.ref 39, .int 1, .int 0, .int 0, .int 0]) (la := [some (.ref 39), some (.int 1), some (.int 0), some (.int 0), some (.int 0)]) (rest := []) hi_178_5 (am_hd0 (M := 178) (by decide) 5) (Nat.le_of_ble_eq_true rfl) (Nat.le_of_ble_eq_true rfl) (show 5 ≤ am_P0.2.2.1 179 from by decide +kernel) rfl (am_recv_ok hS142.fs) rfl rfl (ct_pile (d := (d + 4)) hS142 hR145_ (mj_e_plain (by decide)) (by show (0 : Int) ≤ z139.toInt; omega) (by show z139.toInt ≤ (65535 : Int); omega)) ?_
      rintro v146 S147 (⟨z148, g'149, hv150, hS151, hR154, h152, h153⟩)
      subst hv150
      have h152_ : z148.toInt = z139.toInt + 1 := h152
      have h153_ : ∀ j, j ∉ [11, 12, 13, 14] → g'149 j = g'140 j := h153
      replace hS151 : MS S0 S147 (upd (upd (upd (upd (upd (upd (upd (upd (upd (upd (upd (upd f 4 z40) 5 y41) 8 a126) 9 b127) 10 z148) 15 z15) 24 z128) 31 y129) 37 z115) 62 o2) 68 z104) 75 m4) g'149 := hS151
      have hR154_ : RJ (upd (upd (upd (upd (upd (upd (upd (upd (upd (upd (upd (upd f 4 z40) 5 y41) 8 a126) 9 b127) 10 z148) 15 z15) 24 z128) 31 y129) 37 z115) 62 o2) 68 z104) 75 m4) g'149 (((1 : Int), (0 : Int), (0 : Int), (0 : Int), []) :: (((13 : Int), r75.toInt, r85.toInt, z58.toInt, []) :: gs)) ([] :: bc) [] 0 (z93.toNatClampNeg :: (z74.toNatClampNeg :: (z29.toNatClampNeg :: (s3.toNatClampNeg :: [])))) := hR154
      show am_E _ _ _ _ [some (.ref 39)] [] _ _
      refine am_e35 hi_178_8 ?_
      show am_E _ _ _ _ [some (.ref 39), some (.int on), some (.int z58), some (.int r75), some (.int r85)] [] _ _
      refine am_e35 hi_253_94 ?_
      show am_E _ _ _ _ [some (.ref 39), some (.int on)] [] _ _
      refine am_e35 hi_252_55 ?_
      show am_E _ _ _ _ [some (.ref 39), some (.int 11), some (.int on), some (.int tw), some (.int th)] [] _ _
      refine am_e18 hi_180_236 ?_
      refine am_e35 hi_180_371 ?_
      have q1 : mg_p1 (((1 : Int), (0 : Int), (0 : Int), (0 : Int), []) :: (((13 : Int), r75.toInt, r85.toInt, z58.toInt, []) :: gs)) = 0 + (0 + (mg_p1 gs)) := rfl
      have q2 : mg_p2 (((1 : Int), (0 : Int), (0 : Int), (0 : Int), []) :: (((13 : Int), r75.toInt, r85.toInt, z58.toInt, []) :: gs)) = 0 + (0 + (mg_p2 gs)) := rfl
      have q3 : mg_p3 (((1 : Int), (0 : Int), (0 : Int), (0 : Int), []) :: (((13 : Int), r75.toInt, r85.toInt, z58.toInt, []) :: gs)) = 1 + (1 + (mg_p3 gs)) := rfl
      have q4 : mg_p4 (((1 : Int), (0 : Int), (0 : Int), (0 : Int), []) :: (((13 : Int), r75.toInt, r85.toInt, z58.toInt, []) :: gs)) = 0 + (0 + (mg_p4 gs)) := rfl
      refine ⟨_, _, _, ([] :: bc), rfl, hS151, Or.inl ⟨⟨(RJ.fewer (pj' := []) hR154_ (fun _ h => nomatch h)), ?_, ?_⟩, rfl, ?_⟩⟩
      · exact (⟨⟨(show mg_k 1 from by decide), (show (0 : Int) ≤ z15.toInt from by omega), (show 0 ≤ (f 20).toInt from by omega), (show 1 ≤ z115.toInt from by omega), (show 0 ≤ (f 32).toInt from by omega), (show (f 32).toInt ≤ y41.toInt from by omega), (show y41.toInt ≤ 48 from by omega), (show z115.toInt ≤ 2 * (y41.toInt) + 1 from by omega), trivial⟩, ⟨⟨(show mg_k 13 from by decide), (show (0 : Int) ≤ z15.toInt + 0 from by omega), (show 0 ≤ (f 20).toInt from by omega), (show 1 ≤ z115.toInt + 0 from by omega), (show 0 ≤ (f 32).toInt + 0 from by omega), (show (f 32).toInt + 0 ≤ y41.toInt + 0 from by omega), (show y41.toInt + 0 ≤ 48 from by omega), (show z115.toInt + 0 ≤ 2 * (y41.toInt + 0) + 0 from by omega), (mg_pa13 (l1 := l63) hR (by show g'149 34 = g 34; rw [show g'149 34 = g'140 34 from h153_ 34 (by decide), show g'140 34 = g'130 34 from h144_ 34 (by decide), show g'130 34 = g'116 34 from h134_ 34 (by decide), show g'116 34 = g'106 34 from h120_ 34 (by decide), show g'106 34 = g'95 34 from h111_ 34 (by decide), show g'95 34 = g'76 34 from h100_ 34 (by decide), show g'76 34 = g'65 34 from h81_ 34 (by decide), show g'65 34 = g'31 34 from h69_ 34 (by decide), show g'31 34 = g'5 34 from h36_ 34 (by decide), show g'5 34 = g 34 from h13_ 34 (by decide)]) (by show g'149 38 = upd (g 38) (f 37).toNatClampNeg l63; rw [show g'149 38 = g'140 38 from h153_ 38 (by decide), show g'140 38 = g'130 38 from h144_ 38 (by decide), show g'130 38 = g'116 38 from h134_ 38 (by decide), h121_, show g'106 38 = g'95 38 from h111_ 38 (by decide), show g'95 38 = g'76 38 from h100_ 38 (by decide), show g'76 38 = g'65 38 from h81_ 38 (by decide), show g'65 38 = g'31 38 from h69_ 38 (by decide), show g'31 38 = g'5 38 from h36_ 38 (by decide), show g'5 38 = g 38 from h13_ 38 (by decide)]) (by show (f 32).toInt + 0 = (f 32).toInt; omega) (by omega) (by show z115.toInt + 0 = (f 37).toInt + 1; omega) (by show z58.toInt = (f 24).toInt - (g 34 (f 32).toNatClampNeg).toInt; omega) (by omega) (by show (f 24).toInt ≤ l63.toInt; omega))⟩, mg_cast (mg_good_ext _ _ _ _ _ _ (fun i _ => by show g'149 34 i = g 34 i; rw [show g'149 34 = g'140 34 from h153_ 34 (by decide), show g'140 34 = g'130 34 from h144_ 34 (by decide), show g'130 34 = g'116 34 from h134_ 34 (by decide), show g'116 34 = g'106 34 from h120_ 34 (by decide), show g'106 34 = g'95 34 from h111_ 34 (by decide), show g'95 34 = g'76 34 from h100_ 34 (by decide), show g'76 34 = g'65 34 from h81_ 34 (by decide), show g'65 34 = g'31 34 from h69_ 34 (by decide), show g'31 34 = g'5 34 from h36_ 34 (by decide), show g'5 34 = g 34 from h13_ 34 (by decide)]) (fun i hi => by show g'149 38 i = g 38 i; rw [show g'149 38 = g'140 38 from h153_ 38 (by decide), show g'140 38 = g'130 38 from h144_ 38 (by decide), show g'130 38 = g'116 38 from h134_ 38 (by decide), h121_, show g'106 38 = g'95 38 from h111_ 38 (by decide), show g'95 38 = g'76 38 from h100_ 38 (by decide), show g'76 38 = g'65 38 from h81_ 38 (by decide), show g'65 38 = g'31 38 from h69_ 38 (by decide), show g'31 38 = g'5 38 from h36_ 38 (by decide), show g'5 38 = g 38 from h13_ 38 (by decide)]; exact upd_ne (by rw [cl_toNat]; omega)) (fun i _ => by show g'149 23 i = g 23 i; rw [show g'149 23 = g'140 23 from h153_ 23 (by decide), show g'140 23 = g'130 23 from h144_ 23 (by decide), show g'130 23 = g'116 23 from h134_ 23 (by decide), show g'116 23 = g'106 23 from h120_ 23 (by decide), show g'106 23 = g'95 23 from h111_ 23 (by decide), show g'95 23 = g'76 23 from h100_ 23 (by decide), show g'76 23 = g'65 23 from h81_ 23 (by decide), show g'65 23 = g'31 23 from h69_ 23 (by decide), show g'31 23 = g'5 23 from h36_ 23 (by decide), show g'5 23 = g 23 from h13_ 23 (by decide)]) hrest) (by show (f 15).toInt + -1 = z15.toInt + 0 + 0; omega) (by show (f 20).toInt = (f 20).toInt; omega) (by show (f 37).toInt + 0 = z115.toInt + 0 + -1; omega) (by show (f 32).toInt + 0 = (f 32).toInt + 0 + 0; omega) (by show (f 5).toInt + 0 = y41.toInt + 0 + -1; omega)⟩⟩ : mg_good (g'149 34) (g'149 38) (g'149 23) (((1 : Int), (0 : Int), (0 : Int), (0 : Int), []) :: (((13 : Int), r75.toInt, r85.toInt, z58.toInt, []) :: gs)) (z15.toInt) ((f 20).toInt) (z115.toInt) ((f 32).toInt) (y41.toInt))
      · exact ⟨(by show 0 ≤ z40.toInt; omega), (by show z40.toInt ≤ (f 0).toInt; omega), (by show (f 0).toInt ≤ 512; omega), (by show 0 ≤ z128.toInt; omega), (by show z128.toInt + (f 20).toInt + mg_p1 (((1 : Int), (0 : Int), (0 : Int), (0 : Int), []) :: (((13 : Int), r75.toInt, r85.toInt, z58.toInt, []) :: gs)) ≤ 4 * z40.toInt; omega), (by show (f 20).toInt ≤ z40.toInt; omega), (by show z15.toInt + mg_p2 (((1 : Int), (0 : Int), (0 : Int), (0 : Int), []) :: (((13 : Int), r75.toInt, r85.toInt, z58.toInt, []) :: gs)) ≤ z40.toInt; omega), (by show mg_p3 (((1 : Int), (0 : Int), (0 : Int), (0 : Int), []) :: (((13 : Int), r75.toInt, r85.toInt, z58.toInt, []) :: gs)) ≤ 20 * z40.toInt + 20; omega), (by show 0 ≤ z104.toInt; omega), (by show z104.toInt + 3 * (f 20).toInt + mg_p4 (((1 : Int), (0 : Int), (0 : Int), (0 : Int), []) :: (((13 : Int), r75.toInt, r85.toInt, z58.toInt, []) :: gs)) ≤ 60 * z40.toInt + 60; omega), (by show 0 ≤ o2.toInt; omega), (by show o2.toInt + 64 * mj_n (g'149 16) z15.toNatClampNeg 3 ≤ 64 * z40.toInt; rw [show g'149 16 = g'140 16 from h153_ 16 (by decide), show g'140 16 = g'130 16 from h144_ 16 (by decide), show g'130 16 = g'116 16 from h134_ 16 (by decide), show g'116 16 = g'106 16 from h120_ 16 (by decide), show g'106 16 = g'95 16 from h111_ 16 (by decide), show g'95 16 = g'76 16 from h100_ 16 (by decide), show g'76 16 = g'65 16 from h81_ 16 (by decide), show g'65 16 = g'31 16 from h69_ 16 (by decide), show g'31 16 = g'5 16 from h36_ 16 (by decide)]; omega), (by show 0 ≤ (f 44).toInt; omega), (by show (f 44).toInt ≤ z40.toInt; omega), (by show 0 ≤ (f 48).toInt; omega), (by show (f 48).toInt ≤ z40.toInt; omega), (by show 1 ≤ (f 53).toInt; omega), (by show (f 53).toInt ≤ z40.toInt + 1; omega), (by show 0 ≤ (f 19).toInt; omega), (by show (f 19).toInt ≤ 600; omega), (by show 0 ≤ (f 6).toInt; omega), (by show 0 ≤ a126.toInt; omega)⟩
      · show 100 * ((f 0).toInt - z40.toInt) + mg_p3 (((1 : Int), (0 : Int), (0 : Int), (0 : Int), []) :: (((13 : Int), r75.toInt, r85.toInt, z58.toInt, []) :: gs)) < 100 * ((f 0).toInt - (f 4).toInt) + (1 + mg_p3 gs); omega
    · subst hv51
      have h53_ : (0 : Int) ≤ a49.toInt := h53
      replace hS52 : MS S0 S39 (upd (upd (upd (upd (upd (upd (upd f 6 a49) 7 b50) 10 0) 15 z15) 62 o2) 68 z29) 75 m4) g'31 := hS52
      have hR155 := rj_clear0 hR37_
      have hR156 : RJ (upd (upd (upd (upd (upd (upd (upd f 6 a49) 7 b50) 10 0) 15 z15) 62 o2) 68 z29) 75 m4) g'31 [] bc [] 0 [] := hR155
      show am_E _ _ _ _ [some (.ref 39), some (.int on), none, none, none] [.int 0] _ _
      refine am_e12f hi_253_6 (by decide) ?_
      refine am_e35 hi_253_9 ?_
      show am_E _ _ _ _ [some (.ref 39), some (.int on)] [] _ _
      refine am_e35 hi_252_55 ?_
      show am_E _ _ _ _ [some (.ref 39), some (.int 11), some (.int on), some (.int tw), some (.int th)] [] _ _
      refine am_e18 hi_180_236 ?_
      refine am_e35 hi_180_371 ?_
      have hRc := rj_clear0 hR156
      refine ⟨_, _, [], _, rfl, hS52, Or.inr ⟨hRc, rfl, (by show 0 ≤ (f 4).toInt; omega), (by show (f 4).toInt ≤ (f 0).toInt; omega), (by show 0 ≤ (f 32).toInt; omega), (by show (f 32).toInt ≤ 63; omega), (by show 1 ≤ (f 53).toInt; omega), (by show (f 53).toInt ≤ 600; omega), (by show 0 ≤ z29.toInt; omega), (by show z29.toInt ≤ 60000; omega), (by show 0 ≤ (f 48).toInt; omega), (by show (f 48).toInt ≤ 8000; omega), (by show 0 ≤ (f 37).toInt; omega), (by show (f 37).toInt ≤ 128; omega), (by show 0 ≤ o2.toInt; omega), (by show o2.toInt ≤ 65000; omega), (by show 0 ≤ (f 19).toInt; omega), (by show (f 19).toInt ≤ 600; omega), (by show 0 ≤ a49.toInt; omega), (by show 0 ≤ (f 8).toInt; omega)⟩⟩
  · refine am_e13f hi_252_10 (am_cF (m := r21.toInt) (n := (69 : Int)) rfl (by decide) c26) ?_
    refine am_e2 (v := 39) hi_252_13 rfl ?_
    refine am_e7 hi_252_14 ?_
    refine mm_20 (v := .int (f 4)) hS23 hi_252_15 rfl ?_
    refine am_e0 hi_252_18 ?_
    obtain ⟨z157, hz157, tz157⟩ := am_addI (x := f 4) (y := 1) (m := (f 4).toInt) (n := (1 : Int)) rfl (by decide) (by omega) (by omega)
    refine am_e10 (z := z157) hi_252_19 hz157 ?_
    refine mm_21 (v := z157) hS23 hi_252_20 rfl (Nat.le_of_ble_eq_true rfl) ms_4 ?_
    intro S158 hS159
    replace hS159 : MS S0 S158 (upd (upd (upd (upd (upd f 4 z157) 15 z15) 62 o2) 68 s3) 75 m4) g'5 := hS159
    have hR160 : RJ (upd (upd (upd (upd (upd f 4 z157) 15 z15) 62 o2) 68 s3) 75 m4) g'5 gs bc [] 0 [] := RJ.at hR14_ (by show (f 4).toInt ≤ z157.toInt; omega)
    refine am_e2 (v := 39) hi_252_23 rfl ?_
    refine am_e0 hi_252_24 ?_
    refine am_e1 (v := on) hi_252_26 rfl ?_
    refine am_e0 hi_252_27 ?_
    refine am_e0 hi_252_28 ?_
    refine am_e32n (as := [.ref 39, .int 12, .int on, .int 0, .int 0]) (la := [some (.ref 39), some (.int 12), some (.int on), some (.int 0), some (.int 0)]) (rest := []) hi_252_29 (am_hd0 (M := 252) (by decide) 29) (Nat.le_of_ble_eq_true rfl) (Nat.le_of_ble_eq_true rfl) (show 5 ≤ am_P0.2.2.1 179 from by decide +kernel) rfl (am_recv_ok hS159.fs) rfl rfl (ct_pile (d := (d + 6)) hS159 hR160 (mj_e_plain (by decide)) (by show (0 : Int) ≤ (f 10).toInt; omega) (by show (f 10).toInt ≤ (65535 : Int); omega)) ?_
    rintro v161 S162 (⟨z163, g'164, hv165, hS166, hR169, h167, h168⟩)
    subst hv165
    have h167_ : z163.toInt = (f 10).toInt + 1 := h167
    have h168_ : ∀ j, j ∉ [11, 12, 13, 14] → g'164 j = g'5 j := h168
    replace hS166 : MS S0 S162 (upd (upd (upd (upd (upd (upd f 4 z157) 10 z163) 15 z15) 62 o2) 68 s3) 75 m4) g'164 := hS166
    have hR169_ : RJ (upd (upd (upd (upd (upd (upd f 4 z157) 10 z163) 15 z15) 62 o2) 68 s3) 75 m4) g'164 (((12 : Int), on.toInt, (0 : Int), (0 : Int), []) :: gs) bc [] 0 [] := hR169
    show am_E _ _ _ _ [some (.ref 39), some (.int on)] [] _ _
    refine am_e2 (v := 39) hi_252_32 rfl ?_
    refine am_e0 hi_252_33 ?_
    refine am_e32w (as := [.ref 39, .int 0]) (la := [some (.ref 39), some (.int 0)]) (rest := []) hi_252_34 (am_hd0 (M := 252) (by decide) 34) (Nat.le_of_ble_eq_true rfl) (Nat.le_of_ble_eq_true rfl) (show 2 ≤ am_P0.2.2.1 186 from by decide +kernel) rfl (am_recv_ok hS166.fs) rfl rfl ?_
    refine am_e2 (v := 39) hi_186_0 rfl ?_
    refine am_e0 hi_186_1 ?_
    refine am_e1 (v := 0) hi_186_3 rfl ?_
    refine am_e0 hi_186_4 ?_
    refine am_e0 hi_186_5 ?_
    refine am_e32n (as := [.ref 39, .int 23, .int 0, .int 0, .int 0]) (la := [some (.ref 39), some (.int 23), some (.int 0), some (.int 0), some (.int 0)]) (rest := []) hi_186_6 (am_hd0 (M := 186) (by decide) 6) (Nat.le_of_ble_eq_true rfl) (Nat.le_of_ble_eq_true rfl) (show 5 ≤ am_P0.2.2.1 179 from by decide +kernel) rfl (am_recv_ok hS166.fs) rfl rfl (ct_pile (d := (d + 5)) hS166 hR169_ (mj_e_plain (by decide)) (by show (0 : Int) ≤ z163.toInt; omega) (by show z163.toInt ≤ (65535 : Int); omega)) ?_
    rintro v170 S171 (⟨z172, g'173, hv174, hS175, hR178, h176, h177⟩)
    subst hv174
    have h176_ : z172.toInt = z163.toInt + 1 := h176
    have h177_ : ∀ j, j ∉ [11, 12, 13, 14] → g'173 j = g'164 j := h177
    replace hS175 : MS S0 S171 (upd (upd (upd (upd (upd (upd f 4 z157) 10 z172) 15 z15) 62 o2) 68 s3) 75 m4) g'173 := hS175
    have hR178_ : RJ (upd (upd (upd (upd (upd (upd f 4 z157) 10 z172) 15 z15) 62 o2) 68 s3) 75 m4) g'173 (((23 : Int), (0 : Int), (0 : Int), (0 : Int), []) :: (((12 : Int), on.toInt, (0 : Int), (0 : Int), []) :: gs)) bc [] 0 [] := hR178
    show am_E _ _ _ _ [some (.ref 39), some (.int 0)] [] _ _
    refine am_e35 hi_186_9 ?_
    show am_E _ _ _ _ [some (.ref 39), some (.int on)] [] _ _
    refine am_e18 hi_252_37 ?_
    refine am_e35 hi_252_55 ?_
    show am_E _ _ _ _ [some (.ref 39), some (.int 11), some (.int on), some (.int tw), some (.int th)] [] _ _
    refine am_e18 hi_180_236 ?_
    refine am_e35 hi_180_371 ?_
    have q1 : mg_p1 (((23 : Int), (0 : Int), (0 : Int), (0 : Int), []) :: (((12 : Int), on.toInt, (0 : Int), (0 : Int), []) :: gs)) = 0 + (0 + (mg_p1 gs)) := rfl
    have q2 : mg_p2 (((23 : Int), (0 : Int), (0 : Int), (0 : Int), []) :: (((12 : Int), on.toInt, (0 : Int), (0 : Int), []) :: gs)) = 0 + (0 + (mg_p2 gs)) := rfl
    have q3 : mg_p3 (((23 : Int), (0 : Int), (0 : Int), (0 : Int), []) :: (((12 : Int), on.toInt, (0 : Int), (0 : Int), []) :: gs)) = 1 + (1 + (mg_p3 gs)) := rfl
    have q4 : mg_p4 (((23 : Int), (0 : Int), (0 : Int), (0 : Int), []) :: (((12 : Int), on.toInt, (0 : Int), (0 : Int), []) :: gs)) = 0 + (0 + (mg_p4 gs)) := rfl
    refine ⟨_, _, _, bc, rfl, hS175, Or.inl ⟨⟨hR178_, ?_, ?_⟩, rfl, ?_⟩⟩
    · exact (⟨⟨(show mg_k 23 from by decide), (show (0 : Int) ≤ z15.toInt from by omega), (show 0 ≤ (f 20).toInt from by omega), (show 1 ≤ (f 37).toInt from by omega), (show 0 ≤ (f 32).toInt from by omega), (show (f 32).toInt ≤ (f 5).toInt from by omega), (show (f 5).toInt ≤ 48 from by omega), (show (f 37).toInt ≤ 2 * ((f 5).toInt) + 2 from by omega), (show 0 ≤ (0 : Int) from by omega)⟩, ⟨⟨(show mg_k 12 from by decide), (show (1 : Int) ≤ z15.toInt + 1 from by omega), (show 0 ≤ (f 20).toInt from by omega), (show 1 ≤ (f 37).toInt + 0 from by omega), (show 0 ≤ (f 32).toInt + 0 from by omega), (show (f 32).toInt + 0 ≤ (f 5).toInt + 0 from by omega), (show (f 5).toInt + 0 ≤ 48 from by omega), (show (f 37).toInt + 0 ≤ 2 * ((f 5).toInt + 0) + 1 from by omega), ⟨(show 0 ≤ on.toInt from by omega), (show on.toInt ≤ 16000 from by omega)⟩⟩, mg_cast (mg_good_ext _ _ _ _ _ _ (fun i _ => by show g'173 34 i = g 34 i; rw [show g'173 34 = g'164 34 from h177_ 34 (by decide), show g'164 34 = g'5 34 from h168_ 34 (by decide), show g'5 34 = g 34 from h13_ 34 (by decide)]) (fun i _ => by show g'173 38 i = g 38 i; rw [show g'173 38 = g'164 38 from h177_ 38 (by decide), show g'164 38 = g'5 38 from h168_ 38 (by decide), show g'5 38 = g 38 from h13_ 38 (by decide)]) (fun i _ => by show g'173 23 i = g 23 i; rw [show g'173 23 = g'164 23 from h177_ 23 (by decide), show g'164 23 = g'5 23 from h168_ 23 (by decide), show g'5 23 = g 23 from h13_ 23 (by decide)]) hrest) (by show (f 15).toInt + -1 = z15.toInt + 1 + -1; omega) (by show (f 20).toInt = (f 20).toInt; omega) (by show (f 37).toInt + 0 = (f 37).toInt + 0 + 0; omega) (by show (f 32).toInt + 0 = (f 32).toInt + 0 + 0; omega) (by show (f 5).toInt + 0 = (f 5).toInt + 0 + 0; omega)⟩⟩ : mg_good (g'173 34) (g'173 38) (g'173 23) (((23 : Int), (0 : Int), (0 : Int), (0 : Int), []) :: (((12 : Int), on.toInt, (0 : Int), (0 : Int), []) :: gs)) (z15.toInt) ((f 20).toInt) ((f 37).toInt) ((f 32).toInt) ((f 5).toInt))
    · exact ⟨(by show 0 ≤ z157.toInt; omega), (by show z157.toInt ≤ (f 0).toInt; omega), (by show (f 0).toInt ≤ 512; omega), (by show 0 ≤ (f 24).toInt; omega), (by show (f 24).toInt + (f 20).toInt + mg_p1 (((23 : Int), (0 : Int), (0 : Int), (0 : Int), []) :: (((12 : Int), on.toInt, (0 : Int), (0 : Int), []) :: gs)) ≤ 4 * z157.toInt; omega), (by show (f 20).toInt ≤ z157.toInt; omega), (by show z15.toInt + mg_p2 (((23 : Int), (0 : Int), (0 : Int), (0 : Int), []) :: (((12 : Int), on.toInt, (0 : Int), (0 : Int), []) :: gs)) ≤ z157.toInt; omega), (by show mg_p3 (((23 : Int), (0 : Int), (0 : Int), (0 : Int), []) :: (((12 : Int), on.toInt, (0 : Int), (0 : Int), []) :: gs)) ≤ 20 * z157.toInt + 20; omega), (by show 0 ≤ s3.toInt; omega), (by show s3.toInt + 3 * (f 20).toInt + mg_p4 (((23 : Int), (0 : Int), (0 : Int), (0 : Int), []) :: (((12 : Int), on.toInt, (0 : Int), (0 : Int), []) :: gs)) ≤ 60 * z157.toInt + 60; omega), (by show 0 ≤ o2.toInt; omega), (by show o2.toInt + 64 * mj_n (g'173 16) z15.toNatClampNeg 3 ≤ 64 * z157.toInt; rw [show g'173 16 = g'164 16 from h177_ 16 (by decide), show g'164 16 = g'5 16 from h168_ 16 (by decide)]; omega), (by show 0 ≤ (f 44).toInt; omega), (by show (f 44).toInt ≤ z157.toInt; omega), (by show 0 ≤ (f 48).toInt; omega), (by show (f 48).toInt ≤ z157.toInt; omega), (by show 1 ≤ (f 53).toInt; omega), (by show (f 53).toInt ≤ z157.toInt + 1; omega), (by show 0 ≤ (f 19).toInt; omega), (by show (f 19).toInt ≤ 600; omega), (by show 0 ≤ (f 6).toInt; omega), (by show 0 ≤ (f 8).toInt; omega)⟩
    · show 100 * ((f 0).toInt - z157.toInt) + mg_p3 (((23 : Int), (0 : Int), (0 : Int), (0 : Int), []) :: (((12 : Int), on.toInt, (0 : Int), (0 : Int), []) :: gs)) < 100 * ((f 0).toInt - (f 4).toInt) + (1 + mg_p3 gs); omega
set_option maxHeartbeats 16000000 in
theorem st_12 {sc : Nat × (Nat → Int32)} {d : Nat} {S0 S : am_S} {f : Nat → Int32} {g : Nat → Nat → Int32} {on : Int32} {tw : Int32} {th : Int32} {gs : List mg_E} {bc : List (List Nat)} (hS : MS S0 S f g) (hR : RJ f g gs bc [] 0 []) (hrest : mg_good (g 34) (g 38) (g 23) gs ((f 15).toInt + -1) ((f 20).toInt) ((f 37).toInt + 0) ((f 32).toInt + 0) ((f 5).toInt + 0)) (p0 : 0 ≤ (f 4).toInt) (p1 : (f 4).toInt ≤ (f 0).toInt) (p2 : (f 0).toInt ≤ 512) (p3 : 0 ≤ (f 24).toInt) (p4 : (f 24).toInt + (f 20).toInt + mg_p1 gs ≤ 4 * (f 4).toInt) (p5 : (f 20).toInt ≤ (f 4).toInt) (p6 : (f 15).toInt + 0 + mg_p2 gs ≤ (f 4).toInt) (p7 : 1 + mg_p3 gs ≤ 20 * (f 4).toInt + 20) (p8 : 0 ≤ (f 68).toInt) (p9 : (f 68).toInt + 3 * (f 20).toInt + 0 + mg_p4 gs ≤ 60 * (f 4).toInt + 60) (p10 : 0 ≤ (f 62).toInt) (p11 : (f 62).toInt + 64 * mj_n (g 16) (f 15).toNatClampNeg 3 ≤ 64 * (f 4).toInt) (p12 : 0 ≤ (f 44).toInt) (p13 : (f 44).toInt ≤ (f 4).toInt) (p14 : 0 ≤ (f 48).toInt) (p15 : (f 48).toInt ≤ (f 4).toInt) (p16 : 1 ≤ (f 53).toInt) (p17 : (f 53).toInt ≤ (f 4).toInt + 1) (p18 : 0 ≤ (f 19).toInt) (p19 : (f 19).toInt ≤ 600) (p20 : 0 ≤ (f 6).toInt) (p21 : 0 ≤ (f 8).toInt) (p22 : 0 ≤ mg_p1 gs) (p23 : 0 ≤ mg_p2 gs) (p24 : 0 ≤ mg_p4 gs) (p25 : 0 ≤ (f 10).toInt) (p26 : (f 10).toInt ≤ mg_p3 gs) (p27 : 0 ≤ mj_n (g 16) (f 15).toNatClampNeg 3) (p28 : 1 ≤ (f 15).toInt) (p29 : 0 ≤ (f 20).toInt) (p30 : 1 ≤ (f 37).toInt) (p31 : 0 ≤ (f 32).toInt) (p32 : (f 32).toInt ≤ (f 5).toInt) (p33 : (f 5).toInt ≤ 48) (p34 : (f 37).toInt ≤ 2 * (f 5).toInt + 1) (p35 : 0 ≤ on.toInt) (p36 : on.toInt ≤ 16000) : am_E (am_PP sc) (d + 8) 180 0 [some (.ref 39), some (.int 12), some (.int on), some (.int tw), some (.int th)] [] S (am_N fun v S1 => ∃ (f' : Nat → Int32) (g' : Nat → Nat → Int32) (gs' : List mg_E) (bc' : List (List Nat)), v = none ∧ MS S0 S1 f' g' ∧ (mg_on f (100 * ((f 0).toInt - (f 4).toInt) + (1 + mg_p3 gs)) f' g' gs' bc' ∨ mg_off f f' g' bc')) := by
  have hbs := mg_basic hrest
  refine am_e1 (v := 12) hi_180_0 rfl ?_
  refine am_e0 hi_180_1 ?_
  refine am_e13t hi_180_3 (by decide) ?_
  refine am_e1 (v := 12) hi_180_14 rfl ?_
  refine am_e19 (t := 239) hi_180_15 (by decide) ?_
  refine am_e2 (v := 39) hi_180_239 rfl ?_
  refine am_e32w (as := [.ref 39]) (la := [some (.ref 39)]) (rest := []) hi_180_240 (am_hd0 (M := 180) (by decide) 240) (Nat.le_of_ble_eq_true rfl) (Nat.le_of_ble_eq_true rfl) (show 1 ≤ am_P0.2.2.1 209 from by decide +kernel) rfl (am_recv_ok hS.fs) rfl rfl ?_
  refine am_e2 (v := 39) hi_209_0 rfl ?_
  refine am_e32n (as := [.ref 39]) (la := [some (.ref 39), none, none, none]) (rest := []) hi_209_1 (am_hd0 (M := 209) (by decide) 1) (Nat.le_of_ble_eq_true rfl) (Nat.le_of_ble_eq_true rfl) (show 1 ≤ am_P0.2.2.1 204 from by decide +kernel) rfl (am_recv_ok hS.fs) rfl rfl (ct_load (d := (d + 4)) hS hR  (by show (0 : Int) ≤ (f 32).toInt; omega) (by show (f 32).toInt ≤ (63 : Int); omega) (by show (f 53).toInt ≤ (4096 : Int); omega) (by show (0 : Int) ≤ (f 68).toInt; omega) (by show (f 68).toInt ≤ (65534 : Int); omega) (by show (1 : Int) ≤ (f 15).toInt; omega) (by show (f 15).toInt ≤ (32767 : Int); omega) (by show (0 : Int) ≤ (f 24).toInt; omega) (by show (f 24).toInt ≤ (16384 : Int); omega) (by show (0 : Int) ≤ (f 62).toInt; omega) (by show (f 62).toInt ≤ (65000 : Int); omega)) ?_
  rintro v0 S1 (⟨o2, s3, m4, g'5, hv6, hS7, hR14, h8, h9, h10, h11, h12, h13⟩)
  subst hv6
  have h8_ : (f 62).toInt ≤ o2.toInt := h8
  have h9_ : o2.toInt ≤ (f 62).toInt + 64 := h9
  have h10_ : (f 68).toInt ≤ s3.toInt := h10
  have h11_ : s3.toInt ≤ (f 68).toInt + 1 := h11
  have h12_ : o2.toInt + 64 * mj_n (g'5 16) (f 15).toNatClampNeg 3 ≤ (f 62).toInt + 64 * mj_n (g 16) (f 15).toNatClampNeg 3 := h12
  have h13_ : ∀ j, j ∉ [16, 60, 63, 64, 65, 66, 67, 69, 70, 71, 72, 73] → g'5 j = g j := h13
  have hR14_ : RJ (upd (upd (upd f 62 o2) 68 s3) 75 m4) g'5 gs bc [] 0 [] := hR14
  show am_E _ _ _ _ [some (.ref 39)] [] _ _
  refine am_e2 (v := 39) hi_209_4 rfl ?_
  refine am_e7 hi_209_5 ?_
  refine mm_20 (v := .int (f 15)) hS7 hi_209_6 rfl ?_
  refine am_e0 hi_209_9 ?_
  obtain ⟨z15, hz15, tz15⟩ := am_subI (x := f 15) (y := 1) (m := (f 15).toInt) (n := (1 : Int)) rfl (by decide) (by omega) (by omega)
  refine am_e10 (z := z15) hi_209_10 hz15 ?_
  refine mm_21 (v := z15) hS7 hi_209_11 rfl (Nat.le_of_ble_eq_true rfl) ms_15 ?_
  intro S16 hS17
  replace hS17 : MS S0 S16 (upd (upd (upd (upd f 15 z15) 62 o2) 68 s3) 75 m4) g'5 := hS17
  have hp18 : mj_n (g'5 16) (f 15).toNatClampNeg 3 = mj_n (g'5 16) z15.toNatClampNeg 3 + if (g'5 16 z15.toNatClampNeg).toInt = 3 then 1 else 0 := mj_pop (by rw [cl_toNat, cl_toNat]; omega)
  have hp181 : mj_n (g'5 16) z15.toNatClampNeg 3 ≤ mj_n (g'5 16) (f 15).toNatClampNeg 3 := by rw [hp18]; split <;> omega
  have hp182 : (g'5 16 z15.toNatClampNeg).toInt = 3 → mj_n (g'5 16) z15.toNatClampNeg 3 + 1 ≤ mj_n (g'5 16) (f 15).toNatClampNeg 3 := fun q => by rw [hp18, if_pos q]; exact Int.le_refl _
  refine am_e35 hi_209_14 ?_
  show am_E _ _ _ _ [some (.ref 39), some (.int 12), some (.int on), some (.int tw), some (.int th)] [] _ _
  refine am_e2 (v := 39) hi_180_243 rfl ?_
  refine am_e1 (v := on) hi_180_244 rfl ?_
  refine am_e32w (as := [.ref 39, .int on]) (la := [some (.ref 39), some (.int on), none, none, none]) (rest := []) hi_180_245 (am_hd0 (M := 180) (by decide) 245) (Nat.le_of_ble_eq_true rfl) (Nat.le_of_ble_eq_true rfl) (show 2 ≤ am_P0.2.2.1 253 from by decide +kernel) rfl (am_recv_ok hS17.fs) rfl rfl ?_
  refine am_e2 (v := 39) hi_253_0 rfl ?_
  refine am_e0 hi_253_1 ?_
  refine am_e32n (as := [.ref 39, .int 12]) (la := [some (.ref 39), some (.int 12)]) (rest := []) hi_253_3 (am_hd0 (M := 253) (by decide) 3) (Nat.le_of_ble_eq_true rfl) (Nat.le_of_ble_eq_true rfl) (show 2 ≤ am_P0.2.2.1 193 from by decide +kernel) rfl (am_recv_ok hS17.fs) rfl rfl (ct_enter (d := (d + 4)) hS17   (by show (0 : Int) ≤ (f 4).toInt; omega) (by show (f 0).toInt ≤ (16384 : Int); omega) (by show (0 : Int) ≤ (12 : Int); omega) (by show (0 : Int) ≤ (f 5).toInt; omega) (by show (f 5).toInt ≤ (48 : Int); omega) (by show (0 : Int) ≤ (f 6).toInt; omega)) ?_
  rintro v19 S20 (⟨z21, y22, hv23, hS24, h25, h26, h27, h28⟩ | ⟨a30, b31, hv32, hS33, h34⟩)
  · subst hv23
    have h25_ : z21.toInt = (f 4).toInt + 1 := h25
    have h26_ : (f 4).toInt < (f 0).toInt := h26
    have h27_ : y22.toInt = (f 5).toInt + 1 := h27
    have h28_ : y22.toInt ≤ (48 : Int) := h28
    replace hS24 : MS S0 S20 (upd (upd (upd (upd (upd (upd f 4 z21) 5 y22) 15 z15) 62 o2) 68 s3) 75 m4) g'5 := hS24
    have hR36 : RJ (upd (upd (upd (upd (upd (upd f 4 z21) 5 y22) 15 z15) 62 o2) 68 s3) 75 m4) g'5 gs bc [] 0 [] := RJ.at hR14_ (by show (f 4).toInt ≤ z21.toInt; omega)
    show am_E _ _ _ _ [some (.ref 39), some (.int on), none, none, none] [.int 1] _ _
    refine am_e12t hi_253_6 (by decide) ?_
    refine am_e2 (v := 39) hi_253_10 rfl ?_
    refine am_e32w (as := [.ref 39]) (la := [some (.ref 39)]) (rest := []) hi_253_11 (am_hd0 (M := 253) (by decide) 11) (Nat.le_of_ble_eq_true rfl) (Nat.le_of_ble_eq_true rfl) (show 1 ≤ am_P0.2.2.1 197 from by decide +kernel) rfl (am_recv_ok hS24.fs) rfl rfl ?_
    refine am_e2 (v := 39) hi_197_0 rfl ?_
    refine mm_20 (v := .int (f 24)) hS24 hi_197_1 rfl ?_
    refine am_e2 (v := 39) hi_197_4 rfl ?_
    refine mm_20 (v := .ref 59) hS24 hi_197_5 rfl ?_
    refine am_e2 (v := 39) hi_197_8 rfl ?_
    refine mm_20 (v := .int (f 32)) hS24 hi_197_9 rfl ?_
    refine mm_25 hS24 ma_34 hi_197_12 (by decide) (by omega) (by omega) ?_
    show am_E _ _ _ _ _ (.int (g'5 34 (f 32).toNatClampNeg) :: _) _ _
    rw [show g'5 34 = g 34 from h13_ 34 (by decide)]
    show am_E _ _ _ _ [some (.ref 39)] [.int (g 34 (f 32).toNatClampNeg), .int (f 24)] _ _
    have r37 : 0 ≤ (g 34 (f 32).toNatClampNeg).toInt := by
      have h := RJ.ba hR36 (f 32).toNatClampNeg
      rw [show g'5 34 = g 34 from h13_ 34 (by decide)] at h
      exact h
    have r38 : (g 34 (f 32).toNatClampNeg).toInt ≤ 2147483647 := i32_le _
    obtain ⟨z39, hz39, tz39⟩ := am_subI (x := f 24) (y := g 34 (f 32).toNatClampNeg) (m := (f 24).toInt) (n := (g 34 (f 32).toNatClampNeg).toInt) rfl rfl (by omega) (by omega)
    refine am_e10 (z := z39) hi_197_13 hz39 ?_
    refine am_e33 hi_197_14 ?_
    show am_E _ _ _ _ [some (.ref 39), some (.int on), none, none, none] [.int z39] _ _
    refine am_e3 (ls' := [some (.ref 39), some (.int on), some (.int z39), none, none]) hi_253_14 (Nat.le_of_ble_eq_true rfl) rfl ?_
    refine am_e2 (v := 39) hi_253_15 rfl ?_
    refine am_e0 hi_253_16 ?_
    refine am_e0 hi_253_17 ?_
    refine am_e1 (v := on) hi_253_18 rfl ?_
    refine am_e32n (as := [.ref 39, .int 3, .int 0, .int on]) (la := [some (.ref 39), some (.int 3), some (.int 0), some (.int on), none]) (rest := []) hi_253_19 (am_hd0 (M := 253) (by decide) 19) (Nat.le_of_ble_eq_true rfl) (Nat.le_of_ble_eq_true rfl) (show 4 ≤ am_P0.2.2.1 254 from by decide +kernel) rfl (am_recv_ok hS24.fs) rfl rfl (ct_hide (d := (d + 4)) hS24 hR36 (by decide)  (by show (0 : Int) ≤ (f 32).toInt; omega) (by show (f 32).toInt ≤ (63 : Int); omega) (by show (f 53).toInt ≤ (4096 : Int); omega) (by show (0 : Int) ≤ (f 24).toInt; omega) (by show (f 24).toInt ≤ (16000 : Int); omega) (by show (0 : Int) ≤ (3 : Int); omega) (by show (3 : Int) ≤ (16 : Int); omega) (by show (0 : Int) ≤ (f 8).toInt; omega)) ?_
    rintro v40 S41 (⟨a42, b43, l44, y45, g'46, hv47, hS48, hR52, h49, h50, h51⟩)
    subst hv47
    have h49_ : l44.toInt = (f 24).toInt + (3 : Int) := h49
    have h50_ : ∀ j, j ∉ [25, 26, 27, 28, 29, 30, 58] → g'46 j = g'5 j := h50
    have h51_ : (0 : Int) ≤ a42.toInt := h51
    replace hS48 : MS S0 S41 (upd (upd (upd (upd (upd (upd (upd (upd (upd (upd f 4 z21) 5 y22) 8 a42) 9 b43) 15 z15) 24 l44) 31 y45) 62 o2) 68 s3) 75 m4) g'46 := hS48
    have hR52_ : RJ (upd (upd (upd (upd (upd (upd (upd (upd (upd (upd f 4 z21) 5 y22) 8 a42) 9 b43) 15 z15) 24 l44) 31 y45) 62 o2) 68 s3) 75 m4) g'46 gs bc [] 0 [] := hR52
    show am_E _ _ _ _ [some (.ref 39), some (.int on), some (.int z39), none, none] [] _ _
    refine am_e2 (v := 39) hi_253_22 rfl ?_
    refine am_e0 hi_253_23 ?_
    refine am_e1 (v := z39) hi_253_25 rfl ?_
    refine am_e0 hi_253_26 ?_
    refine am_e1 (v := on) hi_253_27 rfl ?_
    refine am_e32n (as := [.ref 39, .int 38, .int z39, .int 0, .int on]) (la := [some (.ref 39), some (.int 38), some (.int z39), some (.int 0), some (.int on)]) (rest := []) hi_253_28 (am_hd0 (M := 253) (by decide) 28) (Nat.le_of_ble_eq_true rfl) (Nat.le_of_ble_eq_true rfl) (show 5 ≤ am_P0.2.2.1 189 from by decide +kernel) rfl (am_recv_ok hS48.fs) rfl rfl (ct_put (d := (d + 6)) hS48 hR52_  (by show (0 : Int) ≤ (f 32).toInt; omega) (by show (f 32).toInt ≤ (63 : Int); omega) (by show (f 53).toInt ≤ (4096 : Int); omega) (by show (0 : Int) ≤ s3.toInt; omega) (by show s3.toInt ≤ (65534 : Int); omega)) ?_
    rintro v53 S54 (⟨z55, r56, g'57, hv58, hS59, hR63, h60, h61, h62⟩)
    subst hv58
    have h60_ : z55.toInt = s3.toInt + 1 := h60
    have h61_ : r56.toInt = s3.toInt := h61
    have h62_ : ∀ j, j ∉ [60, 69, 70, 71, 72, 73] → g'57 j = g'46 j := h62
    replace hS59 : MS S0 S54 (upd (upd (upd (upd (upd (upd (upd (upd (upd (upd f 4 z21) 5 y22) 8 a42) 9 b43) 15 z15) 24 l44) 31 y45) 62 o2) 68 z55) 75 m4) g'57 := hS59
    have hR63_ : RJ (upd (upd (upd (upd (upd (upd (upd (upd (upd (upd f 4 z21) 5 y22) 8 a42) 9 b43) 15 z15) 24 l44) 31 y45) 62 o2) 68 z55) 75 m4) g'57 gs bc [] 0 (s3.toNatClampNeg :: []) := hR63
    show am_E _ _ _ _ [some (.ref 39), some (.int on), some (.int z39), none, none] [.int r56] _ _
    refine am_e3 (ls' := [some (.ref 39), some (.int on), some (.int z39), some (.int r56), none]) hi_253_31 (Nat.le_of_ble_eq_true rfl) rfl ?_
    refine am_e2 (v := 39) hi_253_32 rfl ?_
    refine am_e32n (as := [.ref 39]) (la := [some (.ref 39)]) (rest := []) hi_253_33 (am_hd0 (M := 253) (by decide) 33) (Nat.le_of_ble_eq_true rfl) (Nat.le_of_ble_eq_true rfl) (show 1 ≤ am_P0.2.2.1 210 from by decide +kernel) rfl (am_recv_ok hS59.fs) rfl rfl (ct_here (d := (d + 6)) hS59 hR63_  (by show (0 : Int) ≤ (f 32).toInt; omega) (by show (f 32).toInt ≤ (63 : Int); omega) (by show (f 53).toInt ≤ (4096 : Int); omega) (by show (0 : Int) ≤ z55.toInt; omega) (by show z55.toInt ≤ (65534 : Int); omega)) ?_
    rintro v64 S65 (⟨r66, hv67, hS68, h69, h70⟩)
    subst hv67
    have h69_ : (0 : Int) ≤ r66.toInt := h69
    have h70_ : r66.toInt ≤ z55.toInt := h70
    show am_E _ _ _ _ [some (.ref 39), some (.int on), some (.int z39), some (.int r56), none] [.int r66] _ _
    refine am_e3 (ls' := [some (.ref 39), some (.int on), some (.int z39), some (.int r56), some (.int r66)]) hi_253_36 (Nat.le_of_ble_eq_true rfl) rfl ?_
    refine am_e2 (v := 39) hi_253_38 rfl ?_
    refine am_e0 hi_253_39 ?_
    refine am_e0 hi_253_41 ?_
    refine am_e0 hi_253_42 ?_
    refine am_e1 (v := on) hi_253_43 rfl ?_
    refine am_e32n (as := [.ref 39, .int 34, .int 0, .int 0, .int on]) (la := [some (.ref 39), some (.int 34), some (.int 0), some (.int 0), some (.int on)]) (rest := []) hi_253_44 (am_hd0 (M := 253) (by decide) 44) (Nat.le_of_ble_eq_true rfl) (Nat.le_of_ble_eq_true rfl) (show 5 ≤ am_P0.2.2.1 189 from by decide +kernel) rfl (am_recv_ok hS68.fs) rfl rfl (ct_put (d := (d + 6)) hS68 hR63_  (by show (0 : Int) ≤ (f 32).toInt; omega) (by show (f 32).toInt ≤ (63 : Int); omega) (by show (f 53).toInt ≤ (4096 : Int); omega) (by show (0 : Int) ≤ z55.toInt; omega) (by show z55.toInt ≤ (65534 : Int); omega)) ?_
    rintro v72 S73 (⟨z74, r75, g'76, hv77, hS78, hR82, h79, h80, h81⟩)
    subst hv77
    have h79_ : z74.toInt = z55.toInt + 1 := h79
    have h80_ : r75.toInt = z55.toInt := h80
    have h81_ : ∀ j, j ∉ [60, 69, 70, 71, 72, 73] → g'76 j = g'57 j := h81
    replace hS78 : MS S0 S73 (upd (upd (upd (upd (upd (upd (upd (upd (upd (upd f 4 z21) 5 y22) 8 a42) 9 b43) 15 z15) 24 l44) 31 y45) 62 o2) 68 z74) 75 m4) g'76 := hS78
    have hR82_ : RJ (upd (upd (upd (upd (upd (upd (upd (upd (upd (upd f 4 z21) 5 y22) 8 a42) 9 b43) 15 z15) 24 l44) 31 y45) 62 o2) 68 z74) 75 m4) g'76 gs bc [] 0 (z55.toNatClampNeg :: (s3.toNatClampNeg :: [])) := hR82
    show am_E _ _ _ _ [some (.ref 39), some (.int on), some (.int z39), some (.int r56), some (.int r66)] [.int r75] _ _
    refine am_e6i hi_253_47 ?_
    refine am_e2 (v := 39) hi_253_48 rfl ?_
    refine am_e0 hi_253_49 ?_
    refine am_e1 (v := z39) hi_253_51 rfl ?_
    refine am_e0 hi_253_52 ?_
    refine am_e0 hi_253_53 ?_
    refine am_e32n (as := [.ref 39, .int 39, .int z39, .int 0, .int 0]) (la := [some (.ref 39), some (.int 39), some (.int z39), some (.int 0), some (.int 0)]) (rest := []) hi_253_54 (am_hd0 (M := 253) (by decide) 54) (Nat.le_of_ble_eq_true rfl) (Nat.le_of_ble_eq_true rfl) (show 5 ≤ am_P0.2.2.1 189 from by decide +kernel) rfl (am_recv_ok hS78.fs) rfl rfl (ct_put (d := (d + 6)) hS78 hR82_  (by show (0 : Int) ≤ (f 32).toInt; omega) (by show (f 32).toInt ≤ (63 : Int); omega) (by show (f 53).toInt ≤ (4096 : Int); omega) (by show (0 : Int) ≤ z74.toInt; omega) (by show z74.toInt ≤ (65534 : Int); omega)) ?_
    rintro v83 S84 (⟨z85, r86, g'87, hv88, hS89, hR93, h90, h91, h92⟩)
    subst hv88
    have h90_ : z85.toInt = z74.toInt + 1 := h90
    have h91_ : r86.toInt = z74.toInt := h91
    have h92_ : ∀ j, j ∉ [60, 69, 70, 71, 72, 73] → g'87 j = g'76 j := h92
    replace hS89 : MS S0 S84 (upd (upd (upd (upd (upd (upd (upd (upd (upd (upd f 4 z21) 5 y22) 8 a42) 9 b43) 15 z15) 24 l44) 31 y45) 62 o2) 68 z85) 75 m4) g'87 := hS89
    have hR93_ : RJ (upd (upd (upd (upd (upd (upd (upd (upd (upd (upd f 4 z21) 5 y22) 8 a42) 9 b43) 15 z15) 24 l44) 31 y45) 62 o2) 68 z85) 75 m4) g'87 gs bc [] 0 (z74.toNatClampNeg :: (z55.toNatClampNeg :: (s3.toNatClampNeg :: []))) := hR93
    show am_E _ _ _ _ [some (.ref 39), some (.int on), some (.int z39), some (.int r56), some (.int r66)] [.int r86] _ _
    refine am_e6i hi_253_57 ?_
    refine am_e2 (v := 39) hi_253_58 rfl ?_
    refine am_e0 hi_253_59 ?_
    refine am_e32n (as := [.ref 39, .int 1]) (la := [some (.ref 39), some (.int 1)]) (rest := []) hi_253_60 (am_hd0 (M := 253) (by decide) 60) (Nat.le_of_ble_eq_true rfl) (Nat.le_of_ble_eq_true rfl) (show 2 ≤ am_P0.2.2.1 177 from by decide +kernel) rfl (am_recv_ok hS89.fs) rfl rfl (ct_beginBlock2 (d := (d + 6)) hS89 hR93_ (by decide)  (by show (0 : Int) ≤ (f 37).toInt; omega) (by show (f 37).toInt ≤ (127 : Int); omega) (by show (0 : Int) ≤ l44.toInt; omega) (by show (0 : Int) ≤ (f 44).toInt; omega) (by show (f 44).toInt ≤ z21.toInt; omega) (by show (0 : Int) ≤ (f 48).toInt; omega)) ?_
    rintro v94 S95 (⟨z96, g'97, hv98, hS99, hR103, h100, h101, h102⟩)
    subst hv98
    have h100_ : z96.toInt = (f 37).toInt + 1 := h100
    have h101_ : ∀ j, j ∉ [38, 39, 40, 41, 42, 43] → g'97 j = g'87 j := h101
    have h102_ : g'97 38 = upd (g'87 38) (f 37).toNatClampNeg l44 := h102
    replace hS99 : MS S0 S95 (upd (upd (upd (upd (upd (upd (upd (upd (upd (upd (upd f 4 z21) 5 y22) 8 a42) 9 b43) 15 z15) 24 l44) 31 y45) 37 z96) 62 o2) 68 z85) 75 m4) g'97 := hS99
    have hR103_ : RJ (upd (upd (upd (upd (upd (upd (upd (upd (upd (upd (upd f 4 z21) 5 y22) 8 a42) 9 b43) 15 z15) 24 l44) 31 y45) 37 z96) 62 o2) 68 z85) 75 m4) g'97 gs ([] :: bc) [] 0 (z74.toNatClampNeg :: (z55.toNatClampNeg :: (s3.toNatClampNeg :: []))) := hR103
    show am_E _ _ _ _ [some (.ref 39), some (.int on), some (.int z39), some (.int r56), some (.int r66)] [] _ _
    refine am_e2 (v := 39) hi_253_63 rfl ?_
    refine am_e2 (v := 39) hi_253_64 rfl ?_
    refine mm_20 (v := .ref 41) hS99 hi_253_65 rfl ?_
    refine am_e1 (v := on) hi_253_68 rfl ?_
    refine am_e0 hi_253_69 ?_
    obtain ⟨z104, hz104, tz104⟩ := am_addI (x := on) (y := 1) (m := on.toInt) (n := (1 : Int)) rfl (by decide) (by omega) (by omega)
    refine am_e10 (z := z104) hi_253_70 hz104 ?_
    refine mm_25 hS99 ma_2 hi_253_71 (by decide) (by omega) (by omega) ?_
    show am_E _ _ _ _ _ (.int (g'97 2 z104.toNatClampNeg) :: _) _ _
    rw [show g'97 2 = g'87 2 from h101_ 2 (by decide), show g'87 2 = g'76 2 from h92_ 2 (by decide), show g'76 2 = g'57 2 from h81_ 2 (by decide), show g'57 2 = g'46 2 from h62_ 2 (by decide), show g'46 2 = g'5 2 from h50_ 2 (by decide), show g'5 2 = g 2 from h13_ 2 (by decide)]
    show am_E _ _ _ _ [some (.ref 39), some (.int on), some (.int z39), some (.int r56), some (.int r66)] [.int (g 2 z104.toNatClampNeg), .ref 39] _ _
    refine am_e0 hi_253_72 ?_
    refine am_e0 hi_253_73 ?_
    refine am_e1 (v := on) hi_253_74 rfl ?_
    refine am_e0 hi_253_75 ?_
    refine am_e10 (z := z104) hi_253_76 hz104 ?_
    refine am_e32n (as := [.ref 39, .int (g 2 z104.toNatClampNeg), .int 0, .int 0, .int z104]) (la := [some (.ref 39), some (.int (g 2 z104.toNatClampNeg)), some (.int 0), some (.int 0), some (.int z104), none]) (rest := []) hi_253_77 (am_hd0 (M := 253) (by decide) 77) (Nat.le_of_ble_eq_true rfl) (Nat.le_of_ble_eq_true rfl) (show 5 ≤ am_P0.2.2.1 196 from by decide +kernel) rfl (am_recv_ok hS99.fs) rfl rfl (ct_declare (d := (d + 5)) hS99 hR103_ (by decide) (by decide)  (by show (0 : Int) ≤ (f 32).toInt; omega) (by show (f 32).toInt ≤ (63 : Int); omega) (by show (f 53).toInt ≤ (4096 : Int); omega) (by show (0 : Int) ≤ l44.toInt; omega) (by show l44.toInt ≤ (16383 : Int); omega) (by show (0 : Int) ≤ a42.toInt; omega)) ?_
    rintro v105 S106 (⟨a107, b108, z109, y110, g'111, hv112, hS113, hR117, h114, h115, h116⟩)
    subst hv112
    have h114_ : z109.toInt = l44.toInt + 1 := h114
    have h115_ : ∀ j, j ∉ [25, 26, 27, 28, 29, 30, 58] → g'111 j = g'97 j := h115
    have h116_ : (0 : Int) ≤ a107.toInt := h116
    replace hS113 : MS S0 S106 (upd (upd (upd (upd (upd (upd (upd (upd (upd (upd (upd f 4 z21) 5 y22) 8 a107) 9 b108) 15 z15) 24 z109) 31 y110) 37 z96) 62 o2) 68 z85) 75 m4) g'111 := hS113
    have hR117_ : RJ (upd (upd (upd (upd (upd (upd (upd (upd (upd (upd (upd f 4 z21) 5 y22) 8 a107) 9 b108) 15 z15) 24 z109) 31 y110) 37 z96) 62 o2) 68 z85) 75 m4) g'111 gs ([] :: bc) [] 0 (z74.toNatClampNeg :: (z55.toNatClampNeg :: (s3.toNatClampNeg :: []))) := hR117
    show am_E _ _ _ _ [some (.ref 39), some (.int on), some (.int z39), some (.int r56), some (.int r66)] [] _ _
    refine am_e2 (v := 39) hi_253_80 rfl ?_
    refine am_e0 hi_253_81 ?_
    refine am_e1 (v := r56) hi_253_83 rfl ?_
    refine am_e1 (v := r66) hi_253_84 rfl ?_
    refine am_e1 (v := z39) hi_253_86 rfl ?_
    refine am_e32n (as := [.ref 39, .int 13, .int r56, .int r66, .int z39]) (la := [some (.ref 39), some (.int 13), some (.int r56), some (.int r66), some (.int z39)]) (rest := []) hi_253_87 (am_hd0 (M := 253) (by decide) 87) (Nat.le_of_ble_eq_true rfl) (Nat.le_of_ble_eq_true rfl) (show 5 ≤ am_P0.2.2.1 179 from by decide +kernel) rfl (am_recv_ok hS113.fs) rfl rfl (ct_pile (d := (d + 6)) hS113 hR117_ (mj_e_b (by decide) (by omega) (by show r56.toInt < z85.toInt; omega)) (by show (0 : Int) ≤ (f 10).toInt; omega) (by show (f 10).toInt ≤ (65535 : Int); omega)) ?_
    rintro v118 S119 (⟨z120, g'121, hv122, hS123, hR126, h124, h125⟩)
    subst hv122
    have h124_ : z120.toInt = (f 10).toInt + 1 := h124
    have h125_ : ∀ j, j ∉ [11, 12, 13, 14] → g'121 j = g'111 j := h125
    replace hS123 : MS S0 S119 (upd (upd (upd (upd (upd (upd (upd (upd (upd (upd (upd (upd f 4 z21) 5 y22) 8 a107) 9 b108) 10 z120) 15 z15) 24 z109) 31 y110) 37 z96) 62 o2) 68 z85) 75 m4) g'121 := hS123
    have hR126_ : RJ (upd (upd (upd (upd (upd (upd (upd (upd (upd (upd (upd (upd f 4 z21) 5 y22) 8 a107) 9 b108) 10 z120) 15 z15) 24 z109) 31 y110) 37 z96) 62 o2) 68 z85) 75 m4) g'121 (((13 : Int), r56.toInt, r66.toInt, z39.toInt, []) :: gs) ([] :: bc) [] 0 (z74.toNatClampNeg :: (z55.toNatClampNeg :: (s3.toNatClampNeg :: []))) := hR126
    show am_E _ _ _ _ [some (.ref 39), some (.int on), some (.int z39), some (.int r56), some (.int r66)] [] _ _
    refine am_e2 (v := 39) hi_253_90 rfl ?_
    refine am_e32w (as := [.ref 39]) (la := [some (.ref 39)]) (rest := []) hi_253_91 (am_hd0 (M := 253) (by decide) 91) (Nat.le_of_ble_eq_true rfl) (Nat.le_of_ble_eq_true rfl) (show 1 ≤ am_P0.2.2.1 178 from by decide +kernel) rfl (am_recv_ok hS123.fs) rfl rfl ?_
    refine am_e2 (v := 39) hi_178_0 rfl ?_
    refine am_e0 hi_178_1 ?_
    refine am_e0 hi_178_2 ?_
    refine am_e0 hi_178_3 ?_
    refine am_e0 hi_178_4 ?_
    refine am_e32n (as := [.ref 39, .int 1, .int 0, .int 0, .int 0]) (la := [some (.ref 39), some (.int 1), some (.int 0), some (.int 0), some (.int 0)]) (rest := []) hi_178_5 (am_hd0 (M := 178) (by decide) 5) (Nat.le_of_ble_eq_true rfl) (Nat.le_of_ble_eq_true rfl) (show 5 ≤ am_P0.2.2.1 179 from by decide +kernel) rfl (am_recv_ok hS123.fs) rfl rfl (ct_pile (d := (d + 5)) hS123 hR126_ (mj_e_plain (by decide)) (by show (0 : Int) ≤ z120.toInt; omega) (by show z120.toInt ≤ (65535 : Int); omega)) ?_
    rintro v127 S128 (⟨z129, g'130, hv131, hS132, hR135, h133, h134⟩)
    subst hv131
    have h133_ : z129.toInt = z120.toInt + 1 := h133
    have h134_ : ∀ j, j ∉ [11, 12, 13, 14] → g'130 j = g'121 j := h134
    replace hS132 : MS S0 S128 (upd (upd (upd (upd (upd (upd (upd (upd (upd (upd (upd (upd f 4 z21) 5 y22) 8 a107) 9 b108) 10 z129) 15 z15) 24 z109) 31 y110) 37 z96) 62 o2) 68 z85) 75 m4) g'130 := hS132
    have hR135_ : RJ (upd (upd (upd (upd (upd (upd (upd (upd (upd (upd (upd (upd f 4 z21) 5 y22) 8 a107) 9 b108) 10 z129) 15 z15) 24 z109) 31 y110) 37 z96) 62 o2) 68 z85) 75 m4) g'130 (((1 : Int), (0 : Int), (0 : Int), (0 : Int), []) :: (((13 : Int), r56.toInt, r66.toInt, z39.toInt, []) :: gs)) ([] :: bc) [] 0 (z74.toNatClampNeg :: (z55.toNatClampNeg :: (s3.toNatClampNeg :: []))) := hR135
    show am_E _ _ _ _ [some (.ref 39)] [] _ _
    refine am_e35 hi_178_8 ?_
    show am_E _ _ _ _ [some (.ref 39), some (.int on), some (.int z39), some (.int r56), some (.int r66)] [] _ _
    refine am_e35 hi_253_94 ?_
    show am_E _ _ _ _ [some (.ref 39), some (.int 12), some (.int on), some (.int tw), some (.int th)] [] _ _
    refine am_e18 hi_180_248 ?_
    refine am_e35 hi_180_371 ?_
    have q1 : mg_p1 (((1 : Int), (0 : Int), (0 : Int), (0 : Int), []) :: (((13 : Int), r56.toInt, r66.toInt, z39.toInt, []) :: gs)) = 0 + (0 + (mg_p1 gs)) := rfl
    have q2 : mg_p2 (((1 : Int), (0 : Int), (0 : Int), (0 : Int), []) :: (((13 : Int), r56.toInt, r66.toInt, z39.toInt, []) :: gs)) = 0 + (0 + (mg_p2 gs)) := rfl
    have q3 : mg_p3 (((1 : Int), (0 : Int), (0 : Int), (0 : Int), []) :: (((13 : Int), r56.toInt, r66.toInt, z39.toInt, []) :: gs)) = 1 + (1 + (mg_p3 gs)) := rfl
    have q4 : mg_p4 (((1 : Int), (0 : Int), (0 : Int), (0 : Int), []) :: (((13 : Int), r56.toInt, r66.toInt, z39.toInt, []) :: gs)) = 0 + (0 + (mg_p4 gs)) := rfl
    refine ⟨_, _, _, ([] :: bc), rfl, hS132, Or.inl ⟨⟨(RJ.fewer (pj' := []) hR135_ (fun _ h => nomatch h)), ?_, ?_⟩, rfl, ?_⟩⟩
    · exact (⟨⟨(show mg_k 1 from by decide), (show (0 : Int) ≤ z15.toInt from by omega), (show 0 ≤ (f 20).toInt from by omega), (show 1 ≤ z96.toInt from by omega), (show 0 ≤ (f 32).toInt from by omega), (show (f 32).toInt ≤ y22.toInt from by omega), (show y22.toInt ≤ 48 from by omega), (show z96.toInt ≤ 2 * (y22.toInt) + 1 from by omega), trivial⟩, ⟨⟨(show mg_k 13 from by decide), (show (0 : Int) ≤ z15.toInt + 0 from by omega), (show 0 ≤ (f 20).toInt from by omega), (show 1 ≤ z96.toInt + 0 from by omega), (show 0 ≤ (f 32).toInt + 0 from by omega), (show (f 32).toInt + 0 ≤ y22.toInt + 0 from by omega), (show y22.toInt + 0 ≤ 48 from by omega), (show z96.toInt + 0 ≤ 2 * (y22.toInt + 0) + 0 from by omega), (mg_pa13 (l1 := l44) hR (by show g'130 34 = g 34; rw [show g'130 34 = g'121 34 from h134_ 34 (by decide), show g'121 34 = g'111 34 from h125_ 34 (by decide), show g'111 34 = g'97 34 from h115_ 34 (by decide), show g'97 34 = g'87 34 from h101_ 34 (by decide), show g'87 34 = g'76 34 from h92_ 34 (by decide), show g'76 34 = g'57 34 from h81_ 34 (by decide), show g'57 34 = g'46 34 from h62_ 34 (by decide), show g'46 34 = g'5 34 from h50_ 34 (by decide), show g'5 34 = g 34 from h13_ 34 (by decide)]) (by show g'130 38 = upd (g 38) (f 37).toNatClampNeg l44; rw [show g'130 38 = g'121 38 from h134_ 38 (by decide), show g'121 38 = g'111 38 from h125_ 38 (by decide), show g'111 38 = g'97 38 from h115_ 38 (by decide), h102_, show g'87 38 = g'76 38 from h92_ 38 (by decide), show g'76 38 = g'57 38 from h81_ 38 (by decide), show g'57 38 = g'46 38 from h62_ 38 (by decide), show g'46 38 = g'5 38 from h50_ 38 (by decide), show g'5 38 = g 38 from h13_ 38 (by decide)]) (by show (f 32).toInt + 0 = (f 32).toInt; omega) (by omega) (by show z96.toInt + 0 = (f 37).toInt + 1; omega) (by show z39.toInt = (f 24).toInt - (g 34 (f 32).toNatClampNeg).toInt; omega) (by omega) (by show (f 24).toInt ≤ l44.toInt; omega))⟩, mg_cast (mg_good_ext _ _ _ _ _ _ (fun i _ => by show g'130 34 i = g 34 i; rw [show g'130 34 = g'121 34 from h134_ 34 (by decide), show g'121 34 = g'111 34 from h125_ 34 (by decide), show g'111 34 = g'97 34 from h115_ 34 (by decide), show g'97 34 = g'87 34 from h101_ 34 (by decide), show g'87 34 = g'76 34 from h92_ 34 (by decide), show g'76 34 = g'57 34 from h81_ 34 (by decide), show g'57 34 = g'46 34 from h62_ 34 (by decide), show g'46 34 = g'5 34 from h50_ 34 (by decide), show g'5 34 = g 34 from h13_ 34 (by decide)]) (fun i hi => by show g'130 38 i = g 38 i; rw [show g'130 38 = g'121 38 from h134_ 38 (by decide), show g'121 38 = g'111 38 from h125_ 38 (by decide), show g'111 38 = g'97 38 from h115_ 38 (by decide), h102_, show g'87 38 = g'76 38 from h92_ 38 (by decide), show g'76 38 = g'57 38 from h81_ 38 (by decide), show g'57 38 = g'46 38 from h62_ 38 (by decide), show g'46 38 = g'5 38 from h50_ 38 (by decide), show g'5 38 = g 38 from h13_ 38 (by decide)]; exact upd_ne (by rw [cl_toNat]; omega)) (fun i _ => by show g'130 23 i = g 23 i; rw [show g'130 23 = g'121 23 from h134_ 23 (by decide), show g'121 23 = g'111 23 from h125_ 23 (by decide), show g'111 23 = g'97 23 from h115_ 23 (by decide), show g'97 23 = g'87 23 from h101_ 23 (by decide), show g'87 23 = g'76 23 from h92_ 23 (by decide), show g'76 23 = g'57 23 from h81_ 23 (by decide), show g'57 23 = g'46 23 from h62_ 23 (by decide), show g'46 23 = g'5 23 from h50_ 23 (by decide), show g'5 23 = g 23 from h13_ 23 (by decide)]) hrest) (by show (f 15).toInt + -1 = z15.toInt + 0 + 0; omega) (by show (f 20).toInt = (f 20).toInt; omega) (by show (f 37).toInt + 0 = z96.toInt + 0 + -1; omega) (by show (f 32).toInt + 0 = (f 32).toInt + 0 + 0; omega) (by show (f 5).toInt + 0 = y22.toInt + 0 + -1; omega)⟩⟩ : mg_good (g'130 34) (g'130 38) (g'130 23) (((1 : Int), (0 : Int), (0 : Int), (0 : Int), []) :: (((13 : Int), r56.toInt, r66.toInt, z39.toInt, []) :: gs)) (z15.toInt) ((f 20).toInt) (z96.toInt) ((f 32).toInt) (y22.toInt))
    · exact ⟨(by show 0 ≤ z21.toInt; omega), (by show z21.toInt ≤ (f 0).toInt; omega), (by show (f 0).toInt ≤ 512; omega), (by show 0 ≤ z109.toInt; omega), (by show z109.toInt + (f 20).toInt + mg_p1 (((1 : Int), (0 : Int), (0 : Int), (0 : Int), []) :: (((13 : Int), r56.toInt, r66.toInt, z39.toInt, []) :: gs)) ≤ 4 * z21.toInt; omega), (by show (f 20).toInt ≤ z21.toInt; omega), (by show z15.toInt + mg_p2 (((1 : Int), (0 : Int), (0 : Int), (0 : Int), []) :: (((13 : Int), r56.toInt, r66.toInt, z39.toInt, []) :: gs)) ≤ z21.toInt; omega), (by show mg_p3 (((1 : Int), (0 : Int), (0 : Int), (0 : Int), []) :: (((13 : Int), r56.toInt, r66.toInt, z39.toInt, []) :: gs)) ≤ 20 * z21.toInt + 20; omega), (by show 0 ≤ z85.toInt; omega), (by show z85.toInt + 3 * (f 20).toInt + mg_p4 (((1 : Int), (0 : Int), (0 : Int), (0 : Int), []) :: (((13 : Int), r56.toInt, r66.toInt, z39.toInt, []) :: gs)) ≤ 60 * z21.toInt + 60; omega), (by show 0 ≤ o2.toInt; omega), (by show o2.toInt + 64 * mj_n (g'130 16) z15.toNatClampNeg 3 ≤ 64 * z21.toInt; rw [show g'130 16 = g'121 16 from h134_ 16 (by decide), show g'121 16 = g'111 16 from h125_ 16 (by decide), show g'111 16 = g'97 16 from h115_ 16 (by decide), show g'97 16 = g'87 16 from h101_ 16 (by decide), show g'87 16 = g'76 16 from h92_ 16 (by decide), show g'76 16 = g'57 16 from h81_ 16 (by decide), show g'57 16 = g'46 16 from h62_ 16 (by decide), show g'46 16 = g'5 16 from h50_ 16 (by decide)]; omega), (by show 0 ≤ (f 44).toInt; omega), (by show (f 44).toInt ≤ z21.toInt; omega), (by show 0 ≤ (f 48).toInt; omega), (by show (f 48).toInt ≤ z21.toInt; omega), (by show 1 ≤ (f 53).toInt; omega), (by show (f 53).toInt ≤ z21.toInt + 1; omega), (by show 0 ≤ (f 19).toInt; omega), (by show (f 19).toInt ≤ 600; omega), (by show 0 ≤ (f 6).toInt; omega), (by show 0 ≤ a107.toInt; omega)⟩
    · show 100 * ((f 0).toInt - z21.toInt) + mg_p3 (((1 : Int), (0 : Int), (0 : Int), (0 : Int), []) :: (((13 : Int), r56.toInt, r66.toInt, z39.toInt, []) :: gs)) < 100 * ((f 0).toInt - (f 4).toInt) + (1 + mg_p3 gs); omega
  · subst hv32
    have h34_ : (0 : Int) ≤ a30.toInt := h34
    replace hS33 : MS S0 S20 (upd (upd (upd (upd (upd (upd (upd f 6 a30) 7 b31) 10 0) 15 z15) 62 o2) 68 s3) 75 m4) g'5 := hS33
    have hR136 := rj_clear0 hR14_
    have hR137 : RJ (upd (upd (upd (upd (upd (upd (upd f 6 a30) 7 b31) 10 0) 15 z15) 62 o2) 68 s3) 75 m4) g'5 [] bc [] 0 [] := hR136
    show am_E _ _ _ _ [some (.ref 39), some (.int on), none, none, none] [.int 0] _ _
    refine am_e12f hi_253_6 (by decide) ?_
    refine am_e35 hi_253_9 ?_
    show am_E _ _ _ _ [some (.ref 39), some (.int 12), some (.int on), some (.int tw), some (.int th)] [] _ _
    refine am_e18 hi_180_248 ?_
    refine am_e35 hi_180_371 ?_
    have hRc := rj_clear0 hR137
    refine ⟨_, _, [], _, rfl, hS33, Or.inr ⟨hRc, rfl, (by show 0 ≤ (f 4).toInt; omega), (by show (f 4).toInt ≤ (f 0).toInt; omega), (by show 0 ≤ (f 32).toInt; omega), (by show (f 32).toInt ≤ 63; omega), (by show 1 ≤ (f 53).toInt; omega), (by show (f 53).toInt ≤ 600; omega), (by show 0 ≤ s3.toInt; omega), (by show s3.toInt ≤ 60000; omega), (by show 0 ≤ (f 48).toInt; omega), (by show (f 48).toInt ≤ 8000; omega), (by show 0 ≤ (f 37).toInt; omega), (by show (f 37).toInt ≤ 128; omega), (by show 0 ≤ o2.toInt; omega), (by show o2.toInt ≤ 65000; omega), (by show 0 ≤ (f 19).toInt; omega), (by show (f 19).toInt ≤ 600; omega), (by show 0 ≤ a30.toInt; omega), (by show 0 ≤ (f 8).toInt; omega)⟩⟩
