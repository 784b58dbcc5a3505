/-! STEPS: loops over numbers begun (printed by wip/p2/st2.py) -/
set_option maxHeartbeats 16000000 in
theorem st_11 {sc : Nat × (Nat → Int32)} {d : Nat} {S0 S : am_S} {f : Nat → Int32} {g : Nat → Nat → Int32} {on : Int32} {tw : Int32} {th : Int32} {gs : List mg_E} {bc : List (List Nat)} (hS : MS S0 S f g) (hR : RJ f g gs bc [] 0 []) (hrest : mg_good (g 34) (g 38) (g 23) gs ((f 15).toInt + -1) ((f 20).toInt) ((f 37).toInt + 0) ((f 32).toInt + 0) ((f 5).toInt + 0)) (p0 : 0 ≤ (f 4).toInt) (p1 : (f 4).toInt ≤ (f 0).toInt) (p2 : (f 0).toInt ≤ 512) (p3 : 0 ≤ (f 24).toInt) (p4 : (f 24).toInt + (f 20).toInt + mg_p1 gs ≤ 4 * (f 4).toInt) (p5 : (f 20).toInt ≤ (f 4).toInt) (p6 : (f 15).toInt + 0 + mg_p2 gs ≤ (f 4).toInt) (p7 : 1 + mg_p3 gs ≤ 20 * (f 4).toInt + 20) (p8 : 0 ≤ (f 68).toInt) (p9 : (f 68).toInt + 3 * (f 20).toInt + 0 + mg_p4 gs ≤ 60 * (f 4).toInt + 60) (p10 : 0 ≤ (f 62).toInt) (p11 : (f 62).toInt + 64 * mj_n (g 16) (f 15).toNatClampNeg 3 ≤ 64 * (f 4).toInt) (p12 : 0 ≤ (f 44).toInt) (p13 : (f 44).toInt ≤ (f 4).toInt) (p14 : 0 ≤ (f 48).toInt) (p15 : (f 48).toInt ≤ (f 4).toInt) (p16 : 1 ≤ (f 53).toInt) (p17 : (f 53).toInt ≤ (f 4).toInt + 1) (p18 : 0 ≤ (f 19).toInt) (p19 : (f 19).toInt ≤ 600) (p20 : 0 ≤ mg_p1 gs) (p21 : 0 ≤ mg_p2 gs) (p22 : 0 ≤ mg_p4 gs) (p23 : 0 ≤ (f 10).toInt) (p24 : (f 10).toInt ≤ mg_p3 gs) (p25 : 0 ≤ mj_n (g 16) (f 15).toNatClampNeg 3) (p26 : 1 ≤ (f 15).toInt) (p27 : 0 ≤ (f 20).toInt) (p28 : 1 ≤ (f 37).toInt) (p29 : 0 ≤ (f 32).toInt) (p30 : (f 32).toInt ≤ (f 5).toInt) (p31 : (f 5).toInt ≤ 48) (p32 : (f 37).toInt ≤ 2 * (f 5).toInt + 1) (p33 : 0 ≤ on.toInt) (p34 : on.toInt ≤ 16000) : am_E (am_PP sc) (d + 8) 180 0 [some (.ref 39), some (.int 11), some (.int on), some (.int tw), some (.int th)] [] S (am_N fun v S1 => ∃ (f' : Nat → Int32) (g' : Nat → Nat → Int32) (gs' : List mg_E) (bc' : List (List Nat)), v = none ∧ MS S0 S1 f' g' ∧ (mg_on f (100 * ((f 0).toInt - (f 4).toInt) + (1 + mg_p3 gs)) f' g' gs' bc' ∨ mg_off f f' g' bc')) := by
  have hbs := mg_basic hrest
  refine am_e1 (v := 11) hi_180_0 rfl ?_
  refine am_e0 hi_180_1 ?_
  refine am_e13t hi_180_3 (by decide) ?_
  refine am_e1 (v := 11) hi_180_14 rfl ?_
  refine am_e19 (t := 231) hi_180_15 (by decide) ?_
  refine am_e2 (v := 39) hi_180_231 rfl ?_
  refine am_e1 (v := on) hi_180_232 rfl ?_
  refine am_e32w (as := [.ref 39, .int on]) (la := [some (.ref 39), some (.int on)]) (rest := []) hi_180_233 (am_hd0 (M := 180) (by decide) 233) (Nat.le_of_ble_eq_true rfl) (Nat.le_of_ble_eq_true rfl) (show 2 ≤ am_P0.2.2.1 252 from by decide +kernel) rfl (am_recv_ok hS.fs) rfl rfl ?_
  refine am_e2 (v := 39) hi_252_0 rfl ?_
  refine am_e32w (as := [.ref 39]) (la := [some (.ref 39)]) (rest := []) hi_252_1 (am_hd0 (M := 252) (by decide) 1) (Nat.le_of_ble_eq_true rfl) (Nat.le_of_ble_eq_true rfl) (show 1 ≤ am_P0.2.2.1 209 from by decide +kernel) rfl (am_recv_ok hS.fs) rfl rfl ?_
  refine am_e2 (v := 39) hi_209_0 rfl ?_
  refine am_e32n (as := [.ref 39]) (la := [some (.ref 39), none, none, none]) (rest := []) hi_209_1 (am_hd0 (M := 209) (by decide) 1) (Nat.le_of_ble_eq_true rfl) (Nat.le_of_ble_eq_true rfl) (show 1 ≤ am_P0.2.2.1 204 from by decide +kernel) rfl (am_recv_ok hS.fs) rfl rfl (ct_load (d := (d + 3)) hS hR  (by show (0 : Int) ≤ (f 32).toInt; omega) (by show (f 32).toInt ≤ (63 : Int); omega) (by show (f 53).toInt ≤ (4096 : Int); omega) (by show (0 : Int) ≤ (f 68).toInt; omega) (by show (f 68).toInt ≤ (65534 : Int); omega) (by show (1 : Int) ≤ (f 15).toInt; omega) (by show (f 15).toInt ≤ (32767 : Int); omega) (by show (0 : Int) ≤ (f 24).toInt; omega) (by show (f 24).toInt ≤ (16384 : Int); omega) (by show (0 : Int) ≤ (f 62).toInt; omega) (by show (f 62).toInt ≤ (65000 : Int); omega)) ?_
  rintro v0 S1 (⟨o2, s3, m4, g'5, hv6, hS7, hR14, h8, h9, h10, h11, h12, h13⟩)
  subst hv6
  have h8_ : (f 62).toInt ≤ o2.toInt := h8
  have h9_ : o2.toInt ≤ (f 62).toInt + 64 := h9
  have h10_ : (f 68).toInt ≤ s3.toInt := h10
  have h11_ : s3.toInt ≤ (f 68).toInt + 1 := h11
  have h12_ : o2.toInt + 64 * mj_n (g'5 16) (f 15).toNatClampNeg 3 ≤ (f 62).toInt + 64 * mj_n (g 16) (f 15).toNatClampNeg 3 := h12
  have h13_ : ∀ j, j ∉ [16, 60, 63, 64, 65, 66, 67, 69, 70, 71, 72, 73] → g'5 j = g j := h13
  have hR14_ : RJ (upd (upd (upd f 62 o2) 68 s3) 75 m4) g'5 gs bc [] 0 [] := hR14
  show am_E _ _ _ _ [some (.ref 39)] [] _ _
  refine am_e2 (v := 39) hi_209_4 rfl ?_
  refine am_e7 hi_209_5 ?_
  refine mm_20 (v := .int (f 15)) hS7 hi_209_6 rfl ?_
  refine am_e0 hi_209_9 ?_
  obtain ⟨z15, hz15, tz15⟩ := am_subI (x := f 15) (y := 1) (m := (f 15).toInt) (n := (1 : Int)) rfl (by decide) (by omega) (by omega)
  refine am_e10 (z := z15) hi_209_10 hz15 ?_
  refine mm_21 (v := z15) hS7 hi_209_11 rfl (Nat.le_of_ble_eq_true rfl) ms_15 ?_
  intro S16 hS17
  replace hS17 : MS S0 S16 (upd (upd (upd (upd f 15 z15) 62 o2) 68 s3) 75 m4) g'5 := hS17
  have hp18 : mj_n (g'5 16) (f 15).toNatClampNeg 3 = mj_n (g'5 16) z15.toNatClampNeg 3 + if (g'5 16 z15.toNatClampNeg).toInt = 3 then 1 else 0 := mj_pop (by rw [cl_toNat, cl_toNat]; omega)
  have hp181 : mj_n (g'5 16) z15.toNatClampNeg 3 ≤ mj_n (g'5 16) (f 15).toNatClampNeg 3 := by rw [hp18]; split <;> omega
  have hp182 : (g'5 16 z15.toNatClampNeg).toInt = 3 → mj_n (g'5 16) z15.toNatClampNeg 3 + 1 ≤ mj_n (g'5 16) (f 15).toNatClampNeg 3 := fun q => by rw [hp18, if_pos q]; exact Int.le_refl _
  refine am_e35 hi_209_14 ?_
  show am_E _ _ _ _ [some (.ref 39), some (.int on)] [] _ _
  refine am_e2 (v := 39) hi_252_4 rfl ?_
  refine am_e32n (as := [.ref 39]) (la := [some (.ref 39)]) (rest := []) hi_252_5 (am_hd0 (M := 252) (by decide) 5) (Nat.le_of_ble_eq_true rfl) (Nat.le_of_ble_eq_true rfl) (show 1 ≤ am_P0.2.2.1 183 from by decide +kernel) rfl (am_recv_ok hS17.fs) rfl rfl (ct_next (d := (d + 5)) hS17   (by show (0 : Int) ≤ (f 4).toInt; omega) (by show (f 0).toInt ≤ (16384 : Int); omega)) ?_
  rintro v19 S20 (⟨r21, hv22, hS23, h24⟩)
  subst hv22
  have h24_ : (f 4).toInt < (f 0).toInt ∨ r21.toInt = (-1 : Int) := h24
  show am_E _ _ _ _ [some (.ref 39), some (.int on)] [.int r21] _ _
  refine am_e0 hi_252_8 ?_
  by_cases c26 : ¬ r21.toInt = (69 : Int)
  · refine am_e13t hi_252_10 (am_cT (m := r21.toInt) (n := (69 : Int)) rfl (by decide) c26) ?_
    refine am_e2 (v := 39) hi_252_40 rfl ?_
    refine am_e0 hi_252_41 ?_
    refine am_e0 hi_252_42 ?_
    refine am_e0 hi_252_44 ?_
    refine am_e0 hi_252_45 ?_
    refine am_e32n (as := [.ref 39, .int 4, .int (-4), .int 0, .int 0]) (la := [some (.ref 39), some (.int 4), some (.int (-4)), some (.int 0), some (.int 0)]) (rest := []) hi_252_46 (am_hd0 (M := 252) (by decide) 46) (Nat.le_of_ble_eq_true rfl) (Nat.le_of_ble_eq_true rfl) (show 5 ≤ am_P0.2.2.1 189 from by decide +kernel) rfl (am_recv_ok hS23.fs) rfl rfl (ct_put (d := (d + 6)) hS23 hR14_  (by show (0 : Int) ≤ (f 32).toInt; omega) (by show (f 32).toInt ≤ (63 : Int); omega) (by show (f 53).toInt ≤ (4096 : Int); omega) (by show (0 : Int) ≤ s3.toInt; omega) (by show s3.toInt ≤ (65534 : Int); omega)) ?_
    rintro v27 S28 (⟨z29, r30, g'31, hv32, hS33, hR37, h34, h35, h36⟩)
    subst hv32
    have h34_ : z29.toInt = s3.toInt + 1 := h34
    have h35_ : r30.toInt = s3.toInt := h35
    have h36_ : ∀ j, j ∉ [60, 69, 70, 71, 72, 73] → g'31 j = g'5 j := h36
    replace hS33 : MS S0 S28 (upd (upd (upd (upd f 15 z15) 62 o2) 68 z29) 75 m4) g'31 := hS33
    have hR37_ : RJ (upd (upd (upd (upd f 15 z15) 62 o2) 68 z29) 75 m4) g'31 gs bc [] 0 (s3.toNatClampNeg :: []) := hR37
    show am_E _ _ _ _ [some (.ref 39), some (.int on)] [.int r30] _ _
    refine am_e6i hi_252_49 ?_
    refine am_e2 (v := 39) hi_252_50 rfl ?_
    refine am_e1 (v := on) hi_252_51 rfl ?_
    refine am_e32w (as := [.ref 39, .int on]) (la := [some (.ref 39), some (.int on), none, none, none]) (rest := []) hi_252_52 (am_hd0 (M := 252) (by decide) 52) (Nat.le_of_ble_eq_true rfl) (Nat.le_of_ble_eq_true rfl) (show 2 ≤ am_P0.2.2.1 253 from by decide +kernel) rfl (am_recv_ok hS33.fs) rfl rfl ?_
    refine am_e2 (v := 39) hi_253_0 rfl ?_
    refine am_e0 hi_253_1 ?_
    refine am_e32n (as := [.ref 39, .int 12]) (la := [some (.ref 39), some (.int 12)]) (rest := []) hi_253_3 (am_hd0 (M := 253) (by decide) 3) (Nat.le_of_ble_eq_true rfl) (Nat.le_of_ble_eq_true rfl) (show 2 ≤ am_P0.2.2.1 193 from by decide +kernel) rfl (am_recv_ok hS33.fs) rfl rfl (ct_enter (d := (d + 3)) hS33   (by show (0 : Int) ≤ (f 4).toInt; omega) (by show (f 0).toInt ≤ (16384 : Int); omega) (by show (0 : Int) ≤ (12 : Int); omega) (by show (0 : Int) ≤ (f 5).toInt; omega) (by show (f 5).toInt ≤ (48 : Int); omega)) ?_
    rintro v38 S39 (⟨z40, y41, hv42, hS43, h44, h45, h46, h47⟩ | ⟨a49, b50, hv51, hS52⟩)
    · subst hv42
      have h44_ : z40.toInt = (f 4).toInt + 1 := h44
      have h45_ : (f 4).toInt < (f 0).toInt := h45
      have h46_ : y41.toInt = (f 5).toInt + 1 := h46
      have h47_ : y41.toInt ≤ (48 : Int) := h47
      replace hS43 : MS S0 S39 (upd (upd (upd (upd (upd (upd f 4 z40) 5 y41) 15 z15) 62 o2) 68 z29) 75 m4) g'31 := hS43
      have hR54 : RJ (upd (upd (upd (upd (upd (upd f 4 z40) 5 y41) 15 z15) 62 o2) 68 z29) 75 m4) g'31 gs bc [] 0 (s3.toNatClampNeg :: []) := RJ.at hR37_ (by show (f 4).toInt ≤ z40.toInt; omega)
      show am_E _ _ _ _ [some (.ref 39), some (.int on), none, none, none] [.int 1] _ _
      refine am_e12t hi_253_6 (by decide) ?_
      refine am_e2 (v := 39) hi_253_10 rfl ?_
      refine am_e32w (as := [.ref 39]) (la := [some (.ref 39)]) (rest := []) hi_253_11 (am_hd0 (M := 253) (by decide) 11) (Nat.le_of_ble_eq_true rfl) (Nat.le_of_ble_eq_true rfl) (show 1 ≤ am_P0.2.2.1 197 from by decide +kernel) rfl (am_recv_ok hS43.fs) rfl rfl ?_
      refine am_e2 (v := 39) hi_197_0 rfl ?_
      refine mm_20 (v := .int (f 24)) hS43 hi_197_1 rfl ?_
      refine am_e2 (v := 39) hi_197_4 rfl ?_
      refine mm_20 (v := .ref 59) hS43 hi_197_5 rfl ?_
      refine am_e2 (v := 39) hi_197_8 rfl ?_
      refine mm_20 (v := .int (f 32)) hS43 hi_197_9 rfl ?_
      refine mm_25 hS43 ma_34 hi_197_12 (by decide) (by omega) (by omega) ?_
      show am_E _ _ _ _ _ (.int (g'31 34 (f 32).toNatClampNeg) :: _) _ _
      rw [show g'31 34 = g'5 34 from h36_ 34 (by decide), show g'5 34 = g 34 from h13_ 34 (by decide)]
      show am_E _ _ _ _ [some (.ref 39)] [.int (g 34 (f 32).toNatClampNeg), .int (f 24)] _ _
      have r55 : 0 ≤ (g 34 (f 32).toNatClampNeg).toInt := by
        have h := RJ.ba hR54 (f 32).toNatClampNeg
        rw [show g'31 34 = g'5 34 from h36_ 34 (by decide), show g'5 34 = g 34 from h13_ 34 (by decide)] at h
        exact h
      have r56 : (g 34 (f 32).toNatClampNeg).toInt ≤ 2147483647 := i32_le _
      obtain ⟨z57, hz57, tz57⟩ := am_subI (x := f 24) (y := g 34 (f 32).toNatClampNeg) (m := (f 24).toInt) (n := (g 34 (f 32).toNatClampNeg).toInt) rfl rfl (by omega) (by omega)
      refine am_e10 (z := z57) hi_197_13 hz57 ?_
      refine am_e33 hi_197_14 ?_
      show am_E _ _ _ _ [some (.ref 39), some (.int on), none, none, none] [.int z57] _ _
      refine am_e3 (ls' := [some (.ref 39), some (.int on), some (.int z57), none, none]) hi_253_14 (Nat.le_of_ble_eq_true rfl) rfl ?_
      refine am_e2 (v := 39) hi_253_15 rfl ?_
      refine am_e0 hi_253_16 ?_
      refine am_e0 hi_253_17 ?_
      refine am_e1 (v := on) hi_253_18 rfl ?_
      refine am_e32n (as := [.ref 39, .int 3, .int 0, .int on]) (la := [some (.ref 39), some (.int 3), some (.int 0), some (.int on), none]) (rest := []) hi_253_19 (am_hd0 (M := 253) (by decide) 19) (Nat.le_of_ble_eq_true rfl) (Nat.le_of_ble_eq_true rfl) (show 4 ≤ am_P0.2.2.1 254 from by decide +kernel) rfl (am_recv_ok hS43.fs) rfl rfl (ct_hide (d := (d + 3)) hS43 hR54 (by decide)  (by show (0 : Int) ≤ (f 32).toInt; omega) (by show (f 32).toInt ≤ (63 : Int); omega) (by show (f 53).toInt ≤ (4096 : Int); omega) (by show (0 : Int) ≤ (f 24).toInt; omega) (by show (f 24).toInt ≤ (16000 : Int); omega) (by show (0 : Int) ≤ (3 : Int); omega) (by show (3 : Int) ≤ (16 : Int); omega)) ?_
      rintro v58 S59 (⟨a60, b61, l62, y63, g'64, hv65, hS66, hR69, h67, h68⟩)
      subst hv65
      have h67_ : l62.toInt = (f 24).toInt + (3 : Int) := h67
      have h68_ : ∀ j, j ∉ [25, 26, 27, 28, 29, 30, 58] → g'64 j = g'31 j := h68
      replace hS66 : MS S0 S59 (upd (upd (upd (upd (upd (upd (upd (upd (upd (upd f 4 z40) 5 y41) 8 a60) 9 b61) 15 z15) 24 l62) 31 y63) 62 o2) 68 z29) 75 m4) g'64 := hS66
      have hR69_ : RJ (upd (upd (upd (upd (upd (upd (upd (upd (upd (upd f 4 z40) 5 y41) 8 a60) 9 b61) 15 z15) 24 l62) 31 y63) 62 o2) 68 z29) 75 m4) g'64 gs bc [] 0 (s3.toNatClampNeg :: []) := hR69
      show am_E _ _ _ _ [some (.ref 39), some (.int on), some (.int z57), none, none] [] _ _
      refine am_e2 (v := 39) hi_253_22 rfl ?_
      refine am_e0 hi_253_23 ?_
      refine am_e1 (v := z57) hi_253_25 rfl ?_
      refine am_e0 hi_253_26 ?_
      refine am_e1 (v := on) hi_253_27 rfl ?_
      refine am_e32n (as := [.ref 39, .int 38, .int z57, .int 0, .int on]) (la := [some (.ref 39), some (.int 38), some (.int z57), some (.int 0), some (.int on)]) (rest := []) hi_253_28 (am_hd0 (M := 253) (by decide) 28) (Nat.le_of_ble_eq_true rfl) (Nat.le_of_ble_eq_true rfl) (show 5 ≤ am_P0.2.2.1 189 from by decide +kernel) rfl (am_recv_ok hS66.fs) rfl rfl (ct_put (d := (d + 5)) hS66 hR69_  (by show (0 : Int) ≤ (f 32).toInt; omega) (by show (f 32).toInt ≤ (63 : Int); omega) (by show (f 53).toInt ≤ (4096 : Int); omega) (by show (0 : Int) ≤ z29.toInt; omega) (by show z29.toInt ≤ (65534 : Int); omega)) ?_
      rintro v70 S71 (⟨z72, r73, g'74, hv75, hS76, hR80, h77, h78, h79⟩)
      subst hv75
      have h77_ : z72.toInt = z29.toInt + 1 := h77
      have h78_ : r73.toInt = z29.toInt := h78
      have h79_ : ∀ j, j ∉ [60, 69, 70, 71, 72, 73] → g'74 j = g'64 j := h79
      replace hS76 : MS S0 S71 (upd (upd (upd (upd (upd (upd (upd (upd (upd (upd f 4 z40) 5 y41) 8 a60) 9 b61) 15 z15) 24 l62) 31 y63) 62 o2) 68 z72) 75 m4) g'74 := hS76
      have hR80_ : RJ (upd (upd (upd (upd (upd (upd (upd (upd (upd (upd f 4 z40) 5 y41) 8 a60) 9 b61) 15 z15) 24 l62) 31 y63) 62 o2) 68 z72) 75 m4) g'74 gs bc [] 0 (z29.toNatClampNeg :: (s3.toNatClampNeg :: [])) := hR80
      show am_E _ _ _ _ [some (.ref 39), some (.int on), some (.int z57), none, none] [.int r73] _ _
      refine am_e3 (ls' := [some (.ref 39), some (.int on), some (.int z57), some (.int r73), none]) hi_253_31 (Nat.le_of_ble_eq_true rfl) rfl ?_
      refine am_e2 (v := 39) hi_253_32 rfl ?_
      refine am_e32n (as := [.ref 39]) (la := [some (.ref 39)]) (rest := []) hi_253_33 (am_hd0 (M := 253) (by decide) 33) (Nat.le_of_ble_eq_true rfl) (Nat.le_of_ble_eq_true rfl) (show 1 ≤ am_P0.2.2.1 210 from by decide +kernel) rfl (am_recv_ok hS76.fs) rfl rfl (ct_here (d := (d + 5)) hS76 hR80_  (by show (0 : Int) ≤ (f 32).toInt; omega) (by show (f 32).toInt ≤ (63 : Int); omega) (by show (f 53).toInt ≤ (4096 : Int); omega) (by show (0 : Int) ≤ z72.toInt; omega) (by show z72.toInt ≤ (65534 : Int); omega)) ?_
      rintro v81 S82 (⟨r83, hv84, hS85, h86, h87⟩)
      subst hv84
      have h86_ : (0 : Int) ≤ r83.toInt := h86
      have h87_ : r83.toInt ≤ z72.toInt := h87
      show am_E _ _ _ _ [some (.ref 39), some (.int on), some (.int z57), some (.int r73), none] [.int r83] _ _
      refine am_e3 (ls' := [some (.ref 39), some (.int on), some (.int z57), some (.int r73), some (.int r83)]) hi_253_36 (Nat.le_of_ble_eq_true rfl) rfl ?_
      refine am_e2 (v := 39) hi_253_38 rfl ?_
      refine am_e0 hi_253_39 ?_
      refine am_e0 hi_253_41 ?_
      refine am_e0 hi_253_42 ?_
      refine am_e1 (v := on) hi_253_43 rfl ?_
      refine am_e32n (as := [.ref 39, .int 34, .int 0, .int 0, .int on]) (la := [some (.ref 39), some (.int 34), some (.int 0), some (.int 0), some (.int on)]) (rest := []) hi_253_44 (am_hd0 (M := 253) (by decide) 44) (Nat.le_of_ble_eq_true rfl) (Nat.le_of_ble_eq_true rfl) (show 5 ≤ am_P0.2.2.1 189 from by decide +kernel) rfl (am_recv_ok hS85.fs) rfl rfl (ct_put (d := (d + 5)) hS85 hR80_  (by show (0 : Int) ≤ (f 32).toInt; omega) (by show (f 32).toInt ≤ (63 : Int); omega) (by show (f 53).toInt ≤ (4096 : Int); omega) (by show (0 : Int) ≤ z72.toInt; omega) (by show z72.toInt ≤ (65534 : Int); omega)) ?_
      rintro v89 S90 (⟨z91, r92, g'93, hv94, hS95, hR99, h96, h97, h98⟩)
      subst hv94
      have h96_ : z91.toInt = z72.toInt + 1 := h96
      have h97_ : r92.toInt = z72.toInt := h97
      have h98_ : ∀ j, j ∉ [60, 69, 70, 71, 72, 73] → g'93 j = g'74 j := h98
      replace hS95 : MS S0 S90 (upd (upd (upd (upd (upd (upd (upd (upd (upd (upd f 4 z40) 5 y41) 8 a60) 9 b61) 15 z15) 24 l62) 31 y63) 62 o2) 68 z91) 75 m4) g'93 := hS95
      have hR99_ : RJ (upd (upd (upd (upd (upd (upd (upd (upd (upd (upd f 4 z40) 5 y41) 8 a60) 9 b61) 15 z15) 24 l62) 31 y63) 62 o2) 68 z91) 75 m4) g'93 gs bc [] 0 (z72.toNatClampNeg :: (z29.toNatClampNeg :: (s3.toNatClampNeg :: []))) := hR99
      show am_E _ _ _ _ [some (.ref 39), some (.int on), some (.int z57), some (.int r73), some (.int r83)] [.int r92] _ _
      refine am_e6i hi_253_47 ?_
      refine am_e2 (v := 39) hi_253_48 rfl ?_
      refine am_e0 hi_253_49 ?_
      refine am_e1 (v := z57) hi_253_51 rfl ?_
      refine am_e0 hi_253_52 ?_
      refine am_e0 hi_253_53 ?_
      refine am_e32n (as := [.ref 39, .int 39, .int z57, .int 0, .int 0]) (la := [some (.ref 39), some (.int 39), some (.int z57), some (.int 0), some (.int 0)]) (rest := []) hi_253_54 (am_hd0 (M := 253) (by decide) 54) (Nat.le_of_ble_eq_true rfl) (Nat.le_of_ble_eq_true rfl) (show 5 ≤ am_P0.2.2.1 189 from by decide +kernel) rfl (am_recv_ok hS95.fs) rfl rfl (ct_put (d := (d + 5)) hS95 hR99_  (by show (0 : Int) ≤ (f 32).toInt; omega) (by show (f 32).toInt ≤ (63 : Int); omega) (by show (f 53).toInt ≤ (4096 : Int); omega) (by show (0 : Int) ≤ z91.toInt; omega) (by show z91.toInt ≤ (65534 : Int); omega)) ?_
      rintro v100 S101 (⟨z102, r103, g'104, hv105, hS106, hR110, h107, h108, h109⟩)
      subst hv105
      have h107_ : z102.toInt = z91.toInt + 1 := h107
      have h108_ : r103.toInt = z91.toInt := h108
      have h109_ : ∀ j, j ∉ [60, 69, 70, 71, 72, 73] → g'104 j = g'93 j := h109
      replace hS106 : MS S0 S101 (upd (upd (upd (upd (upd (upd (upd (upd (upd (upd f 4 z40) 5 y41) 8 a60) 9 b61) 15 z15) 24 l62) 31 y63) 62 o2) 68 z102) 75 m4) g'104 := hS106
      have hR110_ : RJ (upd (upd (upd (upd (upd (upd (upd (upd (upd (upd f 4 z40) 5 y41) 8 a60) 9 b61) 15 z15) 24 l62) 31 y63) 62 o2) 68 z102) 75 m4) g'104 gs bc [] 0 (z91.toNatClampNeg :: (z72.toNatClampNeg :: (z29.toNatClampNeg :: (s3.toNatClampNeg :: [])))) := hR110
      show am_E _ _ _ _ [some (.ref 39), some (.int on), some (.int z57), some (.int r73), some (.int r83)] [.int r103] _ _
      refine am_e6i hi_253_57 ?_
      refine am_e2 (v := 39) hi_253_58 rfl ?_
      refine am_e0 hi_253_59 ?_
      refine am_e32n (as := [.ref 39, .int 1]) (la := [some (.ref 39), some (.int 1)]) (rest := []) hi_253_60 (am_hd0 (M := 253) (by decide) 60) (Nat.le_of_ble_eq_true rfl) (Nat.le_of_ble_eq_true rfl) (show 2 ≤ am_P0.2.2.1 177 from by decide +kernel) rfl (am_recv_ok hS106.fs) rfl rfl (ct_beginBlock2 (d := (d + 5)) hS106 hR110_ (by decide)  (by show (0 : Int) ≤ (f 37).toInt; omega) (by show (f 37).toInt ≤ (127 : Int); omega) (by show (0 : Int) ≤ l62.toInt; omega) (by show (0 : Int) ≤ (f 44).toInt; omega) (by show (f 44).toInt ≤ z40.toInt; omega) (by show (0 : Int) ≤ (f 48).toInt; omega)) ?_
      rintro v111 S112 (⟨z113, g'114, hv115, hS116, hR120, h117, h118, h119⟩)
      subst hv115
      have h117_ : z113.toInt = (f 37).toInt + 1 := h117
      have h118_ : ∀ j, j ∉ [38, 39, 40, 41, 42, 43] → g'114 j = g'104 j := h118
      have h119_ : g'114 38 = upd (g'104 38) (f 37).toNatClampNeg l62 := h119
      replace hS116 : MS S0 S112 (upd (upd (upd (upd (upd (upd (upd (upd (upd (upd (upd f 4 z40) 5 y41) 8 a60) 9 b61) 15 z15) 24 l62) 31 y63) 37 z113) 62 o2) 68 z102) 75 m4) g'114 := hS116
      have hR120_ : RJ (upd (upd (upd (upd (upd (upd (upd (upd (upd (upd (upd f 4 z40) 5 y41) 8 a60) 9 b61) 15 z15) 24 l62) 31 y63) 37 z113) 62 o2) 68 z102) 75 m4) g'114 gs ([] :: bc) [] 0 (z91.toNatClampNeg :: (z72.toNatClampNeg :: (z29.toNatClampNeg :: (s3.toNatClampNeg :: [])))) := hR120
      show am_E _ _ _ _ [some (.ref 39), some (.int on), some (.int z57), some (.int r73), some (.int r83)] [] _ _
      refine am_e2 (v := 39) hi_253_63 rfl ?_
      refine am_e2 (v := 39) hi_253_64 rfl ?_
      refine mm_20 (v := .ref 41) hS116 hi_253_65 rfl ?_
      refine am_e1 (v := on) hi_253_68 rfl ?_
      refine am_e0 hi_253_69 ?_
      obtain ⟨z121, hz121, tz121⟩ := am_addI (x := on) (y := 1) (m := on.toInt) (n := (1 : Int)) rfl (by decide) (by omega) (by omega)
      refine am_e10 (z := z121) hi_253_70 hz121 ?_
      refine mm_25 hS116 ma_2 hi_253_71 (by decide) (by omega) (by omega) ?_
      show am_E _ _ _ _ _ (.int (g'114 2 z121.toNatClampNeg) :: _) _ _
      rw [show g'114 2 = g'104 2 from h118_ 2 (by decide), show g'104 2 = g'93 2 from h109_ 2 (by decide), show g'93 2 = g'74 2 from h98_ 2 (by decide), show g'74 2 = g'64 2 from h79_ 2 (by decide), show g'64 2 = g'31 2 from h68_ 2 (by decide), show g'31 2 = g'5 2 from h36_ 2 (by decide), show g'5 2 = g 2 from h13_ 2 (by decide)]
      show am_E _ _ _ _ [some (.ref 39), some (.int on), some (.int z57), some (.int r73), some (.int r83)] [.int (g 2 z121.toNatClampNeg), .ref 39] _ _
      refine am_e0 hi_253_72 ?_
      refine am_e0 hi_253_73 ?_
      refine am_e1 (v := on) hi_253_74 rfl ?_
      refine am_e0 hi_253_75 ?_
      refine am_e10 (z := z121) hi_253_76 hz121 ?_
      refine am_e32n (as := [.ref 39, .int (g 2 z121.toNatClampNeg), .int 0, .int 0, .int z121]) (la := [some (.ref 39), some (.int (g 2 z121.toNatClampNeg)), some (.int 0), some (.int 0), some (.int z121), none]) (rest := []) hi_253_77 (am_hd0 (M := 253) (by decide) 77) (Nat.le_of_ble_eq_true rfl) (Nat.le_of_ble_eq_true rfl) (show 5 ≤ am_P0.2.2.1 196 from by decide +kernel) rfl (am_recv_ok hS116.fs) rfl rfl (ct_declare (d := (d + 4)) hS116 hR120_ (by decide) (by decide)  (by show (0 : Int) ≤ (f 32).toInt; omega) (by show (f 32).toInt ≤ (63 : Int); omega) (by show (f 53).toInt ≤ (4096 : Int); omega) (by show (0 : Int) ≤ l62.toInt; omega) (by show l62.toInt ≤ (16383 : Int); omega)) ?_
      rintro v122 S123 (⟨a124, b125, z126, y127, g'128, hv129, hS130, hR133, h131, h132⟩)
      subst hv129
      have h131_ : z126.toInt = l62.toInt + 1 := h131
      have h132_ : ∀ j, j ∉ [25, 26, 27, 28, 29, 30, 58] → g'128 j = g'114 j := h132
      replace hS130 : MS S0 S123 (upd (upd (upd (upd (upd (upd (upd (upd (upd (upd (upd f 4 z40) 5 y41) 8 a124) 9 b125) 15 z15) 24 z126) 31 y127) 37 z113) 62 o2) 68 z102) 75 m4) g'128 := hS130
      have hR133_ : RJ (upd (upd (upd (upd (upd (upd (upd (upd (upd (upd (upd f 4 z40) 5 y41) 8 a124) 9 b125) 15 z15) 24 z126) 31 y127) 37 z113) 62 o2) 68 z102) 75 m4) g'128 gs ([] :: bc) [] 0 (z91.toNatClampNeg :: (z72.toNatClampNeg :: (z29.toNatClampNeg :: (s3.toNatClampNeg :: [])))) := hR133
      show am_E _ _ _ _ [some (.ref 39), some (.int on), some (.int z57), some (.int r73), some (.int r83)] [] _ _
      refine am_e2 (v := 39) hi_253_80 rfl ?_
      refine am_e0 hi_253_81 ?_
      refine am_e1 (v := r73) hi_253_83 rfl ?_
      refine am_e1 (v := r83) hi_253_84 rfl ?_
      refine am_e1 (v := z57) hi_253_86 rfl ?_
      refine am_e32n (as := [.ref 39, .int 13, .int r73, .int r83, .int z57]) (la := [some (.ref 39), some (.int 13), some (.int r73), some (.int r83), some (.int z57)]) (rest := []) hi_253_87 (am_hd0 (M := 253) (by decide) 87) (Nat.le_of_ble_eq_true rfl) (Nat.le_of_ble_eq_true rfl) (show 5 ≤ am_P0.2.2.1 179 from by decide +kernel) rfl (am_recv_ok hS130.fs) rfl rfl (ct_pile (d := (d + 5)) hS130 hR133_ (mj_e_b (by decide) (by omega) (by show r73.toInt < z102.toInt; omega)) (by show (0 : Int) ≤ (f 10).toInt; omega) (by show (f 10).toInt ≤ (65535 : Int); omega)) ?_
      rintro v134 S135 (⟨z136, g'137, hv138, hS139, hR142, h140, h141⟩)
      subst hv138
      have h140_ : z136.toInt = (f 10).toInt + 1 := h140
      have h141_ : ∀ j, j ∉ [11, 12, 13, 14] → g'137 j = g'128 j := h141
      replace hS139 : MS S0 S135 (upd (upd (upd (upd (upd (upd (upd (upd (upd (upd (upd (upd f 4 z40) 5 y41) 8 a124) 9 b125) 10 z136) 15 z15) 24 z126) 31 y127) 37 z113) 62 o2) 68 z102) 75 m4) g'137 := hS139
      have hR142_ : RJ (upd (upd (upd (upd (upd (upd (upd (upd (upd (upd (upd (upd f 4 z40) 5 y41) 8 a124) 9 b125) 10 z136) 15 z15) 24 z126) 31 y127) 37 z113) 62 o2) 68 z102) 75 m4) g'137 (((13 : Int), r73.toInt, r83.toInt, z57.toInt, []) :: gs) ([] :: bc) [] 0 (z91.toNatClampNeg :: (z72.toNatClampNeg :: (z29.toNatClampNeg :: (s3.toNatClampNeg :: [])))) := hR142
      show am_E _ _ _ _ [some (.ref 39), some (.int on), some (.int z57), some (.int r73), some (.int r83)] [] _ _
      refine am_e2 (v := 39) hi_253_90 rfl ?_
      refine am_e32w (as := [.ref 39]) (la := [some (.ref 39)]) (rest := []) hi_253_91 (am_hd0 (M := 253) (by decide) 91) (Nat.le_of_ble_eq_true rfl) (Nat.le_of_ble_eq_true rfl) (show 1 ≤ am_P0.2.2.1 178 from by decide +kernel) rfl (am_recv_ok hS139.fs) rfl rfl ?_
      refine am_e2 (v := 39) hi_178_0 rfl ?_
      refine am_e0 hi_178_1 ?_
      refine am_e0 hi_178_2 ?_
      refine am_e0 hi_178_3 ?_
      refine am_e0 hi_178_4 ?_
      refine am_e32n (as := [.ref 39, .int 1, .int 0, .int 0, .int 0]) (la := [some (.ref 39), some (.int 1), some (.int 0), some (.int 0), some (.int 0)]) (rest := []) hi_178_5 (am_hd0 (M := 178) (by decide) 5) (Nat.le_of_ble_eq_true rfl) (Nat.le_of_ble_eq_true rfl) (show 5 ≤ am_P0.2.2.1 179 from by decide +kernel) rfl (am_recv_ok hS139.fs) rfl rfl (ct_pile (d := (d + 4)) hS139 hR142_ (mj_e_plain (by decide)) (by show (0 : Int) ≤ z136.toInt; omega) (by show z136.toInt ≤ (65535 : Int); omega)) ?_
      rintro v143 S144 (⟨z145, g'146, hv147, hS148, hR151, h149, h150⟩)
      subst hv147
      have h149_ : z145.toInt = z136.toInt + 1 := h149
      have h150_ : ∀ j, j ∉ [11, 12, 13, 14] → g'146 j = g'137 j := h150
      replace hS148 : MS S0 S144 (upd (upd (upd (upd (upd (upd (upd (upd (upd (upd (upd (upd f 4 z40) 5 y41) 8 a124) 9 b125) 10 z145) 15 z15) 24 z126) 31 y127) 37 z113) 62 o2) 68 z102) 75 m4) g'146 := hS148
      have hR151_ : RJ (upd (upd (upd (upd (upd (upd (upd (upd (upd (upd (upd (upd f 4 z40) 5 y41) 8 a124) 9 b125) 10 z145) 15 z15) 24 z126) 31 y127) 37 z113) 62 o2) 68 z102) 75 m4) g'146 (((1 : Int), (0 : Int), (0 : Int), (0 : Int), []) :: (((13 : Int), r73.toInt, r83.toInt, z57.toInt, []) :: gs)) ([] :: bc) [] 0 (z91.toNatClampNeg :: (z72.toNatClampNeg :: (z29.toNatClampNeg :: (s3.toNatClampNeg :: [])))) := hR151
      show am_E _ _ _ _ [some (.ref 39)] [] _ _
      refine am_e35 hi_178_8 ?_
      show am_E _ _ _ _ [some (.ref 39), some (.int on), some (.int z57), some (.int r73), some (.int r83)] [] _ _
      refine am_e35 hi_253_94 ?_
      show am_E _ _ _ _ [some (.ref 39), some (.int on)] [] _ _
      refine am_e35 hi_252_55 ?_
      show am_E _ _ _ _ [some (.ref 39), some (.int 11), some (.int on), some (.int tw), some (.int th)] [] _ _
      refine am_e18 hi_180_236 ?_
      refine am_e35 hi_180_371 ?_
      have q1 : mg_p1 (((1 : Int), (0 : Int), (0 : Int), (0 : Int), []) :: (((13 : Int), r73.toInt, r83.toInt, z57.toInt, []) :: gs)) = 0 + (0 + (mg_p1 gs)) := rfl
      have q2 : mg_p2 (((1 : Int), (0 : Int), (0 : Int), (0 : Int), []) :: (((13 : Int), r73.toInt, r83.toInt, z57.toInt, []) :: gs)) = 0 + (0 + (mg_p2 gs)) := rfl
      have q3 : mg_p3 (((1 : Int), (0 : Int), (0 : Int), (0 : Int), []) :: (((13 : Int), r73.toInt, r83.toInt, z57.toInt, []) :: gs)) = 1 + (1 + (mg_p3 gs)) := rfl
      have q4 : mg_p4 (((1 : Int), (0 : Int), (0 : Int), (0 : Int), []) :: (((13 : Int), r73.toInt, r83.toInt, z57.toInt, []) :: gs)) = 0 + (0 + (mg_p4 gs)) := rfl
      refine ⟨_, _, _, ([] :: bc), rfl, hS148, Or.inl ⟨⟨(RJ.fewer (pj' := []) hR151_ (fun _ h => nomatch h)), ?_, ?_⟩, rfl, ?_⟩⟩
      · exact (⟨⟨(show mg_k 1 from by decide), (show (0 : Int) ≤ z15.toInt from by omega), (show 0 ≤ (f 20).toInt from by omega), (show 1 ≤ z113.toInt from by omega), (show 0 ≤ (f 32).toInt from by omega), (show (f 32).toInt ≤ y41.toInt from by omega), (show y41.toInt ≤ 48 from by omega), (show z113.toInt ≤ 2 * (y41.toInt) + 1 from by omega), trivial⟩, ⟨⟨(show mg_k 13 from by decide), (show (0 : Int) ≤ z15.toInt + 0 from by omega), (show 0 ≤ (f 20).toInt from by omega), (show 1 ≤ z113.toInt + 0 from by omega), (show 0 ≤ (f 32).toInt + 0 from by omega), (show (f 32).toInt + 0 ≤ y41.toInt + 0 from by omega), (show y41.toInt + 0 ≤ 48 from by omega), (show z113.toInt + 0 ≤ 2 * (y41.toInt + 0) + 0 from by omega), (mg_pa13 (l1 := l62) hR (by show g'146 34 = g 34; rw [show g'146 34 = g'137 34 from h150_ 34 (by decide), show g'137 34 = g'128 34 from h141_ 34 (by decide), show g'128 34 = g'114 34 from h132_ 34 (by decide), show g'114 34 = g'104 34 from h118_ 34 (by decide), show g'104 34 = g'93 34 from h109_ 34 (by decide), show g'93 34 = g'74 34 from h98_ 34 (by decide), show g'74 34 = g'64 34 from h79_ 34 (by decide), show g'64 34 = g'31 34 from h68_ 34 (by decide), show g'31 34 = g'5 34 from h36_ 34 (by decide), show g'5 34 = g 34 from h13_ 34 (by decide)]) (by show g'146 38 = upd (g 38) (f 37).toNatClampNeg l62; rw [show g'146 38 = g'137 38 from h150_ 38 (by decide), show g'137 38 = g'128 38 from h141_ 38 (by decide), show g'128 38 = g'114 38 from h132_ 38 (by decide), h119_, show g'104 38 = g'93 38 from h109_ 38 (by decide), show g'93 38 = g'74 38 from h98_ 38 (by decide), show g'74 38 = g'64 38 from h79_ 38 (by decide), show g'64 38 = g'31 38 from h68_ 38 (by decide), show g'31 38 = g'5 38 from h36_ 38 (by decide), show g'5 38 = g 38 from h13_ 38 (by decide)]) (by show (f 32).toInt + 0 = (f 32).toInt; omega) (by omega) (by show z113.toInt + 0 = (f 37).toInt + 1; omega) (by show z57.toInt = (f 24).toInt - (g 34 (f 32).toNatClampNeg).toInt; omega) (by omega) (by show (f 24).toInt ≤ l62.toInt; omega))⟩, mg_cast (mg_good_ext _ _ _ _ _ _ (fun i _ => by show g'146 34 i = g 34 i; rw [show g'146 34 = g'137 34 from h150_ 34 (by decide), show g'137 34 = g'128 34 from h141_ 34 (by decide), show g'128 34 = g'114 34 from h132_ 34 (by decide), show g'114 34 = g'104 34 from h118_ 34 (by decide), show g'104 34 = g'93 34 from h109_ 34 (by decide), show g'93 34 = g'74 34 from h98_ 34 (by decide), show g'74 34 = g'64 34 from h79_ 34 (by decide), show g'64 34 = g'31 34 from h68_ 34 (by decide), show g'31 34 = g'5 34 from h36_ 34 (by decide), show g'5 34 = g 34 from h13_ 34 (by decide)]) (fun i hi => by show g'146 38 i = g 38 i; rw [show g'146 38 = g'137 38 from h150_ 38 (by decide), show g'137 38 = g'128 38 from h141_ 38 (by decide), show g'128 38 = g'114 38 from h132_ 38 (by decide), h119_, show g'104 38 = g'93 38 from h109_ 38 (by decide), show g'93 38 = g'74 38 from h98_ 38 (by decide), show g'74 38 = g'64 38 from h79_ 38 (by decide), show g'64 38 = g'31 38 from h68_ 38 (by decide), show g'31 38 = g'5 38 from h36_ 38 (by decide), show g'5 38 = g 38 from h13_ 38 (by decide)]; exact upd_ne (by rw [cl_toNat]; omega)) (fun i _ => by show g'146 23 i = g 23 i; rw [show g'146 23 = g'137 23 from h150_ 23 (by decide), show g'137 23 = g'128 23 from h141_ 23 (by decide), show g'128 23 = g'114 23 from h132_ 23 (by decide), show g'114 23 = g'104 23 from h118_ 23 (by decide), show g'104 23 = g'93 23 from h109_ 23 (by decide), show g'93 23 = g'74 23 from h98_ 23 (by decide), show g'74 23 = g'64 23 from h79_ 23 (by decide), show g'64 23 = g'31 23 from h68_ 23 (by decide), show g'31 23 = g'5 23 from h36_ 23 (by decide), show g'5 23 = g 23 from h13_ 23 (by decide)]) hrest) (by show (f 15).toInt + -1 = z15.toInt + 0 + 0; omega) (by show (f 20).toInt = (f 20).toInt; omega) (by show (f 37).toInt + 0 = z113.toInt + 0 + -1; omega) (by show (f 32).toInt + 0 = (f 32).toInt + 0 + 0; omega) (by show (f 5).toInt + 0 = y41.toInt + 0 + -1; omega)⟩⟩ : mg_good (g'146 34) (g'146 38) (g'146 23) (((1 : Int), (0 : Int), (0 : Int), (0 : Int), []) :: (((13 : Int), r73.toInt, r83.toInt, z57.toInt, []) :: gs)) (z15.toInt) ((f 20).toInt) (z113.toInt) ((f 32).toInt) (y41.toInt))
      · exact ⟨(by show 0 ≤ z40.toInt; omega), (by show z40.toInt ≤ (f 0).toInt; omega), (by show (f 0).toInt ≤ 512; omega), (by show 0 ≤ z126.toInt; omega), (by show z126.toInt + (f 20).toInt + mg_p1 (((1 : Int), (0 : Int), (0 : Int), (0 : Int), []) :: (((13 : Int), r73.toInt, r83.toInt, z57.toInt, []) :: gs)) ≤ 4 * z40.toInt; omega), (by show (f 20).toInt ≤ z40.toInt; omega), (by show z15.toInt + mg_p2 (((1 : Int), (0 : Int), (0 : Int), (0 : Int), []) :: (((13 : Int), r73.toInt, r83.toInt, z57.toInt, []) :: gs)) ≤ z40.toInt; omega), (by show mg_p3 (((1 : Int), (0 : Int), (0 : Int), (0 : Int), []) :: (((13 : Int), r73.toInt, r83.toInt, z57.toInt, []) :: gs)) ≤ 20 * z40.toInt + 20; omega), (by show 0 ≤ z102.toInt; omega), (by show z102.toInt + 3 * (f 20).toInt + mg_p4 (((1 : Int), (0 : Int), (0 : Int), (0 : Int), []) :: (((13 : Int), r73.toInt, r83.toInt, z57.toInt, []) :: gs)) ≤ 60 * z40.toInt + 60; omega), (by show 0 ≤ o2.toInt; omega), (by show o2.toInt + 64 * mj_n (g'146 16) z15.toNatClampNeg 3 ≤ 64 * z40.toInt; rw [show g'146 16 = g'137 16 from h150_ 16 (by decide), show g'137 16 = g'128 16 from h141_ 16 (by decide), show g'128 16 = g'114 16 from h132_ 16 (by decide), show g'114 16 = g'104 16 from h118_ 16 (by decide), show g'104 16 = g'93 16 from h109_ 16 (by decide), show g'93 16 = g'74 16 from h98_ 16 (by decide), show g'74 16 = g'64 16 from h79_ 16 (by decide), show g'64 16 = g'31 16 from h68_ 16 (by decide), show g'31 16 = g'5 16 from h36_ 16 (by decide)]; omega), (by show 0 ≤ (f 44).toInt; omega), (by show (f 44).toInt ≤ z40.toInt; omega), (by show 0 ≤ (f 48).toInt; omega), (by show (f 48).toInt ≤ z40.toInt; omega), (by show 1 ≤ (f 53).toInt; omega), (by show (f 53).toInt ≤ z40.toInt + 1; omega), (by show 0 ≤ (f 19).toInt; omega), (by show (f 19).toInt ≤ 600; omega)⟩
      · show 100 * ((f 0).toInt - z40.toInt) + mg_p3 (((1 : Int), (0 : Int), (0 : Int), (0 : Int), []) :: (((13 : Int), r73.toInt, r83.toInt, z57.toInt, []) :: gs)) < 100 * ((f 0).toInt - (f 4).toInt) + (1 + mg_p3 gs); omega
    · subst hv51
      replace hS52 : MS S0 S39 (upd (upd (upd (upd (upd (upd (upd f 6 a49) 7 b50) 10 0) 15 z15) 62 o2) 68 z29) 75 m4) g'31 := hS52
      have hR152 := rj_clear0 hR37_
      have hR153 : RJ (upd (upd (upd (upd (upd (upd (upd f 6 a49) 7 b50) 10 0) 15 z15) 62 o2) 68 z29) 75 m4) g'31 [] bc [] 0 [] := hR152
      show am_E _ _ _ _ [some (.ref 39), some (.int on), none, none, none] [.int 0] _ _
      refine am_e12f hi_253_6 (by decide) ?_
      refine am_e35 hi_253_9 ?_
      show am_E _ _ _ _ [some (.ref 39), some (.int on)] [] _ _
      refine am_e35 hi_252_55 ?_
      show am_E _ _ _ _ [some (.ref 39), some (.int 11), some (.int on), some (.int tw), some (.int th)] [] _ _
      refine am_e18 hi_180_236 ?_
      refine am_e35 hi_180_371 ?_
      have hRc := rj_clear0 hR153
      refine ⟨_, _, [], _, rfl, hS52, Or.inr ⟨hRc, rfl, (by show 0 ≤ (f 4).toInt; omega), (by show (f 4).toInt ≤ (f 0).toInt; omega), (by show 0 ≤ (f 32).toInt; omega), (by show (f 32).toInt ≤ 63; omega), (by show 1 ≤ (f 53).toInt; omega), (by show (f 53).toInt ≤ 600; omega), (by show 0 ≤ z29.toInt; omega), (by show z29.toInt ≤ 60000; omega), (by show 0 ≤ (f 48).toInt; omega), (by show (f 48).toInt ≤ 8000; omega), (by show 0 ≤ (f 37).toInt; omega), (by show (f 37).toInt ≤ 128; omega), (by show 0 ≤ o2.toInt; omega), (by show o2.toInt ≤ 65000; omega), (by show 0 ≤ (f 19).toInt; omega), (by show (f 19).toInt ≤ 600; omega)⟩⟩
  · refine am_e13f hi_252_10 (am_cF (m := r21.toInt) (n := (69 : Int)) rfl (by decide) c26) ?_
    refine am_e2 (v := 39) hi_252_13 rfl ?_
    refine am_e7 hi_252_14 ?_
    refine mm_20 (v := .int (f 4)) hS23 hi_252_15 rfl ?_
    refine am_e0 hi_252_18 ?_
    obtain ⟨z154, hz154, tz154⟩ := am_addI (x := f 4) (y := 1) (m := (f 4).toInt) (n := (1 : Int)) rfl (by decide) (by omega) (by omega)
    refine am_e10 (z := z154) hi_252_19 hz154 ?_
    refine mm_21 (v := z154) hS23 hi_252_20 rfl (Nat.le_of_ble_eq_true rfl) ms_4 ?_
    intro S155 hS156
    replace hS156 : MS S0 S155 (upd (upd (upd (upd (upd f 4 z154) 15 z15) 62 o2) 68 s3) 75 m4) g'5 := hS156
    have hR157 : RJ (upd (upd (upd (upd (upd f 4 z154) 15 z15) 62 o2) 68 s3) 75 m4) g'5 gs bc [] 0 [] := RJ.at hR14_ (by show (f 4).toInt ≤ z154.toInt; omega)
    refine am_e2 (v := 39) hi_252_23 rfl ?_
    refine am_e0 hi_252_24 ?_
    refine am_e1 (v := on) hi_252_26 rfl ?_
    refine am_e0 hi_252_27 ?_
    refine am_e0 hi_252_28 ?_
    refine am_e32n (as := [.ref 39, .int 12, .int on, .int 0, .int 0]) (la := [some (.ref 39), some (.int 12), some (.int on), some (.int 0), some (.int 0)]) (rest := []) hi_252_29 (am_hd0 (M := 252) (by decide) 29) (Nat.le_of_ble_eq_true rfl) (Nat.le_of_ble_eq_true rfl) (show 5 ≤ am_P0.2.2.1 179 from by decide +kernel) rfl (am_recv_ok hS156.fs) rfl rfl (ct_pile (d := (d + 6)) hS156 hR157 (mj_e_plain (by decide)) (by show (0 : Int) ≤ (f 10).toInt; omega) (by show (f 10).toInt ≤ (65535 : Int); omega)) ?_
    rintro v158 S159 (⟨z160, g'161, hv162, hS163, hR166, h164, h165⟩)
    subst hv162
    have h164_ : z160.toInt = (f 10).toInt + 1 := h164
    have h165_ : ∀ j, j ∉ [11, 12, 13, 14] → g'161 j = g'5 j := h165
    replace hS163 : MS S0 S159 (upd (upd (upd (upd (upd (upd f 4 z154) 10 z160) 15 z15) 62 o2) 68 s3) 75 m4) g'161 := hS163
    have hR166_ : RJ (upd (upd (upd (upd (upd (upd f 4 z154) 10 z160) 15 z15) 62 o2) 68 s3) 75 m4) g'161 (((12 : Int), on.toInt, (0 : Int), (0 : Int), []) :: gs) bc [] 0 [] := hR166
    show am_E _ _ _ _ [some (.ref 39), some (.int on)] [] _ _
    refine am_e2 (v := 39) hi_252_32 rfl ?_
    refine am_e0 hi_252_33 ?_
    refine am_e32w (as := [.ref 39, .int 0]) (la := [some (.ref 39), some (.int 0)]) (rest := []) hi_252_34 (am_hd0 (M := 252) (by decide) 34) (Nat.le_of_ble_eq_true rfl) (Nat.le_of_ble_eq_true rfl) (show 2 ≤ am_P0.2.2.1 186 from by decide +kernel) rfl (am_recv_ok hS163.fs) rfl rfl ?_
    refine am_e2 (v := 39) hi_186_0 rfl ?_
    refine am_e0 hi_186_1 ?_
    refine am_e1 (v := 0) hi_186_3 rfl ?_
    refine am_e0 hi_186_4 ?_
    refine am_e0 hi_186_5 ?_
    refine am_e32n (as := [.ref 39, .int 23, .int 0, .int 0, .int 0]) (la := [some (.ref 39), some (.int 23), some (.int 0), some (.int 0), some (.int 0)]) (rest := []) hi_186_6 (am_hd0 (M := 186) (by decide) 6) (Nat.le_of_ble_eq_true rfl) (Nat.le_of_ble_eq_true rfl) (show 5 ≤ am_P0.2.2.1 179 from by decide +kernel) rfl (am_recv_ok hS163.fs) rfl rfl (ct_pile (d := (d + 5)) hS163 hR166_ (mj_e_plain (by decide)) (by show (0 : Int) ≤ z160.toInt; omega) (by show z160.toInt ≤ (65535 : Int); omega)) ?_
    rintro v167 S168 (⟨z169, g'170, hv171, hS172, hR175, h173, h174⟩)
    subst hv171
    have h173_ : z169.toInt = z160.toInt + 1 := h173
    have h174_ : ∀ j, j ∉ [11, 12, 13, 14] → g'170 j = g'161 j := h174
    replace hS172 : MS S0 S168 (upd (upd (upd (upd (upd (upd f 4 z154) 10 z169) 15 z15) 62 o2) 68 s3) 75 m4) g'170 := hS172
    have hR175_ : RJ (upd (upd (upd (upd (upd (upd f 4 z154) 10 z169) 15 z15) 62 o2) 68 s3) 75 m4) g'170 (((23 : Int), (0 : Int), (0 : Int), (0 : Int), []) :: (((12 : Int), on.toInt, (0 : Int), (0 : Int), []) :: gs)) bc [] 0 [] := hR175
    show am_E _ _ _ _ [some (.ref 39), some (.int 0)] [] _ _
    refine am_e35 hi_186_9 ?_
    show am_E _ _ _ _ [some (.ref 39), some (.int on)] [] _ _
    refine am_e18 hi_252_37 ?_
    refine am_e35 hi_252_55 ?_
    show am_E _ _ _ _ [some (.ref 39), some (.int 11), some (.int on), some (.int tw), some (.int th)] [] _ _
    refine am_e18 hi_180_236 ?_
    refine am_e35 hi_180_371 ?_
    have q1 : mg_p1 (((23 : Int), (0 : Int), (0 : Int), (0 : Int), []) :: (((12 : Int), on.toInt, (0 : Int), (0 : Int), []) :: gs)) = 0 + (0 + (mg_p1 gs)) := rfl
    have q2 : mg_p2 (((23 : Int), (0 : Int), (0 : Int), (0 : Int), []) :: (((12 : Int), on.toInt, (0 : Int), (0 : Int), []) :: gs)) = 0 + (0 + (mg_p2 gs)) := rfl
    have q3 : mg_p3 (((23 : Int), (0 : Int), (0 : Int), (0 : Int), []) :: (((12 : Int), on.toInt, (0 : Int), (0 : Int), []) :: gs)) = 1 + (1 + (mg_p3 gs)) := rfl
    have q4 : mg_p4 (((23 : Int), (0 : Int), (0 : Int), (0 : Int), []) :: (((12 : Int), on.toInt, (0 : Int), (0 : Int), []) :: gs)) = 0 + (0 + (mg_p4 gs)) := rfl
    refine ⟨_, _, _, bc, rfl, hS172, Or.inl ⟨⟨hR175_, ?_, ?_⟩, rfl, ?_⟩⟩
    · exact (⟨⟨(show mg_k 23 from by decide), (show (0 : Int) ≤ z15.toInt from by omega), (show 0 ≤ (f 20).toInt from by omega), (show 1 ≤ (f 37).toInt from by omega), (show 0 ≤ (f 32).toInt from by omega), (show (f 32).toInt ≤ (f 5).toInt from by omega), (show (f 5).toInt ≤ 48 from by omega), (show (f 37).toInt ≤ 2 * ((f 5).toInt) + 2 from by omega), (show 0 ≤ (0 : Int) from by omega)⟩, ⟨⟨(show mg_k 12 from by decide), (show (1 : Int) ≤ z15.toInt + 1 from by omega), (show 0 ≤ (f 20).toInt from by omega), (show 1 ≤ (f 37).toInt + 0 from by omega), (show 0 ≤ (f 32).toInt + 0 from by omega), (show (f 32).toInt + 0 ≤ (f 5).toInt + 0 from by omega), (show (f 5).toInt + 0 ≤ 48 from by omega), (show (f 37).toInt + 0 ≤ 2 * ((f 5).toInt + 0) + 1 from by omega), ⟨(show 0 ≤ on.toInt from by omega), (show on.toInt ≤ 16000 from by omega)⟩⟩, mg_cast (mg_good_ext _ _ _ _ _ _ (fun i _ => by show g'170 34 i = g 34 i; rw [show g'170 34 = g'161 34 from h174_ 34 (by decide), show g'161 34 = g'5 34 from h165_ 34 (by decide), show g'5 34 = g 34 from h13_ 34 (by decide)]) (fun i _ => by show g'170 38 i = g 38 i; rw [show g'170 38 = g'161 38 from h174_ 38 (by decide), show g'161 38 = g'5 38 from h165_ 38 (by decide), show g'5 38 = g 38 from h13_ 38 (by decide)]) (fun i _ => by show g'170 23 i = g 23 i; rw [show g'170 23 = g'161 23 from h174_ 23 (by decide), show g'161 23 = g'5 23 from h165_ 23 (by decide), show g'5 23 = g 23 from h13_ 23 (by decide)]) hrest) (by show (f 15).toInt + -1 = z15.toInt + 1 + -1; omega) (by show (f 20).toInt = (f 20).toInt; omega) (by show (f 37).toInt + 0 = (f 37).toInt + 0 + 0; omega) (by show (f 32).toInt + 0 = (f 32).toInt + 0 + 0; omega) (by show (f 5).toInt + 0 = (f 5).toInt + 0 + 0; omega)⟩⟩ : mg_good (g'170 34) (g'170 38) (g'170 23) (((23 : Int), (0 : Int), (0 : Int), (0 : Int), []) :: (((12 : Int), on.toInt, (0 : Int), (0 : Int), []) :: gs)) (z15.toInt) ((f 20).toInt) ((f 37).toInt) ((f 32).toInt) ((f 5).toInt))
    · exact ⟨(by show 0 ≤ z154.toInt; omega), (by show z154.toInt ≤ (f 0).toInt; omega), (by show (f 0).toInt ≤ 512; omega), (by show 0 ≤ (f 24).toInt; omega), (by show (f 24).toInt + (f 20).toInt + mg_p1 (((23 : Int), (0 : Int), (0 : Int), (0 : Int), []) :: (((12 : Int), on.toInt, (0 : Int), (0 : Int), []) :: gs)) ≤ 4 * z154.toInt; omega), (by show (f 20).toInt ≤ z154.toInt; omega), (by show z15.toInt + mg_p2 (((23 : Int), (0 : Int), (0 : Int), (0 : Int), []) :: (((12 : Int), on.toInt, (0 : Int), (0 : Int), []) :: gs)) ≤ z154.toInt; omega), (by show mg_p3 (((23 : Int), (0 : Int), (0 : Int), (0 : Int), []) :: (((12 : Int), on.toInt, (0 : Int), (0 : Int), []) :: gs)) ≤ 20 * z154.toInt + 20; omega), (by show 0 ≤ s3.toInt; omega), (by show s3.toInt + 3 * (f 20).toInt + mg_p4 (((23 : Int), (0 : Int), (0 : Int), (0 : Int), []) :: (((12 : Int), on.toInt, (0 : Int), (0 : Int), []) :: gs)) ≤ 60 * z154.toInt + 60; omega), (by show 0 ≤ o2.toInt; omega), (by show o2.toInt + 64 * mj_n (g'170 16) z15.toNatClampNeg 3 ≤ 64 * z154.toInt; rw [show g'170 16 = g'161 16 from h174_ 16 (by decide), show g'161 16 = g'5 16 from h165_ 16 (by decide)]; omega), (by show 0 ≤ (f 44).toInt; omega), (by show (f 44).toInt ≤ z154.toInt; omega), (by show 0 ≤ (f 48).toInt; omega), (by show (f 48).toInt ≤ z154.toInt; omega), (by show 1 ≤ (f 53).toInt; omega), (by show (f 53).toInt ≤ z154.toInt + 1; omega), (by show 0 ≤ (f 19).toInt; omega), (by show (f 19).toInt ≤ 600; omega)⟩
    · show 100 * ((f 0).toInt - z154.toInt) + mg_p3 (((23 : Int), (0 : Int), (0 : Int), (0 : Int), []) :: (((12 : Int), on.toInt, (0 : Int), (0 : Int), []) :: gs)) < 100 * ((f 0).toInt - (f 4).toInt) + (1 + mg_p3 gs); omega
set_option maxHeartbeats 16000000 in
theorem st_12 {sc : Nat × (Nat → Int32)} {d : Nat} {S0 S : am_S} {f : Nat → Int32} {g : Nat → Nat → Int32} {on : Int32} {tw : Int32} {th : Int32} {gs : List mg_E} {bc : List (List Nat)} (hS : MS S0 S f g) (hR : RJ f g gs bc [] 0 []) (hrest : mg_good (g 34) (g 38) (g 23) gs ((f 15).toInt + -1) ((f 20).toInt) ((f 37).toInt + 0) ((f 32).toInt + 0) ((f 5).toInt + 0)) (p0 : 0 ≤ (f 4).toInt) (p1 : (f 4).toInt ≤ (f 0).toInt) (p2 : (f 0).toInt ≤ 512) (p3 : 0 ≤ (f 24).toInt) (p4 : (f 24).toInt + (f 20).toInt + mg_p1 gs ≤ 4 * (f 4).toInt) (p5 : (f 20).toInt ≤ (f 4).toInt) (p6 : (f 15).toInt + 0 + mg_p2 gs ≤ (f 4).toInt) (p7 : 1 + mg_p3 gs ≤ 20 * (f 4).toInt + 20) (p8 : 0 ≤ (f 68).toInt) (p9 : (f 68).toInt + 3 * (f 20).toInt + 0 + mg_p4 gs ≤ 60 * (f 4).toInt + 60) (p10 : 0 ≤ (f 62).toInt) (p11 : (f 62).toInt + 64 * mj_n (g 16) (f 15).toNatClampNeg 3 ≤ 64 * (f 4).toInt) (p12 : 0 ≤ (f 44).toInt) (p13 : (f 44).toInt ≤ (f 4).toInt) (p14 : 0 ≤ (f 48).toInt) (p15 : (f 48).toInt ≤ (f 4).toInt) (p16 : 1 ≤ (f 53).toInt) (p17 : (f 53).toInt ≤ (f 4).toInt + 1) (p18 : 0 ≤ (f 19).toInt) (p19 : (f 19).toInt ≤ 600) (p20 : 0 ≤ mg_p1 gs) (p21 : 0 ≤ mg_p2 gs) (p22 : 0 ≤ mg_p4 gs) (p23 : 0 ≤ (f 10).toInt) (p24 : (f 10).toInt ≤ mg_p3 gs) (p25 : 0 ≤ mj_n (g 16) (f 15).toNatClampNeg 3) (p26 : 1 ≤ (f 15).toInt) (p27 : 0 ≤ (f 20).toInt) (p28 : 1 ≤ (f 37).toInt) (p29 : 0 ≤ (f 32).toInt) (p30 : (f 32).toInt ≤ (f 5).toInt) (p31 : (f 5).toInt ≤ 48) (p32 : (f 37).toInt ≤ 2 * (f 5).toInt + 1) (p33 : 0 ≤ on.toInt) (p34 : on.toInt ≤ 16000) : am_E (am_PP sc) (d + 8) 180 0 [some (.ref 39), some (.int 12), some (.int on), some (.int tw), some (.int th)] [] S (am_N fun v S1 => ∃ (f' : Nat → Int32) (g' : Nat → Nat → Int32) (gs' : List mg_E) (bc' : List (List Nat)), v = none ∧ MS S0 S1 f' g' ∧ (mg_on f (100 * ((f 0).toInt - (f 4).toInt) + (1 + mg_p3 gs)) f' g' gs' bc' ∨ mg_off f f' g' bc')) := by
  have hbs := mg_basic hrest
  refine am_e1 (v := 12) hi_180_0 rfl ?_
  refine am_e0 hi_180_1 ?_
  refine am_e13t hi_180_3 (by decide) ?_
  refine am_e1 (v := 12) hi_180_14 rfl ?_
  refine am_e19 (t := 239) hi_180_15 (by decide) ?_
  refine am_e2 (v := 39) hi_180_239 rfl ?_
  refine am_e32w (as := [.ref 39]) (la := [some (.ref 39)]) (rest := []) hi_180_240 (am_hd0 (M := 180) (by decide) 240) (Nat.le_of_ble_eq_true rfl) (Nat.le_of_ble_eq_true rfl) (show 1 ≤ am_P0.2.2.1 209 from by decide +kernel) rfl (am_recv_ok hS.fs) rfl rfl ?_
  refine am_e2 (v := 39) hi_209_0 rfl ?_
  refine am_e32n (as := [.ref 39]) (la := [some (.ref 39), none, none, none]) (rest := []) hi_209_1 (am_hd0 (M := 209) (by decide) 1) (Nat.le_of_ble_eq_true rfl) (Nat.le_of_ble_eq_true rfl) (show 1 ≤ am_P0.2.2.1 204 from by decide +kernel) rfl (am_recv_ok hS.fs) rfl rfl (ct_load (d := (d + 4)) hS hR  (by show (0 : Int) ≤ (f 32).toInt; omega) (by show (f 32).toInt ≤ (63 : Int); omega) (by show (f 53).toInt ≤ (4096 : Int); omega) (by show (0 : Int) ≤ (f 68).toInt; omega) (by show (f 68).toInt ≤ (65534 : Int); omega) (by show (1 : Int) ≤ (f 15).toInt; omega) (by show (f 15).toInt ≤ (32767 : Int); omega) (by show (0 : Int) ≤ (f 24).toInt; omega) (by show (f 24).toInt ≤ (16384 : Int); omega) (by show (0 : Int) ≤ (f 62).toInt; omega) (by show (f 62).toInt ≤ (65000 : Int); omega)) ?_
  rintro v0 S1 (⟨o2, s3, m4, g'5, hv6, hS7, hR14, h8, h9, h10, h11, h12, h13⟩)
  subst hv6
  have h8_ : (f 62).toInt ≤ o2.toInt := h8
  have h9_ : o2.toInt ≤ (f 62).toInt + 64 := h9
  have h10_ : (f 68).toInt ≤ s3.toInt := h10
  have h11_ : s3.toInt ≤ (f 68).toInt + 1 := h11
  have h12_ : o2.toInt + 64 * mj_n (g'5 16) (f 15).toNatClampNeg 3 ≤ (f 62).toInt + 64 * mj_n (g 16) (f 15).toNatClampNeg 3 := h12
  have h13_ : ∀ j, j ∉ [16, 60, 63, 64, 65, 66, 67, 69, 70, 71, 72, 73] → g'5 j = g j := h13
  have hR14_ : RJ (upd (upd (upd f 62 o2) 68 s3) 75 m4) g'5 gs bc [] 0 [] := hR14
  show am_E _ _ _ _ [some (.ref 39)] [] _ _
  refine am_e2 (v := 39) hi_209_4 rfl ?_
  refine am_e7 hi_209_5 ?_
  refine mm_20 (v := .int (f 15)) hS7 hi_209_6 rfl ?_
  refine am_e0 hi_209_9 ?_
  obtain ⟨z15, hz15, tz15⟩ := am_subI (x := f 15) (y := 1) (m := (f 15).toInt) (n := (1 : Int)) rfl (by decide) (by omega) (by omega)
  refine am_e10 (z := z15) hi_209_10 hz15 ?_
  refine mm_21 (v := z15) hS7 hi_209_11 rfl (Nat.le_of_ble_eq_true rfl) ms_15 ?_
  intro S16 hS17
  replace hS17 : MS S0 S16 (upd (upd (upd (upd f 15 z15) 62 o2) 68 s3) 75 m4) g'5 := hS17
  have hp18 : mj_n (g'5 16) (f 15).toNatClampNeg 3 = mj_n (g'5 16) z15.toNatClampNeg 3 + if (g'5 16 z15.toNatClampNeg).toInt = 3 then 1 else 0 := mj_pop (by rw [cl_toNat, cl_toNat]; omega)
  have hp181 : mj_n (g'5 16) z15.toNatClampNeg 3 ≤ mj_n (g'5 16) (f 15).toNatClampNeg 3 := by rw [hp18]; split <;> omega
  have hp182 : (g'5 16 z15.toNatClampNeg).toInt = 3 → mj_n (g'5 16) z15.toNatClampNeg 3 + 1 ≤ mj_n (g'5 16) (f 15).toNatClampNeg 3 := fun q => by rw [hp18, if_pos q]; exact Int.le_refl _
  refine am_e35 hi_209_14 ?_
  show am_E _ _ _ _ [some (.ref 39), some (.int 12), some (.int on), some (.int tw), some (.int th)] [] _ _
  refine am_e2 (v := 39) hi_180_243 rfl ?_
  refine am_e1 (v := on) hi_180_244 rfl ?_
  refine am_e32w (as := [.ref 39, .int on]) (la := [some (.ref 39), some (.int on), none, none, none]) (rest := []) hi_180_245 (am_hd0 (M := 180) (by decide) 245) (Nat.le_of_ble_eq_true rfl) (Nat.le_of_ble_eq_true rfl) (show 2 ≤ am_P0.2.2.1 253 from by decide +kernel) rfl (am_recv_ok hS17.fs) rfl rfl ?_
  refine am_e2 (v := 39) hi_253_0 rfl ?_
  refine am_e0 hi_253_1 ?_
  refine am_e32n (as := [.ref 39, .int 12]) (la := [some (.ref 39), some (.int 12)]) (rest := []) hi_253_3 (am_hd0 (M := 253) (by decide) 3) (Nat.le_of_ble_eq_true rfl) (Nat.le_of_ble_eq_true rfl) (show 2 ≤ am_P0.2.2.1 193 from by decide +kernel) rfl (am_recv_ok hS17.fs) rfl rfl (ct_enter (d := (d + 4)) hS17   (by show (0 : Int) ≤ (f 4).toInt; omega) (by show (f 0).toInt ≤ (16384 : Int); omega) (by show (0 : Int) ≤ (12 : Int); omega) (by show (0 : Int) ≤ (f 5).toInt; omega) (by show (f 5).toInt ≤ (48 : Int); omega)) ?_
  rintro v19 S20 (⟨z21, y22, hv23, hS24, h25, h26, h27, h28⟩ | ⟨a30, b31, hv32, hS33⟩)
  · subst hv23
    have h25_ : z21.toInt = (f 4).toInt + 1 := h25
    have h26_ : (f 4).toInt < (f 0).toInt := h26
    have h27_ : y22.toInt = (f 5).toInt + 1 := h27
    have h28_ : y22.toInt ≤ (48 : Int) := h28
    replace hS24 : MS S0 S20 (upd (upd (upd (upd (upd (upd f 4 z21) 5 y22) 15 z15) 62 o2) 68 s3) 75 m4) g'5 := hS24
    have hR35 : RJ (upd (upd (upd (upd (upd (upd f 4 z21) 5 y22) 15 z15) 62 o2) 68 s3) 75 m4) g'5 gs bc [] 0 [] := RJ.at hR14_ (by show (f 4).toInt ≤ z21.toInt; omega)
    show am_E _ _ _ _ [some (.ref 39), some (.int on), none, none, none] [.int 1] _ _
    refine am_e12t hi_253_6 (by decide) ?_
    refine am_e2 (v := 39) hi_253_10 rfl ?_
    refine am_e32w (as := [.ref 39]) (la := [some (.ref 39)]) (rest := []) hi_253_11 (am_hd0 (M := 253) (by decide) 11) (Nat.le_of_ble_eq_true rfl) (Nat.le_of_ble_eq_true rfl) (show 1 ≤ am_P0.2.2.1 197 from by decide +kernel) rfl (am_recv_ok hS24.fs) rfl rfl ?_
    refine am_e2 (v := 39) hi_197_0 rfl ?_
    refine mm_20 (v := .int (f 24)) hS24 hi_197_1 rfl ?_
    refine am_e2 (v := 39) hi_197_4 rfl ?_
    refine mm_20 (v := .ref 59) hS24 hi_197_5 rfl ?_
    refine am_e2 (v := 39) hi_197_8 rfl ?_
    refine mm_20 (v := .int (f 32)) hS24 hi_197_9 rfl ?_
    refine mm_25 hS24 ma_34 hi_197_12 (by decide) (by omega) (by omega) ?_
    show am_E _ _ _ _ _ (.int (g'5 34 (f 32).toNatClampNeg) :: _) _ _
    rw [show g'5 34 = g 34 from h13_ 34 (by decide)]
    show am_E _ _ _ _ [some (.ref 39)] [.int (g 34 (f 32).toNatClampNeg), .int (f 24)] _ _
    have r36 : 0 ≤ (g 34 (f 32).toNatClampNeg).toInt := by
      have h := RJ.ba hR35 (f 32).toNatClampNeg
      rw [show g'5 34 = g 34 from h13_ 34 (by decide)] at h
      exact h
    have r37 : (g 34 (f 32).toNatClampNeg).toInt ≤ 2147483647 := i32_le _
    obtain ⟨z38, hz38, tz38⟩ := am_subI (x := f 24) (y := g 34 (f 32).toNatClampNeg) (m := (f 24).toInt) (n := (g 34 (f 32).toNatClampNeg).toInt) rfl rfl (by omega) (by omega)
    refine am_e10 (z := z38) hi_197_13 hz38 ?_
    refine am_e33 hi_197_14 ?_
    show am_E _ _ _ _ [some (.ref 39), some (.int on), none, none, none] [.int z38] _ _
    refine am_e3 (ls' := [some (.ref 39), some (.int on), some (.int z38), none, none]) hi_253_14 (Nat.le_of_ble_eq_true rfl) rfl ?_
    refine am_e2 (v := 39) hi_253_15 rfl ?_
    refine am_e0 hi_253_16 ?_
    refine am_e0 hi_253_17 ?_
    refine am_e1 (v := on) hi_253_18 rfl ?_
    refine am_e32n (as := [.ref 39, .int 3, .int 0, .int on]) (la := [some (.ref 39), some (.int 3), some (.int 0), some (.int on), none]) (rest := []) hi_253_19 (am_hd0 (M := 253) (by decide) 19) (Nat.le_of_ble_eq_true rfl) (Nat.le_of_ble_eq_true rfl) (show 4 ≤ am_P0.2.2.1 254 from by decide +kernel) rfl (am_recv_ok hS24.fs) rfl rfl (ct_hide (d := (d + 4)) hS24 hR35 (by decide)  (by show (0 : Int) ≤ (f 32).toInt; omega) (by show (f 32).toInt ≤ (63 : Int); omega) (by show (f 53).toInt ≤ (4096 : Int); omega) (by show (0 : Int) ≤ (f 24).toInt; omega) (by show (f 24).toInt ≤ (16000 : Int); omega) (by show (0 : Int) ≤ (3 : Int); omega) (by show (3 : Int) ≤ (16 : Int); omega)) ?_
    rintro v39 S40 (⟨a41, b42, l43, y44, g'45, hv46, hS47, hR50, h48, h49⟩)
    subst hv46
    have h48_ : l43.toInt = (f 24).toInt + (3 : Int) := h48
    have h49_ : ∀ j, j ∉ [25, 26, 27, 28, 29, 30, 58] → g'45 j = g'5 j := h49
    replace hS47 : MS S0 S40 (upd (upd (upd (upd (upd (upd (upd (upd (upd (upd f 4 z21) 5 y22) 8 a41) 9 b42) 15 z15) 24 l43) 31 y44) 62 o2) 68 s3) 75 m4) g'45 := hS47
    have hR50_ : RJ (upd (upd (upd (upd (upd (upd (upd (upd (upd (upd f 4 z21) 5 y22) 8 a41) 9 b42) 15 z15) 24 l43) 31 y44) 62 o2) 68 s3) 75 m4) g'45 gs bc [] 0 [] := hR50
    show am_E _ _ _ _ [some (.ref 39), some (.int on), some (.int z38), none, none] [] _ _
    refine am_e2 (v := 39) hi_253_22 rfl ?_
    refine am_e0 hi_253_23 ?_
    refine am_e1 (v := z38) hi_253_25 rfl ?_
    refine am_e0 hi_253_26 ?_
    refine am_e1 (v := on) hi_253_27 rfl ?_
    refine am_e32n (as := [.ref 39, .int 38, .int z38, .int 0, .int on]) (la := [some (.ref 39), some (.int 38), some (.int z38), some (.int 0), some (.int on)]) (rest := []) hi_253_28 (am_hd0 (M := 253) (by decide) 28) (Nat.le_of_ble_eq_true rfl) (Nat.le_of_ble_eq_true rfl) (show 5 ≤ am_P0.2.2.1 189 from by decide +kernel) rfl (am_recv_ok hS47.fs) rfl rfl (ct_put (d := (d + 6)) hS47 hR50_  (by show (0 : Int) ≤ (f 32).toInt; omega) (by show (f 32).toInt ≤ (63 : Int); omega) (by show (f 53).toInt ≤ (4096 : Int); omega) (by show (0 : Int) ≤ s3.toInt; omega) (by show s3.toInt ≤ (65534 : Int); omega)) ?_
    rintro v51 S52 (⟨z53, r54, g'55, hv56, hS57, hR61, h58, h59, h60⟩)
    subst hv56
    have h58_ : z53.toInt = s3.toInt + 1 := h58
    have h59_ : r54.toInt = s3.toInt := h59
    have h60_ : ∀ j, j ∉ [60, 69, 70, 71, 72, 73] → g'55 j = g'45 j := h60
    replace hS57 : MS S0 S52 (upd (upd (upd (upd (upd (upd (upd (upd (upd (upd f 4 z21) 5 y22) 8 a41) 9 b42) 15 z15) 24 l43) 31 y44) 62 o2) 68 z53) 75 m4) g'55 := hS57
    have hR61_ : RJ (upd (upd (upd (upd (upd (upd (upd (upd (upd (upd f 4 z21) 5 y22) 8 a41) 9 b42) 15 z15) 24 l43) 31 y44) 62 o2) 68 z53) 75 m4) g'55 gs bc [] 0 (s3.toNatClampNeg :: []) := hR61
    show am_E _ _ _ _ [some (.ref 39), some (.int on), some (.int z38), none, none] [.int r54] _ _
    refine am_e3 (ls' := [some (.ref 39), some (.int on), some (.int z38), some (.int r54), none]) hi_253_31 (Nat.le_of_ble_eq_true rfl) rfl ?_
    refine am_e2 (v := 39) hi_253_32 rfl ?_
    refine am_e32n (as := [.ref 39]) (la := [some (.ref 39)]) (rest := []) hi_253_33 (am_hd0 (M := 253) (by decide) 33) (Nat.le_of_ble_eq_true rfl) (Nat.le_of_ble_eq_true rfl) (show 1 ≤ am_P0.2.2.1 210 from by decide +kernel) rfl (am_recv_ok hS57.fs) rfl rfl (ct_here (d := (d + 6)) hS57 hR61_  (by show (0 : Int) ≤ (f 32).toInt; omega) (by show (f 32).toInt ≤ (63 : Int); omega) (by show (f 53).toInt ≤ (4096 : Int); omega) (by show (0 : Int) ≤ z53.toInt; omega) (by show z53.toInt ≤ (65534 : Int); omega)) ?_
    rintro v62 S63 (⟨r64, hv65, hS66, h67, h68⟩)
    subst hv65
    have h67_ : (0 : Int) ≤ r64.toInt := h67
    have h68_ : r64.toInt ≤ z53.toInt := h68
    show am_E _ _ _ _ [some (.ref 39), some (.int on), some (.int z38), some (.int r54), none] [.int r64] _ _
    refine am_e3 (ls' := [some (.ref 39), some (.int on), some (.int z38), some (.int r54), some (.int r64)]) hi_253_36 (Nat.le_of_ble_eq_true rfl) rfl ?_
    refine am_e2 (v := 39) hi_253_38 rfl ?_
    refine am_e0 hi_253_39 ?_
    refine am_e0 hi_253_41 ?_
    refine am_e0 hi_253_42 ?_
    refine am_e1 (v := on) hi_253_43 rfl ?_
    refine am_e32n (as := [.ref 39, .int 34, .int 0, .int 0, .int on]) (la := [some (.ref 39), some (.int 34), some (.int 0), some (.int 0), some (.int on)]) (rest := []) hi_253_44 (am_hd0 (M := 253) (by decide) 44) (Nat.le_of_ble_eq_true rfl) (Nat.le_of_ble_eq_true rfl) (show 5 ≤ am_P0.2.2.1 189 from by decide +kernel) rfl (am_recv_ok hS66.fs) rfl rfl (ct_put (d := (d + 6)) hS66 hR61_  (by show (0 : Int) ≤ (f 32).toInt; omega) (by show (f 32).toInt ≤ (63 : Int); omega) (by show (f 53).toInt ≤ (4096 : Int); omega) (by show (0 : Int) ≤ z53.toInt; omega) (by show z53.toInt ≤ (65534 : Int); omega)) ?_
    rintro v70 S71 (⟨z72, r73, g'74, hv75, hS76, hR80, h77, h78, h79⟩)
    subst hv75
    have h77_ : z72.toInt = z53.toInt + 1 := h77
    have h78_ : r73.toInt = z53.toInt := h78
    have h79_ : ∀ j, j ∉ [60, 69, 70, 71, 72, 73] → g'74 j = g'55 j := h79
    replace hS76 : MS S0 S71 (upd (upd (upd (upd (upd (upd (upd (upd (upd (upd f 4 z21) 5 y22) 8 a41) 9 b42) 15 z15) 24 l43) 31 y44) 62 o2) 68 z72) 75 m4) g'74 := hS76
    have hR80_ : RJ (upd (upd (upd (upd (upd (upd (upd (upd (upd (upd f 4 z21) 5 y22) 8 a41) 9 b42) 15 z15) 24 l43) 31 y44) 62 o2) 68 z72) 75 m4) g'74 gs bc [] 0 (z53.toNatClampNeg :: (s3.toNatClampNeg :: [])) := hR80
    show am_E _ _ _ _ [some (.ref 39), some (.int on), some (.int z38), some (.int r54), some (.int r64)] [.int r73] _ _
    refine am_e6i hi_253_47 ?_
    refine am_e2 (v := 39) hi_253_48 rfl ?_
    refine am_e0 hi_253_49 ?_
    refine am_e1 (v := z38) hi_253_51 rfl ?_
    refine am_e0 hi_253_52 ?_
    refine am_e0 hi_253_53 ?_
    refine am_e32n (as := [.ref 39, .int 39, .int z38, .int 0, .int 0]) (la := [some (.ref 39), some (.int 39), some (.int z38), some (.int 0), some (.int 0)]) (rest := []) hi_253_54 (am_hd0 (M := 253) (by decide) 54) (Nat.le_of_ble_eq_true rfl) (Nat.le_of_ble_eq_true rfl) (show 5 ≤ am_P0.2.2.1 189 from by decide +kernel) rfl (am_recv_ok hS76.fs) rfl rfl (ct_put (d := (d + 6)) hS76 hR80_  (by show (0 : Int) ≤ (f 32).toInt; omega) (by show (f 32).toInt ≤ (63 : Int); omega) (by show (f 53).toInt ≤ (4096 : Int); omega) (by show (0 : Int) ≤ z72.toInt; omega) (by show z72.toInt ≤ (65534 : Int); omega)) ?_
    rintro v81 S82 (⟨z83, r84, g'85, hv86, hS87, hR91, h88, h89, h90⟩)
    subst hv86
    have h88_ : z83.toInt = z72.toInt + 1 := h88
    have h89_ : r84.toInt = z72.toInt := h89
    have h90_ : ∀ j, j ∉ [60, 69, 70, 71, 72, 73] → g'85 j = g'74 j := h90
    replace hS87 : MS S0 S82 (upd (upd (upd (upd (upd (upd (upd (upd (upd (upd f 4 z21) 5 y22) 8 a41) 9 b42) 15 z15) 24 l43) 31 y44) 62 o2) 68 z83) 75 m4) g'85 := hS87
    have hR91_ : RJ (upd (upd (upd (upd (upd (upd (upd (upd (upd (upd f 4 z21) 5 y22) 8 a41) 9 b42) 15 z15) 24 l43) 31 y44) 62 o2) 68 z83) 75 m4) g'85 gs bc [] 0 (z72.toNatClampNeg :: (z53.toNatClampNeg :: (s3.toNatClampNeg :: []))) := hR91
    show am_E _ _ _ _ [some (.ref 39), some (.int on), some (.int z38), some (.int r54), some (.int r64)] [.int r84] _ _
    refine am_e6i hi_253_57 ?_
    refine am_e2 (v := 39) hi_253_58 rfl ?_
    refine am_e0 hi_253_59 ?_
    refine am_e32n (as := [.ref 39, .int 1]) (la := [some (.ref 39), some (.int 1)]) (rest := []) hi_253_60 (am_hd0 (M := 253) (by decide) 60) (Nat.le_of_ble_eq_true rfl) (Nat.le_of_ble_eq_true rfl) (show 2 ≤ am_P0.2.2.1 177 from by decide +kernel) rfl (am_recv_ok hS87.fs) rfl rfl (ct_beginBlock2 (d := (d + 6)) hS87 hR91_ (by decide)  (by show (0 : Int) ≤ (f 37).toInt; omega) (by show (f 37).toInt ≤ (127 : Int); omega) (by show (0 : Int) ≤ l43.toInt; omega) (by show (0 : Int) ≤ (f 44).toInt; omega) (by show (f 44).toInt ≤ z21.toInt; omega) (by show (0 : Int) ≤ (f 48).toInt; omega)) ?_
    rintro v92 S93 (⟨z94, g'95, hv96, hS97, hR101, h98, h99, h100⟩)
    subst hv96
    have h98_ : z94.toInt = (f 37).toInt + 1 := h98
    have h99_ : ∀ j, j ∉ [38, 39, 40, 41, 42, 43] → g'95 j = g'85 j := h99
    have h100_ : g'95 38 = upd (g'85 38) (f 37).toNatClampNeg l43 := h100
    replace hS97 : MS S0 S93 (upd (upd (upd (upd (upd (upd (upd (upd (upd (upd (upd f 4 z21) 5 y22) 8 a41) 9 b42) 15 z15) 24 l43) 31 y44) 37 z94) 62 o2) 68 z83) 75 m4) g'95 := hS97
    have hR101_ : RJ (upd (upd (upd (upd (upd (upd (upd (upd (upd (upd (upd f 4 z21) 5 y22) 8 a41) 9 b42) 15 z15) 24 l43) 31 y44) 37 z94) 62 o2) 68 z83) 75 m4) g'95 gs ([] :: bc) [] 0 (z72.toNatClampNeg :: (z53.toNatClampNeg :: (s3.toNatClampNeg :: []))) := hR101
    show am_E _ _ _ _ [some (.ref 39), some (.int on), some (.int z38), some (.int r54), some (.int r64)] [] _ _
    refine am_e2 (v := 39) hi_253_63 rfl ?_
    refine am_e2 (v := 39) hi_253_64 rfl ?_
    refine mm_20 (v := .ref 41) hS97 hi_253_65 rfl ?_
    refine am_e1 (v := on) hi_253_68 rfl ?_
    refine am_e0 hi_253_69 ?_
    obtain ⟨z102, hz102, tz102⟩ := am_addI (x := on) (y := 1) (m := on.toInt) (n := (1 : Int)) rfl (by decide) (by omega) (by omega)
    refine am_e10 (z := z102) hi_253_70 hz102 ?_
    refine mm_25 hS97 ma_2 hi_253_71 (by decide) (by omega) (by omega) ?_
    show am_E _ _ _ _ _ (.int (g'95 2 z102.toNatClampNeg) :: _) _ _
    rw [show g'95 2 = g'85 2 from h99_ 2 (by decide), show g'85 2 = g'74 2 from h90_ 2 (by decide), show g'74 2 = g'55 2 from h79_ 2 (by decide), show g'55 2 = g'45 2 from h60_ 2 (by decide), show g'45 2 = g'5 2 from h49_ 2 (by decide), show g'5 2 = g 2 from h13_ 2 (by decide)]
    show am_E _ _ _ _ [some (.ref 39), some (.int on), some (.int z38), some (.int r54), some (.int r64)] [.int (g 2 z102.toNatClampNeg), .ref 39] _ _
    refine am_e0 hi_253_72 ?_
    refine am_e0 hi_253_73 ?_
    refine am_e1 (v := on) hi_253_74 rfl ?_
    refine am_e0 hi_253_75 ?_
    refine am_e10 (z := z102) hi_253_76 hz102 ?_
    refine am_e32n (as := [.ref 39, .int (g 2 z102.toNatClampNeg), .int 0, .int 0, .int z102]) (la := [some (.ref 39), some (.int (g 2 z102.toNatClampNeg)), some (.int 0), some (.int 0), some (.int z102), none]) (rest := []) hi_253_77 (am_hd0 (M := 253) (by decide) 77) (Nat.le_of_ble_eq_true rfl) (Nat.le_of_ble_eq_true rfl) (show 5 ≤ am_P0.2.2.1 196 from by decide +kernel) rfl (am_recv_ok hS97.fs) rfl rfl (ct_declare (d := (d + 5)) hS97 hR101_ (by decide) (by decide)  (by show (0 : Int) ≤ (f 32).toInt; omega) (by show (f 32).toInt ≤ (63 : Int); omega) (by show (f 53).toInt ≤ (4096 : Int); omega) (by show (0 : Int) ≤ l43.toInt; omega) (by show l43.toInt ≤ (16383 : Int); omega)) ?_
    rintro v103 S104 (⟨a105, b106, z107, y108, g'109, hv110, hS111, hR114, h112, h113⟩)
    subst hv110
    have h112_ : z107.toInt = l43.toInt + 1 := h112
    have h113_ : ∀ j, j ∉ [25, 26, 27, 28, 29, 30, 58] → g'109 j = g'95 j := h113
    replace hS111 : MS S0 S104 (upd (upd (upd (upd (upd (upd (upd (upd (upd (upd (upd f 4 z21) 5 y22) 8 a105) 9 b106) 15 z15) 24 z107) 31 y108) 37 z94) 62 o2) 68 z83) 75 m4) g'109 := hS111
    have hR114_ : RJ (upd (upd (upd (upd (upd (upd (upd (upd (upd (upd (upd f 4 z21) 5 y22) 8 a105) 9 b106) 15 z15) 24 z107) 31 y108) 37 z94) 62 o2) 68 z83) 75 m4) g'109 gs ([] :: bc) [] 0 (z72.toNatClampNeg :: (z53.toNatClampNeg :: (s3.toNatClampNeg :: []))) := hR114
    show am_E _ _ _ _ [some (.ref 39), some (.int on), some (.int z38), some (.int r54), some (.int r64)] [] _ _
    refine am_e2 (v := 39) hi_253_80 rfl ?_
    refine am_e0 hi_253_81 ?_
    refine am_e1 (v := r54) hi_253_83 rfl ?_
    refine am_e1 (v := r64) hi_253_84 rfl ?_
    refine am_e1 (v := z38) hi_253_86 rfl ?_
    refine am_e32n (as := [.ref 39, .int 13, .int r54, .int r64, .int z38]) (la := [some (.ref 39), some (.int 13), some (.int r54), some (.int r64), some (.int z38)]) (rest := []) hi_253_87 (am_hd0 (M := 253) (by decide) 87) (Nat.le_of_ble_eq_true rfl) (Nat.le_of_ble_eq_true rfl) (show 5 ≤ am_P0.2.2.1 179 from by decide +kernel) rfl (am_recv_ok hS111.fs) rfl rfl (ct_pile (d := (d + 6)) hS111 hR114_ (mj_e_b (by decide) (by omega) (by show r54.toInt < z83.toInt; omega)) (by show (0 : Int) ≤ (f 10).toInt; omega) (by show (f 10).toInt ≤ (65535 : Int); omega)) ?_
    rintro v115 S116 (⟨z117, g'118, hv119, hS120, hR123, h121, h122⟩)
    subst hv119
    have h121_ : z117.toInt = (f 10).toInt + 1 := h121
    have h122_ : ∀ j, j ∉ [11, 12, 13, 14] → g'118 j = g'109 j := h122
    replace hS120 : MS S0 S116 (upd (upd (upd (upd (upd (upd (upd (upd (upd (upd (upd (upd f 4 z21) 5 y22) 8 a105) 9 b106) 10 z117) 15 z15) 24 z107) 31 y108) 37 z94) 62 o2) 68 z83) 75 m4) g'118 := hS120
    have hR123_ : RJ (upd (upd (upd (upd (upd (upd (upd (upd (upd (upd (upd (upd f 4 z21) 5 y22) 8 a105) 9 b106) 10 z117) 15 z15) 24 z107) 31 y108) 37 z94) 62 o2) 68 z83) 75 m4) g'118 (((13 : Int), r54.toInt, r64.toInt, z38.toInt, []) :: gs) ([] :: bc) [] 0 (z72.toNatClampNeg :: (z53.toNatClampNeg :: (s3.toNatClampNeg :: []))) := hR123
    show am_E _ _ _ _ [some (.ref 39), some (.int on), some (.int z38), some (.int r54), some (.int r64)] [] _ _
    refine am_e2 (v := 39) hi_253_90 rfl ?_
    refine am_e32w (as := [.ref 39]) (la := [some (.ref 39)]) (rest := []) hi_253_91 (am_hd0 (M := 253) (by decide) 91) (Nat.le_of_ble_eq_true rfl) (Nat.le_of_ble_eq_true rfl) (show 1 ≤ am_P0.2.2.1 178 from by decide +kernel) rfl (am_recv_ok hS120.fs) rfl rfl ?_
    refine am_e2 (v := 39) hi_178_0 rfl ?_
    refine am_e0 hi_178_1 ?_
    refine am_e0 hi_178_2 ?_
    refine am_e0 hi_178_3 ?_
    refine am_e0 hi_178_4 ?_
    refine am_e32n (as := [.ref 39, .int 1, .int 0, .int 0, .int 0]) (la := [some (.ref 39), some (.int 1), some (.int 0), some (.int 0), some (.int 0)]) (rest := []) hi_178_5 (am_hd0 (M := 178) (by decide) 5) (Nat.le_of_ble_eq_true rfl) (Nat.le_of_ble_eq_true rfl) (show 5 ≤ am_P0.2.2.1 179 from by decide +kernel) rfl (am_recv_ok hS120.fs) rfl rfl (ct_pile (d := (d + 5)) hS120 hR123_ (mj_e_plain (by decide)) (by show (0 : Int) ≤ z117.toInt; omega) (by show z117.toInt ≤ (65535 : Int); omega)) ?_
    rintro v124 S125 (⟨z126, g'127, hv128, hS129, hR132, h130, h131⟩)
    subst hv128
    have h130_ : z126.toInt = z117.toInt + 1 := h130
    have h131_ : ∀ j, j ∉ [11, 12, 13, 14] → g'127 j = g'118 j := h131
    replace hS129 : MS S0 S125 (upd (upd (upd (upd (upd (upd (upd (upd (upd (upd (upd (upd f 4 z21) 5 y22) 8 a105) 9 b106) 10 z126) 15 z15) 24 z107) 31 y108) 37 z94) 62 o2) 68 z83) 75 m4) g'127 := hS129
    have hR132_ : RJ (upd (upd (upd (upd (upd (upd (upd (upd (upd (upd (upd (upd f 4 z21) 5 y22) 8 a105) 9 b106) 10 z126) 15 z15) 24 z107) 31 y108) 37 z94) 62 o2) 68 z83) 75 m4) g'127 (((1 : Int), (0 : Int), (0 : Int), (0 : Int), []) :: (((13 : Int), r54.toInt, r64.toInt, z38.toInt, []) :: gs)) ([] :: bc) [] 0 (z72.toNatClampNeg :: (z53.toNatClampNeg :: (s3.toNatClampNeg :: []))) := hR132
    show am_E _ _ _ _ [some (.ref 39)] [] _ _
    refine am_e35 hi_178_8 ?_
    show am_E _ _ _ _ [some (.ref 39), some (.int on), some (.int z38), some (.int r54), some (.int r64)] [] _ _
    refine am_e35 hi_253_94 ?_
    show am_E _ _ _ _ [some (.ref 39), some (.int 12), some (.int on), some (.int tw), some (.int th)] [] _ _
    refine am_e18 hi_180_248 ?_
    refine am_e35 hi_180_371 ?_
    have q1 : mg_p1 (((1 : Int), (0 : Int), (0 : Int), (0 : Int), []) :: (((13 : Int), r54.toInt, r64.toInt, z38.toInt, []) :: gs)) = 0 + (0 + (mg_p1 gs)) := rfl
    have q2 : mg_p2 (((1 : Int), (0 : Int), (0 : Int), (0 : Int), []) :: (((13 : Int), r54.toInt, r64.toInt, z38.toInt, []) :: gs)) = 0 + (0 + (mg_p2 gs)) := rfl
    have q3 : mg_p3 (((1 : Int), (0 : Int), (0 : Int), (0 : Int), []) :: (((13 : Int), r54.toInt, r64.toInt, z38.toInt, []) :: gs)) = 1 + (1 + (mg_p3 gs)) := rfl
    have q4 : mg_p4 (((1 : Int), (0 : Int), (0 : Int), (0 : Int), []) :: (((13 : Int), r54.toInt, r64.toInt, z38.toInt, []) :: gs)) = 0 + (0 + (mg_p4 gs)) := rfl
    refine ⟨_, _, _, ([] :: bc), rfl, hS129, Or.inl ⟨⟨(RJ.fewer (pj' := []) hR132_ (fun _ h => nomatch h)), ?_, ?_⟩, rfl, ?_⟩⟩
    · exact (⟨⟨(show mg_k 1 from by decide), (show (0 : Int) ≤ z15.toInt from by omega), (show 0 ≤ (f 20).toInt from by omega), (show 1 ≤ z94.toInt from by omega), (show 0 ≤ (f 32).toInt from by omega), (show (f 32).toInt ≤ y22.toInt from by omega), (show y22.toInt ≤ 48 from by omega), (show z94.toInt ≤ 2 * (y22.toInt) + 1 from by omega), trivial⟩, ⟨⟨(show mg_k 13 from by decide), (show (0 : Int) ≤ z15.toInt + 0 from by omega), (show 0 ≤ (f 20).toInt from by omega), (show 1 ≤ z94.toInt + 0 from by omega), (show 0 ≤ (f 32).toInt + 0 from by omega), (show (f 32).toInt + 0 ≤ y22.toInt + 0 from by omega), (show y22.toInt + 0 ≤ 48 from by omega), (show z94.toInt + 0 ≤ 2 * (y22.toInt + 0) + 0 from by omega), (mg_pa13 (l1 := l43) hR (by show g'127 34 = g 34; rw [show g'127 34 = g'118 34 from h131_ 34 (by decide), show g'118 34 = g'109 34 from h122_ 34 (by decide), show g'109 34 = g'95 34 from h113_ 34 (by decide), show g'95 34 = g'85 34 from h99_ 34 (by decide), show g'85 34 = g'74 34 from h90_ 34 (by decide), show g'74 34 = g'55 34 from h79_ 34 (by decide), show g'55 34 = g'45 34 from h60_ 34 (by decide), show g'45 34 = g'5 34 from h49_ 34 (by decide), show g'5 34 = g 34 from h13_ 34 (by decide)]) (by show g'127 38 = upd (g 38) (f 37).toNatClampNeg l43; rw [show g'127 38 = g'118 38 from h131_ 38 (by decide), show g'118 38 = g'109 38 from h122_ 38 (by decide), show g'109 38 = g'95 38 from h113_ 38 (by decide), h100_, show g'85 38 = g'74 38 from h90_ 38 (by decide), show g'74 38 = g'55 38 from h79_ 38 (by decide), show g'55 38 = g'45 38 from h60_ 38 (by decide), show g'45 38 = g'5 38 from h49_ 38 (by decide), show g'5 38 = g 38 from h13_ 38 (by decide)]) (by show (f 32).toInt + 0 = (f 32).toInt; omega) (by omega) (by show z94.toInt + 0 = (f 37).toInt + 1; omega) (by show z38.toInt = (f 24).toInt - (g 34 (f 32).toNatClampNeg).toInt; omega) (by omega) (by show (f 24).toInt ≤ l43.toInt; omega))⟩, mg_cast (mg_good_ext _ _ _ _ _ _ (fun i _ => by show g'127 34 i = g 34 i; rw [show g'127 34 = g'118 34 from h131_ 34 (by decide), show g'118 34 = g'109 34 from h122_ 34 (by decide), show g'109 34 = g'95 34 from h113_ 34 (by decide), show g'95 34 = g'85 34 from h99_ 34 (by decide), show g'85 34 = g'74 34 from h90_ 34 (by decide), show g'74 34 = g'55 34 from h79_ 34 (by decide), show g'55 34 = g'45 34 from h60_ 34 (by decide), show g'45 34 = g'5 34 from h49_ 34 (by decide), show g'5 34 = g 34 from h13_ 34 (by decide)]) (fun i hi => by show g'127 38 i = g 38 i; rw [show g'127 38 = g'118 38 from h131_ 38 (by decide), show g'118 38 = g'109 38 from h122_ 38 (by decide), show g'109 38 = g'95 38 from h113_ 38 (by decide), h100_, show g'85 38 = g'74 38 from h90_ 38 (by decide), show g'74 38 = g'55 38 from h79_ 38 (by decide), show g'55 38 = g'45 38 from h60_ 38 (by decide), show g'45 38 = g'5 38 from h49_ 38 (by decide), show g'5 38 = g 38 from h13_ 38 (by decide)]; exact upd_ne (by rw [cl_toNat]; omega)) (fun i _ => by show g'127 23 i = g 23 i; rw [show g'127 23 = g'118 23 from h131_ 23 (by decide), show g'118 23 = g'109 23 from h122_ 23 (by decide), show g'109 23 = g'95 23 from h113_ 23 (by decide), show g'95 23 = g'85 23 from h99_ 23 (by decide), show g'85 23 = g'74 23 from h90_ 23 (by decide), show g'74 23 = g'55 23 from h79_ 23 (by decide), show g'55 23 = g'45 23 from h60_ 23 (by decide), show g'45 23 = g'5 23 from h49_ 23 (by decide), show g'5 23 = g 23 from h13_ 23 (by decide)]) hrest) (by show (f 15).toInt + -1 = z15.toInt + 0 + 0; omega) (by show (f 20).toInt = (f 20).toInt; omega) (by show (f 37).toInt + 0 = z94.toInt + 0 + -1; omega) (by show (f 32).toInt + 0 = (f 32).toInt + 0 + 0; omega) (by show (f 5).toInt + 0 = y22.toInt + 0 + -1; omega)⟩⟩ : mg_good (g'127 34) (g'127 38) (g'127 23) (((1 : Int), (0 : Int), (0 : Int), (0 : Int), []) :: (((13 : Int), r54.toInt, r64.toInt, z38.toInt, []) :: gs)) (z15.toInt) ((f 20).toInt) (z94.toInt) ((f 32).toInt) (y22.toInt))
    · exact ⟨(by show 0 ≤ z21.toInt; omega), (by show z21.toInt ≤ (f 0).toInt; omega), (by show (f 0).toInt ≤ 512; omega), (by show 0 ≤ z107.toInt; omega), (by show z107.toInt + (f 20).toInt + mg_p1 (((1 : Int), (0 : Int), (0 : Int), (0 : Int), []) :: (((13 : Int), r54.toInt, r64.toInt, z38.toInt, []) :: gs)) ≤ 4 * z21.toInt; omega), (by show (f 20).toInt ≤ z21.toInt; omega), (by show z15.toInt + mg_p2 (((1 : Int), (0 : Int), (0 : Int), (0 : Int), []) :: (((13 : Int), r54.toInt, r64.toInt, z38.toInt, []) :: gs)) ≤ z21.toInt; omega), (by show mg_p3 (((1 : Int), (0 : Int), (0 : Int), (0 : Int), []) :: (((13 : Int), r54.toInt, r64.toInt, z38.toInt, []) :: gs)) ≤ 20 * z21.toInt + 20; omega), (by show 0 ≤ z83.toInt; omega), (by show z83.toInt + 3 * (f 20).toInt + mg_p4 (((1 : Int), (0 : Int), (0 : Int), (0 : Int), []) :: (((13 : Int), r54.toInt, r64.toInt, z38.toInt, []) :: gs)) ≤ 60 * z21.toInt + 60; omega), (by show 0 ≤ o2.toInt; omega), (by show o2.toInt + 64 * mj_n (g'127 16) z15.toNatClampNeg 3 ≤ 64 * z21.toInt; rw [show g'127 16 = g'118 16 from h131_ 16 (by decide), show g'118 16 = g'109 16 from h122_ 16 (by decide), show g'109 16 = g'95 16 from h113_ 16 (by decide), show g'95 16 = g'85 16 from h99_ 16 (by decide), show g'85 16 = g'74 16 from h90_ 16 (by decide), show g'74 16 = g'55 16 from h79_ 16 (by decide), show g'55 16 = g'45 16 from h60_ 16 (by decide), show g'45 16 = g'5 16 from h49_ 16 (by decide)]; omega), (by show 0 ≤ (f 44).toInt; omega), (by show (f 44).toInt ≤ z21.toInt; omega), (by show 0 ≤ (f 48).toInt; omega), (by show (f 48).toInt ≤ z21.toInt; omega), (by show 1 ≤ (f 53).toInt; omega), (by show (f 53).toInt ≤ z21.toInt + 1; omega), (by show 0 ≤ (f 19).toInt; omega), (by show (f 19).toInt ≤ 600; omega)⟩
    · show 100 * ((f 0).toInt - z21.toInt) + mg_p3 (((1 : Int), (0 : Int), (0 : Int), (0 : Int), []) :: (((13 : Int), r54.toInt, r64.toInt, z38.toInt, []) :: gs)) < 100 * ((f 0).toInt - (f 4).toInt) + (1 + mg_p3 gs); omega
  · subst hv32
    replace hS33 : MS S0 S20 (upd (upd (upd (upd (upd (upd (upd f 6 a30) 7 b31) 10 0) 15 z15) 62 o2) 68 s3) 75 m4) g'5 := hS33
    have hR133 := rj_clear0 hR14_
    have hR134 : RJ (upd (upd (upd (upd (upd (upd (upd f 6 a30) 7 b31) 10 0) 15 z15) 62 o2) 68 s3) 75 m4) g'5 [] bc [] 0 [] := hR133
    show am_E _ _ _ _ [some (.ref 39), some (.int on), none, none, none] [.int 0] _ _
    refine am_e12f hi_253_6 (by decide) ?_
    refine am_e35 hi_253_9 ?_
    show am_E _ _ _ _ [some (.ref 39), some (.int 12), some (.int on), some (.int tw), some (.int th)] [] _ _
    refine am_e18 hi_180_248 ?_
    refine am_e35 hi_180_371 ?_
    have hRc := rj_clear0 hR134
    refine ⟨_, _, [], _, rfl, hS33, Or.inr ⟨hRc, rfl, (by show 0 ≤ (f 4).toInt; omega), (by show (f 4).toInt ≤ (f 0).toInt; omega), (by show 0 ≤ (f 32).toInt; omega), (by show (f 32).toInt ≤ 63; omega), (by show 1 ≤ (f 53).toInt; omega), (by show (f 53).toInt ≤ 600; omega), (by show 0 ≤ s3.toInt; omega), (by show s3.toInt ≤ 60000; omega), (by show 0 ≤ (f 48).toInt; omega), (by show (f 48).toInt ≤ 8000; omega), (by show 0 ≤ (f 37).toInt; omega), (by show (f 37).toInt ≤ 128; omega), (by show 0 ≤ o2.toInt; omega), (by show o2.toInt ≤ 65000; omega), (by show 0 ≤ (f 19).toInt; omega), (by show (f 19).toInt ≤ 600; omega)⟩⟩
