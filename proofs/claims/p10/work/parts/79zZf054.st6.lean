/-! STEPS: statements (printed by wip/p2/st2.py) -/
set_option maxHeartbeats 16000000 in
theorem st_3 {sc : Nat × (Nat → Int32)} {d : Nat} {S0 S : am_S} {f : Nat → Int32} {g : Nat → Nat → Int32} {on : Int32} {tw : Int32} {th : Int32} {gs : List mg_E} {bc : List (List Nat)} (hS : MS S0 S f g) (hR : RJ f g gs bc [] 0 []) (hrest : mg_good (g 34) (g 38) (g 23) gs ((f 15).toInt + -1) ((f 20).toInt) ((f 37).toInt + 0) ((f 32).toInt + 0) ((f 5).toInt + 0)) (p0 : 0 ≤ (f 4).toInt) (p1 : (f 4).toInt ≤ (f 0).toInt) (p2 : (f 0).toInt ≤ 512) (p3 : 0 ≤ (f 24).toInt) (p4 : (f 24).toInt + (f 20).toInt + mg_p1 gs ≤ 4 * (f 4).toInt) (p5 : (f 20).toInt ≤ (f 4).toInt) (p6 : (f 15).toInt + 0 + mg_p2 gs ≤ (f 4).toInt) (p7 : 1 + mg_p3 gs ≤ 20 * (f 4).toInt + 20) (p8 : 0 ≤ (f 68).toInt) (p9 : (f 68).toInt + 3 * (f 20).toInt + 0 + mg_p4 gs ≤ 60 * (f 4).toInt + 60) (p10 : 0 ≤ (f 62).toInt) (p11 : (f 62).toInt + 64 * mj_n (g 16) (f 15).toNatClampNeg 3 ≤ 64 * (f 4).toInt) (p12 : 0 ≤ (f 44).toInt) (p13 : (f 44).toInt ≤ (f 4).toInt) (p14 : 0 ≤ (f 48).toInt) (p15 : (f 48).toInt ≤ (f 4).toInt) (p16 : 1 ≤ (f 53).toInt) (p17 : (f 53).toInt ≤ (f 4).toInt + 1) (p18 : 0 ≤ (f 19).toInt) (p19 : (f 19).toInt ≤ 600) (p20 : 0 ≤ (f 6).toInt) (p21 : 0 ≤ (f 8).toInt) (p22 : 0 ≤ mg_p1 gs) (p23 : 0 ≤ mg_p2 gs) (p24 : 0 ≤ mg_p4 gs) (p25 : 0 ≤ (f 10).toInt) (p26 : (f 10).toInt ≤ mg_p3 gs) (p27 : 0 ≤ mj_n (g 16) (f 15).toNatClampNeg 3) (p28 : 1 ≤ (f 15).toInt) (p29 : 0 ≤ (f 20).toInt) (p30 : 1 ≤ (f 37).toInt) (p31 : 0 ≤ (f 32).toInt) (p32 : (f 32).toInt ≤ (f 5).toInt) (p33 : (f 5).toInt ≤ 48) (p34 : (f 37).toInt ≤ 2 * (f 5).toInt + 1) : am_E (am_PP sc) (d + 8) 180 0 [some (.ref 39), some (.int 3), some (.int on), some (.int tw), some (.int th)] [] S (am_N fun v S1 => ∃ (f' : Nat → Int32) (g' : Nat → Nat → Int32) (gs' : List mg_E) (bc' : List (List Nat)), v = none ∧ MS S0 S1 f' g' ∧ (mg_on f (100 * ((f 0).toInt - (f 4).toInt) + (1 + mg_p3 gs)) f' g' gs' bc' ∨ mg_off f f' g' bc')) := by
  have hbs := mg_basic hrest
  refine am_e1 (v := 3) hi_180_0 rfl ?_
  refine am_e0 hi_180_1 ?_
  refine am_e13t hi_180_3 (by decide) ?_
  refine am_e1 (v := 3) hi_180_14 rfl ?_
  refine am_e19 (t := 133) hi_180_15 (by decide) ?_
  refine am_e2 (v := 39) hi_180_133 rfl ?_
  refine am_e1 (v := on) hi_180_134 rfl ?_
  refine am_e32w (as := [.ref 39, .int on]) (la := [some (.ref 39), some (.int on), none]) (rest := []) hi_180_135 (am_hd0 (M := 180) (by decide) 135) (Nat.le_of_ble_eq_true rfl) (Nat.le_of_ble_eq_true rfl) (show 2 ≤ am_P0.2.2.1 244 from by decide +kernel) rfl (am_recv_ok hS.fs) rfl rfl ?_
  refine am_e2 (v := 39) hi_244_0 rfl ?_
  refine am_e32w (as := [.ref 39]) (la := [some (.ref 39)]) (rest := []) hi_244_1 (am_hd0 (M := 244) (by decide) 1) (Nat.le_of_ble_eq_true rfl) (Nat.le_of_ble_eq_true rfl) (show 1 ≤ am_P0.2.2.1 209 from by decide +kernel) rfl (am_recv_ok hS.fs) rfl rfl ?_
  refine am_e2 (v := 39) hi_209_0 rfl ?_
  refine am_e32n (as := [.ref 39]) (la := [some (.ref 39), none, none, none]) (rest := []) hi_209_1 (am_hd0 (M := 209) (by decide) 1) (Nat.le_of_ble_eq_true rfl) (Nat.le_of_ble_eq_true rfl) (show 1 ≤ am_P0.2.2.1 204 from by decide +kernel) rfl (am_recv_ok hS.fs) rfl rfl (ct_load (d := (d + 3)) hS hR  (by show (0 : Int) ≤ (f 32).toInt; omega) (by show (f 32).toInt ≤ (63 : Int); omega) (by show (f 53).toInt ≤ (4096 : Int); omega) (by show (0 : Int) ≤ (f 68).toInt; omega) (by show (f 68).toInt ≤ (65534 : Int); omega) (by show (1 : Int) ≤ (f 15).toInt; omega) (by show (f 15).toInt ≤ (32767 : Int); omega) (by show (0 : Int) ≤ (f 24).toInt; omega) (by show (f 24).toInt ≤ (16384 : Int); omega) (by show (0 : Int) ≤ (f 62).toInt; omega) (by show (f 62).toInt ≤ (65000 : Int); omega)) ?_
  rintro v0 S1 (⟨o2, s3, m4, g'5, hv6, hS7, hR14, h8, h9, h10, h11, h12, h13⟩)
  subst hv6
  have h8_ : (f 62).toInt ≤ o2.toInt := h8
  have h9_ : o2.toInt ≤ (f 62).toInt + 64 := h9
  have h10_ : (f 68).toInt ≤ s3.toInt := h10
  have h11_ : s3.toInt ≤ (f 68).toInt + 1 := h11
  have h12_ : o2.toInt + 64 * mj_n (g'5 16) (f 15).toNatClampNeg 3 ≤ (f 62).toInt + 64 * mj_n (g 16) (f 15).toNatClampNeg 3 := h12
  have h13_ : ∀ j, j ∉ [16, 60, 63, 64, 65, 66, 67, 69, 70, 71, 72, 73] → g'5 j = g j := h13
  have hR14_ : RJ (upd (upd (upd f 62 o2) 68 s3) 75 m4) g'5 gs bc [] 0 [] := hR14
  show am_E _ _ _ _ [some (.ref 39)] [] _ _
  refine am_e2 (v := 39) hi_209_4 rfl ?_
  refine am_e7 hi_209_5 ?_
  refine mm_20 (v := .int (f 15)) hS7 hi_209_6 rfl ?_
  refine am_e0 hi_209_9 ?_
  obtain ⟨z15, hz15, tz15⟩ := am_subI (x := f 15) (y := 1) (m := (f 15).toInt) (n := (1 : Int)) rfl (by decide) (by omega) (by omega)
  refine am_e10 (z := z15) hi_209_10 hz15 ?_
  refine mm_21 (v := z15) hS7 hi_209_11 rfl (Nat.le_of_ble_eq_true rfl) ms_15 ?_
  intro S16 hS17
  replace hS17 : MS S0 S16 (upd (upd (upd (upd f 15 z15) 62 o2) 68 s3) 75 m4) g'5 := hS17
  have hp18 : mj_n (g'5 16) (f 15).toNatClampNeg 3 = mj_n (g'5 16) z15.toNatClampNeg 3 + if (g'5 16 z15.toNatClampNeg).toInt = 3 then 1 else 0 := mj_pop (by rw [cl_toNat, cl_toNat]; omega)
  have hp181 : mj_n (g'5 16) z15.toNatClampNeg 3 ≤ mj_n (g'5 16) (f 15).toNatClampNeg 3 := by rw [hp18]; split <;> omega
  have hp182 : (g'5 16 z15.toNatClampNeg).toInt = 3 → mj_n (g'5 16) z15.toNatClampNeg 3 + 1 ≤ mj_n (g'5 16) (f 15).toNatClampNeg 3 := fun q => by rw [hp18, if_pos q]; exact Int.le_refl _
  refine am_e35 hi_209_14 ?_
  show am_E _ _ _ _ [some (.ref 39), some (.int on), none] [] _ _
  refine am_e2 (v := 39) hi_244_4 rfl ?_
  refine am_e0 hi_244_5 ?_
  refine am_e32n (as := [.ref 39, .int 12]) (la := [some (.ref 39), some (.int 12)]) (rest := []) hi_244_7 (am_hd0 (M := 244) (by decide) 7) (Nat.le_of_ble_eq_true rfl) (Nat.le_of_ble_eq_true rfl) (show 2 ≤ am_P0.2.2.1 193 from by decide +kernel) rfl (am_recv_ok hS17.fs) rfl rfl (ct_enter (d := (d + 4)) hS17   (by show (0 : Int) ≤ (f 4).toInt; omega) (by show (f 0).toInt ≤ (16384 : Int); omega) (by show (0 : Int) ≤ (12 : Int); omega) (by show (0 : Int) ≤ (f 5).toInt; omega) (by show (f 5).toInt ≤ (48 : Int); omega) (by show (0 : Int) ≤ (f 6).toInt; omega)) ?_
  rintro v19 S20 (⟨z21, y22, hv23, hS24, h25, h26, h27, h28⟩ | ⟨a30, b31, hv32, hS33, h34⟩)
  · subst hv23
    have h25_ : z21.toInt = (f 4).toInt + 1 := h25
    have h26_ : (f 4).toInt < (f 0).toInt := h26
    have h27_ : y22.toInt = (f 5).toInt + 1 := h27
    have h28_ : y22.toInt ≤ (48 : Int) := h28
    replace hS24 : MS S0 S20 (upd (upd (upd (upd (upd (upd f 4 z21) 5 y22) 15 z15) 62 o2) 68 s3) 75 m4) g'5 := hS24
    have hR36 : RJ (upd (upd (upd (upd (upd (upd f 4 z21) 5 y22) 15 z15) 62 o2) 68 s3) 75 m4) g'5 gs bc [] 0 [] := RJ.at hR14_ (by show (f 4).toInt ≤ z21.toInt; omega)
    show am_E _ _ _ _ [some (.ref 39), some (.int on), none] [.int 1] _ _
    refine am_e12t hi_244_10 (by decide) ?_
    refine am_e2 (v := 39) hi_244_14 rfl ?_
    refine am_e0 hi_244_15 ?_
    refine am_e0 hi_244_17 ?_
    refine am_e0 hi_244_18 ?_
    refine am_e0 hi_244_19 ?_
    refine am_e32n (as := [.ref 39, .int 35, .int 0, .int 0, .int 0]) (la := [some (.ref 39), some (.int 35), some (.int 0), some (.int 0), some (.int 0)]) (rest := []) hi_244_20 (am_hd0 (M := 244) (by decide) 20) (Nat.le_of_ble_eq_true rfl) (Nat.le_of_ble_eq_true rfl) (show 5 ≤ am_P0.2.2.1 189 from by decide +kernel) rfl (am_recv_ok hS24.fs) rfl rfl (ct_put (d := (d + 6)) hS24 hR36  (by show (0 : Int) ≤ (f 32).toInt; omega) (by show (f 32).toInt ≤ (63 : Int); omega) (by show (f 53).toInt ≤ (4096 : Int); omega) (by show (0 : Int) ≤ s3.toInt; omega) (by show s3.toInt ≤ (65534 : Int); omega)) ?_
    rintro v37 S38 (⟨z39, r40, g'41, hv42, hS43, hR47, h44, h45, h46⟩)
    subst hv42
    have h44_ : z39.toInt = s3.toInt + 1 := h44
    have h45_ : r40.toInt = s3.toInt := h45
    have h46_ : ∀ j, j ∉ [60, 69, 70, 71, 72, 73] → g'41 j = g'5 j := h46
    replace hS43 : MS S0 S38 (upd (upd (upd (upd (upd (upd f 4 z21) 5 y22) 15 z15) 62 o2) 68 z39) 75 m4) g'41 := hS43
    have hR47_ : RJ (upd (upd (upd (upd (upd (upd f 4 z21) 5 y22) 15 z15) 62 o2) 68 z39) 75 m4) g'41 gs bc [] 0 (s3.toNatClampNeg :: []) := hR47
    show am_E _ _ _ _ [some (.ref 39), some (.int on), none] [.int r40] _ _
    refine am_e3 (ls' := [some (.ref 39), some (.int on), some (.int r40)]) hi_244_23 (Nat.le_of_ble_eq_true rfl) rfl ?_
    refine am_e2 (v := 39) hi_244_24 rfl ?_
    refine am_e0 hi_244_25 ?_
    refine am_e32n (as := [.ref 39, .int 1]) (la := [some (.ref 39), some (.int 1)]) (rest := []) hi_244_26 (am_hd0 (M := 244) (by decide) 26) (Nat.le_of_ble_eq_true rfl) (Nat.le_of_ble_eq_true rfl) (show 2 ≤ am_P0.2.2.1 177 from by decide +kernel) rfl (am_recv_ok hS43.fs) rfl rfl (ct_beginBlock2 (d := (d + 6)) hS43 hR47_ (by decide)  (by show (0 : Int) ≤ (f 37).toInt; omega) (by show (f 37).toInt ≤ (127 : Int); omega) (by show (0 : Int) ≤ (f 24).toInt; omega) (by show (0 : Int) ≤ (f 44).toInt; omega) (by show (f 44).toInt ≤ z21.toInt; omega) (by show (0 : Int) ≤ (f 48).toInt; omega)) ?_
    rintro v48 S49 (⟨z50, g'51, hv52, hS53, hR57, h54, h55, h56⟩)
    subst hv52
    have h54_ : z50.toInt = (f 37).toInt + 1 := h54
    have h55_ : ∀ j, j ∉ [38, 39, 40, 41, 42, 43] → g'51 j = g'41 j := h55
    have h56_ : g'51 38 = upd (g'41 38) (f 37).toNatClampNeg (f 24) := h56
    replace hS53 : MS S0 S49 (upd (upd (upd (upd (upd (upd (upd f 4 z21) 5 y22) 15 z15) 37 z50) 62 o2) 68 z39) 75 m4) g'51 := hS53
    have hR57_ : RJ (upd (upd (upd (upd (upd (upd (upd f 4 z21) 5 y22) 15 z15) 37 z50) 62 o2) 68 z39) 75 m4) g'51 gs ([] :: bc) [] 0 (s3.toNatClampNeg :: []) := hR57
    show am_E _ _ _ _ [some (.ref 39), some (.int on), some (.int r40)] [] _ _
    refine am_e2 (v := 39) hi_244_29 rfl ?_
    refine am_e0 hi_244_30 ?_
    refine am_e1 (v := r40) hi_244_31 rfl ?_
    refine am_e1 (v := on) hi_244_32 rfl ?_
    refine am_e0 hi_244_33 ?_
    refine am_e32n (as := [.ref 39, .int 4, .int r40, .int on, .int 0]) (la := [some (.ref 39), some (.int 4), some (.int r40), some (.int on), some (.int 0)]) (rest := []) hi_244_34 (am_hd0 (M := 244) (by decide) 34) (Nat.le_of_ble_eq_true rfl) (Nat.le_of_ble_eq_true rfl) (show 5 ≤ am_P0.2.2.1 179 from by decide +kernel) rfl (am_recv_ok hS53.fs) rfl rfl (ct_pile (d := (d + 6)) hS53 hR57_ (mj_e_j hR57_ (by decide) (by show 0 ≤ r40.toInt; omega) (by rw [show r40.toInt.toNat = s3.toNatClampNeg from (by rw [cl_toNat]; omega)]; exact List.mem_cons_self)) (by show (0 : Int) ≤ (f 10).toInt; omega) (by show (f 10).toInt ≤ (65535 : Int); omega)) ?_
    rintro v58 S59 (⟨z60, g'61, hv62, hS63, hR66, h64, h65⟩)
    subst hv62
    have h64_ : z60.toInt = (f 10).toInt + 1 := h64
    have h65_ : ∀ j, j ∉ [11, 12, 13, 14] → g'61 j = g'51 j := h65
    replace hS63 : MS S0 S59 (upd (upd (upd (upd (upd (upd (upd (upd f 4 z21) 5 y22) 10 z60) 15 z15) 37 z50) 62 o2) 68 z39) 75 m4) g'61 := hS63
    have hR66_ : RJ (upd (upd (upd (upd (upd (upd (upd (upd f 4 z21) 5 y22) 10 z60) 15 z15) 37 z50) 62 o2) 68 z39) 75 m4) g'61 (((4 : Int), r40.toInt, on.toInt, (0 : Int), []) :: gs) ([] :: bc) [] 0 (s3.toNatClampNeg :: []) := hR66
    show am_E _ _ _ _ [some (.ref 39), some (.int on), some (.int r40)] [] _ _
    refine am_e2 (v := 39) hi_244_37 rfl ?_
    refine am_e32w (as := [.ref 39]) (la := [some (.ref 39)]) (rest := []) hi_244_38 (am_hd0 (M := 244) (by decide) 38) (Nat.le_of_ble_eq_true rfl) (Nat.le_of_ble_eq_true rfl) (show 1 ≤ am_P0.2.2.1 178 from by decide +kernel) rfl (am_recv_ok hS63.fs) rfl rfl ?_
    refine am_e2 (v := 39) hi_178_0 rfl ?_
    refine am_e0 hi_178_1 ?_
    refine am_e0 hi_178_2 ?_
    refine am_e0 hi_178_3 ?_
    refine am_e0 hi_178_4 ?_
    refine am_e32n (as := [.ref 39, .int 1, .int 0, .int 0, .int 0]) (la := [some (.ref 39), some (.int 1), some (.int 0), some (.int 0), some (.int 0)]) (rest := []) hi_178_5 (am_hd0 (M := 178) (by decide) 5) (Nat.le_of_ble_eq_true rfl) (Nat.le_of_ble_eq_true rfl) (show 5 ≤ am_P0.2.2.1 179 from by decide +kernel) rfl (am_recv_ok hS63.fs) rfl rfl (ct_pile (d := (d + 5)) hS63 hR66_ (mj_e_plain (by decide)) (by show (0 : Int) ≤ z60.toInt; omega) (by show z60.toInt ≤ (65535 : Int); omega)) ?_
    rintro v67 S68 (⟨z69, g'70, hv71, hS72, hR75, h73, h74⟩)
    subst hv71
    have h73_ : z69.toInt = z60.toInt + 1 := h73
    have h74_ : ∀ j, j ∉ [11, 12, 13, 14] → g'70 j = g'61 j := h74
    replace hS72 : MS S0 S68 (upd (upd (upd (upd (upd (upd (upd (upd f 4 z21) 5 y22) 10 z69) 15 z15) 37 z50) 62 o2) 68 z39) 75 m4) g'70 := hS72
    have hR75_ : RJ (upd (upd (upd (upd (upd (upd (upd (upd f 4 z21) 5 y22) 10 z69) 15 z15) 37 z50) 62 o2) 68 z39) 75 m4) g'70 (((1 : Int), (0 : Int), (0 : Int), (0 : Int), []) :: (((4 : Int), r40.toInt, on.toInt, (0 : Int), []) :: gs)) ([] :: bc) [] 0 (s3.toNatClampNeg :: []) := hR75
    show am_E _ _ _ _ [some (.ref 39)] [] _ _
    refine am_e35 hi_178_8 ?_
    show am_E _ _ _ _ [some (.ref 39), some (.int on), some (.int r40)] [] _ _
    refine am_e35 hi_244_41 ?_
    show am_E _ _ _ _ [some (.ref 39), some (.int 3), some (.int on), some (.int tw), some (.int th)] [] _ _
    refine am_e18 hi_180_138 ?_
    refine am_e35 hi_180_371 ?_
    have q1 : mg_p1 (((1 : Int), (0 : Int), (0 : Int), (0 : Int), []) :: (((4 : Int), r40.toInt, on.toInt, (0 : Int), []) :: gs)) = 0 + (0 + (mg_p1 gs)) := rfl
    have q2 : mg_p2 (((1 : Int), (0 : Int), (0 : Int), (0 : Int), []) :: (((4 : Int), r40.toInt, on.toInt, (0 : Int), []) :: gs)) = 0 + (0 + (mg_p2 gs)) := rfl
    have q3 : mg_p3 (((1 : Int), (0 : Int), (0 : Int), (0 : Int), []) :: (((4 : Int), r40.toInt, on.toInt, (0 : Int), []) :: gs)) = 1 + (1 + (mg_p3 gs)) := rfl
    have q4 : mg_p4 (((1 : Int), (0 : Int), (0 : Int), (0 : Int), []) :: (((4 : Int), r40.toInt, on.toInt, (0 : Int), []) :: gs)) = 0 + (0 + (mg_p4 gs)) := rfl
    refine ⟨_, _, _, ([] :: bc), rfl, hS72, Or.inl ⟨⟨(RJ.fewer (pj' := []) hR75_ (fun _ h => nomatch h)), ?_, ?_⟩, rfl, ?_⟩⟩
    · exact (⟨⟨(show mg_k 1 from by decide), (show (0 : Int) ≤ z15.toInt from by omega), (show 0 ≤ (f 20).toInt from by omega), (show 1 ≤ z50.toInt from by omega), (show 0 ≤ (f 32).toInt from by omega), (show (f 32).toInt ≤ y22.toInt from by omega), (show y22.toInt ≤ 48 from by omega), (show z50.toInt ≤ 2 * (y22.toInt) + 1 from by omega), trivial⟩, ⟨⟨(show mg_k 4 from by decide), (show (0 : Int) ≤ z15.toInt + 0 from by omega), (show 0 ≤ (f 20).toInt from by omega), (show 1 ≤ z50.toInt + 0 from by omega), (show 0 ≤ (f 32).toInt + 0 from by omega), (show (f 32).toInt + 0 ≤ y22.toInt + 0 from by omega), (show y22.toInt + 0 ≤ 48 from by omega), (show z50.toInt + 0 ≤ 2 * (y22.toInt + 0) + 0 from by omega), trivial⟩, mg_cast (mg_good_ext _ _ _ _ _ _ (fun i _ => by show g'70 34 i = g 34 i; rw [show g'70 34 = g'61 34 from h74_ 34 (by decide), show g'61 34 = g'51 34 from h65_ 34 (by decide), show g'51 34 = g'41 34 from h55_ 34 (by decide), show g'41 34 = g'5 34 from h46_ 34 (by decide), show g'5 34 = g 34 from h13_ 34 (by decide)]) (fun i hi => by show g'70 38 i = g 38 i; rw [show g'70 38 = g'61 38 from h74_ 38 (by decide), show g'61 38 = g'51 38 from h65_ 38 (by decide), h56_, show g'41 38 = g'5 38 from h46_ 38 (by decide), show g'5 38 = g 38 from h13_ 38 (by decide)]; exact upd_ne (by rw [cl_toNat]; omega)) (fun i _ => by show g'70 23 i = g 23 i; rw [show g'70 23 = g'61 23 from h74_ 23 (by decide), show g'61 23 = g'51 23 from h65_ 23 (by decide), show g'51 23 = g'41 23 from h55_ 23 (by decide), show g'41 23 = g'5 23 from h46_ 23 (by decide), show g'5 23 = g 23 from h13_ 23 (by decide)]) hrest) (by show (f 15).toInt + -1 = z15.toInt + 0 + 0; omega) (by show (f 20).toInt = (f 20).toInt; omega) (by show (f 37).toInt + 0 = z50.toInt + 0 + -1; omega) (by show (f 32).toInt + 0 = (f 32).toInt + 0 + 0; omega) (by show (f 5).toInt + 0 = y22.toInt + 0 + -1; omega)⟩⟩ : mg_good (g'70 34) (g'70 38) (g'70 23) (((1 : Int), (0 : Int), (0 : Int), (0 : Int), []) :: (((4 : Int), r40.toInt, on.toInt, (0 : Int), []) :: gs)) (z15.toInt) ((f 20).toInt) (z50.toInt) ((f 32).toInt) (y22.toInt))
    · exact ⟨(by show 0 ≤ z21.toInt; omega), (by show z21.toInt ≤ (f 0).toInt; omega), (by show (f 0).toInt ≤ 512; omega), (by show 0 ≤ (f 24).toInt; omega), (by show (f 24).toInt + (f 20).toInt + mg_p1 (((1 : Int), (0 : Int), (0 : Int), (0 : Int), []) :: (((4 : Int), r40.toInt, on.toInt, (0 : Int), []) :: gs)) ≤ 4 * z21.toInt; omega), (by show (f 20).toInt ≤ z21.toInt; omega), (by show z15.toInt + mg_p2 (((1 : Int), (0 : Int), (0 : Int), (0 : Int), []) :: (((4 : Int), r40.toInt, on.toInt, (0 : Int), []) :: gs)) ≤ z21.toInt; omega), (by show mg_p3 (((1 : Int), (0 : Int), (0 : Int), (0 : Int), []) :: (((4 : Int), r40.toInt, on.toInt, (0 : Int), []) :: gs)) ≤ 20 * z21.toInt + 20; omega), (by show 0 ≤ z39.toInt; omega), (by show z39.toInt + 3 * (f 20).toInt + mg_p4 (((1 : Int), (0 : Int), (0 : Int), (0 : Int), []) :: (((4 : Int), r40.toInt, on.toInt, (0 : Int), []) :: gs)) ≤ 60 * z21.toInt + 60; omega), (by show 0 ≤ o2.toInt; omega), (by show o2.toInt + 64 * mj_n (g'70 16) z15.toNatClampNeg 3 ≤ 64 * z21.toInt; rw [show g'70 16 = g'61 16 from h74_ 16 (by decide), show g'61 16 = g'51 16 from h65_ 16 (by decide), show g'51 16 = g'41 16 from h55_ 16 (by decide), show g'41 16 = g'5 16 from h46_ 16 (by decide)]; omega), (by show 0 ≤ (f 44).toInt; omega), (by show (f 44).toInt ≤ z21.toInt; omega), (by show 0 ≤ (f 48).toInt; omega), (by show (f 48).toInt ≤ z21.toInt; omega), (by show 1 ≤ (f 53).toInt; omega), (by show (f 53).toInt ≤ z21.toInt + 1; omega), (by show 0 ≤ (f 19).toInt; omega), (by show (f 19).toInt ≤ 600; omega), (by show 0 ≤ (f 6).toInt; omega), (by show 0 ≤ (f 8).toInt; omega)⟩
    · show 100 * ((f 0).toInt - z21.toInt) + mg_p3 (((1 : Int), (0 : Int), (0 : Int), (0 : Int), []) :: (((4 : Int), r40.toInt, on.toInt, (0 : Int), []) :: gs)) < 100 * ((f 0).toInt - (f 4).toInt) + (1 + mg_p3 gs); omega
  · subst hv32
    have h34_ : (0 : Int) ≤ a30.toInt := h34
    replace hS33 : MS S0 S20 (upd (upd (upd (upd (upd (upd (upd f 6 a30) 7 b31) 10 0) 15 z15) 62 o2) 68 s3) 75 m4) g'5 := hS33
    have hR76 := rj_clear0 hR14_
    have hR77 : RJ (upd (upd (upd (upd (upd (upd (upd f 6 a30) 7 b31) 10 0) 15 z15) 62 o2) 68 s3) 75 m4) g'5 [] bc [] 0 [] := hR76
    show am_E _ _ _ _ [some (.ref 39), some (.int on), none] [.int 0] _ _
    refine am_e12f hi_244_10 (by decide) ?_
    refine am_e35 hi_244_13 ?_
    show am_E _ _ _ _ [some (.ref 39), some (.int 3), some (.int on), some (.int tw), some (.int th)] [] _ _
    refine am_e18 hi_180_138 ?_
    refine am_e35 hi_180_371 ?_
    have hRc := rj_clear0 hR77
    refine ⟨_, _, [], _, rfl, hS33, Or.inr ⟨hRc, rfl, (by show 0 ≤ (f 4).toInt; omega), (by show (f 4).toInt ≤ (f 0).toInt; omega), (by show 0 ≤ (f 32).toInt; omega), (by show (f 32).toInt ≤ 63; omega), (by show 1 ≤ (f 53).toInt; omega), (by show (f 53).toInt ≤ 600; omega), (by show 0 ≤ s3.toInt; omega), (by show s3.toInt ≤ 60000; omega), (by show 0 ≤ (f 48).toInt; omega), (by show (f 48).toInt ≤ 8000; omega), (by show 0 ≤ (f 37).toInt; omega), (by show (f 37).toInt ≤ 128; omega), (by show 0 ≤ o2.toInt; omega), (by show o2.toInt ≤ 65000; omega), (by show 0 ≤ (f 19).toInt; omega), (by show (f 19).toInt ≤ 600; omega), (by show 0 ≤ a30.toInt; omega), (by show 0 ≤ (f 8).toInt; omega)⟩⟩
set_option maxHeartbeats 16000000 in
theorem st_5 {sc : Nat × (Nat → Int32)} {d : Nat} {S0 S : am_S} {f : Nat → Int32} {g : Nat → Nat → Int32} {on : Int32} {tw : Int32} {th : Int32} {gs : List mg_E} {bc : List (List Nat)} (hS : MS S0 S f g) (hR : RJ f g gs bc [] 0 []) (hrest : mg_good (g 34) (g 38) (g 23) gs ((f 15).toInt + 0) ((f 20).toInt) ((f 37).toInt + -1) ((f 32).toInt + 0) ((f 5).toInt + -1)) (p0 : 0 ≤ (f 4).toInt) (p1 : (f 4).toInt ≤ (f 0).toInt) (p2 : (f 0).toInt ≤ 512) (p3 : 0 ≤ (f 24).toInt) (p4 : (f 24).toInt + (f 20).toInt + mg_p1 gs ≤ 4 * (f 4).toInt) (p5 : (f 20).toInt ≤ (f 4).toInt) (p6 : (f 15).toInt + 0 + mg_p2 gs ≤ (f 4).toInt) (p7 : 1 + mg_p3 gs ≤ 20 * (f 4).toInt + 20) (p8 : 0 ≤ (f 68).toInt) (p9 : (f 68).toInt + 3 * (f 20).toInt + 0 + mg_p4 gs ≤ 60 * (f 4).toInt + 60) (p10 : 0 ≤ (f 62).toInt) (p11 : (f 62).toInt + 64 * mj_n (g 16) (f 15).toNatClampNeg 3 ≤ 64 * (f 4).toInt) (p12 : 0 ≤ (f 44).toInt) (p13 : (f 44).toInt ≤ (f 4).toInt) (p14 : 0 ≤ (f 48).toInt) (p15 : (f 48).toInt ≤ (f 4).toInt) (p16 : 1 ≤ (f 53).toInt) (p17 : (f 53).toInt ≤ (f 4).toInt + 1) (p18 : 0 ≤ (f 19).toInt) (p19 : (f 19).toInt ≤ 600) (p20 : 0 ≤ (f 6).toInt) (p21 : 0 ≤ (f 8).toInt) (p22 : 0 ≤ mg_p1 gs) (p23 : 0 ≤ mg_p2 gs) (p24 : 0 ≤ mg_p4 gs) (p25 : 0 ≤ (f 10).toInt) (p26 : (f 10).toInt ≤ mg_p3 gs) (p27 : 0 ≤ mj_n (g 16) (f 15).toNatClampNeg 3) (p28 : 0 ≤ (f 15).toInt) (p29 : 0 ≤ (f 20).toInt) (p30 : 1 ≤ (f 37).toInt) (p31 : 0 ≤ (f 32).toInt) (p32 : (f 32).toInt ≤ (f 5).toInt) (p33 : (f 5).toInt ≤ 48) (p34 : (f 37).toInt ≤ 2 * (f 5).toInt + 0) : am_E (am_PP sc) (d + 8) 180 0 [some (.ref 39), some (.int 5), some (.int on), some (.int tw), some (.int th)] [] S (am_N fun v S1 => ∃ (f' : Nat → Int32) (g' : Nat → Nat → Int32) (gs' : List mg_E) (bc' : List (List Nat)), v = none ∧ MS S0 S1 f' g' ∧ (mg_on f (100 * ((f 0).toInt - (f 4).toInt) + (1 + mg_p3 gs)) f' g' gs' bc' ∨ mg_off f f' g' bc')) := by
  have hbs := mg_basic hrest
  refine am_e1 (v := 5) hi_180_0 rfl ?_
  refine am_e0 hi_180_1 ?_
  refine am_e13t hi_180_3 (by decide) ?_
  refine am_e1 (v := 5) hi_180_14 rfl ?_
  refine am_e19 (t := 150) hi_180_15 (by decide) ?_
  refine am_e2 (v := 39) hi_180_150 rfl ?_
  refine am_e0 hi_180_151 ?_
  refine am_e32n (as := [.ref 39, .int 30]) (la := [some (.ref 39), some (.int 30)]) (rest := []) hi_180_153 (am_hd0 (M := 180) (by decide) 153) (Nat.le_of_ble_eq_true rfl) (Nat.le_of_ble_eq_true rfl) (show 2 ≤ am_P0.2.2.1 199 from by decide +kernel) rfl (am_recv_ok hS.fs) rfl rfl (ct_leave (d := (d + 4)) hS   (by show (0 : Int) ≤ (f 4).toInt; omega) (by show (f 0).toInt ≤ (16384 : Int); omega) (by show (0 : Int) ≤ (30 : Int); omega) (by show (0 : Int) ≤ (f 5).toInt; omega) (by show (f 5).toInt ≤ (48 : Int); omega) (by show (0 : Int) ≤ (f 6).toInt; omega)) ?_
  rintro v0 S1 (⟨z2, y3, hv4, hS5, h6, h7, h8⟩ | ⟨a10, b11, hv12, hS13, h14⟩)
  · subst hv4
    have h6_ : z2.toInt = (f 4).toInt + 1 := h6
    have h7_ : (f 4).toInt < (f 0).toInt := h7
    have h8_ : y3.toInt = (f 5).toInt - 1 := h8
    have hR16 : RJ (upd (upd f 4 z2) 5 y3) g gs bc [] 0 [] := RJ.at hR (by show (f 4).toInt ≤ z2.toInt; omega)
    show am_E _ _ _ _ [some (.ref 39), some (.int 5), some (.int on), some (.int tw), some (.int th)] [.int 1] _ _
    refine am_e12t hi_180_156 (by decide) ?_
    refine am_e2 (v := 39) hi_180_162 rfl ?_
    refine am_e0 hi_180_163 ?_
    refine am_e1 (v := on) hi_180_165 rfl ?_
    refine am_e0 hi_180_166 ?_
    refine am_e0 hi_180_167 ?_
    refine am_e32n (as := [.ref 39, .int 6, .int on, .int 0, .int 0]) (la := [some (.ref 39), some (.int 6), some (.int on), some (.int 0), some (.int 0)]) (rest := []) hi_180_168 (am_hd0 (M := 180) (by decide) 168) (Nat.le_of_ble_eq_true rfl) (Nat.le_of_ble_eq_true rfl) (show 5 ≤ am_P0.2.2.1 179 from by decide +kernel) rfl (am_recv_ok hS5.fs) rfl rfl (ct_pile (d := (d + 7)) hS5 hR16 (mj_e_plain (by decide)) (by show (0 : Int) ≤ (f 10).toInt; omega) (by show (f 10).toInt ≤ (65535 : Int); omega)) ?_
    rintro v17 S18 (⟨z19, g'20, hv21, hS22, hR25, h23, h24⟩)
    subst hv21
    have h23_ : z19.toInt = (f 10).toInt + 1 := h23
    have h24_ : ∀ j, j ∉ [11, 12, 13, 14] → g'20 j = g j := h24
    have hR25_ : RJ (upd (upd (upd f 4 z2) 5 y3) 10 z19) g'20 (((6 : Int), on.toInt, (0 : Int), (0 : Int), []) :: gs) bc [] 0 [] := hR25
    show am_E _ _ _ _ [some (.ref 39), some (.int 5), some (.int on), some (.int tw), some (.int th)] [] _ _
    refine am_e2 (v := 39) hi_180_171 rfl ?_
    refine am_e0 hi_180_172 ?_
    refine am_e32w (as := [.ref 39, .int 0]) (la := [some (.ref 39), some (.int 0)]) (rest := []) hi_180_173 (am_hd0 (M := 180) (by decide) 173) (Nat.le_of_ble_eq_true rfl) (Nat.le_of_ble_eq_true rfl) (show 2 ≤ am_P0.2.2.1 186 from by decide +kernel) rfl (am_recv_ok hS22.fs) rfl rfl ?_
    refine am_e2 (v := 39) hi_186_0 rfl ?_
    refine am_e0 hi_186_1 ?_
    refine am_e1 (v := 0) hi_186_3 rfl ?_
    refine am_e0 hi_186_4 ?_
    refine am_e0 hi_186_5 ?_
    refine am_e32n (as := [.ref 39, .int 23, .int 0, .int 0, .int 0]) (la := [some (.ref 39), some (.int 23), some (.int 0), some (.int 0), some (.int 0)]) (rest := []) hi_186_6 (am_hd0 (M := 186) (by decide) 6) (Nat.le_of_ble_eq_true rfl) (Nat.le_of_ble_eq_true rfl) (show 5 ≤ am_P0.2.2.1 179 from by decide +kernel) rfl (am_recv_ok hS22.fs) rfl rfl (ct_pile (d := (d + 6)) hS22 hR25_ (mj_e_plain (by decide)) (by show (0 : Int) ≤ z19.toInt; omega) (by show z19.toInt ≤ (65535 : Int); omega)) ?_
    rintro v26 S27 (⟨z28, g'29, hv30, hS31, hR34, h32, h33⟩)
    subst hv30
    have h32_ : z28.toInt = z19.toInt + 1 := h32
    have h33_ : ∀ j, j ∉ [11, 12, 13, 14] → g'29 j = g'20 j := h33
    replace hS31 : MS S0 S27 (upd (upd (upd f 4 z2) 5 y3) 10 z28) g'29 := hS31
    have hR34_ : RJ (upd (upd (upd f 4 z2) 5 y3) 10 z28) g'29 (((23 : Int), (0 : Int), (0 : Int), (0 : Int), []) :: (((6 : Int), on.toInt, (0 : Int), (0 : Int), []) :: gs)) bc [] 0 [] := hR34
    show am_E _ _ _ _ [some (.ref 39), some (.int 0)] [] _ _
    refine am_e35 hi_186_9 ?_
    show am_E _ _ _ _ [some (.ref 39), some (.int 5), some (.int on), some (.int tw), some (.int th)] [] _ _
    refine am_e18 hi_180_176 ?_
    refine am_e35 hi_180_371 ?_
    have q1 : mg_p1 (((23 : Int), (0 : Int), (0 : Int), (0 : Int), []) :: (((6 : Int), on.toInt, (0 : Int), (0 : Int), []) :: gs)) = 0 + (0 + (mg_p1 gs)) := rfl
    have q2 : mg_p2 (((23 : Int), (0 : Int), (0 : Int), (0 : Int), []) :: (((6 : Int), on.toInt, (0 : Int), (0 : Int), []) :: gs)) = 0 + (0 + (mg_p2 gs)) := rfl
    have q3 : mg_p3 (((23 : Int), (0 : Int), (0 : Int), (0 : Int), []) :: (((6 : Int), on.toInt, (0 : Int), (0 : Int), []) :: gs)) = 1 + (1 + (mg_p3 gs)) := rfl
    have q4 : mg_p4 (((23 : Int), (0 : Int), (0 : Int), (0 : Int), []) :: (((6 : Int), on.toInt, (0 : Int), (0 : Int), []) :: gs)) = 0 + (6 + (mg_p4 gs)) := rfl
    refine ⟨_, _, _, bc, rfl, hS31, Or.inl ⟨⟨hR34_, ?_, ?_⟩, rfl, ?_⟩⟩
    · exact (⟨⟨(show mg_k 23 from by decide), (show (0 : Int) ≤ (f 15).toInt from by omega), (show 0 ≤ (f 20).toInt from by omega), (show 1 ≤ (f 37).toInt from by omega), (show 0 ≤ (f 32).toInt from by omega), (show (f 32).toInt ≤ y3.toInt from by omega), (show y3.toInt ≤ 48 from by omega), (show (f 37).toInt ≤ 2 * (y3.toInt) + 2 from by omega), (show 0 ≤ (0 : Int) from by omega)⟩, ⟨⟨(show mg_k 6 from by decide), (show (1 : Int) ≤ (f 15).toInt + 1 from by omega), (show 0 ≤ (f 20).toInt from by omega), (show 1 ≤ (f 37).toInt + 0 from by omega), (show 0 ≤ (f 32).toInt + 0 from by omega), (show (f 32).toInt + 0 ≤ y3.toInt + 0 from by omega), (show y3.toInt + 0 ≤ 48 from by omega), (show (f 37).toInt + 0 ≤ 2 * (y3.toInt + 0) + 2 from by omega), trivial⟩, mg_cast (mg_good_ext _ _ _ _ _ _ (fun i _ => by show g'29 34 i = g 34 i; rw [show g'29 34 = g'20 34 from h33_ 34 (by decide), show g'20 34 = g 34 from h24_ 34 (by decide)]) (fun i _ => by show g'29 38 i = g 38 i; rw [show g'29 38 = g'20 38 from h33_ 38 (by decide), show g'20 38 = g 38 from h24_ 38 (by decide)]) (fun i _ => by show g'29 23 i = g 23 i; rw [show g'29 23 = g'20 23 from h33_ 23 (by decide), show g'20 23 = g 23 from h24_ 23 (by decide)]) hrest) (by show (f 15).toInt + 0 = (f 15).toInt + 1 + -1; omega) (by show (f 20).toInt = (f 20).toInt; omega) (by show (f 37).toInt + -1 = (f 37).toInt + 0 + -1; omega) (by show (f 32).toInt + 0 = (f 32).toInt + 0 + 0; omega) (by show (f 5).toInt + -1 = y3.toInt + 0 + 0; omega)⟩⟩ : mg_good (g'29 34) (g'29 38) (g'29 23) (((23 : Int), (0 : Int), (0 : Int), (0 : Int), []) :: (((6 : Int), on.toInt, (0 : Int), (0 : Int), []) :: gs)) ((f 15).toInt) ((f 20).toInt) ((f 37).toInt) ((f 32).toInt) (y3.toInt))
    · exact ⟨(by show 0 ≤ z2.toInt; omega), (by show z2.toInt ≤ (f 0).toInt; omega), (by show (f 0).toInt ≤ 512; omega), (by show 0 ≤ (f 24).toInt; omega), (by show (f 24).toInt + (f 20).toInt + mg_p1 (((23 : Int), (0 : Int), (0 : Int), (0 : Int), []) :: (((6 : Int), on.toInt, (0 : Int), (0 : Int), []) :: gs)) ≤ 4 * z2.toInt; omega), (by show (f 20).toInt ≤ z2.toInt; omega), (by show (f 15).toInt + mg_p2 (((23 : Int), (0 : Int), (0 : Int), (0 : Int), []) :: (((6 : Int), on.toInt, (0 : Int), (0 : Int), []) :: gs)) ≤ z2.toInt; omega), (by show mg_p3 (((23 : Int), (0 : Int), (0 : Int), (0 : Int), []) :: (((6 : Int), on.toInt, (0 : Int), (0 : Int), []) :: gs)) ≤ 20 * z2.toInt + 20; omega), (by show 0 ≤ (f 68).toInt; omega), (by show (f 68).toInt + 3 * (f 20).toInt + mg_p4 (((23 : Int), (0 : Int), (0 : Int), (0 : Int), []) :: (((6 : Int), on.toInt, (0 : Int), (0 : Int), []) :: gs)) ≤ 60 * z2.toInt + 60; omega), (by show 0 ≤ (f 62).toInt; omega), (by show (f 62).toInt + 64 * mj_n (g'29 16) (f 15).toNatClampNeg 3 ≤ 64 * z2.toInt; rw [show g'29 16 = g'20 16 from h33_ 16 (by decide), show g'20 16 = g 16 from h24_ 16 (by decide)]; omega), (by show 0 ≤ (f 44).toInt; omega), (by show (f 44).toInt ≤ z2.toInt; omega), (by show 0 ≤ (f 48).toInt; omega), (by show (f 48).toInt ≤ z2.toInt; omega), (by show 1 ≤ (f 53).toInt; omega), (by show (f 53).toInt ≤ z2.toInt + 1; omega), (by show 0 ≤ (f 19).toInt; omega), (by show (f 19).toInt ≤ 600; omega), (by show 0 ≤ (f 6).toInt; omega), (by show 0 ≤ (f 8).toInt; omega)⟩
    · show 100 * ((f 0).toInt - z2.toInt) + mg_p3 (((23 : Int), (0 : Int), (0 : Int), (0 : Int), []) :: (((6 : Int), on.toInt, (0 : Int), (0 : Int), []) :: gs)) < 100 * ((f 0).toInt - (f 4).toInt) + (1 + mg_p3 gs); omega
  · subst hv12
    have h14_ : (0 : Int) ≤ a10.toInt := h14
    have hR35 := rj_clear0 hR
    have hR36 : RJ (upd (upd (upd f 6 a10) 7 b11) 10 0) g [] bc [] 0 [] := hR35
    show am_E _ _ _ _ [some (.ref 39), some (.int 5), some (.int on), some (.int tw), some (.int th)] [.int 0] _ _
    refine am_e12f hi_180_156 (by decide) ?_
    refine am_e18 hi_180_159 ?_
    refine am_e35 hi_180_371 ?_
    have hRc := rj_clear0 hR36
    refine ⟨_, _, [], _, rfl, hS13, Or.inr ⟨hRc, rfl, (by show 0 ≤ (f 4).toInt; omega), (by show (f 4).toInt ≤ (f 0).toInt; omega), (by show 0 ≤ (f 32).toInt; omega), (by show (f 32).toInt ≤ 63; omega), (by show 1 ≤ (f 53).toInt; omega), (by show (f 53).toInt ≤ 600; omega), (by show 0 ≤ (f 68).toInt; omega), (by show (f 68).toInt ≤ 60000; omega), (by show 0 ≤ (f 48).toInt; omega), (by show (f 48).toInt ≤ 8000; omega), (by show 0 ≤ (f 37).toInt; omega), (by show (f 37).toInt ≤ 128; omega), (by show 0 ≤ (f 62).toInt; omega), (by show (f 62).toInt ≤ 65000; omega), (by show 0 ≤ (f 19).toInt; omega), (by show (f 19).toInt ≤ 600; omega), (by show 0 ≤ a10.toInt; omega), (by show 0 ≤ (f 8).toInt; omega)⟩⟩
set_option maxHeartbeats 16000000 in
theorem st_10 {sc : Nat × (Nat → Int32)} {d : Nat} {S0 S : am_S} {f : Nat → Int32} {g : Nat → Nat → Int32} {on : Int32} {tw : Int32} {th : Int32} {gs : List mg_E} {bc : List (List Nat)} (hS : MS S0 S f g) (hR : RJ f g gs bc [] 0 []) (hrest : mg_good (g 34) (g 38) (g 23) gs ((f 15).toInt + -1) ((f 20).toInt) ((f 37).toInt + 0) ((f 32).toInt + 0) ((f 5).toInt + 0)) (p0 : 0 ≤ (f 4).toInt) (p1 : (f 4).toInt ≤ (f 0).toInt) (p2 : (f 0).toInt ≤ 512) (p3 : 0 ≤ (f 24).toInt) (p4 : (f 24).toInt + (f 20).toInt + mg_p1 gs ≤ 4 * (f 4).toInt) (p5 : (f 20).toInt ≤ (f 4).toInt) (p6 : (f 15).toInt + 0 + mg_p2 gs ≤ (f 4).toInt) (p7 : 1 + mg_p3 gs ≤ 20 * (f 4).toInt + 20) (p8 : 0 ≤ (f 68).toInt) (p9 : (f 68).toInt + 3 * (f 20).toInt + 0 + mg_p4 gs ≤ 60 * (f 4).toInt + 60) (p10 : 0 ≤ (f 62).toInt) (p11 : (f 62).toInt + 64 * mj_n (g 16) (f 15).toNatClampNeg 3 ≤ 64 * (f 4).toInt) (p12 : 0 ≤ (f 44).toInt) (p13 : (f 44).toInt ≤ (f 4).toInt) (p14 : 0 ≤ (f 48).toInt) (p15 : (f 48).toInt ≤ (f 4).toInt) (p16 : 1 ≤ (f 53).toInt) (p17 : (f 53).toInt ≤ (f 4).toInt + 1) (p18 : 0 ≤ (f 19).toInt) (p19 : (f 19).toInt ≤ 600) (p20 : 0 ≤ (f 6).toInt) (p21 : 0 ≤ (f 8).toInt) (p22 : 0 ≤ mg_p1 gs) (p23 : 0 ≤ mg_p2 gs) (p24 : 0 ≤ mg_p4 gs) (p25 : 0 ≤ (f 10).toInt) (p26 : (f 10).toInt ≤ mg_p3 gs) (p27 : 0 ≤ mj_n (g 16) (f 15).toNatClampNeg 3) (p28 : 1 ≤ (f 15).toInt) (p29 : 0 ≤ (f 20).toInt) (p30 : 1 ≤ (f 37).toInt) (p31 : 0 ≤ (f 32).toInt) (p32 : (f 32).toInt ≤ (f 5).toInt) (p33 : (f 5).toInt ≤ 48) (p34 : (f 37).toInt ≤ 2 * (f 5).toInt + 1) (p35 : 0 ≤ on.toInt) (p36 : on.toInt ≤ 16000) : am_E (am_PP sc) (d + 8) 180 0 [some (.ref 39), some (.int 10), some (.int on), some (.int tw), some (.int th)] [] S (am_N fun v S1 => ∃ (f' : Nat → Int32) (g' : Nat → Nat → Int32) (gs' : List mg_E) (bc' : List (List Nat)), v = none ∧ MS S0 S1 f' g' ∧ (mg_on f (100 * ((f 0).toInt - (f 4).toInt) + (1 + mg_p3 gs)) f' g' gs' bc' ∨ mg_off f f' g' bc')) := by
  have hbs := mg_basic hrest
  refine am_e1 (v := 10) hi_180_0 rfl ?_
  refine am_e0 hi_180_1 ?_
  refine am_e13t hi_180_3 (by decide) ?_
  refine am_e1 (v := 10) hi_180_14 rfl ?_
  refine am_e19 (t := 223) hi_180_15 (by decide) ?_
  refine am_e2 (v := 39) hi_180_223 rfl ?_
  refine am_e1 (v := on) hi_180_224 rfl ?_
  refine am_e32w (as := [.ref 39, .int on]) (la := [some (.ref 39), some (.int on)]) (rest := []) hi_180_225 (am_hd0 (M := 180) (by decide) 225) (Nat.le_of_ble_eq_true rfl) (Nat.le_of_ble_eq_true rfl) (show 2 ≤ am_P0.2.2.1 251 from by decide +kernel) rfl (am_recv_ok hS.fs) rfl rfl ?_
  refine am_e2 (v := 39) hi_251_0 rfl ?_
  refine am_e32w (as := [.ref 39]) (la := [some (.ref 39)]) (rest := []) hi_251_1 (am_hd0 (M := 251) (by decide) 1) (Nat.le_of_ble_eq_true rfl) (Nat.le_of_ble_eq_true rfl) (show 1 ≤ am_P0.2.2.1 209 from by decide +kernel) rfl (am_recv_ok hS.fs) rfl rfl ?_
  refine am_e2 (v := 39) hi_209_0 rfl ?_
  refine am_e32n (as := [.ref 39]) (la := [some (.ref 39), none, none, none]) (rest := []) hi_209_1 (am_hd0 (M := 209) (by decide) 1) (Nat.le_of_ble_eq_true rfl) (Nat.le_of_ble_eq_true rfl) (show 1 ≤ am_P0.2.2.1 204 from by decide +kernel) rfl (am_recv_ok hS.fs) rfl rfl (ct_load (d := (d + 3)) hS hR  (by show (0 : Int) ≤ (f 32).toInt; omega) (by show (f 32).toInt ≤ (63 : Int); omega) (by show (f 53).toInt ≤ (4096 : Int); omega) (by show (0 : Int) ≤ (f 68).toInt; omega) (by show (f 68).toInt ≤ (65534 : Int); omega) (by show (1 : Int) ≤ (f 15).toInt; omega) (by show (f 15).toInt ≤ (32767 : Int); omega) (by show (0 : Int) ≤ (f 24).toInt; omega) (by show (f 24).toInt ≤ (16384 : Int); omega) (by show (0 : Int) ≤ (f 62).toInt; omega) (by show (f 62).toInt ≤ (65000 : Int); omega)) ?_
  rintro v0 S1 (⟨o2, s3, m4, g'5, hv6, hS7, hR14, h8, h9, h10, h11, h12, h13⟩)
  subst hv6
  have h8_ : (f 62).toInt ≤ o2.toInt := h8
  have h9_ : o2.toInt ≤ (f 62).toInt + 64 := h9
  have h10_ : (f 68).toInt ≤ s3.toInt := h10
  have h11_ : s3.toInt ≤ (f 68).toInt + 1 := h11
  have h12_ : o2.toInt + 64 * mj_n (g'5 16) (f 15).toNatClampNeg 3 ≤ (f 62).toInt + 64 * mj_n (g 16) (f 15).toNatClampNeg 3 := h12
  have h13_ : ∀ j, j ∉ [16, 60, 63, 64, 65, 66, 67, 69, 70, 71, 72, 73] → g'5 j = g j := h13
  have hR14_ : RJ (upd (upd (upd f 62 o2) 68 s3) 75 m4) g'5 gs bc [] 0 [] := hR14
  show am_E _ _ _ _ [some (.ref 39)] [] _ _
  refine am_e2 (v := 39) hi_209_4 rfl ?_
  refine am_e7 hi_209_5 ?_
  refine mm_20 (v := .int (f 15)) hS7 hi_209_6 rfl ?_
  refine am_e0 hi_209_9 ?_
  obtain ⟨z15, hz15, tz15⟩ := am_subI (x := f 15) (y := 1) (m := (f 15).toInt) (n := (1 : Int)) rfl (by decide) (by omega) (by omega)
  refine am_e10 (z := z15) hi_209_10 hz15 ?_
  refine mm_21 (v := z15) hS7 hi_209_11 rfl (Nat.le_of_ble_eq_true rfl) ms_15 ?_
  intro S16 hS17
  replace hS17 : MS S0 S16 (upd (upd (upd (upd f 15 z15) 62 o2) 68 s3) 75 m4) g'5 := hS17
  have hp18 : mj_n (g'5 16) (f 15).toNatClampNeg 3 = mj_n (g'5 16) z15.toNatClampNeg 3 + if (g'5 16 z15.toNatClampNeg).toInt = 3 then 1 else 0 := mj_pop (by rw [cl_toNat, cl_toNat]; omega)
  have hp181 : mj_n (g'5 16) z15.toNatClampNeg 3 ≤ mj_n (g'5 16) (f 15).toNatClampNeg 3 := by rw [hp18]; split <;> omega
  have hp182 : (g'5 16 z15.toNatClampNeg).toInt = 3 → mj_n (g'5 16) z15.toNatClampNeg 3 + 1 ≤ mj_n (g'5 16) (f 15).toNatClampNeg 3 := fun q => by rw [hp18, if_pos q]; exact Int.le_refl _
  refine am_e35 hi_209_14 ?_
  show am_E _ _ _ _ [some (.ref 39), some (.int on)] [] _ _
  refine am_e2 (v := 39) hi_251_4 rfl ?_
  refine am_e0 hi_251_5 ?_
  refine am_e32n (as := [.ref 39, .int 69]) (la := [some (.ref 39), some (.int 69)]) (rest := []) hi_251_7 (am_hd0 (M := 251) (by decide) 7) (Nat.le_of_ble_eq_true rfl) (Nat.le_of_ble_eq_true rfl) (show 2 ≤ am_P0.2.2.1 200 from by decide +kernel) rfl (am_recv_ok hS17.fs) rfl rfl (ct_take (d := (d + 4)) hS17   (by show (0 : Int) ≤ (f 4).toInt; omega) (by show (f 0).toInt ≤ (16384 : Int); omega) (by show (0 : Int) ≤ (69 : Int); omega) (by show (0 : Int) ≤ (f 6).toInt; omega)) ?_
  rintro v19 S20 (⟨z21, hv22, hS23, h24, h25⟩ | ⟨a27, b28, hv29, hS30, h31⟩)
  · subst hv22
    have h24_ : z21.toInt = (f 4).toInt + 1 := h24
    have h25_ : (f 4).toInt < (f 0).toInt := h25
    replace hS23 : MS S0 S20 (upd (upd (upd (upd (upd f 4 z21) 15 z15) 62 o2) 68 s3) 75 m4) g'5 := hS23
    have hR33 : RJ (upd (upd (upd (upd (upd f 4 z21) 15 z15) 62 o2) 68 s3) 75 m4) g'5 gs bc [] 0 [] := RJ.at hR14_ (by show (f 4).toInt ≤ z21.toInt; omega)
    show am_E _ _ _ _ [some (.ref 39), some (.int on)] [.int 1] _ _
    refine am_e12t hi_251_10 (by decide) ?_
    refine am_e2 (v := 39) hi_251_14 rfl ?_
    refine am_e0 hi_251_15 ?_
    refine am_e1 (v := on) hi_251_17 rfl ?_
    refine am_e0 hi_251_18 ?_
    refine am_e0 hi_251_19 ?_
    refine am_e32n (as := [.ref 39, .int 11, .int on, .int 0, .int 0]) (la := [some (.ref 39), some (.int 11), some (.int on), some (.int 0), some (.int 0)]) (rest := []) hi_251_20 (am_hd0 (M := 251) (by decide) 20) (Nat.le_of_ble_eq_true rfl) (Nat.le_of_ble_eq_true rfl) (show 5 ≤ am_P0.2.2.1 179 from by decide +kernel) rfl (am_recv_ok hS23.fs) rfl rfl (ct_pile (d := (d + 6)) hS23 hR33 (mj_e_plain (by decide)) (by show (0 : Int) ≤ (f 10).toInt; omega) (by show (f 10).toInt ≤ (65535 : Int); omega)) ?_
    rintro v34 S35 (⟨z36, g'37, hv38, hS39, hR42, h40, h41⟩)
    subst hv38
    have h40_ : z36.toInt = (f 10).toInt + 1 := h40
    have h41_ : ∀ j, j ∉ [11, 12, 13, 14] → g'37 j = g'5 j := h41
    replace hS39 : MS S0 S35 (upd (upd (upd (upd (upd (upd f 4 z21) 10 z36) 15 z15) 62 o2) 68 s3) 75 m4) g'37 := hS39
    have hR42_ : RJ (upd (upd (upd (upd (upd (upd f 4 z21) 10 z36) 15 z15) 62 o2) 68 s3) 75 m4) g'37 (((11 : Int), on.toInt, (0 : Int), (0 : Int), []) :: gs) bc [] 0 [] := hR42
    show am_E _ _ _ _ [some (.ref 39), some (.int on)] [] _ _
    refine am_e2 (v := 39) hi_251_23 rfl ?_
    refine am_e0 hi_251_24 ?_
    refine am_e32w (as := [.ref 39, .int 0]) (la := [some (.ref 39), some (.int 0)]) (rest := []) hi_251_25 (am_hd0 (M := 251) (by decide) 25) (Nat.le_of_ble_eq_true rfl) (Nat.le_of_ble_eq_true rfl) (show 2 ≤ am_P0.2.2.1 186 from by decide +kernel) rfl (am_recv_ok hS39.fs) rfl rfl ?_
    refine am_e2 (v := 39) hi_186_0 rfl ?_
    refine am_e0 hi_186_1 ?_
    refine am_e1 (v := 0) hi_186_3 rfl ?_
    refine am_e0 hi_186_4 ?_
    refine am_e0 hi_186_5 ?_
    refine am_e32n (as := [.ref 39, .int 23, .int 0, .int 0, .int 0]) (la := [some (.ref 39), some (.int 23), some (.int 0), some (.int 0), some (.int 0)]) (rest := []) hi_186_6 (am_hd0 (M := 186) (by decide) 6) (Nat.le_of_ble_eq_true rfl) (Nat.le_of_ble_eq_true rfl) (show 5 ≤ am_P0.2.2.1 179 from by decide +kernel) rfl (am_recv_ok hS39.fs) rfl rfl (ct_pile (d := (d + 5)) hS39 hR42_ (mj_e_plain (by decide)) (by show (0 : Int) ≤ z36.toInt; omega) (by show z36.toInt ≤ (65535 : Int); omega)) ?_
    rintro v43 S44 (⟨z45, g'46, hv47, hS48, hR51, h49, h50⟩)
    subst hv47
    have h49_ : z45.toInt = z36.toInt + 1 := h49
    have h50_ : ∀ j, j ∉ [11, 12, 13, 14] → g'46 j = g'37 j := h50
    replace hS48 : MS S0 S44 (upd (upd (upd (upd (upd (upd f 4 z21) 10 z45) 15 z15) 62 o2) 68 s3) 75 m4) g'46 := hS48
    have hR51_ : RJ (upd (upd (upd (upd (upd (upd f 4 z21) 10 z45) 15 z15) 62 o2) 68 s3) 75 m4) g'46 (((23 : Int), (0 : Int), (0 : Int), (0 : Int), []) :: (((11 : Int), on.toInt, (0 : Int), (0 : Int), []) :: gs)) bc [] 0 [] := hR51
    show am_E _ _ _ _ [some (.ref 39), some (.int 0)] [] _ _
    refine am_e35 hi_186_9 ?_
    show am_E _ _ _ _ [some (.ref 39), some (.int on)] [] _ _
    refine am_e35 hi_251_28 ?_
    show am_E _ _ _ _ [some (.ref 39), some (.int 10), some (.int on), some (.int tw), some (.int th)] [] _ _
    refine am_e18 hi_180_228 ?_
    refine am_e35 hi_180_371 ?_
    have q1 : mg_p1 (((23 : Int), (0 : Int), (0 : Int), (0 : Int), []) :: (((11 : Int), on.toInt, (0 : Int), (0 : Int), []) :: gs)) = 0 + (0 + (mg_p1 gs)) := rfl
    have q2 : mg_p2 (((23 : Int), (0 : Int), (0 : Int), (0 : Int), []) :: (((11 : Int), on.toInt, (0 : Int), (0 : Int), []) :: gs)) = 0 + (0 + (mg_p2 gs)) := rfl
    have q3 : mg_p3 (((23 : Int), (0 : Int), (0 : Int), (0 : Int), []) :: (((11 : Int), on.toInt, (0 : Int), (0 : Int), []) :: gs)) = 1 + (1 + (mg_p3 gs)) := rfl
    have q4 : mg_p4 (((23 : Int), (0 : Int), (0 : Int), (0 : Int), []) :: (((11 : Int), on.toInt, (0 : Int), (0 : Int), []) :: gs)) = 0 + (0 + (mg_p4 gs)) := rfl
    refine ⟨_, _, _, bc, rfl, hS48, Or.inl ⟨⟨hR51_, ?_, ?_⟩, rfl, ?_⟩⟩
    · exact (⟨⟨(show mg_k 23 from by decide), (show (0 : Int) ≤ z15.toInt from by omega), (show 0 ≤ (f 20).toInt from by omega), (show 1 ≤ (f 37).toInt from by omega), (show 0 ≤ (f 32).toInt from by omega), (show (f 32).toInt ≤ (f 5).toInt from by omega), (show (f 5).toInt ≤ 48 from by omega), (show (f 37).toInt ≤ 2 * ((f 5).toInt) + 2 from by omega), (show 0 ≤ (0 : Int) from by omega)⟩, ⟨⟨(show mg_k 11 from by decide), (show (1 : Int) ≤ z15.toInt + 1 from by omega), (show 0 ≤ (f 20).toInt from by omega), (show 1 ≤ (f 37).toInt + 0 from by omega), (show 0 ≤ (f 32).toInt + 0 from by omega), (show (f 32).toInt + 0 ≤ (f 5).toInt + 0 from by omega), (show (f 5).toInt + 0 ≤ 48 from by omega), (show (f 37).toInt + 0 ≤ 2 * ((f 5).toInt + 0) + 1 from by omega), ⟨(show 0 ≤ on.toInt from by omega), (show on.toInt ≤ 16000 from by omega)⟩⟩, mg_cast (mg_good_ext _ _ _ _ _ _ (fun i _ => by show g'46 34 i = g 34 i; rw [show g'46 34 = g'37 34 from h50_ 34 (by decide), show g'37 34 = g'5 34 from h41_ 34 (by decide), show g'5 34 = g 34 from h13_ 34 (by decide)]) (fun i _ => by show g'46 38 i = g 38 i; rw [show g'46 38 = g'37 38 from h50_ 38 (by decide), show g'37 38 = g'5 38 from h41_ 38 (by decide), show g'5 38 = g 38 from h13_ 38 (by decide)]) (fun i _ => by show g'46 23 i = g 23 i; rw [show g'46 23 = g'37 23 from h50_ 23 (by decide), show g'37 23 = g'5 23 from h41_ 23 (by decide), show g'5 23 = g 23 from h13_ 23 (by decide)]) hrest) (by show (f 15).toInt + -1 = z15.toInt + 1 + -1; omega) (by show (f 20).toInt = (f 20).toInt; omega) (by show (f 37).toInt + 0 = (f 37).toInt + 0 + 0; omega) (by show (f 32).toInt + 0 = (f 32).toInt + 0 + 0; omega) (by show (f 5).toInt + 0 = (f 5).toInt + 0 + 0; omega)⟩⟩ : mg_good (g'46 34) (g'46 38) (g'46 23) (((23 : Int), (0 : Int), (0 : Int), (0 : Int), []) :: (((11 : Int), on.toInt, (0 : Int), (0 : Int), []) :: gs)) (z15.toInt) ((f 20).toInt) ((f 37).toInt) ((f 32).toInt) ((f 5).toInt))
    · exact ⟨(by show 0 ≤ z21.toInt; omega), (by show z21.toInt ≤ (f 0).toInt; omega), (by show (f 0).toInt ≤ 512; omega), (by show 0 ≤ (f 24).toInt; omega), (by show (f 24).toInt + (f 20).toInt + mg_p1 (((23 : Int), (0 : Int), (0 : Int), (0 : Int), []) :: (((11 : Int), on.toInt, (0 : Int), (0 : Int), []) :: gs)) ≤ 4 * z21.toInt; omega), (by show (f 20).toInt ≤ z21.toInt; omega), (by show z15.toInt + mg_p2 (((23 : Int), (0 : Int), (0 : Int), (0 : Int), []) :: (((11 : Int), on.toInt, (0 : Int), (0 : Int), []) :: gs)) ≤ z21.toInt; omega), (by show mg_p3 (((23 : Int), (0 : Int), (0 : Int), (0 : Int), []) :: (((11 : Int), on.toInt, (0 : Int), (0 : Int), []) :: gs)) ≤ 20 * z21.toInt + 20; omega), (by show 0 ≤ s3.toInt; omega), (by show s3.toInt + 3 * (f 20).toInt + mg_p4 (((23 : Int), (0 : Int), (0 : Int), (0 : Int), []) :: (((11 : Int), on.toInt, (0 : Int), (0 : Int), []) :: gs)) ≤ 60 * z21.toInt + 60; omega), (by show 0 ≤ o2.toInt; omega), (by show o2.toInt + 64 * mj_n (g'46 16) z15.toNatClampNeg 3 ≤ 64 * z21.toInt; rw [show g'46 16 = g'37 16 from h50_ 16 (by decide), show g'37 16 = g'5 16 from h41_ 16 (by decide)]; omega), (by show 0 ≤ (f 44).toInt; omega), (by show (f 44).toInt ≤ z21.toInt; omega), (by show 0 ≤ (f 48).toInt; omega), (by show (f 48).toInt ≤ z21.toInt; omega), (by show 1 ≤ (f 53).toInt; omega), (by show (f 53).toInt ≤ z21.toInt + 1; omega), (by show 0 ≤ (f 19).toInt; omega), (by show (f 19).toInt ≤ 600; omega), (by show 0 ≤ (f 6).toInt; omega), (by show 0 ≤ (f 8).toInt; omega)⟩
    · show 100 * ((f 0).toInt - z21.toInt) + mg_p3 (((23 : Int), (0 : Int), (0 : Int), (0 : Int), []) :: (((11 : Int), on.toInt, (0 : Int), (0 : Int), []) :: gs)) < 100 * ((f 0).toInt - (f 4).toInt) + (1 + mg_p3 gs); omega
  · subst hv29
    have h31_ : (0 : Int) ≤ a27.toInt := h31
    replace hS30 : MS S0 S20 (upd (upd (upd (upd (upd (upd (upd f 6 a27) 7 b28) 10 0) 15 z15) 62 o2) 68 s3) 75 m4) g'5 := hS30
    have hR52 := rj_clear0 hR14_
    have hR53 : RJ (upd (upd (upd (upd (upd (upd (upd f 6 a27) 7 b28) 10 0) 15 z15) 62 o2) 68 s3) 75 m4) g'5 [] bc [] 0 [] := hR52
    show am_E _ _ _ _ [some (.ref 39), some (.int on)] [.int 0] _ _
    refine am_e12f hi_251_10 (by decide) ?_
    refine am_e35 hi_251_13 ?_
    show am_E _ _ _ _ [some (.ref 39), some (.int 10), some (.int on), some (.int tw), some (.int th)] [] _ _
    refine am_e18 hi_180_228 ?_
    refine am_e35 hi_180_371 ?_
    have hRc := rj_clear0 hR53
    refine ⟨_, _, [], _, rfl, hS30, Or.inr ⟨hRc, rfl, (by show 0 ≤ (f 4).toInt; omega), (by show (f 4).toInt ≤ (f 0).toInt; omega), (by show 0 ≤ (f 32).toInt; omega), (by show (f 32).toInt ≤ 63; omega), (by show 1 ≤ (f 53).toInt; omega), (by show (f 53).toInt ≤ 600; omega), (by show 0 ≤ s3.toInt; omega), (by show s3.toInt ≤ 60000; omega), (by show 0 ≤ (f 48).toInt; omega), (by show (f 48).toInt ≤ 8000; omega), (by show 0 ≤ (f 37).toInt; omega), (by show (f 37).toInt ≤ 128; omega), (by show 0 ≤ o2.toInt; omega), (by show o2.toInt ≤ 65000; omega), (by show 0 ≤ (f 19).toInt; omega), (by show (f 19).toInt ≤ 600; omega), (by show 0 ≤ a27.toInt; omega), (by show 0 ≤ (f 8).toInt; omega)⟩⟩
set_option maxHeartbeats 16000000 in
theorem st_16 {sc : Nat × (Nat → Int32)} {d : Nat} {S0 S : am_S} {f : Nat → Int32} {g : Nat → Nat → Int32} {on : Int32} {tw : Int32} {th : Int32} {gs : List mg_E} {bc : List (List Nat)} (hS : MS S0 S f g) (hR : RJ f g gs bc [] 0 []) (hrest : mg_good (g 34) (g 38) (g 23) gs ((f 15).toInt + -1) ((f 20).toInt) ((f 37).toInt + 0) ((f 32).toInt + 0) ((f 5).toInt + 0)) (p0 : 0 ≤ (f 4).toInt) (p1 : (f 4).toInt ≤ (f 0).toInt) (p2 : (f 0).toInt ≤ 512) (p3 : 0 ≤ (f 24).toInt) (p4 : (f 24).toInt + (f 20).toInt + mg_p1 gs ≤ 4 * (f 4).toInt) (p5 : (f 20).toInt ≤ (f 4).toInt) (p6 : (f 15).toInt + 0 + mg_p2 gs ≤ (f 4).toInt) (p7 : 1 + mg_p3 gs ≤ 20 * (f 4).toInt + 20) (p8 : 0 ≤ (f 68).toInt) (p9 : (f 68).toInt + 3 * (f 20).toInt + 3 + mg_p4 gs ≤ 60 * (f 4).toInt + 60) (p10 : 0 ≤ (f 62).toInt) (p11 : (f 62).toInt + 64 * mj_n (g 16) (f 15).toNatClampNeg 3 ≤ 64 * (f 4).toInt) (p12 : 0 ≤ (f 44).toInt) (p13 : (f 44).toInt ≤ (f 4).toInt) (p14 : 0 ≤ (f 48).toInt) (p15 : (f 48).toInt ≤ (f 4).toInt) (p16 : 1 ≤ (f 53).toInt) (p17 : (f 53).toInt ≤ (f 4).toInt + 1) (p18 : 0 ≤ (f 19).toInt) (p19 : (f 19).toInt ≤ 600) (p20 : 0 ≤ (f 6).toInt) (p21 : 0 ≤ (f 8).toInt) (p22 : 0 ≤ mg_p1 gs) (p23 : 0 ≤ mg_p2 gs) (p24 : 0 ≤ mg_p4 gs) (p25 : 0 ≤ (f 10).toInt) (p26 : (f 10).toInt ≤ mg_p3 gs) (p27 : 0 ≤ mj_n (g 16) (f 15).toNatClampNeg 3) (p28 : 1 ≤ (f 15).toInt) (p29 : 0 ≤ (f 20).toInt) (p30 : 1 ≤ (f 37).toInt) (p31 : 0 ≤ (f 32).toInt) (p32 : (f 32).toInt ≤ (f 5).toInt) (p33 : (f 5).toInt ≤ 48) (p34 : (f 37).toInt ≤ 2 * (f 5).toInt + 1) : am_E (am_PP sc) (d + 8) 180 0 [some (.ref 39), some (.int 16), some (.int on), some (.int tw), some (.int th)] [] S (am_N fun v S1 => ∃ (f' : Nat → Int32) (g' : Nat → Nat → Int32) (gs' : List mg_E) (bc' : List (List Nat)), v = none ∧ MS S0 S1 f' g' ∧ (mg_on f (100 * ((f 0).toInt - (f 4).toInt) + (1 + mg_p3 gs)) f' g' gs' bc' ∨ mg_off f f' g' bc')) := by
  have hbs := mg_basic hrest
  refine am_e1 (v := 16) hi_180_0 rfl ?_
  refine am_e0 hi_180_1 ?_
  refine am_e13t hi_180_3 (by decide) ?_
  refine am_e1 (v := 16) hi_180_14 rfl ?_
  refine am_e19 (t := 284) hi_180_15 (by decide) ?_
  refine am_e2 (v := 39) hi_180_284 rfl ?_
  refine am_e1 (v := on) hi_180_285 rfl ?_
  refine am_e1 (v := tw) hi_180_286 rfl ?_
  refine am_e1 (v := th) hi_180_287 rfl ?_
  refine am_e32w (as := [.ref 39, .int on, .int tw, .int th]) (la := [some (.ref 39), some (.int on), some (.int tw), some (.int th)]) (rest := []) hi_180_289 (am_hd0 (M := 180) (by decide) 289) (Nat.le_of_ble_eq_true rfl) (Nat.le_of_ble_eq_true rfl) (show 4 ≤ am_P0.2.2.1 260 from by decide +kernel) rfl (am_recv_ok hS.fs) rfl rfl ?_
  refine am_e2 (v := 39) hi_260_0 rfl ?_
  refine am_e7 hi_260_1 ?_
  refine mm_20 (v := .int (f 15)) hS hi_260_2 rfl ?_
  refine am_e0 hi_260_5 ?_
  obtain ⟨z0, hz0, tz0⟩ := am_subI (x := f 15) (y := 1) (m := (f 15).toInt) (n := (1 : Int)) rfl (by decide) (by omega) (by omega)
  refine am_e10 (z := z0) hi_260_6 hz0 ?_
  refine mm_21 (v := z0) hS hi_260_7 rfl (Nat.le_of_ble_eq_true rfl) ms_15 ?_
  intro S1 hS2
  have hp3 : mj_n (g 16) (f 15).toNatClampNeg 3 = mj_n (g 16) z0.toNatClampNeg 3 + if (g 16 z0.toNatClampNeg).toInt = 3 then 1 else 0 := mj_pop (by rw [cl_toNat, cl_toNat]; omega)
  have hp31 : mj_n (g 16) z0.toNatClampNeg 3 ≤ mj_n (g 16) (f 15).toNatClampNeg 3 := by rw [hp3]; split <;> omega
  have hp32 : (g 16 z0.toNatClampNeg).toInt = 3 → mj_n (g 16) z0.toNatClampNeg 3 + 1 ≤ mj_n (g 16) (f 15).toNatClampNeg 3 := fun q => by rw [hp3, if_pos q]; exact Int.le_refl _
  refine am_e1 (v := on) hi_260_10 rfl ?_
  refine am_e0 hi_260_11 ?_
  by_cases c4 : (3 : Int) ≤ on.toInt
  · refine am_e13t hi_260_12 (am_cT (m := on.toInt) (n := (3 : Int)) rfl (by decide) c4) ?_
    refine am_e2 (v := 39) hi_260_30 rfl ?_
    refine am_e0 hi_260_31 ?_
    refine am_e0 hi_260_33 ?_
    refine am_e0 hi_260_34 ?_
    refine am_e1 (v := th) hi_260_35 rfl ?_
    refine am_e32n (as := [.ref 39, .int 32, .int 0, .int 0, .int th]) (la := [some (.ref 39), some (.int 32), some (.int 0), some (.int 0), some (.int th)]) (rest := []) hi_260_36 (am_hd0 (M := 260) (by decide) 36) (Nat.le_of_ble_eq_true rfl) (Nat.le_of_ble_eq_true rfl) (show 5 ≤ am_P0.2.2.1 189 from by decide +kernel) rfl (am_recv_ok hS2.fs) rfl rfl (ct_put (d := (d + 6)) hS2 hR  (by show (0 : Int) ≤ (f 32).toInt; omega) (by show (f 32).toInt ≤ (63 : Int); omega) (by show (f 53).toInt ≤ (4096 : Int); omega) (by show (0 : Int) ≤ (f 68).toInt; omega) (by show (f 68).toInt ≤ (65534 : Int); omega)) ?_
    rintro v5 S6 (⟨z7, r8, g'9, hv10, hS11, hR15, h12, h13, h14⟩)
    subst hv10
    have h12_ : z7.toInt = (f 68).toInt + 1 := h12
    have h13_ : r8.toInt = (f 68).toInt := h13
    have h14_ : ∀ j, j ∉ [60, 69, 70, 71, 72, 73] → g'9 j = g j := h14
    have hR15_ : RJ (upd (upd f 15 z0) 68 z7) g'9 gs bc [] 0 ((f 68).toNatClampNeg :: []) := hR15
    show am_E _ _ _ _ [some (.ref 39), some (.int on), some (.int tw), some (.int th)] [.int r8] _ _
    refine am_e6i hi_260_39 ?_
    refine am_e2 (v := 39) hi_260_40 rfl ?_
    refine am_e0 hi_260_41 ?_
    refine am_e0 hi_260_43 ?_
    refine am_e0 hi_260_44 ?_
    refine am_e0 hi_260_45 ?_
    refine am_e32n (as := [.ref 39, .int 26, .int 2, .int 0, .int 0]) (la := [some (.ref 39), some (.int 26), some (.int 2), some (.int 0), some (.int 0)]) (rest := []) hi_260_46 (am_hd0 (M := 260) (by decide) 46) (Nat.le_of_ble_eq_true rfl) (Nat.le_of_ble_eq_true rfl) (show 5 ≤ am_P0.2.2.1 189 from by decide +kernel) rfl (am_recv_ok hS11.fs) rfl rfl (ct_put (d := (d + 6)) hS11 hR15_  (by show (0 : Int) ≤ (f 32).toInt; omega) (by show (f 32).toInt ≤ (63 : Int); omega) (by show (f 53).toInt ≤ (4096 : Int); omega) (by show (0 : Int) ≤ z7.toInt; omega) (by show z7.toInt ≤ (65534 : Int); omega)) ?_
    rintro v16 S17 (⟨z18, r19, g'20, hv21, hS22, hR26, h23, h24, h25⟩)
    subst hv21
    have h23_ : z18.toInt = z7.toInt + 1 := h23
    have h24_ : r19.toInt = z7.toInt := h24
    have h25_ : ∀ j, j ∉ [60, 69, 70, 71, 72, 73] → g'20 j = g'9 j := h25
    replace hS22 : MS S0 S17 (upd (upd f 15 z0) 68 z18) g'20 := hS22
    have hR26_ : RJ (upd (upd f 15 z0) 68 z18) g'20 gs bc [] 0 (z7.toNatClampNeg :: ((f 68).toNatClampNeg :: [])) := hR26
    show am_E _ _ _ _ [some (.ref 39), some (.int on), some (.int tw), some (.int th)] [.int r19] _ _
    refine am_e6i hi_260_49 ?_
    refine am_e35 hi_260_50 ?_
    show am_E _ _ _ _ [some (.ref 39), some (.int 16), some (.int on), some (.int tw), some (.int th)] [] _ _
    refine am_e18 hi_180_292 ?_
    refine am_e35 hi_180_371 ?_
    have q1 : mg_p1 gs = mg_p1 gs := rfl
    have q2 : mg_p2 gs = mg_p2 gs := rfl
    have q3 : mg_p3 gs = mg_p3 gs := rfl
    have q4 : mg_p4 gs = mg_p4 gs := rfl
    refine ⟨_, _, _, bc, rfl, hS22, Or.inl ⟨⟨(RJ.fewer (pj' := []) hR26_ (fun _ h => nomatch h)), ?_, ?_⟩, rfl, ?_⟩⟩
    · exact (mg_cast (mg_good_ext _ _ _ _ _ _ (fun i _ => by show g'20 34 i = g 34 i; rw [show g'20 34 = g'9 34 from h25_ 34 (by decide), show g'9 34 = g 34 from h14_ 34 (by decide)]) (fun i _ => by show g'20 38 i = g 38 i; rw [show g'20 38 = g'9 38 from h25_ 38 (by decide), show g'9 38 = g 38 from h14_ 38 (by decide)]) (fun i _ => by show g'20 23 i = g 23 i; rw [show g'20 23 = g'9 23 from h25_ 23 (by decide), show g'9 23 = g 23 from h14_ 23 (by decide)]) hrest) (by show (f 15).toInt + -1 = z0.toInt; omega) (by show (f 20).toInt = (f 20).toInt; omega) (by show (f 37).toInt + 0 = (f 37).toInt; omega) (by show (f 32).toInt + 0 = (f 32).toInt; omega) (by show (f 5).toInt + 0 = (f 5).toInt; omega) : mg_good (g'20 34) (g'20 38) (g'20 23) gs (z0.toInt) ((f 20).toInt) ((f 37).toInt) ((f 32).toInt) ((f 5).toInt))
    · exact ⟨(by show 0 ≤ (f 4).toInt; omega), (by show (f 4).toInt ≤ (f 0).toInt; omega), (by show (f 0).toInt ≤ 512; omega), (by show 0 ≤ (f 24).toInt; omega), (by show (f 24).toInt + (f 20).toInt + mg_p1 gs ≤ 4 * (f 4).toInt; omega), (by show (f 20).toInt ≤ (f 4).toInt; omega), (by show z0.toInt + mg_p2 gs ≤ (f 4).toInt; omega), (by show mg_p3 gs ≤ 20 * (f 4).toInt + 20; omega), (by show 0 ≤ z18.toInt; omega), (by show z18.toInt + 3 * (f 20).toInt + mg_p4 gs ≤ 60 * (f 4).toInt + 60; omega), (by show 0 ≤ (f 62).toInt; omega), (by show (f 62).toInt + 64 * mj_n (g'20 16) z0.toNatClampNeg 3 ≤ 64 * (f 4).toInt; rw [show g'20 16 = g'9 16 from h25_ 16 (by decide), show g'9 16 = g 16 from h14_ 16 (by decide)]; omega), (by show 0 ≤ (f 44).toInt; omega), (by show (f 44).toInt ≤ (f 4).toInt; omega), (by show 0 ≤ (f 48).toInt; omega), (by show (f 48).toInt ≤ (f 4).toInt; omega), (by show 1 ≤ (f 53).toInt; omega), (by show (f 53).toInt ≤ (f 4).toInt + 1; omega), (by show 0 ≤ (f 19).toInt; omega), (by show (f 19).toInt ≤ 600; omega), (by show 0 ≤ (f 6).toInt; omega), (by show 0 ≤ (f 8).toInt; omega)⟩
    · show 100 * ((f 0).toInt - (f 4).toInt) + mg_p3 gs < 100 * ((f 0).toInt - (f 4).toInt) + (1 + mg_p3 gs); omega
  · refine am_e13f hi_260_12 (am_cF (m := on.toInt) (n := (3 : Int)) rfl (by decide) c4) ?_
    refine am_e2 (v := 39) hi_260_15 rfl ?_
    refine am_e0 hi_260_16 ?_
    refine am_e1 (v := on) hi_260_18 rfl ?_
    obtain ⟨z27, hz27⟩ : ∃ q__, am_bin 0 29 on = q__ := ⟨_, rfl⟩
    refine am_e10 (z := z27) hi_260_19 hz27 ?_
    refine am_e1 (v := tw) hi_260_20 rfl ?_
    refine am_e0 hi_260_21 ?_
    refine am_e1 (v := th) hi_260_22 rfl ?_
    refine am_e32n (as := [.ref 39, .int z27, .int tw, .int 0, .int th]) (la := [some (.ref 39), some (.int z27), some (.int tw), some (.int 0), some (.int th)]) (rest := []) hi_260_23 (am_hd0 (M := 260) (by decide) 23) (Nat.le_of_ble_eq_true rfl) (Nat.le_of_ble_eq_true rfl) (show 5 ≤ am_P0.2.2.1 189 from by decide +kernel) rfl (am_recv_ok hS2.fs) rfl rfl (ct_put (d := (d + 6)) hS2 hR  (by show (0 : Int) ≤ (f 32).toInt; omega) (by show (f 32).toInt ≤ (63 : Int); omega) (by show (f 53).toInt ≤ (4096 : Int); omega) (by show (0 : Int) ≤ (f 68).toInt; omega) (by show (f 68).toInt ≤ (65534 : Int); omega)) ?_
    rintro v28 S29 (⟨z30, r31, g'32, hv33, hS34, hR38, h35, h36, h37⟩)
    subst hv33
    have h35_ : z30.toInt = (f 68).toInt + 1 := h35
    have h36_ : r31.toInt = (f 68).toInt := h36
    have h37_ : ∀ j, j ∉ [60, 69, 70, 71, 72, 73] → g'32 j = g j := h37
    have hR38_ : RJ (upd (upd f 15 z0) 68 z30) g'32 gs bc [] 0 ((f 68).toNatClampNeg :: []) := hR38
    show am_E _ _ _ _ [some (.ref 39), some (.int on), some (.int tw), some (.int th)] [.int r31] _ _
    refine am_e6i hi_260_26 ?_
    refine am_e18 hi_260_27 ?_
    refine am_e35 hi_260_50 ?_
    show am_E _ _ _ _ [some (.ref 39), some (.int 16), some (.int on), some (.int tw), some (.int th)] [] _ _
    refine am_e18 hi_180_292 ?_
    refine am_e35 hi_180_371 ?_
    have q1 : mg_p1 gs = mg_p1 gs := rfl
    have q2 : mg_p2 gs = mg_p2 gs := rfl
    have q3 : mg_p3 gs = mg_p3 gs := rfl
    have q4 : mg_p4 gs = mg_p4 gs := rfl
    refine ⟨_, _, _, bc, rfl, hS34, Or.inl ⟨⟨(RJ.fewer (pj' := []) hR38_ (fun _ h => nomatch h)), ?_, ?_⟩, rfl, ?_⟩⟩
    · exact (mg_cast (mg_good_ext _ _ _ _ _ _ (fun i _ => by show g'32 34 i = g 34 i; rw [show g'32 34 = g 34 from h37_ 34 (by decide)]) (fun i _ => by show g'32 38 i = g 38 i; rw [show g'32 38 = g 38 from h37_ 38 (by decide)]) (fun i _ => by show g'32 23 i = g 23 i; rw [show g'32 23 = g 23 from h37_ 23 (by decide)]) hrest) (by show (f 15).toInt + -1 = z0.toInt; omega) (by show (f 20).toInt = (f 20).toInt; omega) (by show (f 37).toInt + 0 = (f 37).toInt; omega) (by show (f 32).toInt + 0 = (f 32).toInt; omega) (by show (f 5).toInt + 0 = (f 5).toInt; omega) : mg_good (g'32 34) (g'32 38) (g'32 23) gs (z0.toInt) ((f 20).toInt) ((f 37).toInt) ((f 32).toInt) ((f 5).toInt))
    · exact ⟨(by show 0 ≤ (f 4).toInt; omega), (by show (f 4).toInt ≤ (f 0).toInt; omega), (by show (f 0).toInt ≤ 512; omega), (by show 0 ≤ (f 24).toInt; omega), (by show (f 24).toInt + (f 20).toInt + mg_p1 gs ≤ 4 * (f 4).toInt; omega), (by show (f 20).toInt ≤ (f 4).toInt; omega), (by show z0.toInt + mg_p2 gs ≤ (f 4).toInt; omega), (by show mg_p3 gs ≤ 20 * (f 4).toInt + 20; omega), (by show 0 ≤ z30.toInt; omega), (by show z30.toInt + 3 * (f 20).toInt + mg_p4 gs ≤ 60 * (f 4).toInt + 60; omega), (by show 0 ≤ (f 62).toInt; omega), (by show (f 62).toInt + 64 * mj_n (g'32 16) z0.toNatClampNeg 3 ≤ 64 * (f 4).toInt; rw [show g'32 16 = g 16 from h37_ 16 (by decide)]; omega), (by show 0 ≤ (f 44).toInt; omega), (by show (f 44).toInt ≤ (f 4).toInt; omega), (by show 0 ≤ (f 48).toInt; omega), (by show (f 48).toInt ≤ (f 4).toInt; omega), (by show 1 ≤ (f 53).toInt; omega), (by show (f 53).toInt ≤ (f 4).toInt + 1; omega), (by show 0 ≤ (f 19).toInt; omega), (by show (f 19).toInt ≤ 600; omega), (by show 0 ≤ (f 6).toInt; omega), (by show 0 ≤ (f 8).toInt; omega)⟩
    · show 100 * ((f 0).toInt - (f 4).toInt) + mg_p3 gs < 100 * ((f 0).toInt - (f 4).toInt) + (1 + mg_p3 gs); omega
set_option maxHeartbeats 16000000 in
theorem st_17 {sc : Nat × (Nat → Int32)} {d : Nat} {S0 S : am_S} {f : Nat → Int32} {g : Nat → Nat → Int32} {on : Int32} {tw : Int32} {th : Int32} {gs : List mg_E} {bc : List (List Nat)} (hS : MS S0 S f g) (hR : RJ f g gs bc [] 0 []) (hrest : mg_good (g 34) (g 38) (g 23) gs ((f 15).toInt + -1) ((f 20).toInt) ((f 37).toInt + 0) ((f 32).toInt + 0) ((f 5).toInt + 0)) (p0 : 0 ≤ (f 4).toInt) (p1 : (f 4).toInt ≤ (f 0).toInt) (p2 : (f 0).toInt ≤ 512) (p3 : 0 ≤ (f 24).toInt) (p4 : (f 24).toInt + (f 20).toInt + mg_p1 gs ≤ 4 * (f 4).toInt) (p5 : (f 20).toInt ≤ (f 4).toInt) (p6 : (f 15).toInt + 0 + mg_p2 gs ≤ (f 4).toInt) (p7 : 1 + mg_p3 gs ≤ 20 * (f 4).toInt + 20) (p8 : 0 ≤ (f 68).toInt) (p9 : (f 68).toInt + 3 * (f 20).toInt + 2 + mg_p4 gs ≤ 60 * (f 4).toInt + 60) (p10 : 0 ≤ (f 62).toInt) (p11 : (f 62).toInt + 64 * mj_n (g 16) (f 15).toNatClampNeg 3 ≤ 64 * (f 4).toInt) (p12 : 0 ≤ (f 44).toInt) (p13 : (f 44).toInt ≤ (f 4).toInt) (p14 : 0 ≤ (f 48).toInt) (p15 : (f 48).toInt ≤ (f 4).toInt) (p16 : 1 ≤ (f 53).toInt) (p17 : (f 53).toInt ≤ (f 4).toInt + 1) (p18 : 0 ≤ (f 19).toInt) (p19 : (f 19).toInt ≤ 600) (p20 : 0 ≤ (f 6).toInt) (p21 : 0 ≤ (f 8).toInt) (p22 : 0 ≤ mg_p1 gs) (p23 : 0 ≤ mg_p2 gs) (p24 : 0 ≤ mg_p4 gs) (p25 : 0 ≤ (f 10).toInt) (p26 : (f 10).toInt ≤ mg_p3 gs) (p27 : 0 ≤ mj_n (g 16) (f 15).toNatClampNeg 3) (p28 : 1 ≤ (f 15).toInt) (p29 : 0 ≤ (f 20).toInt) (p30 : 1 ≤ (f 37).toInt) (p31 : 0 ≤ (f 32).toInt) (p32 : (f 32).toInt ≤ (f 5).toInt) (p33 : (f 5).toInt ≤ 48) (p34 : (f 37).toInt ≤ 2 * (f 5).toInt + 1) : am_E (am_PP sc) (d + 8) 180 0 [some (.ref 39), some (.int 17), some (.int on), some (.int tw), some (.int th)] [] S (am_N fun v S1 => ∃ (f' : Nat → Int32) (g' : Nat → Nat → Int32) (gs' : List mg_E) (bc' : List (List Nat)), v = none ∧ MS S0 S1 f' g' ∧ (mg_on f (100 * ((f 0).toInt - (f 4).toInt) + (1 + mg_p3 gs)) f' g' gs' bc' ∨ mg_off f f' g' bc')) := by
  have hbs := mg_basic hrest
  refine am_e1 (v := 17) hi_180_0 rfl ?_
  refine am_e0 hi_180_1 ?_
  refine am_e13t hi_180_3 (by decide) ?_
  refine am_e1 (v := 17) hi_180_14 rfl ?_
  refine am_e19 (t := 295) hi_180_15 (by decide) ?_
  refine am_e2 (v := 39) hi_180_295 rfl ?_
  refine am_e7 hi_180_296 ?_
  refine mm_20 (v := .int (f 15)) hS hi_180_297 rfl ?_
  refine am_e0 hi_180_300 ?_
  obtain ⟨z0, hz0, tz0⟩ := am_subI (x := f 15) (y := 1) (m := (f 15).toInt) (n := (1 : Int)) rfl (by decide) (by omega) (by omega)
  refine am_e10 (z := z0) hi_180_301 hz0 ?_
  refine mm_21 (v := z0) hS hi_180_302 rfl (Nat.le_of_ble_eq_true rfl) ms_15 ?_
  intro S1 hS2
  have hp3 : mj_n (g 16) (f 15).toNatClampNeg 3 = mj_n (g 16) z0.toNatClampNeg 3 + if (g 16 z0.toNatClampNeg).toInt = 3 then 1 else 0 := mj_pop (by rw [cl_toNat, cl_toNat]; omega)
  have hp31 : mj_n (g 16) z0.toNatClampNeg 3 ≤ mj_n (g 16) (f 15).toNatClampNeg 3 := by rw [hp3]; split <;> omega
  have hp32 : (g 16 z0.toNatClampNeg).toInt = 3 → mj_n (g 16) z0.toNatClampNeg 3 + 1 ≤ mj_n (g 16) (f 15).toNatClampNeg 3 := fun q => by rw [hp3, if_pos q]; exact Int.le_refl _
  refine am_e2 (v := 39) hi_180_305 rfl ?_
  refine am_e0 hi_180_306 ?_
  refine am_e1 (v := on) hi_180_308 rfl ?_
  refine am_e0 hi_180_309 ?_
  refine am_e1 (v := tw) hi_180_310 rfl ?_
  refine am_e32n (as := [.ref 39, .int 29, .int on, .int 0, .int tw]) (la := [some (.ref 39), some (.int 29), some (.int on), some (.int 0), some (.int tw)]) (rest := []) hi_180_311 (am_hd0 (M := 180) (by decide) 311) (Nat.le_of_ble_eq_true rfl) (Nat.le_of_ble_eq_true rfl) (show 5 ≤ am_P0.2.2.1 189 from by decide +kernel) rfl (am_recv_ok hS2.fs) rfl rfl (ct_put (d := (d + 7)) hS2 hR  (by show (0 : Int) ≤ (f 32).toInt; omega) (by show (f 32).toInt ≤ (63 : Int); omega) (by show (f 53).toInt ≤ (4096 : Int); omega) (by show (0 : Int) ≤ (f 68).toInt; omega) (by show (f 68).toInt ≤ (65534 : Int); omega)) ?_
  rintro v4 S5 (⟨z6, r7, g'8, hv9, hS10, hR14, h11, h12, h13⟩)
  subst hv9
  have h11_ : z6.toInt = (f 68).toInt + 1 := h11
  have h12_ : r7.toInt = (f 68).toInt := h12
  have h13_ : ∀ j, j ∉ [60, 69, 70, 71, 72, 73] → g'8 j = g j := h13
  have hR14_ : RJ (upd (upd f 15 z0) 68 z6) g'8 gs bc [] 0 ((f 68).toNatClampNeg :: []) := hR14
  show am_E _ _ _ _ [some (.ref 39), some (.int 17), some (.int on), some (.int tw), some (.int th)] [.int r7] _ _
  refine am_e6i hi_180_314 ?_
  refine am_e18 hi_180_315 ?_
  refine am_e35 hi_180_371 ?_
  have q1 : mg_p1 gs = mg_p1 gs := rfl
  have q2 : mg_p2 gs = mg_p2 gs := rfl
  have q3 : mg_p3 gs = mg_p3 gs := rfl
  have q4 : mg_p4 gs = mg_p4 gs := rfl
  refine ⟨_, _, _, bc, rfl, hS10, Or.inl ⟨⟨(RJ.fewer (pj' := []) hR14_ (fun _ h => nomatch h)), ?_, ?_⟩, rfl, ?_⟩⟩
  · exact (mg_cast (mg_good_ext _ _ _ _ _ _ (fun i _ => by show g'8 34 i = g 34 i; rw [show g'8 34 = g 34 from h13_ 34 (by decide)]) (fun i _ => by show g'8 38 i = g 38 i; rw [show g'8 38 = g 38 from h13_ 38 (by decide)]) (fun i _ => by show g'8 23 i = g 23 i; rw [show g'8 23 = g 23 from h13_ 23 (by decide)]) hrest) (by show (f 15).toInt + -1 = z0.toInt; omega) (by show (f 20).toInt = (f 20).toInt; omega) (by show (f 37).toInt + 0 = (f 37).toInt; omega) (by show (f 32).toInt + 0 = (f 32).toInt; omega) (by show (f 5).toInt + 0 = (f 5).toInt; omega) : mg_good (g'8 34) (g'8 38) (g'8 23) gs (z0.toInt) ((f 20).toInt) ((f 37).toInt) ((f 32).toInt) ((f 5).toInt))
  · exact ⟨(by show 0 ≤ (f 4).toInt; omega), (by show (f 4).toInt ≤ (f 0).toInt; omega), (by show (f 0).toInt ≤ 512; omega), (by show 0 ≤ (f 24).toInt; omega), (by show (f 24).toInt + (f 20).toInt + mg_p1 gs ≤ 4 * (f 4).toInt; omega), (by show (f 20).toInt ≤ (f 4).toInt; omega), (by show z0.toInt + mg_p2 gs ≤ (f 4).toInt; omega), (by show mg_p3 gs ≤ 20 * (f 4).toInt + 20; omega), (by show 0 ≤ z6.toInt; omega), (by show z6.toInt + 3 * (f 20).toInt + mg_p4 gs ≤ 60 * (f 4).toInt + 60; omega), (by show 0 ≤ (f 62).toInt; omega), (by show (f 62).toInt + 64 * mj_n (g'8 16) z0.toNatClampNeg 3 ≤ 64 * (f 4).toInt; rw [show g'8 16 = g 16 from h13_ 16 (by decide)]; omega), (by show 0 ≤ (f 44).toInt; omega), (by show (f 44).toInt ≤ (f 4).toInt; omega), (by show 0 ≤ (f 48).toInt; omega), (by show (f 48).toInt ≤ (f 4).toInt; omega), (by show 1 ≤ (f 53).toInt; omega), (by show (f 53).toInt ≤ (f 4).toInt + 1; omega), (by show 0 ≤ (f 19).toInt; omega), (by show (f 19).toInt ≤ 600; omega), (by show 0 ≤ (f 6).toInt; omega), (by show 0 ≤ (f 8).toInt; omega)⟩
  · show 100 * ((f 0).toInt - (f 4).toInt) + mg_p3 gs < 100 * ((f 0).toInt - (f 4).toInt) + (1 + mg_p3 gs); omega
set_option maxHeartbeats 16000000 in
theorem st_19 {sc : Nat × (Nat → Int32)} {d : Nat} {S0 S : am_S} {f : Nat → Int32} {g : Nat → Nat → Int32} {on : Int32} {tw : Int32} {th : Int32} {gs : List mg_E} {bc : List (List Nat)} (hS : MS S0 S f g) (hR : RJ f g gs bc [] 0 []) (hrest : mg_good (g 34) (g 38) (g 23) gs ((f 15).toInt + -1) ((f 20).toInt) ((f 37).toInt + 0) ((f 32).toInt + 0) ((f 5).toInt + 0)) (p0 : 0 ≤ (f 4).toInt) (p1 : (f 4).toInt ≤ (f 0).toInt) (p2 : (f 0).toInt ≤ 512) (p3 : 0 ≤ (f 24).toInt) (p4 : (f 24).toInt + (f 20).toInt + mg_p1 gs ≤ 4 * (f 4).toInt) (p5 : (f 20).toInt ≤ (f 4).toInt) (p6 : (f 15).toInt + 0 + mg_p2 gs ≤ (f 4).toInt) (p7 : 1 + mg_p3 gs ≤ 20 * (f 4).toInt + 20) (p8 : 0 ≤ (f 68).toInt) (p9 : (f 68).toInt + 3 * (f 20).toInt + 3 + mg_p4 gs ≤ 60 * (f 4).toInt + 60) (p10 : 0 ≤ (f 62).toInt) (p11 : (f 62).toInt + 64 * mj_n (g 16) (f 15).toNatClampNeg 3 ≤ 64 * (f 4).toInt) (p12 : 0 ≤ (f 44).toInt) (p13 : (f 44).toInt ≤ (f 4).toInt) (p14 : 0 ≤ (f 48).toInt) (p15 : (f 48).toInt ≤ (f 4).toInt) (p16 : 1 ≤ (f 53).toInt) (p17 : (f 53).toInt ≤ (f 4).toInt + 1) (p18 : 0 ≤ (f 19).toInt) (p19 : (f 19).toInt ≤ 600) (p20 : 0 ≤ (f 6).toInt) (p21 : 0 ≤ (f 8).toInt) (p22 : 0 ≤ mg_p1 gs) (p23 : 0 ≤ mg_p2 gs) (p24 : 0 ≤ mg_p4 gs) (p25 : 0 ≤ (f 10).toInt) (p26 : (f 10).toInt ≤ mg_p3 gs) (p27 : 0 ≤ mj_n (g 16) (f 15).toNatClampNeg 3) (p28 : 1 ≤ (f 15).toInt) (p29 : 0 ≤ (f 20).toInt) (p30 : 1 ≤ (f 37).toInt) (p31 : 0 ≤ (f 32).toInt) (p32 : (f 32).toInt ≤ (f 5).toInt) (p33 : (f 5).toInt ≤ 48) (p34 : (f 37).toInt ≤ 2 * (f 5).toInt + 1) : am_E (am_PP sc) (d + 8) 180 0 [some (.ref 39), some (.int 19), some (.int on), some (.int tw), some (.int th)] [] S (am_N fun v S1 => ∃ (f' : Nat → Int32) (g' : Nat → Nat → Int32) (gs' : List mg_E) (bc' : List (List Nat)), v = none ∧ MS S0 S1 f' g' ∧ (mg_on f (100 * ((f 0).toInt - (f 4).toInt) + (1 + mg_p3 gs)) f' g' gs' bc' ∨ mg_off f f' g' bc')) := by
  have hbs := mg_basic hrest
  refine am_e1 (v := 19) hi_180_0 rfl ?_
  refine am_e0 hi_180_1 ?_
  refine am_e13t hi_180_3 (by decide) ?_
  refine am_e1 (v := 19) hi_180_14 rfl ?_
  refine am_e19 (t := 341) hi_180_15 (by decide) ?_
  refine am_e2 (v := 39) hi_180_341 rfl ?_
  refine am_e1 (v := on) hi_180_342 rfl ?_
  refine am_e32w (as := [.ref 39, .int on]) (la := [some (.ref 39), some (.int on), none]) (rest := []) hi_180_343 (am_hd0 (M := 180) (by decide) 343) (Nat.le_of_ble_eq_true rfl) (Nat.le_of_ble_eq_true rfl) (show 2 ≤ am_P0.2.2.1 261 from by decide +kernel) rfl (am_recv_ok hS.fs) rfl rfl ?_
  refine am_e2 (v := 39) hi_261_0 rfl ?_
  refine mm_20 (v := .ref 47) hS hi_261_1 rfl ?_
  refine am_e2 (v := 39) hi_261_4 rfl ?_
  refine mm_20 (v := .int (f 15)) hS hi_261_5 rfl ?_
  refine am_e0 hi_261_8 ?_
  obtain ⟨z0, hz0, tz0⟩ := am_subI (x := f 15) (y := 1) (m := (f 15).toInt) (n := (1 : Int)) rfl (by decide) (by omega) (by omega)
  refine am_e10 (z := z0) hi_261_9 hz0 ?_
  refine mm_25 hS ma_17 hi_261_10 (by decide) (by omega) (by omega) ?_
  show am_E _ _ _ _ [some (.ref 39), some (.int on), none] [.int (g 17 z0.toNatClampNeg)] _ _
  have r1 : (g 16 z0.toNatClampNeg).toInt = 1 ∨ (g 16 z0.toNatClampNeg).toInt = 2 → 0 ≤ (g 17 z0.toNatClampNeg).toInt ∧ (g 17 z0.toNatClampNeg).toInt < 65536 := RJ.vc hR z0.toNatClampNeg
  refine am_e3 (ls' := [some (.ref 39), some (.int on), some (.int (g 17 z0.toNatClampNeg))]) hi_261_11 (Nat.le_of_ble_eq_true rfl) rfl ?_
  refine am_e2 (v := 39) hi_261_12 rfl ?_
  refine mm_20 (v := .int (f 19)) hS hi_261_13 rfl ?_
  refine am_e0 hi_261_16 ?_
  by_cases c2 : ¬ (f 19).toInt = (1 : Int)
  · refine am_e13t hi_261_17 (am_cT (m := (f 19).toInt) (n := (1 : Int)) rfl (by decide) c2) ?_
    refine am_e2 (v := 39) hi_261_77 rfl ?_
    refine am_e32w (as := [.ref 39]) (la := [some (.ref 39)]) (rest := []) hi_261_78 (am_hd0 (M := 261) (by decide) 78) (Nat.le_of_ble_eq_true rfl) (Nat.le_of_ble_eq_true rfl) (show 1 ≤ am_P0.2.2.1 216 from by decide +kernel) rfl (am_recv_ok hS.fs) rfl rfl ?_
    refine am_e2 (v := 39) hi_216_0 rfl ?_
    refine mm_20 (v := .ref 46) hS hi_216_1 rfl ?_
    refine am_e2 (v := 39) hi_216_4 rfl ?_
    refine mm_20 (v := .int (f 15)) hS hi_216_5 rfl ?_
    refine am_e0 hi_216_8 ?_
    refine am_e10 (z := z0) hi_216_9 hz0 ?_
    refine mm_25 hS ma_16 hi_216_10 (by decide) (by omega) (by omega) ?_
    show am_E _ _ _ _ [some (.ref 39)] [.int (g 16 z0.toNatClampNeg)] _ _
    refine am_e0 hi_216_11 ?_
    by_cases c3 : (g 16 z0.toNatClampNeg).toInt = (1 : Int)
    · refine am_e13t hi_216_12 (am_cT (m := (g 16 z0.toNatClampNeg).toInt) (n := (1 : Int)) rfl (by decide) c3) ?_
      refine am_e0 hi_216_30 ?_
      refine am_e18 hi_216_31 ?_
      refine am_e36 hi_216_35 (by decide) ?_
      show am_E _ _ _ _ [some (.ref 39), some (.int on), some (.int (g 17 z0.toNatClampNeg))] [.int 1] _ _
      refine am_e12f hi_261_81 (by decide) ?_
      refine am_e2 (v := 39) hi_261_84 rfl ?_
      refine am_e32w (as := [.ref 39]) (la := [some (.ref 39), none]) (rest := []) hi_261_85 (am_hd0 (M := 261) (by decide) 85) (Nat.le_of_ble_eq_true rfl) (Nat.le_of_ble_eq_true rfl) (show 1 ≤ am_P0.2.2.1 217 from by decide +kernel) rfl (am_recv_ok hS.fs) rfl rfl ?_
      refine am_e2 (v := 39) hi_217_0 rfl ?_
      refine mm_20 (v := .ref 47) hS hi_217_1 rfl ?_
      refine am_e2 (v := 39) hi_217_4 rfl ?_
      refine mm_20 (v := .int (f 15)) hS hi_217_5 rfl ?_
      refine am_e0 hi_217_8 ?_
      refine am_e10 (z := z0) hi_217_9 hz0 ?_
      refine mm_25 hS ma_17 hi_217_10 (by decide) (by omega) (by omega) ?_
      show am_E _ _ _ _ [some (.ref 39), none] [.int (g 17 z0.toNatClampNeg)] _ _
      have r4 : (g 16 z0.toNatClampNeg).toInt = 1 ∨ (g 16 z0.toNatClampNeg).toInt = 2 → 0 ≤ (g 17 z0.toNatClampNeg).toInt ∧ (g 17 z0.toNatClampNeg).toInt < 65536 := RJ.vc hR z0.toNatClampNeg
      refine am_e3 (ls' := [some (.ref 39), some (.int (g 17 z0.toNatClampNeg))]) hi_217_11 (Nat.le_of_ble_eq_true rfl) rfl ?_
      refine am_e2 (v := 39) hi_217_12 rfl ?_
      refine mm_20 (v := .ref 91) hS hi_217_13 rfl ?_
      refine am_e1 (v := g 17 z0.toNatClampNeg) hi_217_16 rfl ?_
      refine am_e2 (v := 39) hi_217_17 rfl ?_
      refine mm_20 (v := .ref 46) hS hi_217_18 rfl ?_
      refine am_e2 (v := 39) hi_217_21 rfl ?_
      refine mm_20 (v := .int (f 15)) hS hi_217_22 rfl ?_
      refine am_e0 hi_217_25 ?_
      refine am_e10 (z := z0) hi_217_26 hz0 ?_
      refine mm_25 hS ma_16 hi_217_27 (by decide) (by omega) (by omega) ?_
      show am_E _ _ _ _ [some (.ref 39), some (.int (g 17 z0.toNatClampNeg))] [.int (g 16 z0.toNatClampNeg), .int (g 17 z0.toNatClampNeg), .ref 91] _ _
      refine am_e0 hi_217_28 ?_
      refine am_e13f hi_217_29 (am_cF (m := (g 16 z0.toNatClampNeg).toInt) (n := (1 : Int)) rfl (by decide) (by simp only [am_cI]; omega)) ?_
      refine am_e2 (v := 39) hi_217_32 rfl ?_
      refine mm_20 (v := .ref 91) hS hi_217_33 rfl ?_
      refine am_e1 (v := g 17 z0.toNatClampNeg) hi_217_36 rfl ?_
      refine mm_25 hS ma_72 hi_217_37 (by decide) (by omega) (by omega) ?_
      show am_E _ _ _ _ [some (.ref 39), some (.int (g 17 z0.toNatClampNeg))] [.int (g 72 (g 17 z0.toNatClampNeg).toNatClampNeg), .int (g 17 z0.toNatClampNeg), .ref 91] _ _
      refine am_e0 hi_217_38 ?_
      obtain ⟨z5, hz5⟩ : ∃ q__, am_bin 3 (g 72 (g 17 z0.toNatClampNeg).toNatClampNeg) 1 = q__ := ⟨_, rfl⟩
      refine am_e10 (z := z5) hi_217_39 hz5 ?_
      refine am_e0 hi_217_40 ?_
      obtain ⟨z6, hz6⟩ : ∃ q__, am_bin 4 z5 4 = q__ := ⟨_, rfl⟩
      refine am_e10 (z := z6) hi_217_41 hz6 ?_
      refine am_e18 hi_217_42 ?_
      refine mm_26 hS ma_72 hi_217_46 (by decide) (by omega) (by omega) (fun h => nomatch h) ?_
      intro S7 hS8
      refine am_e2 (v := 39) hi_217_47 rfl ?_
      refine am_e7 hi_217_48 ?_
      refine mm_20 (v := .int (f 15)) hS8 hi_217_49 rfl ?_
      refine am_e0 hi_217_52 ?_
      refine am_e10 (z := z0) hi_217_53 hz0 ?_
      refine mm_21 (v := z0) hS8 hi_217_54 rfl (Nat.le_of_ble_eq_true rfl) ms_15 ?_
      intro S9 hS10
      have hp11 : mj_n (g 16) (f 15).toNatClampNeg 3 = mj_n (g 16) z0.toNatClampNeg 3 + if (g 16 z0.toNatClampNeg).toInt = 3 then 1 else 0 := mj_pop (by rw [cl_toNat, cl_toNat]; omega)
      have hp111 : mj_n (g 16) z0.toNatClampNeg 3 ≤ mj_n (g 16) (f 15).toNatClampNeg 3 := by rw [hp11]; split <;> omega
      have hp112 : (g 16 z0.toNatClampNeg).toInt = 3 → mj_n (g 16) z0.toNatClampNeg 3 + 1 ≤ mj_n (g 16) (f 15).toNatClampNeg 3 := fun q => by rw [hp11, if_pos q]; exact Int.le_refl _
      refine am_e35 hi_217_57 ?_
      show am_E _ _ _ _ [some (.ref 39), some (.int on), some (.int (g 17 z0.toNatClampNeg))] [] _ _
      refine am_e2 (v := 39) hi_261_88 rfl ?_
      refine am_e0 hi_261_89 ?_
      refine am_e2 (v := 39) hi_261_91 rfl ?_
      refine mm_20 (v := .int (f 19)) hS10 hi_261_92 rfl ?_
      refine am_e0 hi_261_95 ?_
      obtain ⟨z12, hz12, tz12⟩ := am_subI (x := f 19) (y := 1) (m := (f 19).toInt) (n := (1 : Int)) rfl (by decide) (by omega) (by omega)
      refine am_e10 (z := z12) hi_261_96 hz12 ?_
      refine am_e0 hi_261_97 ?_
      refine am_e1 (v := on) hi_261_98 rfl ?_
      refine am_e32n (as := [.ref 39, .int 45, .int z12, .int 1, .int on]) (la := [some (.ref 39), some (.int 45), some (.int z12), some (.int 1), some (.int on)]) (rest := []) hi_261_99 (am_hd0 (M := 261) (by decide) 99) (Nat.le_of_ble_eq_true rfl) (Nat.le_of_ble_eq_true rfl) (show 5 ≤ am_P0.2.2.1 189 from by decide +kernel) rfl (am_recv_ok hS10.fs) rfl rfl (ct_put (d := (d + 6)) hS10 hR  (by show (0 : Int) ≤ (f 32).toInt; omega) (by show (f 32).toInt ≤ (63 : Int); omega) (by show (f 53).toInt ≤ (4096 : Int); omega) (by show (0 : Int) ≤ (f 68).toInt; omega) (by show (f 68).toInt ≤ (65534 : Int); omega)) ?_
      rintro v13 S14 (⟨z15, r16, g'17, hv18, hS19, hR23, h20, h21, h22⟩)
      subst hv18
      have h20_ : z15.toInt = (f 68).toInt + 1 := h20
      have h21_ : r16.toInt = (f 68).toInt := h21
      have h22_ : ∀ j, j ∉ [60, 69, 70, 71, 72, 73] → g'17 j = (upg g 72 (g 17 z0.toNatClampNeg).toNatClampNeg z6) j := h22
      have hR23_ : RJ (upd (upd f 15 z0) 68 z15) g'17 gs bc [] 0 ((f 68).toNatClampNeg :: []) := hR23
      show am_E _ _ _ _ [some (.ref 39), some (.int on), some (.int (g 17 z0.toNatClampNeg))] [.int r16] _ _
      refine am_e6i hi_261_102 ?_
      refine am_e18 hi_261_103 ?_
      refine am_e35 hi_261_123 ?_
      show am_E _ _ _ _ [some (.ref 39), some (.int 19), some (.int on), some (.int tw), some (.int th)] [] _ _
      refine am_e18 hi_180_346 ?_
      refine am_e35 hi_180_371 ?_
      have q1 : mg_p1 gs = mg_p1 gs := rfl
      have q2 : mg_p2 gs = mg_p2 gs := rfl
      have q3 : mg_p3 gs = mg_p3 gs := rfl
      have q4 : mg_p4 gs = mg_p4 gs := rfl
      refine ⟨_, _, _, bc, rfl, hS19, Or.inl ⟨⟨(RJ.fewer (pj' := []) hR23_ (fun _ h => nomatch h)), ?_, ?_⟩, rfl, ?_⟩⟩
      · exact (mg_cast (mg_good_ext _ _ _ _ _ _ (fun i _ => by show g'17 34 i = g 34 i; rw [show g'17 34 = g 34 from h22_ 34 (by decide)]) (fun i _ => by show g'17 38 i = g 38 i; rw [show g'17 38 = g 38 from h22_ 38 (by decide)]) (fun i _ => by show g'17 23 i = g 23 i; rw [show g'17 23 = g 23 from h22_ 23 (by decide)]) hrest) (by show (f 15).toInt + -1 = z0.toInt; omega) (by show (f 20).toInt = (f 20).toInt; omega) (by show (f 37).toInt + 0 = (f 37).toInt; omega) (by show (f 32).toInt + 0 = (f 32).toInt; omega) (by show (f 5).toInt + 0 = (f 5).toInt; omega) : mg_good (g'17 34) (g'17 38) (g'17 23) gs (z0.toInt) ((f 20).toInt) ((f 37).toInt) ((f 32).toInt) ((f 5).toInt))
      · exact ⟨(by show 0 ≤ (f 4).toInt; omega), (by show (f 4).toInt ≤ (f 0).toInt; omega), (by show (f 0).toInt ≤ 512; omega), (by show 0 ≤ (f 24).toInt; omega), (by show (f 24).toInt + (f 20).toInt + mg_p1 gs ≤ 4 * (f 4).toInt; omega), (by show (f 20).toInt ≤ (f 4).toInt; omega), (by show z0.toInt + mg_p2 gs ≤ (f 4).toInt; omega), (by show mg_p3 gs ≤ 20 * (f 4).toInt + 20; omega), (by show 0 ≤ z15.toInt; omega), (by show z15.toInt + 3 * (f 20).toInt + mg_p4 gs ≤ 60 * (f 4).toInt + 60; omega), (by show 0 ≤ (f 62).toInt; omega), (by show (f 62).toInt + 64 * mj_n (g'17 16) z0.toNatClampNeg 3 ≤ 64 * (f 4).toInt; rw [show g'17 16 = g 16 from h22_ 16 (by decide)]; omega), (by show 0 ≤ (f 44).toInt; omega), (by show (f 44).toInt ≤ (f 4).toInt; omega), (by show 0 ≤ (f 48).toInt; omega), (by show (f 48).toInt ≤ (f 4).toInt; omega), (by show 1 ≤ (f 53).toInt; omega), (by show (f 53).toInt ≤ (f 4).toInt + 1; omega), (by show 0 ≤ (f 19).toInt; omega), (by show (f 19).toInt ≤ 600; omega), (by show 0 ≤ (f 6).toInt; omega), (by show 0 ≤ (f 8).toInt; omega)⟩
      · show 100 * ((f 0).toInt - (f 4).toInt) + mg_p3 gs < 100 * ((f 0).toInt - (f 4).toInt) + (1 + mg_p3 gs); omega
    · refine am_e13f hi_216_12 (am_cF (m := (g 16 z0.toNatClampNeg).toInt) (n := (1 : Int)) rfl (by decide) c3) ?_
      refine am_e2 (v := 39) hi_216_15 rfl ?_
      refine mm_20 (v := .ref 46) hS hi_216_16 rfl ?_
      refine am_e2 (v := 39) hi_216_19 rfl ?_
      refine mm_20 (v := .int (f 15)) hS hi_216_20 rfl ?_
      refine am_e0 hi_216_23 ?_
      refine am_e10 (z := z0) hi_216_24 hz0 ?_
      refine mm_25 hS ma_16 hi_216_25 (by decide) (by omega) (by omega) ?_
      show am_E _ _ _ _ [some (.ref 39)] [.int (g 16 z0.toNatClampNeg)] _ _
      refine am_e0 hi_216_26 ?_
      by_cases c24 : ¬ (g 16 z0.toNatClampNeg).toInt = (2 : Int)
      · refine am_e13t hi_216_27 (am_cT (m := (g 16 z0.toNatClampNeg).toInt) (n := (2 : Int)) rfl (by decide) c24) ?_
        refine am_e0 hi_216_34 ?_
        refine am_e36 hi_216_35 (by decide) ?_
        show am_E _ _ _ _ [some (.ref 39), some (.int on), some (.int (g 17 z0.toNatClampNeg))] [.int 0] _ _
        refine am_e12t hi_261_81 (by decide) ?_
        refine am_e2 (v := 39) hi_261_106 rfl ?_
        refine am_e32w (as := [.ref 39]) (la := [some (.ref 39)]) (rest := []) hi_261_107 (am_hd0 (M := 261) (by decide) 107) (Nat.le_of_ble_eq_true rfl) (Nat.le_of_ble_eq_true rfl) (show 1 ≤ am_P0.2.2.1 209 from by decide +kernel) rfl (am_recv_ok hS.fs) rfl rfl ?_
        refine am_e2 (v := 39) hi_209_0 rfl ?_
        refine am_e32n (as := [.ref 39]) (la := [some (.ref 39), none, none, none]) (rest := []) hi_209_1 (am_hd0 (M := 209) (by decide) 1) (Nat.le_of_ble_eq_true rfl) (Nat.le_of_ble_eq_true rfl) (show 1 ≤ am_P0.2.2.1 204 from by decide +kernel) rfl (am_recv_ok hS.fs) rfl rfl (ct_load (d := (d + 3)) hS hR  (by show (0 : Int) ≤ (f 32).toInt; omega) (by show (f 32).toInt ≤ (63 : Int); omega) (by show (f 53).toInt ≤ (4096 : Int); omega) (by show (0 : Int) ≤ (f 68).toInt; omega) (by show (f 68).toInt ≤ (65534 : Int); omega) (by show (1 : Int) ≤ (f 15).toInt; omega) (by show (f 15).toInt ≤ (32767 : Int); omega) (by show (0 : Int) ≤ (f 24).toInt; omega) (by show (f 24).toInt ≤ (16384 : Int); omega) (by show (0 : Int) ≤ (f 62).toInt; omega) (by show (f 62).toInt ≤ (65000 : Int); omega)) ?_
        rintro v25 S26 (⟨o27, s28, m29, g'30, hv31, hS32, hR39, h33, h34, h35, h36, h37, h38⟩)
        subst hv31
        have h33_ : (f 62).toInt ≤ o27.toInt := h33
        have h34_ : o27.toInt ≤ (f 62).toInt + 64 := h34
        have h35_ : (f 68).toInt ≤ s28.toInt := h35
        have h36_ : s28.toInt ≤ (f 68).toInt + 1 := h36
        have h37_ : o27.toInt + 64 * mj_n (g'30 16) (f 15).toNatClampNeg 3 ≤ (f 62).toInt + 64 * mj_n (g 16) (f 15).toNatClampNeg 3 := h37
        have h38_ : ∀ j, j ∉ [16, 60, 63, 64, 65, 66, 67, 69, 70, 71, 72, 73] → g'30 j = g j := h38
        have hR39_ : RJ (upd (upd (upd f 62 o27) 68 s28) 75 m29) g'30 gs bc [] 0 [] := hR39
        show am_E _ _ _ _ [some (.ref 39)] [] _ _
        refine am_e2 (v := 39) hi_209_4 rfl ?_
        refine am_e7 hi_209_5 ?_
        refine mm_20 (v := .int (f 15)) hS32 hi_209_6 rfl ?_
        refine am_e0 hi_209_9 ?_
        refine am_e10 (z := z0) hi_209_10 hz0 ?_
        refine mm_21 (v := z0) hS32 hi_209_11 rfl (Nat.le_of_ble_eq_true rfl) ms_15 ?_
        intro S40 hS41
        replace hS41 : MS S0 S40 (upd (upd (upd (upd f 15 z0) 62 o27) 68 s28) 75 m29) g'30 := hS41
        have hp42 : mj_n (g'30 16) (f 15).toNatClampNeg 3 = mj_n (g'30 16) z0.toNatClampNeg 3 + if (g'30 16 z0.toNatClampNeg).toInt = 3 then 1 else 0 := mj_pop (by rw [cl_toNat, cl_toNat]; omega)
        have hp421 : mj_n (g'30 16) z0.toNatClampNeg 3 ≤ mj_n (g'30 16) (f 15).toNatClampNeg 3 := by rw [hp42]; split <;> omega
        have hp422 : (g'30 16 z0.toNatClampNeg).toInt = 3 → mj_n (g'30 16) z0.toNatClampNeg 3 + 1 ≤ mj_n (g'30 16) (f 15).toNatClampNeg 3 := fun q => by rw [hp42, if_pos q]; exact Int.le_refl _
        refine am_e35 hi_209_14 ?_
        show am_E _ _ _ _ [some (.ref 39), some (.int on), some (.int (g 17 z0.toNatClampNeg))] [] _ _
        refine am_e2 (v := 39) hi_261_110 rfl ?_
        refine am_e0 hi_261_111 ?_
        refine am_e2 (v := 39) hi_261_113 rfl ?_
        refine mm_20 (v := .int (f 19)) hS41 hi_261_114 rfl ?_
        refine am_e0 hi_261_117 ?_
        refine am_e1 (v := on) hi_261_118 rfl ?_
        refine am_e32n (as := [.ref 39, .int 45, .int (f 19), .int 0, .int on]) (la := [some (.ref 39), some (.int 45), some (.int (f 19)), some (.int 0), some (.int on)]) (rest := []) hi_261_119 (am_hd0 (M := 261) (by decide) 119) (Nat.le_of_ble_eq_true rfl) (Nat.le_of_ble_eq_true rfl) (show 5 ≤ am_P0.2.2.1 189 from by decide +kernel) rfl (am_recv_ok hS41.fs) rfl rfl (ct_put (d := (d + 6)) hS41 hR39_  (by show (0 : Int) ≤ (f 32).toInt; omega) (by show (f 32).toInt ≤ (63 : Int); omega) (by show (f 53).toInt ≤ (4096 : Int); omega) (by show (0 : Int) ≤ s28.toInt; omega) (by show s28.toInt ≤ (65534 : Int); omega)) ?_
        rintro v43 S44 (⟨z45, r46, g'47, hv48, hS49, hR53, h50, h51, h52⟩)
        subst hv48
        have h50_ : z45.toInt = s28.toInt + 1 := h50
        have h51_ : r46.toInt = s28.toInt := h51
        have h52_ : ∀ j, j ∉ [60, 69, 70, 71, 72, 73] → g'47 j = g'30 j := h52
        replace hS49 : MS S0 S44 (upd (upd (upd (upd f 15 z0) 62 o27) 68 z45) 75 m29) g'47 := hS49
        have hR53_ : RJ (upd (upd (upd (upd f 15 z0) 62 o27) 68 z45) 75 m29) g'47 gs bc [] 0 (s28.toNatClampNeg :: []) := hR53
        show am_E _ _ _ _ [some (.ref 39), some (.int on), some (.int (g 17 z0.toNatClampNeg))] [.int r46] _ _
        refine am_e6i hi_261_122 ?_
        refine am_e35 hi_261_123 ?_
        show am_E _ _ _ _ [some (.ref 39), some (.int 19), some (.int on), some (.int tw), some (.int th)] [] _ _
        refine am_e18 hi_180_346 ?_
        refine am_e35 hi_180_371 ?_
        have q1 : mg_p1 gs = mg_p1 gs := rfl
        have q2 : mg_p2 gs = mg_p2 gs := rfl
        have q3 : mg_p3 gs = mg_p3 gs := rfl
        have q4 : mg_p4 gs = mg_p4 gs := rfl
        refine ⟨_, _, _, bc, rfl, hS49, Or.inl ⟨⟨(RJ.fewer (pj' := []) hR53_ (fun _ h => nomatch h)), ?_, ?_⟩, rfl, ?_⟩⟩
        · exact (mg_cast (mg_good_ext _ _ _ _ _ _ (fun i _ => by show g'47 34 i = g 34 i; rw [show g'47 34 = g'30 34 from h52_ 34 (by decide), show g'30 34 = g 34 from h38_ 34 (by decide)]) (fun i _ => by show g'47 38 i = g 38 i; rw [show g'47 38 = g'30 38 from h52_ 38 (by decide), show g'30 38 = g 38 from h38_ 38 (by decide)]) (fun i _ => by show g'47 23 i = g 23 i; rw [show g'47 23 = g'30 23 from h52_ 23 (by decide), show g'30 23 = g 23 from h38_ 23 (by decide)]) hrest) (by show (f 15).toInt + -1 = z0.toInt; omega) (by show (f 20).toInt = (f 20).toInt; omega) (by show (f 37).toInt + 0 = (f 37).toInt; omega) (by show (f 32).toInt + 0 = (f 32).toInt; omega) (by show (f 5).toInt + 0 = (f 5).toInt; omega) : mg_good (g'47 34) (g'47 38) (g'47 23) gs (z0.toInt) ((f 20).toInt) ((f 37).toInt) ((f 32).toInt) ((f 5).toInt))
        · exact ⟨(by show 0 ≤ (f 4).toInt; omega), (by show (f 4).toInt ≤ (f 0).toInt; omega), (by show (f 0).toInt ≤ 512; omega), (by show 0 ≤ (f 24).toInt; omega), (by show (f 24).toInt + (f 20).toInt + mg_p1 gs ≤ 4 * (f 4).toInt; omega), (by show (f 20).toInt ≤ (f 4).toInt; omega), (by show z0.toInt + mg_p2 gs ≤ (f 4).toInt; omega), (by show mg_p3 gs ≤ 20 * (f 4).toInt + 20; omega), (by show 0 ≤ z45.toInt; omega), (by show z45.toInt + 3 * (f 20).toInt + mg_p4 gs ≤ 60 * (f 4).toInt + 60; omega), (by show 0 ≤ o27.toInt; omega), (by show o27.toInt + 64 * mj_n (g'47 16) z0.toNatClampNeg 3 ≤ 64 * (f 4).toInt; rw [show g'47 16 = g'30 16 from h52_ 16 (by decide)]; omega), (by show 0 ≤ (f 44).toInt; omega), (by show (f 44).toInt ≤ (f 4).toInt; omega), (by show 0 ≤ (f 48).toInt; omega), (by show (f 48).toInt ≤ (f 4).toInt; omega), (by show 1 ≤ (f 53).toInt; omega), (by show (f 53).toInt ≤ (f 4).toInt + 1; omega), (by show 0 ≤ (f 19).toInt; omega), (by show (f 19).toInt ≤ 600; omega), (by show 0 ≤ (f 6).toInt; omega), (by show 0 ≤ (f 8).toInt; omega)⟩
        · show 100 * ((f 0).toInt - (f 4).toInt) + mg_p3 gs < 100 * ((f 0).toInt - (f 4).toInt) + (1 + mg_p3 gs); omega
      · refine am_e13f hi_216_27 (am_cF (m := (g 16 z0.toNatClampNeg).toInt) (n := (2 : Int)) rfl (by decide) c24) ?_
        refine am_e0 hi_216_30 ?_
        refine am_e18 hi_216_31 ?_
        refine am_e36 hi_216_35 (by decide) ?_
        show am_E _ _ _ _ [some (.ref 39), some (.int on), some (.int (g 17 z0.toNatClampNeg))] [.int 1] _ _
        refine am_e12f hi_261_81 (by decide) ?_
        refine am_e2 (v := 39) hi_261_84 rfl ?_
        refine am_e32w (as := [.ref 39]) (la := [some (.ref 39), none]) (rest := []) hi_261_85 (am_hd0 (M := 261) (by decide) 85) (Nat.le_of_ble_eq_true rfl) (Nat.le_of_ble_eq_true rfl) (show 1 ≤ am_P0.2.2.1 217 from by decide +kernel) rfl (am_recv_ok hS.fs) rfl rfl ?_
        refine am_e2 (v := 39) hi_217_0 rfl ?_
        refine mm_20 (v := .ref 47) hS hi_217_1 rfl ?_
        refine am_e2 (v := 39) hi_217_4 rfl ?_
        refine mm_20 (v := .int (f 15)) hS hi_217_5 rfl ?_
        refine am_e0 hi_217_8 ?_
        refine am_e10 (z := z0) hi_217_9 hz0 ?_
        refine mm_25 hS ma_17 hi_217_10 (by decide) (by omega) (by omega) ?_
        show am_E _ _ _ _ [some (.ref 39), none] [.int (g 17 z0.toNatClampNeg)] _ _
        have r54 : (g 16 z0.toNatClampNeg).toInt = 1 ∨ (g 16 z0.toNatClampNeg).toInt = 2 → 0 ≤ (g 17 z0.toNatClampNeg).toInt ∧ (g 17 z0.toNatClampNeg).toInt < 65536 := RJ.vc hR z0.toNatClampNeg
        refine am_e3 (ls' := [some (.ref 39), some (.int (g 17 z0.toNatClampNeg))]) hi_217_11 (Nat.le_of_ble_eq_true rfl) rfl ?_
        refine am_e2 (v := 39) hi_217_12 rfl ?_
        refine mm_20 (v := .ref 91) hS hi_217_13 rfl ?_
        refine am_e1 (v := g 17 z0.toNatClampNeg) hi_217_16 rfl ?_
        refine am_e2 (v := 39) hi_217_17 rfl ?_
        refine mm_20 (v := .ref 46) hS hi_217_18 rfl ?_
        refine am_e2 (v := 39) hi_217_21 rfl ?_
        refine mm_20 (v := .int (f 15)) hS hi_217_22 rfl ?_
        refine am_e0 hi_217_25 ?_
        refine am_e10 (z := z0) hi_217_26 hz0 ?_
        refine mm_25 hS ma_16 hi_217_27 (by decide) (by omega) (by omega) ?_
        show am_E _ _ _ _ [some (.ref 39), some (.int (g 17 z0.toNatClampNeg))] [.int (g 16 z0.toNatClampNeg), .int (g 17 z0.toNatClampNeg), .ref 91] _ _
        refine am_e0 hi_217_28 ?_
        refine am_e13t hi_217_29 (am_cT (m := (g 16 z0.toNatClampNeg).toInt) (n := (1 : Int)) rfl (by decide) (by simp only [am_cI]; omega)) ?_
        refine am_e0 hi_217_45 ?_
        refine mm_26 hS ma_72 hi_217_46 (by decide) (by omega) (by omega) (fun h => nomatch h) ?_
        intro S55 hS56
        refine am_e2 (v := 39) hi_217_47 rfl ?_
        refine am_e7 hi_217_48 ?_
        refine mm_20 (v := .int (f 15)) hS56 hi_217_49 rfl ?_
        refine am_e0 hi_217_52 ?_
        refine am_e10 (z := z0) hi_217_53 hz0 ?_
        refine mm_21 (v := z0) hS56 hi_217_54 rfl (Nat.le_of_ble_eq_true rfl) ms_15 ?_
        intro S57 hS58
        have hp59 : mj_n (g 16) (f 15).toNatClampNeg 3 = mj_n (g 16) z0.toNatClampNeg 3 + if (g 16 z0.toNatClampNeg).toInt = 3 then 1 else 0 := mj_pop (by rw [cl_toNat, cl_toNat]; omega)
        have hp591 : mj_n (g 16) z0.toNatClampNeg 3 ≤ mj_n (g 16) (f 15).toNatClampNeg 3 := by rw [hp59]; split <;> omega
        have hp592 : (g 16 z0.toNatClampNeg).toInt = 3 → mj_n (g 16) z0.toNatClampNeg 3 + 1 ≤ mj_n (g 16) (f 15).toNatClampNeg 3 := fun q => by rw [hp59, if_pos q]; exact Int.le_refl _
        refine am_e35 hi_217_57 ?_
        show am_E _ _ _ _ [some (.ref 39), some (.int on), some (.int (g 17 z0.toNatClampNeg))] [] _ _
        refine am_e2 (v := 39) hi_261_88 rfl ?_
        refine am_e0 hi_261_89 ?_
        refine am_e2 (v := 39) hi_261_91 rfl ?_
        refine mm_20 (v := .int (f 19)) hS58 hi_261_92 rfl ?_
        refine am_e0 hi_261_95 ?_
        obtain ⟨z60, hz60, tz60⟩ := am_subI (x := f 19) (y := 1) (m := (f 19).toInt) (n := (1 : Int)) rfl (by decide) (by omega) (by omega)
        refine am_e10 (z := z60) hi_261_96 hz60 ?_
        refine am_e0 hi_261_97 ?_
        refine am_e1 (v := on) hi_261_98 rfl ?_
        refine am_e32n (as := [.ref 39, .int 45, .int z60, .int 1, .int on]) (la := [some (.ref 39), some (.int 45), some (.int z60), some (.int 1), some (.int on)]) (rest := []) hi_261_99 (am_hd0 (M := 261) (by decide) 99) (Nat.le_of_ble_eq_true rfl) (Nat.le_of_ble_eq_true rfl) (show 5 ≤ am_P0.2.2.1 189 from by decide +kernel) rfl (am_recv_ok hS58.fs) rfl rfl (ct_put (d := (d + 6)) hS58 hR  (by show (0 : Int) ≤ (f 32).toInt; omega) (by show (f 32).toInt ≤ (63 : Int); omega) (by show (f 53).toInt ≤ (4096 : Int); omega) (by show (0 : Int) ≤ (f 68).toInt; omega) (by show (f 68).toInt ≤ (65534 : Int); omega)) ?_
        rintro v61 S62 (⟨z63, r64, g'65, hv66, hS67, hR71, h68, h69, h70⟩)
        subst hv66
        have h68_ : z63.toInt = (f 68).toInt + 1 := h68
        have h69_ : r64.toInt = (f 68).toInt := h69
        have h70_ : ∀ j, j ∉ [60, 69, 70, 71, 72, 73] → g'65 j = (upg g 72 (g 17 z0.toNatClampNeg).toNatClampNeg 0) j := h70
        have hR71_ : RJ (upd (upd f 15 z0) 68 z63) g'65 gs bc [] 0 ((f 68).toNatClampNeg :: []) := hR71
        show am_E _ _ _ _ [some (.ref 39), some (.int on), some (.int (g 17 z0.toNatClampNeg))] [.int r64] _ _
        refine am_e6i hi_261_102 ?_
        refine am_e18 hi_261_103 ?_
        refine am_e35 hi_261_123 ?_
        show am_E _ _ _ _ [some (.ref 39), some (.int 19), some (.int on), some (.int tw), some (.int th)] [] _ _
        refine am_e18 hi_180_346 ?_
        refine am_e35 hi_180_371 ?_
        have q1 : mg_p1 gs = mg_p1 gs := rfl
        have q2 : mg_p2 gs = mg_p2 gs := rfl
        have q3 : mg_p3 gs = mg_p3 gs := rfl
        have q4 : mg_p4 gs = mg_p4 gs := rfl
        refine ⟨_, _, _, bc, rfl, hS67, Or.inl ⟨⟨(RJ.fewer (pj' := []) hR71_ (fun _ h => nomatch h)), ?_, ?_⟩, rfl, ?_⟩⟩
        · exact (mg_cast (mg_good_ext _ _ _ _ _ _ (fun i _ => by show g'65 34 i = g 34 i; rw [show g'65 34 = g 34 from h70_ 34 (by decide)]) (fun i _ => by show g'65 38 i = g 38 i; rw [show g'65 38 = g 38 from h70_ 38 (by decide)]) (fun i _ => by show g'65 23 i = g 23 i; rw [show g'65 23 = g 23 from h70_ 23 (by decide)]) hrest) (by show (f 15).toInt + -1 = z0.toInt; omega) (by show (f 20).toInt = (f 20).toInt; omega) (by show (f 37).toInt + 0 = (f 37).toInt; omega) (by show (f 32).toInt + 0 = (f 32).toInt; omega) (by show (f 5).toInt + 0 = (f 5).toInt; omega) : mg_good (g'65 34) (g'65 38) (g'65 23) gs (z0.toInt) ((f 20).toInt) ((f 37).toInt) ((f 32).toInt) ((f 5).toInt))
        · exact ⟨(by show 0 ≤ (f 4).toInt; omega), (by show (f 4).toInt ≤ (f 0).toInt; omega), (by show (f 0).toInt ≤ 512; omega), (by show 0 ≤ (f 24).toInt; omega), (by show (f 24).toInt + (f 20).toInt + mg_p1 gs ≤ 4 * (f 4).toInt; omega), (by show (f 20).toInt ≤ (f 4).toInt; omega), (by show z0.toInt + mg_p2 gs ≤ (f 4).toInt; omega), (by show mg_p3 gs ≤ 20 * (f 4).toInt + 20; omega), (by show 0 ≤ z63.toInt; omega), (by show z63.toInt + 3 * (f 20).toInt + mg_p4 gs ≤ 60 * (f 4).toInt + 60; omega), (by show 0 ≤ (f 62).toInt; omega), (by show (f 62).toInt + 64 * mj_n (g'65 16) z0.toNatClampNeg 3 ≤ 64 * (f 4).toInt; rw [show g'65 16 = g 16 from h70_ 16 (by decide)]; omega), (by show 0 ≤ (f 44).toInt; omega), (by show (f 44).toInt ≤ (f 4).toInt; omega), (by show 0 ≤ (f 48).toInt; omega), (by show (f 48).toInt ≤ (f 4).toInt; omega), (by show 1 ≤ (f 53).toInt; omega), (by show (f 53).toInt ≤ (f 4).toInt + 1; omega), (by show 0 ≤ (f 19).toInt; omega), (by show (f 19).toInt ≤ 600; omega), (by show 0 ≤ (f 6).toInt; omega), (by show 0 ≤ (f 8).toInt; omega)⟩
        · show 100 * ((f 0).toInt - (f 4).toInt) + mg_p3 gs < 100 * ((f 0).toInt - (f 4).toInt) + (1 + mg_p3 gs); omega
  · refine am_e13f hi_261_17 (am_cF (m := (f 19).toInt) (n := (1 : Int)) rfl (by decide) c2) ?_
    refine am_e2 (v := 39) hi_261_20 rfl ?_
    refine mm_20 (v := .ref 46) hS hi_261_21 rfl ?_
    refine am_e2 (v := 39) hi_261_24 rfl ?_
    refine mm_20 (v := .int (f 15)) hS hi_261_25 rfl ?_
    refine am_e0 hi_261_28 ?_
    refine am_e10 (z := z0) hi_261_29 hz0 ?_
    refine mm_25 hS ma_16 hi_261_30 (by decide) (by omega) (by omega) ?_
    show am_E _ _ _ _ [some (.ref 39), some (.int on), some (.int (g 17 z0.toNatClampNeg))] [.int (g 16 z0.toNatClampNeg)] _ _
    refine am_e0 hi_261_31 ?_
    by_cases c72 : ¬ (g 16 z0.toNatClampNeg).toInt = (1 : Int)
    · refine am_e13t hi_261_32 (am_cT (m := (g 16 z0.toNatClampNeg).toInt) (n := (1 : Int)) rfl (by decide) c72) ?_
      refine am_e2 (v := 39) hi_261_77 rfl ?_
      refine am_e32w (as := [.ref 39]) (la := [some (.ref 39)]) (rest := []) hi_261_78 (am_hd0 (M := 261) (by decide) 78) (Nat.le_of_ble_eq_true rfl) (Nat.le_of_ble_eq_true rfl) (show 1 ≤ am_P0.2.2.1 216 from by decide +kernel) rfl (am_recv_ok hS.fs) rfl rfl ?_
      refine am_e2 (v := 39) hi_216_0 rfl ?_
      refine mm_20 (v := .ref 46) hS hi_216_1 rfl ?_
      refine am_e2 (v := 39) hi_216_4 rfl ?_
      refine mm_20 (v := .int (f 15)) hS hi_216_5 rfl ?_
      refine am_e0 hi_216_8 ?_
      refine am_e10 (z := z0) hi_216_9 hz0 ?_
      refine mm_25 hS ma_16 hi_216_10 (by decide) (by omega) (by omega) ?_
      show am_E _ _ _ _ [some (.ref 39)] [.int (g 16 z0.toNatClampNeg)] _ _
      refine am_e0 hi_216_11 ?_
      refine am_e13f hi_216_12 (am_cF (m := (g 16 z0.toNatClampNeg).toInt) (n := (1 : Int)) rfl (by decide) (by simp only [am_cI]; omega)) ?_
      refine am_e2 (v := 39) hi_216_15 rfl ?_
      refine mm_20 (v := .ref 46) hS hi_216_16 rfl ?_
      refine am_e2 (v := 39) hi_216_19 rfl ?_
      refine mm_20 (v := .int (f 15)) hS hi_216_20 rfl ?_
      refine am_e0 hi_216_23 ?_
      refine am_e10 (z := z0) hi_216_24 hz0 ?_
      refine mm_25 hS ma_16 hi_216_25 (by decide) (by omega) (by omega) ?_
      show am_E _ _ _ _ [some (.ref 39)] [.int (g 16 z0.toNatClampNeg)] _ _
      refine am_e0 hi_216_26 ?_
      by_cases c73 : ¬ (g 16 z0.toNatClampNeg).toInt = (2 : Int)
      · refine am_e13t hi_216_27 (am_cT (m := (g 16 z0.toNatClampNeg).toInt) (n := (2 : Int)) rfl (by decide) c73) ?_
        refine am_e0 hi_216_34 ?_
        refine am_e36 hi_216_35 (by decide) ?_
        show am_E _ _ _ _ [some (.ref 39), some (.int on), some (.int (g 17 z0.toNatClampNeg))] [.int 0] _ _
        refine am_e12t hi_261_81 (by decide) ?_
        refine am_e2 (v := 39) hi_261_106 rfl ?_
        refine am_e32w (as := [.ref 39]) (la := [some (.ref 39)]) (rest := []) hi_261_107 (am_hd0 (M := 261) (by decide) 107) (Nat.le_of_ble_eq_true rfl) (Nat.le_of_ble_eq_true rfl) (show 1 ≤ am_P0.2.2.1 209 from by decide +kernel) rfl (am_recv_ok hS.fs) rfl rfl ?_
        refine am_e2 (v := 39) hi_209_0 rfl ?_
        refine am_e32n (as := [.ref 39]) (la := [some (.ref 39), none, none, none]) (rest := []) hi_209_1 (am_hd0 (M := 209) (by decide) 1) (Nat.le_of_ble_eq_true rfl) (Nat.le_of_ble_eq_true rfl) (show 1 ≤ am_P0.2.2.1 204 from by decide +kernel) rfl (am_recv_ok hS.fs) rfl rfl (ct_load (d := (d + 3)) hS hR  (by show (0 : Int) ≤ (f 32).toInt; omega) (by show (f 32).toInt ≤ (63 : Int); omega) (by show (f 53).toInt ≤ (4096 : Int); omega) (by show (0 : Int) ≤ (f 68).toInt; omega) (by show (f 68).toInt ≤ (65534 : Int); omega) (by show (1 : Int) ≤ (f 15).toInt; omega) (by show (f 15).toInt ≤ (32767 : Int); omega) (by show (0 : Int) ≤ (f 24).toInt; omega) (by show (f 24).toInt ≤ (16384 : Int); omega) (by show (0 : Int) ≤ (f 62).toInt; omega) (by show (f 62).toInt ≤ (65000 : Int); omega)) ?_
        rintro v74 S75 (⟨o76, s77, m78, g'79, hv80, hS81, hR88, h82, h83, h84, h85, h86, h87⟩)
        subst hv80
        have h82_ : (f 62).toInt ≤ o76.toInt := h82
        have h83_ : o76.toInt ≤ (f 62).toInt + 64 := h83
        have h84_ : (f 68).toInt ≤ s77.toInt := h84
        have h85_ : s77.toInt ≤ (f 68).toInt + 1 := h85
        have h86_ : o76.toInt + 64 * mj_n (g'79 16) (f 15).toNatClampNeg 3 ≤ (f 62).toInt + 64 * mj_n (g 16) (f 15).toNatClampNeg 3 := h86
        have h87_ : ∀ j, j ∉ [16, 60, 63, 64, 65, 66, 67, 69, 70, 71, 72, 73] → g'79 j = g j := h87
        have hR88_ : RJ (upd (upd (upd f 62 o76) 68 s77) 75 m78) g'79 gs bc [] 0 [] := hR88
        show am_E _ _ _ _ [some (.ref 39)] [] _ _
        refine am_e2 (v := 39) hi_209_4 rfl ?_
        refine am_e7 hi_209_5 ?_
        refine mm_20 (v := .int (f 15)) hS81 hi_209_6 rfl ?_
        refine am_e0 hi_209_9 ?_
        refine am_e10 (z := z0) hi_209_10 hz0 ?_
        refine mm_21 (v := z0) hS81 hi_209_11 rfl (Nat.le_of_ble_eq_true rfl) ms_15 ?_
        intro S89 hS90
        replace hS90 : MS S0 S89 (upd (upd (upd (upd f 15 z0) 62 o76) 68 s77) 75 m78) g'79 := hS90
        have hp91 : mj_n (g'79 16) (f 15).toNatClampNeg 3 = mj_n (g'79 16) z0.toNatClampNeg 3 + if (g'79 16 z0.toNatClampNeg).toInt = 3 then 1 else 0 := mj_pop (by rw [cl_toNat, cl_toNat]; omega)
        have hp911 : mj_n (g'79 16) z0.toNatClampNeg 3 ≤ mj_n (g'79 16) (f 15).toNatClampNeg 3 := by rw [hp91]; split <;> omega
        have hp912 : (g'79 16 z0.toNatClampNeg).toInt = 3 → mj_n (g'79 16) z0.toNatClampNeg 3 + 1 ≤ mj_n (g'79 16) (f 15).toNatClampNeg 3 := fun q => by rw [hp91, if_pos q]; exact Int.le_refl _
        refine am_e35 hi_209_14 ?_
        show am_E _ _ _ _ [some (.ref 39), some (.int on), some (.int (g 17 z0.toNatClampNeg))] [] _ _
        refine am_e2 (v := 39) hi_261_110 rfl ?_
        refine am_e0 hi_261_111 ?_
        refine am_e2 (v := 39) hi_261_113 rfl ?_
        refine mm_20 (v := .int (f 19)) hS90 hi_261_114 rfl ?_
        refine am_e0 hi_261_117 ?_
        refine am_e1 (v := on) hi_261_118 rfl ?_
        refine am_e32n (as := [.ref 39, .int 45, .int (f 19), .int 0, .int on]) (la := [some (.ref 39), some (.int 45), some (.int (f 19)), some (.int 0), some (.int on)]) (rest := []) hi_261_119 (am_hd0 (M := 261) (by decide) 119) (Nat.le_of_ble_eq_true rfl) (Nat.le_of_ble_eq_true rfl) (show 5 ≤ am_P0.2.2.1 189 from by decide +kernel) rfl (am_recv_ok hS90.fs) rfl rfl (ct_put (d := (d + 6)) hS90 hR88_  (by show (0 : Int) ≤ (f 32).toInt; omega) (by show (f 32).toInt ≤ (63 : Int); omega) (by show (f 53).toInt ≤ (4096 : Int); omega) (by show (0 : Int) ≤ s77.toInt; omega) (by show s77.toInt ≤ (65534 : Int); omega)) ?_
        rintro v92 S93 (⟨z94, r95, g'96, hv97, hS98, hR102, h99, h100, h101⟩)
        subst hv97
        have h99_ : z94.toInt = s77.toInt + 1 := h99
        have h100_ : r95.toInt = s77.toInt := h100
        have h101_ : ∀ j, j ∉ [60, 69, 70, 71, 72, 73] → g'96 j = g'79 j := h101
        replace hS98 : MS S0 S93 (upd (upd (upd (upd f 15 z0) 62 o76) 68 z94) 75 m78) g'96 := hS98
        have hR102_ : RJ (upd (upd (upd (upd f 15 z0) 62 o76) 68 z94) 75 m78) g'96 gs bc [] 0 (s77.toNatClampNeg :: []) := hR102
        show am_E _ _ _ _ [some (.ref 39), some (.int on), some (.int (g 17 z0.toNatClampNeg))] [.int r95] _ _
        refine am_e6i hi_261_122 ?_
        refine am_e35 hi_261_123 ?_
        show am_E _ _ _ _ [some (.ref 39), some (.int 19), some (.int on), some (.int tw), some (.int th)] [] _ _
        refine am_e18 hi_180_346 ?_
        refine am_e35 hi_180_371 ?_
        have q1 : mg_p1 gs = mg_p1 gs := rfl
        have q2 : mg_p2 gs = mg_p2 gs := rfl
        have q3 : mg_p3 gs = mg_p3 gs := rfl
        have q4 : mg_p4 gs = mg_p4 gs := rfl
        refine ⟨_, _, _, bc, rfl, hS98, Or.inl ⟨⟨(RJ.fewer (pj' := []) hR102_ (fun _ h => nomatch h)), ?_, ?_⟩, rfl, ?_⟩⟩
        · exact (mg_cast (mg_good_ext _ _ _ _ _ _ (fun i _ => by show g'96 34 i = g 34 i; rw [show g'96 34 = g'79 34 from h101_ 34 (by decide), show g'79 34 = g 34 from h87_ 34 (by decide)]) (fun i _ => by show g'96 38 i = g 38 i; rw [show g'96 38 = g'79 38 from h101_ 38 (by decide), show g'79 38 = g 38 from h87_ 38 (by decide)]) (fun i _ => by show g'96 23 i = g 23 i; rw [show g'96 23 = g'79 23 from h101_ 23 (by decide), show g'79 23 = g 23 from h87_ 23 (by decide)]) hrest) (by show (f 15).toInt + -1 = z0.toInt; omega) (by show (f 20).toInt = (f 20).toInt; omega) (by show (f 37).toInt + 0 = (f 37).toInt; omega) (by show (f 32).toInt + 0 = (f 32).toInt; omega) (by show (f 5).toInt + 0 = (f 5).toInt; omega) : mg_good (g'96 34) (g'96 38) (g'96 23) gs (z0.toInt) ((f 20).toInt) ((f 37).toInt) ((f 32).toInt) ((f 5).toInt))
        · exact ⟨(by show 0 ≤ (f 4).toInt; omega), (by show (f 4).toInt ≤ (f 0).toInt; omega), (by show (f 0).toInt ≤ 512; omega), (by show 0 ≤ (f 24).toInt; omega), (by show (f 24).toInt + (f 20).toInt + mg_p1 gs ≤ 4 * (f 4).toInt; omega), (by show (f 20).toInt ≤ (f 4).toInt; omega), (by show z0.toInt + mg_p2 gs ≤ (f 4).toInt; omega), (by show mg_p3 gs ≤ 20 * (f 4).toInt + 20; omega), (by show 0 ≤ z94.toInt; omega), (by show z94.toInt + 3 * (f 20).toInt + mg_p4 gs ≤ 60 * (f 4).toInt + 60; omega), (by show 0 ≤ o76.toInt; omega), (by show o76.toInt + 64 * mj_n (g'96 16) z0.toNatClampNeg 3 ≤ 64 * (f 4).toInt; rw [show g'96 16 = g'79 16 from h101_ 16 (by decide)]; omega), (by show 0 ≤ (f 44).toInt; omega), (by show (f 44).toInt ≤ (f 4).toInt; omega), (by show 0 ≤ (f 48).toInt; omega), (by show (f 48).toInt ≤ (f 4).toInt; omega), (by show 1 ≤ (f 53).toInt; omega), (by show (f 53).toInt ≤ (f 4).toInt + 1; omega), (by show 0 ≤ (f 19).toInt; omega), (by show (f 19).toInt ≤ 600; omega), (by show 0 ≤ (f 6).toInt; omega), (by show 0 ≤ (f 8).toInt; omega)⟩
        · show 100 * ((f 0).toInt - (f 4).toInt) + mg_p3 gs < 100 * ((f 0).toInt - (f 4).toInt) + (1 + mg_p3 gs); omega
      · refine am_e13f hi_216_27 (am_cF (m := (g 16 z0.toNatClampNeg).toInt) (n := (2 : Int)) rfl (by decide) c73) ?_
        refine am_e0 hi_216_30 ?_
        refine am_e18 hi_216_31 ?_
        refine am_e36 hi_216_35 (by decide) ?_
        show am_E _ _ _ _ [some (.ref 39), some (.int on), some (.int (g 17 z0.toNatClampNeg))] [.int 1] _ _
        refine am_e12f hi_261_81 (by decide) ?_
        refine am_e2 (v := 39) hi_261_84 rfl ?_
        refine am_e32w (as := [.ref 39]) (la := [some (.ref 39), none]) (rest := []) hi_261_85 (am_hd0 (M := 261) (by decide) 85) (Nat.le_of_ble_eq_true rfl) (Nat.le_of_ble_eq_true rfl) (show 1 ≤ am_P0.2.2.1 217 from by decide +kernel) rfl (am_recv_ok hS.fs) rfl rfl ?_
        refine am_e2 (v := 39) hi_217_0 rfl ?_
        refine mm_20 (v := .ref 47) hS hi_217_1 rfl ?_
        refine am_e2 (v := 39) hi_217_4 rfl ?_
        refine mm_20 (v := .int (f 15)) hS hi_217_5 rfl ?_
        refine am_e0 hi_217_8 ?_
        refine am_e10 (z := z0) hi_217_9 hz0 ?_
        refine mm_25 hS ma_17 hi_217_10 (by decide) (by omega) (by omega) ?_
        show am_E _ _ _ _ [some (.ref 39), none] [.int (g 17 z0.toNatClampNeg)] _ _
        have r103 : (g 16 z0.toNatClampNeg).toInt = 1 ∨ (g 16 z0.toNatClampNeg).toInt = 2 → 0 ≤ (g 17 z0.toNatClampNeg).toInt ∧ (g 17 z0.toNatClampNeg).toInt < 65536 := RJ.vc hR z0.toNatClampNeg
        refine am_e3 (ls' := [some (.ref 39), some (.int (g 17 z0.toNatClampNeg))]) hi_217_11 (Nat.le_of_ble_eq_true rfl) rfl ?_
        refine am_e2 (v := 39) hi_217_12 rfl ?_
        refine mm_20 (v := .ref 91) hS hi_217_13 rfl ?_
        refine am_e1 (v := g 17 z0.toNatClampNeg) hi_217_16 rfl ?_
        refine am_e2 (v := 39) hi_217_17 rfl ?_
        refine mm_20 (v := .ref 46) hS hi_217_18 rfl ?_
        refine am_e2 (v := 39) hi_217_21 rfl ?_
        refine mm_20 (v := .int (f 15)) hS hi_217_22 rfl ?_
        refine am_e0 hi_217_25 ?_
        refine am_e10 (z := z0) hi_217_26 hz0 ?_
        refine mm_25 hS ma_16 hi_217_27 (by decide) (by omega) (by omega) ?_
        show am_E _ _ _ _ [some (.ref 39), some (.int (g 17 z0.toNatClampNeg))] [.int (g 16 z0.toNatClampNeg), .int (g 17 z0.toNatClampNeg), .ref 91] _ _
        refine am_e0 hi_217_28 ?_
        refine am_e13t hi_217_29 (am_cT (m := (g 16 z0.toNatClampNeg).toInt) (n := (1 : Int)) rfl (by decide) (by simp only [am_cI]; omega)) ?_
        refine am_e0 hi_217_45 ?_
        refine mm_26 hS ma_72 hi_217_46 (by decide) (by omega) (by omega) (fun h => nomatch h) ?_
        intro S104 hS105
        refine am_e2 (v := 39) hi_217_47 rfl ?_
        refine am_e7 hi_217_48 ?_
        refine mm_20 (v := .int (f 15)) hS105 hi_217_49 rfl ?_
        refine am_e0 hi_217_52 ?_
        refine am_e10 (z := z0) hi_217_53 hz0 ?_
        refine mm_21 (v := z0) hS105 hi_217_54 rfl (Nat.le_of_ble_eq_true rfl) ms_15 ?_
        intro S106 hS107
        have hp108 : mj_n (g 16) (f 15).toNatClampNeg 3 = mj_n (g 16) z0.toNatClampNeg 3 + if (g 16 z0.toNatClampNeg).toInt = 3 then 1 else 0 := mj_pop (by rw [cl_toNat, cl_toNat]; omega)
        have hp1081 : mj_n (g 16) z0.toNatClampNeg 3 ≤ mj_n (g 16) (f 15).toNatClampNeg 3 := by rw [hp108]; split <;> omega
        have hp1082 : (g 16 z0.toNatClampNeg).toInt = 3 → mj_n (g 16) z0.toNatClampNeg 3 + 1 ≤ mj_n (g 16) (f 15).toNatClampNeg 3 := fun q => by rw [hp108, if_pos q]; exact Int.le_refl _
        refine am_e35 hi_217_57 ?_
        show am_E _ _ _ _ [some (.ref 39), some (.int on), some (.int (g 17 z0.toNatClampNeg))] [] _ _
        refine am_e2 (v := 39) hi_261_88 rfl ?_
        refine am_e0 hi_261_89 ?_
        refine am_e2 (v := 39) hi_261_91 rfl ?_
        refine mm_20 (v := .int (f 19)) hS107 hi_261_92 rfl ?_
        refine am_e0 hi_261_95 ?_
        obtain ⟨z109, hz109, tz109⟩ := am_subI (x := f 19) (y := 1) (m := (f 19).toInt) (n := (1 : Int)) rfl (by decide) (by omega) (by omega)
        refine am_e10 (z := z109) hi_261_96 hz109 ?_
        refine am_e0 hi_261_97 ?_
        refine am_e1 (v := on) hi_261_98 rfl ?_
        refine am_e32n (as := [.ref 39, .int 45, .int z109, .int 1, .int on]) (la := [some (.ref 39), some (.int 45), some (.int z109), some (.int 1), some (.int on)]) (rest := []) hi_261_99 (am_hd0 (M := 261) (by decide) 99) (Nat.le_of_ble_eq_true rfl) (Nat.le_of_ble_eq_true rfl) (show 5 ≤ am_P0.2.2.1 189 from by decide +kernel) rfl (am_recv_ok hS107.fs) rfl rfl (ct_put (d := (d + 6)) hS107 hR  (by show (0 : Int) ≤ (f 32).toInt; omega) (by show (f 32).toInt ≤ (63 : Int); omega) (by show (f 53).toInt ≤ (4096 : Int); omega) (by show (0 : Int) ≤ (f 68).toInt; omega) (by show (f 68).toInt ≤ (65534 : Int); omega)) ?_
        rintro v110 S111 (⟨z112, r113, g'114, hv115, hS116, hR120, h117, h118, h119⟩)
        subst hv115
        have h117_ : z112.toInt = (f 68).toInt + 1 := h117
        have h118_ : r113.toInt = (f 68).toInt := h118
        have h119_ : ∀ j, j ∉ [60, 69, 70, 71, 72, 73] → g'114 j = (upg g 72 (g 17 z0.toNatClampNeg).toNatClampNeg 0) j := h119
        have hR120_ : RJ (upd (upd f 15 z0) 68 z112) g'114 gs bc [] 0 ((f 68).toNatClampNeg :: []) := hR120
        show am_E _ _ _ _ [some (.ref 39), some (.int on), some (.int (g 17 z0.toNatClampNeg))] [.int r113] _ _
        refine am_e6i hi_261_102 ?_
        refine am_e18 hi_261_103 ?_
        refine am_e35 hi_261_123 ?_
        show am_E _ _ _ _ [some (.ref 39), some (.int 19), some (.int on), some (.int tw), some (.int th)] [] _ _
        refine am_e18 hi_180_346 ?_
        refine am_e35 hi_180_371 ?_
        have q1 : mg_p1 gs = mg_p1 gs := rfl
        have q2 : mg_p2 gs = mg_p2 gs := rfl
        have q3 : mg_p3 gs = mg_p3 gs := rfl
        have q4 : mg_p4 gs = mg_p4 gs := rfl
        refine ⟨_, _, _, bc, rfl, hS116, Or.inl ⟨⟨(RJ.fewer (pj' := []) hR120_ (fun _ h => nomatch h)), ?_, ?_⟩, rfl, ?_⟩⟩
        · exact (mg_cast (mg_good_ext _ _ _ _ _ _ (fun i _ => by show g'114 34 i = g 34 i; rw [show g'114 34 = g 34 from h119_ 34 (by decide)]) (fun i _ => by show g'114 38 i = g 38 i; rw [show g'114 38 = g 38 from h119_ 38 (by decide)]) (fun i _ => by show g'114 23 i = g 23 i; rw [show g'114 23 = g 23 from h119_ 23 (by decide)]) hrest) (by show (f 15).toInt + -1 = z0.toInt; omega) (by show (f 20).toInt = (f 20).toInt; omega) (by show (f 37).toInt + 0 = (f 37).toInt; omega) (by show (f 32).toInt + 0 = (f 32).toInt; omega) (by show (f 5).toInt + 0 = (f 5).toInt; omega) : mg_good (g'114 34) (g'114 38) (g'114 23) gs (z0.toInt) ((f 20).toInt) ((f 37).toInt) ((f 32).toInt) ((f 5).toInt))
        · exact ⟨(by show 0 ≤ (f 4).toInt; omega), (by show (f 4).toInt ≤ (f 0).toInt; omega), (by show (f 0).toInt ≤ 512; omega), (by show 0 ≤ (f 24).toInt; omega), (by show (f 24).toInt + (f 20).toInt + mg_p1 gs ≤ 4 * (f 4).toInt; omega), (by show (f 20).toInt ≤ (f 4).toInt; omega), (by show z0.toInt + mg_p2 gs ≤ (f 4).toInt; omega), (by show mg_p3 gs ≤ 20 * (f 4).toInt + 20; omega), (by show 0 ≤ z112.toInt; omega), (by show z112.toInt + 3 * (f 20).toInt + mg_p4 gs ≤ 60 * (f 4).toInt + 60; omega), (by show 0 ≤ (f 62).toInt; omega), (by show (f 62).toInt + 64 * mj_n (g'114 16) z0.toNatClampNeg 3 ≤ 64 * (f 4).toInt; rw [show g'114 16 = g 16 from h119_ 16 (by decide)]; omega), (by show 0 ≤ (f 44).toInt; omega), (by show (f 44).toInt ≤ (f 4).toInt; omega), (by show 0 ≤ (f 48).toInt; omega), (by show (f 48).toInt ≤ (f 4).toInt; omega), (by show 1 ≤ (f 53).toInt; omega), (by show (f 53).toInt ≤ (f 4).toInt + 1; omega), (by show 0 ≤ (f 19).toInt; omega), (by show (f 19).toInt ≤ 600; omega), (by show 0 ≤ (f 6).toInt; omega), (by show 0 ≤ (f 8).toInt; omega)⟩
        · show 100 * ((f 0).toInt - (f 4).toInt) + mg_p3 gs < 100 * ((f 0).toInt - (f 4).toInt) + (1 + mg_p3 gs); omega
    · refine am_e13f hi_261_32 (am_cF (m := (g 16 z0.toNatClampNeg).toInt) (n := (1 : Int)) rfl (by decide) c72) ?_
      refine am_e2 (v := 39) hi_261_35 rfl ?_
      refine am_e32n (as := [.ref 39]) (la := [some (.ref 39), none, none]) (rest := []) hi_261_36 (am_hd0 (M := 261) (by decide) 36) (Nat.le_of_ble_eq_true rfl) (Nat.le_of_ble_eq_true rfl) (show 1 ≤ am_P0.2.2.1 262 from by decide +kernel) rfl (am_recv_ok hS.fs) rfl rfl (ct_mayTail (d := (d + 6)) hS hR  (by show (0 : Int) ≤ (f 32).toInt; omega) (by show (f 32).toInt ≤ (63 : Int); omega) (by show (0 : Int) ≤ (f 24).toInt; omega) (by show (f 24).toInt ≤ (16384 : Int); omega)) ?_
      rintro v121 S122 (⟨r123, hv124, hS125, h126⟩)
      subst hv124
      have h126_ : r123 = 0 ∨ r123 = 1 := h126
      show am_E _ _ _ _ [some (.ref 39), some (.int on), some (.int (g 17 z0.toNatClampNeg))] [.int r123] _ _
      by_cases c128 : r123.toInt = (0 : Int)
      · refine am_e12t hi_261_39 (am_cT (m := r123.toInt) (n := (0 : Int)) rfl (by decide) c128) ?_
        refine am_e2 (v := 39) hi_261_77 rfl ?_
        refine am_e32w (as := [.ref 39]) (la := [some (.ref 39)]) (rest := []) hi_261_78 (am_hd0 (M := 261) (by decide) 78) (Nat.le_of_ble_eq_true rfl) (Nat.le_of_ble_eq_true rfl) (show 1 ≤ am_P0.2.2.1 216 from by decide +kernel) rfl (am_recv_ok hS125.fs) rfl rfl ?_
        refine am_e2 (v := 39) hi_216_0 rfl ?_
        refine mm_20 (v := .ref 46) hS125 hi_216_1 rfl ?_
        refine am_e2 (v := 39) hi_216_4 rfl ?_
        refine mm_20 (v := .int (f 15)) hS125 hi_216_5 rfl ?_
        refine am_e0 hi_216_8 ?_
        refine am_e10 (z := z0) hi_216_9 hz0 ?_
        refine mm_25 hS125 ma_16 hi_216_10 (by decide) (by omega) (by omega) ?_
        show am_E _ _ _ _ [some (.ref 39)] [.int (g 16 z0.toNatClampNeg)] _ _
        refine am_e0 hi_216_11 ?_
        refine am_e13t hi_216_12 (am_cT (m := (g 16 z0.toNatClampNeg).toInt) (n := (1 : Int)) rfl (by decide) (by simp only [am_cI]; omega)) ?_
        refine am_e0 hi_216_30 ?_
        refine am_e18 hi_216_31 ?_
        refine am_e36 hi_216_35 (by decide) ?_
        show am_E _ _ _ _ [some (.ref 39), some (.int on), some (.int (g 17 z0.toNatClampNeg))] [.int 1] _ _
        refine am_e12f hi_261_81 (by decide) ?_
        refine am_e2 (v := 39) hi_261_84 rfl ?_
        refine am_e32w (as := [.ref 39]) (la := [some (.ref 39), none]) (rest := []) hi_261_85 (am_hd0 (M := 261) (by decide) 85) (Nat.le_of_ble_eq_true rfl) (Nat.le_of_ble_eq_true rfl) (show 1 ≤ am_P0.2.2.1 217 from by decide +kernel) rfl (am_recv_ok hS125.fs) rfl rfl ?_
        refine am_e2 (v := 39) hi_217_0 rfl ?_
        refine mm_20 (v := .ref 47) hS125 hi_217_1 rfl ?_
        refine am_e2 (v := 39) hi_217_4 rfl ?_
        refine mm_20 (v := .int (f 15)) hS125 hi_217_5 rfl ?_
        refine am_e0 hi_217_8 ?_
        refine am_e10 (z := z0) hi_217_9 hz0 ?_
        refine mm_25 hS125 ma_17 hi_217_10 (by decide) (by omega) (by omega) ?_
        show am_E _ _ _ _ [some (.ref 39), none] [.int (g 17 z0.toNatClampNeg)] _ _
        have r129 : (g 16 z0.toNatClampNeg).toInt = 1 ∨ (g 16 z0.toNatClampNeg).toInt = 2 → 0 ≤ (g 17 z0.toNatClampNeg).toInt ∧ (g 17 z0.toNatClampNeg).toInt < 65536 := RJ.vc hR z0.toNatClampNeg
        refine am_e3 (ls' := [some (.ref 39), some (.int (g 17 z0.toNatClampNeg))]) hi_217_11 (Nat.le_of_ble_eq_true rfl) rfl ?_
        refine am_e2 (v := 39) hi_217_12 rfl ?_
        refine mm_20 (v := .ref 91) hS125 hi_217_13 rfl ?_
        refine am_e1 (v := g 17 z0.toNatClampNeg) hi_217_16 rfl ?_
        refine am_e2 (v := 39) hi_217_17 rfl ?_
        refine mm_20 (v := .ref 46) hS125 hi_217_18 rfl ?_
        refine am_e2 (v := 39) hi_217_21 rfl ?_
        refine mm_20 (v := .int (f 15)) hS125 hi_217_22 rfl ?_
        refine am_e0 hi_217_25 ?_
        refine am_e10 (z := z0) hi_217_26 hz0 ?_
        refine mm_25 hS125 ma_16 hi_217_27 (by decide) (by omega) (by omega) ?_
        show am_E _ _ _ _ [some (.ref 39), some (.int (g 17 z0.toNatClampNeg))] [.int (g 16 z0.toNatClampNeg), .int (g 17 z0.toNatClampNeg), .ref 91] _ _
        refine am_e0 hi_217_28 ?_
        refine am_e13f hi_217_29 (am_cF (m := (g 16 z0.toNatClampNeg).toInt) (n := (1 : Int)) rfl (by decide) (by simp only [am_cI]; omega)) ?_
        refine am_e2 (v := 39) hi_217_32 rfl ?_
        refine mm_20 (v := .ref 91) hS125 hi_217_33 rfl ?_
        refine am_e1 (v := g 17 z0.toNatClampNeg) hi_217_36 rfl ?_
        refine mm_25 hS125 ma_72 hi_217_37 (by decide) (by omega) (by omega) ?_
        show am_E _ _ _ _ [some (.ref 39), some (.int (g 17 z0.toNatClampNeg))] [.int (g 72 (g 17 z0.toNatClampNeg).toNatClampNeg), .int (g 17 z0.toNatClampNeg), .ref 91] _ _
        refine am_e0 hi_217_38 ?_
        obtain ⟨z130, hz130⟩ : ∃ q__, am_bin 3 (g 72 (g 17 z0.toNatClampNeg).toNatClampNeg) 1 = q__ := ⟨_, rfl⟩
        refine am_e10 (z := z130) hi_217_39 hz130 ?_
        refine am_e0 hi_217_40 ?_
        obtain ⟨z131, hz131⟩ : ∃ q__, am_bin 4 z130 4 = q__ := ⟨_, rfl⟩
        refine am_e10 (z := z131) hi_217_41 hz131 ?_
        refine am_e18 hi_217_42 ?_
        refine mm_26 hS125 ma_72 hi_217_46 (by decide) (by omega) (by omega) (fun h => nomatch h) ?_
        intro S132 hS133
        refine am_e2 (v := 39) hi_217_47 rfl ?_
        refine am_e7 hi_217_48 ?_
        refine mm_20 (v := .int (f 15)) hS133 hi_217_49 rfl ?_
        refine am_e0 hi_217_52 ?_
        refine am_e10 (z := z0) hi_217_53 hz0 ?_
        refine mm_21 (v := z0) hS133 hi_217_54 rfl (Nat.le_of_ble_eq_true rfl) ms_15 ?_
        intro S134 hS135
        have hp136 : mj_n (g 16) (f 15).toNatClampNeg 3 = mj_n (g 16) z0.toNatClampNeg 3 + if (g 16 z0.toNatClampNeg).toInt = 3 then 1 else 0 := mj_pop (by rw [cl_toNat, cl_toNat]; omega)
        have hp1361 : mj_n (g 16) z0.toNatClampNeg 3 ≤ mj_n (g 16) (f 15).toNatClampNeg 3 := by rw [hp136]; split <;> omega
        have hp1362 : (g 16 z0.toNatClampNeg).toInt = 3 → mj_n (g 16) z0.toNatClampNeg 3 + 1 ≤ mj_n (g 16) (f 15).toNatClampNeg 3 := fun q => by rw [hp136, if_pos q]; exact Int.le_refl _
        refine am_e35 hi_217_57 ?_
        show am_E _ _ _ _ [some (.ref 39), some (.int on), some (.int (g 17 z0.toNatClampNeg))] [] _ _
        refine am_e2 (v := 39) hi_261_88 rfl ?_
        refine am_e0 hi_261_89 ?_
        refine am_e2 (v := 39) hi_261_91 rfl ?_
        refine mm_20 (v := .int (f 19)) hS135 hi_261_92 rfl ?_
        refine am_e0 hi_261_95 ?_
        obtain ⟨z137, hz137, tz137⟩ := am_subI (x := f 19) (y := 1) (m := (f 19).toInt) (n := (1 : Int)) rfl (by decide) (by omega) (by omega)
        refine am_e10 (z := z137) hi_261_96 hz137 ?_
        refine am_e0 hi_261_97 ?_
        refine am_e1 (v := on) hi_261_98 rfl ?_
        refine am_e32n (as := [.ref 39, .int 45, .int z137, .int 1, .int on]) (la := [some (.ref 39), some (.int 45), some (.int z137), some (.int 1), some (.int on)]) (rest := []) hi_261_99 (am_hd0 (M := 261) (by decide) 99) (Nat.le_of_ble_eq_true rfl) (Nat.le_of_ble_eq_true rfl) (show 5 ≤ am_P0.2.2.1 189 from by decide +kernel) rfl (am_recv_ok hS135.fs) rfl rfl (ct_put (d := (d + 6)) hS135 hR  (by show (0 : Int) ≤ (f 32).toInt; omega) (by show (f 32).toInt ≤ (63 : Int); omega) (by show (f 53).toInt ≤ (4096 : Int); omega) (by show (0 : Int) ≤ (f 68).toInt; omega) (by show (f 68).toInt ≤ (65534 : Int); omega)) ?_
        rintro v138 S139 (⟨z140, r141, g'142, hv143, hS144, hR148, h145, h146, h147⟩)
        subst hv143
        have h145_ : z140.toInt = (f 68).toInt + 1 := h145
        have h146_ : r141.toInt = (f 68).toInt := h146
        have h147_ : ∀ j, j ∉ [60, 69, 70, 71, 72, 73] → g'142 j = (upg g 72 (g 17 z0.toNatClampNeg).toNatClampNeg z131) j := h147
        have hR148_ : RJ (upd (upd f 15 z0) 68 z140) g'142 gs bc [] 0 ((f 68).toNatClampNeg :: []) := hR148
        show am_E _ _ _ _ [some (.ref 39), some (.int on), some (.int (g 17 z0.toNatClampNeg))] [.int r141] _ _
        refine am_e6i hi_261_102 ?_
        refine am_e18 hi_261_103 ?_
        refine am_e35 hi_261_123 ?_
        show am_E _ _ _ _ [some (.ref 39), some (.int 19), some (.int on), some (.int tw), some (.int th)] [] _ _
        refine am_e18 hi_180_346 ?_
        refine am_e35 hi_180_371 ?_
        have q1 : mg_p1 gs = mg_p1 gs := rfl
        have q2 : mg_p2 gs = mg_p2 gs := rfl
        have q3 : mg_p3 gs = mg_p3 gs := rfl
        have q4 : mg_p4 gs = mg_p4 gs := rfl
        refine ⟨_, _, _, bc, rfl, hS144, Or.inl ⟨⟨(RJ.fewer (pj' := []) hR148_ (fun _ h => nomatch h)), ?_, ?_⟩, rfl, ?_⟩⟩
        · exact (mg_cast (mg_good_ext _ _ _ _ _ _ (fun i _ => by show g'142 34 i = g 34 i; rw [show g'142 34 = g 34 from h147_ 34 (by decide)]) (fun i _ => by show g'142 38 i = g 38 i; rw [show g'142 38 = g 38 from h147_ 38 (by decide)]) (fun i _ => by show g'142 23 i = g 23 i; rw [show g'142 23 = g 23 from h147_ 23 (by decide)]) hrest) (by show (f 15).toInt + -1 = z0.toInt; omega) (by show (f 20).toInt = (f 20).toInt; omega) (by show (f 37).toInt + 0 = (f 37).toInt; omega) (by show (f 32).toInt + 0 = (f 32).toInt; omega) (by show (f 5).toInt + 0 = (f 5).toInt; omega) : mg_good (g'142 34) (g'142 38) (g'142 23) gs (z0.toInt) ((f 20).toInt) ((f 37).toInt) ((f 32).toInt) ((f 5).toInt))
        · exact ⟨(by show 0 ≤ (f 4).toInt; omega), (by show (f 4).toInt ≤ (f 0).toInt; omega), (by show (f 0).toInt ≤ 512; omega), (by show 0 ≤ (f 24).toInt; omega), (by show (f 24).toInt + (f 20).toInt + mg_p1 gs ≤ 4 * (f 4).toInt; omega), (by show (f 20).toInt ≤ (f 4).toInt; omega), (by show z0.toInt + mg_p2 gs ≤ (f 4).toInt; omega), (by show mg_p3 gs ≤ 20 * (f 4).toInt + 20; omega), (by show 0 ≤ z140.toInt; omega), (by show z140.toInt + 3 * (f 20).toInt + mg_p4 gs ≤ 60 * (f 4).toInt + 60; omega), (by show 0 ≤ (f 62).toInt; omega), (by show (f 62).toInt + 64 * mj_n (g'142 16) z0.toNatClampNeg 3 ≤ 64 * (f 4).toInt; rw [show g'142 16 = g 16 from h147_ 16 (by decide)]; omega), (by show 0 ≤ (f 44).toInt; omega), (by show (f 44).toInt ≤ (f 4).toInt; omega), (by show 0 ≤ (f 48).toInt; omega), (by show (f 48).toInt ≤ (f 4).toInt; omega), (by show 1 ≤ (f 53).toInt; omega), (by show (f 53).toInt ≤ (f 4).toInt + 1; omega), (by show 0 ≤ (f 19).toInt; omega), (by show (f 19).toInt ≤ 600; omega), (by show 0 ≤ (f 6).toInt; omega), (by show 0 ≤ (f 8).toInt; omega)⟩
        · show 100 * ((f 0).toInt - (f 4).toInt) + mg_p3 gs < 100 * ((f 0).toInt - (f 4).toInt) + (1 + mg_p3 gs); omega
      · refine am_e12f hi_261_39 (am_cF (m := r123.toInt) (n := (0 : Int)) rfl (by decide) c128) ?_
        refine am_e2 (v := 39) hi_261_42 rfl ?_
        refine mm_20 (v := .ref 89) hS125 hi_261_43 rfl ?_
        refine am_e1 (v := g 17 z0.toNatClampNeg) hi_261_46 rfl ?_
        refine am_e0 hi_261_47 ?_
        refine mm_26 hS125 ma_70 hi_261_49 (by decide) (by omega) (by omega) (fun h => nomatch h) ?_
        intro S149 hS150
        refine am_e2 (v := 39) hi_261_50 rfl ?_
        refine mm_20 (v := .ref 91) hS150 hi_261_51 rfl ?_
        refine am_e1 (v := g 17 z0.toNatClampNeg) hi_261_54 rfl ?_
        refine am_e2 (v := 39) hi_261_55 rfl ?_
        refine mm_20 (v := .ref 91) hS150 hi_261_56 rfl ?_
        refine am_e1 (v := g 17 z0.toNatClampNeg) hi_261_59 rfl ?_
        refine mm_25 hS150 ma_72 hi_261_60 (by decide) (by omega) (by omega) ?_
        show am_E _ _ _ _ [some (.ref 39), some (.int on), some (.int (g 17 z0.toNatClampNeg))] [.int (g 72 (g 17 z0.toNatClampNeg).toNatClampNeg), .int (g 17 z0.toNatClampNeg), .ref 91] _ _
        refine am_e0 hi_261_61 ?_
        obtain ⟨z151, hz151⟩ : ∃ q__, am_bin 3 (g 72 (g 17 z0.toNatClampNeg).toNatClampNeg) 1 = q__ := ⟨_, rfl⟩
        refine am_e10 (z := z151) hi_261_62 hz151 ?_
        refine mm_26 hS150 ma_72 hi_261_63 (by decide) (by omega) (by omega) (fun h => nomatch h) ?_
        intro S152 hS153
        refine am_e2 (v := 39) hi_261_64 rfl ?_
        refine am_e7 hi_261_65 ?_
        refine mm_20 (v := .int (f 15)) hS153 hi_261_66 rfl ?_
        refine am_e0 hi_261_69 ?_
        refine am_e10 (z := z0) hi_261_70 hz0 ?_
        refine mm_21 (v := z0) hS153 hi_261_71 rfl (Nat.le_of_ble_eq_true rfl) ms_15 ?_
        intro S154 hS155
        have hp156 : mj_n (g 16) (f 15).toNatClampNeg 3 = mj_n (g 16) z0.toNatClampNeg 3 + if (g 16 z0.toNatClampNeg).toInt = 3 then 1 else 0 := mj_pop (by rw [cl_toNat, cl_toNat]; omega)
        have hp1561 : mj_n (g 16) z0.toNatClampNeg 3 ≤ mj_n (g 16) (f 15).toNatClampNeg 3 := by rw [hp156]; split <;> omega
        have hp1562 : (g 16 z0.toNatClampNeg).toInt = 3 → mj_n (g 16) z0.toNatClampNeg 3 + 1 ≤ mj_n (g 16) (f 15).toNatClampNeg 3 := fun q => by rw [hp156, if_pos q]; exact Int.le_refl _
        refine am_e18 hi_261_74 ?_
        refine am_e35 hi_261_123 ?_
        show am_E _ _ _ _ [some (.ref 39), some (.int 19), some (.int on), some (.int tw), some (.int th)] [] _ _
        refine am_e18 hi_180_346 ?_
        refine am_e35 hi_180_371 ?_
        have q1 : mg_p1 gs = mg_p1 gs := rfl
        have q2 : mg_p2 gs = mg_p2 gs := rfl
        have q3 : mg_p3 gs = mg_p3 gs := rfl
        have q4 : mg_p4 gs = mg_p4 gs := rfl
        refine ⟨_, _, _, bc, rfl, hS155, Or.inl ⟨⟨hR, ?_, ?_⟩, rfl, ?_⟩⟩
        · exact (mg_cast (mg_good_ext _ _ _ _ _ _ (fun _ _ => rfl) (fun _ _ => rfl) (fun _ _ => rfl) hrest) (by show (f 15).toInt + -1 = z0.toInt; omega) (by show (f 20).toInt = (f 20).toInt; omega) (by show (f 37).toInt + 0 = (f 37).toInt; omega) (by show (f 32).toInt + 0 = (f 32).toInt; omega) (by show (f 5).toInt + 0 = (f 5).toInt; omega) : mg_good ((upg (upg g 70 (g 17 z0.toNatClampNeg).toNatClampNeg 46) 72 (g 17 z0.toNatClampNeg).toNatClampNeg z151) 34) ((upg (upg g 70 (g 17 z0.toNatClampNeg).toNatClampNeg 46) 72 (g 17 z0.toNatClampNeg).toNatClampNeg z151) 38) ((upg (upg g 70 (g 17 z0.toNatClampNeg).toNatClampNeg 46) 72 (g 17 z0.toNatClampNeg).toNatClampNeg z151) 23) gs (z0.toInt) ((f 20).toInt) ((f 37).toInt) ((f 32).toInt) ((f 5).toInt))
        · exact ⟨(by show 0 ≤ (f 4).toInt; omega), (by show (f 4).toInt ≤ (f 0).toInt; omega), (by show (f 0).toInt ≤ 512; omega), (by show 0 ≤ (f 24).toInt; omega), (by show (f 24).toInt + (f 20).toInt + mg_p1 gs ≤ 4 * (f 4).toInt; omega), (by show (f 20).toInt ≤ (f 4).toInt; omega), (by show z0.toInt + mg_p2 gs ≤ (f 4).toInt; omega), (by show mg_p3 gs ≤ 20 * (f 4).toInt + 20; omega), (by show 0 ≤ (f 68).toInt; omega), (by show (f 68).toInt + 3 * (f 20).toInt + mg_p4 gs ≤ 60 * (f 4).toInt + 60; omega), (by show 0 ≤ (f 62).toInt; omega), (by show (f 62).toInt + 64 * mj_n (g 16) z0.toNatClampNeg 3 ≤ 64 * (f 4).toInt; omega), (by show 0 ≤ (f 44).toInt; omega), (by show (f 44).toInt ≤ (f 4).toInt; omega), (by show 0 ≤ (f 48).toInt; omega), (by show (f 48).toInt ≤ (f 4).toInt; omega), (by show 1 ≤ (f 53).toInt; omega), (by show (f 53).toInt ≤ (f 4).toInt + 1; omega), (by show 0 ≤ (f 19).toInt; omega), (by show (f 19).toInt ≤ 600; omega), (by show 0 ≤ (f 6).toInt; omega), (by show 0 ≤ (f 8).toInt; omega)⟩
        · show 100 * ((f 0).toInt - (f 4).toInt) + mg_p3 gs < 100 * ((f 0).toInt - (f 4).toInt) + (1 + mg_p3 gs); omega
set_option maxHeartbeats 16000000 in
theorem st_20 {sc : Nat × (Nat → Int32)} {d : Nat} {S0 S : am_S} {f : Nat → Int32} {g : Nat → Nat → Int32} {on : Int32} {tw : Int32} {th : Int32} {gs : List mg_E} {bc : List (List Nat)} (hS : MS S0 S f g) (hR : RJ f g gs bc [] 0 []) (hrest : mg_good (g 34) (g 38) (g 23) gs ((f 15).toInt + 0) ((f 20).toInt) ((f 37).toInt + 0) ((f 32).toInt + 0) ((f 5).toInt + 0)) (p0 : 0 ≤ (f 4).toInt) (p1 : (f 4).toInt ≤ (f 0).toInt) (p2 : (f 0).toInt ≤ 512) (p3 : 0 ≤ (f 24).toInt) (p4 : (f 24).toInt + (f 20).toInt + mg_p1 gs ≤ 4 * (f 4).toInt) (p5 : (f 20).toInt ≤ (f 4).toInt) (p6 : (f 15).toInt + 0 + mg_p2 gs ≤ (f 4).toInt) (p7 : 1 + mg_p3 gs ≤ 20 * (f 4).toInt + 20) (p8 : 0 ≤ (f 68).toInt) (p9 : (f 68).toInt + 3 * (f 20).toInt + 0 + mg_p4 gs ≤ 60 * (f 4).toInt + 60) (p10 : 0 ≤ (f 62).toInt) (p11 : (f 62).toInt + 64 * mj_n (g 16) (f 15).toNatClampNeg 3 ≤ 64 * (f 4).toInt) (p12 : 0 ≤ (f 44).toInt) (p13 : (f 44).toInt ≤ (f 4).toInt) (p14 : 0 ≤ (f 48).toInt) (p15 : (f 48).toInt ≤ (f 4).toInt) (p16 : 1 ≤ (f 53).toInt) (p17 : (f 53).toInt ≤ (f 4).toInt + 1) (p18 : 0 ≤ (f 19).toInt) (p19 : (f 19).toInt ≤ 600) (p20 : 0 ≤ (f 6).toInt) (p21 : 0 ≤ (f 8).toInt) (p22 : 0 ≤ mg_p1 gs) (p23 : 0 ≤ mg_p2 gs) (p24 : 0 ≤ mg_p4 gs) (p25 : 0 ≤ (f 10).toInt) (p26 : (f 10).toInt ≤ mg_p3 gs) (p27 : 0 ≤ mj_n (g 16) (f 15).toNatClampNeg 3) (p28 : 0 ≤ (f 15).toInt) (p29 : 0 ≤ (f 20).toInt) (p30 : 1 ≤ (f 37).toInt) (p31 : 0 ≤ (f 32).toInt) (p32 : (f 32).toInt ≤ (f 5).toInt) (p33 : (f 5).toInt ≤ 48) (p34 : (f 37).toInt ≤ 2 * (f 5).toInt + 1) : am_E (am_PP sc) (d + 8) 180 0 [some (.ref 39), some (.int 20), some (.int on), some (.int tw), some (.int th)] [] S (am_N fun v S1 => ∃ (f' : Nat → Int32) (g' : Nat → Nat → Int32) (gs' : List mg_E) (bc' : List (List Nat)), v = none ∧ MS S0 S1 f' g' ∧ (mg_on f (100 * ((f 0).toInt - (f 4).toInt) + (1 + mg_p3 gs)) f' g' gs' bc' ∨ mg_off f f' g' bc')) := by
  have hbs := mg_basic hrest
  refine am_e1 (v := 20) hi_180_0 rfl ?_
  refine am_e0 hi_180_1 ?_
  refine am_e13t hi_180_3 (by decide) ?_
  refine am_e1 (v := 20) hi_180_14 rfl ?_
  refine am_e19 (t := 349) hi_180_15 (by decide) ?_
  refine am_e2 (v := 39) hi_180_349 rfl ?_
  refine am_e32w (as := [.ref 39]) (la := [some (.ref 39)]) (rest := []) hi_180_350 (am_hd0 (M := 180) (by decide) 350) (Nat.le_of_ble_eq_true rfl) (Nat.le_of_ble_eq_true rfl) (show 1 ≤ am_P0.2.2.1 263 from by decide +kernel) rfl (am_recv_ok hS.fs) rfl rfl ?_
  refine am_e2 (v := 39) hi_263_0 rfl ?_
  refine am_e32n (as := [.ref 39]) (la := [some (.ref 39)]) (rest := []) hi_263_1 (am_hd0 (M := 263) (by decide) 1) (Nat.le_of_ble_eq_true rfl) (Nat.le_of_ble_eq_true rfl) (show 1 ≤ am_P0.2.2.1 183 from by decide +kernel) rfl (am_recv_ok hS.fs) rfl rfl (ct_next (d := (d + 5)) hS   (by show (0 : Int) ≤ (f 4).toInt; omega) (by show (f 0).toInt ≤ (16384 : Int); omega)) ?_
  rintro v0 S1 (⟨r2, hv3, hS4, h5⟩)
  subst hv3
  have h5_ : (f 4).toInt < (f 0).toInt ∨ r2.toInt = (-1 : Int) := h5
  show am_E _ _ _ _ [some (.ref 39)] [.int r2] _ _
  refine am_e0 hi_263_4 ?_
  by_cases c7 : ¬ r2.toInt = (67 : Int)
  · refine am_e13t hi_263_6 (am_cT (m := r2.toInt) (n := (67 : Int)) rfl (by decide) c7) ?_
    refine am_e2 (v := 39) hi_263_19 rfl ?_
    refine am_e32n (as := [.ref 39]) (la := [some (.ref 39)]) (rest := []) hi_263_20 (am_hd0 (M := 263) (by decide) 20) (Nat.le_of_ble_eq_true rfl) (Nat.le_of_ble_eq_true rfl) (show 1 ≤ am_P0.2.2.1 183 from by decide +kernel) rfl (am_recv_ok hS4.fs) rfl rfl (ct_next (d := (d + 5)) hS4   (by show (0 : Int) ≤ (f 4).toInt; omega) (by show (f 0).toInt ≤ (16384 : Int); omega)) ?_
    rintro v8 S9 (⟨r10, hv11, hS12, h13⟩)
    subst hv11
    have h13_ : (f 4).toInt < (f 0).toInt ∨ r10.toInt = (-1 : Int) := h13
    show am_E _ _ _ _ [some (.ref 39)] [.int r10] _ _
    refine am_e32n (as := [.int r10]) (la := [some (.int r10)]) (rest := []) hi_263_23 (am_hd0 (M := 263) (by decide) 23) (Nat.le_of_ble_eq_true rfl) (Nat.le_of_ble_eq_true rfl) (show 1 ≤ am_P0.2.2.1 226 from by decide +kernel) rfl rfl rfl rfl (ct_isFollower (d := (d + 6)) hS12   ) ?_
    rintro v15 S16 (⟨r17, hv18, hS19, h20, h21⟩)
    subst hv18
    have h20_ : r17 = 0 ∨ r17 = 1 := h20
    have h21_ : r17.toInt = (1 : Int) ∨ ¬ r10.toInt = -1 := h21
    show am_E _ _ _ _ [some (.ref 39)] [.int r17] _ _
    by_cases c23 : ¬ r17.toInt = (0 : Int)
    · refine am_e12t hi_263_26 (am_cT (m := r17.toInt) (n := (0 : Int)) rfl (by decide) c23) ?_
      refine am_e35 hi_263_36 ?_
      show am_E _ _ _ _ [some (.ref 39), some (.int 20), some (.int on), some (.int tw), some (.int th)] [] _ _
      refine am_e18 hi_180_353 ?_
      refine am_e35 hi_180_371 ?_
      have q1 : mg_p1 gs = mg_p1 gs := rfl
      have q2 : mg_p2 gs = mg_p2 gs := rfl
      have q3 : mg_p3 gs = mg_p3 gs := rfl
      have q4 : mg_p4 gs = mg_p4 gs := rfl
      refine ⟨_, _, _, bc, rfl, hS19, Or.inl ⟨⟨hR, ?_, ?_⟩, rfl, ?_⟩⟩
      · exact (mg_cast (mg_good_ext _ _ _ _ _ _ (fun _ _ => rfl) (fun _ _ => rfl) (fun _ _ => rfl) hrest) (by show (f 15).toInt + 0 = (f 15).toInt; omega) (by show (f 20).toInt = (f 20).toInt; omega) (by show (f 37).toInt + 0 = (f 37).toInt; omega) (by show (f 32).toInt + 0 = (f 32).toInt; omega) (by show (f 5).toInt + 0 = (f 5).toInt; omega) : mg_good (g 34) (g 38) (g 23) gs ((f 15).toInt) ((f 20).toInt) ((f 37).toInt) ((f 32).toInt) ((f 5).toInt))
      · exact ⟨(by show 0 ≤ (f 4).toInt; omega), (by show (f 4).toInt ≤ (f 0).toInt; omega), (by show (f 0).toInt ≤ 512; omega), (by show 0 ≤ (f 24).toInt; omega), (by show (f 24).toInt + (f 20).toInt + mg_p1 gs ≤ 4 * (f 4).toInt; omega), (by show (f 20).toInt ≤ (f 4).toInt; omega), (by show (f 15).toInt + mg_p2 gs ≤ (f 4).toInt; omega), (by show mg_p3 gs ≤ 20 * (f 4).toInt + 20; omega), (by show 0 ≤ (f 68).toInt; omega), (by show (f 68).toInt + 3 * (f 20).toInt + mg_p4 gs ≤ 60 * (f 4).toInt + 60; omega), (by show 0 ≤ (f 62).toInt; omega), (by show (f 62).toInt + 64 * mj_n (g 16) (f 15).toNatClampNeg 3 ≤ 64 * (f 4).toInt; omega), (by show 0 ≤ (f 44).toInt; omega), (by show (f 44).toInt ≤ (f 4).toInt; omega), (by show 0 ≤ (f 48).toInt; omega), (by show (f 48).toInt ≤ (f 4).toInt; omega), (by show 1 ≤ (f 53).toInt; omega), (by show (f 53).toInt ≤ (f 4).toInt + 1; omega), (by show 0 ≤ (f 19).toInt; omega), (by show (f 19).toInt ≤ 600; omega), (by show 0 ≤ (f 6).toInt; omega), (by show 0 ≤ (f 8).toInt; omega)⟩
      · show 100 * ((f 0).toInt - (f 4).toInt) + mg_p3 gs < 100 * ((f 0).toInt - (f 4).toInt) + (1 + mg_p3 gs); omega
    · refine am_e12f hi_263_26 (am_cF (m := r17.toInt) (n := (0 : Int)) rfl (by decide) c23) ?_
      refine am_e2 (v := 39) hi_263_29 rfl ?_
      refine am_e0 hi_263_30 ?_
      refine am_e32n (as := [.ref 39, .int 7]) (la := [some (.ref 39), some (.int 7)]) (rest := []) hi_263_32 (am_hd0 (M := 263) (by decide) 32) (Nat.le_of_ble_eq_true rfl) (Nat.le_of_ble_eq_true rfl) (show 2 ≤ am_P0.2.2.1 194 from by decide +kernel) rfl (am_recv_ok hS19.fs) rfl rfl (ct_fail (d := (d + 6)) hS19   (by show (0 : Int) ≤ (7 : Int); omega) (by show (0 : Int) ≤ (f 6).toInt; omega)) ?_
      rintro v24 S25 (⟨a26, b27, hv28, hS29, h30⟩)
      subst hv28
      have h30_ : (0 : Int) ≤ a26.toInt := h30
      have hR32 := rj_clear0 hR
      have hR33 : RJ (upd (upd (upd f 6 a26) 7 b27) 10 0) g [] bc [] 0 [] := hR32
      show am_E _ _ _ _ [some (.ref 39)] [.int 0] _ _
      refine am_e6i hi_263_35 ?_
      refine am_e35 hi_263_36 ?_
      show am_E _ _ _ _ [some (.ref 39), some (.int 20), some (.int on), some (.int tw), some (.int th)] [] _ _
      refine am_e18 hi_180_353 ?_
      refine am_e35 hi_180_371 ?_
      have hRc := rj_clear0 hR33
      refine ⟨_, _, [], _, rfl, hS29, Or.inr ⟨hRc, rfl, (by show 0 ≤ (f 4).toInt; omega), (by show (f 4).toInt ≤ (f 0).toInt; omega), (by show 0 ≤ (f 32).toInt; omega), (by show (f 32).toInt ≤ 63; omega), (by show 1 ≤ (f 53).toInt; omega), (by show (f 53).toInt ≤ 600; omega), (by show 0 ≤ (f 68).toInt; omega), (by show (f 68).toInt ≤ 60000; omega), (by show 0 ≤ (f 48).toInt; omega), (by show (f 48).toInt ≤ 8000; omega), (by show 0 ≤ (f 37).toInt; omega), (by show (f 37).toInt ≤ 128; omega), (by show 0 ≤ (f 62).toInt; omega), (by show (f 62).toInt ≤ 65000; omega), (by show 0 ≤ (f 19).toInt; omega), (by show (f 19).toInt ≤ 600; omega), (by show 0 ≤ a26.toInt; omega), (by show 0 ≤ (f 8).toInt; omega)⟩⟩
  · refine am_e13f hi_263_6 (am_cF (m := r2.toInt) (n := (67 : Int)) rfl (by decide) c7) ?_
    refine am_e2 (v := 39) hi_263_9 rfl ?_
    refine am_e7 hi_263_10 ?_
    refine mm_20 (v := .int (f 4)) hS4 hi_263_11 rfl ?_
    refine am_e0 hi_263_14 ?_
    obtain ⟨z34, hz34, tz34⟩ := am_addI (x := f 4) (y := 1) (m := (f 4).toInt) (n := (1 : Int)) rfl (by decide) (by omega) (by omega)
    refine am_e10 (z := z34) hi_263_15 hz34 ?_
    refine mm_21 (v := z34) hS4 hi_263_16 rfl (Nat.le_of_ble_eq_true rfl) ms_4 ?_
    intro S35 hS36
    have hR37 : RJ (upd f 4 z34) g gs bc [] 0 [] := RJ.at hR (by show (f 4).toInt ≤ z34.toInt; omega)
    refine am_e2 (v := 39) hi_263_19 rfl ?_
    refine am_e32n (as := [.ref 39]) (la := [some (.ref 39)]) (rest := []) hi_263_20 (am_hd0 (M := 263) (by decide) 20) (Nat.le_of_ble_eq_true rfl) (Nat.le_of_ble_eq_true rfl) (show 1 ≤ am_P0.2.2.1 183 from by decide +kernel) rfl (am_recv_ok hS36.fs) rfl rfl (ct_next (d := (d + 5)) hS36   (by show (0 : Int) ≤ z34.toInt; omega) (by show (f 0).toInt ≤ (16384 : Int); omega)) ?_
    rintro v38 S39 (⟨r40, hv41, hS42, h43⟩)
    subst hv41
    have h43_ : z34.toInt < (f 0).toInt ∨ r40.toInt = (-1 : Int) := h43
    show am_E _ _ _ _ [some (.ref 39)] [.int r40] _ _
    refine am_e32n (as := [.int r40]) (la := [some (.int r40)]) (rest := []) hi_263_23 (am_hd0 (M := 263) (by decide) 23) (Nat.le_of_ble_eq_true rfl) (Nat.le_of_ble_eq_true rfl) (show 1 ≤ am_P0.2.2.1 226 from by decide +kernel) rfl rfl rfl rfl (ct_isFollower (d := (d + 6)) hS42   ) ?_
    rintro v45 S46 (⟨r47, hv48, hS49, h50, h51⟩)
    subst hv48
    have h50_ : r47 = 0 ∨ r47 = 1 := h50
    have h51_ : r47.toInt = (1 : Int) ∨ ¬ r40.toInt = -1 := h51
    show am_E _ _ _ _ [some (.ref 39)] [.int r47] _ _
    by_cases c53 : ¬ r47.toInt = (0 : Int)
    · refine am_e12t hi_263_26 (am_cT (m := r47.toInt) (n := (0 : Int)) rfl (by decide) c53) ?_
      refine am_e35 hi_263_36 ?_
      show am_E _ _ _ _ [some (.ref 39), some (.int 20), some (.int on), some (.int tw), some (.int th)] [] _ _
      refine am_e18 hi_180_353 ?_
      refine am_e35 hi_180_371 ?_
      have q1 : mg_p1 gs = mg_p1 gs := rfl
      have q2 : mg_p2 gs = mg_p2 gs := rfl
      have q3 : mg_p3 gs = mg_p3 gs := rfl
      have q4 : mg_p4 gs = mg_p4 gs := rfl
      refine ⟨_, _, _, bc, rfl, hS49, Or.inl ⟨⟨hR37, ?_, ?_⟩, rfl, ?_⟩⟩
      · exact (mg_cast (mg_good_ext _ _ _ _ _ _ (fun _ _ => rfl) (fun _ _ => rfl) (fun _ _ => rfl) hrest) (by show (f 15).toInt + 0 = (f 15).toInt; omega) (by show (f 20).toInt = (f 20).toInt; omega) (by show (f 37).toInt + 0 = (f 37).toInt; omega) (by show (f 32).toInt + 0 = (f 32).toInt; omega) (by show (f 5).toInt + 0 = (f 5).toInt; omega) : mg_good (g 34) (g 38) (g 23) gs ((f 15).toInt) ((f 20).toInt) ((f 37).toInt) ((f 32).toInt) ((f 5).toInt))
      · exact ⟨(by show 0 ≤ z34.toInt; omega), (by show z34.toInt ≤ (f 0).toInt; omega), (by show (f 0).toInt ≤ 512; omega), (by show 0 ≤ (f 24).toInt; omega), (by show (f 24).toInt + (f 20).toInt + mg_p1 gs ≤ 4 * z34.toInt; omega), (by show (f 20).toInt ≤ z34.toInt; omega), (by show (f 15).toInt + mg_p2 gs ≤ z34.toInt; omega), (by show mg_p3 gs ≤ 20 * z34.toInt + 20; omega), (by show 0 ≤ (f 68).toInt; omega), (by show (f 68).toInt + 3 * (f 20).toInt + mg_p4 gs ≤ 60 * z34.toInt + 60; omega), (by show 0 ≤ (f 62).toInt; omega), (by show (f 62).toInt + 64 * mj_n (g 16) (f 15).toNatClampNeg 3 ≤ 64 * z34.toInt; omega), (by show 0 ≤ (f 44).toInt; omega), (by show (f 44).toInt ≤ z34.toInt; omega), (by show 0 ≤ (f 48).toInt; omega), (by show (f 48).toInt ≤ z34.toInt; omega), (by show 1 ≤ (f 53).toInt; omega), (by show (f 53).toInt ≤ z34.toInt + 1; omega), (by show 0 ≤ (f 19).toInt; omega), (by show (f 19).toInt ≤ 600; omega), (by show 0 ≤ (f 6).toInt; omega), (by show 0 ≤ (f 8).toInt; omega)⟩
      · show 100 * ((f 0).toInt - z34.toInt) + mg_p3 gs < 100 * ((f 0).toInt - (f 4).toInt) + (1 + mg_p3 gs); omega
    · refine am_e12f hi_263_26 (am_cF (m := r47.toInt) (n := (0 : Int)) rfl (by decide) c53) ?_
      refine am_e2 (v := 39) hi_263_29 rfl ?_
      refine am_e0 hi_263_30 ?_
      refine am_e32n (as := [.ref 39, .int 7]) (la := [some (.ref 39), some (.int 7)]) (rest := []) hi_263_32 (am_hd0 (M := 263) (by decide) 32) (Nat.le_of_ble_eq_true rfl) (Nat.le_of_ble_eq_true rfl) (show 2 ≤ am_P0.2.2.1 194 from by decide +kernel) rfl (am_recv_ok hS49.fs) rfl rfl (ct_fail (d := (d + 6)) hS49   (by show (0 : Int) ≤ (7 : Int); omega) (by show (0 : Int) ≤ (f 6).toInt; omega)) ?_
      rintro v54 S55 (⟨a56, b57, hv58, hS59, h60⟩)
      subst hv58
      have h60_ : (0 : Int) ≤ a56.toInt := h60
      have hR62 := rj_clear0 hR37
      have hR63 : RJ (upd (upd (upd (upd f 4 z34) 6 a56) 7 b57) 10 0) g [] bc [] 0 [] := hR62
      show am_E _ _ _ _ [some (.ref 39)] [.int 0] _ _
      refine am_e6i hi_263_35 ?_
      refine am_e35 hi_263_36 ?_
      show am_E _ _ _ _ [some (.ref 39), some (.int 20), some (.int on), some (.int tw), some (.int th)] [] _ _
      refine am_e18 hi_180_353 ?_
      refine am_e35 hi_180_371 ?_
      have hRc := rj_clear0 hR63
      refine ⟨_, _, [], _, rfl, hS59, Or.inr ⟨hRc, rfl, (by show 0 ≤ z34.toInt; omega), (by show z34.toInt ≤ (f 0).toInt; omega), (by show 0 ≤ (f 32).toInt; omega), (by show (f 32).toInt ≤ 63; omega), (by show 1 ≤ (f 53).toInt; omega), (by show (f 53).toInt ≤ 600; omega), (by show 0 ≤ (f 68).toInt; omega), (by show (f 68).toInt ≤ 60000; omega), (by show 0 ≤ (f 48).toInt; omega), (by show (f 48).toInt ≤ 8000; omega), (by show 0 ≤ (f 37).toInt; omega), (by show (f 37).toInt ≤ 128; omega), (by show 0 ≤ (f 62).toInt; omega), (by show (f 62).toInt ≤ 65000; omega), (by show 0 ≤ (f 19).toInt; omega), (by show (f 19).toInt ≤ 600; omega), (by show 0 ≤ a56.toInt; omega), (by show 0 ≤ (f 8).toInt; omega)⟩⟩
