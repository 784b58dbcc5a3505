/-! STEPS: if (printed by wip/p2/st2.py) -/
set_option maxHeartbeats 16000000 in
theorem st_7 {sc : Nat × (Nat → Int32)} {d : Nat} {S0 S : am_S} {f : Nat → Int32} {g : Nat → Nat → Int32} {on : Int32} {tw : Int32} {th : Int32} {gs : List mg_E} {bc : List (List Nat)} {fl : List Nat} (hS : MS S0 S f g) (hR : RJ f g gs bc fl on.toInt []) (hrest : mg_good (g 34) (g 38) (g 23) gs ((f 15).toInt + -1) ((f 20).toInt) ((f 37).toInt + 0) ((f 32).toInt + 0) ((f 5).toInt + 0)) (p0 : 0 ≤ (f 4).toInt) (p1 : (f 4).toInt ≤ (f 0).toInt) (p2 : (f 0).toInt ≤ 512) (p3 : 0 ≤ (f 24).toInt) (p4 : (f 24).toInt + (f 20).toInt + mg_p1 gs ≤ 4 * (f 4).toInt) (p5 : (f 20).toInt ≤ (f 4).toInt) (p6 : (f 15).toInt + 0 + mg_p2 gs ≤ (f 4).toInt) (p7 : 1 + mg_p3 gs ≤ 20 * (f 4).toInt + 20) (p8 : 0 ≤ (f 68).toInt) (p9 : (f 68).toInt + 3 * (f 20).toInt + 0 + mg_p4 gs ≤ 60 * (f 4).toInt + 60) (p10 : 0 ≤ (f 62).toInt) (p11 : (f 62).toInt + 64 * mj_n (g 16) (f 15).toNatClampNeg 3 ≤ 64 * (f 4).toInt) (p12 : 0 ≤ (f 44).toInt) (p13 : (f 44).toInt ≤ (f 4).toInt) (p14 : 0 ≤ (f 48).toInt) (p15 : (f 48).toInt ≤ (f 4).toInt) (p16 : 1 ≤ (f 53).toInt) (p17 : (f 53).toInt ≤ (f 4).toInt + 1) (p18 : 0 ≤ (f 19).toInt) (p19 : (f 19).toInt ≤ 600) (p20 : 0 ≤ (f 6).toInt) (p21 : 0 ≤ (f 8).toInt) (p22 : 0 ≤ mg_p1 gs) (p23 : 0 ≤ mg_p2 gs) (p24 : 0 ≤ mg_p4 gs) (p25 : 0 ≤ (f 10).toInt) (p26 : (f 10).toInt ≤ mg_p3 gs) (p27 : 0 ≤ mj_n (g 16) (f 15).toNatClampNeg 3) (p28 : 1 ≤ (f 15).toInt) (p29 : 0 ≤ (f 20).toInt) (p30 : 1 ≤ (f 37).toInt) (p31 : 0 ≤ (f 32).toInt) (p32 : (f 32).toInt ≤ (f 5).toInt) (p33 : (f 5).toInt ≤ 48) (p34 : (f 37).toInt ≤ 2 * (f 5).toInt + 1) : am_E (am_PP sc) (d + 8) 180 0 [some (.ref 39), some (.int 7), some (.int on), some (.int tw), some (.int th)] [] S (am_N fun v S1 => ∃ (f' : Nat → Int32) (g' : Nat → Nat → Int32) (gs' : List mg_E) (bc' : List (List Nat)), v = none ∧ MS S0 S1 f' g' ∧ (mg_on f (100 * ((f 0).toInt - (f 4).toInt) + (1 + mg_p3 gs)) f' g' gs' bc' ∨ mg_off f f' g' bc')) := by
  have hbs := mg_basic hrest
  refine am_e1 (v := 7) hi_180_0 rfl ?_
  refine am_e0 hi_180_1 ?_
  refine am_e13t hi_180_3 (by decide) ?_
  refine am_e1 (v := 7) hi_180_14 rfl ?_
  refine am_e19 (t := 187) hi_180_15 (by decide) ?_
  refine am_e2 (v := 39) hi_180_187 rfl ?_
  refine am_e1 (v := on) hi_180_188 rfl ?_
  refine am_e32w (as := [.ref 39, .int on]) (la := [some (.ref 39), some (.int on), none]) (rest := []) hi_180_189 (am_hd0 (M := 180) (by decide) 189) (Nat.le_of_ble_eq_true rfl) (Nat.le_of_ble_eq_true rfl) (show 2 ≤ am_P0.2.2.1 248 from by decide +kernel) rfl (am_recv_ok hS.fs) rfl rfl ?_
  refine am_e2 (v := 39) hi_248_0 rfl ?_
  refine am_e32w (as := [.ref 39]) (la := [some (.ref 39)]) (rest := []) hi_248_1 (am_hd0 (M := 248) (by decide) 1) (Nat.le_of_ble_eq_true rfl) (Nat.le_of_ble_eq_true rfl) (show 1 ≤ am_P0.2.2.1 209 from by decide +kernel) rfl (am_recv_ok hS.fs) rfl rfl ?_
  refine am_e2 (v := 39) hi_209_0 rfl ?_
  refine am_e32n (as := [.ref 39]) (la := [some (.ref 39), none, none, none]) (rest := []) hi_209_1 (am_hd0 (M := 209) (by decide) 1) (Nat.le_of_ble_eq_true rfl) (Nat.le_of_ble_eq_true rfl) (show 1 ≤ am_P0.2.2.1 204 from by decide +kernel) rfl (am_recv_ok hS.fs) rfl rfl (ct_load (d := (d + 3)) hS hR  (by show (0 : Int) ≤ (f 32).toInt; omega) (by show (f 32).toInt ≤ (63 : Int); omega) (by show (f 53).toInt ≤ (4096 : Int); omega) (by show (0 : Int) ≤ (f 68).toInt; omega) (by show (f 68).toInt ≤ (65534 : Int); omega) (by show (1 : Int) ≤ (f 15).toInt; omega) (by show (f 15).toInt ≤ (32767 : Int); omega) (by show (0 : Int) ≤ (f 24).toInt; omega) (by show (f 24).toInt ≤ (16384 : Int); omega) (by show (0 : Int) ≤ (f 62).toInt; omega) (by show (f 62).toInt ≤ (65000 : Int); omega)) ?_
  rintro v0 S1 (⟨o2, s3, m4, g'5, hv6, hS7, hR14, h8, h9, h10, h11, h12, h13⟩)
  subst hv6
  have h8_ : (f 62).toInt ≤ o2.toInt := h8
  have h9_ : o2.toInt ≤ (f 62).toInt + 64 := h9
  have h10_ : (f 68).toInt ≤ s3.toInt := h10
  have h11_ : s3.toInt ≤ (f 68).toInt + 1 := h11
  have h12_ : o2.toInt + 64 * mj_n (g'5 16) (f 15).toNatClampNeg 3 ≤ (f 62).toInt + 64 * mj_n (g 16) (f 15).toNatClampNeg 3 := h12
  have h13_ : ∀ j, j ∉ [16, 60, 63, 64, 65, 66, 67, 69, 70, 71, 72, 73] → g'5 j = g j := h13
  have hR14_ : RJ (upd (upd (upd f 62 o2) 68 s3) 75 m4) g'5 gs bc fl on.toInt [] := hR14
  show am_E _ _ _ _ [some (.ref 39)] [] _ _
  refine am_e2 (v := 39) hi_209_4 rfl ?_
  refine am_e7 hi_209_5 ?_
  refine mm_20 (v := .int (f 15)) hS7 hi_209_6 rfl ?_
  refine am_e0 hi_209_9 ?_
  obtain ⟨z15, hz15, tz15⟩ := am_subI (x := f 15) (y := 1) (m := (f 15).toInt) (n := (1 : Int)) rfl (by decide) (by omega) (by omega)
  refine am_e10 (z := z15) hi_209_10 hz15 ?_
  refine mm_21 (v := z15) hS7 hi_209_11 rfl (Nat.le_of_ble_eq_true rfl) ms_15 ?_
  intro S16 hS17
  replace hS17 : MS S0 S16 (upd (upd (upd (upd f 15 z15) 62 o2) 68 s3) 75 m4) g'5 := hS17
  have hp18 : mj_n (g'5 16) (f 15).toNatClampNeg 3 = mj_n (g'5 16) z15.toNatClampNeg 3 + if (g'5 16 z15.toNatClampNeg).toInt = 3 then 1 else 0 := mj_pop (by rw [cl_toNat, cl_toNat]; omega)
  have hp181 : mj_n (g'5 16) z15.toNatClampNeg 3 ≤ mj_n (g'5 16) (f 15).toNatClampNeg 3 := by rw [hp18]; split <;> omega
  have hp182 : (g'5 16 z15.toNatClampNeg).toInt = 3 → mj_n (g'5 16) z15.toNatClampNeg 3 + 1 ≤ mj_n (g'5 16) (f 15).toNatClampNeg 3 := fun q => by rw [hp18, if_pos q]; exact Int.le_refl _
  refine am_e35 hi_209_14 ?_
  show am_E _ _ _ _ [some (.ref 39), some (.int on), none] [] _ _
  refine am_e2 (v := 39) hi_248_4 rfl ?_
  refine am_e0 hi_248_5 ?_
  refine am_e32n (as := [.ref 39, .int 28]) (la := [some (.ref 39), some (.int 28)]) (rest := []) hi_248_7 (am_hd0 (M := 248) (by decide) 7) (Nat.le_of_ble_eq_true rfl) (Nat.le_of_ble_eq_true rfl) (show 2 ≤ am_P0.2.2.1 193 from by decide +kernel) rfl (am_recv_ok hS17.fs) rfl rfl (ct_enter (d := (d + 4)) hS17   (by show (0 : Int) ≤ (f 4).toInt; omega) (by show (f 0).toInt ≤ (16384 : Int); omega) (by show (0 : Int) ≤ (28 : Int); omega) (by show (0 : Int) ≤ (f 5).toInt; omega) (by show (f 5).toInt ≤ (48 : Int); omega) (by show (0 : Int) ≤ (f 6).toInt; omega)) ?_
  rintro v19 S20 (⟨z21, y22, hv23, hS24, h25, h26, h27, h28⟩ | ⟨a30, b31, hv32, hS33, h34⟩)
  · subst hv23
    have h25_ : z21.toInt = (f 4).toInt + 1 := h25
    have h26_ : (f 4).toInt < (f 0).toInt := h26
    have h27_ : y22.toInt = (f 5).toInt + 1 := h27
    have h28_ : y22.toInt ≤ (48 : Int) := h28
    replace hS24 : MS S0 S20 (upd (upd (upd (upd (upd (upd f 4 z21) 5 y22) 15 z15) 62 o2) 68 s3) 75 m4) g'5 := hS24
    have hR36 : RJ (upd (upd (upd (upd (upd (upd f 4 z21) 5 y22) 15 z15) 62 o2) 68 s3) 75 m4) g'5 gs bc fl on.toInt [] := RJ.at hR14_ (by show (f 4).toInt ≤ z21.toInt; omega)
    show am_E _ _ _ _ [some (.ref 39), some (.int on), none] [.int 1] _ _
    refine am_e12t hi_248_10 (by decide) ?_
    refine am_e2 (v := 39) hi_248_14 rfl ?_
    refine am_e0 hi_248_15 ?_
    refine am_e0 hi_248_17 ?_
    refine am_e0 hi_248_18 ?_
    refine am_e0 hi_248_19 ?_
    refine am_e32n (as := [.ref 39, .int 35, .int 0, .int 0, .int 0]) (la := [some (.ref 39), some (.int 35), some (.int 0), some (.int 0), some (.int 0)]) (rest := []) hi_248_20 (am_hd0 (M := 248) (by decide) 20) (Nat.le_of_ble_eq_true rfl) (Nat.le_of_ble_eq_true rfl) (show 5 ≤ am_P0.2.2.1 189 from by decide +kernel) rfl (am_recv_ok hS24.fs) rfl rfl (ct_put (d := (d + 6)) hS24 hR36  (by show (0 : Int) ≤ (f 32).toInt; omega) (by show (f 32).toInt ≤ (63 : Int); omega) (by show (f 53).toInt ≤ (4096 : Int); omega) (by show (0 : Int) ≤ s3.toInt; omega) (by show s3.toInt ≤ (65534 : Int); omega)) ?_
    rintro v37 S38 (⟨z39, r40, g'41, hv42, hS43, hR47, h44, h45, h46⟩)
    subst hv42
    have h44_ : z39.toInt = s3.toInt + 1 := h44
    have h45_ : r40.toInt = s3.toInt := h45
    have h46_ : ∀ j, j ∉ [60, 69, 70, 71, 72, 73] → g'41 j = g'5 j := h46
    replace hS43 : MS S0 S38 (upd (upd (upd (upd (upd (upd f 4 z21) 5 y22) 15 z15) 62 o2) 68 z39) 75 m4) g'41 := hS43
    have hR47_ : RJ (upd (upd (upd (upd (upd (upd f 4 z21) 5 y22) 15 z15) 62 o2) 68 z39) 75 m4) g'41 gs bc fl on.toInt (s3.toNatClampNeg :: []) := hR47
    show am_E _ _ _ _ [some (.ref 39), some (.int on), none] [.int r40] _ _
    refine am_e3 (ls' := [some (.ref 39), some (.int on), some (.int r40)]) hi_248_23 (Nat.le_of_ble_eq_true rfl) rfl ?_
    refine am_e2 (v := 39) hi_248_24 rfl ?_
    refine am_e0 hi_248_25 ?_
    refine am_e32n (as := [.ref 39, .int 0]) (la := [some (.ref 39), some (.int 0)]) (rest := []) hi_248_26 (am_hd0 (M := 248) (by decide) 26) (Nat.le_of_ble_eq_true rfl) (Nat.le_of_ble_eq_true rfl) (show 2 ≤ am_P0.2.2.1 177 from by decide +kernel) rfl (am_recv_ok hS43.fs) rfl rfl (ct_beginBlock2 (d := (d + 6)) hS43 hR47_ (by decide)  (by show (0 : Int) ≤ (f 37).toInt; omega) (by show (f 37).toInt ≤ (127 : Int); omega) (by show (0 : Int) ≤ (f 24).toInt; omega) (by show (0 : Int) ≤ (f 44).toInt; omega) (by show (f 44).toInt ≤ z21.toInt; omega) (by show (0 : Int) ≤ (f 48).toInt; omega)) ?_
    rintro v48 S49 (⟨z50, g'51, hv52, hS53, hR57, h54, h55, h56⟩)
    subst hv52
    have h54_ : z50.toInt = (f 37).toInt + 1 := h54
    have h55_ : ∀ j, j ∉ [38, 39, 40, 41, 42, 43] → g'51 j = g'41 j := h55
    have h56_ : g'51 38 = upd (g'41 38) (f 37).toNatClampNeg (f 24) := h56
    replace hS53 : MS S0 S49 (upd (upd (upd (upd (upd (upd (upd f 4 z21) 5 y22) 15 z15) 37 z50) 62 o2) 68 z39) 75 m4) g'51 := hS53
    have hR57_ : RJ (upd (upd (upd (upd (upd (upd (upd f 4 z21) 5 y22) 15 z15) 37 z50) 62 o2) 68 z39) 75 m4) g'51 gs ([] :: bc) fl on.toInt (s3.toNatClampNeg :: []) := hR57
    show am_E _ _ _ _ [some (.ref 39), some (.int on), some (.int r40)] [] _ _
    refine am_e2 (v := 39) hi_248_29 rfl ?_
    refine am_e0 hi_248_30 ?_
    refine am_e1 (v := r40) hi_248_32 rfl ?_
    refine am_e1 (v := on) hi_248_33 rfl ?_
    refine am_e0 hi_248_34 ?_
    refine am_e32n (as := [.ref 39, .int 8, .int r40, .int on, .int 0]) (la := [some (.ref 39), some (.int 8), some (.int r40), some (.int on), some (.int 0)]) (rest := []) hi_248_35 (am_hd0 (M := 248) (by decide) 35) (Nat.le_of_ble_eq_true rfl) (Nat.le_of_ble_eq_true rfl) (show 5 ≤ am_P0.2.2.1 179 from by decide +kernel) rfl (am_recv_ok hS53.fs) rfl rfl (ct_pilec (d := (d + 6)) hS53 hR57_ (mj_e_8 hR57_ (by decide) (by show on.toInt = on.toInt; omega) (by show 0 ≤ r40.toInt; omega) (by rw [show r40.toInt.toNat = s3.toNatClampNeg from (by rw [cl_toNat]; omega)]; exact List.mem_cons_self)) (by show (0 : Int) ≤ (f 10).toInt; omega) (by show (f 10).toInt ≤ (65535 : Int); omega)) ?_
    rintro v58 S59 (⟨z60, g'61, hv62, hS63, hR66, h64, h65⟩)
    subst hv62
    have h64_ : z60.toInt = (f 10).toInt + 1 := h64
    have h65_ : ∀ j, j ∉ [11, 12, 13, 14] → g'61 j = g'51 j := h65
    replace hS63 : MS S0 S59 (upd (upd (upd (upd (upd (upd (upd (upd f 4 z21) 5 y22) 10 z60) 15 z15) 37 z50) 62 o2) 68 z39) 75 m4) g'61 := hS63
    have hR66_ : RJ (upd (upd (upd (upd (upd (upd (upd (upd f 4 z21) 5 y22) 10 z60) 15 z15) 37 z50) 62 o2) 68 z39) 75 m4) g'61 (((8 : Int), r40.toInt, on.toInt, (0 : Int), fl) :: gs) ([] :: bc) [] 0 (s3.toNatClampNeg :: []) := hR66
    show am_E _ _ _ _ [some (.ref 39), some (.int on), some (.int r40)] [] _ _
    refine am_e2 (v := 39) hi_248_38 rfl ?_
    refine am_e32w (as := [.ref 39]) (la := [some (.ref 39)]) (rest := []) hi_248_39 (am_hd0 (M := 248) (by decide) 39) (Nat.le_of_ble_eq_true rfl) (Nat.le_of_ble_eq_true rfl) (show 1 ≤ am_P0.2.2.1 178 from by decide +kernel) rfl (am_recv_ok hS63.fs) rfl rfl ?_
    refine am_e2 (v := 39) hi_178_0 rfl ?_
    refine am_e0 hi_178_1 ?_
    refine am_e0 hi_178_2 ?_
    refine am_e0 hi_178_3 ?_
    refine am_e0 hi_178_4 ?_
    refine am_e32n (as := [.ref 39, .int 1, .int 0, .int 0, .int 0]) (la := [some (.ref 39), some (.int 1), some (.int 0), some (.int 0), some (.int 0)]) (rest := []) hi_178_5 (am_hd0 (M := 178) (by decide) 5) (Nat.le_of_ble_eq_true rfl) (Nat.le_of_ble_eq_true rfl) (show 5 ≤ am_P0.2.2.1 179 from by decide +kernel) rfl (am_recv_ok hS63.fs) rfl rfl (ct_pile (d := (d + 5)) hS63 hR66_ (mj_e_plain (by decide)) (by show (0 : Int) ≤ z60.toInt; omega) (by show z60.toInt ≤ (65535 : Int); omega)) ?_
    rintro v67 S68 (⟨z69, g'70, hv71, hS72, hR75, h73, h74⟩)
    subst hv71
    have h73_ : z69.toInt = z60.toInt + 1 := h73
    have h74_ : ∀ j, j ∉ [11, 12, 13, 14] → g'70 j = g'61 j := h74
    replace hS72 : MS S0 S68 (upd (upd (upd (upd (upd (upd (upd (upd f 4 z21) 5 y22) 10 z69) 15 z15) 37 z50) 62 o2) 68 z39) 75 m4) g'70 := hS72
    have hR75_ : RJ (upd (upd (upd (upd (upd (upd (upd (upd f 4 z21) 5 y22) 10 z69) 15 z15) 37 z50) 62 o2) 68 z39) 75 m4) g'70 (((1 : Int), (0 : Int), (0 : Int), (0 : Int), []) :: (((8 : Int), r40.toInt, on.toInt, (0 : Int), fl) :: gs)) ([] :: bc) [] 0 (s3.toNatClampNeg :: []) := hR75
    show am_E _ _ _ _ [some (.ref 39)] [] _ _
    refine am_e35 hi_178_8 ?_
    show am_E _ _ _ _ [some (.ref 39), some (.int on), some (.int r40)] [] _ _
    refine am_e35 hi_248_42 ?_
    show am_E _ _ _ _ [some (.ref 39), some (.int 7), some (.int on), some (.int tw), some (.int th)] [] _ _
    refine am_e18 hi_180_192 ?_
    refine am_e35 hi_180_371 ?_
    have q1 : mg_p1 (((1 : Int), (0 : Int), (0 : Int), (0 : Int), []) :: (((8 : Int), r40.toInt, on.toInt, (0 : Int), fl) :: gs)) = 0 + (0 + (mg_p1 gs)) := rfl
    have q2 : mg_p2 (((1 : Int), (0 : Int), (0 : Int), (0 : Int), []) :: (((8 : Int), r40.toInt, on.toInt, (0 : Int), fl) :: gs)) = 0 + (0 + (mg_p2 gs)) := rfl
    have q3 : mg_p3 (((1 : Int), (0 : Int), (0 : Int), (0 : Int), []) :: (((8 : Int), r40.toInt, on.toInt, (0 : Int), fl) :: gs)) = 1 + (1 + (mg_p3 gs)) := rfl
    have q4 : mg_p4 (((1 : Int), (0 : Int), (0 : Int), (0 : Int), []) :: (((8 : Int), r40.toInt, on.toInt, (0 : Int), fl) :: gs)) = 0 + (0 + (mg_p4 gs)) := rfl
    refine ⟨_, _, _, ([] :: bc), rfl, hS72, Or.inl ⟨⟨(RJ.fewer (pj' := []) hR75_ (fun _ h => nomatch h)), ?_, ?_⟩, rfl, ?_⟩⟩
    · exact (⟨⟨(show mg_k 1 from by decide), (show (0 : Int) ≤ z15.toInt from by omega), (show 0 ≤ (f 20).toInt from by omega), (show 1 ≤ z50.toInt from by omega), (show 0 ≤ (f 32).toInt from by omega), (show (f 32).toInt ≤ y22.toInt from by omega), (show y22.toInt ≤ 48 from by omega), (show z50.toInt ≤ 2 * (y22.toInt) + 1 from by omega), trivial⟩, ⟨⟨(show mg_k 8 from by decide), (show (0 : Int) ≤ z15.toInt + 0 from by omega), (show 0 ≤ (f 20).toInt from by omega), (show 1 ≤ z50.toInt + 0 from by omega), (show 0 ≤ (f 32).toInt + 0 from by omega), (show (f 32).toInt + 0 ≤ y22.toInt + 0 from by omega), (show y22.toInt + 0 ≤ 48 from by omega), (show z50.toInt + 0 ≤ 2 * (y22.toInt + 0) + 0 from by omega), trivial⟩, mg_cast (mg_good_ext _ _ _ _ _ _ (fun i _ => by show g'70 34 i = g 34 i; rw [show g'70 34 = g'61 34 from h74_ 34 (by decide), show g'61 34 = g'51 34 from h65_ 34 (by decide), show g'51 34 = g'41 34 from h55_ 34 (by decide), show g'41 34 = g'5 34 from h46_ 34 (by decide), show g'5 34 = g 34 from h13_ 34 (by decide)]) (fun i hi => by show g'70 38 i = g 38 i; rw [show g'70 38 = g'61 38 from h74_ 38 (by decide), show g'61 38 = g'51 38 from h65_ 38 (by decide), h56_, show g'41 38 = g'5 38 from h46_ 38 (by decide), show g'5 38 = g 38 from h13_ 38 (by decide)]; exact upd_ne (by rw [cl_toNat]; omega)) (fun i _ => by show g'70 23 i = g 23 i; rw [show g'70 23 = g'61 23 from h74_ 23 (by decide), show g'61 23 = g'51 23 from h65_ 23 (by decide), show g'51 23 = g'41 23 from h55_ 23 (by decide), show g'41 23 = g'5 23 from h46_ 23 (by decide), show g'5 23 = g 23 from h13_ 23 (by decide)]) hrest) (by show (f 15).toInt + -1 = z15.toInt + 0 + 0; omega) (by show (f 20).toInt = (f 20).toInt; omega) (by show (f 37).toInt + 0 = z50.toInt + 0 + -1; omega) (by show (f 32).toInt + 0 = (f 32).toInt + 0 + 0; omega) (by show (f 5).toInt + 0 = y22.toInt + 0 + -1; omega)⟩⟩ : mg_good (g'70 34) (g'70 38) (g'70 23) (((1 : Int), (0 : Int), (0 : Int), (0 : Int), []) :: (((8 : Int), r40.toInt, on.toInt, (0 : Int), fl) :: gs)) (z15.toInt) ((f 20).toInt) (z50.toInt) ((f 32).toInt) (y22.toInt))
    · exact ⟨(by show 0 ≤ z21.toInt; omega), (by show z21.toInt ≤ (f 0).toInt; omega), (by show (f 0).toInt ≤ 512; omega), (by show 0 ≤ (f 24).toInt; omega), (by show (f 24).toInt + (f 20).toInt + mg_p1 (((1 : Int), (0 : Int), (0 : Int), (0 : Int), []) :: (((8 : Int), r40.toInt, on.toInt, (0 : Int), fl) :: gs)) ≤ 4 * z21.toInt; omega), (by show (f 20).toInt ≤ z21.toInt; omega), (by show z15.toInt + mg_p2 (((1 : Int), (0 : Int), (0 : Int), (0 : Int), []) :: (((8 : Int), r40.toInt, on.toInt, (0 : Int), fl) :: gs)) ≤ z21.toInt; omega), (by show mg_p3 (((1 : Int), (0 : Int), (0 : Int), (0 : Int), []) :: (((8 : Int), r40.toInt, on.toInt, (0 : Int), fl) :: gs)) ≤ 20 * z21.toInt + 20; omega), (by show 0 ≤ z39.toInt; omega), (by show z39.toInt + 3 * (f 20).toInt + mg_p4 (((1 : Int), (0 : Int), (0 : Int), (0 : Int), []) :: (((8 : Int), r40.toInt, on.toInt, (0 : Int), fl) :: gs)) ≤ 60 * z21.toInt + 60; omega), (by show 0 ≤ o2.toInt; omega), (by show o2.toInt + 64 * mj_n (g'70 16) z15.toNatClampNeg 3 ≤ 64 * z21.toInt; rw [show g'70 16 = g'61 16 from h74_ 16 (by decide), show g'61 16 = g'51 16 from h65_ 16 (by decide), show g'51 16 = g'41 16 from h55_ 16 (by decide), show g'41 16 = g'5 16 from h46_ 16 (by decide)]; omega), (by show 0 ≤ (f 44).toInt; omega), (by show (f 44).toInt ≤ z21.toInt; omega), (by show 0 ≤ (f 48).toInt; omega), (by show (f 48).toInt ≤ z21.toInt; omega), (by show 1 ≤ (f 53).toInt; omega), (by show (f 53).toInt ≤ z21.toInt + 1; omega), (by show 0 ≤ (f 19).toInt; omega), (by show (f 19).toInt ≤ 600; omega), (by show 0 ≤ (f 6).toInt; omega), (by show 0 ≤ (f 8).toInt; omega)⟩
    · show 100 * ((f 0).toInt - z21.toInt) + mg_p3 (((1 : Int), (0 : Int), (0 : Int), (0 : Int), []) :: (((8 : Int), r40.toInt, on.toInt, (0 : Int), fl) :: gs)) < 100 * ((f 0).toInt - (f 4).toInt) + (1 + mg_p3 gs); omega
  · subst hv32
    have h34_ : (0 : Int) ≤ a30.toInt := h34
    replace hS33 : MS S0 S20 (upd (upd (upd (upd (upd (upd (upd f 6 a30) 7 b31) 10 0) 15 z15) 62 o2) 68 s3) 75 m4) g'5 := hS33
    have hR76 := rj_clear0 hR14_
    have hR77 : RJ (upd (upd (upd (upd (upd (upd (upd f 6 a30) 7 b31) 10 0) 15 z15) 62 o2) 68 s3) 75 m4) g'5 [] bc [] 0 [] := hR76
    show am_E _ _ _ _ [some (.ref 39), some (.int on), none] [.int 0] _ _
    refine am_e12f hi_248_10 (by decide) ?_
    refine am_e35 hi_248_13 ?_
    show am_E _ _ _ _ [some (.ref 39), some (.int 7), some (.int on), some (.int tw), some (.int th)] [] _ _
    refine am_e18 hi_180_192 ?_
    refine am_e35 hi_180_371 ?_
    have hRc := rj_clear0 hR77
    refine ⟨_, _, [], _, rfl, hS33, Or.inr ⟨hRc, rfl, (by show 0 ≤ (f 4).toInt; omega), (by show (f 4).toInt ≤ (f 0).toInt; omega), (by show 0 ≤ (f 32).toInt; omega), (by show (f 32).toInt ≤ 63; omega), (by show 1 ≤ (f 53).toInt; omega), (by show (f 53).toInt ≤ 600; omega), (by show 0 ≤ s3.toInt; omega), (by show s3.toInt ≤ 60000; omega), (by show 0 ≤ (f 48).toInt; omega), (by show (f 48).toInt ≤ 8000; omega), (by show 0 ≤ (f 37).toInt; omega), (by show (f 37).toInt ≤ 128; omega), (by show 0 ≤ o2.toInt; omega), (by show o2.toInt ≤ 65000; omega), (by show 0 ≤ (f 19).toInt; omega), (by show (f 19).toInt ≤ 600; omega), (by show 0 ≤ a30.toInt; omega), (by show 0 ≤ (f 8).toInt; omega)⟩⟩
