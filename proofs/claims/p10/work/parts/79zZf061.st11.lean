/-! STEPS: counting loops closed (printed by wip/p2/st2.py) -/
set_option maxHeartbeats 16000000 in
theorem st_13 {sc : Nat × (Nat → Int32)} {d : Nat} {S0 S : am_S} {f : Nat → Int32} {g : Nat → Nat → Int32} {on : Int32} {tw : Int32} {th : Int32} {gs : List mg_E} {bc : List (List Nat)} (hS : MS S0 S f g) (hR : RJ f g gs bc [] 0 []) (hrest : mg_good (g 34) (g 38) (g 23) gs ((f 15).toInt + 0) ((f 20).toInt) ((f 37).toInt + -1) ((f 32).toInt + 0) ((f 5).toInt + -1)) (hu0 : 0 ≤ (g 34 (f 32).toInt.toNat).toInt + th.toInt) (hu1 : (g 34 (f 32).toInt.toNat).toInt + th.toInt ≤ (g 38 ((f 37).toInt - 1).toNat).toInt) (hu2 : ∀ b : Nat, (b : Int) < (f 37).toInt - 1 → (g 38 b).toInt ≤ (g 34 (f 32).toInt.toNat).toInt + th.toInt) (p0 : 0 ≤ (f 4).toInt) (p1 : (f 4).toInt ≤ (f 0).toInt) (p2 : (f 0).toInt ≤ 512) (p3 : 0 ≤ (f 24).toInt) (p4 : (f 24).toInt + (f 20).toInt + mg_p1 gs ≤ 4 * (f 4).toInt) (p5 : (f 20).toInt ≤ (f 4).toInt) (p6 : (f 15).toInt + 0 + mg_p2 gs ≤ (f 4).toInt) (p7 : 1 + mg_p3 gs ≤ 20 * (f 4).toInt + 20) (p8 : 0 ≤ (f 68).toInt) (p9 : (f 68).toInt + 3 * (f 20).toInt + 0 + mg_p4 gs ≤ 60 * (f 4).toInt + 60) (p10 : 0 ≤ (f 62).toInt) (p11 : (f 62).toInt + 64 * mj_n (g 16) (f 15).toNatClampNeg 3 ≤ 64 * (f 4).toInt) (p12 : 0 ≤ (f 44).toInt) (p13 : (f 44).toInt ≤ (f 4).toInt) (p14 : 0 ≤ (f 48).toInt) (p15 : (f 48).toInt ≤ (f 4).toInt) (p16 : 1 ≤ (f 53).toInt) (p17 : (f 53).toInt ≤ (f 4).toInt + 1) (p18 : 0 ≤ (f 19).toInt) (p19 : (f 19).toInt ≤ 600) (p20 : 0 ≤ (f 6).toInt) (p21 : 0 ≤ (f 8).toInt) (p22 : 0 ≤ mg_p1 gs) (p23 : 0 ≤ mg_p2 gs) (p24 : 0 ≤ mg_p4 gs) (p25 : 0 ≤ (f 10).toInt) (p26 : (f 10).toInt ≤ mg_p3 gs) (p27 : 0 ≤ mj_n (g 16) (f 15).toNatClampNeg 3) (p28 : 0 ≤ (f 15).toInt) (p29 : 0 ≤ (f 20).toInt) (p30 : 1 ≤ (f 37).toInt) (p31 : 0 ≤ (f 32).toInt) (p32 : (f 32).toInt ≤ (f 5).toInt) (p33 : (f 5).toInt ≤ 48) (p34 : (f 37).toInt ≤ 2 * (f 5).toInt + 0) (p35 : 0 ≤ on.toInt) (p36 : on.toInt < (f 68).toInt) : am_E (am_PP sc) (d + 8) 180 0 [some (.ref 39), some (.int 13), some (.int on), some (.int tw), some (.int th)] [] S (am_N fun v S1 => ∃ (f' : Nat → Int32) (g' : Nat → Nat → Int32) (gs' : List mg_E) (bc' : List (List Nat)), v = none ∧ MS S0 S1 f' g' ∧ (mg_on f (100 * ((f 0).toInt - (f 4).toInt) + (1 + mg_p3 gs)) f' g' gs' bc' ∨ mg_off f f' g' bc')) := by
  have hbs := mg_basic hrest
  obtain ⟨c0, bc1, rfl⟩ := RJ.bcons hR (by omega)
  refine am_e1 (v := 13) hi_180_0 rfl ?_
  refine am_e0 hi_180_1 ?_
  refine am_e13t hi_180_3 (by decide) ?_
  refine am_e1 (v := 13) hi_180_14 rfl ?_
  refine am_e19 (t := 251) hi_180_15 (by decide) ?_
  refine am_e2 (v := 39) hi_180_251 rfl ?_
  refine am_e1 (v := on) hi_180_252 rfl ?_
  refine am_e1 (v := tw) hi_180_253 rfl ?_
  refine am_e1 (v := th) hi_180_254 rfl ?_
  refine am_e32w (as := [.ref 39, .int on, .int tw, .int th]) (la := [some (.ref 39), some (.int on), some (.int tw), some (.int th)]) (rest := []) hi_180_256 (am_hd0 (M := 180) (by decide) 256) (Nat.le_of_ble_eq_true rfl) (Nat.le_of_ble_eq_true rfl) (show 4 ≤ am_P0.2.2.1 255 from by decide +kernel) rfl (am_recv_ok hS.fs) rfl rfl ?_
  refine am_e2 (v := 39) hi_255_0 rfl ?_
  refine am_e0 hi_255_1 ?_
  refine am_e1 (v := th) hi_255_3 rfl ?_
  refine am_e0 hi_255_4 ?_
  obtain ⟨z0, hz0⟩ : ∃ q__, am_bin 0 th 3 = q__ := ⟨_, rfl⟩
  refine am_e10 (z := z0) hi_255_5 hz0 ?_
  refine am_e0 hi_255_6 ?_
  refine am_e0 hi_255_7 ?_
  refine am_e32n (as := [.ref 39, .int 33, .int z0, .int 0, .int 0]) (la := [some (.ref 39), some (.int 33), some (.int z0), some (.int 0), some (.int 0)]) (rest := []) hi_255_8 (am_hd0 (M := 255) (by decide) 8) (Nat.le_of_ble_eq_true rfl) (Nat.le_of_ble_eq_true rfl) (show 5 ≤ am_P0.2.2.1 189 from by decide +kernel) rfl (am_recv_ok hS.fs) rfl rfl (ct_put (d := (d + 6)) hS hR  (by show (0 : Int) ≤ (f 32).toInt; omega) (by show (f 32).toInt ≤ (63 : Int); omega) (by show (f 53).toInt ≤ (4096 : Int); omega) (by show (0 : Int) ≤ (f 68).toInt; omega) (by show (f 68).toInt ≤ (65534 : Int); omega)) ?_
  rintro v1 S2 (⟨z3, r4, g'5, hv6, hS7, hR11, h8, h9, h10⟩)
  subst hv6
  have h8_ : z3.toInt = (f 68).toInt + 1 := h8
  have h9_ : r4.toInt = (f 68).toInt := h9
  have h10_ : ∀ j, j ∉ [60, 69, 70, 71, 72, 73] → g'5 j = g j := h10
  have hR11_ : RJ (upd f 68 z3) g'5 gs (c0 :: bc1) [] 0 ((f 68).toNatClampNeg :: []) := hR11
  show am_E _ _ _ _ [some (.ref 39), some (.int on), some (.int tw), some (.int th)] [.int r4] _ _
  refine am_e6i hi_255_11 ?_
  refine am_e2 (v := 39) hi_255_12 rfl ?_
  refine am_e32n (as := [.ref 39]) (la := [some (.ref 39), none, none]) (rest := []) hi_255_13 (am_hd0 (M := 255) (by decide) 13) (Nat.le_of_ble_eq_true rfl) (Nat.le_of_ble_eq_true rfl) (show 1 ≤ am_P0.2.2.1 224 from by decide +kernel) rfl (am_recv_ok hS7.fs) rfl rfl (ct_dropBlock2 (d := (d + 6)) hS7 hR11_  (by show (0 : Int) ≤ (f 32).toInt; omega) (by show (f 32).toInt ≤ (63 : Int); omega) (by show (0 : Int) ≤ (f 48).toInt; omega) (by show (f 48).toInt ≤ (8192 : Int); omega) (by show (f 4).toInt ≤ (8192 : Int); omega) (by show (1 : Int) ≤ (f 37).toInt; omega) (by show (f 37).toInt ≤ (128 : Int); omega)) ?_
  rintro v12 S13 (⟨l14, z15, b16, g'17, hv18, hS19, hR28, h20, h21, h22, h23, h24, h25, h26, h27⟩)
  subst hv18
  have h20_ : z15.toInt = (f 37).toInt - 1 := h20
  have h21_ : (0 : Int) ≤ l14.toInt := h21
  have h22_ : l14.toInt ≤ (f 24).toInt := h22
  have h23_ : (0 : Int) ≤ b16.toInt := h23
  have h24_ : b16.toInt ≤ (f 4).toInt := h24
  have h25_ : ∀ j, j ∉ [52] → g'17 j = g'5 j := h25
  have h26_ : ([] : List Nat) = [] → RJ (upd (upd (upd (upd f 24 l14) 37 z15) 44 b16) 68 z3) g'17 gs bc1 c0 (g'17 43 z15.toNatClampNeg).toInt ((f 68).toNatClampNeg :: []) := h26
  have h27_ : l14 = g'5 38 z15.toNatClampNeg := h27
  replace hS19 : MS S0 S13 (upd (upd (upd (upd f 24 l14) 37 z15) 44 b16) 68 z3) g'17 := hS19
  have hR28_ : RJ (upd (upd (upd (upd f 24 l14) 37 z15) 44 b16) 68 z3) g'17 gs bc1 [] 0 ((f 68).toNatClampNeg :: []) := hR28
  have hR29 : RJ (upd (upd (upd (upd f 24 l14) 37 z15) 44 b16) 68 z3) g'17 gs bc1 c0 (g'17 43 z15.toNatClampNeg).toInt ((f 68).toNatClampNeg :: []) := h26_ rfl
  show am_E _ _ _ _ [some (.ref 39), some (.int on), some (.int tw), some (.int th)] [] _ _
  refine am_e2 (v := 39) hi_255_16 rfl ?_
  refine am_e0 hi_255_17 ?_
  refine am_e1 (v := th) hi_255_19 rfl ?_
  refine am_e1 (v := tw) hi_255_20 rfl ?_
  refine am_e0 hi_255_21 ?_
  refine am_e32n (as := [.ref 39, .int 40, .int th, .int tw, .int 0]) (la := [some (.ref 39), some (.int 40), some (.int th), some (.int tw), some (.int 0)]) (rest := []) hi_255_22 (am_hd0 (M := 255) (by decide) 22) (Nat.le_of_ble_eq_true rfl) (Nat.le_of_ble_eq_true rfl) (show 5 ≤ am_P0.2.2.1 189 from by decide +kernel) rfl (am_recv_ok hS19.fs) rfl rfl (ct_put (d := (d + 6)) hS19 hR29  (by show (0 : Int) ≤ (f 32).toInt; omega) (by show (f 32).toInt ≤ (63 : Int); omega) (by show (f 53).toInt ≤ (4096 : Int); omega) (by show (0 : Int) ≤ z3.toInt; omega) (by show z3.toInt ≤ (65534 : Int); omega)) ?_
  rintro v30 S31 (⟨z32, r33, g'34, hv35, hS36, hR40, h37, h38, h39⟩)
  subst hv35
  have h37_ : z32.toInt = z3.toInt + 1 := h37
  have h38_ : r33.toInt = z3.toInt := h38
  have h39_ : ∀ j, j ∉ [60, 69, 70, 71, 72, 73] → g'34 j = g'17 j := h39
  replace hS36 : MS S0 S31 (upd (upd (upd (upd f 24 l14) 37 z15) 44 b16) 68 z32) g'34 := hS36
  have hR40_ : RJ (upd (upd (upd (upd f 24 l14) 37 z15) 44 b16) 68 z32) g'34 gs bc1 c0 (g'17 43 z15.toNatClampNeg).toInt (z3.toNatClampNeg :: ((f 68).toNatClampNeg :: [])) := hR40
  show am_E _ _ _ _ [some (.ref 39), some (.int on), some (.int tw), some (.int th)] [.int r33] _ _
  refine am_e6i hi_255_25 ?_
  refine am_e2 (v := 39) hi_255_26 rfl ?_
  refine mm_20 (v := .ref 91) hS36 hi_255_27 rfl ?_
  refine am_e1 (v := on) hi_255_30 rfl ?_
  refine am_e2 (v := 39) hi_255_31 rfl ?_
  refine am_e32n (as := [.ref 39]) (la := [some (.ref 39)]) (rest := [.int on, .ref 91]) hi_255_32 (am_hd0 (M := 255) (by decide) 32) (Nat.le_of_ble_eq_true rfl) (Nat.le_of_ble_eq_true rfl) (show 1 ≤ am_P0.2.2.1 210 from by decide +kernel) rfl (am_recv_ok hS36.fs) rfl rfl (ct_here (d := (d + 6)) hS36 hR40_  (by show (0 : Int) ≤ (f 32).toInt; omega) (by show (f 32).toInt ≤ (63 : Int); omega) (by show (f 53).toInt ≤ (4096 : Int); omega) (by show (0 : Int) ≤ z32.toInt; omega) (by show z32.toInt ≤ (65534 : Int); omega)) ?_
  rintro v41 S42 (⟨r43, hv44, hS45, h46, h47⟩)
  subst hv44
  have h46_ : (0 : Int) ≤ r43.toInt := h46
  have h47_ : r43.toInt ≤ z32.toInt := h47
  show am_E _ _ _ _ [some (.ref 39), some (.int on), some (.int tw), some (.int th)] [.int r43, .int on, .ref 91] _ _
  refine mm_26 hS45 ma_72 hi_255_35 (by decide) (by omega) (by omega) (fun h => nomatch h) ?_
  intro S49 hS50
  refine am_e2 (v := 39) hi_255_36 rfl ?_
  refine am_e32n (as := [.ref 39]) (la := [some (.ref 39), none, none]) (rest := []) hi_255_37 (am_hd0 (M := 255) (by decide) 37) (Nat.le_of_ble_eq_true rfl) (Nat.le_of_ble_eq_true rfl) (show 1 ≤ am_P0.2.2.1 246 from by decide +kernel) rfl (am_recv_ok hS50.fs) rfl rfl (ct_mendBreaks (d := (d + 5)) hS50 hR40_ (show (g'34 43 z15.toNatClampNeg).toInt = (g'17 43 z15.toNatClampNeg).toInt from by rw [show g'34 43 = g'17 43 from h39_ 43 (by decide)]) (by show (0 : Int) ≤ (f 32).toInt; omega) (by show (f 32).toInt ≤ (63 : Int); omega) (by show (f 53).toInt ≤ (4096 : Int); omega) (by show (0 : Int) ≤ z32.toInt; omega) (by show z32.toInt ≤ (65534 : Int); omega) (by show (0 : Int) ≤ z15.toInt; omega) (by show z15.toInt ≤ (127 : Int); omega)) ?_
  rintro v51 S52 (⟨g'53, hv54, hS55, hR57, h56⟩)
  subst hv54
  have h56_ : ∀ j, j ∉ [71] → g'53 j = (upg g'34 72 on.toNatClampNeg r43) j := h56
  have hR57_ : RJ (upd (upd (upd (upd f 24 l14) 37 z15) 44 b16) 68 z32) g'53 gs bc1 [] 0 (z3.toNatClampNeg :: ((f 68).toNatClampNeg :: [])) := hR57
  show am_E _ _ _ _ [some (.ref 39), some (.int on), some (.int tw), some (.int th)] [] _ _
  refine am_e2 (v := 39) hi_255_40 rfl ?_
  refine am_e0 hi_255_41 ?_
  refine am_e1 (v := th) hi_255_43 rfl ?_
  refine am_e0 hi_255_44 ?_
  refine am_e0 hi_255_45 ?_
  refine am_e32n (as := [.ref 39, .int 41, .int th, .int 0, .int 0]) (la := [some (.ref 39), some (.int 41), some (.int th), some (.int 0), some (.int 0)]) (rest := []) hi_255_46 (am_hd0 (M := 255) (by decide) 46) (Nat.le_of_ble_eq_true rfl) (Nat.le_of_ble_eq_true rfl) (show 5 ≤ am_P0.2.2.1 189 from by decide +kernel) rfl (am_recv_ok hS55.fs) rfl rfl (ct_put (d := (d + 6)) hS55 hR57_  (by show (0 : Int) ≤ (f 32).toInt; omega) (by show (f 32).toInt ≤ (63 : Int); omega) (by show (f 53).toInt ≤ (4096 : Int); omega) (by show (0 : Int) ≤ z32.toInt; omega) (by show z32.toInt ≤ (65534 : Int); omega)) ?_
  rintro v58 S59 (⟨z60, r61, g'62, hv63, hS64, hR68, h65, h66, h67⟩)
  subst hv63
  have h65_ : z60.toInt = z32.toInt + 1 := h65
  have h66_ : r61.toInt = z32.toInt := h66
  have h67_ : ∀ j, j ∉ [60, 69, 70, 71, 72, 73] → g'62 j = g'53 j := h67
  replace hS64 : MS S0 S59 (upd (upd (upd (upd f 24 l14) 37 z15) 44 b16) 68 z60) g'62 := hS64
  have hR68_ : RJ (upd (upd (upd (upd f 24 l14) 37 z15) 44 b16) 68 z60) g'62 gs bc1 [] 0 (z32.toNatClampNeg :: (z3.toNatClampNeg :: ((f 68).toNatClampNeg :: []))) := hR68
  show am_E _ _ _ _ [some (.ref 39), some (.int on), some (.int tw), some (.int th)] [.int r61] _ _
  refine am_e6i hi_255_49 ?_
  refine am_e2 (v := 39) hi_255_50 rfl ?_
  refine am_e1 (v := th) hi_255_51 rfl ?_
  refine am_e32n (as := [.ref 39, .int th]) (la := [some (.ref 39), some (.int th), none]) (rest := []) hi_255_52 (am_hd0 (M := 255) (by decide) 52) (Nat.le_of_ble_eq_true rfl) (Nat.le_of_ble_eq_true rfl) (show 2 ≤ am_P0.2.2.1 256 from by decide +kernel) rfl (am_recv_ok hS64.fs) rfl rfl (ct_unhide2 (d := (d + 6)) hS64 hR68_ (by show 0 ≤ (g'62 34 (f 32).toNatClampNeg).toInt + th.toInt; rw [show g'62 34 = g'53 34 from h67_ 34 (by decide), show g'53 34 = g'34 34 from h56_ 34 (by decide), show g'34 34 = g'17 34 from h39_ 34 (by decide), show g'17 34 = g'5 34 from h25_ 34 (by decide), show g'5 34 = g 34 from h10_ 34 (by decide)]; exact hu0) (by show (g'62 34 (f 32).toNatClampNeg).toInt + th.toInt ≤ l14.toInt; rw [show g'62 34 = g'53 34 from h67_ 34 (by decide), show g'53 34 = g'34 34 from h56_ 34 (by decide), show g'34 34 = g'17 34 from h39_ 34 (by decide), show g'17 34 = g'5 34 from h25_ 34 (by decide), show g'5 34 = g 34 from h10_ 34 (by decide), h27_, show g'5 38 = g 38 from h10_ 38 (by decide), show z15.toNatClampNeg = ((f 37).toInt - 1).toNat from by rw [cl_toNat]; omega]; exact hu1) (by intro b hb; show (g'62 38 b).toInt ≤ (g'62 34 (f 32).toNatClampNeg).toInt + th.toInt; rw [show g'62 38 = g'53 38 from h67_ 38 (by decide), show g'53 38 = g'34 38 from h56_ 38 (by decide), show g'34 38 = g'17 38 from h39_ 38 (by decide), show g'17 38 = g'5 38 from h25_ 38 (by decide), show g'5 38 = g 38 from h10_ 38 (by decide), show g'62 34 = g'53 34 from h67_ 34 (by decide), show g'53 34 = g'34 34 from h56_ 34 (by decide), show g'34 34 = g'17 34 from h39_ 34 (by decide), show g'17 34 = g'5 34 from h25_ 34 (by decide), show g'5 34 = g 34 from h10_ 34 (by decide)]; exact hu2 b (by have hb1 : (b : Int) < z15.toInt := hb; omega)) (by show (0 : Int) ≤ (f 32).toInt; omega) (by show (f 32).toInt ≤ (63 : Int); omega) (by show (0 : Int) ≤ (f 48).toInt; omega) (by show (f 48).toInt ≤ (8192 : Int); omega) (by show (0 : Int) ≤ z15.toInt; omega) (by show z15.toInt ≤ (127 : Int); omega) (by show l14.toInt ≤ (16384 : Int); omega)) ?_
  rintro v69 S70 (⟨l71, g'72, hv73, hS74, hR78, h75, h76, h77⟩)
  subst hv73
  have h75_ : (0 : Int) ≤ l71.toInt := h75
  have h76_ : l71.toInt ≤ l14.toInt := h76
  have h77_ : ∀ j, j ∉ [52] → g'72 j = g'62 j := h77
  replace hS74 : MS S0 S70 (upd (upd (upd (upd f 24 l71) 37 z15) 44 b16) 68 z60) g'72 := hS74
  have hR78_ : RJ (upd (upd (upd (upd f 24 l71) 37 z15) 44 b16) 68 z60) g'72 gs bc1 [] 0 (z32.toNatClampNeg :: (z3.toNatClampNeg :: ((f 68).toNatClampNeg :: []))) := hR78
  show am_E _ _ _ _ [some (.ref 39), some (.int on), some (.int tw), some (.int th)] [] _ _
  refine am_e2 (v := 39) hi_255_55 rfl ?_
  refine am_e0 hi_255_56 ?_
  refine am_e32n (as := [.ref 39, .int 15]) (la := [some (.ref 39), some (.int 15)]) (rest := []) hi_255_58 (am_hd0 (M := 255) (by decide) 58) (Nat.le_of_ble_eq_true rfl) (Nat.le_of_ble_eq_true rfl) (show 2 ≤ am_P0.2.2.1 199 from by decide +kernel) rfl (am_recv_ok hS74.fs) rfl rfl (ct_leave (d := (d + 3)) hS74   (by show (0 : Int) ≤ (f 4).toInt; omega) (by show (f 0).toInt ≤ (16384 : Int); omega) (by show (0 : Int) ≤ (15 : Int); omega) (by show (0 : Int) ≤ (f 5).toInt; omega) (by show (f 5).toInt ≤ (48 : Int); omega) (by show (0 : Int) ≤ (f 6).toInt; omega)) ?_
  rintro v79 S80 (⟨z81, y82, hv83, hS84, h85, h86, h87⟩ | ⟨a89, b90, hv91, hS92, h93⟩)
  · subst hv83
    have h85_ : z81.toInt = (f 4).toInt + 1 := h85
    have h86_ : (f 4).toInt < (f 0).toInt := h86
    have h87_ : y82.toInt = (f 5).toInt - 1 := h87
    replace hS84 : MS S0 S80 (upd (upd (upd (upd (upd (upd f 4 z81) 5 y82) 24 l71) 37 z15) 44 b16) 68 z60) g'72 := hS84
    have hR95 : RJ (upd (upd (upd (upd (upd (upd f 4 z81) 5 y82) 24 l71) 37 z15) 44 b16) 68 z60) g'72 gs bc1 [] 0 (z32.toNatClampNeg :: (z3.toNatClampNeg :: ((f 68).toNatClampNeg :: []))) := RJ.at hR78_ (by show (f 4).toInt ≤ z81.toInt; omega)
    show am_E _ _ _ _ [some (.ref 39), some (.int on), some (.int tw), some (.int th)] [.int 1] _ _
    refine am_e6i hi_255_61 ?_
    refine am_e35 hi_255_62 ?_
    show am_E _ _ _ _ [some (.ref 39), some (.int 13), some (.int on), some (.int tw), some (.int th)] [] _ _
    refine am_e18 hi_180_259 ?_
    refine am_e35 hi_180_371 ?_
    have q1 : mg_p1 gs = mg_p1 gs := rfl
    have q2 : mg_p2 gs = mg_p2 gs := rfl
    have q3 : mg_p3 gs = mg_p3 gs := rfl
    have q4 : mg_p4 gs = mg_p4 gs := rfl
    refine ⟨_, _, _, bc1, rfl, hS84, Or.inl ⟨⟨(RJ.fewer (pj' := []) hR95 (fun _ h => nomatch h)), ?_, ?_⟩, rfl, ?_⟩⟩
    · exact (mg_cast (mg_good_ext _ _ _ _ _ _ (fun i _ => by show g'72 34 i = g 34 i; rw [show g'72 34 = g'62 34 from h77_ 34 (by decide), show g'62 34 = g'53 34 from h67_ 34 (by decide), show g'53 34 = g'34 34 from h56_ 34 (by decide), show g'34 34 = g'17 34 from h39_ 34 (by decide), show g'17 34 = g'5 34 from h25_ 34 (by decide), show g'5 34 = g 34 from h10_ 34 (by decide)]) (fun i _ => by show g'72 38 i = g 38 i; rw [show g'72 38 = g'62 38 from h77_ 38 (by decide), show g'62 38 = g'53 38 from h67_ 38 (by decide), show g'53 38 = g'34 38 from h56_ 38 (by decide), show g'34 38 = g'17 38 from h39_ 38 (by decide), show g'17 38 = g'5 38 from h25_ 38 (by decide), show g'5 38 = g 38 from h10_ 38 (by decide)]) (fun i _ => by show g'72 23 i = g 23 i; rw [show g'72 23 = g'62 23 from h77_ 23 (by decide), show g'62 23 = g'53 23 from h67_ 23 (by decide), show g'53 23 = g'34 23 from h56_ 23 (by decide), show g'34 23 = g'17 23 from h39_ 23 (by decide), show g'17 23 = g'5 23 from h25_ 23 (by decide), show g'5 23 = g 23 from h10_ 23 (by decide)]) hrest) (by show (f 15).toInt + 0 = (f 15).toInt; omega) (by show (f 20).toInt = (f 20).toInt; omega) (by show (f 37).toInt + -1 = z15.toInt; omega) (by show (f 32).toInt + 0 = (f 32).toInt; omega) (by show (f 5).toInt + -1 = y82.toInt; omega) : mg_good (g'72 34) (g'72 38) (g'72 23) gs ((f 15).toInt) ((f 20).toInt) (z15.toInt) ((f 32).toInt) (y82.toInt))
    · exact ⟨(by show 0 ≤ z81.toInt; omega), (by show z81.toInt ≤ (f 0).toInt; omega), (by show (f 0).toInt ≤ 512; omega), (by show 0 ≤ l71.toInt; omega), (by show l71.toInt + (f 20).toInt + mg_p1 gs ≤ 4 * z81.toInt; omega), (by show (f 20).toInt ≤ z81.toInt; omega), (by show (f 15).toInt + mg_p2 gs ≤ z81.toInt; omega), (by show mg_p3 gs ≤ 20 * z81.toInt + 20; omega), (by show 0 ≤ z60.toInt; omega), (by show z60.toInt + 3 * (f 20).toInt + mg_p4 gs ≤ 60 * z81.toInt + 60; omega), (by show 0 ≤ (f 62).toInt; omega), (by show (f 62).toInt + 64 * mj_n (g'72 16) (f 15).toNatClampNeg 3 ≤ 64 * z81.toInt; rw [show g'72 16 = g'62 16 from h77_ 16 (by decide), show g'62 16 = g'53 16 from h67_ 16 (by decide), show g'53 16 = g'34 16 from h56_ 16 (by decide), show g'34 16 = g'17 16 from h39_ 16 (by decide), show g'17 16 = g'5 16 from h25_ 16 (by decide), show g'5 16 = g 16 from h10_ 16 (by decide)]; omega), (by show 0 ≤ b16.toInt; omega), (by show b16.toInt ≤ z81.toInt; omega), (by show 0 ≤ (f 48).toInt; omega), (by show (f 48).toInt ≤ z81.toInt; omega), (by show 1 ≤ (f 53).toInt; omega), (by show (f 53).toInt ≤ z81.toInt + 1; omega), (by show 0 ≤ (f 19).toInt; omega), (by show (f 19).toInt ≤ 600; omega), (by show 0 ≤ (f 6).toInt; omega), (by show 0 ≤ (f 8).toInt; omega)⟩
    · show 100 * ((f 0).toInt - z81.toInt) + mg_p3 gs < 100 * ((f 0).toInt - (f 4).toInt) + (1 + mg_p3 gs); omega
  · subst hv91
    have h93_ : (0 : Int) ≤ a89.toInt := h93
    replace hS92 : MS S0 S80 (upd (upd (upd (upd (upd (upd (upd f 6 a89) 7 b90) 10 0) 24 l71) 37 z15) 44 b16) 68 z60) g'72 := hS92
    have hR96 := rj_clear0 hR78_
    have hR97 : RJ (upd (upd (upd (upd (upd (upd (upd f 6 a89) 7 b90) 10 0) 24 l71) 37 z15) 44 b16) 68 z60) g'72 [] bc1 [] 0 [] := hR96
    show am_E _ _ _ _ [some (.ref 39), some (.int on), some (.int tw), some (.int th)] [.int 0] _ _
    refine am_e6i hi_255_61 ?_
    refine am_e35 hi_255_62 ?_
    show am_E _ _ _ _ [some (.ref 39), some (.int 13), some (.int on), some (.int tw), some (.int th)] [] _ _
    refine am_e18 hi_180_259 ?_
    refine am_e35 hi_180_371 ?_
    have hRc := rj_clear0 hR97
    refine ⟨_, _, [], _, rfl, hS92, Or.inr ⟨hRc, rfl, (by show 0 ≤ (f 4).toInt; omega), (by show (f 4).toInt ≤ (f 0).toInt; omega), (by show 0 ≤ (f 32).toInt; omega), (by show (f 32).toInt ≤ 63; omega), (by show 1 ≤ (f 53).toInt; omega), (by show (f 53).toInt ≤ 600; omega), (by show 0 ≤ z60.toInt; omega), (by show z60.toInt ≤ 60000; omega), (by show 0 ≤ (f 48).toInt; omega), (by show (f 48).toInt ≤ 8000; omega), (by show 0 ≤ z15.toInt; omega), (by show z15.toInt ≤ 128; omega), (by show 0 ≤ (f 62).toInt; omega), (by show (f 62).toInt ≤ 65000; omega), (by show 0 ≤ (f 19).toInt; omega), (by show (f 19).toInt ≤ 600; omega), (by show 0 ≤ a89.toInt; omega), (by show 0 ≤ (f 8).toInt; omega)⟩⟩
set_option maxHeartbeats 16000000 in
theorem st_15 {sc : Nat × (Nat → Int32)} {d : Nat} {S0 S : am_S} {f : Nat → Int32} {g : Nat → Nat → Int32} {on : Int32} {tw : Int32} {th : Int32} {gs : List mg_E} {bc : List (List Nat)} (hS : MS S0 S f g) (hR : RJ f g gs bc [] 0 []) (hrest : mg_good (g 34) (g 38) (g 23) gs ((f 15).toInt + 0) ((f 20).toInt) ((f 37).toInt + -1) ((f 32).toInt + 0) ((f 5).toInt + -1)) (hu0 : 0 ≤ (g 34 (f 32).toInt.toNat).toInt + th.toInt) (hu1 : (g 34 (f 32).toInt.toNat).toInt + th.toInt ≤ (g 38 ((f 37).toInt - 1).toNat).toInt) (hu2 : ∀ b : Nat, (b : Int) < (f 37).toInt - 1 → (g 38 b).toInt ≤ (g 34 (f 32).toInt.toNat).toInt + th.toInt) (p0 : 0 ≤ (f 4).toInt) (p1 : (f 4).toInt ≤ (f 0).toInt) (p2 : (f 0).toInt ≤ 512) (p3 : 0 ≤ (f 24).toInt) (p4 : (f 24).toInt + (f 20).toInt + mg_p1 gs ≤ 4 * (f 4).toInt) (p5 : (f 20).toInt ≤ (f 4).toInt) (p6 : (f 15).toInt + 0 + mg_p2 gs ≤ (f 4).toInt) (p7 : 1 + mg_p3 gs ≤ 20 * (f 4).toInt + 20) (p8 : 0 ≤ (f 68).toInt) (p9 : (f 68).toInt + 3 * (f 20).toInt + 0 + mg_p4 gs ≤ 60 * (f 4).toInt + 60) (p10 : 0 ≤ (f 62).toInt) (p11 : (f 62).toInt + 64 * mj_n (g 16) (f 15).toNatClampNeg 3 ≤ 64 * (f 4).toInt) (p12 : 0 ≤ (f 44).toInt) (p13 : (f 44).toInt ≤ (f 4).toInt) (p14 : 0 ≤ (f 48).toInt) (p15 : (f 48).toInt ≤ (f 4).toInt) (p16 : 1 ≤ (f 53).toInt) (p17 : (f 53).toInt ≤ (f 4).toInt + 1) (p18 : 0 ≤ (f 19).toInt) (p19 : (f 19).toInt ≤ 600) (p20 : 0 ≤ (f 6).toInt) (p21 : 0 ≤ (f 8).toInt) (p22 : 0 ≤ mg_p1 gs) (p23 : 0 ≤ mg_p2 gs) (p24 : 0 ≤ mg_p4 gs) (p25 : 0 ≤ (f 10).toInt) (p26 : (f 10).toInt ≤ mg_p3 gs) (p27 : 0 ≤ mj_n (g 16) (f 15).toNatClampNeg 3) (p28 : 0 ≤ (f 15).toInt) (p29 : 0 ≤ (f 20).toInt) (p30 : 1 ≤ (f 37).toInt) (p31 : 0 ≤ (f 32).toInt) (p32 : (f 32).toInt ≤ (f 5).toInt) (p33 : (f 5).toInt ≤ 48) (p34 : (f 37).toInt ≤ 2 * (f 5).toInt + 0) (p35 : 0 ≤ on.toInt) (p36 : on.toInt < (f 68).toInt) : am_E (am_PP sc) (d + 8) 180 0 [some (.ref 39), some (.int 15), some (.int on), some (.int tw), some (.int th)] [] S (am_N fun v S1 => ∃ (f' : Nat → Int32) (g' : Nat → Nat → Int32) (gs' : List mg_E) (bc' : List (List Nat)), v = none ∧ MS S0 S1 f' g' ∧ (mg_on f (100 * ((f 0).toInt - (f 4).toInt) + (1 + mg_p3 gs)) f' g' gs' bc' ∨ mg_off f f' g' bc')) := by
  have hbs := mg_basic hrest
  obtain ⟨c0, bc1, rfl⟩ := RJ.bcons hR (by omega)
  refine am_e1 (v := 15) hi_180_0 rfl ?_
  refine am_e0 hi_180_1 ?_
  refine am_e13t hi_180_3 (by decide) ?_
  refine am_e1 (v := 15) hi_180_14 rfl ?_
  refine am_e19 (t := 273) hi_180_15 (by decide) ?_
  refine am_e2 (v := 39) hi_180_273 rfl ?_
  refine am_e1 (v := on) hi_180_274 rfl ?_
  refine am_e1 (v := tw) hi_180_275 rfl ?_
  refine am_e1 (v := th) hi_180_276 rfl ?_
  refine am_e32w (as := [.ref 39, .int on, .int tw, .int th]) (la := [some (.ref 39), some (.int on), some (.int tw), some (.int th)]) (rest := []) hi_180_278 (am_hd0 (M := 180) (by decide) 278) (Nat.le_of_ble_eq_true rfl) (Nat.le_of_ble_eq_true rfl) (show 4 ≤ am_P0.2.2.1 259 from by decide +kernel) rfl (am_recv_ok hS.fs) rfl rfl ?_
  refine am_e2 (v := 39) hi_259_0 rfl ?_
  refine am_e0 hi_259_1 ?_
  refine am_e1 (v := th) hi_259_3 rfl ?_
  refine am_e0 hi_259_4 ?_
  obtain ⟨z0, hz0⟩ : ∃ q__, am_bin 0 th 4 = q__ := ⟨_, rfl⟩
  refine am_e10 (z := z0) hi_259_5 hz0 ?_
  refine am_e0 hi_259_6 ?_
  refine am_e0 hi_259_7 ?_
  refine am_e32n (as := [.ref 39, .int 33, .int z0, .int 0, .int 0]) (la := [some (.ref 39), some (.int 33), some (.int z0), some (.int 0), some (.int 0)]) (rest := []) hi_259_8 (am_hd0 (M := 259) (by decide) 8) (Nat.le_of_ble_eq_true rfl) (Nat.le_of_ble_eq_true rfl) (show 5 ≤ am_P0.2.2.1 189 from by decide +kernel) rfl (am_recv_ok hS.fs) rfl rfl (ct_put (d := (d + 6)) hS hR  (by show (0 : Int) ≤ (f 32).toInt; omega) (by show (f 32).toInt ≤ (63 : Int); omega) (by show (f 53).toInt ≤ (4096 : Int); omega) (by show (0 : Int) ≤ (f 68).toInt; omega) (by show (f 68).toInt ≤ (65534 : Int); omega)) ?_
  rintro v1 S2 (⟨z3, r4, g'5, hv6, hS7, hR11, h8, h9, h10⟩)
  subst hv6
  have h8_ : z3.toInt = (f 68).toInt + 1 := h8
  have h9_ : r4.toInt = (f 68).toInt := h9
  have h10_ : ∀ j, j ∉ [60, 69, 70, 71, 72, 73] → g'5 j = g j := h10
  have hR11_ : RJ (upd f 68 z3) g'5 gs (c0 :: bc1) [] 0 ((f 68).toNatClampNeg :: []) := hR11
  show am_E _ _ _ _ [some (.ref 39), some (.int on), some (.int tw), some (.int th)] [.int r4] _ _
  refine am_e6i hi_259_11 ?_
  refine am_e2 (v := 39) hi_259_12 rfl ?_
  refine am_e32n (as := [.ref 39]) (la := [some (.ref 39), none, none]) (rest := []) hi_259_13 (am_hd0 (M := 259) (by decide) 13) (Nat.le_of_ble_eq_true rfl) (Nat.le_of_ble_eq_true rfl) (show 1 ≤ am_P0.2.2.1 224 from by decide +kernel) rfl (am_recv_ok hS7.fs) rfl rfl (ct_dropBlock2 (d := (d + 6)) hS7 hR11_  (by show (0 : Int) ≤ (f 32).toInt; omega) (by show (f 32).toInt ≤ (63 : Int); omega) (by show (0 : Int) ≤ (f 48).toInt; omega) (by show (f 48).toInt ≤ (8192 : Int); omega) (by show (f 4).toInt ≤ (8192 : Int); omega) (by show (1 : Int) ≤ (f 37).toInt; omega) (by show (f 37).toInt ≤ (128 : Int); omega)) ?_
  rintro v12 S13 (⟨l14, z15, b16, g'17, hv18, hS19, hR28, h20, h21, h22, h23, h24, h25, h26, h27⟩)
  subst hv18
  have h20_ : z15.toInt = (f 37).toInt - 1 := h20
  have h21_ : (0 : Int) ≤ l14.toInt := h21
  have h22_ : l14.toInt ≤ (f 24).toInt := h22
  have h23_ : (0 : Int) ≤ b16.toInt := h23
  have h24_ : b16.toInt ≤ (f 4).toInt := h24
  have h25_ : ∀ j, j ∉ [52] → g'17 j = g'5 j := h25
  have h26_ : ([] : List Nat) = [] → RJ (upd (upd (upd (upd f 24 l14) 37 z15) 44 b16) 68 z3) g'17 gs bc1 c0 (g'17 43 z15.toNatClampNeg).toInt ((f 68).toNatClampNeg :: []) := h26
  have h27_ : l14 = g'5 38 z15.toNatClampNeg := h27
  replace hS19 : MS S0 S13 (upd (upd (upd (upd f 24 l14) 37 z15) 44 b16) 68 z3) g'17 := hS19
  have hR28_ : RJ (upd (upd (upd (upd f 24 l14) 37 z15) 44 b16) 68 z3) g'17 gs bc1 [] 0 ((f 68).toNatClampNeg :: []) := hR28
  have hR29 : RJ (upd (upd (upd (upd f 24 l14) 37 z15) 44 b16) 68 z3) g'17 gs bc1 c0 (g'17 43 z15.toNatClampNeg).toInt ((f 68).toNatClampNeg :: []) := h26_ rfl
  show am_E _ _ _ _ [some (.ref 39), some (.int on), some (.int tw), some (.int th)] [] _ _
  refine am_e2 (v := 39) hi_259_16 rfl ?_
  refine am_e0 hi_259_17 ?_
  refine am_e1 (v := tw) hi_259_19 rfl ?_
  refine am_e0 hi_259_20 ?_
  refine am_e0 hi_259_21 ?_
  refine am_e32n (as := [.ref 39, .int 36, .int tw, .int 0, .int 0]) (la := [some (.ref 39), some (.int 36), some (.int tw), some (.int 0), some (.int 0)]) (rest := []) hi_259_22 (am_hd0 (M := 259) (by decide) 22) (Nat.le_of_ble_eq_true rfl) (Nat.le_of_ble_eq_true rfl) (show 5 ≤ am_P0.2.2.1 189 from by decide +kernel) rfl (am_recv_ok hS19.fs) rfl rfl (ct_put (d := (d + 6)) hS19 hR29  (by show (0 : Int) ≤ (f 32).toInt; omega) (by show (f 32).toInt ≤ (63 : Int); omega) (by show (f 53).toInt ≤ (4096 : Int); omega) (by show (0 : Int) ≤ z3.toInt; omega) (by show z3.toInt ≤ (65534 : Int); omega)) ?_
  rintro v30 S31 (⟨z32, r33, g'34, hv35, hS36, hR40, h37, h38, h39⟩)
  subst hv35
  have h37_ : z32.toInt = z3.toInt + 1 := h37
  have h38_ : r33.toInt = z3.toInt := h38
  have h39_ : ∀ j, j ∉ [60, 69, 70, 71, 72, 73] → g'34 j = g'17 j := h39
  replace hS36 : MS S0 S31 (upd (upd (upd (upd f 24 l14) 37 z15) 44 b16) 68 z32) g'34 := hS36
  have hR40_ : RJ (upd (upd (upd (upd f 24 l14) 37 z15) 44 b16) 68 z32) g'34 gs bc1 c0 (g'17 43 z15.toNatClampNeg).toInt (z3.toNatClampNeg :: ((f 68).toNatClampNeg :: [])) := hR40
  show am_E _ _ _ _ [some (.ref 39), some (.int on), some (.int tw), some (.int th)] [.int r33] _ _
  refine am_e6i hi_259_25 ?_
  refine am_e2 (v := 39) hi_259_26 rfl ?_
  refine mm_20 (v := .ref 91) hS36 hi_259_27 rfl ?_
  refine am_e1 (v := on) hi_259_30 rfl ?_
  refine am_e2 (v := 39) hi_259_31 rfl ?_
  refine am_e32n (as := [.ref 39]) (la := [some (.ref 39)]) (rest := [.int on, .ref 91]) hi_259_32 (am_hd0 (M := 259) (by decide) 32) (Nat.le_of_ble_eq_true rfl) (Nat.le_of_ble_eq_true rfl) (show 1 ≤ am_P0.2.2.1 210 from by decide +kernel) rfl (am_recv_ok hS36.fs) rfl rfl (ct_here (d := (d + 6)) hS36 hR40_  (by show (0 : Int) ≤ (f 32).toInt; omega) (by show (f 32).toInt ≤ (63 : Int); omega) (by show (f 53).toInt ≤ (4096 : Int); omega) (by show (0 : Int) ≤ z32.toInt; omega) (by show z32.toInt ≤ (65534 : Int); omega)) ?_
  rintro v41 S42 (⟨r43, hv44, hS45, h46, h47⟩)
  subst hv44
  have h46_ : (0 : Int) ≤ r43.toInt := h46
  have h47_ : r43.toInt ≤ z32.toInt := h47
  show am_E _ _ _ _ [some (.ref 39), some (.int on), some (.int tw), some (.int th)] [.int r43, .int on, .ref 91] _ _
  refine mm_26 hS45 ma_72 hi_259_35 (by decide) (by omega) (by omega) (fun h => nomatch h) ?_
  intro S49 hS50
  refine am_e2 (v := 39) hi_259_36 rfl ?_
  refine am_e0 hi_259_37 ?_
  refine am_e1 (v := th) hi_259_39 rfl ?_
  refine am_e0 hi_259_40 ?_
  refine am_e10 (z := z0) hi_259_41 hz0 ?_
  refine am_e0 hi_259_42 ?_
  refine am_e0 hi_259_43 ?_
  refine am_e32n (as := [.ref 39, .int 33, .int z0, .int 0, .int 0]) (la := [some (.ref 39), some (.int 33), some (.int z0), some (.int 0), some (.int 0)]) (rest := []) hi_259_44 (am_hd0 (M := 259) (by decide) 44) (Nat.le_of_ble_eq_true rfl) (Nat.le_of_ble_eq_true rfl) (show 5 ≤ am_P0.2.2.1 189 from by decide +kernel) rfl (am_recv_ok hS50.fs) rfl rfl (ct_put (d := (d + 6)) hS50 hR40_  (by show (0 : Int) ≤ (f 32).toInt; omega) (by show (f 32).toInt ≤ (63 : Int); omega) (by show (f 53).toInt ≤ (4096 : Int); omega) (by show (0 : Int) ≤ z32.toInt; omega) (by show z32.toInt ≤ (65534 : Int); omega)) ?_
  rintro v51 S52 (⟨z53, r54, g'55, hv56, hS57, hR61, h58, h59, h60⟩)
  subst hv56
  have h58_ : z53.toInt = z32.toInt + 1 := h58
  have h59_ : r54.toInt = z32.toInt := h59
  have h60_ : ∀ j, j ∉ [60, 69, 70, 71, 72, 73] → g'55 j = (upg g'34 72 on.toNatClampNeg r43) j := h60
  replace hS57 : MS S0 S52 (upd (upd (upd (upd f 24 l14) 37 z15) 44 b16) 68 z53) g'55 := hS57
  have hR61_ : RJ (upd (upd (upd (upd f 24 l14) 37 z15) 44 b16) 68 z53) g'55 gs bc1 c0 (g'17 43 z15.toNatClampNeg).toInt (z32.toNatClampNeg :: (z3.toNatClampNeg :: ((f 68).toNatClampNeg :: []))) := hR61
  show am_E _ _ _ _ [some (.ref 39), some (.int on), some (.int tw), some (.int th)] [.int r54] _ _
  refine am_e6i hi_259_47 ?_
  refine am_e2 (v := 39) hi_259_48 rfl ?_
  refine am_e32n (as := [.ref 39]) (la := [some (.ref 39), none, none]) (rest := []) hi_259_49 (am_hd0 (M := 259) (by decide) 49) (Nat.le_of_ble_eq_true rfl) (Nat.le_of_ble_eq_true rfl) (show 1 ≤ am_P0.2.2.1 246 from by decide +kernel) rfl (am_recv_ok hS57.fs) rfl rfl (ct_mendBreaks (d := (d + 5)) hS57 hR61_ (show (g'55 43 z15.toNatClampNeg).toInt = (g'17 43 z15.toNatClampNeg).toInt from by rw [show g'55 43 = g'34 43 from h60_ 43 (by decide), show g'34 43 = g'17 43 from h39_ 43 (by decide)]) (by show (0 : Int) ≤ (f 32).toInt; omega) (by show (f 32).toInt ≤ (63 : Int); omega) (by show (f 53).toInt ≤ (4096 : Int); omega) (by show (0 : Int) ≤ z53.toInt; omega) (by show z53.toInt ≤ (65534 : Int); omega) (by show (0 : Int) ≤ z15.toInt; omega) (by show z15.toInt ≤ (127 : Int); omega)) ?_
  rintro v62 S63 (⟨g'64, hv65, hS66, hR68, h67⟩)
  subst hv65
  have h67_ : ∀ j, j ∉ [71] → g'64 j = g'55 j := h67
  have hR68_ : RJ (upd (upd (upd (upd f 24 l14) 37 z15) 44 b16) 68 z53) g'64 gs bc1 [] 0 (z32.toNatClampNeg :: (z3.toNatClampNeg :: ((f 68).toNatClampNeg :: []))) := hR68
  show am_E _ _ _ _ [some (.ref 39), some (.int on), some (.int tw), some (.int th)] [] _ _
  refine am_e2 (v := 39) hi_259_52 rfl ?_
  refine am_e0 hi_259_53 ?_
  refine am_e1 (v := th) hi_259_55 rfl ?_
  refine am_e0 hi_259_56 ?_
  refine am_e0 hi_259_57 ?_
  refine am_e32n (as := [.ref 39, .int 41, .int th, .int 0, .int 0]) (la := [some (.ref 39), some (.int 41), some (.int th), some (.int 0), some (.int 0)]) (rest := []) hi_259_58 (am_hd0 (M := 259) (by decide) 58) (Nat.le_of_ble_eq_true rfl) (Nat.le_of_ble_eq_true rfl) (show 5 ≤ am_P0.2.2.1 189 from by decide +kernel) rfl (am_recv_ok hS66.fs) rfl rfl (ct_put (d := (d + 6)) hS66 hR68_  (by show (0 : Int) ≤ (f 32).toInt; omega) (by show (f 32).toInt ≤ (63 : Int); omega) (by show (f 53).toInt ≤ (4096 : Int); omega) (by show (0 : Int) ≤ z53.toInt; omega) (by show z53.toInt ≤ (65534 : Int); omega)) ?_
  rintro v69 S70 (⟨z71, r72, g'73, hv74, hS75, hR79, h76, h77, h78⟩)
  subst hv74
  have h76_ : z71.toInt = z53.toInt + 1 := h76
  have h77_ : r72.toInt = z53.toInt := h77
  have h78_ : ∀ j, j ∉ [60, 69, 70, 71, 72, 73] → g'73 j = g'64 j := h78
  replace hS75 : MS S0 S70 (upd (upd (upd (upd f 24 l14) 37 z15) 44 b16) 68 z71) g'73 := hS75
  have hR79_ : RJ (upd (upd (upd (upd f 24 l14) 37 z15) 44 b16) 68 z71) g'73 gs bc1 [] 0 (z53.toNatClampNeg :: (z32.toNatClampNeg :: (z3.toNatClampNeg :: ((f 68).toNatClampNeg :: [])))) := hR79
  show am_E _ _ _ _ [some (.ref 39), some (.int on), some (.int tw), some (.int th)] [.int r72] _ _
  refine am_e6i hi_259_61 ?_
  refine am_e2 (v := 39) hi_259_62 rfl ?_
  refine am_e1 (v := th) hi_259_63 rfl ?_
  refine am_e32n (as := [.ref 39, .int th]) (la := [some (.ref 39), some (.int th), none]) (rest := []) hi_259_64 (am_hd0 (M := 259) (by decide) 64) (Nat.le_of_ble_eq_true rfl) (Nat.le_of_ble_eq_true rfl) (show 2 ≤ am_P0.2.2.1 256 from by decide +kernel) rfl (am_recv_ok hS75.fs) rfl rfl (ct_unhide2 (d := (d + 6)) hS75 hR79_ (by show 0 ≤ (g'73 34 (f 32).toNatClampNeg).toInt + th.toInt; rw [show g'73 34 = g'64 34 from h78_ 34 (by decide), show g'64 34 = g'55 34 from h67_ 34 (by decide), show g'55 34 = g'34 34 from h60_ 34 (by decide), show g'34 34 = g'17 34 from h39_ 34 (by decide), show g'17 34 = g'5 34 from h25_ 34 (by decide), show g'5 34 = g 34 from h10_ 34 (by decide)]; exact hu0) (by show (g'73 34 (f 32).toNatClampNeg).toInt + th.toInt ≤ l14.toInt; rw [show g'73 34 = g'64 34 from h78_ 34 (by decide), show g'64 34 = g'55 34 from h67_ 34 (by decide), show g'55 34 = g'34 34 from h60_ 34 (by decide), show g'34 34 = g'17 34 from h39_ 34 (by decide), show g'17 34 = g'5 34 from h25_ 34 (by decide), show g'5 34 = g 34 from h10_ 34 (by decide), h27_, show g'5 38 = g 38 from h10_ 38 (by decide), show z15.toNatClampNeg = ((f 37).toInt - 1).toNat from by rw [cl_toNat]; omega]; exact hu1) (by intro b hb; show (g'73 38 b).toInt ≤ (g'73 34 (f 32).toNatClampNeg).toInt + th.toInt; rw [show g'73 38 = g'64 38 from h78_ 38 (by decide), show g'64 38 = g'55 38 from h67_ 38 (by decide), show g'55 38 = g'34 38 from h60_ 38 (by decide), show g'34 38 = g'17 38 from h39_ 38 (by decide), show g'17 38 = g'5 38 from h25_ 38 (by decide), show g'5 38 = g 38 from h10_ 38 (by decide), show g'73 34 = g'64 34 from h78_ 34 (by decide), show g'64 34 = g'55 34 from h67_ 34 (by decide), show g'55 34 = g'34 34 from h60_ 34 (by decide), show g'34 34 = g'17 34 from h39_ 34 (by decide), show g'17 34 = g'5 34 from h25_ 34 (by decide), show g'5 34 = g 34 from h10_ 34 (by decide)]; exact hu2 b (by have hb1 : (b : Int) < z15.toInt := hb; omega)) (by show (0 : Int) ≤ (f 32).toInt; omega) (by show (f 32).toInt ≤ (63 : Int); omega) (by show (0 : Int) ≤ (f 48).toInt; omega) (by show (f 48).toInt ≤ (8192 : Int); omega) (by show (0 : Int) ≤ z15.toInt; omega) (by show z15.toInt ≤ (127 : Int); omega) (by show l14.toInt ≤ (16384 : Int); omega)) ?_
  rintro v80 S81 (⟨l82, g'83, hv84, hS85, hR89, h86, h87, h88⟩)
  subst hv84
  have h86_ : (0 : Int) ≤ l82.toInt := h86
  have h87_ : l82.toInt ≤ l14.toInt := h87
  have h88_ : ∀ j, j ∉ [52] → g'83 j = g'73 j := h88
  replace hS85 : MS S0 S81 (upd (upd (upd (upd f 24 l82) 37 z15) 44 b16) 68 z71) g'83 := hS85
  have hR89_ : RJ (upd (upd (upd (upd f 24 l82) 37 z15) 44 b16) 68 z71) g'83 gs bc1 [] 0 (z53.toNatClampNeg :: (z32.toNatClampNeg :: (z3.toNatClampNeg :: ((f 68).toNatClampNeg :: [])))) := hR89
  show am_E _ _ _ _ [some (.ref 39), some (.int on), some (.int tw), some (.int th)] [] _ _
  refine am_e2 (v := 39) hi_259_67 rfl ?_
  refine am_e0 hi_259_68 ?_
  refine am_e32n (as := [.ref 39, .int 15]) (la := [some (.ref 39), some (.int 15)]) (rest := []) hi_259_70 (am_hd0 (M := 259) (by decide) 70) (Nat.le_of_ble_eq_true rfl) (Nat.le_of_ble_eq_true rfl) (show 2 ≤ am_P0.2.2.1 199 from by decide +kernel) rfl (am_recv_ok hS85.fs) rfl rfl (ct_leave (d := (d + 3)) hS85   (by show (0 : Int) ≤ (f 4).toInt; omega) (by show (f 0).toInt ≤ (16384 : Int); omega) (by show (0 : Int) ≤ (15 : Int); omega) (by show (0 : Int) ≤ (f 5).toInt; omega) (by show (f 5).toInt ≤ (48 : Int); omega) (by show (0 : Int) ≤ (f 6).toInt; omega)) ?_
  rintro v90 S91 (⟨z92, y93, hv94, hS95, h96, h97, h98⟩ | ⟨a100, b101, hv102, hS103, h104⟩)
  · subst hv94
    have h96_ : z92.toInt = (f 4).toInt + 1 := h96
    have h97_ : (f 4).toInt < (f 0).toInt := h97
    have h98_ : y93.toInt = (f 5).toInt - 1 := h98
    replace hS95 : MS S0 S91 (upd (upd (upd (upd (upd (upd f 4 z92) 5 y93) 24 l82) 37 z15) 44 b16) 68 z71) g'83 := hS95
    have hR106 : RJ (upd (upd (upd (upd (upd (upd f 4 z92) 5 y93) 24 l82) 37 z15) 44 b16) 68 z71) g'83 gs bc1 [] 0 (z53.toNatClampNeg :: (z32.toNatClampNeg :: (z3.toNatClampNeg :: ((f 68).toNatClampNeg :: [])))) := RJ.at hR89_ (by show (f 4).toInt ≤ z92.toInt; omega)
    show am_E _ _ _ _ [some (.ref 39), some (.int on), some (.int tw), some (.int th)] [.int 1] _ _
    refine am_e6i hi_259_73 ?_
    refine am_e35 hi_259_74 ?_
    show am_E _ _ _ _ [some (.ref 39), some (.int 15), some (.int on), some (.int tw), some (.int th)] [] _ _
    refine am_e18 hi_180_281 ?_
    refine am_e35 hi_180_371 ?_
    have q1 : mg_p1 gs = mg_p1 gs := rfl
    have q2 : mg_p2 gs = mg_p2 gs := rfl
    have q3 : mg_p3 gs = mg_p3 gs := rfl
    have q4 : mg_p4 gs = mg_p4 gs := rfl
    refine ⟨_, _, _, bc1, rfl, hS95, Or.inl ⟨⟨(RJ.fewer (pj' := []) hR106 (fun _ h => nomatch h)), ?_, ?_⟩, rfl, ?_⟩⟩
    · exact (mg_cast (mg_good_ext _ _ _ _ _ _ (fun i _ => by show g'83 34 i = g 34 i; rw [show g'83 34 = g'73 34 from h88_ 34 (by decide), show g'73 34 = g'64 34 from h78_ 34 (by decide), show g'64 34 = g'55 34 from h67_ 34 (by decide), show g'55 34 = g'34 34 from h60_ 34 (by decide), show g'34 34 = g'17 34 from h39_ 34 (by decide), show g'17 34 = g'5 34 from h25_ 34 (by decide), show g'5 34 = g 34 from h10_ 34 (by decide)]) (fun i _ => by show g'83 38 i = g 38 i; rw [show g'83 38 = g'73 38 from h88_ 38 (by decide), show g'73 38 = g'64 38 from h78_ 38 (by decide), show g'64 38 = g'55 38 from h67_ 38 (by decide), show g'55 38 = g'34 38 from h60_ 38 (by decide), show g'34 38 = g'17 38 from h39_ 38 (by decide), show g'17 38 = g'5 38 from h25_ 38 (by decide), show g'5 38 = g 38 from h10_ 38 (by decide)]) (fun i _ => by show g'83 23 i = g 23 i; rw [show g'83 23 = g'73 23 from h88_ 23 (by decide), show g'73 23 = g'64 23 from h78_ 23 (by decide), show g'64 23 = g'55 23 from h67_ 23 (by decide), show g'55 23 = g'34 23 from h60_ 23 (by decide), show g'34 23 = g'17 23 from h39_ 23 (by decide), show g'17 23 = g'5 23 from h25_ 23 (by decide), show g'5 23 = g 23 from h10_ 23 (by decide)]) hrest) (by show (f 15).toInt + 0 = (f 15).toInt; omega) (by show (f 20).toInt = (f 20).toInt; omega) (by show (f 37).toInt + -1 = z15.toInt; omega) (by show (f 32).toInt + 0 = (f 32).toInt; omega) (by show (f 5).toInt + -1 = y93.toInt; omega) : mg_good (g'83 34) (g'83 38) (g'83 23) gs ((f 15).toInt) ((f 20).toInt) (z15.toInt) ((f 32).toInt) (y93.toInt))
    · exact ⟨(by show 0 ≤ z92.toInt; omega), (by show z92.toInt ≤ (f 0).toInt; omega), (by show (f 0).toInt ≤ 512; omega), (by show 0 ≤ l82.toInt; omega), (by show l82.toInt + (f 20).toInt + mg_p1 gs ≤ 4 * z92.toInt; omega), (by show (f 20).toInt ≤ z92.toInt; omega), (by show (f 15).toInt + mg_p2 gs ≤ z92.toInt; omega), (by show mg_p3 gs ≤ 20 * z92.toInt + 20; omega), (by show 0 ≤ z71.toInt; omega), (by show z71.toInt + 3 * (f 20).toInt + mg_p4 gs ≤ 60 * z92.toInt + 60; omega), (by show 0 ≤ (f 62).toInt; omega), (by show (f 62).toInt + 64 * mj_n (g'83 16) (f 15).toNatClampNeg 3 ≤ 64 * z92.toInt; rw [show g'83 16 = g'73 16 from h88_ 16 (by decide), show g'73 16 = g'64 16 from h78_ 16 (by decide), show g'64 16 = g'55 16 from h67_ 16 (by decide), show g'55 16 = g'34 16 from h60_ 16 (by decide), show g'34 16 = g'17 16 from h39_ 16 (by decide), show g'17 16 = g'5 16 from h25_ 16 (by decide), show g'5 16 = g 16 from h10_ 16 (by decide)]; omega), (by show 0 ≤ b16.toInt; omega), (by show b16.toInt ≤ z92.toInt; omega), (by show 0 ≤ (f 48).toInt; omega), (by show (f 48).toInt ≤ z92.toInt; omega), (by show 1 ≤ (f 53).toInt; omega), (by show (f 53).toInt ≤ z92.toInt + 1; omega), (by show 0 ≤ (f 19).toInt; omega), (by show (f 19).toInt ≤ 600; omega), (by show 0 ≤ (f 6).toInt; omega), (by show 0 ≤ (f 8).toInt; omega)⟩
    · show 100 * ((f 0).toInt - z92.toInt) + mg_p3 gs < 100 * ((f 0).toInt - (f 4).toInt) + (1 + mg_p3 gs); omega
  · subst hv102
    have h104_ : (0 : Int) ≤ a100.toInt := h104
    replace hS103 : MS S0 S91 (upd (upd (upd (upd (upd (upd (upd f 6 a100) 7 b101) 10 0) 24 l82) 37 z15) 44 b16) 68 z71) g'83 := hS103
    have hR107 := rj_clear0 hR89_
    have hR108 : RJ (upd (upd (upd (upd (upd (upd (upd f 6 a100) 7 b101) 10 0) 24 l82) 37 z15) 44 b16) 68 z71) g'83 [] bc1 [] 0 [] := hR107
    show am_E _ _ _ _ [some (.ref 39), some (.int on), some (.int tw), some (.int th)] [.int 0] _ _
    refine am_e6i hi_259_73 ?_
    refine am_e35 hi_259_74 ?_
    show am_E _ _ _ _ [some (.ref 39), some (.int 15), some (.int on), some (.int tw), some (.int th)] [] _ _
    refine am_e18 hi_180_281 ?_
    refine am_e35 hi_180_371 ?_
    have hRc := rj_clear0 hR108
    refine ⟨_, _, [], _, rfl, hS103, Or.inr ⟨hRc, rfl, (by show 0 ≤ (f 4).toInt; omega), (by show (f 4).toInt ≤ (f 0).toInt; omega), (by show 0 ≤ (f 32).toInt; omega), (by show (f 32).toInt ≤ 63; omega), (by show 1 ≤ (f 53).toInt; omega), (by show (f 53).toInt ≤ 600; omega), (by show 0 ≤ z71.toInt; omega), (by show z71.toInt ≤ 60000; omega), (by show 0 ≤ (f 48).toInt; omega), (by show (f 48).toInt ≤ 8000; omega), (by show 0 ≤ z15.toInt; omega), (by show z15.toInt ≤ 128; omega), (by show 0 ≤ (f 62).toInt; omega), (by show (f 62).toInt ≤ 65000; omega), (by show 0 ≤ (f 19).toInt; omega), (by show (f 19).toInt ≤ 600; omega), (by show 0 ≤ a100.toInt; omega), (by show 0 ≤ (f 8).toInt; omega)⟩⟩
