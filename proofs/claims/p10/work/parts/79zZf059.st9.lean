/-! STEPS: blocks closed (printed by wip/p2/st2.py) -/
set_option maxHeartbeats 16000000 in
theorem st_2 {sc : Nat × (Nat → Int32)} {d : Nat} {S0 S : am_S} {f : Nat → Int32} {g : Nat → Nat → Int32} {on : Int32} {tw : Int32} {th : Int32} {gs : List mg_E} {bc : List (List Nat)} (hS : MS S0 S f g) (hR : RJ f g gs bc [] 0 []) (hrest : mg_good (g 34) (g 38) (g 23) gs ((f 15).toInt + 0) ((f 20).toInt) ((f 37).toInt + -1) ((f 32).toInt + 0) ((f 5).toInt + -1)) (p0 : 0 ≤ (f 4).toInt) (p1 : (f 4).toInt ≤ (f 0).toInt) (p2 : (f 0).toInt ≤ 512) (p3 : 0 ≤ (f 24).toInt) (p4 : (f 24).toInt + (f 20).toInt + mg_p1 gs ≤ 4 * (f 4).toInt) (p5 : (f 20).toInt ≤ (f 4).toInt) (p6 : (f 15).toInt + 0 + mg_p2 gs ≤ (f 4).toInt) (p7 : 1 + mg_p3 gs ≤ 20 * (f 4).toInt + 20) (p8 : 0 ≤ (f 68).toInt) (p9 : (f 68).toInt + 3 * (f 20).toInt + 0 + mg_p4 gs ≤ 60 * (f 4).toInt + 60) (p10 : 0 ≤ (f 62).toInt) (p11 : (f 62).toInt + 64 * mj_n (g 16) (f 15).toNatClampNeg 3 ≤ 64 * (f 4).toInt) (p12 : 0 ≤ (f 44).toInt) (p13 : (f 44).toInt ≤ (f 4).toInt) (p14 : 0 ≤ (f 48).toInt) (p15 : (f 48).toInt ≤ (f 4).toInt) (p16 : 1 ≤ (f 53).toInt) (p17 : (f 53).toInt ≤ (f 4).toInt + 1) (p18 : 0 ≤ (f 19).toInt) (p19 : (f 19).toInt ≤ 600) (p20 : 0 ≤ (f 6).toInt) (p21 : 0 ≤ (f 8).toInt) (p22 : 0 ≤ mg_p1 gs) (p23 : 0 ≤ mg_p2 gs) (p24 : 0 ≤ mg_p4 gs) (p25 : 0 ≤ (f 10).toInt) (p26 : (f 10).toInt ≤ mg_p3 gs) (p27 : 0 ≤ mj_n (g 16) (f 15).toNatClampNeg 3) (p28 : 0 ≤ (f 15).toInt) (p29 : 0 ≤ (f 20).toInt) (p30 : 1 ≤ (f 37).toInt) (p31 : 0 ≤ (f 32).toInt) (p32 : (f 32).toInt ≤ (f 5).toInt) (p33 : (f 5).toInt ≤ 48) (p34 : (f 37).toInt ≤ 2 * (f 5).toInt + 0) : am_E (am_PP sc) (d + 8) 180 0 [some (.ref 39), some (.int 2), some (.int on), some (.int tw), some (.int th)] [] S (am_N fun v S1 => ∃ (f' : Nat → Int32) (g' : Nat → Nat → Int32) (gs' : List mg_E) (bc' : List (List Nat)), v = none ∧ MS S0 S1 f' g' ∧ (mg_on f (100 * ((f 0).toInt - (f 4).toInt) + (1 + mg_p3 gs)) f' g' gs' bc' ∨ mg_off f f' g' bc')) := by
  have hbs := mg_basic hrest
  obtain ⟨c0, bc1, rfl⟩ := RJ.bcons hR (by omega)
  refine am_e1 (v := 2) hi_180_0 rfl ?_
  refine am_e0 hi_180_1 ?_
  refine am_e13t hi_180_3 (by decide) ?_
  refine am_e1 (v := 2) hi_180_14 rfl ?_
  refine am_e19 (t := 119) hi_180_15 (by decide) ?_
  refine am_e2 (v := 39) hi_180_119 rfl ?_
  refine am_e32w (as := [.ref 39]) (la := [some (.ref 39)]) (rest := []) hi_180_120 (am_hd0 (M := 180) (by decide) 120) (Nat.le_of_ble_eq_true rfl) (Nat.le_of_ble_eq_true rfl) (show 1 ≤ am_P0.2.2.1 242 from by decide +kernel) rfl (am_recv_ok hS.fs) rfl rfl ?_
  refine am_e2 (v := 39) hi_242_0 rfl ?_
  refine am_e32w (as := [.ref 39]) (la := [some (.ref 39)]) (rest := []) hi_242_1 (am_hd0 (M := 242) (by decide) 1) (Nat.le_of_ble_eq_true rfl) (Nat.le_of_ble_eq_true rfl) (show 1 ≤ am_P0.2.2.1 243 from by decide +kernel) rfl (am_recv_ok hS.fs) rfl rfl ?_
  refine am_e2 (v := 39) hi_243_0 rfl ?_
  refine mm_20 (v := .int (f 24)) hS hi_243_1 rfl ?_
  refine am_e2 (v := 39) hi_243_4 rfl ?_
  refine mm_20 (v := .ref 62) hS hi_243_5 rfl ?_
  refine am_e2 (v := 39) hi_243_8 rfl ?_
  refine mm_20 (v := .int (f 37)) hS hi_243_9 rfl ?_
  refine am_e0 hi_243_12 ?_
  obtain ⟨z0, hz0, tz0⟩ := am_subI (x := f 37) (y := 1) (m := (f 37).toInt) (n := (1 : Int)) rfl (by decide) (by omega) (by omega)
  refine am_e10 (z := z0) hi_243_13 hz0 ?_
  refine mm_25 hS ma_38 hi_243_14 (by decide) (by omega) (by omega) ?_
  show am_E _ _ _ _ [some (.ref 39)] [.int (g 38 z0.toNatClampNeg), .int (f 24)] _ _
  have r1 : 0 ≤ (g 38 z0.toNatClampNeg).toInt ∧ (g 38 z0.toNatClampNeg).toInt ≤ (f 24).toInt := RJ.bl (i := z0) hR (by omega) (by show z0.toInt < (f 37).toInt; omega)
  by_cases c2 : (f 24).toInt ≤ (g 38 z0.toNatClampNeg).toInt
  · refine am_e13t hi_243_15 (am_cT (m := (f 24).toInt) (n := (g 38 z0.toNatClampNeg).toInt) rfl rfl c2) ?_
    refine am_e0 hi_243_22 ?_
    refine am_e36 hi_243_23 (by decide) ?_
    show am_E _ _ _ _ [some (.ref 39)] [.int 0] _ _
    refine am_e12t hi_242_4 (by decide) ?_
    refine am_e2 (v := 39) hi_242_20 rfl ?_
    refine am_e32n (as := [.ref 39]) (la := [some (.ref 39), none, none]) (rest := []) hi_242_21 (am_hd0 (M := 242) (by decide) 21) (Nat.le_of_ble_eq_true rfl) (Nat.le_of_ble_eq_true rfl) (show 1 ≤ am_P0.2.2.1 224 from by decide +kernel) rfl (am_recv_ok hS.fs) rfl rfl (ct_dropBlock2 (d := (d + 6)) hS hR  (by show (0 : Int) ≤ (f 32).toInt; omega) (by show (f 32).toInt ≤ (63 : Int); omega) (by show (0 : Int) ≤ (f 48).toInt; omega) (by show (f 48).toInt ≤ (8192 : Int); omega) (by show (f 4).toInt ≤ (8192 : Int); omega) (by show (1 : Int) ≤ (f 37).toInt; omega) (by show (f 37).toInt ≤ (128 : Int); omega)) ?_
    rintro v3 S4 (⟨l5, z6, b7, g'8, hv9, hS10, hR19, h11, h12, h13, h14, h15, h16, h17, h18⟩)
    subst hv9
    have h11_ : z6.toInt = (f 37).toInt - 1 := h11
    have h12_ : (0 : Int) ≤ l5.toInt := h12
    have h13_ : l5.toInt ≤ (f 24).toInt := h13
    have h14_ : (0 : Int) ≤ b7.toInt := h14
    have h15_ : b7.toInt ≤ (f 4).toInt := h15
    have h16_ : ∀ j, j ∉ [52] → g'8 j = g j := h16
    have h17_ : ([] : List Nat) = [] → RJ (upd (upd (upd f 24 l5) 37 z6) 44 b7) g'8 gs bc1 c0 (g'8 43 z6.toNatClampNeg).toInt [] := h17
    have h18_ : l5 = g 38 z6.toNatClampNeg := h18
    have hR19_ : RJ (upd (upd (upd f 24 l5) 37 z6) 44 b7) g'8 gs bc1 [] 0 [] := hR19
    show am_E _ _ _ _ [some (.ref 39)] [] _ _
    refine am_e35 hi_242_24 ?_
    show am_E _ _ _ _ [some (.ref 39), some (.int 2), some (.int on), some (.int tw), some (.int th)] [] _ _
    refine am_e2 (v := 39) hi_180_123 rfl ?_
    refine am_e0 hi_180_124 ?_
    refine am_e32n (as := [.ref 39, .int 15]) (la := [some (.ref 39), some (.int 15)]) (rest := []) hi_180_126 (am_hd0 (M := 180) (by decide) 126) (Nat.le_of_ble_eq_true rfl) (Nat.le_of_ble_eq_true rfl) (show 2 ≤ am_P0.2.2.1 199 from by decide +kernel) rfl (am_recv_ok hS10.fs) rfl rfl (ct_leave (d := (d + 4)) hS10   (by show (0 : Int) ≤ (f 4).toInt; omega) (by show (f 0).toInt ≤ (16384 : Int); omega) (by show (0 : Int) ≤ (15 : Int); omega) (by show (0 : Int) ≤ (f 5).toInt; omega) (by show (f 5).toInt ≤ (48 : Int); omega) (by show (0 : Int) ≤ (f 6).toInt; omega)) ?_
    rintro v20 S21 (⟨z22, y23, hv24, hS25, h26, h27, h28⟩ | ⟨a30, b31, hv32, hS33, h34⟩)
    · subst hv24
      have h26_ : z22.toInt = (f 4).toInt + 1 := h26
      have h27_ : (f 4).toInt < (f 0).toInt := h27
      have h28_ : y23.toInt = (f 5).toInt - 1 := h28
      replace hS25 : MS S0 S21 (upd (upd (upd (upd (upd f 4 z22) 5 y23) 24 l5) 37 z6) 44 b7) g'8 := hS25
      have hR36 : RJ (upd (upd (upd (upd (upd f 4 z22) 5 y23) 24 l5) 37 z6) 44 b7) g'8 gs bc1 [] 0 [] := RJ.at hR19_ (by show (f 4).toInt ≤ z22.toInt; omega)
      show am_E _ _ _ _ [some (.ref 39), some (.int 2), some (.int on), some (.int tw), some (.int th)] [.int 1] _ _
      refine am_e6i hi_180_129 ?_
      refine am_e18 hi_180_130 ?_
      refine am_e35 hi_180_371 ?_
      have q1 : mg_p1 gs = mg_p1 gs := rfl
      have q2 : mg_p2 gs = mg_p2 gs := rfl
      have q3 : mg_p3 gs = mg_p3 gs := rfl
      have q4 : mg_p4 gs = mg_p4 gs := rfl
      refine ⟨_, _, _, bc1, rfl, hS25, Or.inl ⟨⟨hR36, ?_, ?_⟩, rfl, ?_⟩⟩
      · exact (mg_cast (mg_good_ext _ _ _ _ _ _ (fun i _ => by show g'8 34 i = g 34 i; rw [show g'8 34 = g 34 from h16_ 34 (by decide)]) (fun i _ => by show g'8 38 i = g 38 i; rw [show g'8 38 = g 38 from h16_ 38 (by decide)]) (fun i _ => by show g'8 23 i = g 23 i; rw [show g'8 23 = g 23 from h16_ 23 (by decide)]) hrest) (by show (f 15).toInt + 0 = (f 15).toInt; omega) (by show (f 20).toInt = (f 20).toInt; omega) (by show (f 37).toInt + -1 = z6.toInt; omega) (by show (f 32).toInt + 0 = (f 32).toInt; omega) (by show (f 5).toInt + -1 = y23.toInt; omega) : mg_good (g'8 34) (g'8 38) (g'8 23) gs ((f 15).toInt) ((f 20).toInt) (z6.toInt) ((f 32).toInt) (y23.toInt))
      · exact ⟨(by show 0 ≤ z22.toInt; omega), (by show z22.toInt ≤ (f 0).toInt; omega), (by show (f 0).toInt ≤ 512; omega), (by show 0 ≤ l5.toInt; omega), (by show l5.toInt + (f 20).toInt + mg_p1 gs ≤ 4 * z22.toInt; omega), (by show (f 20).toInt ≤ z22.toInt; omega), (by show (f 15).toInt + mg_p2 gs ≤ z22.toInt; omega), (by show mg_p3 gs ≤ 20 * z22.toInt + 20; omega), (by show 0 ≤ (f 68).toInt; omega), (by show (f 68).toInt + 3 * (f 20).toInt + mg_p4 gs ≤ 60 * z22.toInt + 60; omega), (by show 0 ≤ (f 62).toInt; omega), (by show (f 62).toInt + 64 * mj_n (g'8 16) (f 15).toNatClampNeg 3 ≤ 64 * z22.toInt; rw [show g'8 16 = g 16 from h16_ 16 (by decide)]; omega), (by show 0 ≤ b7.toInt; omega), (by show b7.toInt ≤ z22.toInt; omega), (by show 0 ≤ (f 48).toInt; omega), (by show (f 48).toInt ≤ z22.toInt; omega), (by show 1 ≤ (f 53).toInt; omega), (by show (f 53).toInt ≤ z22.toInt + 1; omega), (by show 0 ≤ (f 19).toInt; omega), (by show (f 19).toInt ≤ 600; omega), (by show 0 ≤ (f 6).toInt; omega), (by show 0 ≤ (f 8).toInt; omega)⟩
      · show 100 * ((f 0).toInt - z22.toInt) + mg_p3 gs < 100 * ((f 0).toInt - (f 4).toInt) + (1 + mg_p3 gs); omega
    · subst hv32
      have h34_ : (0 : Int) ≤ a30.toInt := h34
      replace hS33 : MS S0 S21 (upd (upd (upd (upd (upd (upd f 6 a30) 7 b31) 10 0) 24 l5) 37 z6) 44 b7) g'8 := hS33
      have hR37 := rj_clear0 hR19_
      have hR38 : RJ (upd (upd (upd (upd (upd (upd f 6 a30) 7 b31) 10 0) 24 l5) 37 z6) 44 b7) g'8 [] bc1 [] 0 [] := hR37
      show am_E _ _ _ _ [some (.ref 39), some (.int 2), some (.int on), some (.int tw), some (.int th)] [.int 0] _ _
      refine am_e6i hi_180_129 ?_
      refine am_e18 hi_180_130 ?_
      refine am_e35 hi_180_371 ?_
      have hRc := rj_clear0 hR38
      refine ⟨_, _, [], _, rfl, hS33, Or.inr ⟨hRc, rfl, (by show 0 ≤ (f 4).toInt; omega), (by show (f 4).toInt ≤ (f 0).toInt; omega), (by show 0 ≤ (f 32).toInt; omega), (by show (f 32).toInt ≤ 63; omega), (by show 1 ≤ (f 53).toInt; omega), (by show (f 53).toInt ≤ 600; omega), (by show 0 ≤ (f 68).toInt; omega), (by show (f 68).toInt ≤ 60000; omega), (by show 0 ≤ (f 48).toInt; omega), (by show (f 48).toInt ≤ 8000; omega), (by show 0 ≤ z6.toInt; omega), (by show z6.toInt ≤ 128; omega), (by show 0 ≤ (f 62).toInt; omega), (by show (f 62).toInt ≤ 65000; omega), (by show 0 ≤ (f 19).toInt; omega), (by show (f 19).toInt ≤ 600; omega), (by show 0 ≤ a30.toInt; omega), (by show 0 ≤ (f 8).toInt; omega)⟩⟩
  · refine am_e13f hi_243_15 (am_cF (m := (f 24).toInt) (n := (g 38 z0.toNatClampNeg).toInt) rfl rfl c2) ?_
    refine am_e0 hi_243_18 ?_
    refine am_e18 hi_243_19 ?_
    refine am_e36 hi_243_23 (by decide) ?_
    show am_E _ _ _ _ [some (.ref 39)] [.int 1] _ _
    refine am_e12f hi_242_4 (by decide) ?_
    refine am_e2 (v := 39) hi_242_7 rfl ?_
    refine am_e0 hi_242_8 ?_
    refine am_e2 (v := 39) hi_242_10 rfl ?_
    refine am_e32w (as := [.ref 39]) (la := [some (.ref 39)]) (rest := [.int 33, .ref 39]) hi_242_11 (am_hd0 (M := 242) (by decide) 11) (Nat.le_of_ble_eq_true rfl) (Nat.le_of_ble_eq_true rfl) (show 1 ≤ am_P0.2.2.1 232 from by decide +kernel) rfl (am_recv_ok hS.fs) rfl rfl ?_
    refine am_e2 (v := 39) hi_232_0 rfl ?_
    refine mm_20 (v := .ref 62) hS hi_232_1 rfl ?_
    refine am_e2 (v := 39) hi_232_4 rfl ?_
    refine mm_20 (v := .int (f 37)) hS hi_232_5 rfl ?_
    refine am_e0 hi_232_8 ?_
    refine am_e10 (z := z0) hi_232_9 hz0 ?_
    refine mm_25 hS ma_38 hi_232_10 (by decide) (by omega) (by omega) ?_
    show am_E _ _ _ _ [some (.ref 39)] [.int (g 38 z0.toNatClampNeg)] _ _
    have r39 : 0 ≤ (g 38 z0.toNatClampNeg).toInt ∧ (g 38 z0.toNatClampNeg).toInt ≤ (f 24).toInt := RJ.bl (i := z0) hR (by omega) (by show z0.toInt < (f 37).toInt; omega)
    refine am_e2 (v := 39) hi_232_11 rfl ?_
    refine mm_20 (v := .ref 59) hS hi_232_12 rfl ?_
    refine am_e2 (v := 39) hi_232_15 rfl ?_
    refine mm_20 (v := .int (f 32)) hS hi_232_16 rfl ?_
    refine mm_25 hS ma_34 hi_232_19 (by decide) (by omega) (by omega) ?_
    show am_E _ _ _ _ [some (.ref 39)] [.int (g 34 (f 32).toNatClampNeg), .int (g 38 z0.toNatClampNeg)] _ _
    have r40 : 0 ≤ (g 34 (f 32).toNatClampNeg).toInt := RJ.ba hR (f 32).toNatClampNeg
    obtain ⟨z41, hz41⟩ : ∃ q__, am_bin 1 (g 38 z0.toNatClampNeg) (g 34 (f 32).toNatClampNeg) = q__ := ⟨_, rfl⟩
    refine am_e10 (z := z41) hi_232_20 hz41 ?_
    refine am_e33 hi_232_21 ?_
    show am_E _ _ _ _ [some (.ref 39)] [.int z41, .int 33, .ref 39] _ _
    refine am_e0 hi_242_14 ?_
    refine am_e0 hi_242_15 ?_
    refine am_e32n (as := [.ref 39, .int 33, .int z41, .int 0, .int 0]) (la := [some (.ref 39), some (.int 33), some (.int z41), some (.int 0), some (.int 0)]) (rest := []) hi_242_16 (am_hd0 (M := 242) (by decide) 16) (Nat.le_of_ble_eq_true rfl) (Nat.le_of_ble_eq_true rfl) (show 5 ≤ am_P0.2.2.1 189 from by decide +kernel) rfl (am_recv_ok hS.fs) rfl rfl (ct_put (d := (d + 6)) hS hR  (by show (0 : Int) ≤ (f 32).toInt; omega) (by show (f 32).toInt ≤ (63 : Int); omega) (by show (f 53).toInt ≤ (4096 : Int); omega) (by show (0 : Int) ≤ (f 68).toInt; omega) (by show (f 68).toInt ≤ (65534 : Int); omega)) ?_
    rintro v42 S43 (⟨z44, r45, g'46, hv47, hS48, hR52, h49, h50, h51⟩)
    subst hv47
    have h49_ : z44.toInt = (f 68).toInt + 1 := h49
    have h50_ : r45.toInt = (f 68).toInt := h50
    have h51_ : ∀ j, j ∉ [60, 69, 70, 71, 72, 73] → g'46 j = g j := h51
    have hR52_ : RJ (upd f 68 z44) g'46 gs (c0 :: bc1) [] 0 ((f 68).toNatClampNeg :: []) := hR52
    show am_E _ _ _ _ [some (.ref 39)] [.int r45] _ _
    refine am_e6i hi_242_19 ?_
    refine am_e2 (v := 39) hi_242_20 rfl ?_
    refine am_e32n (as := [.ref 39]) (la := [some (.ref 39), none, none]) (rest := []) hi_242_21 (am_hd0 (M := 242) (by decide) 21) (Nat.le_of_ble_eq_true rfl) (Nat.le_of_ble_eq_true rfl) (show 1 ≤ am_P0.2.2.1 224 from by decide +kernel) rfl (am_recv_ok hS48.fs) rfl rfl (ct_dropBlock2 (d := (d + 6)) hS48 hR52_  (by show (0 : Int) ≤ (f 32).toInt; omega) (by show (f 32).toInt ≤ (63 : Int); omega) (by show (0 : Int) ≤ (f 48).toInt; omega) (by show (f 48).toInt ≤ (8192 : Int); omega) (by show (f 4).toInt ≤ (8192 : Int); omega) (by show (1 : Int) ≤ (f 37).toInt; omega) (by show (f 37).toInt ≤ (128 : Int); omega)) ?_
    rintro v53 S54 (⟨l55, z56, b57, g'58, hv59, hS60, hR69, h61, h62, h63, h64, h65, h66, h67, h68⟩)
    subst hv59
    have h61_ : z56.toInt = (f 37).toInt - 1 := h61
    have h62_ : (0 : Int) ≤ l55.toInt := h62
    have h63_ : l55.toInt ≤ (f 24).toInt := h63
    have h64_ : (0 : Int) ≤ b57.toInt := h64
    have h65_ : b57.toInt ≤ (f 4).toInt := h65
    have h66_ : ∀ j, j ∉ [52] → g'58 j = g'46 j := h66
    have h67_ : ([] : List Nat) = [] → RJ (upd (upd (upd (upd f 24 l55) 37 z56) 44 b57) 68 z44) g'58 gs bc1 c0 (g'58 43 z56.toNatClampNeg).toInt ((f 68).toNatClampNeg :: []) := h67
    have h68_ : l55 = g'46 38 z56.toNatClampNeg := h68
    replace hS60 : MS S0 S54 (upd (upd (upd (upd f 24 l55) 37 z56) 44 b57) 68 z44) g'58 := hS60
    have hR69_ : RJ (upd (upd (upd (upd f 24 l55) 37 z56) 44 b57) 68 z44) g'58 gs bc1 [] 0 ((f 68).toNatClampNeg :: []) := hR69
    show am_E _ _ _ _ [some (.ref 39)] [] _ _
    refine am_e35 hi_242_24 ?_
    show am_E _ _ _ _ [some (.ref 39), some (.int 2), some (.int on), some (.int tw), some (.int th)] [] _ _
    refine am_e2 (v := 39) hi_180_123 rfl ?_
    refine am_e0 hi_180_124 ?_
    refine am_e32n (as := [.ref 39, .int 15]) (la := [some (.ref 39), some (.int 15)]) (rest := []) hi_180_126 (am_hd0 (M := 180) (by decide) 126) (Nat.le_of_ble_eq_true rfl) (Nat.le_of_ble_eq_true rfl) (show 2 ≤ am_P0.2.2.1 199 from by decide +kernel) rfl (am_recv_ok hS60.fs) rfl rfl (ct_leave (d := (d + 4)) hS60   (by show (0 : Int) ≤ (f 4).toInt; omega) (by show (f 0).toInt ≤ (16384 : Int); omega) (by show (0 : Int) ≤ (15 : Int); omega) (by show (0 : Int) ≤ (f 5).toInt; omega) (by show (f 5).toInt ≤ (48 : Int); omega) (by show (0 : Int) ≤ (f 6).toInt; omega)) ?_
    rintro v70 S71 (⟨z72, y73, hv74, hS75, h76, h77, h78⟩ | ⟨a80, b81, hv82, hS83, h84⟩)
    · subst hv74
      have h76_ : z72.toInt = (f 4).toInt + 1 := h76
      have h77_ : (f 4).toInt < (f 0).toInt := h77
      have h78_ : y73.toInt = (f 5).toInt - 1 := h78
      replace hS75 : MS S0 S71 (upd (upd (upd (upd (upd (upd f 4 z72) 5 y73) 24 l55) 37 z56) 44 b57) 68 z44) g'58 := hS75
      have hR86 : RJ (upd (upd (upd (upd (upd (upd f 4 z72) 5 y73) 24 l55) 37 z56) 44 b57) 68 z44) g'58 gs bc1 [] 0 ((f 68).toNatClampNeg :: []) := RJ.at hR69_ (by show (f 4).toInt ≤ z72.toInt; omega)
      show am_E _ _ _ _ [some (.ref 39), some (.int 2), some (.int on), some (.int tw), some (.int th)] [.int 1] _ _
      refine am_e6i hi_180_129 ?_
      refine am_e18 hi_180_130 ?_
      refine am_e35 hi_180_371 ?_
      have q1 : mg_p1 gs = mg_p1 gs := rfl
      have q2 : mg_p2 gs = mg_p2 gs := rfl
      have q3 : mg_p3 gs = mg_p3 gs := rfl
      have q4 : mg_p4 gs = mg_p4 gs := rfl
      refine ⟨_, _, _, bc1, rfl, hS75, Or.inl ⟨⟨(RJ.fewer (pj' := []) hR86 (fun _ h => nomatch h)), ?_, ?_⟩, rfl, ?_⟩⟩
      · exact (mg_cast (mg_good_ext _ _ _ _ _ _ (fun i _ => by show g'58 34 i = g 34 i; rw [show g'58 34 = g'46 34 from h66_ 34 (by decide), show g'46 34 = g 34 from h51_ 34 (by decide)]) (fun i _ => by show g'58 38 i = g 38 i; rw [show g'58 38 = g'46 38 from h66_ 38 (by decide), show g'46 38 = g 38 from h51_ 38 (by decide)]) (fun i _ => by show g'58 23 i = g 23 i; rw [show g'58 23 = g'46 23 from h66_ 23 (by decide), show g'46 23 = g 23 from h51_ 23 (by decide)]) hrest) (by show (f 15).toInt + 0 = (f 15).toInt; omega) (by show (f 20).toInt = (f 20).toInt; omega) (by show (f 37).toInt + -1 = z56.toInt; omega) (by show (f 32).toInt + 0 = (f 32).toInt; omega) (by show (f 5).toInt + -1 = y73.toInt; omega) : mg_good (g'58 34) (g'58 38) (g'58 23) gs ((f 15).toInt) ((f 20).toInt) (z56.toInt) ((f 32).toInt) (y73.toInt))
      · exact ⟨(by show 0 ≤ z72.toInt; omega), (by show z72.toInt ≤ (f 0).toInt; omega), (by show (f 0).toInt ≤ 512; omega), (by show 0 ≤ l55.toInt; omega), (by show l55.toInt + (f 20).toInt + mg_p1 gs ≤ 4 * z72.toInt; omega), (by show (f 20).toInt ≤ z72.toInt; omega), (by show (f 15).toInt + mg_p2 gs ≤ z72.toInt; omega), (by show mg_p3 gs ≤ 20 * z72.toInt + 20; omega), (by show 0 ≤ z44.toInt; omega), (by show z44.toInt + 3 * (f 20).toInt + mg_p4 gs ≤ 60 * z72.toInt + 60; omega), (by show 0 ≤ (f 62).toInt; omega), (by show (f 62).toInt + 64 * mj_n (g'58 16) (f 15).toNatClampNeg 3 ≤ 64 * z72.toInt; rw [show g'58 16 = g'46 16 from h66_ 16 (by decide), show g'46 16 = g 16 from h51_ 16 (by decide)]; omega), (by show 0 ≤ b57.toInt; omega), (by show b57.toInt ≤ z72.toInt; omega), (by show 0 ≤ (f 48).toInt; omega), (by show (f 48).toInt ≤ z72.toInt; omega), (by show 1 ≤ (f 53).toInt; omega), (by show (f 53).toInt ≤ z72.toInt + 1; omega), (by show 0 ≤ (f 19).toInt; omega), (by show (f 19).toInt ≤ 600; omega), (by show 0 ≤ (f 6).toInt; omega), (by show 0 ≤ (f 8).toInt; omega)⟩
      · show 100 * ((f 0).toInt - z72.toInt) + mg_p3 gs < 100 * ((f 0).toInt - (f 4).toInt) + (1 + mg_p3 gs); omega
    · subst hv82
      have h84_ : (0 : Int) ≤ a80.toInt := h84
      replace hS83 : MS S0 S71 (upd (upd (upd (upd (upd (upd (upd f 6 a80) 7 b81) 10 0) 24 l55) 37 z56) 44 b57) 68 z44) g'58 := hS83
      have hR87 := rj_clear0 hR69_
      have hR88 : RJ (upd (upd (upd (upd (upd (upd (upd f 6 a80) 7 b81) 10 0) 24 l55) 37 z56) 44 b57) 68 z44) g'58 [] bc1 [] 0 [] := hR87
      show am_E _ _ _ _ [some (.ref 39), some (.int 2), some (.int on), some (.int tw), some (.int th)] [.int 0] _ _
      refine am_e6i hi_180_129 ?_
      refine am_e18 hi_180_130 ?_
      refine am_e35 hi_180_371 ?_
      have hRc := rj_clear0 hR88
      refine ⟨_, _, [], _, rfl, hS83, Or.inr ⟨hRc, rfl, (by show 0 ≤ (f 4).toInt; omega), (by show (f 4).toInt ≤ (f 0).toInt; omega), (by show 0 ≤ (f 32).toInt; omega), (by show (f 32).toInt ≤ 63; omega), (by show 1 ≤ (f 53).toInt; omega), (by show (f 53).toInt ≤ 600; omega), (by show 0 ≤ z44.toInt; omega), (by show z44.toInt ≤ 60000; omega), (by show 0 ≤ (f 48).toInt; omega), (by show (f 48).toInt ≤ 8000; omega), (by show 0 ≤ z56.toInt; omega), (by show z56.toInt ≤ 128; omega), (by show 0 ≤ (f 62).toInt; omega), (by show (f 62).toInt ≤ 65000; omega), (by show 0 ≤ (f 19).toInt; omega), (by show (f 19).toInt ≤ 600; omega), (by show 0 ≤ a80.toInt; omega), (by show 0 ≤ (f 8).toInt; omega)⟩⟩
set_option maxHeartbeats 16000000 in
theorem st_4 {sc : Nat × (Nat → Int32)} {d : Nat} {S0 S : am_S} {f : Nat → Int32} {g : Nat → Nat → Int32} {on : Int32} {tw : Int32} {th : Int32} {gs : List mg_E} {bc : List (List Nat)} (hS : MS S0 S f g) (hR : RJ f g gs bc [] 0 [on.toInt.toNat]) (hrest : mg_good (g 34) (g 38) (g 23) gs ((f 15).toInt + 0) ((f 20).toInt) ((f 37).toInt + -1) ((f 32).toInt + 0) ((f 5).toInt + -1)) (p0 : 0 ≤ (f 4).toInt) (p1 : (f 4).toInt ≤ (f 0).toInt) (p2 : (f 0).toInt ≤ 512) (p3 : 0 ≤ (f 24).toInt) (p4 : (f 24).toInt + (f 20).toInt + mg_p1 gs ≤ 4 * (f 4).toInt) (p5 : (f 20).toInt ≤ (f 4).toInt) (p6 : (f 15).toInt + 0 + mg_p2 gs ≤ (f 4).toInt) (p7 : 1 + mg_p3 gs ≤ 20 * (f 4).toInt + 20) (p8 : 0 ≤ (f 68).toInt) (p9 : (f 68).toInt + 3 * (f 20).toInt + 0 + mg_p4 gs ≤ 60 * (f 4).toInt + 60) (p10 : 0 ≤ (f 62).toInt) (p11 : (f 62).toInt + 64 * mj_n (g 16) (f 15).toNatClampNeg 3 ≤ 64 * (f 4).toInt) (p12 : 0 ≤ (f 44).toInt) (p13 : (f 44).toInt ≤ (f 4).toInt) (p14 : 0 ≤ (f 48).toInt) (p15 : (f 48).toInt ≤ (f 4).toInt) (p16 : 1 ≤ (f 53).toInt) (p17 : (f 53).toInt ≤ (f 4).toInt + 1) (p18 : 0 ≤ (f 19).toInt) (p19 : (f 19).toInt ≤ 600) (p20 : 0 ≤ (f 6).toInt) (p21 : 0 ≤ (f 8).toInt) (p22 : 0 ≤ mg_p1 gs) (p23 : 0 ≤ mg_p2 gs) (p24 : 0 ≤ mg_p4 gs) (p25 : 0 ≤ (f 10).toInt) (p26 : (f 10).toInt ≤ mg_p3 gs) (p27 : 0 ≤ mj_n (g 16) (f 15).toNatClampNeg 3) (p28 : 0 ≤ (f 15).toInt) (p29 : 0 ≤ (f 20).toInt) (p30 : 1 ≤ (f 37).toInt) (p31 : 0 ≤ (f 32).toInt) (p32 : (f 32).toInt ≤ (f 5).toInt) (p33 : (f 5).toInt ≤ 48) (p34 : (f 37).toInt ≤ 2 * (f 5).toInt + 0) (p35 : 0 ≤ on.toInt) (p36 : on.toInt < (f 68).toInt) : am_E (am_PP sc) (d + 8) 180 0 [some (.ref 39), some (.int 4), some (.int on), some (.int tw), some (.int th)] [] S (am_N fun v S1 => ∃ (f' : Nat → Int32) (g' : Nat → Nat → Int32) (gs' : List mg_E) (bc' : List (List Nat)), v = none ∧ MS S0 S1 f' g' ∧ (mg_on f (100 * ((f 0).toInt - (f 4).toInt) + (1 + mg_p3 gs)) f' g' gs' bc' ∨ mg_off f f' g' bc')) := by
  have hbs := mg_basic hrest
  obtain ⟨c0, bc1, rfl⟩ := RJ.bcons hR (by omega)
  refine am_e1 (v := 4) hi_180_0 rfl ?_
  refine am_e0 hi_180_1 ?_
  refine am_e13t hi_180_3 (by decide) ?_
  refine am_e1 (v := 4) hi_180_14 rfl ?_
  refine am_e19 (t := 141) hi_180_15 (by decide) ?_
  refine am_e2 (v := 39) hi_180_141 rfl ?_
  refine am_e1 (v := on) hi_180_142 rfl ?_
  refine am_e1 (v := tw) hi_180_143 rfl ?_
  refine am_e32w (as := [.ref 39, .int on, .int tw]) (la := [some (.ref 39), some (.int on), some (.int tw)]) (rest := []) hi_180_144 (am_hd0 (M := 180) (by decide) 144) (Nat.le_of_ble_eq_true rfl) (Nat.le_of_ble_eq_true rfl) (show 3 ≤ am_P0.2.2.1 245 from by decide +kernel) rfl (am_recv_ok hS.fs) rfl rfl ?_
  refine am_e2 (v := 39) hi_245_0 rfl ?_
  refine am_e32w (as := [.ref 39]) (la := [some (.ref 39)]) (rest := []) hi_245_1 (am_hd0 (M := 245) (by decide) 1) (Nat.le_of_ble_eq_true rfl) (Nat.le_of_ble_eq_true rfl) (show 1 ≤ am_P0.2.2.1 242 from by decide +kernel) rfl (am_recv_ok hS.fs) rfl rfl ?_
  refine am_e2 (v := 39) hi_242_0 rfl ?_
  refine am_e32w (as := [.ref 39]) (la := [some (.ref 39)]) (rest := []) hi_242_1 (am_hd0 (M := 242) (by decide) 1) (Nat.le_of_ble_eq_true rfl) (Nat.le_of_ble_eq_true rfl) (show 1 ≤ am_P0.2.2.1 243 from by decide +kernel) rfl (am_recv_ok hS.fs) rfl rfl ?_
  refine am_e2 (v := 39) hi_243_0 rfl ?_
  refine mm_20 (v := .int (f 24)) hS hi_243_1 rfl ?_
  refine am_e2 (v := 39) hi_243_4 rfl ?_
  refine mm_20 (v := .ref 62) hS hi_243_5 rfl ?_
  refine am_e2 (v := 39) hi_243_8 rfl ?_
  refine mm_20 (v := .int (f 37)) hS hi_243_9 rfl ?_
  refine am_e0 hi_243_12 ?_
  obtain ⟨z0, hz0, tz0⟩ := am_subI (x := f 37) (y := 1) (m := (f 37).toInt) (n := (1 : Int)) rfl (by decide) (by omega) (by omega)
  refine am_e10 (z := z0) hi_243_13 hz0 ?_
  refine mm_25 hS ma_38 hi_243_14 (by decide) (by omega) (by omega) ?_
  show am_E _ _ _ _ [some (.ref 39)] [.int (g 38 z0.toNatClampNeg), .int (f 24)] _ _
  have r1 : 0 ≤ (g 38 z0.toNatClampNeg).toInt ∧ (g 38 z0.toNatClampNeg).toInt ≤ (f 24).toInt := RJ.bl (i := z0) hR (by omega) (by show z0.toInt < (f 37).toInt; omega)
  by_cases c2 : (f 24).toInt ≤ (g 38 z0.toNatClampNeg).toInt
  · refine am_e13t hi_243_15 (am_cT (m := (f 24).toInt) (n := (g 38 z0.toNatClampNeg).toInt) rfl rfl c2) ?_
    refine am_e0 hi_243_22 ?_
    refine am_e36 hi_243_23 (by decide) ?_
    show am_E _ _ _ _ [some (.ref 39)] [.int 0] _ _
    refine am_e12t hi_242_4 (by decide) ?_
    refine am_e2 (v := 39) hi_242_20 rfl ?_
    refine am_e32n (as := [.ref 39]) (la := [some (.ref 39), none, none]) (rest := []) hi_242_21 (am_hd0 (M := 242) (by decide) 21) (Nat.le_of_ble_eq_true rfl) (Nat.le_of_ble_eq_true rfl) (show 1 ≤ am_P0.2.2.1 224 from by decide +kernel) rfl (am_recv_ok hS.fs) rfl rfl (ct_dropBlock2 (d := (d + 5)) hS hR  (by show (0 : Int) ≤ (f 32).toInt; omega) (by show (f 32).toInt ≤ (63 : Int); omega) (by show (0 : Int) ≤ (f 48).toInt; omega) (by show (f 48).toInt ≤ (8192 : Int); omega) (by show (f 4).toInt ≤ (8192 : Int); omega) (by show (1 : Int) ≤ (f 37).toInt; omega) (by show (f 37).toInt ≤ (128 : Int); omega)) ?_
    rintro v3 S4 (⟨l5, z6, b7, g'8, hv9, hS10, hR19, h11, h12, h13, h14, h15, h16, h17, h18⟩)
    subst hv9
    have h11_ : z6.toInt = (f 37).toInt - 1 := h11
    have h12_ : (0 : Int) ≤ l5.toInt := h12
    have h13_ : l5.toInt ≤ (f 24).toInt := h13
    have h14_ : (0 : Int) ≤ b7.toInt := h14
    have h15_ : b7.toInt ≤ (f 4).toInt := h15
    have h16_ : ∀ j, j ∉ [52] → g'8 j = g j := h16
    have h17_ : ([] : List Nat) = [] → RJ (upd (upd (upd f 24 l5) 37 z6) 44 b7) g'8 gs bc1 c0 (g'8 43 z6.toNatClampNeg).toInt [on.toInt.toNat] := h17
    have h18_ : l5 = g 38 z6.toNatClampNeg := h18
    have hR19_ : RJ (upd (upd (upd f 24 l5) 37 z6) 44 b7) g'8 gs bc1 [] 0 [on.toInt.toNat] := hR19
    have hR20 : RJ (upd (upd (upd f 24 l5) 37 z6) 44 b7) g'8 gs bc1 c0 (g'8 43 z6.toNatClampNeg).toInt [on.toInt.toNat] := h17_ rfl
    show am_E _ _ _ _ [some (.ref 39)] [] _ _
    refine am_e35 hi_242_24 ?_
    show am_E _ _ _ _ [some (.ref 39), some (.int on), some (.int tw)] [] _ _
    refine am_e2 (v := 39) hi_245_4 rfl ?_
    refine am_e0 hi_245_5 ?_
    refine am_e1 (v := tw) hi_245_7 rfl ?_
    refine am_e0 hi_245_8 ?_
    refine am_e0 hi_245_9 ?_
    refine am_e32n (as := [.ref 39, .int 36, .int tw, .int 0, .int 0]) (la := [some (.ref 39), some (.int 36), some (.int tw), some (.int 0), some (.int 0)]) (rest := []) hi_245_10 (am_hd0 (M := 245) (by decide) 10) (Nat.le_of_ble_eq_true rfl) (Nat.le_of_ble_eq_true rfl) (show 5 ≤ am_P0.2.2.1 189 from by decide +kernel) rfl (am_recv_ok hS10.fs) rfl rfl (ct_put (d := (d + 6)) hS10 hR20  (by show (0 : Int) ≤ (f 32).toInt; omega) (by show (f 32).toInt ≤ (63 : Int); omega) (by show (f 53).toInt ≤ (4096 : Int); omega) (by show (0 : Int) ≤ (f 68).toInt; omega) (by show (f 68).toInt ≤ (65534 : Int); omega)) ?_
    rintro v21 S22 (⟨z23, r24, g'25, hv26, hS27, hR31, h28, h29, h30⟩)
    subst hv26
    have h28_ : z23.toInt = (f 68).toInt + 1 := h28
    have h29_ : r24.toInt = (f 68).toInt := h29
    have h30_ : ∀ j, j ∉ [60, 69, 70, 71, 72, 73] → g'25 j = g'8 j := h30
    have hR31_ : RJ (upd (upd (upd (upd f 24 l5) 37 z6) 44 b7) 68 z23) g'25 gs bc1 c0 (g'8 43 z6.toNatClampNeg).toInt ((f 68).toNatClampNeg :: [on.toInt.toNat]) := hR31
    show am_E _ _ _ _ [some (.ref 39), some (.int on), some (.int tw)] [.int r24] _ _
    refine am_e6i hi_245_13 ?_
    refine am_e2 (v := 39) hi_245_14 rfl ?_
    refine mm_20 (v := .ref 90) hS27 hi_245_15 rfl ?_
    refine am_e1 (v := on) hi_245_18 rfl ?_
    refine am_e2 (v := 39) hi_245_19 rfl ?_
    refine am_e32n (as := [.ref 39]) (la := [some (.ref 39)]) (rest := [.int on, .ref 90]) hi_245_20 (am_hd0 (M := 245) (by decide) 20) (Nat.le_of_ble_eq_true rfl) (Nat.le_of_ble_eq_true rfl) (show 1 ≤ am_P0.2.2.1 210 from by decide +kernel) rfl (am_recv_ok hS27.fs) rfl rfl (ct_here (d := (d + 6)) hS27 hR31_  (by show (0 : Int) ≤ (f 32).toInt; omega) (by show (f 32).toInt ≤ (63 : Int); omega) (by show (f 53).toInt ≤ (4096 : Int); omega) (by show (0 : Int) ≤ z23.toInt; omega) (by show z23.toInt ≤ (65534 : Int); omega)) ?_
    rintro v32 S33 (⟨r34, hv35, hS36, h37, h38⟩)
    subst hv35
    have h37_ : (0 : Int) ≤ r34.toInt := h37
    have h38_ : r34.toInt ≤ z23.toInt := h38
    show am_E _ _ _ _ [some (.ref 39), some (.int on), some (.int tw)] [.int r34, .int on, .ref 90] _ _
    refine mm_26 hS36 ma_71 hi_245_23 (by decide) (by omega) (by omega) (fun h => nomatch h) ?_
    intro S40 hS41
    have hix76 : on.toNatClampNeg = on.toInt.toNat := by first | rfl | (rw [cl_toNat, cl_toNat]; omega)
    have hR42 : RJ (upd (upd (upd (upd f 24 l5) 37 z6) 44 b7) 68 z23) (upg g'25 71 on.toNatClampNeg r34) gs bc1 c0 (g'8 43 z6.toNatClampNeg).toInt ((f 68).toNatClampNeg :: [on.toInt.toNat]) := by rw [hix76]; exact RJ.lead hR31_ (RJ.pjn hR31_ (show on.toInt.toNat ∈ _ from by simp only [List.mem_cons, true_or, or_true]))
    refine am_e2 (v := 39) hi_245_24 rfl ?_
    refine am_e32n (as := [.ref 39]) (la := [some (.ref 39), none, none]) (rest := []) hi_245_25 (am_hd0 (M := 245) (by decide) 25) (Nat.le_of_ble_eq_true rfl) (Nat.le_of_ble_eq_true rfl) (show 1 ≤ am_P0.2.2.1 246 from by decide +kernel) rfl (am_recv_ok hS41.fs) rfl rfl (ct_mendBreaks (d := (d + 5)) hS41 hR42 (show (g'25 43 z6.toNatClampNeg).toInt = (g'8 43 z6.toNatClampNeg).toInt from by rw [show g'25 43 = g'8 43 from h30_ 43 (by decide)]) (by show (0 : Int) ≤ (f 32).toInt; omega) (by show (f 32).toInt ≤ (63 : Int); omega) (by show (f 53).toInt ≤ (4096 : Int); omega) (by show (0 : Int) ≤ z23.toInt; omega) (by show z23.toInt ≤ (65534 : Int); omega) (by show (0 : Int) ≤ z6.toInt; omega) (by show z6.toInt ≤ (127 : Int); omega)) ?_
    rintro v43 S44 (⟨g'45, hv46, hS47, hR49, h48⟩)
    subst hv46
    have h48_ : ∀ j, j ∉ [71] → g'45 j = (upg g'25 71 on.toNatClampNeg r34) j := h48
    have hR49_ : RJ (upd (upd (upd (upd f 24 l5) 37 z6) 44 b7) 68 z23) g'45 gs bc1 [] 0 ((f 68).toNatClampNeg :: [on.toInt.toNat]) := hR49
    show am_E _ _ _ _ [some (.ref 39), some (.int on), some (.int tw)] [] _ _
    refine am_e2 (v := 39) hi_245_28 rfl ?_
    refine am_e0 hi_245_29 ?_
    refine am_e32n (as := [.ref 39, .int 15]) (la := [some (.ref 39), some (.int 15)]) (rest := []) hi_245_31 (am_hd0 (M := 245) (by decide) 31) (Nat.le_of_ble_eq_true rfl) (Nat.le_of_ble_eq_true rfl) (show 2 ≤ am_P0.2.2.1 199 from by decide +kernel) rfl (am_recv_ok hS47.fs) rfl rfl (ct_leave (d := (d + 3)) hS47   (by show (0 : Int) ≤ (f 4).toInt; omega) (by show (f 0).toInt ≤ (16384 : Int); omega) (by show (0 : Int) ≤ (15 : Int); omega) (by show (0 : Int) ≤ (f 5).toInt; omega) (by show (f 5).toInt ≤ (48 : Int); omega) (by show (0 : Int) ≤ (f 6).toInt; omega)) ?_
    rintro v50 S51 (⟨z52, y53, hv54, hS55, h56, h57, h58⟩ | ⟨a60, b61, hv62, hS63, h64⟩)
    · subst hv54
      have h56_ : z52.toInt = (f 4).toInt + 1 := h56
      have h57_ : (f 4).toInt < (f 0).toInt := h57
      have h58_ : y53.toInt = (f 5).toInt - 1 := h58
      replace hS55 : MS S0 S51 (upd (upd (upd (upd (upd (upd f 4 z52) 5 y53) 24 l5) 37 z6) 44 b7) 68 z23) g'45 := hS55
      have hR66 : RJ (upd (upd (upd (upd (upd (upd f 4 z52) 5 y53) 24 l5) 37 z6) 44 b7) 68 z23) g'45 gs bc1 [] 0 ((f 68).toNatClampNeg :: [on.toInt.toNat]) := RJ.at hR49_ (by show (f 4).toInt ≤ z52.toInt; omega)
      show am_E _ _ _ _ [some (.ref 39), some (.int on), some (.int tw)] [.int 1] _ _
      refine am_e6i hi_245_34 ?_
      refine am_e35 hi_245_35 ?_
      show am_E _ _ _ _ [some (.ref 39), some (.int 4), some (.int on), some (.int tw), some (.int th)] [] _ _
      refine am_e18 hi_180_147 ?_
      refine am_e35 hi_180_371 ?_
      have q1 : mg_p1 gs = mg_p1 gs := rfl
      have q2 : mg_p2 gs = mg_p2 gs := rfl
      have q3 : mg_p3 gs = mg_p3 gs := rfl
      have q4 : mg_p4 gs = mg_p4 gs := rfl
      refine ⟨_, _, _, bc1, rfl, hS55, Or.inl ⟨⟨(RJ.fewer (pj' := []) hR66 (fun _ h => nomatch h)), ?_, ?_⟩, rfl, ?_⟩⟩
      · exact (mg_cast (mg_good_ext _ _ _ _ _ _ (fun i _ => by show g'45 34 i = g 34 i; rw [show g'45 34 = g'25 34 from h48_ 34 (by decide), show g'25 34 = g'8 34 from h30_ 34 (by decide), show g'8 34 = g 34 from h16_ 34 (by decide)]) (fun i _ => by show g'45 38 i = g 38 i; rw [show g'45 38 = g'25 38 from h48_ 38 (by decide), show g'25 38 = g'8 38 from h30_ 38 (by decide), show g'8 38 = g 38 from h16_ 38 (by decide)]) (fun i _ => by show g'45 23 i = g 23 i; rw [show g'45 23 = g'25 23 from h48_ 23 (by decide), show g'25 23 = g'8 23 from h30_ 23 (by decide), show g'8 23 = g 23 from h16_ 23 (by decide)]) hrest) (by show (f 15).toInt + 0 = (f 15).toInt; omega) (by show (f 20).toInt = (f 20).toInt; omega) (by show (f 37).toInt + -1 = z6.toInt; omega) (by show (f 32).toInt + 0 = (f 32).toInt; omega) (by show (f 5).toInt + -1 = y53.toInt; omega) : mg_good (g'45 34) (g'45 38) (g'45 23) gs ((f 15).toInt) ((f 20).toInt) (z6.toInt) ((f 32).toInt) (y53.toInt))
      · exact ⟨(by show 0 ≤ z52.toInt; omega), (by show z52.toInt ≤ (f 0).toInt; omega), (by show (f 0).toInt ≤ 512; omega), (by show 0 ≤ l5.toInt; omega), (by show l5.toInt + (f 20).toInt + mg_p1 gs ≤ 4 * z52.toInt; omega), (by show (f 20).toInt ≤ z52.toInt; omega), (by show (f 15).toInt + mg_p2 gs ≤ z52.toInt; omega), (by show mg_p3 gs ≤ 20 * z52.toInt + 20; omega), (by show 0 ≤ z23.toInt; omega), (by show z23.toInt + 3 * (f 20).toInt + mg_p4 gs ≤ 60 * z52.toInt + 60; omega), (by show 0 ≤ (f 62).toInt; omega), (by show (f 62).toInt + 64 * mj_n (g'45 16) (f 15).toNatClampNeg 3 ≤ 64 * z52.toInt; rw [show g'45 16 = g'25 16 from h48_ 16 (by decide), show g'25 16 = g'8 16 from h30_ 16 (by decide), show g'8 16 = g 16 from h16_ 16 (by decide)]; omega), (by show 0 ≤ b7.toInt; omega), (by show b7.toInt ≤ z52.toInt; omega), (by show 0 ≤ (f 48).toInt; omega), (by show (f 48).toInt ≤ z52.toInt; omega), (by show 1 ≤ (f 53).toInt; omega), (by show (f 53).toInt ≤ z52.toInt + 1; omega), (by show 0 ≤ (f 19).toInt; omega), (by show (f 19).toInt ≤ 600; omega), (by show 0 ≤ (f 6).toInt; omega), (by show 0 ≤ (f 8).toInt; omega)⟩
      · show 100 * ((f 0).toInt - z52.toInt) + mg_p3 gs < 100 * ((f 0).toInt - (f 4).toInt) + (1 + mg_p3 gs); omega
    · subst hv62
      have h64_ : (0 : Int) ≤ a60.toInt := h64
      replace hS63 : MS S0 S51 (upd (upd (upd (upd (upd (upd (upd f 6 a60) 7 b61) 10 0) 24 l5) 37 z6) 44 b7) 68 z23) g'45 := hS63
      have hR67 := rj_clear0 hR49_
      have hR68 : RJ (upd (upd (upd (upd (upd (upd (upd f 6 a60) 7 b61) 10 0) 24 l5) 37 z6) 44 b7) 68 z23) g'45 [] bc1 [] 0 [] := hR67
      show am_E _ _ _ _ [some (.ref 39), some (.int on), some (.int tw)] [.int 0] _ _
      refine am_e6i hi_245_34 ?_
      refine am_e35 hi_245_35 ?_
      show am_E _ _ _ _ [some (.ref 39), some (.int 4), some (.int on), some (.int tw), some (.int th)] [] _ _
      refine am_e18 hi_180_147 ?_
      refine am_e35 hi_180_371 ?_
      have hRc := rj_clear0 hR68
      refine ⟨_, _, [], _, rfl, hS63, Or.inr ⟨hRc, rfl, (by show 0 ≤ (f 4).toInt; omega), (by show (f 4).toInt ≤ (f 0).toInt; omega), (by show 0 ≤ (f 32).toInt; omega), (by show (f 32).toInt ≤ 63; omega), (by show 1 ≤ (f 53).toInt; omega), (by show (f 53).toInt ≤ 600; omega), (by show 0 ≤ z23.toInt; omega), (by show z23.toInt ≤ 60000; omega), (by show 0 ≤ (f 48).toInt; omega), (by show (f 48).toInt ≤ 8000; omega), (by show 0 ≤ z6.toInt; omega), (by show z6.toInt ≤ 128; omega), (by show 0 ≤ (f 62).toInt; omega), (by show (f 62).toInt ≤ 65000; omega), (by show 0 ≤ (f 19).toInt; omega), (by show (f 19).toInt ≤ 600; omega), (by show 0 ≤ a60.toInt; omega), (by show 0 ≤ (f 8).toInt; omega)⟩⟩
  · refine am_e13f hi_243_15 (am_cF (m := (f 24).toInt) (n := (g 38 z0.toNatClampNeg).toInt) rfl rfl c2) ?_
    refine am_e0 hi_243_18 ?_
    refine am_e18 hi_243_19 ?_
    refine am_e36 hi_243_23 (by decide) ?_
    show am_E _ _ _ _ [some (.ref 39)] [.int 1] _ _
    refine am_e12f hi_242_4 (by decide) ?_
    refine am_e2 (v := 39) hi_242_7 rfl ?_
    refine am_e0 hi_242_8 ?_
    refine am_e2 (v := 39) hi_242_10 rfl ?_
    refine am_e32w (as := [.ref 39]) (la := [some (.ref 39)]) (rest := [.int 33, .ref 39]) hi_242_11 (am_hd0 (M := 242) (by decide) 11) (Nat.le_of_ble_eq_true rfl) (Nat.le_of_ble_eq_true rfl) (show 1 ≤ am_P0.2.2.1 232 from by decide +kernel) rfl (am_recv_ok hS.fs) rfl rfl ?_
    refine am_e2 (v := 39) hi_232_0 rfl ?_
    refine mm_20 (v := .ref 62) hS hi_232_1 rfl ?_
    refine am_e2 (v := 39) hi_232_4 rfl ?_
    refine mm_20 (v := .int (f 37)) hS hi_232_5 rfl ?_
    refine am_e0 hi_232_8 ?_
    refine am_e10 (z := z0) hi_232_9 hz0 ?_
    refine mm_25 hS ma_38 hi_232_10 (by decide) (by omega) (by omega) ?_
    show am_E _ _ _ _ [some (.ref 39)] [.int (g 38 z0.toNatClampNeg)] _ _
    have r69 : 0 ≤ (g 38 z0.toNatClampNeg).toInt ∧ (g 38 z0.toNatClampNeg).toInt ≤ (f 24).toInt := RJ.bl (i := z0) hR (by omega) (by show z0.toInt < (f 37).toInt; omega)
    refine am_e2 (v := 39) hi_232_11 rfl ?_
    refine mm_20 (v := .ref 59) hS hi_232_12 rfl ?_
    refine am_e2 (v := 39) hi_232_15 rfl ?_
    refine mm_20 (v := .int (f 32)) hS hi_232_16 rfl ?_
    refine mm_25 hS ma_34 hi_232_19 (by decide) (by omega) (by omega) ?_
    show am_E _ _ _ _ [some (.ref 39)] [.int (g 34 (f 32).toNatClampNeg), .int (g 38 z0.toNatClampNeg)] _ _
    have r70 : 0 ≤ (g 34 (f 32).toNatClampNeg).toInt := RJ.ba hR (f 32).toNatClampNeg
    obtain ⟨z71, hz71⟩ : ∃ q__, am_bin 1 (g 38 z0.toNatClampNeg) (g 34 (f 32).toNatClampNeg) = q__ := ⟨_, rfl⟩
    refine am_e10 (z := z71) hi_232_20 hz71 ?_
    refine am_e33 hi_232_21 ?_
    show am_E _ _ _ _ [some (.ref 39)] [.int z71, .int 33, .ref 39] _ _
    refine am_e0 hi_242_14 ?_
    refine am_e0 hi_242_15 ?_
    refine am_e32n (as := [.ref 39, .int 33, .int z71, .int 0, .int 0]) (la := [some (.ref 39), some (.int 33), some (.int z71), some (.int 0), some (.int 0)]) (rest := []) hi_242_16 (am_hd0 (M := 242) (by decide) 16) (Nat.le_of_ble_eq_true rfl) (Nat.le_of_ble_eq_true rfl) (show 5 ≤ am_P0.2.2.1 189 from by decide +kernel) rfl (am_recv_ok hS.fs) rfl rfl (ct_put (d := (d + 5)) hS hR  (by show (0 : Int) ≤ (f 32).toInt; omega) (by show (f 32).toInt ≤ (63 : Int); omega) (by show (f 53).toInt ≤ (4096 : Int); omega) (by show (0 : Int) ≤ (f 68).toInt; omega) (by show (f 68).toInt ≤ (65534 : Int); omega)) ?_
    rintro v72 S73 (⟨z74, r75, g'76, hv77, hS78, hR82, h79, h80, h81⟩)
    subst hv77
    have h79_ : z74.toInt = (f 68).toInt + 1 := h79
    have h80_ : r75.toInt = (f 68).toInt := h80
    have h81_ : ∀ j, j ∉ [60, 69, 70, 71, 72, 73] → g'76 j = g j := h81
    have hR82_ : RJ (upd f 68 z74) g'76 gs (c0 :: bc1) [] 0 ((f 68).toNatClampNeg :: [on.toInt.toNat]) := hR82
    show am_E _ _ _ _ [some (.ref 39)] [.int r75] _ _
    refine am_e6i hi_242_19 ?_
    refine am_e2 (v := 39) hi_242_20 rfl ?_
    refine am_e32n (as := [.ref 39]) (la := [some (.ref 39), none, none]) (rest := []) hi_242_21 (am_hd0 (M := 242) (by decide) 21) (Nat.le_of_ble_eq_true rfl) (Nat.le_of_ble_eq_true rfl) (show 1 ≤ am_P0.2.2.1 224 from by decide +kernel) rfl (am_recv_ok hS78.fs) rfl rfl (ct_dropBlock2 (d := (d + 5)) hS78 hR82_  (by show (0 : Int) ≤ (f 32).toInt; omega) (by show (f 32).toInt ≤ (63 : Int); omega) (by show (0 : Int) ≤ (f 48).toInt; omega) (by show (f 48).toInt ≤ (8192 : Int); omega) (by show (f 4).toInt ≤ (8192 : Int); omega) (by show (1 : Int) ≤ (f 37).toInt; omega) (by show (f 37).toInt ≤ (128 : Int); omega)) ?_
    rintro v83 S84 (⟨l85, z86, b87, g'88, hv89, hS90, hR99, h91, h92, h93, h94, h95, h96, h97, h98⟩)
    subst hv89
    have h91_ : z86.toInt = (f 37).toInt - 1 := h91
    have h92_ : (0 : Int) ≤ l85.toInt := h92
    have h93_ : l85.toInt ≤ (f 24).toInt := h93
    have h94_ : (0 : Int) ≤ b87.toInt := h94
    have h95_ : b87.toInt ≤ (f 4).toInt := h95
    have h96_ : ∀ j, j ∉ [52] → g'88 j = g'76 j := h96
    have h97_ : ([] : List Nat) = [] → RJ (upd (upd (upd (upd f 24 l85) 37 z86) 44 b87) 68 z74) g'88 gs bc1 c0 (g'88 43 z86.toNatClampNeg).toInt ((f 68).toNatClampNeg :: [on.toInt.toNat]) := h97
    have h98_ : l85 = g'76 38 z86.toNatClampNeg := h98
    replace hS90 : MS S0 S84 (upd (upd (upd (upd f 24 l85) 37 z86) 44 b87) 68 z74) g'88 := hS90
    have hR99_ : RJ (upd (upd (upd (upd f 24 l85) 37 z86) 44 b87) 68 z74) g'88 gs bc1 [] 0 ((f 68).toNatClampNeg :: [on.toInt.toNat]) := hR99
    have hR100 : RJ (upd (upd (upd (upd f 24 l85) 37 z86) 44 b87) 68 z74) g'88 gs bc1 c0 (g'88 43 z86.toNatClampNeg).toInt ((f 68).toNatClampNeg :: [on.toInt.toNat]) := h97_ rfl
    show am_E _ _ _ _ [some (.ref 39)] [] _ _
    refine am_e35 hi_242_24 ?_
    show am_E _ _ _ _ [some (.ref 39), some (.int on), some (.int tw)] [] _ _
    refine am_e2 (v := 39) hi_245_4 rfl ?_
    refine am_e0 hi_245_5 ?_
    refine am_e1 (v := tw) hi_245_7 rfl ?_
    refine am_e0 hi_245_8 ?_
    refine am_e0 hi_245_9 ?_
    refine am_e32n (as := [.ref 39, .int 36, .int tw, .int 0, .int 0]) (la := [some (.ref 39), some (.int 36), some (.int tw), some (.int 0), some (.int 0)]) (rest := []) hi_245_10 (am_hd0 (M := 245) (by decide) 10) (Nat.le_of_ble_eq_true rfl) (Nat.le_of_ble_eq_true rfl) (show 5 ≤ am_P0.2.2.1 189 from by decide +kernel) rfl (am_recv_ok hS90.fs) rfl rfl (ct_put (d := (d + 6)) hS90 hR100  (by show (0 : Int) ≤ (f 32).toInt; omega) (by show (f 32).toInt ≤ (63 : Int); omega) (by show (f 53).toInt ≤ (4096 : Int); omega) (by show (0 : Int) ≤ z74.toInt; omega) (by show z74.toInt ≤ (65534 : Int); omega)) ?_
    rintro v101 S102 (⟨z103, r104, g'105, hv106, hS107, hR111, h108, h109, h110⟩)
    subst hv106
    have h108_ : z103.toInt = z74.toInt + 1 := h108
    have h109_ : r104.toInt = z74.toInt := h109
    have h110_ : ∀ j, j ∉ [60, 69, 70, 71, 72, 73] → g'105 j = g'88 j := h110
    replace hS107 : MS S0 S102 (upd (upd (upd (upd f 24 l85) 37 z86) 44 b87) 68 z103) g'105 := hS107
    have hR111_ : RJ (upd (upd (upd (upd f 24 l85) 37 z86) 44 b87) 68 z103) g'105 gs bc1 c0 (g'88 43 z86.toNatClampNeg).toInt (z74.toNatClampNeg :: ((f 68).toNatClampNeg :: [on.toInt.toNat])) := hR111
    show am_E _ _ _ _ [some (.ref 39), some (.int on), some (.int tw)] [.int r104] _ _
    refine am_e6i hi_245_13 ?_
    refine am_e2 (v := 39) hi_245_14 rfl ?_
    refine mm_20 (v := .ref 90) hS107 hi_245_15 rfl ?_
    refine am_e1 (v := on) hi_245_18 rfl ?_
    refine am_e2 (v := 39) hi_245_19 rfl ?_
    refine am_e32n (as := [.ref 39]) (la := [some (.ref 39)]) (rest := [.int on, .ref 90]) hi_245_20 (am_hd0 (M := 245) (by decide) 20) (Nat.le_of_ble_eq_true rfl) (Nat.le_of_ble_eq_true rfl) (show 1 ≤ am_P0.2.2.1 210 from by decide +kernel) rfl (am_recv_ok hS107.fs) rfl rfl (ct_here (d := (d + 6)) hS107 hR111_  (by show (0 : Int) ≤ (f 32).toInt; omega) (by show (f 32).toInt ≤ (63 : Int); omega) (by show (f 53).toInt ≤ (4096 : Int); omega) (by show (0 : Int) ≤ z103.toInt; omega) (by show z103.toInt ≤ (65534 : Int); omega)) ?_
    rintro v112 S113 (⟨r114, hv115, hS116, h117, h118⟩)
    subst hv115
    have h117_ : (0 : Int) ≤ r114.toInt := h117
    have h118_ : r114.toInt ≤ z103.toInt := h118
    show am_E _ _ _ _ [some (.ref 39), some (.int on), some (.int tw)] [.int r114, .int on, .ref 90] _ _
    refine mm_26 hS116 ma_71 hi_245_23 (by decide) (by omega) (by omega) (fun h => nomatch h) ?_
    intro S120 hS121
    have hix208 : on.toNatClampNeg = on.toInt.toNat := by first | rfl | (rw [cl_toNat, cl_toNat]; omega)
    have hR122 : RJ (upd (upd (upd (upd f 24 l85) 37 z86) 44 b87) 68 z103) (upg g'105 71 on.toNatClampNeg r114) gs bc1 c0 (g'88 43 z86.toNatClampNeg).toInt (z74.toNatClampNeg :: ((f 68).toNatClampNeg :: [on.toInt.toNat])) := by rw [hix208]; exact RJ.lead hR111_ (RJ.pjn hR111_ (show on.toInt.toNat ∈ _ from by simp only [List.mem_cons, true_or, or_true]))
    refine am_e2 (v := 39) hi_245_24 rfl ?_
    refine am_e32n (as := [.ref 39]) (la := [some (.ref 39), none, none]) (rest := []) hi_245_25 (am_hd0 (M := 245) (by decide) 25) (Nat.le_of_ble_eq_true rfl) (Nat.le_of_ble_eq_true rfl) (show 1 ≤ am_P0.2.2.1 246 from by decide +kernel) rfl (am_recv_ok hS121.fs) rfl rfl (ct_mendBreaks (d := (d + 5)) hS121 hR122 (show (g'105 43 z86.toNatClampNeg).toInt = (g'88 43 z86.toNatClampNeg).toInt from by rw [show g'105 43 = g'88 43 from h110_ 43 (by decide)]) (by show (0 : Int) ≤ (f 32).toInt; omega) (by show (f 32).toInt ≤ (63 : Int); omega) (by show (f 53).toInt ≤ (4096 : Int); omega) (by show (0 : Int) ≤ z103.toInt; omega) (by show z103.toInt ≤ (65534 : Int); omega) (by show (0 : Int) ≤ z86.toInt; omega) (by show z86.toInt ≤ (127 : Int); omega)) ?_
    rintro v123 S124 (⟨g'125, hv126, hS127, hR129, h128⟩)
    subst hv126
    have h128_ : ∀ j, j ∉ [71] → g'125 j = (upg g'105 71 on.toNatClampNeg r114) j := h128
    have hR129_ : RJ (upd (upd (upd (upd f 24 l85) 37 z86) 44 b87) 68 z103) g'125 gs bc1 [] 0 (z74.toNatClampNeg :: ((f 68).toNatClampNeg :: [on.toInt.toNat])) := hR129
    show am_E _ _ _ _ [some (.ref 39), some (.int on), some (.int tw)] [] _ _
    refine am_e2 (v := 39) hi_245_28 rfl ?_
    refine am_e0 hi_245_29 ?_
    refine am_e32n (as := [.ref 39, .int 15]) (la := [some (.ref 39), some (.int 15)]) (rest := []) hi_245_31 (am_hd0 (M := 245) (by decide) 31) (Nat.le_of_ble_eq_true rfl) (Nat.le_of_ble_eq_true rfl) (show 2 ≤ am_P0.2.2.1 199 from by decide +kernel) rfl (am_recv_ok hS127.fs) rfl rfl (ct_leave (d := (d + 3)) hS127   (by show (0 : Int) ≤ (f 4).toInt; omega) (by show (f 0).toInt ≤ (16384 : Int); omega) (by show (0 : Int) ≤ (15 : Int); omega) (by show (0 : Int) ≤ (f 5).toInt; omega) (by show (f 5).toInt ≤ (48 : Int); omega) (by show (0 : Int) ≤ (f 6).toInt; omega)) ?_
    rintro v130 S131 (⟨z132, y133, hv134, hS135, h136, h137, h138⟩ | ⟨a140, b141, hv142, hS143, h144⟩)
    · subst hv134
      have h136_ : z132.toInt = (f 4).toInt + 1 := h136
      have h137_ : (f 4).toInt < (f 0).toInt := h137
      have h138_ : y133.toInt = (f 5).toInt - 1 := h138
      replace hS135 : MS S0 S131 (upd (upd (upd (upd (upd (upd f 4 z132) 5 y133) 24 l85) 37 z86) 44 b87) 68 z103) g'125 := hS135
      have hR146 : RJ (upd (upd (upd (upd (upd (upd f 4 z132) 5 y133) 24 l85) 37 z86) 44 b87) 68 z103) g'125 gs bc1 [] 0 (z74.toNatClampNeg :: ((f 68).toNatClampNeg :: [on.toInt.toNat])) := RJ.at hR129_ (by show (f 4).toInt ≤ z132.toInt; omega)
      show am_E _ _ _ _ [some (.ref 39), some (.int on), some (.int tw)] [.int 1] _ _
      refine am_e6i hi_245_34 ?_
      refine am_e35 hi_245_35 ?_
      show am_E _ _ _ _ [some (.ref 39), some (.int 4), some (.int on), some (.int tw), some (.int th)] [] _ _
      refine am_e18 hi_180_147 ?_
      refine am_e35 hi_180_371 ?_
      have q1 : mg_p1 gs = mg_p1 gs := rfl
      have q2 : mg_p2 gs = mg_p2 gs := rfl
      have q3 : mg_p3 gs = mg_p3 gs := rfl
      have q4 : mg_p4 gs = mg_p4 gs := rfl
      refine ⟨_, _, _, bc1, rfl, hS135, Or.inl ⟨⟨(RJ.fewer (pj' := []) hR146 (fun _ h => nomatch h)), ?_, ?_⟩, rfl, ?_⟩⟩
      · exact (mg_cast (mg_good_ext _ _ _ _ _ _ (fun i _ => by show g'125 34 i = g 34 i; rw [show g'125 34 = g'105 34 from h128_ 34 (by decide), show g'105 34 = g'88 34 from h110_ 34 (by decide), show g'88 34 = g'76 34 from h96_ 34 (by decide), show g'76 34 = g 34 from h81_ 34 (by decide)]) (fun i _ => by show g'125 38 i = g 38 i; rw [show g'125 38 = g'105 38 from h128_ 38 (by decide), show g'105 38 = g'88 38 from h110_ 38 (by decide), show g'88 38 = g'76 38 from h96_ 38 (by decide), show g'76 38 = g 38 from h81_ 38 (by decide)]) (fun i _ => by show g'125 23 i = g 23 i; rw [show g'125 23 = g'105 23 from h128_ 23 (by decide), show g'105 23 = g'88 23 from h110_ 23 (by decide), show g'88 23 = g'76 23 from h96_ 23 (by decide), show g'76 23 = g 23 from h81_ 23 (by decide)]) hrest) (by show (f 15).toInt + 0 = (f 15).toInt; omega) (by show (f 20).toInt = (f 20).toInt; omega) (by show (f 37).toInt + -1 = z86.toInt; omega) (by show (f 32).toInt + 0 = (f 32).toInt; omega) (by show (f 5).toInt + -1 = y133.toInt; omega) : mg_good (g'125 34) (g'125 38) (g'125 23) gs ((f 15).toInt) ((f 20).toInt) (z86.toInt) ((f 32).toInt) (y133.toInt))
      · exact ⟨(by show 0 ≤ z132.toInt; omega), (by show z132.toInt ≤ (f 0).toInt; omega), (by show (f 0).toInt ≤ 512; omega), (by show 0 ≤ l85.toInt; omega), (by show l85.toInt + (f 20).toInt + mg_p1 gs ≤ 4 * z132.toInt; omega), (by show (f 20).toInt ≤ z132.toInt; omega), (by show (f 15).toInt + mg_p2 gs ≤ z132.toInt; omega), (by show mg_p3 gs ≤ 20 * z132.toInt + 20; omega), (by show 0 ≤ z103.toInt; omega), (by show z103.toInt + 3 * (f 20).toInt + mg_p4 gs ≤ 60 * z132.toInt + 60; omega), (by show 0 ≤ (f 62).toInt; omega), (by show (f 62).toInt + 64 * mj_n (g'125 16) (f 15).toNatClampNeg 3 ≤ 64 * z132.toInt; rw [show g'125 16 = g'105 16 from h128_ 16 (by decide), show g'105 16 = g'88 16 from h110_ 16 (by decide), show g'88 16 = g'76 16 from h96_ 16 (by decide), show g'76 16 = g 16 from h81_ 16 (by decide)]; omega), (by show 0 ≤ b87.toInt; omega), (by show b87.toInt ≤ z132.toInt; omega), (by show 0 ≤ (f 48).toInt; omega), (by show (f 48).toInt ≤ z132.toInt; omega), (by show 1 ≤ (f 53).toInt; omega), (by show (f 53).toInt ≤ z132.toInt + 1; omega), (by show 0 ≤ (f 19).toInt; omega), (by show (f 19).toInt ≤ 600; omega), (by show 0 ≤ (f 6).toInt; omega), (by show 0 ≤ (f 8).toInt; omega)⟩
      · show 100 * ((f 0).toInt - z132.toInt) + mg_p3 gs < 100 * ((f 0).toInt - (f 4).toInt) + (1 + mg_p3 gs); omega
    · subst hv142
      have h144_ : (0 : Int) ≤ a140.toInt := h144
      replace hS143 : MS S0 S131 (upd (upd (upd (upd (upd (upd (upd f 6 a140) 7 b141) 10 0) 24 l85) 37 z86) 44 b87) 68 z103) g'125 := hS143
      have hR147 := rj_clear0 hR129_
      have hR148 : RJ (upd (upd (upd (upd (upd (upd (upd f 6 a140) 7 b141) 10 0) 24 l85) 37 z86) 44 b87) 68 z103) g'125 [] bc1 [] 0 [] := hR147
      show am_E _ _ _ _ [some (.ref 39), some (.int on), some (.int tw)] [.int 0] _ _
      refine am_e6i hi_245_34 ?_
      refine am_e35 hi_245_35 ?_
      show am_E _ _ _ _ [some (.ref 39), some (.int 4), some (.int on), some (.int tw), some (.int th)] [] _ _
      refine am_e18 hi_180_147 ?_
      refine am_e35 hi_180_371 ?_
      have hRc := rj_clear0 hR148
      refine ⟨_, _, [], _, rfl, hS143, Or.inr ⟨hRc, rfl, (by show 0 ≤ (f 4).toInt; omega), (by show (f 4).toInt ≤ (f 0).toInt; omega), (by show 0 ≤ (f 32).toInt; omega), (by show (f 32).toInt ≤ 63; omega), (by show 1 ≤ (f 53).toInt; omega), (by show (f 53).toInt ≤ 600; omega), (by show 0 ≤ z103.toInt; omega), (by show z103.toInt ≤ 60000; omega), (by show 0 ≤ (f 48).toInt; omega), (by show (f 48).toInt ≤ 8000; omega), (by show 0 ≤ z86.toInt; omega), (by show z86.toInt ≤ 128; omega), (by show 0 ≤ (f 62).toInt; omega), (by show (f 62).toInt ≤ 65000; omega), (by show 0 ≤ (f 19).toInt; omega), (by show (f 19).toInt ≤ 600; omega), (by show 0 ≤ a140.toInt; omega), (by show 0 ≤ (f 8).toInt; omega)⟩⟩
set_option maxHeartbeats 16000000 in
theorem st_6 {sc : Nat × (Nat → Int32)} {d : Nat} {S0 S : am_S} {f : Nat → Int32} {g : Nat → Nat → Int32} {on : Int32} {tw : Int32} {th : Int32} {gs : List mg_E} {bc : List (List Nat)} (hS : MS S0 S f g) (hR : RJ f g gs bc [] 0 []) (hrest : mg_good (g 34) (g 38) (g 23) gs ((f 15).toInt + -1) ((f 20).toInt) ((f 37).toInt + -1) ((f 32).toInt + 0) ((f 5).toInt + 0)) (p0 : 0 ≤ (f 4).toInt) (p1 : (f 4).toInt ≤ (f 0).toInt) (p2 : (f 0).toInt ≤ 512) (p3 : 0 ≤ (f 24).toInt) (p4 : (f 24).toInt + (f 20).toInt + mg_p1 gs ≤ 4 * (f 4).toInt) (p5 : (f 20).toInt ≤ (f 4).toInt) (p6 : (f 15).toInt + 0 + mg_p2 gs ≤ (f 4).toInt) (p7 : 1 + mg_p3 gs ≤ 20 * (f 4).toInt + 20) (p8 : 0 ≤ (f 68).toInt) (p9 : (f 68).toInt + 3 * (f 20).toInt + 6 + mg_p4 gs ≤ 60 * (f 4).toInt + 60) (p10 : 0 ≤ (f 62).toInt) (p11 : (f 62).toInt + 64 * mj_n (g 16) (f 15).toNatClampNeg 3 ≤ 64 * (f 4).toInt) (p12 : 0 ≤ (f 44).toInt) (p13 : (f 44).toInt ≤ (f 4).toInt) (p14 : 0 ≤ (f 48).toInt) (p15 : (f 48).toInt ≤ (f 4).toInt) (p16 : 1 ≤ (f 53).toInt) (p17 : (f 53).toInt ≤ (f 4).toInt + 1) (p18 : 0 ≤ (f 19).toInt) (p19 : (f 19).toInt ≤ 600) (p20 : 0 ≤ (f 6).toInt) (p21 : 0 ≤ (f 8).toInt) (p22 : 0 ≤ mg_p1 gs) (p23 : 0 ≤ mg_p2 gs) (p24 : 0 ≤ mg_p4 gs) (p25 : 0 ≤ (f 10).toInt) (p26 : (f 10).toInt ≤ mg_p3 gs) (p27 : 0 ≤ mj_n (g 16) (f 15).toNatClampNeg 3) (p28 : 1 ≤ (f 15).toInt) (p29 : 0 ≤ (f 20).toInt) (p30 : 1 ≤ (f 37).toInt) (p31 : 0 ≤ (f 32).toInt) (p32 : (f 32).toInt ≤ (f 5).toInt) (p33 : (f 5).toInt ≤ 48) (p34 : (f 37).toInt ≤ 2 * (f 5).toInt + 2) : am_E (am_PP sc) (d + 8) 180 0 [some (.ref 39), some (.int 6), some (.int on), some (.int tw), some (.int th)] [] S (am_N fun v S1 => ∃ (f' : Nat → Int32) (g' : Nat → Nat → Int32) (gs' : List mg_E) (bc' : List (List Nat)), v = none ∧ MS S0 S1 f' g' ∧ (mg_on f (100 * ((f 0).toInt - (f 4).toInt) + (1 + mg_p3 gs)) f' g' gs' bc' ∨ mg_off f f' g' bc')) := by
  have hbs := mg_basic hrest
  obtain ⟨c0, bc1, rfl⟩ := RJ.bcons hR (by omega)
  refine am_e1 (v := 6) hi_180_0 rfl ?_
  refine am_e0 hi_180_1 ?_
  refine am_e13t hi_180_3 (by decide) ?_
  refine am_e1 (v := 6) hi_180_14 rfl ?_
  refine am_e19 (t := 179) hi_180_15 (by decide) ?_
  refine am_e2 (v := 39) hi_180_179 rfl ?_
  refine am_e1 (v := on) hi_180_180 rfl ?_
  refine am_e32w (as := [.ref 39, .int on]) (la := [some (.ref 39), some (.int on), none]) (rest := []) hi_180_181 (am_hd0 (M := 180) (by decide) 181) (Nat.le_of_ble_eq_true rfl) (Nat.le_of_ble_eq_true rfl) (show 2 ≤ am_P0.2.2.1 247 from by decide +kernel) rfl (am_recv_ok hS.fs) rfl rfl ?_
  refine am_e2 (v := 39) hi_247_0 rfl ?_
  refine am_e32w (as := [.ref 39]) (la := [some (.ref 39)]) (rest := []) hi_247_1 (am_hd0 (M := 247) (by decide) 1) (Nat.le_of_ble_eq_true rfl) (Nat.le_of_ble_eq_true rfl) (show 1 ≤ am_P0.2.2.1 209 from by decide +kernel) rfl (am_recv_ok hS.fs) rfl rfl ?_
  refine am_e2 (v := 39) hi_209_0 rfl ?_
  refine am_e32n (as := [.ref 39]) (la := [some (.ref 39), none, none, none]) (rest := []) hi_209_1 (am_hd0 (M := 209) (by decide) 1) (Nat.le_of_ble_eq_true rfl) (Nat.le_of_ble_eq_true rfl) (show 1 ≤ am_P0.2.2.1 204 from by decide +kernel) rfl (am_recv_ok hS.fs) rfl rfl (ct_load (d := (d + 3)) hS hR  (by show (0 : Int) ≤ (f 32).toInt; omega) (by show (f 32).toInt ≤ (63 : Int); omega) (by show (f 53).toInt ≤ (4096 : Int); omega) (by show (0 : Int) ≤ (f 68).toInt; omega) (by show (f 68).toInt ≤ (65534 : Int); omega) (by show (1 : Int) ≤ (f 15).toInt; omega) (by show (f 15).toInt ≤ (32767 : Int); omega) (by show (0 : Int) ≤ (f 24).toInt; omega) (by show (f 24).toInt ≤ (16384 : Int); omega) (by show (0 : Int) ≤ (f 62).toInt; omega) (by show (f 62).toInt ≤ (65000 : Int); omega)) ?_
  rintro v0 S1 (⟨o2, s3, m4, g'5, hv6, hS7, hR14, h8, h9, h10, h11, h12, h13⟩)
  subst hv6
  have h8_ : (f 62).toInt ≤ o2.toInt := h8
  have h9_ : o2.toInt ≤ (f 62).toInt + 64 := h9
  have h10_ : (f 68).toInt ≤ s3.toInt := h10
  have h11_ : s3.toInt ≤ (f 68).toInt + 1 := h11
  have h12_ : o2.toInt + 64 * mj_n (g'5 16) (f 15).toNatClampNeg 3 ≤ (f 62).toInt + 64 * mj_n (g 16) (f 15).toNatClampNeg 3 := h12
  have h13_ : ∀ j, j ∉ [16, 60, 63, 64, 65, 66, 67, 69, 70, 71, 72, 73] → g'5 j = g j := h13
  have hR14_ : RJ (upd (upd (upd f 62 o2) 68 s3) 75 m4) g'5 gs (c0 :: bc1) [] 0 [] := hR14
  show am_E _ _ _ _ [some (.ref 39)] [] _ _
  refine am_e2 (v := 39) hi_209_4 rfl ?_
  refine am_e7 hi_209_5 ?_
  refine mm_20 (v := .int (f 15)) hS7 hi_209_6 rfl ?_
  refine am_e0 hi_209_9 ?_
  obtain ⟨z15, hz15, tz15⟩ := am_subI (x := f 15) (y := 1) (m := (f 15).toInt) (n := (1 : Int)) rfl (by decide) (by omega) (by omega)
  refine am_e10 (z := z15) hi_209_10 hz15 ?_
  refine mm_21 (v := z15) hS7 hi_209_11 rfl (Nat.le_of_ble_eq_true rfl) ms_15 ?_
  intro S16 hS17
  replace hS17 : MS S0 S16 (upd (upd (upd (upd f 15 z15) 62 o2) 68 s3) 75 m4) g'5 := hS17
  have hp18 : mj_n (g'5 16) (f 15).toNatClampNeg 3 = mj_n (g'5 16) z15.toNatClampNeg 3 + if (g'5 16 z15.toNatClampNeg).toInt = 3 then 1 else 0 := mj_pop (by rw [cl_toNat, cl_toNat]; omega)
  have hp181 : mj_n (g'5 16) z15.toNatClampNeg 3 ≤ mj_n (g'5 16) (f 15).toNatClampNeg 3 := by rw [hp18]; split <;> omega
  have hp182 : (g'5 16 z15.toNatClampNeg).toInt = 3 → mj_n (g'5 16) z15.toNatClampNeg 3 + 1 ≤ mj_n (g'5 16) (f 15).toNatClampNeg 3 := fun q => by rw [hp18, if_pos q]; exact Int.le_refl _
  refine am_e35 hi_209_14 ?_
  show am_E _ _ _ _ [some (.ref 39), some (.int on), none] [] _ _
  refine am_e2 (v := 39) hi_247_4 rfl ?_
  refine am_e32w (as := [.ref 39]) (la := [some (.ref 39)]) (rest := []) hi_247_5 (am_hd0 (M := 247) (by decide) 5) (Nat.le_of_ble_eq_true rfl) (Nat.le_of_ble_eq_true rfl) (show 1 ≤ am_P0.2.2.1 243 from by decide +kernel) rfl (am_recv_ok hS17.fs) rfl rfl ?_
  refine am_e2 (v := 39) hi_243_0 rfl ?_
  refine mm_20 (v := .int (f 24)) hS17 hi_243_1 rfl ?_
  refine am_e2 (v := 39) hi_243_4 rfl ?_
  refine mm_20 (v := .ref 62) hS17 hi_243_5 rfl ?_
  refine am_e2 (v := 39) hi_243_8 rfl ?_
  refine mm_20 (v := .int (f 37)) hS17 hi_243_9 rfl ?_
  refine am_e0 hi_243_12 ?_
  obtain ⟨z19, hz19, tz19⟩ := am_subI (x := f 37) (y := 1) (m := (f 37).toInt) (n := (1 : Int)) rfl (by decide) (by omega) (by omega)
  refine am_e10 (z := z19) hi_243_13 hz19 ?_
  refine mm_25 hS17 ma_38 hi_243_14 (by decide) (by omega) (by omega) ?_
  show am_E _ _ _ _ _ (.int (g'5 38 z19.toNatClampNeg) :: _) _ _
  rw [show g'5 38 = g 38 from h13_ 38 (by decide)]
  show am_E _ _ _ _ [some (.ref 39)] [.int (g 38 z19.toNatClampNeg), .int (f 24)] _ _
  have r20 : 0 ≤ (g 38 z19.toNatClampNeg).toInt ∧ (g 38 z19.toNatClampNeg).toInt ≤ (f 24).toInt := by
    have h := RJ.bl (i := z19) hR14_ (by omega) (by show z19.toInt < (f 37).toInt; omega)
    rw [show g'5 38 = g 38 from h13_ 38 (by decide)] at h
    exact h
  by_cases c21 : (f 24).toInt ≤ (g 38 z19.toNatClampNeg).toInt
  · refine am_e13t hi_243_15 (am_cT (m := (f 24).toInt) (n := (g 38 z19.toNatClampNeg).toInt) rfl rfl c21) ?_
    refine am_e0 hi_243_22 ?_
    refine am_e36 hi_243_23 (by decide) ?_
    show am_E _ _ _ _ [some (.ref 39), some (.int on), none] [.int 0] _ _
    refine am_e12t hi_247_8 (by decide) ?_
    refine am_e2 (v := 39) hi_247_70 rfl ?_
    refine am_e0 hi_247_71 ?_
    refine am_e1 (v := on) hi_247_73 rfl ?_
    refine am_e0 hi_247_74 ?_
    refine am_e0 hi_247_75 ?_
    refine am_e32n (as := [.ref 39, .int 35, .int on, .int 0, .int 0]) (la := [some (.ref 39), some (.int 35), some (.int on), some (.int 0), some (.int 0)]) (rest := []) hi_247_76 (am_hd0 (M := 247) (by decide) 76) (Nat.le_of_ble_eq_true rfl) (Nat.le_of_ble_eq_true rfl) (show 5 ≤ am_P0.2.2.1 189 from by decide +kernel) rfl (am_recv_ok hS17.fs) rfl rfl (ct_put (d := (d + 6)) hS17 hR14_  (by show (0 : Int) ≤ (f 32).toInt; omega) (by show (f 32).toInt ≤ (63 : Int); omega) (by show (f 53).toInt ≤ (4096 : Int); omega) (by show (0 : Int) ≤ s3.toInt; omega) (by show s3.toInt ≤ (65534 : Int); omega)) ?_
    rintro v22 S23 (⟨z24, r25, g'26, hv27, hS28, hR32, h29, h30, h31⟩)
    subst hv27
    have h29_ : z24.toInt = s3.toInt + 1 := h29
    have h30_ : r25.toInt = s3.toInt := h30
    have h31_ : ∀ j, j ∉ [60, 69, 70, 71, 72, 73] → g'26 j = g'5 j := h31
    replace hS28 : MS S0 S23 (upd (upd (upd (upd f 15 z15) 62 o2) 68 z24) 75 m4) g'26 := hS28
    have hR32_ : RJ (upd (upd (upd (upd f 15 z15) 62 o2) 68 z24) 75 m4) g'26 gs (c0 :: bc1) [] 0 (s3.toNatClampNeg :: []) := hR32
    show am_E _ _ _ _ [some (.ref 39), some (.int on), none] [.int r25] _ _
    refine am_e6i hi_247_79 ?_
    refine am_e2 (v := 39) hi_247_80 rfl ?_
    refine am_e32n (as := [.ref 39]) (la := [some (.ref 39), none, none]) (rest := []) hi_247_81 (am_hd0 (M := 247) (by decide) 81) (Nat.le_of_ble_eq_true rfl) (Nat.le_of_ble_eq_true rfl) (show 1 ≤ am_P0.2.2.1 224 from by decide +kernel) rfl (am_recv_ok hS28.fs) rfl rfl (ct_dropBlock2 (d := (d + 6)) hS28 hR32_  (by show (0 : Int) ≤ (f 32).toInt; omega) (by show (f 32).toInt ≤ (63 : Int); omega) (by show (0 : Int) ≤ (f 48).toInt; omega) (by show (f 48).toInt ≤ (8192 : Int); omega) (by show (f 4).toInt ≤ (8192 : Int); omega) (by show (1 : Int) ≤ (f 37).toInt; omega) (by show (f 37).toInt ≤ (128 : Int); omega)) ?_
    rintro v33 S34 (⟨l35, z36, b37, g'38, hv39, hS40, hR49, h41, h42, h43, h44, h45, h46, h47, h48⟩)
    subst hv39
    have h41_ : z36.toInt = (f 37).toInt - 1 := h41
    have h42_ : (0 : Int) ≤ l35.toInt := h42
    have h43_ : l35.toInt ≤ (f 24).toInt := h43
    have h44_ : (0 : Int) ≤ b37.toInt := h44
    have h45_ : b37.toInt ≤ (f 4).toInt := h45
    have h46_ : ∀ j, j ∉ [52] → g'38 j = g'26 j := h46
    have h47_ : ([] : List Nat) = [] → RJ (upd (upd (upd (upd (upd (upd (upd f 15 z15) 24 l35) 37 z36) 44 b37) 62 o2) 68 z24) 75 m4) g'38 gs bc1 c0 (g'38 43 z36.toNatClampNeg).toInt (s3.toNatClampNeg :: []) := h47
    have h48_ : l35 = g'26 38 z36.toNatClampNeg := h48
    replace hS40 : MS S0 S34 (upd (upd (upd (upd (upd (upd (upd f 15 z15) 24 l35) 37 z36) 44 b37) 62 o2) 68 z24) 75 m4) g'38 := hS40
    have hR49_ : RJ (upd (upd (upd (upd (upd (upd (upd f 15 z15) 24 l35) 37 z36) 44 b37) 62 o2) 68 z24) 75 m4) g'38 gs bc1 [] 0 (s3.toNatClampNeg :: []) := hR49
    have hR50 : RJ (upd (upd (upd (upd (upd (upd (upd f 15 z15) 24 l35) 37 z36) 44 b37) 62 o2) 68 z24) 75 m4) g'38 gs bc1 c0 (g'38 43 z36.toNatClampNeg).toInt (s3.toNatClampNeg :: []) := h47_ rfl
    show am_E _ _ _ _ [some (.ref 39), some (.int on), none] [] _ _
    refine am_e2 (v := 39) hi_247_84 rfl ?_
    refine am_e32n (as := [.ref 39]) (la := [some (.ref 39), none, none]) (rest := []) hi_247_85 (am_hd0 (M := 247) (by decide) 85) (Nat.le_of_ble_eq_true rfl) (Nat.le_of_ble_eq_true rfl) (show 1 ≤ am_P0.2.2.1 246 from by decide +kernel) rfl (am_recv_ok hS40.fs) rfl rfl (ct_mendBreaks (d := (d + 5)) hS40 hR50 (show (g'38 43 z36.toNatClampNeg).toInt = (g'38 43 z36.toNatClampNeg).toInt from rfl) (by show (0 : Int) ≤ (f 32).toInt; omega) (by show (f 32).toInt ≤ (63 : Int); omega) (by show (f 53).toInt ≤ (4096 : Int); omega) (by show (0 : Int) ≤ z24.toInt; omega) (by show z24.toInt ≤ (65534 : Int); omega) (by show (0 : Int) ≤ z36.toInt; omega) (by show z36.toInt ≤ (127 : Int); omega)) ?_
    rintro v51 S52 (⟨g'53, hv54, hS55, hR57, h56⟩)
    subst hv54
    have h56_ : ∀ j, j ∉ [71] → g'53 j = g'38 j := h56
    have hR57_ : RJ (upd (upd (upd (upd (upd (upd (upd f 15 z15) 24 l35) 37 z36) 44 b37) 62 o2) 68 z24) 75 m4) g'53 gs bc1 [] 0 (s3.toNatClampNeg :: []) := hR57
    show am_E _ _ _ _ [some (.ref 39), some (.int on), none] [] _ _
    refine am_e35 hi_247_88 ?_
    show am_E _ _ _ _ [some (.ref 39), some (.int 6), some (.int on), some (.int tw), some (.int th)] [] _ _
    refine am_e18 hi_180_184 ?_
    refine am_e35 hi_180_371 ?_
    have q1 : mg_p1 gs = mg_p1 gs := rfl
    have q2 : mg_p2 gs = mg_p2 gs := rfl
    have q3 : mg_p3 gs = mg_p3 gs := rfl
    have q4 : mg_p4 gs = mg_p4 gs := rfl
    refine ⟨_, _, _, bc1, rfl, hS55, Or.inl ⟨⟨(RJ.fewer (pj' := []) hR57_ (fun _ h => nomatch h)), ?_, ?_⟩, rfl, ?_⟩⟩
    · exact (mg_cast (mg_good_ext _ _ _ _ _ _ (fun i _ => by show g'53 34 i = g 34 i; rw [show g'53 34 = g'38 34 from h56_ 34 (by decide), show g'38 34 = g'26 34 from h46_ 34 (by decide), show g'26 34 = g'5 34 from h31_ 34 (by decide), show g'5 34 = g 34 from h13_ 34 (by decide)]) (fun i _ => by show g'53 38 i = g 38 i; rw [show g'53 38 = g'38 38 from h56_ 38 (by decide), show g'38 38 = g'26 38 from h46_ 38 (by decide), show g'26 38 = g'5 38 from h31_ 38 (by decide), show g'5 38 = g 38 from h13_ 38 (by decide)]) (fun i _ => by show g'53 23 i = g 23 i; rw [show g'53 23 = g'38 23 from h56_ 23 (by decide), show g'38 23 = g'26 23 from h46_ 23 (by decide), show g'26 23 = g'5 23 from h31_ 23 (by decide), show g'5 23 = g 23 from h13_ 23 (by decide)]) hrest) (by show (f 15).toInt + -1 = z15.toInt; omega) (by show (f 20).toInt = (f 20).toInt; omega) (by show (f 37).toInt + -1 = z36.toInt; omega) (by show (f 32).toInt + 0 = (f 32).toInt; omega) (by show (f 5).toInt + 0 = (f 5).toInt; omega) : mg_good (g'53 34) (g'53 38) (g'53 23) gs (z15.toInt) ((f 20).toInt) (z36.toInt) ((f 32).toInt) ((f 5).toInt))
    · exact ⟨(by show 0 ≤ (f 4).toInt; omega), (by show (f 4).toInt ≤ (f 0).toInt; omega), (by show (f 0).toInt ≤ 512; omega), (by show 0 ≤ l35.toInt; omega), (by show l35.toInt + (f 20).toInt + mg_p1 gs ≤ 4 * (f 4).toInt; omega), (by show (f 20).toInt ≤ (f 4).toInt; omega), (by show z15.toInt + mg_p2 gs ≤ (f 4).toInt; omega), (by show mg_p3 gs ≤ 20 * (f 4).toInt + 20; omega), (by show 0 ≤ z24.toInt; omega), (by show z24.toInt + 3 * (f 20).toInt + mg_p4 gs ≤ 60 * (f 4).toInt + 60; omega), (by show 0 ≤ o2.toInt; omega), (by show o2.toInt + 64 * mj_n (g'53 16) z15.toNatClampNeg 3 ≤ 64 * (f 4).toInt; rw [show g'53 16 = g'38 16 from h56_ 16 (by decide), show g'38 16 = g'26 16 from h46_ 16 (by decide), show g'26 16 = g'5 16 from h31_ 16 (by decide)]; omega), (by show 0 ≤ b37.toInt; omega), (by show b37.toInt ≤ (f 4).toInt; omega), (by show 0 ≤ (f 48).toInt; omega), (by show (f 48).toInt ≤ (f 4).toInt; omega), (by show 1 ≤ (f 53).toInt; omega), (by show (f 53).toInt ≤ (f 4).toInt + 1; omega), (by show 0 ≤ (f 19).toInt; omega), (by show (f 19).toInt ≤ 600; omega), (by show 0 ≤ (f 6).toInt; omega), (by show 0 ≤ (f 8).toInt; omega)⟩
    · show 100 * ((f 0).toInt - (f 4).toInt) + mg_p3 gs < 100 * ((f 0).toInt - (f 4).toInt) + (1 + mg_p3 gs); omega
  · refine am_e13f hi_243_15 (am_cF (m := (f 24).toInt) (n := (g 38 z19.toNatClampNeg).toInt) rfl rfl c21) ?_
    refine am_e0 hi_243_18 ?_
    refine am_e18 hi_243_19 ?_
    refine am_e36 hi_243_23 (by decide) ?_
    show am_E _ _ _ _ [some (.ref 39), some (.int on), none] [.int 1] _ _
    refine am_e12f hi_247_8 (by decide) ?_
    refine am_e2 (v := 39) hi_247_11 rfl ?_
    refine am_e0 hi_247_12 ?_
    refine am_e0 hi_247_14 ?_
    refine am_e0 hi_247_15 ?_
    refine am_e0 hi_247_16 ?_
    refine am_e32n (as := [.ref 39, .int 37, .int 0, .int 0, .int 0]) (la := [some (.ref 39), some (.int 37), some (.int 0), some (.int 0), some (.int 0)]) (rest := []) hi_247_17 (am_hd0 (M := 247) (by decide) 17) (Nat.le_of_ble_eq_true rfl) (Nat.le_of_ble_eq_true rfl) (show 5 ≤ am_P0.2.2.1 189 from by decide +kernel) rfl (am_recv_ok hS17.fs) rfl rfl (ct_put (d := (d + 6)) hS17 hR14_  (by show (0 : Int) ≤ (f 32).toInt; omega) (by show (f 32).toInt ≤ (63 : Int); omega) (by show (f 53).toInt ≤ (4096 : Int); omega) (by show (0 : Int) ≤ s3.toInt; omega) (by show s3.toInt ≤ (65534 : Int); omega)) ?_
    rintro v58 S59 (⟨z60, r61, g'62, hv63, hS64, hR68, h65, h66, h67⟩)
    subst hv63
    have h65_ : z60.toInt = s3.toInt + 1 := h65
    have h66_ : r61.toInt = s3.toInt := h66
    have h67_ : ∀ j, j ∉ [60, 69, 70, 71, 72, 73] → g'62 j = g'5 j := h67
    replace hS64 : MS S0 S59 (upd (upd (upd (upd f 15 z15) 62 o2) 68 z60) 75 m4) g'62 := hS64
    have hR68_ : RJ (upd (upd (upd (upd f 15 z15) 62 o2) 68 z60) 75 m4) g'62 gs (c0 :: bc1) [] 0 (s3.toNatClampNeg :: []) := hR68
    show am_E _ _ _ _ [some (.ref 39), some (.int on), none] [.int r61] _ _
    refine am_e3 (ls' := [some (.ref 39), some (.int on), some (.int r61)]) hi_247_20 (Nat.le_of_ble_eq_true rfl) rfl ?_
    refine am_e2 (v := 39) hi_247_21 rfl ?_
    refine am_e0 hi_247_22 ?_
    refine am_e2 (v := 39) hi_247_24 rfl ?_
    refine am_e32w (as := [.ref 39]) (la := [some (.ref 39)]) (rest := [.int 33, .ref 39]) hi_247_25 (am_hd0 (M := 247) (by decide) 25) (Nat.le_of_ble_eq_true rfl) (Nat.le_of_ble_eq_true rfl) (show 1 ≤ am_P0.2.2.1 232 from by decide +kernel) rfl (am_recv_ok hS64.fs) rfl rfl ?_
    refine am_e2 (v := 39) hi_232_0 rfl ?_
    refine mm_20 (v := .ref 62) hS64 hi_232_1 rfl ?_
    refine am_e2 (v := 39) hi_232_4 rfl ?_
    refine mm_20 (v := .int (f 37)) hS64 hi_232_5 rfl ?_
    refine am_e0 hi_232_8 ?_
    refine am_e10 (z := z19) hi_232_9 hz19 ?_
    refine mm_25 hS64 ma_38 hi_232_10 (by decide) (by omega) (by omega) ?_
    show am_E _ _ _ _ _ (.int (g'62 38 z19.toNatClampNeg) :: _) _ _
    rw [show g'62 38 = g'5 38 from h67_ 38 (by decide), show g'5 38 = g 38 from h13_ 38 (by decide)]
    show am_E _ _ _ _ [some (.ref 39)] [.int (g 38 z19.toNatClampNeg)] _ _
    have r69 : 0 ≤ (g 38 z19.toNatClampNeg).toInt ∧ (g 38 z19.toNatClampNeg).toInt ≤ (f 24).toInt := by
      have h := RJ.bl (i := z19) hR68_ (by omega) (by show z19.toInt < (f 37).toInt; omega)
      rw [show g'62 38 = g'5 38 from h67_ 38 (by decide), show g'5 38 = g 38 from h13_ 38 (by decide)] at h
      exact h
    refine am_e2 (v := 39) hi_232_11 rfl ?_
    refine mm_20 (v := .ref 59) hS64 hi_232_12 rfl ?_
    refine am_e2 (v := 39) hi_232_15 rfl ?_
    refine mm_20 (v := .int (f 32)) hS64 hi_232_16 rfl ?_
    refine mm_25 hS64 ma_34 hi_232_19 (by decide) (by omega) (by omega) ?_
    show am_E _ _ _ _ _ (.int (g'62 34 (f 32).toNatClampNeg) :: _) _ _
    rw [show g'62 34 = g'5 34 from h67_ 34 (by decide), show g'5 34 = g 34 from h13_ 34 (by decide)]
    show am_E _ _ _ _ [some (.ref 39)] [.int (g 34 (f 32).toNatClampNeg), .int (g 38 z19.toNatClampNeg)] _ _
    have r70 : 0 ≤ (g 34 (f 32).toNatClampNeg).toInt := by
      have h := RJ.ba hR68_ (f 32).toNatClampNeg
      rw [show g'62 34 = g'5 34 from h67_ 34 (by decide), show g'5 34 = g 34 from h13_ 34 (by decide)] at h
      exact h
    obtain ⟨z71, hz71⟩ : ∃ q__, am_bin 1 (g 38 z19.toNatClampNeg) (g 34 (f 32).toNatClampNeg) = q__ := ⟨_, rfl⟩
    refine am_e10 (z := z71) hi_232_20 hz71 ?_
    refine am_e33 hi_232_21 ?_
    show am_E _ _ _ _ [some (.ref 39), some (.int on), some (.int r61)] [.int z71, .int 33, .ref 39] _ _
    refine am_e0 hi_247_28 ?_
    refine am_e0 hi_247_29 ?_
    refine am_e32n (as := [.ref 39, .int 33, .int z71, .int 0, .int 0]) (la := [some (.ref 39), some (.int 33), some (.int z71), some (.int 0), some (.int 0)]) (rest := []) hi_247_30 (am_hd0 (M := 247) (by decide) 30) (Nat.le_of_ble_eq_true rfl) (Nat.le_of_ble_eq_true rfl) (show 5 ≤ am_P0.2.2.1 189 from by decide +kernel) rfl (am_recv_ok hS64.fs) rfl rfl (ct_put (d := (d + 6)) hS64 hR68_  (by show (0 : Int) ≤ (f 32).toInt; omega) (by show (f 32).toInt ≤ (63 : Int); omega) (by show (f 53).toInt ≤ (4096 : Int); omega) (by show (0 : Int) ≤ z60.toInt; omega) (by show z60.toInt ≤ (65534 : Int); omega)) ?_
    rintro v72 S73 (⟨z74, r75, g'76, hv77, hS78, hR82, h79, h80, h81⟩)
    subst hv77
    have h79_ : z74.toInt = z60.toInt + 1 := h79
    have h80_ : r75.toInt = z60.toInt := h80
    have h81_ : ∀ j, j ∉ [60, 69, 70, 71, 72, 73] → g'76 j = g'62 j := h81
    replace hS78 : MS S0 S73 (upd (upd (upd (upd f 15 z15) 62 o2) 68 z74) 75 m4) g'76 := hS78
    have hR82_ : RJ (upd (upd (upd (upd f 15 z15) 62 o2) 68 z74) 75 m4) g'76 gs (c0 :: bc1) [] 0 (z60.toNatClampNeg :: (s3.toNatClampNeg :: [])) := hR82
    show am_E _ _ _ _ [some (.ref 39), some (.int on), some (.int r61)] [.int r75] _ _
    refine am_e6i hi_247_33 ?_
    refine am_e2 (v := 39) hi_247_34 rfl ?_
    refine am_e0 hi_247_35 ?_
    refine am_e1 (v := on) hi_247_37 rfl ?_
    refine am_e0 hi_247_38 ?_
    refine am_e0 hi_247_39 ?_
    refine am_e32n (as := [.ref 39, .int 36, .int on, .int 0, .int 0]) (la := [some (.ref 39), some (.int 36), some (.int on), some (.int 0), some (.int 0)]) (rest := []) hi_247_40 (am_hd0 (M := 247) (by decide) 40) (Nat.le_of_ble_eq_true rfl) (Nat.le_of_ble_eq_true rfl) (show 5 ≤ am_P0.2.2.1 189 from by decide +kernel) rfl (am_recv_ok hS78.fs) rfl rfl (ct_put (d := (d + 6)) hS78 hR82_  (by show (0 : Int) ≤ (f 32).toInt; omega) (by show (f 32).toInt ≤ (63 : Int); omega) (by show (f 53).toInt ≤ (4096 : Int); omega) (by show (0 : Int) ≤ z74.toInt; omega) (by show z74.toInt ≤ (65534 : Int); omega)) ?_
    rintro v83 S84 (⟨z85, r86, g'87, hv88, hS89, hR93, h90, h91, h92⟩)
    subst hv88
    have h90_ : z85.toInt = z74.toInt + 1 := h90
    have h91_ : r86.toInt = z74.toInt := h91
    have h92_ : ∀ j, j ∉ [60, 69, 70, 71, 72, 73] → g'87 j = g'76 j := h92
    replace hS89 : MS S0 S84 (upd (upd (upd (upd f 15 z15) 62 o2) 68 z85) 75 m4) g'87 := hS89
    have hR93_ : RJ (upd (upd (upd (upd f 15 z15) 62 o2) 68 z85) 75 m4) g'87 gs (c0 :: bc1) [] 0 (z74.toNatClampNeg :: (z60.toNatClampNeg :: (s3.toNatClampNeg :: []))) := hR93
    show am_E _ _ _ _ [some (.ref 39), some (.int on), some (.int r61)] [.int r86] _ _
    refine am_e6i hi_247_43 ?_
    refine am_e2 (v := 39) hi_247_44 rfl ?_
    refine mm_20 (v := .ref 90) hS89 hi_247_45 rfl ?_
    refine am_e1 (v := r61) hi_247_48 rfl ?_
    refine am_e2 (v := 39) hi_247_49 rfl ?_
    refine am_e32n (as := [.ref 39]) (la := [some (.ref 39)]) (rest := [.int r61, .ref 90]) hi_247_50 (am_hd0 (M := 247) (by decide) 50) (Nat.le_of_ble_eq_true rfl) (Nat.le_of_ble_eq_true rfl) (show 1 ≤ am_P0.2.2.1 210 from by decide +kernel) rfl (am_recv_ok hS89.fs) rfl rfl (ct_here (d := (d + 6)) hS89 hR93_  (by show (0 : Int) ≤ (f 32).toInt; omega) (by show (f 32).toInt ≤ (63 : Int); omega) (by show (f 53).toInt ≤ (4096 : Int); omega) (by show (0 : Int) ≤ z85.toInt; omega) (by show z85.toInt ≤ (65534 : Int); omega)) ?_
    rintro v94 S95 (⟨r96, hv97, hS98, h99, h100⟩)
    subst hv97
    have h99_ : (0 : Int) ≤ r96.toInt := h99
    have h100_ : r96.toInt ≤ z85.toInt := h100
    show am_E _ _ _ _ [some (.ref 39), some (.int on), some (.int r61)] [.int r96, .int r61, .ref 90] _ _
    refine mm_26 hS98 ma_71 hi_247_53 (by decide) (by omega) (by omega) (fun h => nomatch h) ?_
    intro S102 hS103
    have hix198 : r61.toNatClampNeg = s3.toNatClampNeg := by first | rfl | (rw [cl_toNat, cl_toNat]; omega)
    have hR104 : RJ (upd (upd (upd (upd f 15 z15) 62 o2) 68 z85) 75 m4) (upg g'87 71 r61.toNatClampNeg r96) gs (c0 :: bc1) [] 0 (z74.toNatClampNeg :: (z60.toNatClampNeg :: (s3.toNatClampNeg :: []))) := by rw [hix198]; exact RJ.lead hR93_ (RJ.pjn hR93_ (show s3.toNatClampNeg ∈ _ from by simp only [List.mem_cons, true_or, or_true]))
    refine am_e2 (v := 39) hi_247_54 rfl ?_
    refine am_e0 hi_247_55 ?_
    refine am_e2 (v := 39) hi_247_57 rfl ?_
    refine am_e32w (as := [.ref 39]) (la := [some (.ref 39)]) (rest := [.int 33, .ref 39]) hi_247_58 (am_hd0 (M := 247) (by decide) 58) (Nat.le_of_ble_eq_true rfl) (Nat.le_of_ble_eq_true rfl) (show 1 ≤ am_P0.2.2.1 232 from by decide +kernel) rfl (am_recv_ok hS103.fs) rfl rfl ?_
    refine am_e2 (v := 39) hi_232_0 rfl ?_
    refine mm_20 (v := .ref 62) hS103 hi_232_1 rfl ?_
    refine am_e2 (v := 39) hi_232_4 rfl ?_
    refine mm_20 (v := .int (f 37)) hS103 hi_232_5 rfl ?_
    refine am_e0 hi_232_8 ?_
    refine am_e10 (z := z19) hi_232_9 hz19 ?_
    refine mm_25 hS103 ma_38 hi_232_10 (by decide) (by omega) (by omega) ?_
    show am_E _ _ _ _ _ (.int (g'87 38 z19.toNatClampNeg) :: _) _ _
    rw [show g'87 38 = g'76 38 from h92_ 38 (by decide), show g'76 38 = g'62 38 from h81_ 38 (by decide), show g'62 38 = g'5 38 from h67_ 38 (by decide), show g'5 38 = g 38 from h13_ 38 (by decide)]
    show am_E _ _ _ _ [some (.ref 39)] [.int (g 38 z19.toNatClampNeg)] _ _
    have r105 : 0 ≤ (g 38 z19.toNatClampNeg).toInt ∧ (g 38 z19.toNatClampNeg).toInt ≤ (f 24).toInt := by
      have h : 0 ≤ (g'87 38 z19.toNatClampNeg).toInt ∧ (g'87 38 z19.toNatClampNeg).toInt ≤ (f 24).toInt := RJ.bl (i := z19) hR104 (by omega) (by show z19.toInt < (f 37).toInt; omega)
      rw [show g'87 38 = g'76 38 from h92_ 38 (by decide), show g'76 38 = g'62 38 from h81_ 38 (by decide), show g'62 38 = g'5 38 from h67_ 38 (by decide), show g'5 38 = g 38 from h13_ 38 (by decide)] at h
      exact h
    refine am_e2 (v := 39) hi_232_11 rfl ?_
    refine mm_20 (v := .ref 59) hS103 hi_232_12 rfl ?_
    refine am_e2 (v := 39) hi_232_15 rfl ?_
    refine mm_20 (v := .int (f 32)) hS103 hi_232_16 rfl ?_
    refine mm_25 hS103 ma_34 hi_232_19 (by decide) (by omega) (by omega) ?_
    show am_E _ _ _ _ _ (.int (g'87 34 (f 32).toNatClampNeg) :: _) _ _
    rw [show g'87 34 = g'76 34 from h92_ 34 (by decide), show g'76 34 = g'62 34 from h81_ 34 (by decide), show g'62 34 = g'5 34 from h67_ 34 (by decide), show g'5 34 = g 34 from h13_ 34 (by decide)]
    show am_E _ _ _ _ [some (.ref 39)] [.int (g 34 (f 32).toNatClampNeg), .int (g 38 z19.toNatClampNeg)] _ _
    have r106 : 0 ≤ (g 34 (f 32).toNatClampNeg).toInt := by
      have h : 0 ≤ (g'87 34 (f 32).toNatClampNeg).toInt := RJ.ba hR104 (f 32).toNatClampNeg
      rw [show g'87 34 = g'76 34 from h92_ 34 (by decide), show g'76 34 = g'62 34 from h81_ 34 (by decide), show g'62 34 = g'5 34 from h67_ 34 (by decide), show g'5 34 = g 34 from h13_ 34 (by decide)] at h
      exact h
    refine am_e10 (z := z71) hi_232_20 hz71 ?_
    refine am_e33 hi_232_21 ?_
    show am_E _ _ _ _ [some (.ref 39), some (.int on), some (.int r61)] [.int z71, .int 33, .ref 39] _ _
    refine am_e0 hi_247_61 ?_
    refine am_e0 hi_247_62 ?_
    refine am_e32n (as := [.ref 39, .int 33, .int z71, .int 0, .int 0]) (la := [some (.ref 39), some (.int 33), some (.int z71), some (.int 0), some (.int 0)]) (rest := []) hi_247_63 (am_hd0 (M := 247) (by decide) 63) (Nat.le_of_ble_eq_true rfl) (Nat.le_of_ble_eq_true rfl) (show 5 ≤ am_P0.2.2.1 189 from by decide +kernel) rfl (am_recv_ok hS103.fs) rfl rfl (ct_put (d := (d + 6)) hS103 hR104  (by show (0 : Int) ≤ (f 32).toInt; omega) (by show (f 32).toInt ≤ (63 : Int); omega) (by show (f 53).toInt ≤ (4096 : Int); omega) (by show (0 : Int) ≤ z85.toInt; omega) (by show z85.toInt ≤ (65534 : Int); omega)) ?_
    rintro v107 S108 (⟨z109, r110, g'111, hv112, hS113, hR117, h114, h115, h116⟩)
    subst hv112
    have h114_ : z109.toInt = z85.toInt + 1 := h114
    have h115_ : r110.toInt = z85.toInt := h115
    have h116_ : ∀ j, j ∉ [60, 69, 70, 71, 72, 73] → g'111 j = (upg g'87 71 r61.toNatClampNeg r96) j := h116
    replace hS113 : MS S0 S108 (upd (upd (upd (upd f 15 z15) 62 o2) 68 z109) 75 m4) g'111 := hS113
    have hR117_ : RJ (upd (upd (upd (upd f 15 z15) 62 o2) 68 z109) 75 m4) g'111 gs (c0 :: bc1) [] 0 (z85.toNatClampNeg :: (z74.toNatClampNeg :: (z60.toNatClampNeg :: (s3.toNatClampNeg :: [])))) := hR117
    show am_E _ _ _ _ [some (.ref 39), some (.int on), some (.int r61)] [.int r110] _ _
    refine am_e6i hi_247_66 ?_
    refine am_e18 hi_247_67 ?_
    refine am_e2 (v := 39) hi_247_80 rfl ?_
    refine am_e32n (as := [.ref 39]) (la := [some (.ref 39), none, none]) (rest := []) hi_247_81 (am_hd0 (M := 247) (by decide) 81) (Nat.le_of_ble_eq_true rfl) (Nat.le_of_ble_eq_true rfl) (show 1 ≤ am_P0.2.2.1 224 from by decide +kernel) rfl (am_recv_ok hS113.fs) rfl rfl (ct_dropBlock2 (d := (d + 6)) hS113 hR117_  (by show (0 : Int) ≤ (f 32).toInt; omega) (by show (f 32).toInt ≤ (63 : Int); omega) (by show (0 : Int) ≤ (f 48).toInt; omega) (by show (f 48).toInt ≤ (8192 : Int); omega) (by show (f 4).toInt ≤ (8192 : Int); omega) (by show (1 : Int) ≤ (f 37).toInt; omega) (by show (f 37).toInt ≤ (128 : Int); omega)) ?_
    rintro v118 S119 (⟨l120, z121, b122, g'123, hv124, hS125, hR134, h126, h127, h128, h129, h130, h131, h132, h133⟩)
    subst hv124
    have h126_ : z121.toInt = (f 37).toInt - 1 := h126
    have h127_ : (0 : Int) ≤ l120.toInt := h127
    have h128_ : l120.toInt ≤ (f 24).toInt := h128
    have h129_ : (0 : Int) ≤ b122.toInt := h129
    have h130_ : b122.toInt ≤ (f 4).toInt := h130
    have h131_ : ∀ j, j ∉ [52] → g'123 j = g'111 j := h131
    have h132_ : ([] : List Nat) = [] → RJ (upd (upd (upd (upd (upd (upd (upd f 15 z15) 24 l120) 37 z121) 44 b122) 62 o2) 68 z109) 75 m4) g'123 gs bc1 c0 (g'123 43 z121.toNatClampNeg).toInt (z85.toNatClampNeg :: (z74.toNatClampNeg :: (z60.toNatClampNeg :: (s3.toNatClampNeg :: [])))) := h132
    have h133_ : l120 = g'111 38 z121.toNatClampNeg := h133
    replace hS125 : MS S0 S119 (upd (upd (upd (upd (upd (upd (upd f 15 z15) 24 l120) 37 z121) 44 b122) 62 o2) 68 z109) 75 m4) g'123 := hS125
    have hR134_ : RJ (upd (upd (upd (upd (upd (upd (upd f 15 z15) 24 l120) 37 z121) 44 b122) 62 o2) 68 z109) 75 m4) g'123 gs bc1 [] 0 (z85.toNatClampNeg :: (z74.toNatClampNeg :: (z60.toNatClampNeg :: (s3.toNatClampNeg :: [])))) := hR134
    have hR135 : RJ (upd (upd (upd (upd (upd (upd (upd f 15 z15) 24 l120) 37 z121) 44 b122) 62 o2) 68 z109) 75 m4) g'123 gs bc1 c0 (g'123 43 z121.toNatClampNeg).toInt (z85.toNatClampNeg :: (z74.toNatClampNeg :: (z60.toNatClampNeg :: (s3.toNatClampNeg :: [])))) := h132_ rfl
    show am_E _ _ _ _ [some (.ref 39), some (.int on), some (.int r61)] [] _ _
    refine am_e2 (v := 39) hi_247_84 rfl ?_
    refine am_e32n (as := [.ref 39]) (la := [some (.ref 39), none, none]) (rest := []) hi_247_85 (am_hd0 (M := 247) (by decide) 85) (Nat.le_of_ble_eq_true rfl) (Nat.le_of_ble_eq_true rfl) (show 1 ≤ am_P0.2.2.1 246 from by decide +kernel) rfl (am_recv_ok hS125.fs) rfl rfl (ct_mendBreaks (d := (d + 5)) hS125 hR135 (show (g'123 43 z121.toNatClampNeg).toInt = (g'123 43 z121.toNatClampNeg).toInt from rfl) (by show (0 : Int) ≤ (f 32).toInt; omega) (by show (f 32).toInt ≤ (63 : Int); omega) (by show (f 53).toInt ≤ (4096 : Int); omega) (by show (0 : Int) ≤ z109.toInt; omega) (by show z109.toInt ≤ (65534 : Int); omega) (by show (0 : Int) ≤ z121.toInt; omega) (by show z121.toInt ≤ (127 : Int); omega)) ?_
    rintro v136 S137 (⟨g'138, hv139, hS140, hR142, h141⟩)
    subst hv139
    have h141_ : ∀ j, j ∉ [71] → g'138 j = g'123 j := h141
    have hR142_ : RJ (upd (upd (upd (upd (upd (upd (upd f 15 z15) 24 l120) 37 z121) 44 b122) 62 o2) 68 z109) 75 m4) g'138 gs bc1 [] 0 (z85.toNatClampNeg :: (z74.toNatClampNeg :: (z60.toNatClampNeg :: (s3.toNatClampNeg :: [])))) := hR142
    show am_E _ _ _ _ [some (.ref 39), some (.int on), some (.int r61)] [] _ _
    refine am_e35 hi_247_88 ?_
    show am_E _ _ _ _ [some (.ref 39), some (.int 6), some (.int on), some (.int tw), some (.int th)] [] _ _
    refine am_e18 hi_180_184 ?_
    refine am_e35 hi_180_371 ?_
    have q1 : mg_p1 gs = mg_p1 gs := rfl
    have q2 : mg_p2 gs = mg_p2 gs := rfl
    have q3 : mg_p3 gs = mg_p3 gs := rfl
    have q4 : mg_p4 gs = mg_p4 gs := rfl
    refine ⟨_, _, _, bc1, rfl, hS140, Or.inl ⟨⟨(RJ.fewer (pj' := []) hR142_ (fun _ h => nomatch h)), ?_, ?_⟩, rfl, ?_⟩⟩
    · exact (mg_cast (mg_good_ext _ _ _ _ _ _ (fun i _ => by show g'138 34 i = g 34 i; rw [show g'138 34 = g'123 34 from h141_ 34 (by decide), show g'123 34 = g'111 34 from h131_ 34 (by decide), show g'111 34 = g'87 34 from h116_ 34 (by decide), show g'87 34 = g'76 34 from h92_ 34 (by decide), show g'76 34 = g'62 34 from h81_ 34 (by decide), show g'62 34 = g'5 34 from h67_ 34 (by decide), show g'5 34 = g 34 from h13_ 34 (by decide)]) (fun i _ => by show g'138 38 i = g 38 i; rw [show g'138 38 = g'123 38 from h141_ 38 (by decide), show g'123 38 = g'111 38 from h131_ 38 (by decide), show g'111 38 = g'87 38 from h116_ 38 (by decide), show g'87 38 = g'76 38 from h92_ 38 (by decide), show g'76 38 = g'62 38 from h81_ 38 (by decide), show g'62 38 = g'5 38 from h67_ 38 (by decide), show g'5 38 = g 38 from h13_ 38 (by decide)]) (fun i _ => by show g'138 23 i = g 23 i; rw [show g'138 23 = g'123 23 from h141_ 23 (by decide), show g'123 23 = g'111 23 from h131_ 23 (by decide), show g'111 23 = g'87 23 from h116_ 23 (by decide), show g'87 23 = g'76 23 from h92_ 23 (by decide), show g'76 23 = g'62 23 from h81_ 23 (by decide), show g'62 23 = g'5 23 from h67_ 23 (by decide), show g'5 23 = g 23 from h13_ 23 (by decide)]) hrest) (by show (f 15).toInt + -1 = z15.toInt; omega) (by show (f 20).toInt = (f 20).toInt; omega) (by show (f 37).toInt + -1 = z121.toInt; omega) (by show (f 32).toInt + 0 = (f 32).toInt; omega) (by show (f 5).toInt + 0 = (f 5).toInt; omega) : mg_good (g'138 34) (g'138 38) (g'138 23) gs (z15.toInt) ((f 20).toInt) (z121.toInt) ((f 32).toInt) ((f 5).toInt))
    · exact ⟨(by show 0 ≤ (f 4).toInt; omega), (by show (f 4).toInt ≤ (f 0).toInt; omega), (by show (f 0).toInt ≤ 512; omega), (by show 0 ≤ l120.toInt; omega), (by show l120.toInt + (f 20).toInt + mg_p1 gs ≤ 4 * (f 4).toInt; omega), (by show (f 20).toInt ≤ (f 4).toInt; omega), (by show z15.toInt + mg_p2 gs ≤ (f 4).toInt; omega), (by show mg_p3 gs ≤ 20 * (f 4).toInt + 20; omega), (by show 0 ≤ z109.toInt; omega), (by show z109.toInt + 3 * (f 20).toInt + mg_p4 gs ≤ 60 * (f 4).toInt + 60; omega), (by show 0 ≤ o2.toInt; omega), (by show o2.toInt + 64 * mj_n (g'138 16) z15.toNatClampNeg 3 ≤ 64 * (f 4).toInt; rw [show g'138 16 = g'123 16 from h141_ 16 (by decide), show g'123 16 = g'111 16 from h131_ 16 (by decide), show g'111 16 = g'87 16 from h116_ 16 (by decide), show g'87 16 = g'76 16 from h92_ 16 (by decide), show g'76 16 = g'62 16 from h81_ 16 (by decide), show g'62 16 = g'5 16 from h67_ 16 (by decide)]; omega), (by show 0 ≤ b122.toInt; omega), (by show b122.toInt ≤ (f 4).toInt; omega), (by show 0 ≤ (f 48).toInt; omega), (by show (f 48).toInt ≤ (f 4).toInt; omega), (by show 1 ≤ (f 53).toInt; omega), (by show (f 53).toInt ≤ (f 4).toInt + 1; omega), (by show 0 ≤ (f 19).toInt; omega), (by show (f 19).toInt ≤ 600; omega), (by show 0 ≤ (f 6).toInt; omega), (by show 0 ≤ (f 8).toInt; omega)⟩
    · show 100 * ((f 0).toInt - (f 4).toInt) + mg_p3 gs < 100 * ((f 0).toInt - (f 4).toInt) + (1 + mg_p3 gs); omega
