/-! STEPS: parts closed (printed by wip/p2/st2.py) -/
set_option maxHeartbeats 16000000 in
theorem st_8 {sc : Nat × (Nat → Int32)} {d : Nat} {S0 S : am_S} {f : Nat → Int32} {g : Nat → Nat → Int32} {on : Int32} {tw : Int32} {th : Int32} {gs : List mg_E} {bc : List (List Nat)} {fl : List Nat} (hS : MS S0 S f g) (hR : RJ f g gs bc fl tw.toInt [on.toInt.toNat]) (hrest : mg_good (g 34) (g 38) (g 23) gs ((f 15).toInt + 0) ((f 20).toInt) ((f 37).toInt + -1) ((f 32).toInt + 0) ((f 5).toInt + -1)) (p0 : 0 ≤ (f 4).toInt) (p1 : (f 4).toInt ≤ (f 0).toInt) (p2 : (f 0).toInt ≤ 512) (p3 : 0 ≤ (f 24).toInt) (p4 : (f 24).toInt + (f 20).toInt + mg_p1 gs ≤ 4 * (f 4).toInt) (p5 : (f 20).toInt ≤ (f 4).toInt) (p6 : (f 15).toInt + 0 + mg_p2 gs ≤ (f 4).toInt) (p7 : 1 + mg_p3 gs ≤ 20 * (f 4).toInt + 20) (p8 : 0 ≤ (f 68).toInt) (p9 : (f 68).toInt + 3 * (f 20).toInt + 0 + mg_p4 gs ≤ 60 * (f 4).toInt + 60) (p10 : 0 ≤ (f 62).toInt) (p11 : (f 62).toInt + 64 * mj_n (g 16) (f 15).toNatClampNeg 3 ≤ 64 * (f 4).toInt) (p12 : 0 ≤ (f 44).toInt) (p13 : (f 44).toInt ≤ (f 4).toInt) (p14 : 0 ≤ (f 48).toInt) (p15 : (f 48).toInt ≤ (f 4).toInt) (p16 : 1 ≤ (f 53).toInt) (p17 : (f 53).toInt ≤ (f 4).toInt + 1) (p18 : 0 ≤ (f 19).toInt) (p19 : (f 19).toInt ≤ 600) (p20 : 0 ≤ (f 6).toInt) (p21 : 0 ≤ (f 8).toInt) (p22 : 0 ≤ mg_p1 gs) (p23 : 0 ≤ mg_p2 gs) (p24 : 0 ≤ mg_p4 gs) (p25 : 0 ≤ (f 10).toInt) (p26 : (f 10).toInt ≤ mg_p3 gs) (p27 : 0 ≤ mj_n (g 16) (f 15).toNatClampNeg 3) (p28 : 0 ≤ (f 15).toInt) (p29 : 0 ≤ (f 20).toInt) (p30 : 1 ≤ (f 37).toInt) (p31 : 0 ≤ (f 32).toInt) (p32 : (f 32).toInt ≤ (f 5).toInt) (p33 : (f 5).toInt ≤ 48) (p34 : (f 37).toInt ≤ 2 * (f 5).toInt + 0) (p35 : 0 ≤ on.toInt) (p36 : on.toInt < (f 68).toInt) : am_E (am_PP sc) (d + 8) 180 0 [some (.ref 39), some (.int 8), some (.int on), some (.int tw), some (.int th)] [] S (am_N fun v S1 => ∃ (f' : Nat → Int32) (g' : Nat → Nat → Int32) (gs' : List mg_E) (bc' : List (List Nat)), v = none ∧ MS S0 S1 f' g' ∧ (mg_on f (100 * ((f 0).toInt - (f 4).toInt) + (1 + mg_p3 gs)) f' g' gs' bc' ∨ mg_off f f' g' bc')) := by
  have hbs := mg_basic hrest
  obtain ⟨c0, bc1, rfl⟩ := RJ.bcons hR (by omega)
  refine am_e1 (v := 8) hi_180_0 rfl ?_
  refine am_e0 hi_180_1 ?_
  refine am_e13t hi_180_3 (by decide) ?_
  refine am_e1 (v := 8) hi_180_14 rfl ?_
  refine am_e19 (t := 195) hi_180_15 (by decide) ?_
  refine am_e2 (v := 39) hi_180_195 rfl ?_
  refine am_e1 (v := on) hi_180_196 rfl ?_
  refine am_e1 (v := tw) hi_180_197 rfl ?_
  refine am_e32w (as := [.ref 39, .int on, .int tw]) (la := [some (.ref 39), some (.int on), some (.int tw), none, none]) (rest := []) hi_180_198 (am_hd0 (M := 180) (by decide) 198) (Nat.le_of_ble_eq_true rfl) (Nat.le_of_ble_eq_true rfl) (show 3 ≤ am_P0.2.2.1 249 from by decide +kernel) rfl (am_recv_ok hS.fs) rfl rfl ?_
  refine am_e2 (v := 39) hi_249_0 rfl ?_
  refine am_e32w (as := [.ref 39]) (la := [some (.ref 39)]) (rest := []) hi_249_1 (am_hd0 (M := 249) (by decide) 1) (Nat.le_of_ble_eq_true rfl) (Nat.le_of_ble_eq_true rfl) (show 1 ≤ am_P0.2.2.1 242 from by decide +kernel) rfl (am_recv_ok hS.fs) rfl rfl ?_
  refine am_e2 (v := 39) hi_242_0 rfl ?_
  refine am_e32w (as := [.ref 39]) (la := [some (.ref 39)]) (rest := []) hi_242_1 (am_hd0 (M := 242) (by decide) 1) (Nat.le_of_ble_eq_true rfl) (Nat.le_of_ble_eq_true rfl) (show 1 ≤ am_P0.2.2.1 243 from by decide +kernel) rfl (am_recv_ok hS.fs) rfl rfl ?_
  refine am_e2 (v := 39) hi_243_0 rfl ?_
  refine mm_20 (v := .int (f 24)) hS hi_243_1 rfl ?_
  refine am_e2 (v := 39) hi_243_4 rfl ?_
  refine mm_20 (v := .ref 62) hS hi_243_5 rfl ?_
  refine am_e2 (v := 39) hi_243_8 rfl ?_
  refine mm_20 (v := .int (f 37)) hS hi_243_9 rfl ?_
  refine am_e0 hi_243_12 ?_
  obtain ⟨z0, hz0, tz0⟩ := am_subI (x := f 37) (y := 1) (m := (f 37).toInt) (n := (1 : Int)) rfl (by decide) (by omega) (by omega)
  refine am_e10 (z := z0) hi_243_13 hz0 ?_
  refine mm_25 hS ma_38 hi_243_14 (by decide) (by omega) (by omega) ?_
  show am_E _ _ _ _ [some (.ref 39)] [.int (g 38 z0.toNatClampNeg), .int (f 24)] _ _
  have r1 : 0 ≤ (g 38 z0.toNatClampNeg).toInt ∧ (g 38 z0.toNatClampNeg).toInt ≤ (f 24).toInt := RJ.bl (i := z0) hR (by omega) (by show z0.toInt < (f 37).toInt; omega)
  by_cases c2 : (f 24).toInt ≤ (g 38 z0.toNatClampNeg).toInt
  · refine am_e13t hi_243_15 (am_cT (m := (f 24).toInt) (n := (g 38 z0.toNatClampNeg).toInt) rfl rfl c2) ?_
    refine am_e0 hi_243_22 ?_
    refine am_e36 hi_243_23 (by decide) ?_
    show am_E _ _ _ _ [some (.ref 39)] [.int 0] _ _
    refine am_e12t hi_242_4 (by decide) ?_
    refine am_e2 (v := 39) hi_242_20 rfl ?_
    refine am_e32n (as := [.ref 39]) (la := [some (.ref 39), none, none]) (rest := []) hi_242_21 (am_hd0 (M := 242) (by decide) 21) (Nat.le_of_ble_eq_true rfl) (Nat.le_of_ble_eq_true rfl) (show 1 ≤ am_P0.2.2.1 224 from by decide +kernel) rfl (am_recv_ok hS.fs) rfl rfl (ct_dropBlock2 (d := (d + 5)) hS hR  (by show (0 : Int) ≤ (f 32).toInt; omega) (by show (f 32).toInt ≤ (63 : Int); omega) (by show (0 : Int) ≤ (f 48).toInt; omega) (by show (f 48).toInt ≤ (8192 : Int); omega) (by show (f 4).toInt ≤ (8192 : Int); omega) (by show (1 : Int) ≤ (f 37).toInt; omega) (by show (f 37).toInt ≤ (128 : Int); omega)) ?_
    rintro v3 S4 (⟨l5, z6, b7, g'8, hv9, hS10, hR19, h11, h12, h13, h14, h15, h16, h17, h18⟩)
    subst hv9
    have h11_ : z6.toInt = (f 37).toInt - 1 := h11
    have h12_ : (0 : Int) ≤ l5.toInt := h12
    have h13_ : l5.toInt ≤ (f 24).toInt := h13
    have h14_ : (0 : Int) ≤ b7.toInt := h14
    have h15_ : b7.toInt ≤ (f 4).toInt := h15
    have h16_ : ∀ j, j ∉ [52] → g'8 j = g j := h16
    have h17_ : (fl : List Nat) = [] → RJ (upd (upd (upd f 24 l5) 37 z6) 44 b7) g'8 gs bc1 c0 (g'8 43 z6.toNatClampNeg).toInt [on.toInt.toNat] := h17
    have h18_ : l5 = g 38 z6.toNatClampNeg := h18
    have hR19_ : RJ (upd (upd (upd f 24 l5) 37 z6) 44 b7) g'8 gs bc1 fl tw.toInt [on.toInt.toNat] := hR19
    show am_E _ _ _ _ [some (.ref 39)] [] _ _
    refine am_e35 hi_242_24 ?_
    show am_E _ _ _ _ [some (.ref 39), some (.int on), some (.int tw), none, none] [] _ _
    refine am_e2 (v := 39) hi_249_4 rfl ?_
    refine am_e32n (as := [.ref 39]) (la := [some (.ref 39)]) (rest := []) hi_249_5 (am_hd0 (M := 249) (by decide) 5) (Nat.le_of_ble_eq_true rfl) (Nat.le_of_ble_eq_true rfl) (show 1 ≤ am_P0.2.2.1 183 from by decide +kernel) rfl (am_recv_ok hS10.fs) rfl rfl (ct_next (d := (d + 5)) hS10   (by show (0 : Int) ≤ (f 4).toInt; omega) (by show (f 0).toInt ≤ (16384 : Int); omega)) ?_
    rintro v20 S21 (⟨r22, hv23, hS24, h25⟩)
    subst hv23
    have h25_ : (f 4).toInt < (f 0).toInt ∨ r22.toInt = (-1 : Int) := h25
    show am_E _ _ _ _ [some (.ref 39), some (.int on), some (.int tw), none, none] [.int r22] _ _
    refine am_e3 (ls' := [some (.ref 39), some (.int on), some (.int tw), some (.int r22), none]) hi_249_8 (Nat.le_of_ble_eq_true rfl) rfl ?_
    refine am_e1 (v := r22) hi_249_9 rfl ?_
    refine am_e0 hi_249_10 ?_
    by_cases c27 : ¬ r22.toInt = (15 : Int)
    · refine am_e13t hi_249_12 (am_cT (m := r22.toInt) (n := (15 : Int)) rfl (by decide) c27) ?_
      refine am_e1 (v := r22) hi_249_40 rfl ?_
      refine am_e0 hi_249_41 ?_
      by_cases c28 : r22.toInt = (14 : Int)
      · refine am_e13t hi_249_43 (am_cT (m := r22.toInt) (n := (14 : Int)) rfl (by decide) c28) ?_
        refine am_e2 (v := 39) hi_249_52 rfl ?_
        refine am_e0 hi_249_53 ?_
        refine am_e1 (v := tw) hi_249_55 rfl ?_
        refine am_e0 hi_249_56 ?_
        refine am_e0 hi_249_57 ?_
        refine am_e32n (as := [.ref 39, .int 36, .int tw, .int 0, .int 0]) (la := [some (.ref 39), some (.int 36), some (.int tw), some (.int 0), some (.int 0)]) (rest := []) hi_249_58 (am_hd0 (M := 249) (by decide) 58) (Nat.le_of_ble_eq_true rfl) (Nat.le_of_ble_eq_true rfl) (show 5 ≤ am_P0.2.2.1 189 from by decide +kernel) rfl (am_recv_ok hS24.fs) rfl rfl (ct_putc (d := (d + 6)) hS24 hR19_ rfl (by show (0 : Int) ≤ (f 32).toInt; omega) (by show (f 32).toInt ≤ (63 : Int); omega) (by show (f 53).toInt ≤ (4096 : Int); omega) (by show (0 : Int) ≤ (f 68).toInt; omega) (by show (f 68).toInt ≤ (65534 : Int); omega)) ?_
        rintro v29 S30 (⟨z31, r32, g'33, hv34, hS35, hR39, h36, h37, h38⟩)
        subst hv34
        have h36_ : z31.toInt = (f 68).toInt + 1 := h36
        have h37_ : r32.toInt = (f 68).toInt := h37
        have h38_ : ∀ j, j ∉ [60, 69, 70, 71, 72, 73] → g'33 j = g'8 j := h38
        have hR39_ : RJ (upd (upd (upd (upd f 24 l5) 37 z6) 44 b7) 68 z31) g'33 gs bc1 ((f 68).toNatClampNeg :: fl) ((f 68).toInt + 1) [on.toInt.toNat] := hR39
        show am_E _ _ _ _ [some (.ref 39), some (.int on), some (.int tw), some (.int r22), none] [.int r32] _ _
        refine am_e0 hi_249_61 ?_
        obtain ⟨z40, hz40, tz40⟩ := am_addI (x := r32) (y := 1) (m := r32.toInt) (n := (1 : Int)) rfl (by decide) (by omega) (by omega)
        refine am_e10 (z := z40) hi_249_62 hz40 ?_
        refine am_e3 (ls' := [some (.ref 39), some (.int on), some (.int tw), some (.int r22), some (.int z40)]) hi_249_63 (Nat.le_of_ble_eq_true rfl) rfl ?_
        refine am_e2 (v := 39) hi_249_65 rfl ?_
        refine mm_20 (v := .ref 90) hS35 hi_249_66 rfl ?_
        refine am_e1 (v := on) hi_249_69 rfl ?_
        refine am_e2 (v := 39) hi_249_70 rfl ?_
        refine am_e32n (as := [.ref 39]) (la := [some (.ref 39)]) (rest := [.int on, .ref 90]) hi_249_71 (am_hd0 (M := 249) (by decide) 71) (Nat.le_of_ble_eq_true rfl) (Nat.le_of_ble_eq_true rfl) (show 1 ≤ am_P0.2.2.1 210 from by decide +kernel) rfl (am_recv_ok hS35.fs) rfl rfl (ct_here (d := (d + 6)) hS35 hR39_  (by show (0 : Int) ≤ (f 32).toInt; omega) (by show (f 32).toInt ≤ (63 : Int); omega) (by show (f 53).toInt ≤ (4096 : Int); omega) (by show (0 : Int) ≤ z31.toInt; omega) (by show z31.toInt ≤ (65534 : Int); omega)) ?_
        rintro v41 S42 (⟨r43, hv44, hS45, h46, h47⟩)
        subst hv44
        have h46_ : (0 : Int) ≤ r43.toInt := h46
        have h47_ : r43.toInt ≤ z31.toInt := h47
        show am_E _ _ _ _ [some (.ref 39), some (.int on), some (.int tw), some (.int r22), some (.int z40)] [.int r43, .int on, .ref 90] _ _
        refine mm_26 hS45 ma_71 hi_249_74 (by decide) (by omega) (by omega) (fun h => nomatch h) ?_
        intro S49 hS50
        have hix93 : on.toNatClampNeg = on.toInt.toNat := by first | rfl | (rw [cl_toNat, cl_toNat]; omega)
        have hR51 : RJ (upd (upd (upd (upd f 24 l5) 37 z6) 44 b7) 68 z31) (upg g'33 71 on.toNatClampNeg r43) gs bc1 ((f 68).toNatClampNeg :: fl) ((f 68).toInt + 1) [on.toInt.toNat] := by rw [hix93]; exact RJ.lead hR39_ (RJ.pjn hR39_ (show on.toInt.toNat ∈ _ from by simp only [List.mem_cons, true_or, or_true]))
        refine am_e2 (v := 39) hi_249_75 rfl ?_
        refine am_e7 hi_249_76 ?_
        refine mm_20 (v := .int (f 4)) hS50 hi_249_77 rfl ?_
        refine am_e0 hi_249_80 ?_
        obtain ⟨z52, hz52, tz52⟩ := am_addI (x := f 4) (y := 1) (m := (f 4).toInt) (n := (1 : Int)) rfl (by decide) (by omega) (by omega)
        refine am_e10 (z := z52) hi_249_81 hz52 ?_
        refine mm_21 (v := z52) hS50 hi_249_82 rfl (Nat.le_of_ble_eq_true rfl) ms_4 ?_
        intro S53 hS54
        replace hS54 : MS S0 S53 (upd (upd (upd (upd (upd f 4 z52) 24 l5) 37 z6) 44 b7) 68 z31) (upg g'33 71 on.toNatClampNeg r43) := hS54
        have hR55 : RJ (upd (upd (upd (upd (upd f 4 z52) 24 l5) 37 z6) 44 b7) 68 z31) (upg g'33 71 on.toNatClampNeg r43) gs bc1 ((f 68).toNatClampNeg :: fl) ((f 68).toInt + 1) [on.toInt.toNat] := RJ.at hR51 (by show (f 4).toInt ≤ z52.toInt; omega)
        refine am_e1 (v := r22) hi_249_85 rfl ?_
        refine am_e0 hi_249_86 ?_
        refine am_e13f hi_249_88 (am_cF (m := r22.toInt) (n := (14 : Int)) rfl (by decide) (by simp only [am_cI]; omega)) ?_
        refine am_e2 (v := 39) hi_249_91 rfl ?_
        refine am_e7 hi_249_92 ?_
        refine mm_20 (v := .int (f 5)) hS54 hi_249_93 rfl ?_
        refine am_e0 hi_249_96 ?_
        obtain ⟨z56, hz56, tz56⟩ := am_subI (x := f 5) (y := 1) (m := (f 5).toInt) (n := (1 : Int)) rfl (by decide) (by omega) (by omega)
        refine am_e10 (z := z56) hi_249_97 hz56 ?_
        refine mm_21 (v := z56) hS54 hi_249_98 rfl (Nat.le_of_ble_eq_true rfl) ms_5 ?_
        intro S57 hS58
        replace hS58 : MS S0 S57 (upd (upd (upd (upd (upd (upd f 4 z52) 5 z56) 24 l5) 37 z6) 44 b7) 68 z31) (upg g'33 71 on.toNatClampNeg r43) := hS58
        refine am_e2 (v := 39) hi_249_101 rfl ?_
        refine am_e0 hi_249_102 ?_
        refine am_e1 (v := z40) hi_249_104 rfl ?_
        refine am_e0 hi_249_106 ?_
        refine am_e0 hi_249_107 ?_
        refine am_e32n (as := [.ref 39, .int 7, .int z40, .int 0, .int 0]) (la := [some (.ref 39), some (.int 7), some (.int z40), some (.int 0), some (.int 0)]) (rest := []) hi_249_108 (am_hd0 (M := 249) (by decide) 108) (Nat.le_of_ble_eq_true rfl) (Nat.le_of_ble_eq_true rfl) (show 5 ≤ am_P0.2.2.1 179 from by decide +kernel) rfl (am_recv_ok hS58.fs) rfl rfl (ct_pilec (d := (d + 6)) hS58 hR55 (mj_e_79c hR55 (by decide) (by show z40.toInt = ((f 68).toInt + 1); omega)) (by show (0 : Int) ≤ (f 10).toInt; omega) (by show (f 10).toInt ≤ (65535 : Int); omega)) ?_
        rintro v59 S60 (⟨z61, g'62, hv63, hS64, hR67, h65, h66⟩)
        subst hv63
        have h65_ : z61.toInt = (f 10).toInt + 1 := h65
        have h66_ : ∀ j, j ∉ [11, 12, 13, 14] → g'62 j = (upg g'33 71 on.toNatClampNeg r43) j := h66
        replace hS64 : MS S0 S60 (upd (upd (upd (upd (upd (upd (upd f 4 z52) 5 z56) 10 z61) 24 l5) 37 z6) 44 b7) 68 z31) g'62 := hS64
        have hR67_ : RJ (upd (upd (upd (upd (upd (upd (upd f 4 z52) 5 z56) 10 z61) 24 l5) 37 z6) 44 b7) 68 z31) g'62 (((7 : Int), z40.toInt, (0 : Int), (0 : Int), ((f 68).toNatClampNeg :: fl)) :: gs) bc1 [] 0 [on.toInt.toNat] := hR67
        show am_E _ _ _ _ [some (.ref 39), some (.int on), some (.int tw), some (.int r22), some (.int z40)] [] _ _
        refine am_e2 (v := 39) hi_249_111 rfl ?_
        refine am_e0 hi_249_112 ?_
        refine am_e32w (as := [.ref 39, .int 0]) (la := [some (.ref 39), some (.int 0)]) (rest := []) hi_249_113 (am_hd0 (M := 249) (by decide) 113) (Nat.le_of_ble_eq_true rfl) (Nat.le_of_ble_eq_true rfl) (show 2 ≤ am_P0.2.2.1 186 from by decide +kernel) rfl (am_recv_ok hS64.fs) rfl rfl ?_
        refine am_e2 (v := 39) hi_186_0 rfl ?_
        refine am_e0 hi_186_1 ?_
        refine am_e1 (v := 0) hi_186_3 rfl ?_
        refine am_e0 hi_186_4 ?_
        refine am_e0 hi_186_5 ?_
        refine am_e32n (as := [.ref 39, .int 23, .int 0, .int 0, .int 0]) (la := [some (.ref 39), some (.int 23), some (.int 0), some (.int 0), some (.int 0)]) (rest := []) hi_186_6 (am_hd0 (M := 186) (by decide) 6) (Nat.le_of_ble_eq_true rfl) (Nat.le_of_ble_eq_true rfl) (show 5 ≤ am_P0.2.2.1 179 from by decide +kernel) rfl (am_recv_ok hS64.fs) rfl rfl (ct_pile (d := (d + 5)) hS64 hR67_ (mj_e_plain (by decide)) (by show (0 : Int) ≤ z61.toInt; omega) (by show z61.toInt ≤ (65535 : Int); omega)) ?_
        rintro v68 S69 (⟨z70, g'71, hv72, hS73, hR76, h74, h75⟩)
        subst hv72
        have h74_ : z70.toInt = z61.toInt + 1 := h74
        have h75_ : ∀ j, j ∉ [11, 12, 13, 14] → g'71 j = g'62 j := h75
        replace hS73 : MS S0 S69 (upd (upd (upd (upd (upd (upd (upd f 4 z52) 5 z56) 10 z70) 24 l5) 37 z6) 44 b7) 68 z31) g'71 := hS73
        have hR76_ : RJ (upd (upd (upd (upd (upd (upd (upd f 4 z52) 5 z56) 10 z70) 24 l5) 37 z6) 44 b7) 68 z31) g'71 (((23 : Int), (0 : Int), (0 : Int), (0 : Int), []) :: (((7 : Int), z40.toInt, (0 : Int), (0 : Int), ((f 68).toNatClampNeg :: fl)) :: gs)) bc1 [] 0 [on.toInt.toNat] := hR76
        show am_E _ _ _ _ [some (.ref 39), some (.int 0)] [] _ _
        refine am_e35 hi_186_9 ?_
        show am_E _ _ _ _ [some (.ref 39), some (.int on), some (.int tw), some (.int r22), some (.int z40)] [] _ _
        refine am_e18 hi_249_116 ?_
        refine am_e18 hi_249_138 ?_
        refine am_e35 hi_249_148 ?_
        show am_E _ _ _ _ [some (.ref 39), some (.int 8), some (.int on), some (.int tw), some (.int th)] [] _ _
        refine am_e18 hi_180_201 ?_
        refine am_e35 hi_180_371 ?_
        have q1 : mg_p1 (((23 : Int), (0 : Int), (0 : Int), (0 : Int), []) :: (((7 : Int), z40.toInt, (0 : Int), (0 : Int), ((f 68).toNatClampNeg :: fl)) :: gs)) = 0 + (0 + (mg_p1 gs)) := rfl
        have q2 : mg_p2 (((23 : Int), (0 : Int), (0 : Int), (0 : Int), []) :: (((7 : Int), z40.toInt, (0 : Int), (0 : Int), ((f 68).toNatClampNeg :: fl)) :: gs)) = 0 + (0 + (mg_p2 gs)) := rfl
        have q3 : mg_p3 (((23 : Int), (0 : Int), (0 : Int), (0 : Int), []) :: (((7 : Int), z40.toInt, (0 : Int), (0 : Int), ((f 68).toNatClampNeg :: fl)) :: gs)) = 1 + (1 + (mg_p3 gs)) := rfl
        have q4 : mg_p4 (((23 : Int), (0 : Int), (0 : Int), (0 : Int), []) :: (((7 : Int), z40.toInt, (0 : Int), (0 : Int), ((f 68).toNatClampNeg :: fl)) :: gs)) = 0 + (0 + (mg_p4 gs)) := rfl
        refine ⟨_, _, _, bc1, rfl, hS73, Or.inl ⟨⟨(RJ.fewer (pj' := []) hR76_ (fun _ h => nomatch h)), ?_, ?_⟩, rfl, ?_⟩⟩
        · exact (⟨⟨(show mg_k 23 from by decide), (show (0 : Int) ≤ (f 15).toInt from by omega), (show 0 ≤ (f 20).toInt from by omega), (show 1 ≤ z6.toInt from by omega), (show 0 ≤ (f 32).toInt from by omega), (show (f 32).toInt ≤ z56.toInt from by omega), (show z56.toInt ≤ 48 from by omega), (show z6.toInt ≤ 2 * (z56.toInt) + 2 from by omega), (show 0 ≤ (0 : Int) from by omega)⟩, ⟨⟨(show mg_k 7 from by decide), (show (1 : Int) ≤ (f 15).toInt + 1 from by omega), (show 0 ≤ (f 20).toInt from by omega), (show 1 ≤ z6.toInt + 0 from by omega), (show 0 ≤ (f 32).toInt + 0 from by omega), (show (f 32).toInt + 0 ≤ z56.toInt + 0 from by omega), (show z56.toInt + 0 ≤ 48 from by omega), (show z6.toInt + 0 ≤ 2 * (z56.toInt + 0) + 1 from by omega), trivial⟩, mg_cast (mg_good_ext _ _ _ _ _ _ (fun i _ => by show g'71 34 i = g 34 i; rw [show g'71 34 = g'62 34 from h75_ 34 (by decide), show g'62 34 = g'33 34 from h66_ 34 (by decide), show g'33 34 = g'8 34 from h38_ 34 (by decide), show g'8 34 = g 34 from h16_ 34 (by decide)]) (fun i _ => by show g'71 38 i = g 38 i; rw [show g'71 38 = g'62 38 from h75_ 38 (by decide), show g'62 38 = g'33 38 from h66_ 38 (by decide), show g'33 38 = g'8 38 from h38_ 38 (by decide), show g'8 38 = g 38 from h16_ 38 (by decide)]) (fun i _ => by show g'71 23 i = g 23 i; rw [show g'71 23 = g'62 23 from h75_ 23 (by decide), show g'62 23 = g'33 23 from h66_ 23 (by decide), show g'33 23 = g'8 23 from h38_ 23 (by decide), show g'8 23 = g 23 from h16_ 23 (by decide)]) hrest) (by show (f 15).toInt + 0 = (f 15).toInt + 1 + -1; omega) (by show (f 20).toInt = (f 20).toInt; omega) (by show (f 37).toInt + -1 = z6.toInt + 0 + 0; omega) (by show (f 32).toInt + 0 = (f 32).toInt + 0 + 0; omega) (by show (f 5).toInt + -1 = z56.toInt + 0 + 0; omega)⟩⟩ : mg_good (g'71 34) (g'71 38) (g'71 23) (((23 : Int), (0 : Int), (0 : Int), (0 : Int), []) :: (((7 : Int), z40.toInt, (0 : Int), (0 : Int), ((f 68).toNatClampNeg :: fl)) :: gs)) ((f 15).toInt) ((f 20).toInt) (z6.toInt) ((f 32).toInt) (z56.toInt))
        · exact ⟨(by show 0 ≤ z52.toInt; omega), (by show z52.toInt ≤ (f 0).toInt; omega), (by show (f 0).toInt ≤ 512; omega), (by show 0 ≤ l5.toInt; omega), (by show l5.toInt + (f 20).toInt + mg_p1 (((23 : Int), (0 : Int), (0 : Int), (0 : Int), []) :: (((7 : Int), z40.toInt, (0 : Int), (0 : Int), ((f 68).toNatClampNeg :: fl)) :: gs)) ≤ 4 * z52.toInt; omega), (by show (f 20).toInt ≤ z52.toInt; omega), (by show (f 15).toInt + mg_p2 (((23 : Int), (0 : Int), (0 : Int), (0 : Int), []) :: (((7 : Int), z40.toInt, (0 : Int), (0 : Int), ((f 68).toNatClampNeg :: fl)) :: gs)) ≤ z52.toInt; omega), (by show mg_p3 (((23 : Int), (0 : Int), (0 : Int), (0 : Int), []) :: (((7 : Int), z40.toInt, (0 : Int), (0 : Int), ((f 68).toNatClampNeg :: fl)) :: gs)) ≤ 20 * z52.toInt + 20; omega), (by show 0 ≤ z31.toInt; omega), (by show z31.toInt + 3 * (f 20).toInt + mg_p4 (((23 : Int), (0 : Int), (0 : Int), (0 : Int), []) :: (((7 : Int), z40.toInt, (0 : Int), (0 : Int), ((f 68).toNatClampNeg :: fl)) :: gs)) ≤ 60 * z52.toInt + 60; omega), (by show 0 ≤ (f 62).toInt; omega), (by show (f 62).toInt + 64 * mj_n (g'71 16) (f 15).toNatClampNeg 3 ≤ 64 * z52.toInt; rw [show g'71 16 = g'62 16 from h75_ 16 (by decide), show g'62 16 = g'33 16 from h66_ 16 (by decide), show g'33 16 = g'8 16 from h38_ 16 (by decide), show g'8 16 = g 16 from h16_ 16 (by decide)]; omega), (by show 0 ≤ b7.toInt; omega), (by show b7.toInt ≤ z52.toInt; omega), (by show 0 ≤ (f 48).toInt; omega), (by show (f 48).toInt ≤ z52.toInt; omega), (by show 1 ≤ (f 53).toInt; omega), (by show (f 53).toInt ≤ z52.toInt + 1; omega), (by show 0 ≤ (f 19).toInt; omega), (by show (f 19).toInt ≤ 600; omega), (by show 0 ≤ (f 6).toInt; omega), (by show 0 ≤ (f 8).toInt; omega)⟩
        · show 100 * ((f 0).toInt - z52.toInt) + mg_p3 (((23 : Int), (0 : Int), (0 : Int), (0 : Int), []) :: (((7 : Int), z40.toInt, (0 : Int), (0 : Int), ((f 68).toNatClampNeg :: fl)) :: gs)) < 100 * ((f 0).toInt - (f 4).toInt) + (1 + mg_p3 gs); omega
      · refine am_e13f hi_249_43 (am_cF (m := r22.toInt) (n := (14 : Int)) rfl (by decide) c28) ?_
        refine am_e1 (v := r22) hi_249_46 rfl ?_
        refine am_e0 hi_249_47 ?_
        by_cases c77 : ¬ r22.toInt = (13 : Int)
        · refine am_e13t hi_249_49 (am_cT (m := r22.toInt) (n := (13 : Int)) rfl (by decide) c77) ?_
          refine am_e2 (v := 39) hi_249_141 rfl ?_
          refine am_e0 hi_249_142 ?_
          refine am_e32n (as := [.ref 39, .int 7]) (la := [some (.ref 39), some (.int 7)]) (rest := []) hi_249_144 (am_hd0 (M := 249) (by decide) 144) (Nat.le_of_ble_eq_true rfl) (Nat.le_of_ble_eq_true rfl) (show 2 ≤ am_P0.2.2.1 194 from by decide +kernel) rfl (am_recv_ok hS24.fs) rfl rfl (ct_fail (d := (d + 6)) hS24   (by show (0 : Int) ≤ (7 : Int); omega) (by show (0 : Int) ≤ (f 6).toInt; omega)) ?_
          rintro v78 S79 (⟨a80, b81, hv82, hS83, h84⟩)
          subst hv82
          have h84_ : (0 : Int) ≤ a80.toInt := h84
          replace hS83 : MS S0 S79 (upd (upd (upd (upd (upd (upd f 6 a80) 7 b81) 10 0) 24 l5) 37 z6) 44 b7) g'8 := hS83
          have hR86 := rj_clear0 hR19_
          have hR87 : RJ (upd (upd (upd (upd (upd (upd f 6 a80) 7 b81) 10 0) 24 l5) 37 z6) 44 b7) g'8 [] bc1 [] 0 [] := hR86
          show am_E _ _ _ _ [some (.ref 39), some (.int on), some (.int tw), some (.int r22), none] [.int 0] _ _
          refine am_e6i hi_249_147 ?_
          refine am_e35 hi_249_148 ?_
          show am_E _ _ _ _ [some (.ref 39), some (.int 8), some (.int on), some (.int tw), some (.int th)] [] _ _
          refine am_e18 hi_180_201 ?_
          refine am_e35 hi_180_371 ?_
          have hRc := rj_clear0 hR87
          refine ⟨_, _, [], _, rfl, hS83, Or.inr ⟨hRc, rfl, (by show 0 ≤ (f 4).toInt; omega), (by show (f 4).toInt ≤ (f 0).toInt; omega), (by show 0 ≤ (f 32).toInt; omega), (by show (f 32).toInt ≤ 63; omega), (by show 1 ≤ (f 53).toInt; omega), (by show (f 53).toInt ≤ 600; omega), (by show 0 ≤ (f 68).toInt; omega), (by show (f 68).toInt ≤ 60000; omega), (by show 0 ≤ (f 48).toInt; omega), (by show (f 48).toInt ≤ 8000; omega), (by show 0 ≤ z6.toInt; omega), (by show z6.toInt ≤ 128; omega), (by show 0 ≤ (f 62).toInt; omega), (by show (f 62).toInt ≤ 65000; omega), (by show 0 ≤ (f 19).toInt; omega), (by show (f 19).toInt ≤ 600; omega), (by show 0 ≤ a80.toInt; omega), (by show 0 ≤ (f 8).toInt; omega)⟩⟩
        · refine am_e13f hi_249_49 (am_cF (m := r22.toInt) (n := (13 : Int)) rfl (by decide) c77) ?_
          refine am_e2 (v := 39) hi_249_52 rfl ?_
          refine am_e0 hi_249_53 ?_
          refine am_e1 (v := tw) hi_249_55 rfl ?_
          refine am_e0 hi_249_56 ?_
          refine am_e0 hi_249_57 ?_
          refine am_e32n (as := [.ref 39, .int 36, .int tw, .int 0, .int 0]) (la := [some (.ref 39), some (.int 36), some (.int tw), some (.int 0), some (.int 0)]) (rest := []) hi_249_58 (am_hd0 (M := 249) (by decide) 58) (Nat.le_of_ble_eq_true rfl) (Nat.le_of_ble_eq_true rfl) (show 5 ≤ am_P0.2.2.1 189 from by decide +kernel) rfl (am_recv_ok hS24.fs) rfl rfl (ct_putc (d := (d + 6)) hS24 hR19_ rfl (by show (0 : Int) ≤ (f 32).toInt; omega) (by show (f 32).toInt ≤ (63 : Int); omega) (by show (f 53).toInt ≤ (4096 : Int); omega) (by show (0 : Int) ≤ (f 68).toInt; omega) (by show (f 68).toInt ≤ (65534 : Int); omega)) ?_
          rintro v88 S89 (⟨z90, r91, g'92, hv93, hS94, hR98, h95, h96, h97⟩)
          subst hv93
          have h95_ : z90.toInt = (f 68).toInt + 1 := h95
          have h96_ : r91.toInt = (f 68).toInt := h96
          have h97_ : ∀ j, j ∉ [60, 69, 70, 71, 72, 73] → g'92 j = g'8 j := h97
          have hR98_ : RJ (upd (upd (upd (upd f 24 l5) 37 z6) 44 b7) 68 z90) g'92 gs bc1 ((f 68).toNatClampNeg :: fl) ((f 68).toInt + 1) [on.toInt.toNat] := hR98
          show am_E _ _ _ _ [some (.ref 39), some (.int on), some (.int tw), some (.int r22), none] [.int r91] _ _
          refine am_e0 hi_249_61 ?_
          obtain ⟨z99, hz99, tz99⟩ := am_addI (x := r91) (y := 1) (m := r91.toInt) (n := (1 : Int)) rfl (by decide) (by omega) (by omega)
          refine am_e10 (z := z99) hi_249_62 hz99 ?_
          refine am_e3 (ls' := [some (.ref 39), some (.int on), some (.int tw), some (.int r22), some (.int z99)]) hi_249_63 (Nat.le_of_ble_eq_true rfl) rfl ?_
          refine am_e2 (v := 39) hi_249_65 rfl ?_
          refine mm_20 (v := .ref 90) hS94 hi_249_66 rfl ?_
          refine am_e1 (v := on) hi_249_69 rfl ?_
          refine am_e2 (v := 39) hi_249_70 rfl ?_
          refine am_e32n (as := [.ref 39]) (la := [some (.ref 39)]) (rest := [.int on, .ref 90]) hi_249_71 (am_hd0 (M := 249) (by decide) 71) (Nat.le_of_ble_eq_true rfl) (Nat.le_of_ble_eq_true rfl) (show 1 ≤ am_P0.2.2.1 210 from by decide +kernel) rfl (am_recv_ok hS94.fs) rfl rfl (ct_here (d := (d + 6)) hS94 hR98_  (by show (0 : Int) ≤ (f 32).toInt; omega) (by show (f 32).toInt ≤ (63 : Int); omega) (by show (f 53).toInt ≤ (4096 : Int); omega) (by show (0 : Int) ≤ z90.toInt; omega) (by show z90.toInt ≤ (65534 : Int); omega)) ?_
          rintro v100 S101 (⟨r102, hv103, hS104, h105, h106⟩)
          subst hv103
          have h105_ : (0 : Int) ≤ r102.toInt := h105
          have h106_ : r102.toInt ≤ z90.toInt := h106
          show am_E _ _ _ _ [some (.ref 39), some (.int on), some (.int tw), some (.int r22), some (.int z99)] [.int r102, .int on, .ref 90] _ _
          refine mm_26 hS104 ma_71 hi_249_74 (by decide) (by omega) (by omega) (fun h => nomatch h) ?_
          intro S108 hS109
          have hix214 : on.toNatClampNeg = on.toInt.toNat := by first | rfl | (rw [cl_toNat, cl_toNat]; omega)
          have hR110 : RJ (upd (upd (upd (upd f 24 l5) 37 z6) 44 b7) 68 z90) (upg g'92 71 on.toNatClampNeg r102) gs bc1 ((f 68).toNatClampNeg :: fl) ((f 68).toInt + 1) [on.toInt.toNat] := by rw [hix214]; exact RJ.lead hR98_ (RJ.pjn hR98_ (show on.toInt.toNat ∈ _ from by simp only [List.mem_cons, true_or, or_true]))
          refine am_e2 (v := 39) hi_249_75 rfl ?_
          refine am_e7 hi_249_76 ?_
          refine mm_20 (v := .int (f 4)) hS109 hi_249_77 rfl ?_
          refine am_e0 hi_249_80 ?_
          obtain ⟨z111, hz111, tz111⟩ := am_addI (x := f 4) (y := 1) (m := (f 4).toInt) (n := (1 : Int)) rfl (by decide) (by omega) (by omega)
          refine am_e10 (z := z111) hi_249_81 hz111 ?_
          refine mm_21 (v := z111) hS109 hi_249_82 rfl (Nat.le_of_ble_eq_true rfl) ms_4 ?_
          intro S112 hS113
          replace hS113 : MS S0 S112 (upd (upd (upd (upd (upd f 4 z111) 24 l5) 37 z6) 44 b7) 68 z90) (upg g'92 71 on.toNatClampNeg r102) := hS113
          have hR114 : RJ (upd (upd (upd (upd (upd f 4 z111) 24 l5) 37 z6) 44 b7) 68 z90) (upg g'92 71 on.toNatClampNeg r102) gs bc1 ((f 68).toNatClampNeg :: fl) ((f 68).toInt + 1) [on.toInt.toNat] := RJ.at hR110 (by show (f 4).toInt ≤ z111.toInt; omega)
          refine am_e1 (v := r22) hi_249_85 rfl ?_
          refine am_e0 hi_249_86 ?_
          refine am_e13t hi_249_88 (am_cT (m := r22.toInt) (n := (14 : Int)) rfl (by decide) (by simp only [am_cI]; omega)) ?_
          refine am_e2 (v := 39) hi_249_119 rfl ?_
          refine am_e0 hi_249_120 ?_
          refine am_e32n (as := [.ref 39, .int 0]) (la := [some (.ref 39), some (.int 0)]) (rest := []) hi_249_121 (am_hd0 (M := 249) (by decide) 121) (Nat.le_of_ble_eq_true rfl) (Nat.le_of_ble_eq_true rfl) (show 2 ≤ am_P0.2.2.1 177 from by decide +kernel) rfl (am_recv_ok hS113.fs) rfl rfl (ct_beginBlock2 (d := (d + 6)) hS113 hR114 (by decide)  (by show (0 : Int) ≤ z6.toInt; omega) (by show z6.toInt ≤ (127 : Int); omega) (by show (0 : Int) ≤ l5.toInt; omega) (by show (0 : Int) ≤ b7.toInt; omega) (by show b7.toInt ≤ z111.toInt; omega) (by show (0 : Int) ≤ (f 48).toInt; omega)) ?_
          rintro v115 S116 (⟨z117, g'118, hv119, hS120, hR124, h121, h122, h123⟩)
          subst hv119
          have h121_ : z117.toInt = z6.toInt + 1 := h121
          have h122_ : ∀ j, j ∉ [38, 39, 40, 41, 42, 43] → g'118 j = (upg g'92 71 on.toNatClampNeg r102) j := h122
          have h123_ : g'118 38 = upd ((upg g'92 71 on.toNatClampNeg r102) 38) z6.toNatClampNeg l5 := h123
          replace hS120 : MS S0 S116 (upd (upd (upd (upd (upd f 4 z111) 24 l5) 37 z117) 44 b7) 68 z90) g'118 := hS120
          have hR124_ : RJ (upd (upd (upd (upd (upd f 4 z111) 24 l5) 37 z117) 44 b7) 68 z90) g'118 gs ([] :: bc1) ((f 68).toNatClampNeg :: fl) ((f 68).toInt + 1) [on.toInt.toNat] := hR124
          show am_E _ _ _ _ [some (.ref 39), some (.int on), some (.int tw), some (.int r22), some (.int z99)] [] _ _
          refine am_e2 (v := 39) hi_249_124 rfl ?_
          refine am_e0 hi_249_125 ?_
          refine am_e1 (v := z99) hi_249_127 rfl ?_
          refine am_e0 hi_249_129 ?_
          refine am_e0 hi_249_130 ?_
          refine am_e32n (as := [.ref 39, .int 9, .int z99, .int 0, .int 0]) (la := [some (.ref 39), some (.int 9), some (.int z99), some (.int 0), some (.int 0)]) (rest := []) hi_249_131 (am_hd0 (M := 249) (by decide) 131) (Nat.le_of_ble_eq_true rfl) (Nat.le_of_ble_eq_true rfl) (show 5 ≤ am_P0.2.2.1 179 from by decide +kernel) rfl (am_recv_ok hS120.fs) rfl rfl (ct_pilec (d := (d + 6)) hS120 hR124_ (mj_e_79c hR124_ (by decide) (by show z99.toInt = ((f 68).toInt + 1); omega)) (by show (0 : Int) ≤ (f 10).toInt; omega) (by show (f 10).toInt ≤ (65535 : Int); omega)) ?_
          rintro v125 S126 (⟨z127, g'128, hv129, hS130, hR133, h131, h132⟩)
          subst hv129
          have h131_ : z127.toInt = (f 10).toInt + 1 := h131
          have h132_ : ∀ j, j ∉ [11, 12, 13, 14] → g'128 j = g'118 j := h132
          replace hS130 : MS S0 S126 (upd (upd (upd (upd (upd (upd f 4 z111) 10 z127) 24 l5) 37 z117) 44 b7) 68 z90) g'128 := hS130
          have hR133_ : RJ (upd (upd (upd (upd (upd (upd f 4 z111) 10 z127) 24 l5) 37 z117) 44 b7) 68 z90) g'128 (((9 : Int), z99.toInt, (0 : Int), (0 : Int), ((f 68).toNatClampNeg :: fl)) :: gs) ([] :: bc1) [] 0 [on.toInt.toNat] := hR133
          show am_E _ _ _ _ [some (.ref 39), some (.int on), some (.int tw), some (.int r22), some (.int z99)] [] _ _
          refine am_e2 (v := 39) hi_249_134 rfl ?_
          refine am_e32w (as := [.ref 39]) (la := [some (.ref 39)]) (rest := []) hi_249_135 (am_hd0 (M := 249) (by decide) 135) (Nat.le_of_ble_eq_true rfl) (Nat.le_of_ble_eq_true rfl) (show 1 ≤ am_P0.2.2.1 178 from by decide +kernel) rfl (am_recv_ok hS130.fs) rfl rfl ?_
          refine am_e2 (v := 39) hi_178_0 rfl ?_
          refine am_e0 hi_178_1 ?_
          refine am_e0 hi_178_2 ?_
          refine am_e0 hi_178_3 ?_
          refine am_e0 hi_178_4 ?_
          refine am_e32n (as := [.ref 39, .int 1, .int 0, .int 0, .int 0]) (la := [some (.ref 39), some (.int 1), some (.int 0), some (.int 0), some (.int 0)]) (rest := []) hi_178_5 (am_hd0 (M := 178) (by decide) 5) (Nat.le_of_ble_eq_true rfl) (Nat.le_of_ble_eq_true rfl) (show 5 ≤ am_P0.2.2.1 179 from by decide +kernel) rfl (am_recv_ok hS130.fs) rfl rfl (ct_pile (d := (d + 5)) hS130 hR133_ (mj_e_plain (by decide)) (by show (0 : Int) ≤ z127.toInt; omega) (by show z127.toInt ≤ (65535 : Int); omega)) ?_
          rintro v134 S135 (⟨z136, g'137, hv138, hS139, hR142, h140, h141⟩)
          subst hv138
          have h140_ : z136.toInt = z127.toInt + 1 := h140
          have h141_ : ∀ j, j ∉ [11, 12, 13, 14] → g'137 j = g'128 j := h141
          replace hS139 : MS S0 S135 (upd (upd (upd (upd (upd (upd f 4 z111) 10 z136) 24 l5) 37 z117) 44 b7) 68 z90) g'137 := hS139
          have hR142_ : RJ (upd (upd (upd (upd (upd (upd f 4 z111) 10 z136) 24 l5) 37 z117) 44 b7) 68 z90) g'137 (((1 : Int), (0 : Int), (0 : Int), (0 : Int), []) :: (((9 : Int), z99.toInt, (0 : Int), (0 : Int), ((f 68).toNatClampNeg :: fl)) :: gs)) ([] :: bc1) [] 0 [on.toInt.toNat] := hR142
          show am_E _ _ _ _ [some (.ref 39)] [] _ _
          refine am_e35 hi_178_8 ?_
          show am_E _ _ _ _ [some (.ref 39), some (.int on), some (.int tw), some (.int r22), some (.int z99)] [] _ _
          refine am_e18 hi_249_138 ?_
          refine am_e35 hi_249_148 ?_
          show am_E _ _ _ _ [some (.ref 39), some (.int 8), some (.int on), some (.int tw), some (.int th)] [] _ _
          refine am_e18 hi_180_201 ?_
          refine am_e35 hi_180_371 ?_
          have q1 : mg_p1 (((1 : Int), (0 : Int), (0 : Int), (0 : Int), []) :: (((9 : Int), z99.toInt, (0 : Int), (0 : Int), ((f 68).toNatClampNeg :: fl)) :: gs)) = 0 + (0 + (mg_p1 gs)) := rfl
          have q2 : mg_p2 (((1 : Int), (0 : Int), (0 : Int), (0 : Int), []) :: (((9 : Int), z99.toInt, (0 : Int), (0 : Int), ((f 68).toNatClampNeg :: fl)) :: gs)) = 0 + (0 + (mg_p2 gs)) := rfl
          have q3 : mg_p3 (((1 : Int), (0 : Int), (0 : Int), (0 : Int), []) :: (((9 : Int), z99.toInt, (0 : Int), (0 : Int), ((f 68).toNatClampNeg :: fl)) :: gs)) = 1 + (1 + (mg_p3 gs)) := rfl
          have q4 : mg_p4 (((1 : Int), (0 : Int), (0 : Int), (0 : Int), []) :: (((9 : Int), z99.toInt, (0 : Int), (0 : Int), ((f 68).toNatClampNeg :: fl)) :: gs)) = 0 + (0 + (mg_p4 gs)) := rfl
          refine ⟨_, _, _, ([] :: bc1), rfl, hS139, Or.inl ⟨⟨(RJ.fewer (pj' := []) hR142_ (fun _ h => nomatch h)), ?_, ?_⟩, rfl, ?_⟩⟩
          · exact (⟨⟨(show mg_k 1 from by decide), (show (0 : Int) ≤ (f 15).toInt from by omega), (show 0 ≤ (f 20).toInt from by omega), (show 1 ≤ z117.toInt from by omega), (show 0 ≤ (f 32).toInt from by omega), (show (f 32).toInt ≤ (f 5).toInt from by omega), (show (f 5).toInt ≤ 48 from by omega), (show z117.toInt ≤ 2 * ((f 5).toInt) + 1 from by omega), trivial⟩, ⟨⟨(show mg_k 9 from by decide), (show (0 : Int) ≤ (f 15).toInt + 0 from by omega), (show 0 ≤ (f 20).toInt from by omega), (show 1 ≤ z117.toInt + 0 from by omega), (show 0 ≤ (f 32).toInt + 0 from by omega), (show (f 32).toInt + 0 ≤ (f 5).toInt + 0 from by omega), (show (f 5).toInt + 0 ≤ 48 from by omega), (show z117.toInt + 0 ≤ 2 * ((f 5).toInt + 0) + 0 from by omega), trivial⟩, mg_cast (mg_good_ext _ _ _ _ _ _ (fun i _ => by show g'137 34 i = g 34 i; rw [show g'137 34 = g'128 34 from h141_ 34 (by decide), show g'128 34 = g'118 34 from h132_ 34 (by decide), show g'118 34 = g'92 34 from h122_ 34 (by decide), show g'92 34 = g'8 34 from h97_ 34 (by decide), show g'8 34 = g 34 from h16_ 34 (by decide)]) (fun i hi => by show g'137 38 i = g 38 i; rw [show g'137 38 = g'128 38 from h141_ 38 (by decide), show g'128 38 = g'118 38 from h132_ 38 (by decide), h123_, show (upg g'92 71 on.toNatClampNeg r102) 38 = g'92 38 from rfl, show g'92 38 = g'8 38 from h97_ 38 (by decide), show g'8 38 = g 38 from h16_ 38 (by decide)]; exact upd_ne (by rw [cl_toNat]; omega)) (fun i _ => by show g'137 23 i = g 23 i; rw [show g'137 23 = g'128 23 from h141_ 23 (by decide), show g'128 23 = g'118 23 from h132_ 23 (by decide), show g'118 23 = g'92 23 from h122_ 23 (by decide), show g'92 23 = g'8 23 from h97_ 23 (by decide), show g'8 23 = g 23 from h16_ 23 (by decide)]) hrest) (by show (f 15).toInt + 0 = (f 15).toInt + 0 + 0; omega) (by show (f 20).toInt = (f 20).toInt; omega) (by show (f 37).toInt + -1 = z117.toInt + 0 + -1; omega) (by show (f 32).toInt + 0 = (f 32).toInt + 0 + 0; omega) (by show (f 5).toInt + -1 = (f 5).toInt + 0 + -1; omega)⟩⟩ : mg_good (g'137 34) (g'137 38) (g'137 23) (((1 : Int), (0 : Int), (0 : Int), (0 : Int), []) :: (((9 : Int), z99.toInt, (0 : Int), (0 : Int), ((f 68).toNatClampNeg :: fl)) :: gs)) ((f 15).toInt) ((f 20).toInt) (z117.toInt) ((f 32).toInt) ((f 5).toInt))
          · exact ⟨(by show 0 ≤ z111.toInt; omega), (by show z111.toInt ≤ (f 0).toInt; omega), (by show (f 0).toInt ≤ 512; omega), (by show 0 ≤ l5.toInt; omega), (by show l5.toInt + (f 20).toInt + mg_p1 (((1 : Int), (0 : Int), (0 : Int), (0 : Int), []) :: (((9 : Int), z99.toInt, (0 : Int), (0 : Int), ((f 68).toNatClampNeg :: fl)) :: gs)) ≤ 4 * z111.toInt; omega), (by show (f 20).toInt ≤ z111.toInt; omega), (by show (f 15).toInt + mg_p2 (((1 : Int), (0 : Int), (0 : Int), (0 : Int), []) :: (((9 : Int), z99.toInt, (0 : Int), (0 : Int), ((f 68).toNatClampNeg :: fl)) :: gs)) ≤ z111.toInt; omega), (by show mg_p3 (((1 : Int), (0 : Int), (0 : Int), (0 : Int), []) :: (((9 : Int), z99.toInt, (0 : Int), (0 : Int), ((f 68).toNatClampNeg :: fl)) :: gs)) ≤ 20 * z111.toInt + 20; omega), (by show 0 ≤ z90.toInt; omega), (by show z90.toInt + 3 * (f 20).toInt + mg_p4 (((1 : Int), (0 : Int), (0 : Int), (0 : Int), []) :: (((9 : Int), z99.toInt, (0 : Int), (0 : Int), ((f 68).toNatClampNeg :: fl)) :: gs)) ≤ 60 * z111.toInt + 60; omega), (by show 0 ≤ (f 62).toInt; omega), (by show (f 62).toInt + 64 * mj_n (g'137 16) (f 15).toNatClampNeg 3 ≤ 64 * z111.toInt; rw [show g'137 16 = g'128 16 from h141_ 16 (by decide), show g'128 16 = g'118 16 from h132_ 16 (by decide), show g'118 16 = g'92 16 from h122_ 16 (by decide), show g'92 16 = g'8 16 from h97_ 16 (by decide), show g'8 16 = g 16 from h16_ 16 (by decide)]; omega), (by show 0 ≤ b7.toInt; omega), (by show b7.toInt ≤ z111.toInt; omega), (by show 0 ≤ (f 48).toInt; omega), (by show (f 48).toInt ≤ z111.toInt; omega), (by show 1 ≤ (f 53).toInt; omega), (by show (f 53).toInt ≤ z111.toInt + 1; omega), (by show 0 ≤ (f 19).toInt; omega), (by show (f 19).toInt ≤ 600; omega), (by show 0 ≤ (f 6).toInt; omega), (by show 0 ≤ (f 8).toInt; omega)⟩
          · show 100 * ((f 0).toInt - z111.toInt) + mg_p3 (((1 : Int), (0 : Int), (0 : Int), (0 : Int), []) :: (((9 : Int), z99.toInt, (0 : Int), (0 : Int), ((f 68).toNatClampNeg :: fl)) :: gs)) < 100 * ((f 0).toInt - (f 4).toInt) + (1 + mg_p3 gs); omega
    · refine am_e13f hi_249_12 (am_cF (m := r22.toInt) (n := (15 : Int)) rfl (by decide) c27) ?_
      refine am_e2 (v := 39) hi_249_15 rfl ?_
      refine am_e0 hi_249_16 ?_
      refine am_e32n (as := [.ref 39, .int 15]) (la := [some (.ref 39), some (.int 15)]) (rest := []) hi_249_18 (am_hd0 (M := 249) (by decide) 18) (Nat.le_of_ble_eq_true rfl) (Nat.le_of_ble_eq_true rfl) (show 2 ≤ am_P0.2.2.1 199 from by decide +kernel) rfl (am_recv_ok hS24.fs) rfl rfl (ct_leave (d := (d + 3)) hS24   (by show (0 : Int) ≤ (f 4).toInt; omega) (by show (f 0).toInt ≤ (16384 : Int); omega) (by show (0 : Int) ≤ (15 : Int); omega) (by show (0 : Int) ≤ (f 5).toInt; omega) (by show (f 5).toInt ≤ (48 : Int); omega) (by show (0 : Int) ≤ (f 6).toInt; omega)) ?_
      rintro v143 S144 (⟨z145, y146, hv147, hS148, h149, h150, h151⟩ | ⟨a153, b154, hv155, hS156, h157⟩)
      · subst hv147
        have h149_ : z145.toInt = (f 4).toInt + 1 := h149
        have h150_ : (f 4).toInt < (f 0).toInt := h150
        have h151_ : y146.toInt = (f 5).toInt - 1 := h151
        replace hS148 : MS S0 S144 (upd (upd (upd (upd (upd f 4 z145) 5 y146) 24 l5) 37 z6) 44 b7) g'8 := hS148
        have hR159 : RJ (upd (upd (upd (upd (upd f 4 z145) 5 y146) 24 l5) 37 z6) 44 b7) g'8 gs bc1 fl tw.toInt [on.toInt.toNat] := RJ.at hR19_ (by show (f 4).toInt ≤ z145.toInt; omega)
        show am_E _ _ _ _ [some (.ref 39), some (.int on), some (.int tw), some (.int r22), none] [.int 1] _ _
        refine am_e6i hi_249_21 ?_
        refine am_e2 (v := 39) hi_249_22 rfl ?_
        refine mm_20 (v := .ref 90) hS148 hi_249_23 rfl ?_
        refine am_e1 (v := on) hi_249_26 rfl ?_
        refine am_e2 (v := 39) hi_249_27 rfl ?_
        refine am_e32n (as := [.ref 39]) (la := [some (.ref 39)]) (rest := [.int on, .ref 90]) hi_249_28 (am_hd0 (M := 249) (by decide) 28) (Nat.le_of_ble_eq_true rfl) (Nat.le_of_ble_eq_true rfl) (show 1 ≤ am_P0.2.2.1 210 from by decide +kernel) rfl (am_recv_ok hS148.fs) rfl rfl (ct_here (d := (d + 6)) hS148 hR159  (by show (0 : Int) ≤ (f 32).toInt; omega) (by show (f 32).toInt ≤ (63 : Int); omega) (by show (f 53).toInt ≤ (4096 : Int); omega) (by show (0 : Int) ≤ (f 68).toInt; omega) (by show (f 68).toInt ≤ (65534 : Int); omega)) ?_
        rintro v160 S161 (⟨r162, hv163, hS164, h165, h166⟩)
        subst hv163
        have h165_ : (0 : Int) ≤ r162.toInt := h165
        have h166_ : r162.toInt ≤ (f 68).toInt := h166
        show am_E _ _ _ _ [some (.ref 39), some (.int on), some (.int tw), some (.int r22), none] [.int r162, .int on, .ref 90] _ _
        refine mm_26 hS164 ma_71 hi_249_31 (by decide) (by omega) (by omega) (fun h => nomatch h) ?_
        intro S168 hS169
        have hix308 : on.toNatClampNeg = on.toInt.toNat := by first | rfl | (rw [cl_toNat, cl_toNat]; omega)
        have hR170 : RJ (upd (upd (upd (upd (upd f 4 z145) 5 y146) 24 l5) 37 z6) 44 b7) (upg g'8 71 on.toNatClampNeg r162) gs bc1 fl tw.toInt [on.toInt.toNat] := by rw [hix308]; exact RJ.lead hR159 (RJ.pjn hR159 (show on.toInt.toNat ∈ _ from by simp only [List.mem_cons, true_or, or_true]))
        refine am_e2 (v := 39) hi_249_32 rfl ?_
        refine am_e1 (v := tw) hi_249_33 rfl ?_
        refine am_e32n (as := [.ref 39, .int tw]) (la := [some (.ref 39), some (.int tw), none, none]) (rest := []) hi_249_34 (am_hd0 (M := 249) (by decide) 34) (Nat.le_of_ble_eq_true rfl) (Nat.le_of_ble_eq_true rfl) (show 2 ≤ am_P0.2.2.1 250 from by decide +kernel) rfl (am_recv_ok hS169.fs) rfl rfl (ct_mend (d := (d + 5)) hS169 hR170 rfl (by show (0 : Int) ≤ (f 32).toInt; omega) (by show (f 32).toInt ≤ (63 : Int); omega) (by show (f 53).toInt ≤ (4096 : Int); omega) (by show (0 : Int) ≤ (f 68).toInt; omega) (by show (f 68).toInt ≤ (65534 : Int); omega)) ?_
        rintro v171 S172 (⟨g'173, hv174, hS175, hR177, h176⟩)
        subst hv174
        have h176_ : ∀ j, j ∉ [71] → g'173 j = (upg g'8 71 on.toNatClampNeg r162) j := h176
        have hR177_ : RJ (upd (upd (upd (upd (upd f 4 z145) 5 y146) 24 l5) 37 z6) 44 b7) g'173 gs bc1 [] 0 [on.toInt.toNat] := hR177
        show am_E _ _ _ _ [some (.ref 39), some (.int on), some (.int tw), some (.int r22), none] [] _ _
        refine am_e18 hi_249_37 ?_
        refine am_e35 hi_249_148 ?_
        show am_E _ _ _ _ [some (.ref 39), some (.int 8), some (.int on), some (.int tw), some (.int th)] [] _ _
        refine am_e18 hi_180_201 ?_
        refine am_e35 hi_180_371 ?_
        have q1 : mg_p1 gs = mg_p1 gs := rfl
        have q2 : mg_p2 gs = mg_p2 gs := rfl
        have q3 : mg_p3 gs = mg_p3 gs := rfl
        have q4 : mg_p4 gs = mg_p4 gs := rfl
        refine ⟨_, _, _, bc1, rfl, hS175, Or.inl ⟨⟨(RJ.fewer (pj' := []) hR177_ (fun _ h => nomatch h)), ?_, ?_⟩, rfl, ?_⟩⟩
        · exact (mg_cast (mg_good_ext _ _ _ _ _ _ (fun i _ => by show g'173 34 i = g 34 i; rw [show g'173 34 = g'8 34 from h176_ 34 (by decide), show g'8 34 = g 34 from h16_ 34 (by decide)]) (fun i _ => by show g'173 38 i = g 38 i; rw [show g'173 38 = g'8 38 from h176_ 38 (by decide), show g'8 38 = g 38 from h16_ 38 (by decide)]) (fun i _ => by show g'173 23 i = g 23 i; rw [show g'173 23 = g'8 23 from h176_ 23 (by decide), show g'8 23 = g 23 from h16_ 23 (by decide)]) hrest) (by show (f 15).toInt + 0 = (f 15).toInt; omega) (by show (f 20).toInt = (f 20).toInt; omega) (by show (f 37).toInt + -1 = z6.toInt; omega) (by show (f 32).toInt + 0 = (f 32).toInt; omega) (by show (f 5).toInt + -1 = y146.toInt; omega) : mg_good (g'173 34) (g'173 38) (g'173 23) gs ((f 15).toInt) ((f 20).toInt) (z6.toInt) ((f 32).toInt) (y146.toInt))
        · exact ⟨(by show 0 ≤ z145.toInt; omega), (by show z145.toInt ≤ (f 0).toInt; omega), (by show (f 0).toInt ≤ 512; omega), (by show 0 ≤ l5.toInt; omega), (by show l5.toInt + (f 20).toInt + mg_p1 gs ≤ 4 * z145.toInt; omega), (by show (f 20).toInt ≤ z145.toInt; omega), (by show (f 15).toInt + mg_p2 gs ≤ z145.toInt; omega), (by show mg_p3 gs ≤ 20 * z145.toInt + 20; omega), (by show 0 ≤ (f 68).toInt; omega), (by show (f 68).toInt + 3 * (f 20).toInt + mg_p4 gs ≤ 60 * z145.toInt + 60; omega), (by show 0 ≤ (f 62).toInt; omega), (by show (f 62).toInt + 64 * mj_n (g'173 16) (f 15).toNatClampNeg 3 ≤ 64 * z145.toInt; rw [show g'173 16 = g'8 16 from h176_ 16 (by decide), show g'8 16 = g 16 from h16_ 16 (by decide)]; omega), (by show 0 ≤ b7.toInt; omega), (by show b7.toInt ≤ z145.toInt; omega), (by show 0 ≤ (f 48).toInt; omega), (by show (f 48).toInt ≤ z145.toInt; omega), (by show 1 ≤ (f 53).toInt; omega), (by show (f 53).toInt ≤ z145.toInt + 1; omega), (by show 0 ≤ (f 19).toInt; omega), (by show (f 19).toInt ≤ 600; omega), (by show 0 ≤ (f 6).toInt; omega), (by show 0 ≤ (f 8).toInt; omega)⟩
        · show 100 * ((f 0).toInt - z145.toInt) + mg_p3 gs < 100 * ((f 0).toInt - (f 4).toInt) + (1 + mg_p3 gs); omega
      · subst hv155
        have h157_ : (0 : Int) ≤ a153.toInt := h157
        replace hS156 : MS S0 S144 (upd (upd (upd (upd (upd (upd f 6 a153) 7 b154) 10 0) 24 l5) 37 z6) 44 b7) g'8 := hS156
        have hR178 := rj_clear0 hR19_
        have hR179 : RJ (upd (upd (upd (upd (upd (upd f 6 a153) 7 b154) 10 0) 24 l5) 37 z6) 44 b7) g'8 [] bc1 [] 0 [] := hR178
        show am_E _ _ _ _ [some (.ref 39), some (.int on), some (.int tw), some (.int r22), none] [.int 0] _ _
        refine am_e6i hi_249_21 ?_
        refine am_e2 (v := 39) hi_249_22 rfl ?_
        refine mm_20 (v := .ref 90) hS156 hi_249_23 rfl ?_
        refine am_e1 (v := on) hi_249_26 rfl ?_
        refine am_e2 (v := 39) hi_249_27 rfl ?_
        refine am_e32n (as := [.ref 39]) (la := [some (.ref 39)]) (rest := [.int on, .ref 90]) hi_249_28 (am_hd0 (M := 249) (by decide) 28) (Nat.le_of_ble_eq_true rfl) (Nat.le_of_ble_eq_true rfl) (show 1 ≤ am_P0.2.2.1 210 from by decide +kernel) rfl (am_recv_ok hS156.fs) rfl rfl (ct_here (d := (d + 6)) hS156 hR179  (by show (0 : Int) ≤ (f 32).toInt; omega) (by show (f 32).toInt ≤ (63 : Int); omega) (by show (f 53).toInt ≤ (4096 : Int); omega) (by show (0 : Int) ≤ (f 68).toInt; omega) (by show (f 68).toInt ≤ (65534 : Int); omega)) ?_
        rintro v180 S181 (⟨r182, hv183, hS184, h185, h186⟩)
        subst hv183
        have h185_ : (0 : Int) ≤ r182.toInt := h185
        have h186_ : r182.toInt ≤ (f 68).toInt := h186
        show am_E _ _ _ _ [some (.ref 39), some (.int on), some (.int tw), some (.int r22), none] [.int r182, .int on, .ref 90] _ _
        refine mm_26 hS184 ma_71 hi_249_31 (by decide) (by omega) (by omega) (fun h => nomatch h) ?_
        intro S188 hS189
        have hix350 : on.toNatClampNeg = on.toInt.toNat := by first | rfl | (rw [cl_toNat, cl_toNat]; omega)
        have hR190 : RJ (upd (upd (upd (upd (upd (upd f 6 a153) 7 b154) 10 0) 24 l5) 37 z6) 44 b7) (upg g'8 71 on.toNatClampNeg r182) [] bc1 [] 0 [] := by rw [hix350]; exact RJ.lead hR179 (RJ.pjn hR179 (show on.toInt.toNat ∈ _ from by simp only [List.mem_cons, true_or, or_true]))
        refine am_e2 (v := 39) hi_249_32 rfl ?_
        refine am_e1 (v := tw) hi_249_33 rfl ?_
        refine am_e32n (as := [.ref 39, .int tw]) (la := [some (.ref 39), some (.int tw), none, none]) (rest := []) hi_249_34 (am_hd0 (M := 249) (by decide) 34) (Nat.le_of_ble_eq_true rfl) (Nat.le_of_ble_eq_true rfl) (show 2 ≤ am_P0.2.2.1 250 from by decide +kernel) rfl (am_recv_ok hS189.fs) rfl rfl (ct_mend (d := (d + 5)) hS189 hR190 rfl (by show (0 : Int) ≤ (f 32).toInt; omega) (by show (f 32).toInt ≤ (63 : Int); omega) (by show (f 53).toInt ≤ (4096 : Int); omega) (by show (0 : Int) ≤ (f 68).toInt; omega) (by show (f 68).toInt ≤ (65534 : Int); omega)) ?_
        rintro v191 S192 (⟨g'193, hv194, hS195, hR197, h196⟩)
        subst hv194
        have h196_ : ∀ j, j ∉ [71] → g'193 j = (upg g'8 71 on.toNatClampNeg r182) j := h196
        have hR197_ : RJ (upd (upd (upd (upd (upd (upd f 6 a153) 7 b154) 10 0) 24 l5) 37 z6) 44 b7) g'193 [] bc1 [] 0 [] := hR197
        show am_E _ _ _ _ [some (.ref 39), some (.int on), some (.int tw), some (.int r22), none] [] _ _
        refine am_e18 hi_249_37 ?_
        refine am_e35 hi_249_148 ?_
        show am_E _ _ _ _ [some (.ref 39), some (.int 8), some (.int on), some (.int tw), some (.int th)] [] _ _
        refine am_e18 hi_180_201 ?_
        refine am_e35 hi_180_371 ?_
        have hRc := rj_clear0 hR197_
        refine ⟨_, _, [], _, rfl, hS195, Or.inr ⟨hRc, rfl, (by show 0 ≤ (f 4).toInt; omega), (by show (f 4).toInt ≤ (f 0).toInt; omega), (by show 0 ≤ (f 32).toInt; omega), (by show (f 32).toInt ≤ 63; omega), (by show 1 ≤ (f 53).toInt; omega), (by show (f 53).toInt ≤ 600; omega), (by show 0 ≤ (f 68).toInt; omega), (by show (f 68).toInt ≤ 60000; omega), (by show 0 ≤ (f 48).toInt; omega), (by show (f 48).toInt ≤ 8000; omega), (by show 0 ≤ z6.toInt; omega), (by show z6.toInt ≤ 128; omega), (by show 0 ≤ (f 62).toInt; omega), (by show (f 62).toInt ≤ 65000; omega), (by show 0 ≤ (f 19).toInt; omega), (by show (f 19).toInt ≤ 600; omega), (by show 0 ≤ a153.toInt; omega), (by show 0 ≤ (f 8).toInt; omega)⟩⟩
  · refine am_e13f hi_243_15 (am_cF (m := (f 24).toInt) (n := (g 38 z0.toNatClampNeg).toInt) rfl rfl c2) ?_
    refine am_e0 hi_243_18 ?_
    refine am_e18 hi_243_19 ?_
    refine am_e36 hi_243_23 (by decide) ?_
    show am_E _ _ _ _ [some (.ref 39)] [.int 1] _ _
    refine am_e12f hi_242_4 (by decide) ?_
    refine am_e2 (v := 39) hi_242_7 rfl ?_
    refine am_e0 hi_242_8 ?_
    refine am_e2 (v := 39) hi_242_10 rfl ?_
    refine am_e32w (as := [.ref 39]) (la := [some (.ref 39)]) (rest := [.int 33, .ref 39]) hi_242_11 (am_hd0 (M := 242) (by decide) 11) (Nat.le_of_ble_eq_true rfl) (Nat.le_of_ble_eq_true rfl) (show 1 ≤ am_P0.2.2.1 232 from by decide +kernel) rfl (am_recv_ok hS.fs) rfl rfl ?_
    refine am_e2 (v := 39) hi_232_0 rfl ?_
    refine mm_20 (v := .ref 62) hS hi_232_1 rfl ?_
    refine am_e2 (v := 39) hi_232_4 rfl ?_
    refine mm_20 (v := .int (f 37)) hS hi_232_5 rfl ?_
    refine am_e0 hi_232_8 ?_
    refine am_e10 (z := z0) hi_232_9 hz0 ?_
    refine mm_25 hS ma_38 hi_232_10 (by decide) (by omega) (by omega) ?_
    show am_E _ _ _ _ [some (.ref 39)] [.int (g 38 z0.toNatClampNeg)] _ _
    have r198 : 0 ≤ (g 38 z0.toNatClampNeg).toInt ∧ (g 38 z0.toNatClampNeg).toInt ≤ (f 24).toInt := RJ.bl (i := z0) hR (by omega) (by show z0.toInt < (f 37).toInt; omega)
    refine am_e2 (v := 39) hi_232_11 rfl ?_
    refine mm_20 (v := .ref 59) hS hi_232_12 rfl ?_
    refine am_e2 (v := 39) hi_232_15 rfl ?_
    refine mm_20 (v := .int (f 32)) hS hi_232_16 rfl ?_
    refine mm_25 hS ma_34 hi_232_19 (by decide) (by omega) (by omega) ?_
    show am_E _ _ _ _ [some (.ref 39)] [.int (g 34 (f 32).toNatClampNeg), .int (g 38 z0.toNatClampNeg)] _ _
    have r199 : 0 ≤ (g 34 (f 32).toNatClampNeg).toInt := RJ.ba hR (f 32).toNatClampNeg
    obtain ⟨z200, hz200⟩ : ∃ q__, am_bin 1 (g 38 z0.toNatClampNeg) (g 34 (f 32).toNatClampNeg) = q__ := ⟨_, rfl⟩
    refine am_e10 (z := z200) hi_232_20 hz200 ?_
    refine am_e33 hi_232_21 ?_
    show am_E _ _ _ _ [some (.ref 39)] [.int z200, .int 33, .ref 39] _ _
    refine am_e0 hi_242_14 ?_
    refine am_e0 hi_242_15 ?_
    refine am_e32n (as := [.ref 39, .int 33, .int z200, .int 0, .int 0]) (la := [some (.ref 39), some (.int 33), some (.int z200), some (.int 0), some (.int 0)]) (rest := []) hi_242_16 (am_hd0 (M := 242) (by decide) 16) (Nat.le_of_ble_eq_true rfl) (Nat.le_of_ble_eq_true rfl) (show 5 ≤ am_P0.2.2.1 189 from by decide +kernel) rfl (am_recv_ok hS.fs) rfl rfl (ct_put (d := (d + 5)) hS hR  (by show (0 : Int) ≤ (f 32).toInt; omega) (by show (f 32).toInt ≤ (63 : Int); omega) (by show (f 53).toInt ≤ (4096 : Int); omega) (by show (0 : Int) ≤ (f 68).toInt; omega) (by show (f 68).toInt ≤ (65534 : Int); omega)) ?_
    rintro v201 S202 (⟨z203, r204, g'205, hv206, hS207, hR211, h208, h209, h210⟩)
    subst hv206
    have h208_ : z203.toInt = (f 68).toInt + 1 := h208
    have h209_ : r204.toInt = (f 68).toInt := h209
    have h210_ : ∀ j, j ∉ [60, 69, 70, 71, 72, 73] → g'205 j = g j := h210
    have hR211_ : RJ (upd f 68 z203) g'205 gs (c0 :: bc1) fl tw.toInt ((f 68).toNatClampNeg :: [on.toInt.toNat]) := hR211
    show am_E _ _ _ _ [some (.ref 39)] [.int r204] _ _
    refine am_e6i hi_242_19 ?_
    refine am_e2 (v := 39) hi_242_20 rfl ?_
    refine am_e32n (as := [.ref 39]) (la := [some (.ref 39), none, none]) (rest := []) hi_242_21 (am_hd0 (M := 242) (by decide) 21) (Nat.le_of_ble_eq_true rfl) (Nat.le_of_ble_eq_true rfl) (show 1 ≤ am_P0.2.2.1 224 from by decide +kernel) rfl (am_recv_ok hS207.fs) rfl rfl (ct_dropBlock2 (d := (d + 5)) hS207 hR211_  (by show (0 : Int) ≤ (f 32).toInt; omega) (by show (f 32).toInt ≤ (63 : Int); omega) (by show (0 : Int) ≤ (f 48).toInt; omega) (by show (f 48).toInt ≤ (8192 : Int); omega) (by show (f 4).toInt ≤ (8192 : Int); omega) (by show (1 : Int) ≤ (f 37).toInt; omega) (by show (f 37).toInt ≤ (128 : Int); omega)) ?_
    rintro v212 S213 (⟨l214, z215, b216, g'217, hv218, hS219, hR228, h220, h221, h222, h223, h224, h225, h226, h227⟩)
    subst hv218
    have h220_ : z215.toInt = (f 37).toInt - 1 := h220
    have h221_ : (0 : Int) ≤ l214.toInt := h221
    have h222_ : l214.toInt ≤ (f 24).toInt := h222
    have h223_ : (0 : Int) ≤ b216.toInt := h223
    have h224_ : b216.toInt ≤ (f 4).toInt := h224
    have h225_ : ∀ j, j ∉ [52] → g'217 j = g'205 j := h225
    have h226_ : (fl : List Nat) = [] → RJ (upd (upd (upd (upd f 24 l214) 37 z215) 44 b216) 68 z203) g'217 gs bc1 c0 (g'217 43 z215.toNatClampNeg).toInt ((f 68).toNatClampNeg :: [on.toInt.toNat]) := h226
    have h227_ : l214 = g'205 38 z215.toNatClampNeg := h227
    replace hS219 : MS S0 S213 (upd (upd (upd (upd f 24 l214) 37 z215) 44 b216) 68 z203) g'217 := hS219
    have hR228_ : RJ (upd (upd (upd (upd f 24 l214) 37 z215) 44 b216) 68 z203) g'217 gs bc1 fl tw.toInt ((f 68).toNatClampNeg :: [on.toInt.toNat]) := hR228
    show am_E _ _ _ _ [some (.ref 39)] [] _ _
    refine am_e35 hi_242_24 ?_
    show am_E _ _ _ _ [some (.ref 39), some (.int on), some (.int tw), none, none] [] _ _
    refine am_e2 (v := 39) hi_249_4 rfl ?_
    refine am_e32n (as := [.ref 39]) (la := [some (.ref 39)]) (rest := []) hi_249_5 (am_hd0 (M := 249) (by decide) 5) (Nat.le_of_ble_eq_true rfl) (Nat.le_of_ble_eq_true rfl) (show 1 ≤ am_P0.2.2.1 183 from by decide +kernel) rfl (am_recv_ok hS219.fs) rfl rfl (ct_next (d := (d + 5)) hS219   (by show (0 : Int) ≤ (f 4).toInt; omega) (by show (f 0).toInt ≤ (16384 : Int); omega)) ?_
    rintro v229 S230 (⟨r231, hv232, hS233, h234⟩)
    subst hv232
    have h234_ : (f 4).toInt < (f 0).toInt ∨ r231.toInt = (-1 : Int) := h234
    show am_E _ _ _ _ [some (.ref 39), some (.int on), some (.int tw), none, none] [.int r231] _ _
    refine am_e3 (ls' := [some (.ref 39), some (.int on), some (.int tw), some (.int r231), none]) hi_249_8 (Nat.le_of_ble_eq_true rfl) rfl ?_
    refine am_e1 (v := r231) hi_249_9 rfl ?_
    refine am_e0 hi_249_10 ?_
    by_cases c236 : ¬ r231.toInt = (15 : Int)
    · refine am_e13t hi_249_12 (am_cT (m := r231.toInt) (n := (15 : Int)) rfl (by decide) c236) ?_
      refine am_e1 (v := r231) hi_249_40 rfl ?_
      refine am_e0 hi_249_41 ?_
      by_cases c237 : r231.toInt = (14 : Int)
      · refine am_e13t hi_249_43 (am_cT (m := r231.toInt) (n := (14 : Int)) rfl (by decide) c237) ?_
        refine am_e2 (v := 39) hi_249_52 rfl ?_
        refine am_e0 hi_249_53 ?_
        refine am_e1 (v := tw) hi_249_55 rfl ?_
        refine am_e0 hi_249_56 ?_
        refine am_e0 hi_249_57 ?_
        refine am_e32n (as := [.ref 39, .int 36, .int tw, .int 0, .int 0]) (la := [some (.ref 39), some (.int 36), some (.int tw), some (.int 0), some (.int 0)]) (rest := []) hi_249_58 (am_hd0 (M := 249) (by decide) 58) (Nat.le_of_ble_eq_true rfl) (Nat.le_of_ble_eq_true rfl) (show 5 ≤ am_P0.2.2.1 189 from by decide +kernel) rfl (am_recv_ok hS233.fs) rfl rfl (ct_putc (d := (d + 6)) hS233 hR228_ rfl (by show (0 : Int) ≤ (f 32).toInt; omega) (by show (f 32).toInt ≤ (63 : Int); omega) (by show (f 53).toInt ≤ (4096 : Int); omega) (by show (0 : Int) ≤ z203.toInt; omega) (by show z203.toInt ≤ (65534 : Int); omega)) ?_
        rintro v238 S239 (⟨z240, r241, g'242, hv243, hS244, hR248, h245, h246, h247⟩)
        subst hv243
        have h245_ : z240.toInt = z203.toInt + 1 := h245
        have h246_ : r241.toInt = z203.toInt := h246
        have h247_ : ∀ j, j ∉ [60, 69, 70, 71, 72, 73] → g'242 j = g'217 j := h247
        replace hS244 : MS S0 S239 (upd (upd (upd (upd f 24 l214) 37 z215) 44 b216) 68 z240) g'242 := hS244
        have hR248_ : RJ (upd (upd (upd (upd f 24 l214) 37 z215) 44 b216) 68 z240) g'242 gs bc1 (z203.toNatClampNeg :: fl) (z203.toInt + 1) ((f 68).toNatClampNeg :: [on.toInt.toNat]) := hR248
        show am_E _ _ _ _ [some (.ref 39), some (.int on), some (.int tw), some (.int r231), none] [.int r241] _ _
        refine am_e0 hi_249_61 ?_
        obtain ⟨z249, hz249, tz249⟩ := am_addI (x := r241) (y := 1) (m := r241.toInt) (n := (1 : Int)) rfl (by decide) (by omega) (by omega)
        refine am_e10 (z := z249) hi_249_62 hz249 ?_
        refine am_e3 (ls' := [some (.ref 39), some (.int on), some (.int tw), some (.int r231), some (.int z249)]) hi_249_63 (Nat.le_of_ble_eq_true rfl) rfl ?_
        refine am_e2 (v := 39) hi_249_65 rfl ?_
        refine mm_20 (v := .ref 90) hS244 hi_249_66 rfl ?_
        refine am_e1 (v := on) hi_249_69 rfl ?_
        refine am_e2 (v := 39) hi_249_70 rfl ?_
        refine am_e32n (as := [.ref 39]) (la := [some (.ref 39)]) (rest := [.int on, .ref 90]) hi_249_71 (am_hd0 (M := 249) (by decide) 71) (Nat.le_of_ble_eq_true rfl) (Nat.le_of_ble_eq_true rfl) (show 1 ≤ am_P0.2.2.1 210 from by decide +kernel) rfl (am_recv_ok hS244.fs) rfl rfl (ct_here (d := (d + 6)) hS244 hR248_  (by show (0 : Int) ≤ (f 32).toInt; omega) (by show (f 32).toInt ≤ (63 : Int); omega) (by show (f 53).toInt ≤ (4096 : Int); omega) (by show (0 : Int) ≤ z240.toInt; omega) (by show z240.toInt ≤ (65534 : Int); omega)) ?_
        rintro v250 S251 (⟨r252, hv253, hS254, h255, h256⟩)
        subst hv253
        have h255_ : (0 : Int) ≤ r252.toInt := h255
        have h256_ : r252.toInt ≤ z240.toInt := h256
        show am_E _ _ _ _ [some (.ref 39), some (.int on), some (.int tw), some (.int r231), some (.int z249)] [.int r252, .int on, .ref 90] _ _
        refine mm_26 hS254 ma_71 hi_249_74 (by decide) (by omega) (by omega) (fun h => nomatch h) ?_
        intro S258 hS259
        have hix470 : on.toNatClampNeg = on.toInt.toNat := by first | rfl | (rw [cl_toNat, cl_toNat]; omega)
        have hR260 : RJ (upd (upd (upd (upd f 24 l214) 37 z215) 44 b216) 68 z240) (upg g'242 71 on.toNatClampNeg r252) gs bc1 (z203.toNatClampNeg :: fl) (z203.toInt + 1) ((f 68).toNatClampNeg :: [on.toInt.toNat]) := by rw [hix470]; exact RJ.lead hR248_ (RJ.pjn hR248_ (show on.toInt.toNat ∈ _ from by simp only [List.mem_cons, true_or, or_true]))
        refine am_e2 (v := 39) hi_249_75 rfl ?_
        refine am_e7 hi_249_76 ?_
        refine mm_20 (v := .int (f 4)) hS259 hi_249_77 rfl ?_
        refine am_e0 hi_249_80 ?_
        obtain ⟨z261, hz261, tz261⟩ := am_addI (x := f 4) (y := 1) (m := (f 4).toInt) (n := (1 : Int)) rfl (by decide) (by omega) (by omega)
        refine am_e10 (z := z261) hi_249_81 hz261 ?_
        refine mm_21 (v := z261) hS259 hi_249_82 rfl (Nat.le_of_ble_eq_true rfl) ms_4 ?_
        intro S262 hS263
        replace hS263 : MS S0 S262 (upd (upd (upd (upd (upd f 4 z261) 24 l214) 37 z215) 44 b216) 68 z240) (upg g'242 71 on.toNatClampNeg r252) := hS263
        have hR264 : RJ (upd (upd (upd (upd (upd f 4 z261) 24 l214) 37 z215) 44 b216) 68 z240) (upg g'242 71 on.toNatClampNeg r252) gs bc1 (z203.toNatClampNeg :: fl) (z203.toInt + 1) ((f 68).toNatClampNeg :: [on.toInt.toNat]) := RJ.at hR260 (by show (f 4).toInt ≤ z261.toInt; omega)
        refine am_e1 (v := r231) hi_249_85 rfl ?_
        refine am_e0 hi_249_86 ?_
        refine am_e13f hi_249_88 (am_cF (m := r231.toInt) (n := (14 : Int)) rfl (by decide) (by simp only [am_cI]; omega)) ?_
        refine am_e2 (v := 39) hi_249_91 rfl ?_
        refine am_e7 hi_249_92 ?_
        refine mm_20 (v := .int (f 5)) hS263 hi_249_93 rfl ?_
        refine am_e0 hi_249_96 ?_
        obtain ⟨z265, hz265, tz265⟩ := am_subI (x := f 5) (y := 1) (m := (f 5).toInt) (n := (1 : Int)) rfl (by decide) (by omega) (by omega)
        refine am_e10 (z := z265) hi_249_97 hz265 ?_
        refine mm_21 (v := z265) hS263 hi_249_98 rfl (Nat.le_of_ble_eq_true rfl) ms_5 ?_
        intro S266 hS267
        replace hS267 : MS S0 S266 (upd (upd (upd (upd (upd (upd f 4 z261) 5 z265) 24 l214) 37 z215) 44 b216) 68 z240) (upg g'242 71 on.toNatClampNeg r252) := hS267
        refine am_e2 (v := 39) hi_249_101 rfl ?_
        refine am_e0 hi_249_102 ?_
        refine am_e1 (v := z249) hi_249_104 rfl ?_
        refine am_e0 hi_249_106 ?_
        refine am_e0 hi_249_107 ?_
        refine am_e32n (as := [.ref 39, .int 7, .int z249, .int 0, .int 0]) (la := [some (.ref 39), some (.int 7), some (.int z249), some (.int 0), some (.int 0)]) (rest := []) hi_249_108 (am_hd0 (M := 249) (by decide) 108) (Nat.le_of_ble_eq_true rfl) (Nat.le_of_ble_eq_true rfl) (show 5 ≤ am_P0.2.2.1 179 from by decide +kernel) rfl (am_recv_ok hS267.fs) rfl rfl (ct_pilec (d := (d + 6)) hS267 hR264 (mj_e_79c hR264 (by decide) (by show z249.toInt = (z203.toInt + 1); omega)) (by show (0 : Int) ≤ (f 10).toInt; omega) (by show (f 10).toInt ≤ (65535 : Int); omega)) ?_
        rintro v268 S269 (⟨z270, g'271, hv272, hS273, hR276, h274, h275⟩)
        subst hv272
        have h274_ : z270.toInt = (f 10).toInt + 1 := h274
        have h275_ : ∀ j, j ∉ [11, 12, 13, 14] → g'271 j = (upg g'242 71 on.toNatClampNeg r252) j := h275
        replace hS273 : MS S0 S269 (upd (upd (upd (upd (upd (upd (upd f 4 z261) 5 z265) 10 z270) 24 l214) 37 z215) 44 b216) 68 z240) g'271 := hS273
        have hR276_ : RJ (upd (upd (upd (upd (upd (upd (upd f 4 z261) 5 z265) 10 z270) 24 l214) 37 z215) 44 b216) 68 z240) g'271 (((7 : Int), z249.toInt, (0 : Int), (0 : Int), (z203.toNatClampNeg :: fl)) :: gs) bc1 [] 0 ((f 68).toNatClampNeg :: [on.toInt.toNat]) := hR276
        show am_E _ _ _ _ [some (.ref 39), some (.int on), some (.int tw), some (.int r231), some (.int z249)] [] _ _
        refine am_e2 (v := 39) hi_249_111 rfl ?_
        refine am_e0 hi_249_112 ?_
        refine am_e32w (as := [.ref 39, .int 0]) (la := [some (.ref 39), some (.int 0)]) (rest := []) hi_249_113 (am_hd0 (M := 249) (by decide) 113) (Nat.le_of_ble_eq_true rfl) (Nat.le_of_ble_eq_true rfl) (show 2 ≤ am_P0.2.2.1 186 from by decide +kernel) rfl (am_recv_ok hS273.fs) rfl rfl ?_
        refine am_e2 (v := 39) hi_186_0 rfl ?_
        refine am_e0 hi_186_1 ?_
        refine am_e1 (v := 0) hi_186_3 rfl ?_
        refine am_e0 hi_186_4 ?_
        refine am_e0 hi_186_5 ?_
        refine am_e32n (as := [.ref 39, .int 23, .int 0, .int 0, .int 0]) (la := [some (.ref 39), some (.int 23), some (.int 0), some (.int 0), some (.int 0)]) (rest := []) hi_186_6 (am_hd0 (M := 186) (by decide) 6) (Nat.le_of_ble_eq_true rfl) (Nat.le_of_ble_eq_true rfl) (show 5 ≤ am_P0.2.2.1 179 from by decide +kernel) rfl (am_recv_ok hS273.fs) rfl rfl (ct_pile (d := (d + 5)) hS273 hR276_ (mj_e_plain (by decide)) (by show (0 : Int) ≤ z270.toInt; omega) (by show z270.toInt ≤ (65535 : Int); omega)) ?_
        rintro v277 S278 (⟨z279, g'280, hv281, hS282, hR285, h283, h284⟩)
        subst hv281
        have h283_ : z279.toInt = z270.toInt + 1 := h283
        have h284_ : ∀ j, j ∉ [11, 12, 13, 14] → g'280 j = g'271 j := h284
        replace hS282 : MS S0 S278 (upd (upd (upd (upd (upd (upd (upd f 4 z261) 5 z265) 10 z279) 24 l214) 37 z215) 44 b216) 68 z240) g'280 := hS282
        have hR285_ : RJ (upd (upd (upd (upd (upd (upd (upd f 4 z261) 5 z265) 10 z279) 24 l214) 37 z215) 44 b216) 68 z240) g'280 (((23 : Int), (0 : Int), (0 : Int), (0 : Int), []) :: (((7 : Int), z249.toInt, (0 : Int), (0 : Int), (z203.toNatClampNeg :: fl)) :: gs)) bc1 [] 0 ((f 68).toNatClampNeg :: [on.toInt.toNat]) := hR285
        show am_E _ _ _ _ [some (.ref 39), some (.int 0)] [] _ _
        refine am_e35 hi_186_9 ?_
        show am_E _ _ _ _ [some (.ref 39), some (.int on), some (.int tw), some (.int r231), some (.int z249)] [] _ _
        refine am_e18 hi_249_116 ?_
        refine am_e18 hi_249_138 ?_
        refine am_e35 hi_249_148 ?_
        show am_E _ _ _ _ [some (.ref 39), some (.int 8), some (.int on), some (.int tw), some (.int th)] [] _ _
        refine am_e18 hi_180_201 ?_
        refine am_e35 hi_180_371 ?_
        have q1 : mg_p1 (((23 : Int), (0 : Int), (0 : Int), (0 : Int), []) :: (((7 : Int), z249.toInt, (0 : Int), (0 : Int), (z203.toNatClampNeg :: fl)) :: gs)) = 0 + (0 + (mg_p1 gs)) := rfl
        have q2 : mg_p2 (((23 : Int), (0 : Int), (0 : Int), (0 : Int), []) :: (((7 : Int), z249.toInt, (0 : Int), (0 : Int), (z203.toNatClampNeg :: fl)) :: gs)) = 0 + (0 + (mg_p2 gs)) := rfl
        have q3 : mg_p3 (((23 : Int), (0 : Int), (0 : Int), (0 : Int), []) :: (((7 : Int), z249.toInt, (0 : Int), (0 : Int), (z203.toNatClampNeg :: fl)) :: gs)) = 1 + (1 + (mg_p3 gs)) := rfl
        have q4 : mg_p4 (((23 : Int), (0 : Int), (0 : Int), (0 : Int), []) :: (((7 : Int), z249.toInt, (0 : Int), (0 : Int), (z203.toNatClampNeg :: fl)) :: gs)) = 0 + (0 + (mg_p4 gs)) := rfl
        refine ⟨_, _, _, bc1, rfl, hS282, Or.inl ⟨⟨(RJ.fewer (pj' := []) hR285_ (fun _ h => nomatch h)), ?_, ?_⟩, rfl, ?_⟩⟩
        · exact (⟨⟨(show mg_k 23 from by decide), (show (0 : Int) ≤ (f 15).toInt from by omega), (show 0 ≤ (f 20).toInt from by omega), (show 1 ≤ z215.toInt from by omega), (show 0 ≤ (f 32).toInt from by omega), (show (f 32).toInt ≤ z265.toInt from by omega), (show z265.toInt ≤ 48 from by omega), (show z215.toInt ≤ 2 * (z265.toInt) + 2 from by omega), (show 0 ≤ (0 : Int) from by omega)⟩, ⟨⟨(show mg_k 7 from by decide), (show (1 : Int) ≤ (f 15).toInt + 1 from by omega), (show 0 ≤ (f 20).toInt from by omega), (show 1 ≤ z215.toInt + 0 from by omega), (show 0 ≤ (f 32).toInt + 0 from by omega), (show (f 32).toInt + 0 ≤ z265.toInt + 0 from by omega), (show z265.toInt + 0 ≤ 48 from by omega), (show z215.toInt + 0 ≤ 2 * (z265.toInt + 0) + 1 from by omega), trivial⟩, mg_cast (mg_good_ext _ _ _ _ _ _ (fun i _ => by show g'280 34 i = g 34 i; rw [show g'280 34 = g'271 34 from h284_ 34 (by decide), show g'271 34 = g'242 34 from h275_ 34 (by decide), show g'242 34 = g'217 34 from h247_ 34 (by decide), show g'217 34 = g'205 34 from h225_ 34 (by decide), show g'205 34 = g 34 from h210_ 34 (by decide)]) (fun i _ => by show g'280 38 i = g 38 i; rw [show g'280 38 = g'271 38 from h284_ 38 (by decide), show g'271 38 = g'242 38 from h275_ 38 (by decide), show g'242 38 = g'217 38 from h247_ 38 (by decide), show g'217 38 = g'205 38 from h225_ 38 (by decide), show g'205 38 = g 38 from h210_ 38 (by decide)]) (fun i _ => by show g'280 23 i = g 23 i; rw [show g'280 23 = g'271 23 from h284_ 23 (by decide), show g'271 23 = g'242 23 from h275_ 23 (by decide), show g'242 23 = g'217 23 from h247_ 23 (by decide), show g'217 23 = g'205 23 from h225_ 23 (by decide), show g'205 23 = g 23 from h210_ 23 (by decide)]) hrest) (by show (f 15).toInt + 0 = (f 15).toInt + 1 + -1; omega) (by show (f 20).toInt = (f 20).toInt; omega) (by show (f 37).toInt + -1 = z215.toInt + 0 + 0; omega) (by show (f 32).toInt + 0 = (f 32).toInt + 0 + 0; omega) (by show (f 5).toInt + -1 = z265.toInt + 0 + 0; omega)⟩⟩ : mg_good (g'280 34) (g'280 38) (g'280 23) (((23 : Int), (0 : Int), (0 : Int), (0 : Int), []) :: (((7 : Int), z249.toInt, (0 : Int), (0 : Int), (z203.toNatClampNeg :: fl)) :: gs)) ((f 15).toInt) ((f 20).toInt) (z215.toInt) ((f 32).toInt) (z265.toInt))
        · exact ⟨(by show 0 ≤ z261.toInt; omega), (by show z261.toInt ≤ (f 0).toInt; omega), (by show (f 0).toInt ≤ 512; omega), (by show 0 ≤ l214.toInt; omega), (by show l214.toInt + (f 20).toInt + mg_p1 (((23 : Int), (0 : Int), (0 : Int), (0 : Int), []) :: (((7 : Int), z249.toInt, (0 : Int), (0 : Int), (z203.toNatClampNeg :: fl)) :: gs)) ≤ 4 * z261.toInt; omega), (by show (f 20).toInt ≤ z261.toInt; omega), (by show (f 15).toInt + mg_p2 (((23 : Int), (0 : Int), (0 : Int), (0 : Int), []) :: (((7 : Int), z249.toInt, (0 : Int), (0 : Int), (z203.toNatClampNeg :: fl)) :: gs)) ≤ z261.toInt; omega), (by show mg_p3 (((23 : Int), (0 : Int), (0 : Int), (0 : Int), []) :: (((7 : Int), z249.toInt, (0 : Int), (0 : Int), (z203.toNatClampNeg :: fl)) :: gs)) ≤ 20 * z261.toInt + 20; omega), (by show 0 ≤ z240.toInt; omega), (by show z240.toInt + 3 * (f 20).toInt + mg_p4 (((23 : Int), (0 : Int), (0 : Int), (0 : Int), []) :: (((7 : Int), z249.toInt, (0 : Int), (0 : Int), (z203.toNatClampNeg :: fl)) :: gs)) ≤ 60 * z261.toInt + 60; omega), (by show 0 ≤ (f 62).toInt; omega), (by show (f 62).toInt + 64 * mj_n (g'280 16) (f 15).toNatClampNeg 3 ≤ 64 * z261.toInt; rw [show g'280 16 = g'271 16 from h284_ 16 (by decide), show g'271 16 = g'242 16 from h275_ 16 (by decide), show g'242 16 = g'217 16 from h247_ 16 (by decide), show g'217 16 = g'205 16 from h225_ 16 (by decide), show g'205 16 = g 16 from h210_ 16 (by decide)]; omega), (by show 0 ≤ b216.toInt; omega), (by show b216.toInt ≤ z261.toInt; omega), (by show 0 ≤ (f 48).toInt; omega), (by show (f 48).toInt ≤ z261.toInt; omega), (by show 1 ≤ (f 53).toInt; omega), (by show (f 53).toInt ≤ z261.toInt + 1; omega), (by show 0 ≤ (f 19).toInt; omega), (by show (f 19).toInt ≤ 600; omega), (by show 0 ≤ (f 6).toInt; omega), (by show 0 ≤ (f 8).toInt; omega)⟩
        · show 100 * ((f 0).toInt - z261.toInt) + mg_p3 (((23 : Int), (0 : Int), (0 : Int), (0 : Int), []) :: (((7 : Int), z249.toInt, (0 : Int), (0 : Int), (z203.toNatClampNeg :: fl)) :: gs)) < 100 * ((f 0).toInt - (f 4).toInt) + (1 + mg_p3 gs); omega
      · refine am_e13f hi_249_43 (am_cF (m := r231.toInt) (n := (14 : Int)) rfl (by decide) c237) ?_
        refine am_e1 (v := r231) hi_249_46 rfl ?_
        refine am_e0 hi_249_47 ?_
        by_cases c286 : ¬ r231.toInt = (13 : Int)
        · refine am_e13t hi_249_49 (am_cT (m := r231.toInt) (n := (13 : Int)) rfl (by decide) c286) ?_
          refine am_e2 (v := 39) hi_249_141 rfl ?_
          refine am_e0 hi_249_142 ?_
          refine am_e32n (as := [.ref 39, .int 7]) (la := [some (.ref 39), some (.int 7)]) (rest := []) hi_249_144 (am_hd0 (M := 249) (by decide) 144) (Nat.le_of_ble_eq_true rfl) (Nat.le_of_ble_eq_true rfl) (show 2 ≤ am_P0.2.2.1 194 from by decide +kernel) rfl (am_recv_ok hS233.fs) rfl rfl (ct_fail (d := (d + 6)) hS233   (by show (0 : Int) ≤ (7 : Int); omega) (by show (0 : Int) ≤ (f 6).toInt; omega)) ?_
          rintro v287 S288 (⟨a289, b290, hv291, hS292, h293⟩)
          subst hv291
          have h293_ : (0 : Int) ≤ a289.toInt := h293
          replace hS292 : MS S0 S288 (upd (upd (upd (upd (upd (upd (upd f 6 a289) 7 b290) 10 0) 24 l214) 37 z215) 44 b216) 68 z203) g'217 := hS292
          have hR295 := rj_clear0 hR228_
          have hR296 : RJ (upd (upd (upd (upd (upd (upd (upd f 6 a289) 7 b290) 10 0) 24 l214) 37 z215) 44 b216) 68 z203) g'217 [] bc1 [] 0 [] := hR295
          show am_E _ _ _ _ [some (.ref 39), some (.int on), some (.int tw), some (.int r231), none] [.int 0] _ _
          refine am_e6i hi_249_147 ?_
          refine am_e35 hi_249_148 ?_
          show am_E _ _ _ _ [some (.ref 39), some (.int 8), some (.int on), some (.int tw), some (.int th)] [] _ _
          refine am_e18 hi_180_201 ?_
          refine am_e35 hi_180_371 ?_
          have hRc := rj_clear0 hR296
          refine ⟨_, _, [], _, rfl, hS292, Or.inr ⟨hRc, rfl, (by show 0 ≤ (f 4).toInt; omega), (by show (f 4).toInt ≤ (f 0).toInt; omega), (by show 0 ≤ (f 32).toInt; omega), (by show (f 32).toInt ≤ 63; omega), (by show 1 ≤ (f 53).toInt; omega), (by show (f 53).toInt ≤ 600; omega), (by show 0 ≤ z203.toInt; omega), (by show z203.toInt ≤ 60000; omega), (by show 0 ≤ (f 48).toInt; omega), (by show (f 48).toInt ≤ 8000; omega), (by show 0 ≤ z215.toInt; omega), (by show z215.toInt ≤ 128; omega), (by show 0 ≤ (f 62).toInt; omega), (by show (f 62).toInt ≤ 65000; omega), (by show 0 ≤ (f 19).toInt; omega), (by show (f 19).toInt ≤ 600; omega), (by show 0 ≤ a289.toInt; omega), (by show 0 ≤ (f 8).toInt; omega)⟩⟩
        · refine am_e13f hi_249_49 (am_cF (m := r231.toInt) (n := (13 : Int)) rfl (by decide) c286) ?_
          refine am_e2 (v := 39) hi_249_52 rfl ?_
          refine am_e0 hi_249_53 ?_
          refine am_e1 (v := tw) hi_249_55 rfl ?_
          refine am_e0 hi_249_56 ?_
          refine am_e0 hi_249_57 ?_
          refine am_e32n (as := [.ref 39, .int 36, .int tw, .int 0, .int 0]) (la := [some (.ref 39), some (.int 36), some (.int tw), some (.int 0), some (.int 0)]) (rest := []) hi_249_58 (am_hd0 (M := 249) (by decide) 58) (Nat.le_of_ble_eq_true rfl) (Nat.le_of_ble_eq_true rfl) (show 5 ≤ am_P0.2.2.1 189 from by decide +kernel) rfl (am_recv_ok hS233.fs) rfl rfl (ct_putc (d := (d + 6)) hS233 hR228_ rfl (by show (0 : Int) ≤ (f 32).toInt; omega) (by show (f 32).toInt ≤ (63 : Int); omega) (by show (f 53).toInt ≤ (4096 : Int); omega) (by show (0 : Int) ≤ z203.toInt; omega) (by show z203.toInt ≤ (65534 : Int); omega)) ?_
          rintro v297 S298 (⟨z299, r300, g'301, hv302, hS303, hR307, h304, h305, h306⟩)
          subst hv302
          have h304_ : z299.toInt = z203.toInt + 1 := h304
          have h305_ : r300.toInt = z203.toInt := h305
          have h306_ : ∀ j, j ∉ [60, 69, 70, 71, 72, 73] → g'301 j = g'217 j := h306
          replace hS303 : MS S0 S298 (upd (upd (upd (upd f 24 l214) 37 z215) 44 b216) 68 z299) g'301 := hS303
          have hR307_ : RJ (upd (upd (upd (upd f 24 l214) 37 z215) 44 b216) 68 z299) g'301 gs bc1 (z203.toNatClampNeg :: fl) (z203.toInt + 1) ((f 68).toNatClampNeg :: [on.toInt.toNat]) := hR307
          show am_E _ _ _ _ [some (.ref 39), some (.int on), some (.int tw), some (.int r231), none] [.int r300] _ _
          refine am_e0 hi_249_61 ?_
          obtain ⟨z308, hz308, tz308⟩ := am_addI (x := r300) (y := 1) (m := r300.toInt) (n := (1 : Int)) rfl (by decide) (by omega) (by omega)
          refine am_e10 (z := z308) hi_249_62 hz308 ?_
          refine am_e3 (ls' := [some (.ref 39), some (.int on), some (.int tw), some (.int r231), some (.int z308)]) hi_249_63 (Nat.le_of_ble_eq_true rfl) rfl ?_
          refine am_e2 (v := 39) hi_249_65 rfl ?_
          refine mm_20 (v := .ref 90) hS303 hi_249_66 rfl ?_
          refine am_e1 (v := on) hi_249_69 rfl ?_
          refine am_e2 (v := 39) hi_249_70 rfl ?_
          refine am_e32n (as := [.ref 39]) (la := [some (.ref 39)]) (rest := [.int on, .ref 90]) hi_249_71 (am_hd0 (M := 249) (by decide) 71) (Nat.le_of_ble_eq_true rfl) (Nat.le_of_ble_eq_true rfl) (show 1 ≤ am_P0.2.2.1 210 from by decide +kernel) rfl (am_recv_ok hS303.fs) rfl rfl (ct_here (d := (d + 6)) hS303 hR307_  (by show (0 : Int) ≤ (f 32).toInt; omega) (by show (f 32).toInt ≤ (63 : Int); omega) (by show (f 53).toInt ≤ (4096 : Int); omega) (by show (0 : Int) ≤ z299.toInt; omega) (by show z299.toInt ≤ (65534 : Int); omega)) ?_
          rintro v309 S310 (⟨r311, hv312, hS313, h314, h315⟩)
          subst hv312
          have h314_ : (0 : Int) ≤ r311.toInt := h314
          have h315_ : r311.toInt ≤ z299.toInt := h315
          show am_E _ _ _ _ [some (.ref 39), some (.int on), some (.int tw), some (.int r231), some (.int z308)] [.int r311, .int on, .ref 90] _ _
          refine mm_26 hS313 ma_71 hi_249_74 (by decide) (by omega) (by omega) (fun h => nomatch h) ?_
          intro S317 hS318
          have hix592 : on.toNatClampNeg = on.toInt.toNat := by first | rfl | (rw [cl_toNat, cl_toNat]; omega)
          have hR319 : RJ (upd (upd (upd (upd f 24 l214) 37 z215) 44 b216) 68 z299) (upg g'301 71 on.toNatClampNeg r311) gs bc1 (z203.toNatClampNeg :: fl) (z203.toInt + 1) ((f 68).toNatClampNeg :: [on.toInt.toNat]) := by rw [hix592]; exact RJ.lead hR307_ (RJ.pjn hR307_ (show on.toInt.toNat ∈ _ from by simp only [List.mem_cons, true_or, or_true]))
          refine am_e2 (v := 39) hi_249_75 rfl ?_
          refine am_e7 hi_249_76 ?_
          refine mm_20 (v := .int (f 4)) hS318 hi_249_77 rfl ?_
          refine am_e0 hi_249_80 ?_
          obtain ⟨z320, hz320, tz320⟩ := am_addI (x := f 4) (y := 1) (m := (f 4).toInt) (n := (1 : Int)) rfl (by decide) (by omega) (by omega)
          refine am_e10 (z := z320) hi_249_81 hz320 ?_
          refine mm_21 (v := z320) hS318 hi_249_82 rfl (Nat.le_of_ble_eq_true rfl) ms_4 ?_
          intro S321 hS322
          replace hS322 : MS S0 S321 (upd (upd (upd (upd (upd f 4 z320) 24 l214) 37 z215) 44 b216) 68 z299) (upg g'301 71 on.toNatClampNeg r311) := hS322
          have hR323 : RJ (upd (upd (upd (upd (upd f 4 z320) 24 l214) 37 z215) 44 b216) 68 z299) (upg g'301 71 on.toNatClampNeg r311) gs bc1 (z203.toNatClampNeg :: fl) (z203.toInt + 1) ((f 68).toNatClampNeg :: [on.toInt.toNat]) := RJ.at hR319 (by show (f 4).toInt ≤ z320.toInt; omega)
          refine am_e1 (v := r231) hi_249_85 rfl ?_
          refine am_e0 hi_249_86 ?_
          refine am_e13t hi_249_88 (am_cT (m := r231.toInt) (n := (14 : Int)) rfl (by decide) (by simp only [am_cI]; omega)) ?_
          refine am_e2 (v := 39) hi_249_119 rfl ?_
          refine am_e0 hi_249_120 ?_
          refine am_e32n (as := [.ref 39, .int 0]) (la := [some (.ref 39), some (.int 0)]) (rest := []) hi_249_121 (am_hd0 (M := 249) (by decide) 121) (Nat.le_of_ble_eq_true rfl) (Nat.le_of_ble_eq_true rfl) (show 2 ≤ am_P0.2.2.1 177 from by decide +kernel) rfl (am_recv_ok hS322.fs) rfl rfl (ct_beginBlock2 (d := (d + 6)) hS322 hR323 (by decide)  (by show (0 : Int) ≤ z215.toInt; omega) (by show z215.toInt ≤ (127 : Int); omega) (by show (0 : Int) ≤ l214.toInt; omega) (by show (0 : Int) ≤ b216.toInt; omega) (by show b216.toInt ≤ z320.toInt; omega) (by show (0 : Int) ≤ (f 48).toInt; omega)) ?_
          rintro v324 S325 (⟨z326, g'327, hv328, hS329, hR333, h330, h331, h332⟩)
          subst hv328
          have h330_ : z326.toInt = z215.toInt + 1 := h330
          have h331_ : ∀ j, j ∉ [38, 39, 40, 41, 42, 43] → g'327 j = (upg g'301 71 on.toNatClampNeg r311) j := h331
          have h332_ : g'327 38 = upd ((upg g'301 71 on.toNatClampNeg r311) 38) z215.toNatClampNeg l214 := h332
          replace hS329 : MS S0 S325 (upd (upd (upd (upd (upd f 4 z320) 24 l214) 37 z326) 44 b216) 68 z299) g'327 := hS329
          have hR333_ : RJ (upd (upd (upd (upd (upd f 4 z320) 24 l214) 37 z326) 44 b216) 68 z299) g'327 gs ([] :: bc1) (z203.toNatClampNeg :: fl) (z203.toInt + 1) ((f 68).toNatClampNeg :: [on.toInt.toNat]) := hR333
          show am_E _ _ _ _ [some (.ref 39), some (.int on), some (.int tw), some (.int r231), some (.int z308)] [] _ _
          refine am_e2 (v := 39) hi_249_124 rfl ?_
          refine am_e0 hi_249_125 ?_
          refine am_e1 (v := z308) hi_249_127 rfl ?_
          refine am_e0 hi_249_129 ?_
          refine am_e0 hi_249_130 ?_
          refine am_e32n (as := [.ref 39, .int 9, .int z308, .int 0, .int 0]) (la := [some (.ref 39), some (.int 9), some (.int z308), some (.int 0), some (.int 0)]) (rest := []) hi_249_131 (am_hd0 (M := 249) (by decide) 131) (Nat.le_of_ble_eq_true rfl) (Nat.le_of_ble_eq_true rfl) (show 5 ≤ am_P0.2.2.1 179 from by decide +kernel) rfl (am_recv_ok hS329.fs) rfl rfl (ct_pilec (d := (d + 6)) hS329 hR333_ (mj_e_79c hR333_ (by decide) (by show z308.toInt = (z203.toInt + 1); omega)) (by show (0 : Int) ≤ (f 10).toInt; omega) (by show (f 10).toInt ≤ (65535 : Int); omega)) ?_
          rintro v334 S335 (⟨z336, g'337, hv338, hS339, hR342, h340, h341⟩)
          subst hv338
          have h340_ : z336.toInt = (f 10).toInt + 1 := h340
          have h341_ : ∀ j, j ∉ [11, 12, 13, 14] → g'337 j = g'327 j := h341
          replace hS339 : MS S0 S335 (upd (upd (upd (upd (upd (upd f 4 z320) 10 z336) 24 l214) 37 z326) 44 b216) 68 z299) g'337 := hS339
          have hR342_ : RJ (upd (upd (upd (upd (upd (upd f 4 z320) 10 z336) 24 l214) 37 z326) 44 b216) 68 z299) g'337 (((9 : Int), z308.toInt, (0 : Int), (0 : Int), (z203.toNatClampNeg :: fl)) :: gs) ([] :: bc1) [] 0 ((f 68).toNatClampNeg :: [on.toInt.toNat]) := hR342
          show am_E _ _ _ _ [some (.ref 39), some (.int on), some (.int tw), some (.int r231), some (.int z308)] [] _ _
          refine am_e2 (v := 39) hi_249_134 rfl ?_
          refine am_e32w (as := [.ref 39]) (la := [some (.ref 39)]) (rest := []) hi_249_135 (am_hd0 (M := 249) (by decide) 135) (Nat.le_of_ble_eq_true rfl) (Nat.le_of_ble_eq_true rfl) (show 1 ≤ am_P0.2.2.1 178 from by decide +kernel) rfl (am_recv_ok hS339.fs) rfl rfl ?_
          refine am_e2 (v := 39) hi_178_0 rfl ?_
          refine am_e0 hi_178_1 ?_
          refine am_e0 hi_178_2 ?_
          refine am_e0 hi_178_3 ?_
          refine am_e0 hi_178_4 ?_
          refine am_e32n (as := [.ref 39, .int 1, .int 0, .int 0, .int 0]) (la := [some (.ref 39), some (.int 1), some (.int 0), some (.int 0), some (.int 0)]) (rest := []) hi_178_5 (am_hd0 (M := 178) (by decide) 5) (Nat.le_of_ble_eq_true rfl) (Nat.le_of_ble_eq_true rfl) (show 5 ≤ am_P0.2.2.1 179 from by decide +kernel) rfl (am_recv_ok hS339.fs) rfl rfl (ct_pile (d := (d + 5)) hS339 hR342_ (mj_e_plain (by decide)) (by show (0 : Int) ≤ z336.toInt; omega) (by show z336.toInt ≤ (65535 : Int); omega)) ?_
          rintro v343 S344 (⟨z345, g'346, hv347, hS348, hR351, h349, h350⟩)
          subst hv347
          have h349_ : z345.toInt = z336.toInt + 1 := h349
          have h350_ : ∀ j, j ∉ [11, 12, 13, 14] → g'346 j = g'337 j := h350
          replace hS348 : MS S0 S344 (upd (upd (upd (upd (upd (upd f 4 z320) 10 z345) 24 l214) 37 z326) 44 b216) 68 z299) g'346 := hS348
          have hR351_ : RJ (upd (upd (upd (upd (upd (upd f 4 z320) 10 z345) 24 l214) 37 z326) 44 b216) 68 z299) g'346 (((1 : Int), (0 : Int), (0 : Int), (0 : Int), []) :: (((9 : Int), z308.toInt, (0 : Int), (0 : Int), (z203.toNatClampNeg :: fl)) :: gs)) ([] :: bc1) [] 0 ((f 68).toNatClampNeg :: [on.toInt.toNat]) := hR351
          show am_E _ _ _ _ [some (.ref 39)] [] _ _
          refine am_e35 hi_178_8 ?_
          show am_E _ _ _ _ [some (.ref 39), some (.int on), some (.int tw), some (.int r231), some (.int z308)] [] _ _
          refine am_e18 hi_249_138 ?_
          refine am_e35 hi_249_148 ?_
          show am_E _ _ _ _ [some (.ref 39), some (.int 8), some (.int on), some (.int tw), some (.int th)] [] _ _
          refine am_e18 hi_180_201 ?_
          refine am_e35 hi_180_371 ?_
          have q1 : mg_p1 (((1 : Int), (0 : Int), (0 : Int), (0 : Int), []) :: (((9 : Int), z308.toInt, (0 : Int), (0 : Int), (z203.toNatClampNeg :: fl)) :: gs)) = 0 + (0 + (mg_p1 gs)) := rfl
          have q2 : mg_p2 (((1 : Int), (0 : Int), (0 : Int), (0 : Int), []) :: (((9 : Int), z308.toInt, (0 : Int), (0 : Int), (z203.toNatClampNeg :: fl)) :: gs)) = 0 + (0 + (mg_p2 gs)) := rfl
          have q3 : mg_p3 (((1 : Int), (0 : Int), (0 : Int), (0 : Int), []) :: (((9 : Int), z308.toInt, (0 : Int), (0 : Int), (z203.toNatClampNeg :: fl)) :: gs)) = 1 + (1 + (mg_p3 gs)) := rfl
          have q4 : mg_p4 (((1 : Int), (0 : Int), (0 : Int), (0 : Int), []) :: (((9 : Int), z308.toInt, (0 : Int), (0 : Int), (z203.toNatClampNeg :: fl)) :: gs)) = 0 + (0 + (mg_p4 gs)) := rfl
          refine ⟨_, _, _, ([] :: bc1), rfl, hS348, Or.inl ⟨⟨(RJ.fewer (pj' := []) hR351_ (fun _ h => nomatch h)), ?_, ?_⟩, rfl, ?_⟩⟩
          · exact (⟨⟨(show mg_k 1 from by decide), (show (0 : Int) ≤ (f 15).toInt from by omega), (show 0 ≤ (f 20).toInt from by omega), (show 1 ≤ z326.toInt from by omega), (show 0 ≤ (f 32).toInt from by omega), (show (f 32).toInt ≤ (f 5).toInt from by omega), (show (f 5).toInt ≤ 48 from by omega), (show z326.toInt ≤ 2 * ((f 5).toInt) + 1 from by omega), trivial⟩, ⟨⟨(show mg_k 9 from by decide), (show (0 : Int) ≤ (f 15).toInt + 0 from by omega), (show 0 ≤ (f 20).toInt from by omega), (show 1 ≤ z326.toInt + 0 from by omega), (show 0 ≤ (f 32).toInt + 0 from by omega), (show (f 32).toInt + 0 ≤ (f 5).toInt + 0 from by omega), (show (f 5).toInt + 0 ≤ 48 from by omega), (show z326.toInt + 0 ≤ 2 * ((f 5).toInt + 0) + 0 from by omega), trivial⟩, mg_cast (mg_good_ext _ _ _ _ _ _ (fun i _ => by show g'346 34 i = g 34 i; rw [show g'346 34 = g'337 34 from h350_ 34 (by decide), show g'337 34 = g'327 34 from h341_ 34 (by decide), show g'327 34 = g'301 34 from h331_ 34 (by decide), show g'301 34 = g'217 34 from h306_ 34 (by decide), show g'217 34 = g'205 34 from h225_ 34 (by decide), show g'205 34 = g 34 from h210_ 34 (by decide)]) (fun i hi => by show g'346 38 i = g 38 i; rw [show g'346 38 = g'337 38 from h350_ 38 (by decide), show g'337 38 = g'327 38 from h341_ 38 (by decide), h332_, show (upg g'301 71 on.toNatClampNeg r311) 38 = g'301 38 from rfl, show g'301 38 = g'217 38 from h306_ 38 (by decide), show g'217 38 = g'205 38 from h225_ 38 (by decide), show g'205 38 = g 38 from h210_ 38 (by decide)]; exact upd_ne (by rw [cl_toNat]; omega)) (fun i _ => by show g'346 23 i = g 23 i; rw [show g'346 23 = g'337 23 from h350_ 23 (by decide), show g'337 23 = g'327 23 from h341_ 23 (by decide), show g'327 23 = g'301 23 from h331_ 23 (by decide), show g'301 23 = g'217 23 from h306_ 23 (by decide), show g'217 23 = g'205 23 from h225_ 23 (by decide), show g'205 23 = g 23 from h210_ 23 (by decide)]) hrest) (by show (f 15).toInt + 0 = (f 15).toInt + 0 + 0; omega) (by show (f 20).toInt = (f 20).toInt; omega) (by show (f 37).toInt + -1 = z326.toInt + 0 + -1; omega) (by show (f 32).toInt + 0 = (f 32).toInt + 0 + 0; omega) (by show (f 5).toInt + -1 = (f 5).toInt + 0 + -1; omega)⟩⟩ : mg_good (g'346 34) (g'346 38) (g'346 23) (((1 : Int), (0 : Int), (0 : Int), (0 : Int), []) :: (((9 : Int), z308.toInt, (0 : Int), (0 : Int), (z203.toNatClampNeg :: fl)) :: gs)) ((f 15).toInt) ((f 20).toInt) (z326.toInt) ((f 32).toInt) ((f 5).toInt))
          · exact ⟨(by show 0 ≤ z320.toInt; omega), (by show z320.toInt ≤ (f 0).toInt; omega), (by show (f 0).toInt ≤ 512; omega), (by show 0 ≤ l214.toInt; omega), (by show l214.toInt + (f 20).toInt + mg_p1 (((1 : Int), (0 : Int), (0 : Int), (0 : Int), []) :: (((9 : Int), z308.toInt, (0 : Int), (0 : Int), (z203.toNatClampNeg :: fl)) :: gs)) ≤ 4 * z320.toInt; omega), (by show (f 20).toInt ≤ z320.toInt; omega), (by show (f 15).toInt + mg_p2 (((1 : Int), (0 : Int), (0 : Int), (0 : Int), []) :: (((9 : Int), z308.toInt, (0 : Int), (0 : Int), (z203.toNatClampNeg :: fl)) :: gs)) ≤ z320.toInt; omega), (by show mg_p3 (((1 : Int), (0 : Int), (0 : Int), (0 : Int), []) :: (((9 : Int), z308.toInt, (0 : Int), (0 : Int), (z203.toNatClampNeg :: fl)) :: gs)) ≤ 20 * z320.toInt + 20; omega), (by show 0 ≤ z299.toInt; omega), (by show z299.toInt + 3 * (f 20).toInt + mg_p4 (((1 : Int), (0 : Int), (0 : Int), (0 : Int), []) :: (((9 : Int), z308.toInt, (0 : Int), (0 : Int), (z203.toNatClampNeg :: fl)) :: gs)) ≤ 60 * z320.toInt + 60; omega), (by show 0 ≤ (f 62).toInt; omega), (by show (f 62).toInt + 64 * mj_n (g'346 16) (f 15).toNatClampNeg 3 ≤ 64 * z320.toInt; rw [show g'346 16 = g'337 16 from h350_ 16 (by decide), show g'337 16 = g'327 16 from h341_ 16 (by decide), show g'327 16 = g'301 16 from h331_ 16 (by decide), show g'301 16 = g'217 16 from h306_ 16 (by decide), show g'217 16 = g'205 16 from h225_ 16 (by decide), show g'205 16 = g 16 from h210_ 16 (by decide)]; omega), (by show 0 ≤ b216.toInt; omega), (by show b216.toInt ≤ z320.toInt; omega), (by show 0 ≤ (f 48).toInt; omega), (by show (f 48).toInt ≤ z320.toInt; omega), (by show 1 ≤ (f 53).toInt; omega), (by show (f 53).toInt ≤ z320.toInt + 1; omega), (by show 0 ≤ (f 19).toInt; omega), (by show (f 19).toInt ≤ 600; omega), (by show 0 ≤ (f 6).toInt; omega), (by show 0 ≤ (f 8).toInt; omega)⟩
          · show 100 * ((f 0).toInt - z320.toInt) + mg_p3 (((1 : Int), (0 : Int), (0 : Int), (0 : Int), []) :: (((9 : Int), z308.toInt, (0 : Int), (0 : Int), (z203.toNatClampNeg :: fl)) :: gs)) < 100 * ((f 0).toInt - (f 4).toInt) + (1 + mg_p3 gs); omega
    · refine am_e13f hi_249_12 (am_cF (m := r231.toInt) (n := (15 : Int)) rfl (by decide) c236) ?_
      refine am_e2 (v := 39) hi_249_15 rfl ?_
      refine am_e0 hi_249_16 ?_
      refine am_e32n (as := [.ref 39, .int 15]) (la := [some (.ref 39), some (.int 15)]) (rest := []) hi_249_18 (am_hd0 (M := 249) (by decide) 18) (Nat.le_of_ble_eq_true rfl) (Nat.le_of_ble_eq_true rfl) (show 2 ≤ am_P0.2.2.1 199 from by decide +kernel) rfl (am_recv_ok hS233.fs) rfl rfl (ct_leave (d := (d + 3)) hS233   (by show (0 : Int) ≤ (f 4).toInt; omega) (by show (f 0).toInt ≤ (16384 : Int); omega) (by show (0 : Int) ≤ (15 : Int); omega) (by show (0 : Int) ≤ (f 5).toInt; omega) (by show (f 5).toInt ≤ (48 : Int); omega) (by show (0 : Int) ≤ (f 6).toInt; omega)) ?_
      rintro v352 S353 (⟨z354, y355, hv356, hS357, h358, h359, h360⟩ | ⟨a362, b363, hv364, hS365, h366⟩)
      · subst hv356
        have h358_ : z354.toInt = (f 4).toInt + 1 := h358
        have h359_ : (f 4).toInt < (f 0).toInt := h359
        have h360_ : y355.toInt = (f 5).toInt - 1 := h360
        replace hS357 : MS S0 S353 (upd (upd (upd (upd (upd (upd f 4 z354) 5 y355) 24 l214) 37 z215) 44 b216) 68 z203) g'217 := hS357
        have hR368 : RJ (upd (upd (upd (upd (upd (upd f 4 z354) 5 y355) 24 l214) 37 z215) 44 b216) 68 z203) g'217 gs bc1 fl tw.toInt ((f 68).toNatClampNeg :: [on.toInt.toNat]) := RJ.at hR228_ (by show (f 4).toInt ≤ z354.toInt; omega)
        show am_E _ _ _ _ [some (.ref 39), some (.int on), some (.int tw), some (.int r231), none] [.int 1] _ _
        refine am_e6i hi_249_21 ?_
        refine am_e2 (v := 39) hi_249_22 rfl ?_
        refine mm_20 (v := .ref 90) hS357 hi_249_23 rfl ?_
        refine am_e1 (v := on) hi_249_26 rfl ?_
        refine am_e2 (v := 39) hi_249_27 rfl ?_
        refine am_e32n (as := [.ref 39]) (la := [some (.ref 39)]) (rest := [.int on, .ref 90]) hi_249_28 (am_hd0 (M := 249) (by decide) 28) (Nat.le_of_ble_eq_true rfl) (Nat.le_of_ble_eq_true rfl) (show 1 ≤ am_P0.2.2.1 210 from by decide +kernel) rfl (am_recv_ok hS357.fs) rfl rfl (ct_here (d := (d + 6)) hS357 hR368  (by show (0 : Int) ≤ (f 32).toInt; omega) (by show (f 32).toInt ≤ (63 : Int); omega) (by show (f 53).toInt ≤ (4096 : Int); omega) (by show (0 : Int) ≤ z203.toInt; omega) (by show z203.toInt ≤ (65534 : Int); omega)) ?_
        rintro v369 S370 (⟨r371, hv372, hS373, h374, h375⟩)
        subst hv372
        have h374_ : (0 : Int) ≤ r371.toInt := h374
        have h375_ : r371.toInt ≤ z203.toInt := h375
        show am_E _ _ _ _ [some (.ref 39), some (.int on), some (.int tw), some (.int r231), none] [.int r371, .int on, .ref 90] _ _
        refine mm_26 hS373 ma_71 hi_249_31 (by decide) (by omega) (by omega) (fun h => nomatch h) ?_
        intro S377 hS378
        have hix686 : on.toNatClampNeg = on.toInt.toNat := by first | rfl | (rw [cl_toNat, cl_toNat]; omega)
        have hR379 : RJ (upd (upd (upd (upd (upd (upd f 4 z354) 5 y355) 24 l214) 37 z215) 44 b216) 68 z203) (upg g'217 71 on.toNatClampNeg r371) gs bc1 fl tw.toInt ((f 68).toNatClampNeg :: [on.toInt.toNat]) := by rw [hix686]; exact RJ.lead hR368 (RJ.pjn hR368 (show on.toInt.toNat ∈ _ from by simp only [List.mem_cons, true_or, or_true]))
        refine am_e2 (v := 39) hi_249_32 rfl ?_
        refine am_e1 (v := tw) hi_249_33 rfl ?_
        refine am_e32n (as := [.ref 39, .int tw]) (la := [some (.ref 39), some (.int tw), none, none]) (rest := []) hi_249_34 (am_hd0 (M := 249) (by decide) 34) (Nat.le_of_ble_eq_true rfl) (Nat.le_of_ble_eq_true rfl) (show 2 ≤ am_P0.2.2.1 250 from by decide +kernel) rfl (am_recv_ok hS378.fs) rfl rfl (ct_mend (d := (d + 5)) hS378 hR379 rfl (by show (0 : Int) ≤ (f 32).toInt; omega) (by show (f 32).toInt ≤ (63 : Int); omega) (by show (f 53).toInt ≤ (4096 : Int); omega) (by show (0 : Int) ≤ z203.toInt; omega) (by show z203.toInt ≤ (65534 : Int); omega)) ?_
        rintro v380 S381 (⟨g'382, hv383, hS384, hR386, h385⟩)
        subst hv383
        have h385_ : ∀ j, j ∉ [71] → g'382 j = (upg g'217 71 on.toNatClampNeg r371) j := h385
        have hR386_ : RJ (upd (upd (upd (upd (upd (upd f 4 z354) 5 y355) 24 l214) 37 z215) 44 b216) 68 z203) g'382 gs bc1 [] 0 ((f 68).toNatClampNeg :: [on.toInt.toNat]) := hR386
        show am_E _ _ _ _ [some (.ref 39), some (.int on), some (.int tw), some (.int r231), none] [] _ _
        refine am_e18 hi_249_37 ?_
        refine am_e35 hi_249_148 ?_
        show am_E _ _ _ _ [some (.ref 39), some (.int 8), some (.int on), some (.int tw), some (.int th)] [] _ _
        refine am_e18 hi_180_201 ?_
        refine am_e35 hi_180_371 ?_
        have q1 : mg_p1 gs = mg_p1 gs := rfl
        have q2 : mg_p2 gs = mg_p2 gs := rfl
        have q3 : mg_p3 gs = mg_p3 gs := rfl
        have q4 : mg_p4 gs = mg_p4 gs := rfl
        refine ⟨_, _, _, bc1, rfl, hS384, Or.inl ⟨⟨(RJ.fewer (pj' := []) hR386_ (fun _ h => nomatch h)), ?_, ?_⟩, rfl, ?_⟩⟩
        · exact (mg_cast (mg_good_ext _ _ _ _ _ _ (fun i _ => by show g'382 34 i = g 34 i; rw [show g'382 34 = g'217 34 from h385_ 34 (by decide), show g'217 34 = g'205 34 from h225_ 34 (by decide), show g'205 34 = g 34 from h210_ 34 (by decide)]) (fun i _ => by show g'382 38 i = g 38 i; rw [show g'382 38 = g'217 38 from h385_ 38 (by decide), show g'217 38 = g'205 38 from h225_ 38 (by decide), show g'205 38 = g 38 from h210_ 38 (by decide)]) (fun i _ => by show g'382 23 i = g 23 i; rw [show g'382 23 = g'217 23 from h385_ 23 (by decide), show g'217 23 = g'205 23 from h225_ 23 (by decide), show g'205 23 = g 23 from h210_ 23 (by decide)]) hrest) (by show (f 15).toInt + 0 = (f 15).toInt; omega) (by show (f 20).toInt = (f 20).toInt; omega) (by show (f 37).toInt + -1 = z215.toInt; omega) (by show (f 32).toInt + 0 = (f 32).toInt; omega) (by show (f 5).toInt + -1 = y355.toInt; omega) : mg_good (g'382 34) (g'382 38) (g'382 23) gs ((f 15).toInt) ((f 20).toInt) (z215.toInt) ((f 32).toInt) (y355.toInt))
        · exact ⟨(by show 0 ≤ z354.toInt; omega), (by show z354.toInt ≤ (f 0).toInt; omega), (by show (f 0).toInt ≤ 512; omega), (by show 0 ≤ l214.toInt; omega), (by show l214.toInt + (f 20).toInt + mg_p1 gs ≤ 4 * z354.toInt; omega), (by show (f 20).toInt ≤ z354.toInt; omega), (by show (f 15).toInt + mg_p2 gs ≤ z354.toInt; omega), (by show mg_p3 gs ≤ 20 * z354.toInt + 20; omega), (by show 0 ≤ z203.toInt; omega), (by show z203.toInt + 3 * (f 20).toInt + mg_p4 gs ≤ 60 * z354.toInt + 60; omega), (by show 0 ≤ (f 62).toInt; omega), (by show (f 62).toInt + 64 * mj_n (g'382 16) (f 15).toNatClampNeg 3 ≤ 64 * z354.toInt; rw [show g'382 16 = g'217 16 from h385_ 16 (by decide), show g'217 16 = g'205 16 from h225_ 16 (by decide), show g'205 16 = g 16 from h210_ 16 (by decide)]; omega), (by show 0 ≤ b216.toInt; omega), (by show b216.toInt ≤ z354.toInt; omega), (by show 0 ≤ (f 48).toInt; omega), (by show (f 48).toInt ≤ z354.toInt; omega), (by show 1 ≤ (f 53).toInt; omega), (by show (f 53).toInt ≤ z354.toInt + 1; omega), (by show 0 ≤ (f 19).toInt; omega), (by show (f 19).toInt ≤ 600; omega), (by show 0 ≤ (f 6).toInt; omega), (by show 0 ≤ (f 8).toInt; omega)⟩
        · show 100 * ((f 0).toInt - z354.toInt) + mg_p3 gs < 100 * ((f 0).toInt - (f 4).toInt) + (1 + mg_p3 gs); omega
      · subst hv364
        have h366_ : (0 : Int) ≤ a362.toInt := h366
        replace hS365 : MS S0 S353 (upd (upd (upd (upd (upd (upd (upd f 6 a362) 7 b363) 10 0) 24 l214) 37 z215) 44 b216) 68 z203) g'217 := hS365
        have hR387 := rj_clear0 hR228_
        have hR388 : RJ (upd (upd (upd (upd (upd (upd (upd f 6 a362) 7 b363) 10 0) 24 l214) 37 z215) 44 b216) 68 z203) g'217 [] bc1 [] 0 [] := hR387
        show am_E _ _ _ _ [some (.ref 39), some (.int on), some (.int tw), some (.int r231), none] [.int 0] _ _
        refine am_e6i hi_249_21 ?_
        refine am_e2 (v := 39) hi_249_22 rfl ?_
        refine mm_20 (v := .ref 90) hS365 hi_249_23 rfl ?_
        refine am_e1 (v := on) hi_249_26 rfl ?_
        refine am_e2 (v := 39) hi_249_27 rfl ?_
        refine am_e32n (as := [.ref 39]) (la := [some (.ref 39)]) (rest := [.int on, .ref 90]) hi_249_28 (am_hd0 (M := 249) (by decide) 28) (Nat.le_of_ble_eq_true rfl) (Nat.le_of_ble_eq_true rfl) (show 1 ≤ am_P0.2.2.1 210 from by decide +kernel) rfl (am_recv_ok hS365.fs) rfl rfl (ct_here (d := (d + 6)) hS365 hR388  (by show (0 : Int) ≤ (f 32).toInt; omega) (by show (f 32).toInt ≤ (63 : Int); omega) (by show (f 53).toInt ≤ (4096 : Int); omega) (by show (0 : Int) ≤ z203.toInt; omega) (by show z203.toInt ≤ (65534 : Int); omega)) ?_
        rintro v389 S390 (⟨r391, hv392, hS393, h394, h395⟩)
        subst hv392
        have h394_ : (0 : Int) ≤ r391.toInt := h394
        have h395_ : r391.toInt ≤ z203.toInt := h395
        show am_E _ _ _ _ [some (.ref 39), some (.int on), some (.int tw), some (.int r231), none] [.int r391, .int on, .ref 90] _ _
        refine mm_26 hS393 ma_71 hi_249_31 (by decide) (by omega) (by omega) (fun h => nomatch h) ?_
        intro S397 hS398
        have hix728 : on.toNatClampNeg = on.toInt.toNat := by first | rfl | (rw [cl_toNat, cl_toNat]; omega)
        have hR399 : RJ (upd (upd (upd (upd (upd (upd (upd f 6 a362) 7 b363) 10 0) 24 l214) 37 z215) 44 b216) 68 z203) (upg g'217 71 on.toNatClampNeg r391) [] bc1 [] 0 [] := by rw [hix728]; exact RJ.lead hR388 (RJ.pjn hR388 (show on.toInt.toNat ∈ _ from by simp only [List.mem_cons, true_or, or_true]))
        refine am_e2 (v := 39) hi_249_32 rfl ?_
        refine am_e1 (v := tw) hi_249_33 rfl ?_
        refine am_e32n (as := [.ref 39, .int tw]) (la := [some (.ref 39), some (.int tw), none, none]) (rest := []) hi_249_34 (am_hd0 (M := 249) (by decide) 34) (Nat.le_of_ble_eq_true rfl) (Nat.le_of_ble_eq_true rfl) (show 2 ≤ am_P0.2.2.1 250 from by decide +kernel) rfl (am_recv_ok hS398.fs) rfl rfl (ct_mend (d := (d + 5)) hS398 hR399 rfl (by show (0 : Int) ≤ (f 32).toInt; omega) (by show (f 32).toInt ≤ (63 : Int); omega) (by show (f 53).toInt ≤ (4096 : Int); omega) (by show (0 : Int) ≤ z203.toInt; omega) (by show z203.toInt ≤ (65534 : Int); omega)) ?_
        rintro v400 S401 (⟨g'402, hv403, hS404, hR406, h405⟩)
        subst hv403
        have h405_ : ∀ j, j ∉ [71] → g'402 j = (upg g'217 71 on.toNatClampNeg r391) j := h405
        have hR406_ : RJ (upd (upd (upd (upd (upd (upd (upd f 6 a362) 7 b363) 10 0) 24 l214) 37 z215) 44 b216) 68 z203) g'402 [] bc1 [] 0 [] := hR406
        show am_E _ _ _ _ [some (.ref 39), some (.int on), some (.int tw), some (.int r231), none] [] _ _
        refine am_e18 hi_249_37 ?_
        refine am_e35 hi_249_148 ?_
        show am_E _ _ _ _ [some (.ref 39), some (.int 8), some (.int on), some (.int tw), some (.int th)] [] _ _
        refine am_e18 hi_180_201 ?_
        refine am_e35 hi_180_371 ?_
        have hRc := rj_clear0 hR406_
        refine ⟨_, _, [], _, rfl, hS404, Or.inr ⟨hRc, rfl, (by show 0 ≤ (f 4).toInt; omega), (by show (f 4).toInt ≤ (f 0).toInt; omega), (by show 0 ≤ (f 32).toInt; omega), (by show (f 32).toInt ≤ 63; omega), (by show 1 ≤ (f 53).toInt; omega), (by show (f 53).toInt ≤ 600; omega), (by show 0 ≤ z203.toInt; omega), (by show z203.toInt ≤ 60000; omega), (by show 0 ≤ (f 48).toInt; omega), (by show (f 48).toInt ≤ 8000; omega), (by show 0 ≤ z215.toInt; omega), (by show z215.toInt ≤ 128; omega), (by show 0 ≤ (f 62).toInt; omega), (by show (f 62).toInt ≤ 65000; omega), (by show 0 ≤ (f 19).toInt; omega), (by show (f 19).toInt ≤ 600; omega), (by show 0 ≤ a362.toInt; omega), (by show 0 ≤ (f 8).toInt; omega)⟩⟩
set_option maxHeartbeats 16000000 in
theorem st_9 {sc : Nat × (Nat → Int32)} {d : Nat} {S0 S : am_S} {f : Nat → Int32} {g : Nat → Nat → Int32} {on : Int32} {tw : Int32} {th : Int32} {gs : List mg_E} {bc : List (List Nat)} {fl : List Nat} (hS : MS S0 S f g) (hR : RJ f g gs bc fl on.toInt []) (hrest : mg_good (g 34) (g 38) (g 23) gs ((f 15).toInt + 0) ((f 20).toInt) ((f 37).toInt + -1) ((f 32).toInt + 0) ((f 5).toInt + -1)) (p0 : 0 ≤ (f 4).toInt) (p1 : (f 4).toInt ≤ (f 0).toInt) (p2 : (f 0).toInt ≤ 512) (p3 : 0 ≤ (f 24).toInt) (p4 : (f 24).toInt + (f 20).toInt + mg_p1 gs ≤ 4 * (f 4).toInt) (p5 : (f 20).toInt ≤ (f 4).toInt) (p6 : (f 15).toInt + 0 + mg_p2 gs ≤ (f 4).toInt) (p7 : 1 + mg_p3 gs ≤ 20 * (f 4).toInt + 20) (p8 : 0 ≤ (f 68).toInt) (p9 : (f 68).toInt + 3 * (f 20).toInt + 0 + mg_p4 gs ≤ 60 * (f 4).toInt + 60) (p10 : 0 ≤ (f 62).toInt) (p11 : (f 62).toInt + 64 * mj_n (g 16) (f 15).toNatClampNeg 3 ≤ 64 * (f 4).toInt) (p12 : 0 ≤ (f 44).toInt) (p13 : (f 44).toInt ≤ (f 4).toInt) (p14 : 0 ≤ (f 48).toInt) (p15 : (f 48).toInt ≤ (f 4).toInt) (p16 : 1 ≤ (f 53).toInt) (p17 : (f 53).toInt ≤ (f 4).toInt + 1) (p18 : 0 ≤ (f 19).toInt) (p19 : (f 19).toInt ≤ 600) (p20 : 0 ≤ (f 6).toInt) (p21 : 0 ≤ (f 8).toInt) (p22 : 0 ≤ mg_p1 gs) (p23 : 0 ≤ mg_p2 gs) (p24 : 0 ≤ mg_p4 gs) (p25 : 0 ≤ (f 10).toInt) (p26 : (f 10).toInt ≤ mg_p3 gs) (p27 : 0 ≤ mj_n (g 16) (f 15).toNatClampNeg 3) (p28 : 0 ≤ (f 15).toInt) (p29 : 0 ≤ (f 20).toInt) (p30 : 1 ≤ (f 37).toInt) (p31 : 0 ≤ (f 32).toInt) (p32 : (f 32).toInt ≤ (f 5).toInt) (p33 : (f 5).toInt ≤ 48) (p34 : (f 37).toInt ≤ 2 * (f 5).toInt + 0) : am_E (am_PP sc) (d + 8) 180 0 [some (.ref 39), some (.int 9), some (.int on), some (.int tw), some (.int th)] [] S (am_N fun v S1 => ∃ (f' : Nat → Int32) (g' : Nat → Nat → Int32) (gs' : List mg_E) (bc' : List (List Nat)), v = none ∧ MS S0 S1 f' g' ∧ (mg_on f (100 * ((f 0).toInt - (f 4).toInt) + (1 + mg_p3 gs)) f' g' gs' bc' ∨ mg_off f f' g' bc')) := by
  have hbs := mg_basic hrest
  obtain ⟨c0, bc1, rfl⟩ := RJ.bcons hR (by omega)
  refine am_e1 (v := 9) hi_180_0 rfl ?_
  refine am_e0 hi_180_1 ?_
  refine am_e13t hi_180_3 (by decide) ?_
  refine am_e1 (v := 9) hi_180_14 rfl ?_
  refine am_e19 (t := 204) hi_180_15 (by decide) ?_
  refine am_e2 (v := 39) hi_180_204 rfl ?_
  refine am_e32w (as := [.ref 39]) (la := [some (.ref 39)]) (rest := []) hi_180_205 (am_hd0 (M := 180) (by decide) 205) (Nat.le_of_ble_eq_true rfl) (Nat.le_of_ble_eq_true rfl) (show 1 ≤ am_P0.2.2.1 242 from by decide +kernel) rfl (am_recv_ok hS.fs) rfl rfl ?_
  refine am_e2 (v := 39) hi_242_0 rfl ?_
  refine am_e32w (as := [.ref 39]) (la := [some (.ref 39)]) (rest := []) hi_242_1 (am_hd0 (M := 242) (by decide) 1) (Nat.le_of_ble_eq_true rfl) (Nat.le_of_ble_eq_true rfl) (show 1 ≤ am_P0.2.2.1 243 from by decide +kernel) rfl (am_recv_ok hS.fs) rfl rfl ?_
  refine am_e2 (v := 39) hi_243_0 rfl ?_
  refine mm_20 (v := .int (f 24)) hS hi_243_1 rfl ?_
  refine am_e2 (v := 39) hi_243_4 rfl ?_
  refine mm_20 (v := .ref 62) hS hi_243_5 rfl ?_
  refine am_e2 (v := 39) hi_243_8 rfl ?_
  refine mm_20 (v := .int (f 37)) hS hi_243_9 rfl ?_
  refine am_e0 hi_243_12 ?_
  obtain ⟨z0, hz0, tz0⟩ := am_subI (x := f 37) (y := 1) (m := (f 37).toInt) (n := (1 : Int)) rfl (by decide) (by omega) (by omega)
  refine am_e10 (z := z0) hi_243_13 hz0 ?_
  refine mm_25 hS ma_38 hi_243_14 (by decide) (by omega) (by omega) ?_
  show am_E _ _ _ _ [some (.ref 39)] [.int (g 38 z0.toNatClampNeg), .int (f 24)] _ _
  have r1 : 0 ≤ (g 38 z0.toNatClampNeg).toInt ∧ (g 38 z0.toNatClampNeg).toInt ≤ (f 24).toInt := RJ.bl (i := z0) hR (by omega) (by show z0.toInt < (f 37).toInt; omega)
  by_cases c2 : (f 24).toInt ≤ (g 38 z0.toNatClampNeg).toInt
  · refine am_e13t hi_243_15 (am_cT (m := (f 24).toInt) (n := (g 38 z0.toNatClampNeg).toInt) rfl rfl c2) ?_
    refine am_e0 hi_243_22 ?_
    refine am_e36 hi_243_23 (by decide) ?_
    show am_E _ _ _ _ [some (.ref 39)] [.int 0] _ _
    refine am_e12t hi_242_4 (by decide) ?_
    refine am_e2 (v := 39) hi_242_20 rfl ?_
    refine am_e32n (as := [.ref 39]) (la := [some (.ref 39), none, none]) (rest := []) hi_242_21 (am_hd0 (M := 242) (by decide) 21) (Nat.le_of_ble_eq_true rfl) (Nat.le_of_ble_eq_true rfl) (show 1 ≤ am_P0.2.2.1 224 from by decide +kernel) rfl (am_recv_ok hS.fs) rfl rfl (ct_dropBlock2 (d := (d + 6)) hS hR  (by show (0 : Int) ≤ (f 32).toInt; omega) (by show (f 32).toInt ≤ (63 : Int); omega) (by show (0 : Int) ≤ (f 48).toInt; omega) (by show (f 48).toInt ≤ (8192 : Int); omega) (by show (f 4).toInt ≤ (8192 : Int); omega) (by show (1 : Int) ≤ (f 37).toInt; omega) (by show (f 37).toInt ≤ (128 : Int); omega)) ?_
    rintro v3 S4 (⟨l5, z6, b7, g'8, hv9, hS10, hR19, h11, h12, h13, h14, h15, h16, h17, h18⟩)
    subst hv9
    have h11_ : z6.toInt = (f 37).toInt - 1 := h11
    have h12_ : (0 : Int) ≤ l5.toInt := h12
    have h13_ : l5.toInt ≤ (f 24).toInt := h13
    have h14_ : (0 : Int) ≤ b7.toInt := h14
    have h15_ : b7.toInt ≤ (f 4).toInt := h15
    have h16_ : ∀ j, j ∉ [52] → g'8 j = g j := h16
    have h17_ : (fl : List Nat) = [] → RJ (upd (upd (upd f 24 l5) 37 z6) 44 b7) g'8 gs bc1 c0 (g'8 43 z6.toNatClampNeg).toInt [] := h17
    have h18_ : l5 = g 38 z6.toNatClampNeg := h18
    have hR19_ : RJ (upd (upd (upd f 24 l5) 37 z6) 44 b7) g'8 gs bc1 fl on.toInt [] := hR19
    show am_E _ _ _ _ [some (.ref 39)] [] _ _
    refine am_e35 hi_242_24 ?_
    show am_E _ _ _ _ [some (.ref 39), some (.int 9), some (.int on), some (.int tw), some (.int th)] [] _ _
    refine am_e2 (v := 39) hi_180_208 rfl ?_
    refine am_e1 (v := on) hi_180_209 rfl ?_
    refine am_e32n (as := [.ref 39, .int on]) (la := [some (.ref 39), some (.int on), none, none]) (rest := []) hi_180_210 (am_hd0 (M := 180) (by decide) 210) (Nat.le_of_ble_eq_true rfl) (Nat.le_of_ble_eq_true rfl) (show 2 ≤ am_P0.2.2.1 250 from by decide +kernel) rfl (am_recv_ok hS10.fs) rfl rfl (ct_mend (d := (d + 6)) hS10 hR19_ rfl (by show (0 : Int) ≤ (f 32).toInt; omega) (by show (f 32).toInt ≤ (63 : Int); omega) (by show (f 53).toInt ≤ (4096 : Int); omega) (by show (0 : Int) ≤ (f 68).toInt; omega) (by show (f 68).toInt ≤ (65534 : Int); omega)) ?_
    rintro v20 S21 (⟨g'22, hv23, hS24, hR26, h25⟩)
    subst hv23
    have h25_ : ∀ j, j ∉ [71] → g'22 j = g'8 j := h25
    have hR26_ : RJ (upd (upd (upd f 24 l5) 37 z6) 44 b7) g'22 gs bc1 [] 0 [] := hR26
    show am_E _ _ _ _ [some (.ref 39), some (.int 9), some (.int on), some (.int tw), some (.int th)] [] _ _
    refine am_e2 (v := 39) hi_180_213 rfl ?_
    refine am_e0 hi_180_214 ?_
    refine am_e32n (as := [.ref 39, .int 15]) (la := [some (.ref 39), some (.int 15)]) (rest := []) hi_180_216 (am_hd0 (M := 180) (by decide) 216) (Nat.le_of_ble_eq_true rfl) (Nat.le_of_ble_eq_true rfl) (show 2 ≤ am_P0.2.2.1 199 from by decide +kernel) rfl (am_recv_ok hS24.fs) rfl rfl (ct_leave (d := (d + 4)) hS24   (by show (0 : Int) ≤ (f 4).toInt; omega) (by show (f 0).toInt ≤ (16384 : Int); omega) (by show (0 : Int) ≤ (15 : Int); omega) (by show (0 : Int) ≤ (f 5).toInt; omega) (by show (f 5).toInt ≤ (48 : Int); omega) (by show (0 : Int) ≤ (f 6).toInt; omega)) ?_
    rintro v27 S28 (⟨z29, y30, hv31, hS32, h33, h34, h35⟩ | ⟨a37, b38, hv39, hS40, h41⟩)
    · subst hv31
      have h33_ : z29.toInt = (f 4).toInt + 1 := h33
      have h34_ : (f 4).toInt < (f 0).toInt := h34
      have h35_ : y30.toInt = (f 5).toInt - 1 := h35
      replace hS32 : MS S0 S28 (upd (upd (upd (upd (upd f 4 z29) 5 y30) 24 l5) 37 z6) 44 b7) g'22 := hS32
      have hR43 : RJ (upd (upd (upd (upd (upd f 4 z29) 5 y30) 24 l5) 37 z6) 44 b7) g'22 gs bc1 [] 0 [] := RJ.at hR26_ (by show (f 4).toInt ≤ z29.toInt; omega)
      show am_E _ _ _ _ [some (.ref 39), some (.int 9), some (.int on), some (.int tw), some (.int th)] [.int 1] _ _
      refine am_e6i hi_180_219 ?_
      refine am_e18 hi_180_220 ?_
      refine am_e35 hi_180_371 ?_
      have q1 : mg_p1 gs = mg_p1 gs := rfl
      have q2 : mg_p2 gs = mg_p2 gs := rfl
      have q3 : mg_p3 gs = mg_p3 gs := rfl
      have q4 : mg_p4 gs = mg_p4 gs := rfl
      refine ⟨_, _, _, bc1, rfl, hS32, Or.inl ⟨⟨hR43, ?_, ?_⟩, rfl, ?_⟩⟩
      · exact (mg_cast (mg_good_ext _ _ _ _ _ _ (fun i _ => by show g'22 34 i = g 34 i; rw [show g'22 34 = g'8 34 from h25_ 34 (by decide), show g'8 34 = g 34 from h16_ 34 (by decide)]) (fun i _ => by show g'22 38 i = g 38 i; rw [show g'22 38 = g'8 38 from h25_ 38 (by decide), show g'8 38 = g 38 from h16_ 38 (by decide)]) (fun i _ => by show g'22 23 i = g 23 i; rw [show g'22 23 = g'8 23 from h25_ 23 (by decide), show g'8 23 = g 23 from h16_ 23 (by decide)]) hrest) (by show (f 15).toInt + 0 = (f 15).toInt; omega) (by show (f 20).toInt = (f 20).toInt; omega) (by show (f 37).toInt + -1 = z6.toInt; omega) (by show (f 32).toInt + 0 = (f 32).toInt; omega) (by show (f 5).toInt + -1 = y30.toInt; omega) : mg_good (g'22 34) (g'22 38) (g'22 23) gs ((f 15).toInt) ((f 20).toInt) (z6.toInt) ((f 32).toInt) (y30.toInt))
      · exact ⟨(by show 0 ≤ z29.toInt; omega), (by show z29.toInt ≤ (f 0).toInt; omega), (by show (f 0).toInt ≤ 512; omega), (by show 0 ≤ l5.toInt; omega), (by show l5.toInt + (f 20).toInt + mg_p1 gs ≤ 4 * z29.toInt; omega), (by show (f 20).toInt ≤ z29.toInt; omega), (by show (f 15).toInt + mg_p2 gs ≤ z29.toInt; omega), (by show mg_p3 gs ≤ 20 * z29.toInt + 20; omega), (by show 0 ≤ (f 68).toInt; omega), (by show (f 68).toInt + 3 * (f 20).toInt + mg_p4 gs ≤ 60 * z29.toInt + 60; omega), (by show 0 ≤ (f 62).toInt; omega), (by show (f 62).toInt + 64 * mj_n (g'22 16) (f 15).toNatClampNeg 3 ≤ 64 * z29.toInt; rw [show g'22 16 = g'8 16 from h25_ 16 (by decide), show g'8 16 = g 16 from h16_ 16 (by decide)]; omega), (by show 0 ≤ b7.toInt; omega), (by show b7.toInt ≤ z29.toInt; omega), (by show 0 ≤ (f 48).toInt; omega), (by show (f 48).toInt ≤ z29.toInt; omega), (by show 1 ≤ (f 53).toInt; omega), (by show (f 53).toInt ≤ z29.toInt + 1; omega), (by show 0 ≤ (f 19).toInt; omega), (by show (f 19).toInt ≤ 600; omega), (by show 0 ≤ (f 6).toInt; omega), (by show 0 ≤ (f 8).toInt; omega)⟩
      · show 100 * ((f 0).toInt - z29.toInt) + mg_p3 gs < 100 * ((f 0).toInt - (f 4).toInt) + (1 + mg_p3 gs); omega
    · subst hv39
      have h41_ : (0 : Int) ≤ a37.toInt := h41
      replace hS40 : MS S0 S28 (upd (upd (upd (upd (upd (upd f 6 a37) 7 b38) 10 0) 24 l5) 37 z6) 44 b7) g'22 := hS40
      have hR44 := rj_clear0 hR26_
      have hR45 : RJ (upd (upd (upd (upd (upd (upd f 6 a37) 7 b38) 10 0) 24 l5) 37 z6) 44 b7) g'22 [] bc1 [] 0 [] := hR44
      show am_E _ _ _ _ [some (.ref 39), some (.int 9), some (.int on), some (.int tw), some (.int th)] [.int 0] _ _
      refine am_e6i hi_180_219 ?_
      refine am_e18 hi_180_220 ?_
      refine am_e35 hi_180_371 ?_
      have hRc := rj_clear0 hR45
      refine ⟨_, _, [], _, rfl, hS40, Or.inr ⟨hRc, rfl, (by show 0 ≤ (f 4).toInt; omega), (by show (f 4).toInt ≤ (f 0).toInt; omega), (by show 0 ≤ (f 32).toInt; omega), (by show (f 32).toInt ≤ 63; omega), (by show 1 ≤ (f 53).toInt; omega), (by show (f 53).toInt ≤ 600; omega), (by show 0 ≤ (f 68).toInt; omega), (by show (f 68).toInt ≤ 60000; omega), (by show 0 ≤ (f 48).toInt; omega), (by show (f 48).toInt ≤ 8000; omega), (by show 0 ≤ z6.toInt; omega), (by show z6.toInt ≤ 128; omega), (by show 0 ≤ (f 62).toInt; omega), (by show (f 62).toInt ≤ 65000; omega), (by show 0 ≤ (f 19).toInt; omega), (by show (f 19).toInt ≤ 600; omega), (by show 0 ≤ a37.toInt; omega), (by show 0 ≤ (f 8).toInt; omega)⟩⟩
  · refine am_e13f hi_243_15 (am_cF (m := (f 24).toInt) (n := (g 38 z0.toNatClampNeg).toInt) rfl rfl c2) ?_
    refine am_e0 hi_243_18 ?_
    refine am_e18 hi_243_19 ?_
    refine am_e36 hi_243_23 (by decide) ?_
    show am_E _ _ _ _ [some (.ref 39)] [.int 1] _ _
    refine am_e12f hi_242_4 (by decide) ?_
    refine am_e2 (v := 39) hi_242_7 rfl ?_
    refine am_e0 hi_242_8 ?_
    refine am_e2 (v := 39) hi_242_10 rfl ?_
    refine am_e32w (as := [.ref 39]) (la := [some (.ref 39)]) (rest := [.int 33, .ref 39]) hi_242_11 (am_hd0 (M := 242) (by decide) 11) (Nat.le_of_ble_eq_true rfl) (Nat.le_of_ble_eq_true rfl) (show 1 ≤ am_P0.2.2.1 232 from by decide +kernel) rfl (am_recv_ok hS.fs) rfl rfl ?_
    refine am_e2 (v := 39) hi_232_0 rfl ?_
    refine mm_20 (v := .ref 62) hS hi_232_1 rfl ?_
    refine am_e2 (v := 39) hi_232_4 rfl ?_
    refine mm_20 (v := .int (f 37)) hS hi_232_5 rfl ?_
    refine am_e0 hi_232_8 ?_
    refine am_e10 (z := z0) hi_232_9 hz0 ?_
    refine mm_25 hS ma_38 hi_232_10 (by decide) (by omega) (by omega) ?_
    show am_E _ _ _ _ [some (.ref 39)] [.int (g 38 z0.toNatClampNeg)] _ _
    have r46 : 0 ≤ (g 38 z0.toNatClampNeg).toInt ∧ (g 38 z0.toNatClampNeg).toInt ≤ (f 24).toInt := RJ.bl (i := z0) hR (by omega) (by show z0.toInt < (f 37).toInt; omega)
    refine am_e2 (v := 39) hi_232_11 rfl ?_
    refine mm_20 (v := .ref 59) hS hi_232_12 rfl ?_
    refine am_e2 (v := 39) hi_232_15 rfl ?_
    refine mm_20 (v := .int (f 32)) hS hi_232_16 rfl ?_
    refine mm_25 hS ma_34 hi_232_19 (by decide) (by omega) (by omega) ?_
    show am_E _ _ _ _ [some (.ref 39)] [.int (g 34 (f 32).toNatClampNeg), .int (g 38 z0.toNatClampNeg)] _ _
    have r47 : 0 ≤ (g 34 (f 32).toNatClampNeg).toInt := RJ.ba hR (f 32).toNatClampNeg
    obtain ⟨z48, hz48⟩ : ∃ q__, am_bin 1 (g 38 z0.toNatClampNeg) (g 34 (f 32).toNatClampNeg) = q__ := ⟨_, rfl⟩
    refine am_e10 (z := z48) hi_232_20 hz48 ?_
    refine am_e33 hi_232_21 ?_
    show am_E _ _ _ _ [some (.ref 39)] [.int z48, .int 33, .ref 39] _ _
    refine am_e0 hi_242_14 ?_
    refine am_e0 hi_242_15 ?_
    refine am_e32n (as := [.ref 39, .int 33, .int z48, .int 0, .int 0]) (la := [some (.ref 39), some (.int 33), some (.int z48), some (.int 0), some (.int 0)]) (rest := []) hi_242_16 (am_hd0 (M := 242) (by decide) 16) (Nat.le_of_ble_eq_true rfl) (Nat.le_of_ble_eq_true rfl) (show 5 ≤ am_P0.2.2.1 189 from by decide +kernel) rfl (am_recv_ok hS.fs) rfl rfl (ct_put (d := (d + 6)) hS hR  (by show (0 : Int) ≤ (f 32).toInt; omega) (by show (f 32).toInt ≤ (63 : Int); omega) (by show (f 53).toInt ≤ (4096 : Int); omega) (by show (0 : Int) ≤ (f 68).toInt; omega) (by show (f 68).toInt ≤ (65534 : Int); omega)) ?_
    rintro v49 S50 (⟨z51, r52, g'53, hv54, hS55, hR59, h56, h57, h58⟩)
    subst hv54
    have h56_ : z51.toInt = (f 68).toInt + 1 := h56
    have h57_ : r52.toInt = (f 68).toInt := h57
    have h58_ : ∀ j, j ∉ [60, 69, 70, 71, 72, 73] → g'53 j = g j := h58
    have hR59_ : RJ (upd f 68 z51) g'53 gs (c0 :: bc1) fl on.toInt ((f 68).toNatClampNeg :: []) := hR59
    show am_E _ _ _ _ [some (.ref 39)] [.int r52] _ _
    refine am_e6i hi_242_19 ?_
    refine am_e2 (v := 39) hi_242_20 rfl ?_
    refine am_e32n (as := [.ref 39]) (la := [some (.ref 39), none, none]) (rest := []) hi_242_21 (am_hd0 (M := 242) (by decide) 21) (Nat.le_of_ble_eq_true rfl) (Nat.le_of_ble_eq_true rfl) (show 1 ≤ am_P0.2.2.1 224 from by decide +kernel) rfl (am_recv_ok hS55.fs) rfl rfl (ct_dropBlock2 (d := (d + 6)) hS55 hR59_  (by show (0 : Int) ≤ (f 32).toInt; omega) (by show (f 32).toInt ≤ (63 : Int); omega) (by show (0 : Int) ≤ (f 48).toInt; omega) (by show (f 48).toInt ≤ (8192 : Int); omega) (by show (f 4).toInt ≤ (8192 : Int); omega) (by show (1 : Int) ≤ (f 37).toInt; omega) (by show (f 37).toInt ≤ (128 : Int); omega)) ?_
    rintro v60 S61 (⟨l62, z63, b64, g'65, hv66, hS67, hR76, h68, h69, h70, h71, h72, h73, h74, h75⟩)
    subst hv66
    have h68_ : z63.toInt = (f 37).toInt - 1 := h68
    have h69_ : (0 : Int) ≤ l62.toInt := h69
    have h70_ : l62.toInt ≤ (f 24).toInt := h70
    have h71_ : (0 : Int) ≤ b64.toInt := h71
    have h72_ : b64.toInt ≤ (f 4).toInt := h72
    have h73_ : ∀ j, j ∉ [52] → g'65 j = g'53 j := h73
    have h74_ : (fl : List Nat) = [] → RJ (upd (upd (upd (upd f 24 l62) 37 z63) 44 b64) 68 z51) g'65 gs bc1 c0 (g'65 43 z63.toNatClampNeg).toInt ((f 68).toNatClampNeg :: []) := h74
    have h75_ : l62 = g'53 38 z63.toNatClampNeg := h75
    replace hS67 : MS S0 S61 (upd (upd (upd (upd f 24 l62) 37 z63) 44 b64) 68 z51) g'65 := hS67
    have hR76_ : RJ (upd (upd (upd (upd f 24 l62) 37 z63) 44 b64) 68 z51) g'65 gs bc1 fl on.toInt ((f 68).toNatClampNeg :: []) := hR76
    show am_E _ _ _ _ [some (.ref 39)] [] _ _
    refine am_e35 hi_242_24 ?_
    show am_E _ _ _ _ [some (.ref 39), some (.int 9), some (.int on), some (.int tw), some (.int th)] [] _ _
    refine am_e2 (v := 39) hi_180_208 rfl ?_
    refine am_e1 (v := on) hi_180_209 rfl ?_
    refine am_e32n (as := [.ref 39, .int on]) (la := [some (.ref 39), some (.int on), none, none]) (rest := []) hi_180_210 (am_hd0 (M := 180) (by decide) 210) (Nat.le_of_ble_eq_true rfl) (Nat.le_of_ble_eq_true rfl) (show 2 ≤ am_P0.2.2.1 250 from by decide +kernel) rfl (am_recv_ok hS67.fs) rfl rfl (ct_mend (d := (d + 6)) hS67 hR76_ rfl (by show (0 : Int) ≤ (f 32).toInt; omega) (by show (f 32).toInt ≤ (63 : Int); omega) (by show (f 53).toInt ≤ (4096 : Int); omega) (by show (0 : Int) ≤ z51.toInt; omega) (by show z51.toInt ≤ (65534 : Int); omega)) ?_
    rintro v77 S78 (⟨g'79, hv80, hS81, hR83, h82⟩)
    subst hv80
    have h82_ : ∀ j, j ∉ [71] → g'79 j = g'65 j := h82
    have hR83_ : RJ (upd (upd (upd (upd f 24 l62) 37 z63) 44 b64) 68 z51) g'79 gs bc1 [] 0 ((f 68).toNatClampNeg :: []) := hR83
    show am_E _ _ _ _ [some (.ref 39), some (.int 9), some (.int on), some (.int tw), some (.int th)] [] _ _
    refine am_e2 (v := 39) hi_180_213 rfl ?_
    refine am_e0 hi_180_214 ?_
    refine am_e32n (as := [.ref 39, .int 15]) (la := [some (.ref 39), some (.int 15)]) (rest := []) hi_180_216 (am_hd0 (M := 180) (by decide) 216) (Nat.le_of_ble_eq_true rfl) (Nat.le_of_ble_eq_true rfl) (show 2 ≤ am_P0.2.2.1 199 from by decide +kernel) rfl (am_recv_ok hS81.fs) rfl rfl (ct_leave (d := (d + 4)) hS81   (by show (0 : Int) ≤ (f 4).toInt; omega) (by show (f 0).toInt ≤ (16384 : Int); omega) (by show (0 : Int) ≤ (15 : Int); omega) (by show (0 : Int) ≤ (f 5).toInt; omega) (by show (f 5).toInt ≤ (48 : Int); omega) (by show (0 : Int) ≤ (f 6).toInt; omega)) ?_
    rintro v84 S85 (⟨z86, y87, hv88, hS89, h90, h91, h92⟩ | ⟨a94, b95, hv96, hS97, h98⟩)
    · subst hv88
      have h90_ : z86.toInt = (f 4).toInt + 1 := h90
      have h91_ : (f 4).toInt < (f 0).toInt := h91
      have h92_ : y87.toInt = (f 5).toInt - 1 := h92
      replace hS89 : MS S0 S85 (upd (upd (upd (upd (upd (upd f 4 z86) 5 y87) 24 l62) 37 z63) 44 b64) 68 z51) g'79 := hS89
      have hR100 : RJ (upd (upd (upd (upd (upd (upd f 4 z86) 5 y87) 24 l62) 37 z63) 44 b64) 68 z51) g'79 gs bc1 [] 0 ((f 68).toNatClampNeg :: []) := RJ.at hR83_ (by show (f 4).toInt ≤ z86.toInt; omega)
      show am_E _ _ _ _ [some (.ref 39), some (.int 9), some (.int on), some (.int tw), some (.int th)] [.int 1] _ _
      refine am_e6i hi_180_219 ?_
      refine am_e18 hi_180_220 ?_
      refine am_e35 hi_180_371 ?_
      have q1 : mg_p1 gs = mg_p1 gs := rfl
      have q2 : mg_p2 gs = mg_p2 gs := rfl
      have q3 : mg_p3 gs = mg_p3 gs := rfl
      have q4 : mg_p4 gs = mg_p4 gs := rfl
      refine ⟨_, _, _, bc1, rfl, hS89, Or.inl ⟨⟨(RJ.fewer (pj' := []) hR100 (fun _ h => nomatch h)), ?_, ?_⟩, rfl, ?_⟩⟩
      · exact (mg_cast (mg_good_ext _ _ _ _ _ _ (fun i _ => by show g'79 34 i = g 34 i; rw [show g'79 34 = g'65 34 from h82_ 34 (by decide), show g'65 34 = g'53 34 from h73_ 34 (by decide), show g'53 34 = g 34 from h58_ 34 (by decide)]) (fun i _ => by show g'79 38 i = g 38 i; rw [show g'79 38 = g'65 38 from h82_ 38 (by decide), show g'65 38 = g'53 38 from h73_ 38 (by decide), show g'53 38 = g 38 from h58_ 38 (by decide)]) (fun i _ => by show g'79 23 i = g 23 i; rw [show g'79 23 = g'65 23 from h82_ 23 (by decide), show g'65 23 = g'53 23 from h73_ 23 (by decide), show g'53 23 = g 23 from h58_ 23 (by decide)]) hrest) (by show (f 15).toInt + 0 = (f 15).toInt; omega) (by show (f 20).toInt = (f 20).toInt; omega) (by show (f 37).toInt + -1 = z63.toInt; omega) (by show (f 32).toInt + 0 = (f 32).toInt; omega) (by show (f 5).toInt + -1 = y87.toInt; omega) : mg_good (g'79 34) (g'79 38) (g'79 23) gs ((f 15).toInt) ((f 20).toInt) (z63.toInt) ((f 32).toInt) (y87.toInt))
      · exact ⟨(by show 0 ≤ z86.toInt; omega), (by show z86.toInt ≤ (f 0).toInt; omega), (by show (f 0).toInt ≤ 512; omega), (by show 0 ≤ l62.toInt; omega), (by show l62.toInt + (f 20).toInt + mg_p1 gs ≤ 4 * z86.toInt; omega), (by show (f 20).toInt ≤ z86.toInt; omega), (by show (f 15).toInt + mg_p2 gs ≤ z86.toInt; omega), (by show mg_p3 gs ≤ 20 * z86.toInt + 20; omega), (by show 0 ≤ z51.toInt; omega), (by show z51.toInt + 3 * (f 20).toInt + mg_p4 gs ≤ 60 * z86.toInt + 60; omega), (by show 0 ≤ (f 62).toInt; omega), (by show (f 62).toInt + 64 * mj_n (g'79 16) (f 15).toNatClampNeg 3 ≤ 64 * z86.toInt; rw [show g'79 16 = g'65 16 from h82_ 16 (by decide), show g'65 16 = g'53 16 from h73_ 16 (by decide), show g'53 16 = g 16 from h58_ 16 (by decide)]; omega), (by show 0 ≤ b64.toInt; omega), (by show b64.toInt ≤ z86.toInt; omega), (by show 0 ≤ (f 48).toInt; omega), (by show (f 48).toInt ≤ z86.toInt; omega), (by show 1 ≤ (f 53).toInt; omega), (by show (f 53).toInt ≤ z86.toInt + 1; omega), (by show 0 ≤ (f 19).toInt; omega), (by show (f 19).toInt ≤ 600; omega), (by show 0 ≤ (f 6).toInt; omega), (by show 0 ≤ (f 8).toInt; omega)⟩
      · show 100 * ((f 0).toInt - z86.toInt) + mg_p3 gs < 100 * ((f 0).toInt - (f 4).toInt) + (1 + mg_p3 gs); omega
    · subst hv96
      have h98_ : (0 : Int) ≤ a94.toInt := h98
      replace hS97 : MS S0 S85 (upd (upd (upd (upd (upd (upd (upd f 6 a94) 7 b95) 10 0) 24 l62) 37 z63) 44 b64) 68 z51) g'79 := hS97
      have hR101 := rj_clear0 hR83_
      have hR102 : RJ (upd (upd (upd (upd (upd (upd (upd f 6 a94) 7 b95) 10 0) 24 l62) 37 z63) 44 b64) 68 z51) g'79 [] bc1 [] 0 [] := hR101
      show am_E _ _ _ _ [some (.ref 39), some (.int 9), some (.int on), some (.int tw), some (.int th)] [.int 0] _ _
      refine am_e6i hi_180_219 ?_
      refine am_e18 hi_180_220 ?_
      refine am_e35 hi_180_371 ?_
      have hRc := rj_clear0 hR102
      refine ⟨_, _, [], _, rfl, hS97, Or.inr ⟨hRc, rfl, (by show 0 ≤ (f 4).toInt; omega), (by show (f 4).toInt ≤ (f 0).toInt; omega), (by show 0 ≤ (f 32).toInt; omega), (by show (f 32).toInt ≤ 63; omega), (by show 1 ≤ (f 53).toInt; omega), (by show (f 53).toInt ≤ 600; omega), (by show 0 ≤ z51.toInt; omega), (by show z51.toInt ≤ 60000; omega), (by show 0 ≤ (f 48).toInt; omega), (by show (f 48).toInt ≤ 8000; omega), (by show 0 ≤ z63.toInt; omega), (by show z63.toInt ≤ 128; omega), (by show 0 ≤ (f 62).toInt; omega), (by show (f 62).toInt ≤ 65000; omega), (by show 0 ≤ (f 19).toInt; omega), (by show (f 19).toInt ≤ 600; omega), (by show 0 ≤ a94.toInt; omega), (by show 0 ≤ (f 8).toInt; omega)⟩⟩
