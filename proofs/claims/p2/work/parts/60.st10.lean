/-! STEPS: parts closed (printed by wip/p2/st2.py) -/
set_option maxHeartbeats 16000000 in
theorem st_8 {sc : Nat × (Nat → Int32)} {d : Nat} {S0 S : am_S} {f : Nat → Int32} {g : Nat → Nat → Int32} {on : Int32} {tw : Int32} {th : Int32} {gs : List mg_E} {bc : List (List Nat)} {fl : List Nat} (hS : MS S0 S f g) (hR : RJ f g gs bc fl tw.toInt [on.toInt.toNat]) (hrest : mg_good (g 34) (g 38) (g 23) gs ((f 15).toInt + 0) ((f 20).toInt) ((f 37).toInt + -1) ((f 32).toInt + 0) ((f 5).toInt + -1)) (p0 : 0 ≤ (f 4).toInt) (p1 : (f 4).toInt ≤ (f 0).toInt) (p2 : (f 0).toInt ≤ 512) (p3 : 0 ≤ (f 24).toInt) (p4 : (f 24).toInt + (f 20).toInt + mg_p1 gs ≤ 4 * (f 4).toInt) (p5 : (f 20).toInt ≤ (f 4).toInt) (p6 : (f 15).toInt + 0 + mg_p2 gs ≤ (f 4).toInt) (p7 : 1 + mg_p3 gs ≤ 20 * (f 4).toInt + 20) (p8 : 0 ≤ (f 68).toInt) (p9 : (f 68).toInt + 3 * (f 20).toInt + 0 + mg_p4 gs ≤ 60 * (f 4).toInt + 60) (p10 : 0 ≤ (f 62).toInt) (p11 : (f 62).toInt + 64 * mj_n (g 16) (f 15).toNatClampNeg 3 ≤ 64 * (f 4).toInt) (p12 : 0 ≤ (f 44).toInt) (p13 : (f 44).toInt ≤ (f 4).toInt) (p14 : 0 ≤ (f 48).toInt) (p15 : (f 48).toInt ≤ (f 4).toInt) (p16 : 1 ≤ (f 53).toInt) (p17 : (f 53).toInt ≤ (f 4).toInt + 1) (p18 : 0 ≤ (f 19).toInt) (p19 : (f 19).toInt ≤ 600) (p20 : 0 ≤ mg_p1 gs) (p21 : 0 ≤ mg_p2 gs) (p22 : 0 ≤ mg_p4 gs) (p23 : 0 ≤ (f 10).toInt) (p24 : (f 10).toInt ≤ mg_p3 gs) (p25 : 0 ≤ mj_n (g 16) (f 15).toNatClampNeg 3) (p26 : 0 ≤ (f 15).toInt) (p27 : 0 ≤ (f 20).toInt) (p28 : 1 ≤ (f 37).toInt) (p29 : 0 ≤ (f 32).toInt) (p30 : (f 32).toInt ≤ (f 5).toInt) (p31 : (f 5).toInt ≤ 48) (p32 : (f 37).toInt ≤ 2 * (f 5).toInt + 0) (p33 : 0 ≤ on.toInt) (p34 : on.toInt < (f 68).toInt) : am_E (am_PP sc) (d + 8) 180 0 [some (.ref 39), some (.int 8), some (.int on), some (.int tw), some (.int th)] [] S (am_N fun v S1 => ∃ (f' : Nat → Int32) (g' : Nat → Nat → Int32) (gs' : List mg_E) (bc' : List (List Nat)), v = none ∧ MS S0 S1 f' g' ∧ (mg_on f (100 * ((f 0).toInt - (f 4).toInt) + (1 + mg_p3 gs)) f' g' gs' bc' ∨ mg_off f f' g' bc')) := by
  have hbs := mg_basic hrest
  obtain ⟨c0, bc1, rfl⟩ := RJ.bcons hR (by omega)
  refine am_e1 (v := 8) hi_180_0 rfl ?_
  refine am_e0 hi_180_1 ?_
  refine am_e13t hi_180_3 (by decide) ?_
  refine am_e1 (v := 8) hi_180_14 rfl ?_
  refine am_e19 (t := 195) hi_180_15 (by decide) ?_
  refine am_e2 (v := 39) hi_180_195 rfl ?_
  refine am_e1 (v := on) hi_180_196 rfl ?_
  refine am_e1 (v := tw) hi_180_197 rfl ?_
  refine am_e32w (as := [.ref 39, .int on, .int tw]) (la := [some (.ref 39), some (.int on), some (.int tw), none, none]) (rest := []) hi_180_198 (am_hd0 (M := 180) (by decide) 198) (Nat.le_of_ble_eq_true rfl) (Nat.le_of_ble_eq_true rfl) (show 3 ≤ am_P0.2.2.1 249 from by decide +kernel) rfl (am_recv_ok hS.fs) rfl rfl ?_
  refine am_e2 (v := 39) hi_249_0 rfl ?_
  refine am_e32w (as := [.ref 39]) (la := [some (.ref 39)]) (rest := []) hi_249_1 (am_hd0 (M := 249) (by decide) 1) (Nat.le_of_ble_eq_true rfl) (Nat.le_of_ble_eq_true rfl) (show 1 ≤ am_P0.2.2.1 242 from by decide +kernel) rfl (am_recv_ok hS.fs) rfl rfl ?_
  refine am_e2 (v := 39) hi_242_0 rfl ?_
  refine am_e32w (as := [.ref 39]) (la := [some (.ref 39)]) (rest := []) hi_242_1 (am_hd0 (M := 242) (by decide) 1) (Nat.le_of_ble_eq_true rfl) (Nat.le_of_ble_eq_true rfl) (show 1 ≤ am_P0.2.2.1 243 from by decide +kernel) rfl (am_recv_ok hS.fs) rfl rfl ?_
  refine am_e2 (v := 39) hi_243_0 rfl ?_
  refine mm_20 (v := .int (f 24)) hS hi_243_1 rfl ?_
  refine am_e2 (v := 39) hi_243_4 rfl ?_
  refine mm_20 (v := .ref 62) hS hi_243_5 rfl ?_
  refine am_e2 (v := 39) hi_243_8 rfl ?_
  refine mm_20 (v := .int (f 37)) hS hi_243_9 rfl ?_
  refine am_e0 hi_243_12 ?_
  obtain ⟨z0, hz0, tz0⟩ := am_subI (x := f 37) (y := 1) (m := (f 37).toInt) (n := (1 : Int)) rfl (by decide) (by omega) (by omega)
  refine am_e10 (z := z0) hi_243_13 hz0 ?_
  refine mm_25 hS ma_38 hi_243_14 (by decide) (by omega) (by omega) ?_
  show am_E _ _ _ _ [some (.ref 39)] [.int (g 38 z0.toNatClampNeg), .int (f 24)] _ _
  have r1 : 0 ≤ (g 38 z0.toNatClampNeg).toInt ∧ (g 38 z0.toNatClampNeg).toInt ≤ (f 24).toInt := RJ.bl (i := z0) hR (by omega) (by show z0.toInt < (f 37).toInt; omega)
  by_cases c2 : (f 24).toInt ≤ (g 38 z0.toNatClampNeg).toInt
  · refine am_e13t hi_243_15 (am_cT (m := (f 24).toInt) (n := (g 38 z0.toNatClampNeg).toInt) rfl rfl c2) ?_
    refine am_e0 hi_243_22 ?_
    refine am_e36 hi_243_23 (by decide) ?_
    show am_E _ _ _ _ [some (.ref 39)] [.int 0] _ _
    refine am_e12t hi_242_4 (by decide) ?_
    refine am_e2 (v := 39) hi_242_20 rfl ?_
    refine am_e32n (as := [.ref 39]) (la := [some (.ref 39), none, none]) (rest := []) hi_242_21 (am_hd0 (M := 242) (by decide) 21) (Nat.le_of_ble_eq_true rfl) (Nat.le_of_ble_eq_true rfl) (show 1 ≤ am_P0.2.2.1 224 from by decide +kernel) rfl (am_recv_ok hS.fs) rfl rfl (ct_dropBlock2 (d := (d + 5)) hS hR  (by show (0 : Int) ≤ (f 32).toInt; omega) (by show (f 32).toInt ≤ (63 : Int); omega) (by show (0 : Int) ≤ (f 48).toInt; omega) (by show (f 48).toInt ≤ (8192 : Int); omega) (by show (f 4).toInt ≤ (8192 : Int); omega) (by show (1 : Int) ≤ (f 37).toInt; omega) (by show (f 37).toInt ≤ (128 : Int); omega)) ?_
    rintro v3 S4 (⟨l5, z6, b7, g'8, hv9, hS10, hR19, h11, h12, h13, h14, h15, h16, h17, h18⟩)
    subst hv9
    have h11_ : z6.toInt = (f 37).toInt - 1 := h11
    have h12_ : (0 : Int) ≤ l5.toInt := h12
    have h13_ : l5.toInt ≤ (f 24).toInt := h13
    have h14_ : (0 : Int) ≤ b7.toInt := h14
    have h15_ : b7.toInt ≤ (f 4).toInt := h15
    have h16_ : ∀ j, j ∉ [52] → g'8 j = g j := h16
    have h17_ : (fl : List Nat) = [] → RJ (upd (upd (upd f 24 l5) 37 z6) 44 b7) g'8 gs bc1 c0 (g'8 43 z6.toNatClampNeg).toInt [on.toInt.toNat] := h17
    have h18_ : l5 = g 38 z6.toNatClampNeg := h18
    have hR19_ : RJ (upd (upd (upd f 24 l5) 37 z6) 44 b7) g'8 gs bc1 fl tw.toInt [on.toInt.toNat] := hR19
    show am_E _ _ _ _ [some (.ref 39)] [] _ _
    refine am_e35 hi_242_24 ?_
    show am_E _ _ _ _ [some (.ref 39), some (.int on), some (.int tw), none, none] [] _ _
    refine am_e2 (v := 39) hi_249_4 rfl ?_
    refine am_e32n (as := [.ref 39]) (la := [some (.ref 39)]) (rest := []) hi_249_5 (am_hd0 (M := 249) (by decide) 5) (Nat.le_of_ble_eq_true rfl) (Nat.le_of_ble_eq_true rfl) (show 1 ≤ am_P0.2.2.1 183 from by decide +kernel) rfl (am_recv_ok hS10.fs) rfl rfl (ct_next (d := (d + 5)) hS10   (by show (0 : Int) ≤ (f 4).toInt; omega) (by show (f 0).toInt ≤ (16384 : Int); omega)) ?_
    rintro v20 S21 (⟨r22, hv23, hS24, h25⟩)
    subst hv23
    have h25_ : (f 4).toInt < (f 0).toInt ∨ r22.toInt = (-1 : Int) := h25
    show am_E _ _ _ _ [some (.ref 39), some (.int on), some (.int tw), none, none] [.int r22] _ _
    refine am_e3 (ls' := [some (.ref 39), some (.int on), some (.int tw), some (.int r22), none]) hi_249_8 (Nat.le_of_ble_eq_true rfl) rfl ?_
    refine am_e1 (v := r22) hi_249_9 rfl ?_
    refine am_e0 hi_249_10 ?_
    by_cases c27 : ¬ r22.toInt = (15 : Int)
    · refine am_e13t hi_249_12 (am_cT (m := r22.toInt) (n := (15 : Int)) rfl (by decide) c27) ?_
      refine am_e1 (v := r22) hi_249_40 rfl ?_
      refine am_e0 hi_249_41 ?_
      by_cases c28 : r22.toInt = (14 : Int)
      · refine am_e13t hi_249_43 (am_cT (m := r22.toInt) (n := (14 : Int)) rfl (by decide) c28) ?_
        refine am_e2 (v := 39) hi_249_52 rfl ?_
        refine am_e0 hi_249_53 ?_
        refine am_e1 (v := tw) hi_249_55 rfl ?_
        refine am_e0 hi_249_56 ?_
        refine am_e0 hi_249_57 ?_
        refine am_e32n (as := [.ref 39, .int 36, .int tw, .int 0, .int 0]) (la := [some (.ref 39), some (.int 36), some (.int tw), some (.int 0), some (.int 0)]) (rest := []) hi_249_58 (am_hd0 (M := 249) (by decide) 58) (Nat.le_of_ble_eq_true rfl) (Nat.le_of_ble_eq_true rfl) (show 5 ≤ am_P0.2.2.1 189 from by decide +kernel) rfl (am_recv_ok hS24.fs) rfl rfl (ct_putc (d := (d + 6)) hS24 hR19_ rfl (by show (0 : Int) ≤ (f 32).toInt; omega) (by show (f 32).toInt ≤ (63 : Int); omega) (by show (f 53).toInt ≤ (4096 : Int); omega) (by show (0 : Int) ≤ (f 68).toInt; omega) (by show (f 68).toInt ≤ (65534 : Int); omega)) ?_
        rintro v29 S30 (⟨z31, r32, g'33, hv34, hS35, hR39, h36, h37, h38⟩)
        subst hv34
        have h36_ : z31.toInt = (f 68).toInt + 1 := h36
        have h37_ : r32.toInt = (f 68).toInt := h37
        have h38_ : ∀ j, j ∉ [60, 69, 70, 71, 72, 73] → g'33 j = g'8 j := h38
        have hR39_ : RJ (upd (upd (upd (upd f 24 l5) 37 z6) 44 b7) 68 z31) g'33 gs bc1 ((f 68).toNatClampNeg :: fl) ((f 68).toInt + 1) [on.toInt.toNat] := hR39
        show am_E _ _ _ _ [some (.ref 39), some (.int on), some (.int tw), some (.int r22), none] [.int r32] _ _
        refine am_e0 hi_249_61 ?_
        obtain ⟨z40, hz40, tz40⟩ := am_addI (x := r32) (y := 1) (m := r32.toInt) (n := (1 : Int)) rfl (by decide) (by omega) (by omega)
        refine am_e10 (z := z40) hi_249_62 hz40 ?_
        refine am_e3 (ls' := [some (.ref 39), some (.int on), some (.int tw), some (.int r22), some (.int z40)]) hi_249_63 (Nat.le_of_ble_eq_true rfl) rfl ?_
        refine am_e2 (v := 39) hi_249_65 rfl ?_
        refine mm_20 (v := .ref 90) hS35 hi_249_66 rfl ?_
        refine am_e1 (v := on) hi_249_69 rfl ?_
        refine am_e2 (v := 39) hi_249_70 rfl ?_
        refine am_e32n (as := [.ref 39]) (la := [some (.ref 39)]) (rest := [.int on, .ref 90]) hi_249_71 (am_hd0 (M := 249) (by decide) 71) (Nat.le_of_ble_eq_true rfl) (Nat.le_of_ble_eq_true rfl) (show 1 ≤ am_P0.2.2.1 210 from by decide +kernel) rfl (am_recv_ok hS35.fs) rfl rfl (ct_here (d := (d + 6)) hS35 hR39_  (by show (0 : Int) ≤ (f 32).toInt; omega) (by show (f 32).toInt ≤ (63 : Int); omega) (by show (f 53).toInt ≤ (4096 : Int); omega) (by show (0 : Int) ≤ z31.toInt; omega) (by show z31.toInt ≤ (65534 : Int); omega)) ?_
        rintro v41 S42 (⟨r43, hv44, hS45, h46, h47⟩)
        subst hv44
        have h46_ : (0 : Int) ≤ r43.toInt := h46
        have h47_ : r43.toInt ≤ z31.toInt := h47
        show am_E _ _ _ _ [some (.ref 39), some (.int on), some (.int tw), some (.int r22), some (.int z40)] [.int r43, .int on, .ref 90] _ _
        refine mm_26 hS45 ma_71 hi_249_74 (by decide) (by omega) (by omega) (fun h => nomatch h) ?_
        intro S49 hS50
        have hix93 : on.toNatClampNeg = on.toInt.toNat := by first | rfl | (rw [cl_toNat, cl_toNat]; omega)
        have hR51 : RJ (upd (upd (upd (upd f 24 l5) 37 z6) 44 b7) 68 z31) (upg g'33 71 on.toNatClampNeg r43) gs bc1 ((f 68).toNatClampNeg :: fl) ((f 68).toInt + 1) [on.toInt.toNat] := by rw [hix93]; exact RJ.lead hR39_ (RJ.pjn hR39_ (show on.toInt.toNat ∈ _ from by simp only [List.mem_cons, true_or, or_true]))
        refine am_e2 (v := 39) hi_249_75 rfl ?_
        refine am_e7 hi_249_76 ?_
        refine mm_20 (v := .int (f 4)) hS50 hi_249_77 rfl ?_
        refine am_e0 hi_249_80 ?_
        obtain ⟨z52, hz52, tz52⟩ := am_addI (x := f 4) (y := 1) (m := (f 4).toInt) (n := (1 : Int)) rfl (by decide) (by omega) (by omega)
        refine am_e10 (z := z52) hi_249_81 hz52 ?_
        refine mm_21 (v := z52) hS50 hi_249_82 rfl (Nat.le_of_ble_eq_true rfl) ms_4 ?_
        intro S53 hS54
        replace hS54 : MS S0 S53 (upd (upd (upd (upd (upd f 4 z52) 24 l5) 37 z6) 44 b7) 68 z31) (upg g'33 71 on.toNatClampNeg r43) := hS54
        have hR55 : RJ (upd (upd (upd (upd (upd f 4 z52) 24 l5) 37 z6) 44 b7) 68 z31) (upg g'33 71 on.toNatClampNeg r43) gs bc1 ((f 68).toNatClampNeg :: fl) ((f 68).toInt + 1) [on.toInt.toNat] := RJ.at hR51 (by show (f 4).toInt ≤ z52.toInt; omega)
        refine am_e1 (v := r22) hi_249_85 rfl ?_
        refine am_e0 hi_249_86 ?_
        refine am_e13f hi_249_88 (am_cF (m := r22.toInt) (n := (14 : Int)) rfl (by decide) (by simp only [am_cI]; omega)) ?_
        refine am_e2 (v := 39) hi_249_91 rfl ?_
        refine am_e7 hi_249_92 ?_
        refine mm_20 (v := .int (f 5)) hS54 hi_249_93 rfl ?_
        refine am_e0 hi_249_96 ?_
        obtain ⟨z56, hz56, tz56⟩ := am_subI (x := f 5) (y := 1) (m := (f 5).toInt) (n := (1 : Int)) rfl (by decide) (by omega) (by omega)
        refine am_e10 (z := z56) hi_249_97 hz56 ?_
        refine mm_21 (v := z56) hS54 hi_249_98 rfl (Nat.le_of_ble_eq_true rfl) ms_5 ?_
        intro S57 hS58
        replace hS58 : MS S0 S57 (upd (upd (upd (upd (upd (upd f 4 z52) 5 z56) 24 l5) 37 z6) 44 b7) 68 z31) (upg g'33 71 on.toNatClampNeg r43) := hS58
        refine am_e2 (v := 39) hi_249_101 rfl ?_
        refine am_e0 hi_249_102 ?_
        refine am_e1 (v := z40) hi_249_104 rfl ?_
        refine am_e0 hi_249_106 ?_
        refine am_e0 hi_249_107 ?_
        refine am_e32n (as := [.ref 39, .int 7, .int z40, .int 0, .int 0]) (la := [some (.ref 39), some (.int 7), some (.int z40), some (.int 0), some (.int 0)]) (rest := []) hi_249_108 (am_hd0 (M := 249) (by decide) 108) (Nat.le_of_ble_eq_true rfl) (Nat.le_of_ble_eq_true rfl) (show 5 ≤ am_P0.2.2.1 179 from by decide +kernel) rfl (am_recv_ok hS58.fs) rfl rfl (ct_pilec (d := (d + 6)) hS58 hR55 (mj_e_79c hR55 (by decide) (by show z40.toInt = ((f 68).toInt + 1); omega)) (by show (0 : Int) ≤ (f 10).toInt; omega) (by show (f 10).toInt ≤ (65535 : Int); omega)) ?_
        rintro v59 S60 (⟨z61, g'62, hv63, hS64, hR67, h65, h66⟩)
        subst hv63
        have h65_ : z61.toInt = (f 10).toInt + 1 := h65
        have h66_ : ∀ j, j ∉ [11, 12, 13, 14] → g'62 j = (upg g'33 71 on.toNatClampNeg r43) j := h66
        replace hS64 : MS S0 S60 (upd (upd (upd (upd (upd (upd (upd f 4 z52) 5 z56) 10 z61) 24 l5) 37 z6) 44 b7) 68 z31) g'62 := hS64
        have hR67_ : RJ (upd (upd (upd (upd (upd (upd (upd f 4 z52) 5 z56) 10 z61) 24 l5) 37 z6) 44 b7) 68 z31) g'62 (((7 : Int), z40.toInt, (0 : Int), (0 : Int), ((f 68).toNatClampNeg :: fl)) :: gs) bc1 [] 0 [on.toInt.toNat] := hR67
        show am_E _ _ _ _ [some (.ref 39), some (.int on), some (.int tw), some (.int r22), some (.int z40)] [] _ _
        refine am_e2 (v := 39) hi_249_111 rfl ?_
        refine am_e0 hi_249_112 ?_
        refine am_e32w (as := [.ref 39, .int 0]) (la := [some (.ref 39), some (.int 0)]) (rest := []) hi_249_113 (am_hd0 (M := 249) (by decide) 113) (Nat.le_of_ble_eq_true rfl) (Nat.le_of_ble_eq_true rfl) (show 2 ≤ am_P0.2.2.1 186 from by decide +kernel) rfl (am_recv_ok hS64.fs) rfl rfl ?_
        refine am_e2 (v := 39) hi_186_0 rfl ?_
        refine am_e0 hi_186_1 ?_
        refine am_e1 (v := 0) hi_186_3 rfl ?_
        refine am_e0 hi_186_4 ?_
        refine am_e0 hi_186_5 ?_
        refine am_e32n (as := [.ref 39, .int 23, .int 0, .int 0, .int 0]) (la := [some (.ref 39), some (.int 23), some (.int 0), some (.int 0), some (.int 0)]) (rest := []) hi_186_6 (am_hd0 (M := 186) (by decide) 6) (Nat.le_of_ble_eq_true rfl) (Nat.le_of_ble_eq_true rfl) (show 5 ≤ am_P0.2.2.1 179 from by decide +kernel) rfl (am_recv_ok hS64.fs) rfl rfl (ct_pile (d := (d + 5)) hS64 hR67_ (mj_e_plain (by decide)) (by show (0 : Int) ≤ z61.toInt; omega) (by show z61.toInt ≤ (65535 : Int); omega)) ?_
        rintro v68 S69 (⟨z70, g'71, hv72, hS73, hR76, h74, h75⟩)
        subst hv72
        have h74_ : z70.toInt = z61.toInt + 1 := h74
        have h75_ : ∀ j, j ∉ [11, 12, 13, 14] → g'71 j = g'62 j := h75
        replace hS73 : MS S0 S69 (upd (upd (upd (upd (upd (upd (upd f 4 z52) 5 z56) 10 z70) 24 l5) 37 z6) 44 b7) 68 z31) g'71 := hS73
        have hR76_ : RJ (upd (upd (upd (upd (upd (upd (upd f 4 z52) 5 z56) 10 z70) 24 l5) 37 z6) 44 b7) 68 z31) g'71 (((23 : Int), (0 : Int), (0 : Int), (0 : Int), []) :: (((7 : Int), z40.toInt, (0 : Int), (0 : Int), ((f 68).toNatClampNeg :: fl)) :: gs)) bc1 [] 0 [on.toInt.toNat] := hR76
        show am_E _ _ _ _ [some (.ref 39), some (.int 0)] [] _ _
        refine am_e35 hi_186_9 ?_
        show am_E _ _ _ _ [some (.ref 39), some (.int on), some (.int tw), some (.int r22), some (.int z40)] [] _ _
        refine am_e18 hi_249_116 ?_
        refine am_e18 hi_249_138 ?_
        refine am_e35 hi_249_148 ?_
        show am_E _ _ _ _ [some (.ref 39), some (.int 8), some (.int on), some (.int tw), some (.int th)] [] _ _
        refine am_e18 hi_180_201 ?_
        refine am_e35 hi_180_371 ?_
        have q1 : mg_p1 (((23 : Int), (0 : Int), (0 : Int), (0 : Int), []) :: (((7 : Int), z40.toInt, (0 : Int), (0 : Int), ((f 68).toNatClampNeg :: fl)) :: gs)) = 0 + (0 + (mg_p1 gs)) := rfl
        have q2 : mg_p2 (((23 : Int), (0 : Int), (0 : Int), (0 : Int), []) :: (((7 : Int), z40.toInt, (0 : Int), (0 : Int), ((f 68).toNatClampNeg :: fl)) :: gs)) = 0 + (0 + (mg_p2 gs)) := rfl
        have q3 : mg_p3 (((23 : Int), (0 : Int), (0 : Int), (0 : Int), []) :: (((7 : Int), z40.toInt, (0 : Int), (0 : Int), ((f 68).toNatClampNeg :: fl)) :: gs)) = 1 + (1 + (mg_p3 gs)) := rfl
        have q4 : mg_p4 (((23 : Int), (0 : Int), (0 : Int), (0 : Int), []) :: (((7 : Int), z40.toInt, (0 : Int), (0 : Int), ((f 68).toNatClampNeg :: fl)) :: gs)) = 0 + (0 + (mg_p4 gs)) := rfl
        refine ⟨_, _, _, bc1, rfl, hS73, Or.inl ⟨⟨(RJ.fewer (pj' := []) hR76_ (fun _ h => nomatch h)), ?_, ?_⟩, rfl, ?_⟩⟩
        · exact (⟨⟨(show mg_k 23 from by decide), (show (0 : Int) ≤ (f 15).toInt from by omega), (show 0 ≤ (f 20).toInt from by omega), (show 1 ≤ z6.toInt from by omega), (show 0 ≤ (f 32).toInt from by omega), (show (f 32).toInt ≤ z56.toInt from by omega), (show z56.toInt ≤ 48 from by omega), (show z6.toInt ≤ 2 * (z56.toInt) + 2 from by omega), (show 0 ≤ (0 : Int) from by omega)⟩, ⟨⟨(show mg_k 7 from by decide), (show (1 : Int) ≤ (f 15).toInt + 1 from by omega), (show 0 ≤ (f 20).toInt from by omega), (show 1 ≤ z6.toInt + 0 from by omega), (show 0 ≤ (f 32).toInt + 0 from by omega), (show (f 32).toInt + 0 ≤ z56.toInt + 0 from by omega), (show z56.toInt + 0 ≤ 48 from by omega), (show z6.toInt + 0 ≤ 2 * (z56.toInt + 0) + 1 from by omega), trivial⟩, mg_cast (mg_good_ext _ _ _ _ _ _ (fun i _ => by show g'71 34 i = g 34 i; rw [show g'71 34 = g'62 34 from h75_ 34 (by decide), show g'62 34 = g'33 34 from h66_ 34 (by decide), show g'33 34 = g'8 34 from h38_ 34 (by decide), show g'8 34 = g 34 from h16_ 34 (by decide)]) (fun i _ => by show g'71 38 i = g 38 i; rw [show g'71 38 = g'62 38 from h75_ 38 (by decide), show g'62 38 = g'33 38 from h66_ 38 (by decide), show g'33 38 = g'8 38 from h38_ 38 (by decide), show g'8 38 = g 38 from h16_ 38 (by decide)]) (fun i _ => by show g'71 23 i = g 23 i; rw [show g'71 23 = g'62 23 from h75_ 23 (by decide), show g'62 23 = g'33 23 from h66_ 23 (by decide), show g'33 23 = g'8 23 from h38_ 23 (by decide), show g'8 23 = g 23 from h16_ 23 (by decide)]) hrest) (by show (f 15).toInt + 0 = (f 15).toInt + 1 + -1; omega) (by show (f 20).toInt = (f 20).toInt; omega) (by show (f 37).toInt + -1 = z6.toInt + 0 + 0; omega) (by show (f 32).toInt + 0 = (f 32).toInt + 0 + 0; omega) (by show (f 5).toInt + -1 = z56.toInt + 0 + 0; omega)⟩⟩ : mg_good (g'71 34) (g'71 38) (g'71 23) (((23 : Int), (0 : Int), (0 : Int), (0 : Int), []) :: (((7 : Int), z40.toInt, (0 : Int), (0 : Int), ((f 68).toNatClampNeg :: fl)) :: gs)) ((f 15).toInt) ((f 20).toInt) (z6.toInt) ((f 32).toInt) (z56.toInt))
        · exact ⟨(by show 0 ≤ z52.toInt; omega), (by show z52.toInt ≤ (f 0).toInt; omega), (by show (f 0).toInt ≤ 512; omega), (by show 0 ≤ l5.toInt; omega), (by show l5.toInt + (f 20).toInt + mg_p1 (((23 : Int), (0 : Int), (0 : Int), (0 : Int), []) :: (((7 : Int), z40.toInt, (0 : Int), (0 : Int), ((f 68).toNatClampNeg :: fl)) :: gs)) ≤ 4 * z52.toInt; omega), (by show (f 20).toInt ≤ z52.toInt; omega), (by show (f 15).toInt + mg_p2 (((23 : Int), (0 : Int), (0 : Int), (0 : Int), []) :: (((7 : Int), z40.toInt, (0 : Int), (0 : Int), ((f 68).toNatClampNeg :: fl)) :: gs)) ≤ z52.toInt; omega), (by show mg_p3 (((23 : Int), (0 : Int), (0 : Int), (0 : Int), []) :: (((7 : Int), z40.toInt, (0 : Int), (0 : Int), ((f 68).toNatClampNeg :: fl)) :: gs)) ≤ 20 * z52.toInt + 20; omega), (by show 0 ≤ z31.toInt; omega), (by show z31.toInt + 3 * (f 20).toInt + mg_p4 (((23 : Int), (0 : Int), (0 : Int), (0 : Int), []) :: (((7 : Int), z40.toInt, (0 : Int), (0 : Int), ((f 68).toNatClampNeg :: fl)) :: gs)) ≤ 60 * z52.toInt + 60; omega), (by show 0 ≤ (f 62).toInt; omega), (by show (f 62).toInt + 64 * mj_n (g'71 16) (f 15).toNatClampNeg 3 ≤ 64 * z52.toInt; rw [show g'71 16 = g'62 16 from h75_ 16 (by decide), show g'62 16 = g'33 16 from h66_ 16 (by decide), show g'33 16 = g'8 16 from h38_ 16 (by decide), show g'8 16 = g 16 from h16_ 16 (by decide)]; omega), (by show 0 ≤ b7.toInt; omega), (by show b7.toInt ≤ z52.toInt; omega), (by show 0 ≤ (f 48).toInt; omega), (by show (f 48).toInt ≤ z52.toInt; omega), (by show 1 ≤ (f 53).toInt; omega), (by show (f 53).toInt ≤ z52.toInt + 1; omega), (by show 0 ≤ (f 19).toInt; omega), (by show (f 19).toInt ≤ 600; omega)⟩
        · show 100 * ((f 0).toInt - z52.toInt) + mg_p3 (((23 : Int), (0 : Int), (0 : Int), (0 : Int), []) :: (((7 : Int), z40.toInt, (0 : Int), (0 : Int), ((f 68).toNatClampNeg :: fl)) :: gs)) < 100 * ((f 0).toInt - (f 4).toInt) + (1 + mg_p3 gs); omega
      · refine am_e13f hi_249_43 (am_cF (m := r22.toInt) (n := (14 : Int)) rfl (by decide) c28) ?_
        refine am_e1 (v := r22) hi_249_46 rfl ?_
        refine am_e0 hi_249_47 ?_
        by_cases c77 : ¬ r22.toInt = (13 : Int)
        · refine am_e13t hi_249_49 (am_cT (m := r22.toInt) (n := (13 : Int)) rfl (by decide) c77) ?_
          refine am_e2 (v := 39) hi_249_141 rfl ?_
          refine am_e0 hi_249_142 ?_
          refine am_e32n (as := [.ref 39, .int 7]) (la := [some (.ref 39), some (.int 7)]) (rest := []) hi_249_144 (am_hd0 (M := 249) (by decide) 144) (Nat.le_of_ble_eq_true rfl) (Nat.le_of_ble_eq_true rfl) (show 2 ≤ am_P0.2.2.1 194 from by decide +kernel) rfl (am_recv_ok hS24.fs) rfl rfl (ct_fail (d := (d + 6)) hS24   ) ?_
          rintro v78 S79 (⟨a80, b81, hv82, hS83⟩)
          subst hv82
          replace hS83 : MS S0 S79 (upd (upd (upd (upd (upd (upd f 6 a80) 7 b81) 10 0) 24 l5) 37 z6) 44 b7) g'8 := hS83
          have hR85 := rj_clear0 hR19_
          have hR86 : RJ (upd (upd (upd (upd (upd (upd f 6 a80) 7 b81) 10 0) 24 l5) 37 z6) 44 b7) g'8 [] bc1 [] 0 [] := hR85
          show am_E _ _ _ _ [some (.ref 39), some (.int on), some (.int tw), some (.int r22), none] [.int 0] _ _
          refine am_e6i hi_249_147 ?_
          refine am_e35 hi_249_148 ?_
          show am_E _ _ _ _ [some (.ref 39), some (.int 8), some (.int on), some (.int tw), some (.int th)] [] _ _
          refine am_e18 hi_180_201 ?_
          refine am_e35 hi_180_371 ?_
          have hRc := rj_clear0 hR86
          refine ⟨_, _, [], _, rfl, hS83, Or.inr ⟨hRc, rfl, (by show 0 ≤ (f 4).toInt; omega), (by show (f 4).toInt ≤ (f 0).toInt; omega), (by show 0 ≤ (f 32).toInt; omega), (by show (f 32).toInt ≤ 63; omega), (by show 1 ≤ (f 53).toInt; omega), (by show (f 53).toInt ≤ 600; omega), (by show 0 ≤ (f 68).toInt; omega), (by show (f 68).toInt ≤ 60000; omega), (by show 0 ≤ (f 48).toInt; omega), (by show (f 48).toInt ≤ 8000; omega), (by show 0 ≤ z6.toInt; omega), (by show z6.toInt ≤ 128; omega), (by show 0 ≤ (f 62).toInt; omega), (by show (f 62).toInt ≤ 65000; omega), (by show 0 ≤ (f 19).toInt; omega), (by show (f 19).toInt ≤ 600; omega)⟩⟩
        · refine am_e13f hi_249_49 (am_cF (m := r22.toInt) (n := (13 : Int)) rfl (by decide) c77) ?_
          refine am_e2 (v := 39) hi_249_52 rfl ?_
          refine am_e0 hi_249_53 ?_
          refine am_e1 (v := tw) hi_249_55 rfl ?_
          refine am_e0 hi_249_56 ?_
          refine am_e0 hi_249_57 ?_
          refine am_e32n (as := [.ref 39, .int 36, .int tw, .int 0, .int 0]) (la := [some (.ref 39), some (.int 36), some (.int tw), some (.int 0), some (.int 0)]) (rest := []) hi_249_58 (am_hd0 (M := 249) (by decide) 58) (Nat.le_of_ble_eq_true rfl) (Nat.le_of_ble_eq_true rfl) (show 5 ≤ am_P0.2.2.1 189 from by decide +kernel) rfl (am_recv_ok hS24.fs) rfl rfl (ct_putc (d := (d + 6)) hS24 hR19_ rfl (by show (0 : Int) ≤ (f 32).toInt; omega) (by show (f 32).toInt ≤ (63 : Int); omega) (by show (f 53).toInt ≤ (4096 : Int); omega) (by show (0 : Int) ≤ (f 68).toInt; omega) (by show (f 68).toInt ≤ (65534 : Int); omega)) ?_
          rintro v87 S88 (⟨z89, r90, g'91, hv92, hS93, hR97, h94, h95, h96⟩)
          subst hv92
          have h94_ : z89.toInt = (f 68).toInt + 1 := h94
          have h95_ : r90.toInt = (f 68).toInt := h95
          have h96_ : ∀ j, j ∉ [60, 69, 70, 71, 72, 73] → g'91 j = g'8 j := h96
          have hR97_ : RJ (upd (upd (upd (upd f 24 l5) 37 z6) 44 b7) 68 z89) g'91 gs bc1 ((f 68).toNatClampNeg :: fl) ((f 68).toInt + 1) [on.toInt.toNat] := hR97
          show am_E _ _ _ _ [some (.ref 39), some (.int on), some (.int tw), some (.int r22), none] [.int r90] _ _
          refine am_e0 hi_249_61 ?_
          obtain ⟨z98, hz98, tz98⟩ := am_addI (x := r90) (y := 1) (m := r90.toInt) (n := (1 : Int)) rfl (by decide) (by omega) (by omega)
          refine am_e10 (z := z98) hi_249_62 hz98 ?_
          refine am_e3 (ls' := [some (.ref 39), some (.int on), some (.int tw), some (.int r22), some (.int z98)]) hi_249_63 (Nat.le_of_ble_eq_true rfl) rfl ?_
          refine am_e2 (v := 39) hi_249_65 rfl ?_
          refine mm_20 (v := .ref 90) hS93 hi_249_66 rfl ?_
          refine am_e1 (v := on) hi_249_69 rfl ?_
          refine am_e2 (v := 39) hi_249_70 rfl ?_
          refine am_e32n (as := [.ref 39]) (la := [some (.ref 39)]) (rest := [.int on, .ref 90]) hi_249_71 (am_hd0 (M := 249) (by decide) 71) (Nat.le_of_ble_eq_true rfl) (Nat.le_of_ble_eq_true rfl) (show 1 ≤ am_P0.2.2.1 210 from by decide +kernel) rfl (am_recv_ok hS93.fs) rfl rfl (ct_here (d := (d + 6)) hS93 hR97_  (by show (0 : Int) ≤ (f 32).toInt; omega) (by show (f 32).toInt ≤ (63 : Int); omega) (by show (f 53).toInt ≤ (4096 : Int); omega) (by show (0 : Int) ≤ z89.toInt; omega) (by show z89.toInt ≤ (65534 : Int); omega)) ?_
          rintro v99 S100 (⟨r101, hv102, hS103, h104, h105⟩)
          subst hv102
          have h104_ : (0 : Int) ≤ r101.toInt := h104
          have h105_ : r101.toInt ≤ z89.toInt := h105
          show am_E _ _ _ _ [some (.ref 39), some (.int on), some (.int tw), some (.int r22), some (.int z98)] [.int r101, .int on, .ref 90] _ _
          refine mm_26 hS103 ma_71 hi_249_74 (by decide) (by omega) (by omega) (fun h => nomatch h) ?_
          intro S107 hS108
          have hix213 : on.toNatClampNeg = on.toInt.toNat := by first | rfl | (rw [cl_toNat, cl_toNat]; omega)
          have hR109 : RJ (upd (upd (upd (upd f 24 l5) 37 z6) 44 b7) 68 z89) (upg g'91 71 on.toNatClampNeg r101) gs bc1 ((f 68).toNatClampNeg :: fl) ((f 68).toInt + 1) [on.toInt.toNat] := by rw [hix213]; exact RJ.lead hR97_ (RJ.pjn hR97_ (show on.toInt.toNat ∈ _ from by simp only [List.mem_cons, true_or, or_true]))
          refine am_e2 (v := 39) hi_249_75 rfl ?_
          refine am_e7 hi_249_76 ?_
          refine mm_20 (v := .int (f 4)) hS108 hi_249_77 rfl ?_
          refine am_e0 hi_249_80 ?_
          obtain ⟨z110, hz110, tz110⟩ := am_addI (x := f 4) (y := 1) (m := (f 4).toInt) (n := (1 : Int)) rfl (by decide) (by omega) (by omega)
          refine am_e10 (z := z110) hi_249_81 hz110 ?_
          refine mm_21 (v := z110) hS108 hi_249_82 rfl (Nat.le_of_ble_eq_true rfl) ms_4 ?_
          intro S111 hS112
          replace hS112 : MS S0 S111 (upd (upd (upd (upd (upd f 4 z110) 24 l5) 37 z6) 44 b7) 68 z89) (upg g'91 71 on.toNatClampNeg r101) := hS112
          have hR113 : RJ (upd (upd (upd (upd (upd f 4 z110) 24 l5) 37 z6) 44 b7) 68 z89) (upg g'91 71 on.toNatClampNeg r101) gs bc1 ((f 68).toNatClampNeg :: fl) ((f 68).toInt + 1) [on.toInt.toNat] := RJ.at hR109 (by show (f 4).toInt ≤ z110.toInt; omega)
          refine am_e1 (v := r22) hi_249_85 rfl ?_
          refine am_e0 hi_249_86 ?_
          refine am_e13t hi_249_88 (am_cT (m := r22.toInt) (n := (14 : Int)) rfl (by decide) (by simp only [am_cI]; omega)) ?_
          refine am_e2 (v := 39) hi_249_119 rfl ?_
          refine am_e0 hi_249_120 ?_
          refine am_e32n (as := [.ref 39, .int 0]) (la := [some (.ref 39), some (.int 0)]) (rest := []) hi_249_121 (am_hd0 (M := 249) (by decide) 121) (Nat.le_of_ble_eq_true rfl) (Nat.le_of_ble_eq_true rfl) (show 2 ≤ am_P0.2.2.1 177 from by decide +kernel) rfl (am_recv_ok hS112.fs) rfl rfl (ct_beginBlock2 (d := (d + 6)) hS112 hR113 (by decide)  (by show (0 : Int) ≤ z6.toInt; omega) (by show z6.toInt ≤ (127 : Int); omega) (by show (0 : Int) ≤ l5.toInt; omega) (by show (0 : Int) ≤ b7.toInt; omega) (by show b7.toInt ≤ z110.toInt; omega) (by show (0 : Int) ≤ (f 48).toInt; omega)) ?_
          rintro v114 S115 (⟨z116, g'117, hv118, hS119, hR123, h120, h121, h122⟩)
          subst hv118
          have h120_ : z116.toInt = z6.toInt + 1 := h120
          have h121_ : ∀ j, j ∉ [38, 39, 40, 41, 42, 43] → g'117 j = (upg g'91 71 on.toNatClampNeg r101) j := h121
          have h122_ : g'117 38 = upd ((upg g'91 71 on.toNatClampNeg r101) 38) z6.toNatClampNeg l5 := h122
          replace hS119 : MS S0 S115 (upd (upd (upd (upd (upd f 4 z110) 24 l5) 37 z116) 44 b7) 68 z89) g'117 := hS119
          have hR123_ : RJ (upd (upd (upd (upd (upd f 4 z110) 24 l5) 37 z116) 44 b7) 68 z89) g'117 gs ([] :: bc1) ((f 68).toNatClampNeg :: fl) ((f 68).toInt + 1) [on.toInt.toNat] := hR123
          show am_E _ _ _ _ [some (.ref 39), some (.int on), some (.int tw), some (.int r22), some (.int z98)] [] _ _
          refine am_e2 (v := 39) hi_249_124 rfl ?_
          refine am_e0 hi_249_125 ?_
          refine am_e1 (v := z98) hi_249_127 rfl ?_
          refine am_e0 hi_249_129 ?_
          refine am_e0 hi_249_130 ?_
          refine am_e32n (as := [.ref 39, .int 9, .int z98, .int 0, .int 0]) (la := [some (.ref 39), some (.int 9), some (.int z98), some (.int 0), some (.int 0)]) (rest := []) hi_249_131 (am_hd0 (M := 249) (by decide) 131) (Nat.le_of_ble_eq_true rfl) (Nat.le_of_ble_eq_true rfl) (show 5 ≤ am_P0.2.2.1 179 from by decide +kernel) rfl (am_recv_ok hS119.fs) rfl rfl (ct_pilec (d := (d + 6)) hS119 hR123_ (mj_e_79c hR123_ (by decide) (by show z98.toInt = ((f 68).toInt + 1); omega)) (by show (0 : Int) ≤ (f 10).toInt; omega) (by show (f 10).toInt ≤ (65535 : Int); omega)) ?_
          rintro v124 S125 (⟨z126, g'127, hv128, hS129, hR132, h130, h131⟩)
          subst hv128
          have h130_ : z126.toInt = (f 10).toInt + 1 := h130
          have h131_ : ∀ j, j ∉ [11, 12, 13, 14] → g'127 j = g'117 j := h131
          replace hS129 : MS S0 S125 (upd (upd (upd (upd (upd (upd f 4 z110) 10 z126) 24 l5) 37 z116) 44 b7) 68 z89) g'127 := hS129
          have hR132_ : RJ (upd (upd (upd (upd (upd (upd f 4 z110) 10 z126) 24 l5) 37 z116) 44 b7) 68 z89) g'127 (((9 : Int), z98.toInt, (0 : Int), (0 : Int), ((f 68).toNatClampNeg :: fl)) :: gs) ([] :: bc1) [] 0 [on.toInt.toNat] := hR132
          show am_E _ _ _ _ [some (.ref 39), some (.int on), some (.int tw), some (.int r22), some (.int z98)] [] _ _
          refine am_e2 (v := 39) hi_249_134 rfl ?_
          refine am_e32w (as := [.ref 39]) (la := [some (.ref 39)]) (rest := []) hi_249_135 (am_hd0 (M := 249) (by decide) 135) (Nat.le_of_ble_eq_true rfl) (Nat.le_of_ble_eq_true rfl) (show 1 ≤ am_P0.2.2.1 178 from by decide +kernel) rfl (am_recv_ok hS129.fs) rfl rfl ?_
          refine am_e2 (v := 39) hi_178_0 rfl ?_
          refine am_e0 hi_178_1 ?_
          refine am_e0 hi_178_2 ?_
          refine am_e0 hi_178_3 ?_
          refine am_e0 hi_178_4 ?_
          refine am_e32n (as := [.ref 39, .int 1, .int 0, .int 0, .int 0]) (la := [some (.ref 39), some (.int 1), some (.int 0), some (.int 0), some (.int 0)]) (rest := []) hi_178_5 (am_hd0 (M := 178) (by decide) 5) (Nat.le_of_ble_eq_true rfl) (Nat.le_of_ble_eq_true rfl) (show 5 ≤ am_P0.2.2.1 179 from by decide +kernel) rfl (am_recv_ok hS129.fs) rfl rfl (ct_pile (d := (d + 5)) hS129 hR132_ (mj_e_plain (by decide)) (by show (0 : Int) ≤ z126.toInt; omega) (by show z126.toInt ≤ (65535 : Int); omega)) ?_
          rintro v133 S134 (⟨z135, g'136, hv137, hS138, hR141, h139, h140⟩)
          subst hv137
          have h139_ : z135.toInt = z126.toInt + 1 := h139
          have h140_ : ∀ j, j ∉ [11, 12, 13, 14] → g'136 j = g'127 j := h140
          replace hS138 : MS S0 S134 (upd (upd (upd (upd (upd (upd f 4 z110) 10 z135) 24 l5) 37 z116) 44 b7) 68 z89) g'136 := hS138
          have hR141_ : RJ (upd (upd (upd (upd (upd (upd f 4 z110) 10 z135) 24 l5) 37 z116) 44 b7) 68 z89) g'136 (((1 : Int), (0 : Int), (0 : Int), (0 : Int), []) :: (((9 : Int), z98.toInt, (0 : Int), (0 : Int), ((f 68).toNatClampNeg :: fl)) :: gs)) ([] :: bc1) [] 0 [on.toInt.toNat] := hR141
          show am_E _ _ _ _ [some (.ref 39)] [] _ _
          refine am_e35 hi_178_8 ?_
          show am_E _ _ _ _ [some (.ref 39), some (.int on), some (.int tw), some (.int r22), some (.int z98)] [] _ _
          refine am_e18 hi_249_138 ?_
          refine am_e35 hi_249_148 ?_
          show am_E _ _ _ _ [some (.ref 39), some (.int 8), some (.int on), some (.int tw), some (.int th)] [] _ _
          refine am_e18 hi_180_201 ?_
          refine am_e35 hi_180_371 ?_
          have q1 : mg_p1 (((1 : Int), (0 : Int), (0 : Int), (0 : Int), []) :: (((9 : Int), z98.toInt, (0 : Int), (0 : Int), ((f 68).toNatClampNeg :: fl)) :: gs)) = 0 + (0 + (mg_p1 gs)) := rfl
          have q2 : mg_p2 (((1 : Int), (0 : Int), (0 : Int), (0 : Int), []) :: (((9 : Int), z98.toInt, (0 : Int), (0 : Int), ((f 68).toNatClampNeg :: fl)) :: gs)) = 0 + (0 + (mg_p2 gs)) := rfl
          have q3 : mg_p3 (((1 : Int), (0 : Int), (0 : Int), (0 : Int), []) :: (((9 : Int), z98.toInt, (0 : Int), (0 : Int), ((f 68).toNatClampNeg :: fl)) :: gs)) = 1 + (1 + (mg_p3 gs)) := rfl
          have q4 : mg_p4 (((1 : Int), (0 : Int), (0 : Int), (0 : Int), []) :: (((9 : Int), z98.toInt, (0 : Int), (0 : Int), ((f 68).toNatClampNeg :: fl)) :: gs)) = 0 + (0 + (mg_p4 gs)) := rfl
          refine ⟨_, _, _, ([] :: bc1), rfl, hS138, Or.inl ⟨⟨(RJ.fewer (pj' := []) hR141_ (fun _ h => nomatch h)), ?_, ?_⟩, rfl, ?_⟩⟩
          · exact (⟨⟨(show mg_k 1 from by decide), (show (0 : Int) ≤ (f 15).toInt from by omega), (show 0 ≤ (f 20).toInt from by omega), (show 1 ≤ z116.toInt from by omega), (show 0 ≤ (f 32).toInt from by omega), (show (f 32).toInt ≤ (f 5).toInt from by omega), (show (f 5).toInt ≤ 48 from by omega), (show z116.toInt ≤ 2 * ((f 5).toInt) + 1 from by omega), trivial⟩, ⟨⟨(show mg_k 9 from by decide), (show (0 : Int) ≤ (f 15).toInt + 0 from by omega), (show 0 ≤ (f 20).toInt from by omega), (show 1 ≤ z116.toInt + 0 from by omega), (show 0 ≤ (f 32).toInt + 0 from by omega), (show (f 32).toInt + 0 ≤ (f 5).toInt + 0 from by omega), (show (f 5).toInt + 0 ≤ 48 from by omega), (show z116.toInt + 0 ≤ 2 * ((f 5).toInt + 0) + 0 from by omega), trivial⟩, mg_cast (mg_good_ext _ _ _ _ _ _ (fun i _ => by show g'136 34 i = g 34 i; rw [show g'136 34 = g'127 34 from h140_ 34 (by decide), show g'127 34 = g'117 34 from h131_ 34 (by decide), show g'117 34 = g'91 34 from h121_ 34 (by decide), show g'91 34 = g'8 34 from h96_ 34 (by decide), show g'8 34 = g 34 from h16_ 34 (by decide)]) (fun i hi => by show g'136 38 i = g 38 i; rw [show g'136 38 = g'127 38 from h140_ 38 (by decide), show g'127 38 = g'117 38 from h131_ 38 (by decide), h122_, show (upg g'91 71 on.toNatClampNeg r101) 38 = g'91 38 from rfl, show g'91 38 = g'8 38 from h96_ 38 (by decide), show g'8 38 = g 38 from h16_ 38 (by decide)]; exact upd_ne (by rw [cl_toNat]; omega)) (fun i _ => by show g'136 23 i = g 23 i; rw [show g'136 23 = g'127 23 from h140_ 23 (by decide), show g'127 23 = g'117 23 from h131_ 23 (by decide), show g'117 23 = g'91 23 from h121_ 23 (by decide), show g'91 23 = g'8 23 from h96_ 23 (by decide), show g'8 23 = g 23 from h16_ 23 (by decide)]) hrest) (by show (f 15).toInt + 0 = (f 15).toInt + 0 + 0; omega) (by show (f 20).toInt = (f 20).toInt; omega) (by show (f 37).toInt + -1 = z116.toInt + 0 + -1; omega) (by show (f 32).toInt + 0 = (f 32).toInt + 0 + 0; omega) (by show (f 5).toInt + -1 = (f 5).toInt + 0 + -1; omega)⟩⟩ : mg_good (g'136 34) (g'136 38) (g'136 23) (((1 : Int), (0 : Int), (0 : Int), (0 : Int), []) :: (((9 : Int), z98.toInt, (0 : Int), (0 : Int), ((f 68).toNatClampNeg :: fl)) :: gs)) ((f 15).toInt) ((f 20).toInt) (z116.toInt) ((f 32).toInt) ((f 5).toInt))
          · exact ⟨(by show 0 ≤ z110.toInt; omega), (by show z110.toInt ≤ (f 0).toInt; omega), (by show (f 0).toInt ≤ 512; omega), (by show 0 ≤ l5.toInt; omega), (by show l5.toInt + (f 20).toInt + mg_p1 (((1 : Int), (0 : Int), (0 : Int), (0 : Int), []) :: (((9 : Int), z98.toInt, (0 : Int), (0 : Int), ((f 68).toNatClampNeg :: fl)) :: gs)) ≤ 4 * z110.toInt; omega), (by show (f 20).toInt ≤ z110.toInt; omega), (by show (f 15).toInt + mg_p2 (((1 : Int), (0 : Int), (0 : Int), (0 : Int), []) :: (((9 : Int), z98.toInt, (0 : Int), (0 : Int), ((f 68).toNatClampNeg :: fl)) :: gs)) ≤ z110.toInt; omega), (by show mg_p3 (((1 : Int), (0 : Int), (0 : Int), (0 : Int), []) :: (((9 : Int), z98.toInt, (0 : Int), (0 : Int), ((f 68).toNatClampNeg :: fl)) :: gs)) ≤ 20 * z110.toInt + 20; omega), (by show 0 ≤ z89.toInt; omega), (by show z89.toInt + 3 * (f 20).toInt + mg_p4 (((1 : Int), (0 : Int), (0 : Int), (0 : Int), []) :: (((9 : Int), z98.toInt, (0 : Int), (0 : Int), ((f 68).toNatClampNeg :: fl)) :: gs)) ≤ 60 * z110.toInt + 60; omega), (by show 0 ≤ (f 62).toInt; omega), (by show (f 62).toInt + 64 * mj_n (g'136 16) (f 15).toNatClampNeg 3 ≤ 64 * z110.toInt; rw [show g'136 16 = g'127 16 from h140_ 16 (by decide), show g'127 16 = g'117 16 from h131_ 16 (by decide), show g'117 16 = g'91 16 from h121_ 16 (by decide), show g'91 16 = g'8 16 from h96_ 16 (by decide), show g'8 16 = g 16 from h16_ 16 (by decide)]; omega), (by show 0 ≤ b7.toInt; omega), (by show b7.toInt ≤ z110.toInt; omega), (by show 0 ≤ (f 48).toInt; omega), (by show (f 48).toInt ≤ z110.toInt; omega), (by show 1 ≤ (f 53).toInt; omega), (by show (f 53).toInt ≤ z110.toInt + 1; omega), (by show 0 ≤ (f 19).toInt; omega), (by show (f 19).toInt ≤ 600; omega)⟩
          · show 100 * ((f 0).toInt - z110.toInt) + mg_p3 (((1 : Int), (0 : Int), (0 : Int), (0 : Int), []) :: (((9 : Int), z98.toInt, (0 : Int), (0 : Int), ((f 68).toNatClampNeg :: fl)) :: gs)) < 100 * ((f 0).toInt - (f 4).toInt) + (1 + mg_p3 gs); omega
    · refine am_e13f hi_249_12 (am_cF (m := r22.toInt) (n := (15 : Int)) rfl (by decide) c27) ?_
      refine am_e2 (v := 39) hi_249_15 rfl ?_
      refine am_e0 hi_249_16 ?_
      refine am_e32n (as := [.ref 39, .int 15]) (la := [some (.ref 39), some (.int 15)]) (rest := []) hi_249_18 (am_hd0 (M := 249) (by decide) 18) (Nat.le_of_ble_eq_true rfl) (Nat.le_of_ble_eq_true rfl) (show 2 ≤ am_P0.2.2.1 199 from by decide +kernel) rfl (am_recv_ok hS24.fs) rfl rfl (ct_leave (d := (d + 3)) hS24   (by show (0 : Int) ≤ (f 4).toInt; omega) (by show (f 0).toInt ≤ (16384 : Int); omega) (by show (0 : Int) ≤ (15 : Int); omega) (by show (0 : Int) ≤ (f 5).toInt; omega) (by show (f 5).toInt ≤ (48 : Int); omega)) ?_
      rintro v142 S143 (⟨z144, y145, hv146, hS147, h148, h149, h150⟩ | ⟨a152, b153, hv154, hS155⟩)
      · subst hv146
        have h148_ : z144.toInt = (f 4).toInt + 1 := h148
        have h149_ : (f 4).toInt < (f 0).toInt := h149
        have h150_ : y145.toInt = (f 5).toInt - 1 := h150
        replace hS147 : MS S0 S143 (upd (upd (upd (upd (upd f 4 z144) 5 y145) 24 l5) 37 z6) 44 b7) g'8 := hS147
        have hR157 : RJ (upd (upd (upd (upd (upd f 4 z144) 5 y145) 24 l5) 37 z6) 44 b7) g'8 gs bc1 fl tw.toInt [on.toInt.toNat] := RJ.at hR19_ (by show (f 4).toInt ≤ z144.toInt; omega)
        show am_E _ _ _ _ [some (.ref 39), some (.int on), some (.int tw), some (.int r22), none] [.int 1] _ _
        refine am_e6i hi_249_21 ?_
        refine am_e2 (v := 39) hi_249_22 rfl ?_
        refine mm_20 (v := .ref 90) hS147 hi_249_23 rfl ?_
        refine am_e1 (v := on) hi_249_26 rfl ?_
        refine am_e2 (v := 39) hi_249_27 rfl ?_
        refine am_e32n (as := [.ref 39]) (la := [some (.ref 39)]) (rest := [.int on, .ref 90]) hi_249_28 (am_hd0 (M := 249) (by decide) 28) (Nat.le_of_ble_eq_true rfl) (Nat.le_of_ble_eq_true rfl) (show 1 ≤ am_P0.2.2.1 210 from by decide +kernel) rfl (am_recv_ok hS147.fs) rfl rfl (ct_here (d := (d + 6)) hS147 hR157  (by show (0 : Int) ≤ (f 32).toInt; omega) (by show (f 32).toInt ≤ (63 : Int); omega) (by show (f 53).toInt ≤ (4096 : Int); omega) (by show (0 : Int) ≤ (f 68).toInt; omega) (by show (f 68).toInt ≤ (65534 : Int); omega)) ?_
        rintro v158 S159 (⟨r160, hv161, hS162, h163, h164⟩)
        subst hv161
        have h163_ : (0 : Int) ≤ r160.toInt := h163
        have h164_ : r160.toInt ≤ (f 68).toInt := h164
        show am_E _ _ _ _ [some (.ref 39), some (.int on), some (.int tw), some (.int r22), none] [.int r160, .int on, .ref 90] _ _
        refine mm_26 hS162 ma_71 hi_249_31 (by decide) (by omega) (by omega) (fun h => nomatch h) ?_
        intro S166 hS167
        have hix307 : on.toNatClampNeg = on.toInt.toNat := by first | rfl | (rw [cl_toNat, cl_toNat]; omega)
        have hR168 : RJ (upd (upd (upd (upd (upd f 4 z144) 5 y145) 24 l5) 37 z6) 44 b7) (upg g'8 71 on.toNatClampNeg r160) gs bc1 fl tw.toInt [on.toInt.toNat] := by rw [hix307]; exact RJ.lead hR157 (RJ.pjn hR157 (show on.toInt.toNat ∈ _ from by simp only [List.mem_cons, true_or, or_true]))
        refine am_e2 (v := 39) hi_249_32 rfl ?_
        refine am_e1 (v := tw) hi_249_33 rfl ?_
        refine am_e32n (as := [.ref 39, .int tw]) (la := [some (.ref 39), some (.int tw), none, none]) (rest := []) hi_249_34 (am_hd0 (M := 249) (by decide) 34) (Nat.le_of_ble_eq_true rfl) (Nat.le_of_ble_eq_true rfl) (show 2 ≤ am_P0.2.2.1 250 from by decide +kernel) rfl (am_recv_ok hS167.fs) rfl rfl (ct_mend (d := (d + 5)) hS167 hR168 rfl (by show (0 : Int) ≤ (f 32).toInt; omega) (by show (f 32).toInt ≤ (63 : Int); omega) (by show (f 53).toInt ≤ (4096 : Int); omega) (by show (0 : Int) ≤ (f 68).toInt; omega) (by show (f 68).toInt ≤ (65534 : Int); omega)) ?_
        rintro v169 S170 (⟨g'171, hv172, hS173, hR175, h174⟩)
        subst hv172
        have h174_ : ∀ j, j ∉ [71] → g'171 j = (upg g'8 71 on.toNatClampNeg r160) j := h174
        have hR175_ : RJ (upd (upd (upd (upd (upd f 4 z144) 5 y145) 24 l5) 37 z6) 44 b7) g'171 gs bc1 [] 0 [on.toInt.toNat] := hR175
        show am_E _ _ _ _ [some (.ref 39), some (.int on), some (.int tw), some (.int r22), none] [] _ _
        refine am_e18 hi_249_37 ?_
        refine am_e35 hi_249_148 ?_
        show am_E _ _ _ _ [some (.ref 39), some (.int 8), some (.int on), some (.int tw), some (.int th)] [] _ _
        refine am_e18 hi_180_201 ?_
        refine am_e35 hi_180_371 ?_
        have q1 : mg_p1 gs = mg_p1 gs := rfl
        have q2 : mg_p2 gs = mg_p2 gs := rfl
        have q3 : mg_p3 gs = mg_p3 gs := rfl
        have q4 : mg_p4 gs = mg_p4 gs := rfl
        refine ⟨_, _, _, bc1, rfl, hS173, Or.inl ⟨⟨(RJ.fewer (pj' := []) hR175_ (fun _ h => nomatch h)), ?_, ?_⟩, rfl, ?_⟩⟩
        · exact (mg_cast (mg_good_ext _ _ _ _ _ _ (fun i _ => by show g'171 34 i = g 34 i; rw [show g'171 34 = g'8 34 from h174_ 34 (by decide), show g'8 34 = g 34 from h16_ 34 (by decide)]) (fun i _ => by show g'171 38 i = g 38 i; rw [show g'171 38 = g'8 38 from h174_ 38 (by decide), show g'8 38 = g 38 from h16_ 38 (by decide)]) (fun i _ => by show g'171 23 i = g 23 i; rw [show g'171 23 = g'8 23 from h174_ 23 (by decide), show g'8 23 = g 23 from h16_ 23 (by decide)]) hrest) (by show (f 15).toInt + 0 = (f 15).toInt; omega) (by show (f 20).toInt = (f 20).toInt; omega) (by show (f 37).toInt + -1 = z6.toInt; omega) (by show (f 32).toInt + 0 = (f 32).toInt; omega) (by show (f 5).toInt + -1 = y145.toInt; omega) : mg_good (g'171 34) (g'171 38) (g'171 23) gs ((f 15).toInt) ((f 20).toInt) (z6.toInt) ((f 32).toInt) (y145.toInt))
        · exact ⟨(by show 0 ≤ z144.toInt; omega), (by show z144.toInt ≤ (f 0).toInt; omega), (by show (f 0).toInt ≤ 512; omega), (by show 0 ≤ l5.toInt; omega), (by show l5.toInt + (f 20).toInt + mg_p1 gs ≤ 4 * z144.toInt; omega), (by show (f 20).toInt ≤ z144.toInt; omega), (by show (f 15).toInt + mg_p2 gs ≤ z144.toInt; omega), (by show mg_p3 gs ≤ 20 * z144.toInt + 20; omega), (by show 0 ≤ (f 68).toInt; omega), (by show (f 68).toInt + 3 * (f 20).toInt + mg_p4 gs ≤ 60 * z144.toInt + 60; omega), (by show 0 ≤ (f 62).toInt; omega), (by show (f 62).toInt + 64 * mj_n (g'171 16) (f 15).toNatClampNeg 3 ≤ 64 * z144.toInt; rw [show g'171 16 = g'8 16 from h174_ 16 (by decide), show g'8 16 = g 16 from h16_ 16 (by decide)]; omega), (by show 0 ≤ b7.toInt; omega), (by show b7.toInt ≤ z144.toInt; omega), (by show 0 ≤ (f 48).toInt; omega), (by show (f 48).toInt ≤ z144.toInt; omega), (by show 1 ≤ (f 53).toInt; omega), (by show (f 53).toInt ≤ z144.toInt + 1; omega), (by show 0 ≤ (f 19).toInt; omega), (by show (f 19).toInt ≤ 600; omega)⟩
        · show 100 * ((f 0).toInt - z144.toInt) + mg_p3 gs < 100 * ((f 0).toInt - (f 4).toInt) + (1 + mg_p3 gs); omega
      · subst hv154
        replace hS155 : MS S0 S143 (upd (upd (upd (upd (upd (upd f 6 a152) 7 b153) 10 0) 24 l5) 37 z6) 44 b7) g'8 := hS155
        have hR176 := rj_clear0 hR19_
        have hR177 : RJ (upd (upd (upd (upd (upd (upd f 6 a152) 7 b153) 10 0) 24 l5) 37 z6) 44 b7) g'8 [] bc1 [] 0 [] := hR176
        show am_E _ _ _ _ [some (.ref 39), some (.int on), some (.int tw), some (.int r22), none] [.int 0] _ _
        refine am_e6i hi_249_21 ?_
        refine am_e2 (v := 39) hi_249_22 rfl ?_
        refine mm_20 (v := .ref 90) hS155 hi_249_23 rfl ?_
        refine am_e1 (v := on) hi_249_26 rfl ?_
        refine am_e2 (v := 39) hi_249_27 rfl ?_
        refine am_e32n (as := [.ref 39]) (la := [some (.ref 39)]) (rest := [.int on, .ref 90]) hi_249_28 (am_hd0 (M := 249) (by decide) 28) (Nat.le_of_ble_eq_true rfl) (Nat.le_of_ble_eq_true rfl) (show 1 ≤ am_P0.2.2.1 210 from by decide +kernel) rfl (am_recv_ok hS155.fs) rfl rfl (ct_here (d := (d + 6)) hS155 hR177  (by show (0 : Int) ≤ (f 32).toInt; omega) (by show (f 32).toInt ≤ (63 : Int); omega) (by show (f 53).toInt ≤ (4096 : Int); omega) (by show (0 : Int) ≤ (f 68).toInt; omega) (by show (f 68).toInt ≤ (65534 : Int); omega)) ?_
        rintro v178 S179 (⟨r180, hv181, hS182, h183, h184⟩)
        subst hv181
        have h183_ : (0 : Int) ≤ r180.toInt := h183
        have h184_ : r180.toInt ≤ (f 68).toInt := h184
        show am_E _ _ _ _ [some (.ref 39), some (.int on), some (.int tw), some (.int r22), none] [.int r180, .int on, .ref 90] _ _
        refine mm_26 hS182 ma_71 hi_249_31 (by decide) (by omega) (by omega) (fun h => nomatch h) ?_
        intro S186 hS187
        have hix348 : on.toNatClampNeg = on.toInt.toNat := by first | rfl | (rw [cl_toNat, cl_toNat]; omega)
        have hR188 : RJ (upd (upd (upd (upd (upd (upd f 6 a152) 7 b153) 10 0) 24 l5) 37 z6) 44 b7) (upg g'8 71 on.toNatClampNeg r180) [] bc1 [] 0 [] := by rw [hix348]; exact RJ.lead hR177 (RJ.pjn hR177 (show on.toInt.toNat ∈ _ from by simp only [List.mem_cons, true_or, or_true]))
        refine am_e2 (v := 39) hi_249_32 rfl ?_
        refine am_e1 (v := tw) hi_249_33 rfl ?_
        refine am_e32n (as := [.ref 39, .int tw]) (la := [some (.ref 39), some (.int tw), none, none]) (rest := []) hi_249_34 (am_hd0 (M := 249) (by decide) 34) (Nat.le_of_ble_eq_true rfl) (Nat.le_of_ble_eq_true rfl) (show 2 ≤ am_P0.2.2.1 250 from by decide +kernel) rfl (am_recv_ok hS187.fs) rfl rfl (ct_mend (d := (d + 5)) hS187 hR188 rfl (by show (0 : Int) ≤ (f 32).toInt; omega) (by show (f 32).toInt ≤ (63 : Int); omega) (by show (f 53).toInt ≤ (4096 : Int); omega) (by show (0 : Int) ≤ (f 68).toInt; omega) (by show (f 68).toInt ≤ (65534 : Int); omega)) ?_
        rintro v189 S190 (⟨g'191, hv192, hS193, hR195, h194⟩)
        subst hv192
        have h194_ : ∀ j, j ∉ [71] → g'191 j = (upg g'8 71 on.toNatClampNeg r180) j := h194
        have hR195_ : RJ (upd (upd (upd (upd (upd (upd f 6 a152) 7 b153) 10 0) 24 l5) 37 z6) 44 b7) g'191 [] bc1 [] 0 [] := hR195
        show am_E _ _ _ _ [some (.ref 39), some (.int on), some (.int tw), some (.int r22), none] [] _ _
        refine am_e18 hi_249_37 ?_
        refine am_e35 hi_249_148 ?_
        show am_E _ _ _ _ [some (.ref 39), some (.int 8), some (.int on), some (.int tw), some (.int th)] [] _ _
        refine am_e18 hi_180_201 ?_
        refine am_e35 hi_180_371 ?_
        have hRc := rj_clear0 hR195_
        refine ⟨_, _, [], _, rfl, hS193, Or.inr ⟨hRc, rfl, (by show 0 ≤ (f 4).toInt; omega), (by show (f 4).toInt ≤ (f 0).toInt; omega), (by show 0 ≤ (f 32).toInt; omega), (by show (f 32).toInt ≤ 63; omega), (by show 1 ≤ (f 53).toInt; omega), (by show (f 53).toInt ≤ 600; omega), (by show 0 ≤ (f 68).toInt; omega), (by show (f 68).toInt ≤ 60000; omega), (by show 0 ≤ (f 48).toInt; omega), (by show (f 48).toInt ≤ 8000; omega), (by show 0 ≤ z6.toInt; omega), (by show z6.toInt ≤ 128; omega), (by show 0 ≤ (f 62).toInt; omega), (by show (f 62).toInt ≤ 65000; omega), (by show 0 ≤ (f 19).toInt; omega), (by show (f 19).toInt ≤ 600; omega)⟩⟩
  · refine am_e13f hi_243_15 (am_cF (m := (f 24).toInt) (n := (g 38 z0.toNatClampNeg).toInt) rfl rfl c2) ?_
    refine am_e0 hi_243_18 ?_
    refine am_e18 hi_243_19 ?_
    refine am_e36 hi_243_23 (by decide) ?_
    show am_E _ _ _ _ [some (.ref 39)] [.int 1] _ _
    refine am_e12f hi_242_4 (by decide) ?_
    refine am_e2 (v := 39) hi_242_7 rfl ?_
    refine am_e0 hi_242_8 ?_
    refine am_e2 (v := 39) hi_242_10 rfl ?_
    refine am_e32w (as := [.ref 39]) (la := [some (.ref 39)]) (rest := [.int 33, .ref 39]) hi_242_11 (am_hd0 (M := 242) (by decide) 11) (Nat.le_of_ble_eq_true rfl) (Nat.le_of_ble_eq_true rfl) (show 1 ≤ am_P0.2.2.1 232 from by decide +kernel) rfl (am_recv_ok hS.fs) rfl rfl ?_
    refine am_e2 (v := 39) hi_232_0 rfl ?_
    refine mm_20 (v := .ref 62) hS hi_232_1 rfl ?_
    refine am_e2 (v := 39) hi_232_4 rfl ?_
    refine mm_20 (v := .int (f 37)) hS hi_232_5 rfl ?_
    refine am_e0 hi_232_8 ?_
    refine am_e10 (z := z0) hi_232_9 hz0 ?_
    refine mm_25 hS ma_38 hi_232_10 (by decide) (by omega) (by omega) ?_
    show am_E _ _ _ _ [some (.ref 39)] [.int (g 38 z0.toNatClampNeg)] _ _
    have r196 : 0 ≤ (g 38 z0.toNatClampNeg).toInt ∧ (g 38 z0.toNatClampNeg).toInt ≤ (f 24).toInt := RJ.bl (i := z0) hR (by omega) (by show z0.toInt < (f 37).toInt; omega)
    refine am_e2 (v := 39) hi_232_11 rfl ?_
    refine mm_20 (v := .ref 59) hS hi_232_12 rfl ?_
    refine am_e2 (v := 39) hi_232_15 rfl ?_
    refine mm_20 (v := .int (f 32)) hS hi_232_16 rfl ?_
    refine mm_25 hS ma_34 hi_232_19 (by decide) (by omega) (by omega) ?_
    show am_E _ _ _ _ [some (.ref 39)] [.int (g 34 (f 32).toNatClampNeg), .int (g 38 z0.toNatClampNeg)] _ _
    have r197 : 0 ≤ (g 34 (f 32).toNatClampNeg).toInt := RJ.ba hR (f 32).toNatClampNeg
    obtain ⟨z198, hz198⟩ : ∃ q__, am_bin 1 (g 38 z0.toNatClampNeg) (g 34 (f 32).toNatClampNeg) = q__ := ⟨_, rfl⟩
    refine am_e10 (z := z198) hi_232_20 hz198 ?_
    refine am_e33 hi_232_21 ?_
    show am_E _ _ _ _ [some (.ref 39)] [.int z198, .int 33, .ref 39] _ _
    refine am_e0 hi_242_14 ?_
    refine am_e0 hi_242_15 ?_
    refine am_e32n (as := [.ref 39, .int 33, .int z198, .int 0, .int 0]) (la := [some (.ref 39), some (.int 33), some (.int z198), some (.int 0), some (.int 0)]) (rest := []) hi_242_16 (am_hd0 (M := 242) (by decide) 16) (Nat.le_of_ble_eq_true rfl) (Nat.le_of_ble_eq_true rfl) (show 5 ≤ am_P0.2.2.1 189 from by decide +kernel) rfl (am_recv_ok hS.fs) rfl rfl (ct_put (d := (d + 5)) hS hR  (by show (0 : Int) ≤ (f 32).toInt; omega) (by show (f 32).toInt ≤ (63 : Int); omega) (by show (f 53).toInt ≤ (4096 : Int); omega) (by show (0 : Int) ≤ (f 68).toInt; omega) (by show (f 68).toInt ≤ (65534 : Int); omega)) ?_
    rintro v199 S200 (⟨z201, r202, g'203, hv204, hS205, hR209, h206, h207, h208⟩)
    subst hv204
    have h206_ : z201.toInt = (f 68).toInt + 1 := h206
    have h207_ : r202.toInt = (f 68).toInt := h207
    have h208_ : ∀ j, j ∉ [60, 69, 70, 71, 72, 73] → g'203 j = g j := h208
    have hR209_ : RJ (upd f 68 z201) g'203 gs (c0 :: bc1) fl tw.toInt ((f 68).toNatClampNeg :: [on.toInt.toNat]) := hR209
    show am_E _ _ _ _ [some (.ref 39)] [.int r202] _ _
    refine am_e6i hi_242_19 ?_
    refine am_e2 (v := 39) hi_242_20 rfl ?_
    refine am_e32n (as := [.ref 39]) (la := [some (.ref 39), none, none]) (rest := []) hi_242_21 (am_hd0 (M := 242) (by decide) 21) (Nat.le_of_ble_eq_true rfl) (Nat.le_of_ble_eq_true rfl) (show 1 ≤ am_P0.2.2.1 224 from by decide +kernel) rfl (am_recv_ok hS205.fs) rfl rfl (ct_dropBlock2 (d := (d + 5)) hS205 hR209_  (by show (0 : Int) ≤ (f 32).toInt; omega) (by show (f 32).toInt ≤ (63 : Int); omega) (by show (0 : Int) ≤ (f 48).toInt; omega) (by show (f 48).toInt ≤ (8192 : Int); omega) (by show (f 4).toInt ≤ (8192 : Int); omega) (by show (1 : Int) ≤ (f 37).toInt; omega) (by show (f 37).toInt ≤ (128 : Int); omega)) ?_
    rintro v210 S211 (⟨l212, z213, b214, g'215, hv216, hS217, hR226, h218, h219, h220, h221, h222, h223, h224, h225⟩)
    subst hv216
    have h218_ : z213.toInt = (f 37).toInt - 1 := h218
    have h219_ : (0 : Int) ≤ l212.toInt := h219
    have h220_ : l212.toInt ≤ (f 24).toInt := h220
    have h221_ : (0 : Int) ≤ b214.toInt := h221
    have h222_ : b214.toInt ≤ (f 4).toInt := h222
    have h223_ : ∀ j, j ∉ [52] → g'215 j = g'203 j := h223
    have h224_ : (fl : List Nat) = [] → RJ (upd (upd (upd (upd f 24 l212) 37 z213) 44 b214) 68 z201) g'215 gs bc1 c0 (g'215 43 z213.toNatClampNeg).toInt ((f 68).toNatClampNeg :: [on.toInt.toNat]) := h224
    have h225_ : l212 = g'203 38 z213.toNatClampNeg := h225
    replace hS217 : MS S0 S211 (upd (upd (upd (upd f 24 l212) 37 z213) 44 b214) 68 z201) g'215 := hS217
    have hR226_ : RJ (upd (upd (upd (upd f 24 l212) 37 z213) 44 b214) 68 z201) g'215 gs bc1 fl tw.toInt ((f 68).toNatClampNeg :: [on.toInt.toNat]) := hR226
    show am_E _ _ _ _ [some (.ref 39)] [] _ _
    refine am_e35 hi_242_24 ?_
    show am_E _ _ _ _ [some (.ref 39), some (.int on), some (.int tw), none, none] [] _ _
    refine am_e2 (v := 39) hi_249_4 rfl ?_
    refine am_e32n (as := [.ref 39]) (la := [some (.ref 39)]) (rest := []) hi_249_5 (am_hd0 (M := 249) (by decide) 5) (Nat.le_of_ble_eq_true rfl) (Nat.le_of_ble_eq_true rfl) (show 1 ≤ am_P0.2.2.1 183 from by decide +kernel) rfl (am_recv_ok hS217.fs) rfl rfl (ct_next (d := (d + 5)) hS217   (by show (0 : Int) ≤ (f 4).toInt; omega) (by show (f 0).toInt ≤ (16384 : Int); omega)) ?_
    rintro v227 S228 (⟨r229, hv230, hS231, h232⟩)
    subst hv230
    have h232_ : (f 4).toInt < (f 0).toInt ∨ r229.toInt = (-1 : Int) := h232
    show am_E _ _ _ _ [some (.ref 39), some (.int on), some (.int tw), none, none] [.int r229] _ _
    refine am_e3 (ls' := [some (.ref 39), some (.int on), some (.int tw), some (.int r229), none]) hi_249_8 (Nat.le_of_ble_eq_true rfl) rfl ?_
    refine am_e1 (v := r229) hi_249_9 rfl ?_
    refine am_e0 hi_249_10 ?_
    by_cases c234 : ¬ r229.toInt = (15 : Int)
    · refine am_e13t hi_249_12 (am_cT (m := r229.toInt) (n := (15 : Int)) rfl (by decide) c234) ?_
      refine am_e1 (v := r229) hi_249_40 rfl ?_
      refine am_e0 hi_249_41 ?_
      by_cases c235 : r229.toInt = (14 : Int)
      · refine am_e13t hi_249_43 (am_cT (m := r229.toInt) (n := (14 : Int)) rfl (by decide) c235) ?_
        refine am_e2 (v := 39) hi_249_52 rfl ?_
        refine am_e0 hi_249_53 ?_
        refine am_e1 (v := tw) hi_249_55 rfl ?_
        refine am_e0 hi_249_56 ?_
        refine am_e0 hi_249_57 ?_
        refine am_e32n (as := [.ref 39, .int 36, .int tw, .int 0, .int 0]) (la := [some (.ref 39), some (.int 36), some (.int tw), some (.int 0), some (.int 0)]) (rest := []) hi_249_58 (am_hd0 (M := 249) (by decide) 58) (Nat.le_of_ble_eq_true rfl) (Nat.le_of_ble_eq_true rfl) (show 5 ≤ am_P0.2.2.1 189 from by decide +kernel) rfl (am_recv_ok hS231.fs) rfl rfl (ct_putc (d := (d + 6)) hS231 hR226_ rfl (by show (0 : Int) ≤ (f 32).toInt; omega) (by show (f 32).toInt ≤ (63 : Int); omega) (by show (f 53).toInt ≤ (4096 : Int); omega) (by show (0 : Int) ≤ z201.toInt; omega) (by show z201.toInt ≤ (65534 : Int); omega)) ?_
        rintro v236 S237 (⟨z238, r239, g'240, hv241, hS242, hR246, h243, h244, h245⟩)
        subst hv241
        have h243_ : z238.toInt = z201.toInt + 1 := h243
        have h244_ : r239.toInt = z201.toInt := h244
        have h245_ : ∀ j, j ∉ [60, 69, 70, 71, 72, 73] → g'240 j = g'215 j := h245
        replace hS242 : MS S0 S237 (upd (upd (upd (upd f 24 l212) 37 z213) 44 b214) 68 z238) g'240 := hS242
        have hR246_ : RJ (upd (upd (upd (upd f 24 l212) 37 z213) 44 b214) 68 z238) g'240 gs bc1 (z201.toNatClampNeg :: fl) (z201.toInt + 1) ((f 68).toNatClampNeg :: [on.toInt.toNat]) := hR246
        show am_E _ _ _ _ [some (.ref 39), some (.int on), some (.int tw), some (.int r229), none] [.int r239] _ _
        refine am_e0 hi_249_61 ?_
        obtain ⟨z247, hz247, tz247⟩ := am_addI (x := r239) (y := 1) (m := r239.toInt) (n := (1 : Int)) rfl (by decide) (by omega) (by omega)
        refine am_e10 (z := z247) hi_249_62 hz247 ?_
        refine am_e3 (ls' := [some (.ref 39), some (.int on), some (.int tw), some (.int r229), some (.int z247)]) hi_249_63 (Nat.le_of_ble_eq_true rfl) rfl ?_
        refine am_e2 (v := 39) hi_249_65 rfl ?_
        refine mm_20 (v := .ref 90) hS242 hi_249_66 rfl ?_
        refine am_e1 (v := on) hi_249_69 rfl ?_
        refine am_e2 (v := 39) hi_249_70 rfl ?_
        refine am_e32n (as := [.ref 39]) (la := [some (.ref 39)]) (rest := [.int on, .ref 90]) hi_249_71 (am_hd0 (M := 249) (by decide) 71) (Nat.le_of_ble_eq_true rfl) (Nat.le_of_ble_eq_true rfl) (show 1 ≤ am_P0.2.2.1 210 from by decide +kernel) rfl (am_recv_ok hS242.fs) rfl rfl (ct_here (d := (d + 6)) hS242 hR246_  (by show (0 : Int) ≤ (f 32).toInt; omega) (by show (f 32).toInt ≤ (63 : Int); omega) (by show (f 53).toInt ≤ (4096 : Int); omega) (by show (0 : Int) ≤ z238.toInt; omega) (by show z238.toInt ≤ (65534 : Int); omega)) ?_
        rintro v248 S249 (⟨r250, hv251, hS252, h253, h254⟩)
        subst hv251
        have h253_ : (0 : Int) ≤ r250.toInt := h253
        have h254_ : r250.toInt ≤ z238.toInt := h254
        show am_E _ _ _ _ [some (.ref 39), some (.int on), some (.int tw), some (.int r229), some (.int z247)] [.int r250, .int on, .ref 90] _ _
        refine mm_26 hS252 ma_71 hi_249_74 (by decide) (by omega) (by omega) (fun h => nomatch h) ?_
        intro S256 hS257
        have hix468 : on.toNatClampNeg = on.toInt.toNat := by first | rfl | (rw [cl_toNat, cl_toNat]; omega)
        have hR258 : RJ (upd (upd (upd (upd f 24 l212) 37 z213) 44 b214) 68 z238) (upg g'240 71 on.toNatClampNeg r250) gs bc1 (z201.toNatClampNeg :: fl) (z201.toInt + 1) ((f 68).toNatClampNeg :: [on.toInt.toNat]) := by rw [hix468]; exact RJ.lead hR246_ (RJ.pjn hR246_ (show on.toInt.toNat ∈ _ from by simp only [List.mem_cons, true_or, or_true]))
        refine am_e2 (v := 39) hi_249_75 rfl ?_
        refine am_e7 hi_249_76 ?_
        refine mm_20 (v := .int (f 4)) hS257 hi_249_77 rfl ?_
        refine am_e0 hi_249_80 ?_
        obtain ⟨z259, hz259, tz259⟩ := am_addI (x := f 4) (y := 1) (m := (f 4).toInt) (n := (1 : Int)) rfl (by decide) (by omega) (by omega)
        refine am_e10 (z := z259) hi_249_81 hz259 ?_
        refine mm_21 (v := z259) hS257 hi_249_82 rfl (Nat.le_of_ble_eq_true rfl) ms_4 ?_
        intro S260 hS261
        replace hS261 : MS S0 S260 (upd (upd (upd (upd (upd f 4 z259) 24 l212) 37 z213) 44 b214) 68 z238) (upg g'240 71 on.toNatClampNeg r250) := hS261
        have hR262 : RJ (upd (upd (upd (upd (upd f 4 z259) 24 l212) 37 z213) 44 b214) 68 z238) (upg g'240 71 on.toNatClampNeg r250) gs bc1 (z201.toNatClampNeg :: fl) (z201.toInt + 1) ((f 68).toNatClampNeg :: [on.toInt.toNat]) := RJ.at hR258 (by show (f 4).toInt ≤ z259.toInt; omega)
        refine am_e1 (v := r229) hi_249_85 rfl ?_
        refine am_e0 hi_249_86 ?_
        refine am_e13f hi_249_88 (am_cF (m := r229.toInt) (n := (14 : Int)) rfl (by decide) (by simp only [am_cI]; omega)) ?_
        refine am_e2 (v := 39) hi_249_91 rfl ?_
        refine am_e7 hi_249_92 ?_
        refine mm_20 (v := .int (f 5)) hS261 hi_249_93 rfl ?_
        refine am_e0 hi_249_96 ?_
        obtain ⟨z263, hz263, tz263⟩ := am_subI (x := f 5) (y := 1) (m := (f 5).toInt) (n := (1 : Int)) rfl (by decide) (by omega) (by omega)
        refine am_e10 (z := z263) hi_249_97 hz263 ?_
        refine mm_21 (v := z263) hS261 hi_249_98 rfl (Nat.le_of_ble_eq_true rfl) ms_5 ?_
        intro S264 hS265
        replace hS265 : MS S0 S264 (upd (upd (upd (upd (upd (upd f 4 z259) 5 z263) 24 l212) 37 z213) 44 b214) 68 z238) (upg g'240 71 on.toNatClampNeg r250) := hS265
        refine am_e2 (v := 39) hi_249_101 rfl ?_
        refine am_e0 hi_249_102 ?_
        refine am_e1 (v := z247) hi_249_104 rfl ?_
        refine am_e0 hi_249_106 ?_
        refine am_e0 hi_249_107 ?_
        refine am_e32n (as := [.ref 39, .int 7, .int z247, .int 0, .int 0]) (la := [some (.ref 39), some (.int 7), some (.int z247), some (.int 0), some (.int 0)]) (rest := []) hi_249_108 (am_hd0 (M := 249) (by decide) 108) (Nat.le_of_ble_eq_true rfl) (Nat.le_of_ble_eq_true rfl) (show 5 ≤ am_P0.2.2.1 179 from by decide +kernel) rfl (am_recv_ok hS265.fs) rfl rfl (ct_pilec (d := (d + 6)) hS265 hR262 (mj_e_79c hR262 (by decide) (by show z247.toInt = (z201.toInt + 1); omega)) (by show (0 : Int) ≤ (f 10).toInt; omega) (by show (f 10).toInt ≤ (65535 : Int); omega)) ?_
        rintro v266 S267 (⟨z268, g'269, hv270, hS271, hR274, h272, h273⟩)
        subst hv270
        have h272_ : z268.toInt = (f 10).toInt + 1 := h272
        have h273_ : ∀ j, j ∉ [11, 12, 13, 14] → g'269 j = (upg g'240 71 on.toNatClampNeg r250) j := h273
        replace hS271 : MS S0 S267 (upd (upd (upd (upd (upd (upd (upd f 4 z259) 5 z263) 10 z268) 24 l212) 37 z213) 44 b214) 68 z238) g'269 := hS271
        have hR274_ : RJ (upd (upd (upd (upd (upd (upd (upd f 4 z259) 5 z263) 10 z268) 24 l212) 37 z213) 44 b214) 68 z238) g'269 (((7 : Int), z247.toInt, (0 : Int), (0 : Int), (z201.toNatClampNeg :: fl)) :: gs) bc1 [] 0 ((f 68).toNatClampNeg :: [on.toInt.toNat]) := hR274
        show am_E _ _ _ _ [some (.ref 39), some (.int on), some (.int tw), some (.int r229), some (.int z247)] [] _ _
        refine am_e2 (v := 39) hi_249_111 rfl ?_
        refine am_e0 hi_249_112 ?_
        refine am_e32w (as := [.ref 39, .int 0]) (la := [some (.ref 39), some (.int 0)]) (rest := []) hi_249_113 (am_hd0 (M := 249) (by decide) 113) (Nat.le_of_ble_eq_true rfl) (Nat.le_of_ble_eq_true rfl) (show 2 ≤ am_P0.2.2.1 186 from by decide +kernel) rfl (am_recv_ok hS271.fs) rfl rfl ?_
        refine am_e2 (v := 39) hi_186_0 rfl ?_
        refine am_e0 hi_186_1 ?_
        refine am_e1 (v := 0) hi_186_3 rfl ?_
        refine am_e0 hi_186_4 ?_
        refine am_e0 hi_186_5 ?_
        refine am_e32n (as := [.ref 39, .int 23, .int 0, .int 0, .int 0]) (la := [some (.ref 39), some (.int 23), some (.int 0), some (.int 0), some (.int 0)]) (rest := []) hi_186_6 (am_hd0 (M := 186) (by decide) 6) (Nat.le_of_ble_eq_true rfl) (Nat.le_of_ble_eq_true rfl) (show 5 ≤ am_P0.2.2.1 179 from by decide +kernel) rfl (am_recv_ok hS271.fs) rfl rfl (ct_pile (d := (d + 5)) hS271 hR274_ (mj_e_plain (by decide)) (by show (0 : Int) ≤ z268.toInt; omega) (by show z268.toInt ≤ (65535 : Int); omega)) ?_
        rintro v275 S276 (⟨z277, g'278, hv279, hS280, hR283, h281, h282⟩)
        subst hv279
        have h281_ : z277.toInt = z268.toInt + 1 := h281
        have h282_ : ∀ j, j ∉ [11, 12, 13, 14] → g'278 j = g'269 j := h282
        replace hS280 : MS S0 S276 (upd (upd (upd (upd (upd (upd (upd f 4 z259) 5 z263) 10 z277) 24 l212) 37 z213) 44 b214) 68 z238) g'278 := hS280
        have hR283_ : RJ (upd (upd (upd (upd (upd (upd (upd f 4 z259) 5 z263) 10 z277) 24 l212) 37 z213) 44 b214) 68 z238) g'278 (((23 : Int), (0 : Int), (0 : Int), (0 : Int), []) :: (((7 : Int), z247.toInt, (0 : Int), (0 : Int), (z201.toNatClampNeg :: fl)) :: gs)) bc1 [] 0 ((f 68).toNatClampNeg :: [on.toInt.toNat]) := hR283
        show am_E _ _ _ _ [some (.ref 39), some (.int 0)] [] _ _
        refine am_e35 hi_186_9 ?_
        show am_E _ _ _ _ [some (.ref 39), some (.int on), some (.int tw), some (.int r229), some (.int z247)] [] _ _
        refine am_e18 hi_249_116 ?_
        refine am_e18 hi_249_138 ?_
        refine am_e35 hi_249_148 ?_
        show am_E _ _ _ _ [some (.ref 39), some (.int 8), some (.int on), some (.int tw), some (.int th)] [] _ _
        refine am_e18 hi_180_201 ?_
        refine am_e35 hi_180_371 ?_
        have q1 : mg_p1 (((23 : Int), (0 : Int), (0 : Int), (0 : Int), []) :: (((7 : Int), z247.toInt, (0 : Int), (0 : Int), (z201.toNatClampNeg :: fl)) :: gs)) = 0 + (0 + (mg_p1 gs)) := rfl
        have q2 : mg_p2 (((23 : Int), (0 : Int), (0 : Int), (0 : Int), []) :: (((7 : Int), z247.toInt, (0 : Int), (0 : Int), (z201.toNatClampNeg :: fl)) :: gs)) = 0 + (0 + (mg_p2 gs)) := rfl
        have q3 : mg_p3 (((23 : Int), (0 : Int), (0 : Int), (0 : Int), []) :: (((7 : Int), z247.toInt, (0 : Int), (0 : Int), (z201.toNatClampNeg :: fl)) :: gs)) = 1 + (1 + (mg_p3 gs)) := rfl
        have q4 : mg_p4 (((23 : Int), (0 : Int), (0 : Int), (0 : Int), []) :: (((7 : Int), z247.toInt, (0 : Int), (0 : Int), (z201.toNatClampNeg :: fl)) :: gs)) = 0 + (0 + (mg_p4 gs)) := rfl
        refine ⟨_, _, _, bc1, rfl, hS280, Or.inl ⟨⟨(RJ.fewer (pj' := []) hR283_ (fun _ h => nomatch h)), ?_, ?_⟩, rfl, ?_⟩⟩
        · exact (⟨⟨(show mg_k 23 from by decide), (show (0 : Int) ≤ (f 15).toInt from by omega), (show 0 ≤ (f 20).toInt from by omega), (show 1 ≤ z213.toInt from by omega), (show 0 ≤ (f 32).toInt from by omega), (show (f 32).toInt ≤ z263.toInt from by omega), (show z263.toInt ≤ 48 from by omega), (show z213.toInt ≤ 2 * (z263.toInt) + 2 from by omega), (show 0 ≤ (0 : Int) from by omega)⟩, ⟨⟨(show mg_k 7 from by decide), (show (1 : Int) ≤ (f 15).toInt + 1 from by omega), (show 0 ≤ (f 20).toInt from by omega), (show 1 ≤ z213.toInt + 0 from by omega), (show 0 ≤ (f 32).toInt + 0 from by omega), (show (f 32).toInt + 0 ≤ z263.toInt + 0 from by omega), (show z263.toInt + 0 ≤ 48 from by omega), (show z213.toInt + 0 ≤ 2 * (z263.toInt + 0) + 1 from by omega), trivial⟩, mg_cast (mg_good_ext _ _ _ _ _ _ (fun i _ => by show g'278 34 i = g 34 i; rw [show g'278 34 = g'269 34 from h282_ 34 (by decide), show g'269 34 = g'240 34 from h273_ 34 (by decide), show g'240 34 = g'215 34 from h245_ 34 (by decide), show g'215 34 = g'203 34 from h223_ 34 (by decide), show g'203 34 = g 34 from h208_ 34 (by decide)]) (fun i _ => by show g'278 38 i = g 38 i; rw [show g'278 38 = g'269 38 from h282_ 38 (by decide), show g'269 38 = g'240 38 from h273_ 38 (by decide), show g'240 38 = g'215 38 from h245_ 38 (by decide), show g'215 38 = g'203 38 from h223_ 38 (by decide), show g'203 38 = g 38 from h208_ 38 (by decide)]) (fun i _ => by show g'278 23 i = g 23 i; rw [show g'278 23 = g'269 23 from h282_ 23 (by decide), show g'269 23 = g'240 23 from h273_ 23 (by decide), show g'240 23 = g'215 23 from h245_ 23 (by decide), show g'215 23 = g'203 23 from h223_ 23 (by decide), show g'203 23 = g 23 from h208_ 23 (by decide)]) hrest) (by show (f 15).toInt + 0 = (f 15).toInt + 1 + -1; omega) (by show (f 20).toInt = (f 20).toInt; omega) (by show (f 37).toInt + -1 = z213.toInt + 0 + 0; omega) (by show (f 32).toInt + 0 = (f 32).toInt + 0 + 0; omega) (by show (f 5).toInt + -1 = z263.toInt + 0 + 0; omega)⟩⟩ : mg_good (g'278 34) (g'278 38) (g'278 23) (((23 : Int), (0 : Int), (0 : Int), (0 : Int), []) :: (((7 : Int), z247.toInt, (0 : Int), (0 : Int), (z201.toNatClampNeg :: fl)) :: gs)) ((f 15).toInt) ((f 20).toInt) (z213.toInt) ((f 32).toInt) (z263.toInt))
        · exact ⟨(by show 0 ≤ z259.toInt; omega), (by show z259.toInt ≤ (f 0).toInt; omega), (by show (f 0).toInt ≤ 512; omega), (by show 0 ≤ l212.toInt; omega), (by show l212.toInt + (f 20).toInt + mg_p1 (((23 : Int), (0 : Int), (0 : Int), (0 : Int), []) :: (((7 : Int), z247.toInt, (0 : Int), (0 : Int), (z201.toNatClampNeg :: fl)) :: gs)) ≤ 4 * z259.toInt; omega), (by show (f 20).toInt ≤ z259.toInt; omega), (by show (f 15).toInt + mg_p2 (((23 : Int), (0 : Int), (0 : Int), (0 : Int), []) :: (((7 : Int), z247.toInt, (0 : Int), (0 : Int), (z201.toNatClampNeg :: fl)) :: gs)) ≤ z259.toInt; omega), (by show mg_p3 (((23 : Int), (0 : Int), (0 : Int), (0 : Int), []) :: (((7 : Int), z247.toInt, (0 : Int), (0 : Int), (z201.toNatClampNeg :: fl)) :: gs)) ≤ 20 * z259.toInt + 20; omega), (by show 0 ≤ z238.toInt; omega), (by show z238.toInt + 3 * (f 20).toInt + mg_p4 (((23 : Int), (0 : Int), (0 : Int), (0 : Int), []) :: (((7 : Int), z247.toInt, (0 : Int), (0 : Int), (z201.toNatClampNeg :: fl)) :: gs)) ≤ 60 * z259.toInt + 60; omega), (by show 0 ≤ (f 62).toInt; omega), (by show (f 62).toInt + 64 * mj_n (g'278 16) (f 15).toNatClampNeg 3 ≤ 64 * z259.toInt; rw [show g'278 16 = g'269 16 from h282_ 16 (by decide), show g'269 16 = g'240 16 from h273_ 16 (by decide), show g'240 16 = g'215 16 from h245_ 16 (by decide), show g'215 16 = g'203 16 from h223_ 16 (by decide), show g'203 16 = g 16 from h208_ 16 (by decide)]; omega), (by show 0 ≤ b214.toInt; omega), (by show b214.toInt ≤ z259.toInt; omega), (by show 0 ≤ (f 48).toInt; omega), (by show (f 48).toInt ≤ z259.toInt; omega), (by show 1 ≤ (f 53).toInt; omega), (by show (f 53).toInt ≤ z259.toInt + 1; omega), (by show 0 ≤ (f 19).toInt; omega), (by show (f 19).toInt ≤ 600; omega)⟩
        · show 100 * ((f 0).toInt - z259.toInt) + mg_p3 (((23 : Int), (0 : Int), (0 : Int), (0 : Int), []) :: (((7 : Int), z247.toInt, (0 : Int), (0 : Int), (z201.toNatClampNeg :: fl)) :: gs)) < 100 * ((f 0).toInt - (f 4).toInt) + (1 + mg_p3 gs); omega
      · refine am_e13f hi_249_43 (am_cF (m := r229.toInt) (n := (14 : Int)) rfl (by decide) c235) ?_
        refine am_e1 (v := r229) hi_249_46 rfl ?_
        refine am_e0 hi_249_47 ?_
        by_cases c284 : ¬ r229.toInt = (13 : Int)
        · refine am_e13t hi_249_49 (am_cT (m := r229.toInt) (n := (13 : Int)) rfl (by decide) c284) ?_
          refine am_e2 (v := 39) hi_249_141 rfl ?_
          refine am_e0 hi_249_142 ?_
          refine am_e32n (as := [.ref 39, .int 7]) (la := [some (.ref 39), some (.int 7)]) (rest := []) hi_249_144 (am_hd0 (M := 249) (by decide) 144) (Nat.le_of_ble_eq_true rfl) (Nat.le_of_ble_eq_true rfl) (show 2 ≤ am_P0.2.2.1 194 from by decide +kernel) rfl (am_recv_ok hS231.fs) rfl rfl (ct_fail (d := (d + 6)) hS231   ) ?_
          rintro v285 S286 (⟨a287, b288, hv289, hS290⟩)
          subst hv289
          replace hS290 : MS S0 S286 (upd (upd (upd (upd (upd (upd (upd f 6 a287) 7 b288) 10 0) 24 l212) 37 z213) 44 b214) 68 z201) g'215 := hS290
          have hR292 := rj_clear0 hR226_
          have hR293 : RJ (upd (upd (upd (upd (upd (upd (upd f 6 a287) 7 b288) 10 0) 24 l212) 37 z213) 44 b214) 68 z201) g'215 [] bc1 [] 0 [] := hR292
          show am_E _ _ _ _ [some (.ref 39), some (.int on), some (.int tw), some (.int r229), none] [.int 0] _ _
          refine am_e6i hi_249_147 ?_
          refine am_e35 hi_249_148 ?_
          show am_E _ _ _ _ [some (.ref 39), some (.int 8), some (.int on), some (.int tw), some (.int th)] [] _ _
          refine am_e18 hi_180_201 ?_
          refine am_e35 hi_180_371 ?_
          have hRc := rj_clear0 hR293
          refine ⟨_, _, [], _, rfl, hS290, Or.inr ⟨hRc, rfl, (by show 0 ≤ (f 4).toInt; omega), (by show (f 4).toInt ≤ (f 0).toInt; omega), (by show 0 ≤ (f 32).toInt; omega), (by show (f 32).toInt ≤ 63; omega), (by show 1 ≤ (f 53).toInt; omega), (by show (f 53).toInt ≤ 600; omega), (by show 0 ≤ z201.toInt; omega), (by show z201.toInt ≤ 60000; omega), (by show 0 ≤ (f 48).toInt; omega), (by show (f 48).toInt ≤ 8000; omega), (by show 0 ≤ z213.toInt; omega), (by show z213.toInt ≤ 128; omega), (by show 0 ≤ (f 62).toInt; omega), (by show (f 62).toInt ≤ 65000; omega), (by show 0 ≤ (f 19).toInt; omega), (by show (f 19).toInt ≤ 600; omega)⟩⟩
        · refine am_e13f hi_249_49 (am_cF (m := r229.toInt) (n := (13 : Int)) rfl (by decide) c284) ?_
          refine am_e2 (v := 39) hi_249_52 rfl ?_
          refine am_e0 hi_249_53 ?_
          refine am_e1 (v := tw) hi_249_55 rfl ?_
          refine am_e0 hi_249_56 ?_
          refine am_e0 hi_249_57 ?_
          refine am_e32n (as := [.ref 39, .int 36, .int tw, .int 0, .int 0]) (la := [some (.ref 39), some (.int 36), some (.int tw), some (.int 0), some (.int 0)]) (rest := []) hi_249_58 (am_hd0 (M := 249) (by decide) 58) (Nat.le_of_ble_eq_true rfl) (Nat.le_of_ble_eq_true rfl) (show 5 ≤ am_P0.2.2.1 189 from by decide +kernel) rfl (am_recv_ok hS231.fs) rfl rfl (ct_putc (d := (d + 6)) hS231 hR226_ rfl (by show (0 : Int) ≤ (f 32).toInt; omega) (by show (f 32).toInt ≤ (63 : Int); omega) (by show (f 53).toInt ≤ (4096 : Int); omega) (by show (0 : Int) ≤ z201.toInt; omega) (by show z201.toInt ≤ (65534 : Int); omega)) ?_
          rintro v294 S295 (⟨z296, r297, g'298, hv299, hS300, hR304, h301, h302, h303⟩)
          subst hv299
          have h301_ : z296.toInt = z201.toInt + 1 := h301
          have h302_ : r297.toInt = z201.toInt := h302
          have h303_ : ∀ j, j ∉ [60, 69, 70, 71, 72, 73] → g'298 j = g'215 j := h303
          replace hS300 : MS S0 S295 (upd (upd (upd (upd f 24 l212) 37 z213) 44 b214) 68 z296) g'298 := hS300
          have hR304_ : RJ (upd (upd (upd (upd f 24 l212) 37 z213) 44 b214) 68 z296) g'298 gs bc1 (z201.toNatClampNeg :: fl) (z201.toInt + 1) ((f 68).toNatClampNeg :: [on.toInt.toNat]) := hR304
          show am_E _ _ _ _ [some (.ref 39), some (.int on), some (.int tw), some (.int r229), none] [.int r297] _ _
          refine am_e0 hi_249_61 ?_
          obtain ⟨z305, hz305, tz305⟩ := am_addI (x := r297) (y := 1) (m := r297.toInt) (n := (1 : Int)) rfl (by decide) (by omega) (by omega)
          refine am_e10 (z := z305) hi_249_62 hz305 ?_
          refine am_e3 (ls' := [some (.ref 39), some (.int on), some (.int tw), some (.int r229), some (.int z305)]) hi_249_63 (Nat.le_of_ble_eq_true rfl) rfl ?_
          refine am_e2 (v := 39) hi_249_65 rfl ?_
          refine mm_20 (v := .ref 90) hS300 hi_249_66 rfl ?_
          refine am_e1 (v := on) hi_249_69 rfl ?_
          refine am_e2 (v := 39) hi_249_70 rfl ?_
          refine am_e32n (as := [.ref 39]) (la := [some (.ref 39)]) (rest := [.int on, .ref 90]) hi_249_71 (am_hd0 (M := 249) (by decide) 71) (Nat.le_of_ble_eq_true rfl) (Nat.le_of_ble_eq_true rfl) (show 1 ≤ am_P0.2.2.1 210 from by decide +kernel) rfl (am_recv_ok hS300.fs) rfl rfl (ct_here (d := (d + 6)) hS300 hR304_  (by show (0 : Int) ≤ (f 32).toInt; omega) (by show (f 32).toInt ≤ (63 : Int); omega) (by show (f 53).toInt ≤ (4096 : Int); omega) (by show (0 : Int) ≤ z296.toInt; omega) (by show z296.toInt ≤ (65534 : Int); omega)) ?_
          rintro v306 S307 (⟨r308, hv309, hS310, h311, h312⟩)
          subst hv309
          have h311_ : (0 : Int) ≤ r308.toInt := h311
          have h312_ : r308.toInt ≤ z296.toInt := h312
          show am_E _ _ _ _ [some (.ref 39), some (.int on), some (.int tw), some (.int r229), some (.int z305)] [.int r308, .int on, .ref 90] _ _
          refine mm_26 hS310 ma_71 hi_249_74 (by decide) (by omega) (by omega) (fun h => nomatch h) ?_
          intro S314 hS315
          have hix589 : on.toNatClampNeg = on.toInt.toNat := by first | rfl | (rw [cl_toNat, cl_toNat]; omega)
          have hR316 : RJ (upd (upd (upd (upd f 24 l212) 37 z213) 44 b214) 68 z296) (upg g'298 71 on.toNatClampNeg r308) gs bc1 (z201.toNatClampNeg :: fl) (z201.toInt + 1) ((f 68).toNatClampNeg :: [on.toInt.toNat]) := by rw [hix589]; exact RJ.lead hR304_ (RJ.pjn hR304_ (show on.toInt.toNat ∈ _ from by simp only [List.mem_cons, true_or, or_true]))
          refine am_e2 (v := 39) hi_249_75 rfl ?_
          refine am_e7 hi_249_76 ?_
          refine mm_20 (v := .int (f 4)) hS315 hi_249_77 rfl ?_
          refine am_e0 hi_249_80 ?_
          obtain ⟨z317, hz317, tz317⟩ := am_addI (x := f 4) (y := 1) (m := (f 4).toInt) (n := (1 : Int)) rfl (by decide) (by omega) (by omega)
          refine am_e10 (z := z317) hi_249_81 hz317 ?_
          refine mm_21 (v := z317) hS315 hi_249_82 rfl (Nat.le_of_ble_eq_true rfl) ms_4 ?_
          intro S318 hS319
          replace hS319 : MS S0 S318 (upd (upd (upd (upd (upd f 4 z317) 24 l212) 37 z213) 44 b214) 68 z296) (upg g'298 71 on.toNatClampNeg r308) := hS319
          have hR320 : RJ (upd (upd (upd (upd (upd f 4 z317) 24 l212) 37 z213) 44 b214) 68 z296) (upg g'298 71 on.toNatClampNeg r308) gs bc1 (z201.toNatClampNeg :: fl) (z201.toInt + 1) ((f 68).toNatClampNeg :: [on.toInt.toNat]) := RJ.at hR316 (by show (f 4).toInt ≤ z317.toInt; omega)
          refine am_e1 (v := r229) hi_249_85 rfl ?_
          refine am_e0 hi_249_86 ?_
          refine am_e13t hi_249_88 (am_cT (m := r229.toInt) (n := (14 : Int)) rfl (by decide) (by simp only [am_cI]; omega)) ?_
          refine am_e2 (v := 39) hi_249_119 rfl ?_
          refine am_e0 hi_249_120 ?_
          refine am_e32n (as := [.ref 39, .int 0]) (la := [some (.ref 39), some (.int 0)]) (rest := []) hi_249_121 (am_hd0 (M := 249) (by decide) 121) (Nat.le_of_ble_eq_true rfl) (Nat.le_of_ble_eq_true rfl) (show 2 ≤ am_P0.2.2.1 177 from by decide +kernel) rfl (am_recv_ok hS319.fs) rfl rfl (ct_beginBlock2 (d := (d + 6)) hS319 hR320 (by decide)  (by show (0 : Int) ≤ z213.toInt; omega) (by show z213.toInt ≤ (127 : Int); omega) (by show (0 : Int) ≤ l212.toInt; omega) (by show (0 : Int) ≤ b214.toInt; omega) (by show b214.toInt ≤ z317.toInt; omega) (by show (0 : Int) ≤ (f 48).toInt; omega)) ?_
          rintro v321 S322 (⟨z323, g'324, hv325, hS326, hR330, h327, h328, h329⟩)
          subst hv325
          have h327_ : z323.toInt = z213.toInt + 1 := h327
          have h328_ : ∀ j, j ∉ [38, 39, 40, 41, 42, 43] → g'324 j = (upg g'298 71 on.toNatClampNeg r308) j := h328
          have h329_ : g'324 38 = upd ((upg g'298 71 on.toNatClampNeg r308) 38) z213.toNatClampNeg l212 := h329
          replace hS326 : MS S0 S322 (upd (upd (upd (upd (upd f 4 z317) 24 l212) 37 z323) 44 b214) 68 z296) g'324 := hS326
          have hR330_ : RJ (upd (upd (upd (upd (upd f 4 z317) 24 l212) 37 z323) 44 b214) 68 z296) g'324 gs ([] :: bc1) (z201.toNatClampNeg :: fl) (z201.toInt + 1) ((f 68).toNatClampNeg :: [on.toInt.toNat]) := hR330
          show am_E _ _ _ _ [some (.ref 39), some (.int on), some (.int tw), some (.int r229), some (.int z305)] [] _ _
          refine am_e2 (v := 39) hi_249_124 rfl ?_
          refine am_e0 hi_249_125 ?_
          refine am_e1 (v := z305) hi_249_127 rfl ?_
          refine am_e0 hi_249_129 ?_
          refine am_e0 hi_249_130 ?_
          refine am_e32n (as := [.ref 39, .int 9, .int z305, .int 0, .int 0]) (la := [some (.ref 39), some (.int 9), some (.int z305), some (.int 0), some (.int 0)]) (rest := []) hi_249_131 (am_hd0 (M := 249) (by decide) 131) (Nat.le_of_ble_eq_true rfl) (Nat.le_of_ble_eq_true rfl) (show 5 ≤ am_P0.2.2.1 179 from by decide +kernel) rfl (am_recv_ok hS326.fs) rfl rfl (ct_pilec (d := (d + 6)) hS326 hR330_ (mj_e_79c hR330_ (by decide) (by show z305.toInt = (z201.toInt + 1); omega)) (by show (0 : Int) ≤ (f 10).toInt; omega) (by show (f 10).toInt ≤ (65535 : Int); omega)) ?_
          rintro v331 S332 (⟨z333, g'334, hv335, hS336, hR339, h337, h338⟩)
          subst hv335
          have h337_ : z333.toInt = (f 10).toInt + 1 := h337
          have h338_ : ∀ j, j ∉ [11, 12, 13, 14] → g'334 j = g'324 j := h338
          replace hS336 : MS S0 S332 (upd (upd (upd (upd (upd (upd f 4 z317) 10 z333) 24 l212) 37 z323) 44 b214) 68 z296) g'334 := hS336
          have hR339_ : RJ (upd (upd (upd (upd (upd (upd f 4 z317) 10 z333) 24 l212) 37 z323) 44 b214) 68 z296) g'334 (((9 : Int), z305.toInt, (0 : Int), (0 : Int), (z201.toNatClampNeg :: fl)) :: gs) ([] :: bc1) [] 0 ((f 68).toNatClampNeg :: [on.toInt.toNat]) := hR339
          show am_E _ _ _ _ [some (.ref 39), some (.int on), some (.int tw), some (.int r229), some (.int z305)] [] _ _
          refine am_e2 (v := 39) hi_249_134 rfl ?_
          refine am_e32w (as := [.ref 39]) (la := [some (.ref 39)]) (rest := []) hi_249_135 (am_hd0 (M := 249) (by decide) 135) (Nat.le_of_ble_eq_true rfl) (Nat.le_of_ble_eq_true rfl) (show 1 ≤ am_P0.2.2.1 178 from by decide +kernel) rfl (am_recv_ok hS336.fs) rfl rfl ?_
          refine am_e2 (v := 39) hi_178_0 rfl ?_
          refine am_e0 hi_178_1 ?_
          refine am_e0 hi_178_2 ?_
          refine am_e0 hi_178_3 ?_
          refine am_e0 hi_178_4 ?_
          refine am_e32n (as := [.ref 39, .int 1, .int 0, .int 0, .int 0]) (la := [some (.ref 39), some (.int 1), some (.int 0), some (.int 0), some (.int 0)]) (rest := []) hi_178_5 (am_hd0 (M := 178) (by decide) 5) (Nat.le_of_ble_eq_true rfl) (Nat.le_of_ble_eq_true rfl) (show 5 ≤ am_P0.2.2.1 179 from by decide +kernel) rfl (am_recv_ok hS336.fs) rfl rfl (ct_pile (d := (d + 5)) hS336 hR339_ (mj_e_plain (by decide)) (by show (0 : Int) ≤ z333.toInt; omega) (by show z333.toInt ≤ (65535 : Int); omega)) ?_
          rintro v340 S341 (⟨z342, g'343, hv344, hS345, hR348, h346, h347⟩)
          subst hv344
          have h346_ : z342.toInt = z333.toInt + 1 := h346
          have h347_ : ∀ j, j ∉ [11, 12, 13, 14] → g'343 j = g'334 j := h347
          replace hS345 : MS S0 S341 (upd (upd (upd (upd (upd (upd f 4 z317) 10 z342) 24 l212) 37 z323) 44 b214) 68 z296) g'343 := hS345
          have hR348_ : RJ (upd (upd (upd (upd (upd (upd f 4 z317) 10 z342) 24 l212) 37 z323) 44 b214) 68 z296) g'343 (((1 : Int), (0 : Int), (0 : Int), (0 : Int), []) :: (((9 : Int), z305.toInt, (0 : Int), (0 : Int), (z201.toNatClampNeg :: fl)) :: gs)) ([] :: bc1) [] 0 ((f 68).toNatClampNeg :: [on.toInt.toNat]) := hR348
          show am_E _ _ _ _ [some (.ref 39)] [] _ _
          refine am_e35 hi_178_8 ?_
          show am_E _ _ _ _ [some (.ref 39), some (.int on), some (.int tw), some (.int r229), some (.int z305)] [] _ _
          refine am_e18 hi_249_138 ?_
          refine am_e35 hi_249_148 ?_
          show am_E _ _ _ _ [some (.ref 39), some (.int 8), some (.int on), some (.int tw), some (.int th)] [] _ _
          refine am_e18 hi_180_201 ?_
          refine am_e35 hi_180_371 ?_
          have q1 : mg_p1 (((1 : Int), (0 : Int), (0 : Int), (0 : Int), []) :: (((9 : Int), z305.toInt, (0 : Int), (0 : Int), (z201.toNatClampNeg :: fl)) :: gs)) = 0 + (0 + (mg_p1 gs)) := rfl
          have q2 : mg_p2 (((1 : Int), (0 : Int), (0 : Int), (0 : Int), []) :: (((9 : Int), z305.toInt, (0 : Int), (0 : Int), (z201.toNatClampNeg :: fl)) :: gs)) = 0 + (0 + (mg_p2 gs)) := rfl
          have q3 : mg_p3 (((1 : Int), (0 : Int), (0 : Int), (0 : Int), []) :: (((9 : Int), z305.toInt, (0 : Int), (0 : Int), (z201.toNatClampNeg :: fl)) :: gs)) = 1 + (1 + (mg_p3 gs)) := rfl
          have q4 : mg_p4 (((1 : Int), (0 : Int), (0 : Int), (0 : Int), []) :: (((9 : Int), z305.toInt, (0 : Int), (0 : Int), (z201.toNatClampNeg :: fl)) :: gs)) = 0 + (0 + (mg_p4 gs)) := rfl
          refine ⟨_, _, _, ([] :: bc1), rfl, hS345, Or.inl ⟨⟨(RJ.fewer (pj' := []) hR348_ (fun _ h => nomatch h)), ?_, ?_⟩, rfl, ?_⟩⟩
          · exact (⟨⟨(show mg_k 1 from by decide), (show (0 : Int) ≤ (f 15).toInt from by omega), (show 0 ≤ (f 20).toInt from by omega), (show 1 ≤ z323.toInt from by omega), (show 0 ≤ (f 32).toInt from by omega), (show (f 32).toInt ≤ (f 5).toInt from by omega), (show (f 5).toInt ≤ 48 from by omega), (show z323.toInt ≤ 2 * ((f 5).toInt) + 1 from by omega), trivial⟩, ⟨⟨(show mg_k 9 from by decide), (show (0 : Int) ≤ (f 15).toInt + 0 from by omega), (show 0 ≤ (f 20).toInt from by omega), (show 1 ≤ z323.toInt + 0 from by omega), (show 0 ≤ (f 32).toInt + 0 from by omega), (show (f 32).toInt + 0 ≤ (f 5).toInt + 0 from by omega), (show (f 5).toInt + 0 ≤ 48 from by omega), (show z323.toInt + 0 ≤ 2 * ((f 5).toInt + 0) + 0 from by omega), trivial⟩, mg_cast (mg_good_ext _ _ _ _ _ _ (fun i _ => by show g'343 34 i = g 34 i; rw [show g'343 34 = g'334 34 from h347_ 34 (by decide), show g'334 34 = g'324 34 from h338_ 34 (by decide), show g'324 34 = g'298 34 from h328_ 34 (by decide), show g'298 34 = g'215 34 from h303_ 34 (by decide), show g'215 34 = g'203 34 from h223_ 34 (by decide), show g'203 34 = g 34 from h208_ 34 (by decide)]) (fun i hi => by show g'343 38 i = g 38 i; rw [show g'343 38 = g'334 38 from h347_ 38 (by decide), show g'334 38 = g'324 38 from h338_ 38 (by decide), h329_, show (upg g'298 71 on.toNatClampNeg r308) 38 = g'298 38 from rfl, show g'298 38 = g'215 38 from h303_ 38 (by decide), show g'215 38 = g'203 38 from h223_ 38 (by decide), show g'203 38 = g 38 from h208_ 38 (by decide)]; exact upd_ne (by rw [cl_toNat]; omega)) (fun i _ => by show g'343 23 i = g 23 i; rw [show g'343 23 = g'334 23 from h347_ 23 (by decide), show g'334 23 = g'324 23 from h338_ 23 (by decide), show g'324 23 = g'298 23 from h328_ 23 (by decide), show g'298 23 = g'215 23 from h303_ 23 (by decide), show g'215 23 = g'203 23 from h223_ 23 (by decide), show g'203 23 = g 23 from h208_ 23 (by decide)]) hrest) (by show (f 15).toInt + 0 = (f 15).toInt + 0 + 0; omega) (by show (f 20).toInt = (f 20).toInt; omega) (by show (f 37).toInt + -1 = z323.toInt + 0 + -1; omega) (by show (f 32).toInt + 0 = (f 32).toInt + 0 + 0; omega) (by show (f 5).toInt + -1 = (f 5).toInt + 0 + -1; omega)⟩⟩ : mg_good (g'343 34) (g'343 38) (g'343 23) (((1 : Int), (0 : Int), (0 : Int), (0 : Int), []) :: (((9 : Int), z305.toInt, (0 : Int), (0 : Int), (z201.toNatClampNeg :: fl)) :: gs)) ((f 15).toInt) ((f 20).toInt) (z323.toInt) ((f 32).toInt) ((f 5).toInt))
          · exact ⟨(by show 0 ≤ z317.toInt; omega), (by show z317.toInt ≤ (f 0).toInt; omega), (by show (f 0).toInt ≤ 512; omega), (by show 0 ≤ l212.toInt; omega), (by show l212.toInt + (f 20).toInt + mg_p1 (((1 : Int), (0 : Int), (0 : Int), (0 : Int), []) :: (((9 : Int), z305.toInt, (0 : Int), (0 : Int), (z201.toNatClampNeg :: fl)) :: gs)) ≤ 4 * z317.toInt; omega), (by show (f 20).toInt ≤ z317.toInt; omega), (by show (f 15).toInt + mg_p2 (((1 : Int), (0 : Int), (0 : Int), (0 : Int), []) :: (((9 : Int), z305.toInt, (0 : Int), (0 : Int), (z201.toNatClampNeg :: fl)) :: gs)) ≤ z317.toInt; omega), (by show mg_p3 (((1 : Int), (0 : Int), (0 : Int), (0 : Int), []) :: (((9 : Int), z305.toInt, (0 : Int), (0 : Int), (z201.toNatClampNeg :: fl)) :: gs)) ≤ 20 * z317.toInt + 20; omega), (by show 0 ≤ z296.toInt; omega), (by show z296.toInt + 3 * (f 20).toInt + mg_p4 (((1 : Int), (0 : Int), (0 : Int), (0 : Int), []) :: (((9 : Int), z305.toInt, (0 : Int), (0 : Int), (z201.toNatClampNeg :: fl)) :: gs)) ≤ 60 * z317.toInt + 60; omega), (by show 0 ≤ (f 62).toInt; omega), (by show (f 62).toInt + 64 * mj_n (g'343 16) (f 15).toNatClampNeg 3 ≤ 64 * z317.toInt; rw [show g'343 16 = g'334 16 from h347_ 16 (by decide), show g'334 16 = g'324 16 from h338_ 16 (by decide), show g'324 16 = g'298 16 from h328_ 16 (by decide), show g'298 16 = g'215 16 from h303_ 16 (by decide), show g'215 16 = g'203 16 from h223_ 16 (by decide), show g'203 16 = g 16 from h208_ 16 (by decide)]; omega), (by show 0 ≤ b214.toInt; omega), (by show b214.toInt ≤ z317.toInt; omega), (by show 0 ≤ (f 48).toInt; omega), (by show (f 48).toInt ≤ z317.toInt; omega), (by show 1 ≤ (f 53).toInt; omega), (by show (f 53).toInt ≤ z317.toInt + 1; omega), (by show 0 ≤ (f 19).toInt; omega), (by show (f 19).toInt ≤ 600; omega)⟩
          · show 100 * ((f 0).toInt - z317.toInt) + mg_p3 (((1 : Int), (0 : Int), (0 : Int), (0 : Int), []) :: (((9 : Int), z305.toInt, (0 : Int), (0 : Int), (z201.toNatClampNeg :: fl)) :: gs)) < 100 * ((f 0).toInt - (f 4).toInt) + (1 + mg_p3 gs); omega
    · refine am_e13f hi_249_12 (am_cF (m := r229.toInt) (n := (15 : Int)) rfl (by decide) c234) ?_
      refine am_e2 (v := 39) hi_249_15 rfl ?_
      refine am_e0 hi_249_16 ?_
      refine am_e32n (as := [.ref 39, .int 15]) (la := [some (.ref 39), some (.int 15)]) (rest := []) hi_249_18 (am_hd0 (M := 249) (by decide) 18) (Nat.le_of_ble_eq_true rfl) (Nat.le_of_ble_eq_true rfl) (show 2 ≤ am_P0.2.2.1 199 from by decide +kernel) rfl (am_recv_ok hS231.fs) rfl rfl (ct_leave (d := (d + 3)) hS231   (by show (0 : Int) ≤ (f 4).toInt; omega) (by show (f 0).toInt ≤ (16384 : Int); omega) (by show (0 : Int) ≤ (15 : Int); omega) (by show (0 : Int) ≤ (f 5).toInt; omega) (by show (f 5).toInt ≤ (48 : Int); omega)) ?_
      rintro v349 S350 (⟨z351, y352, hv353, hS354, h355, h356, h357⟩ | ⟨a359, b360, hv361, hS362⟩)
      · subst hv353
        have h355_ : z351.toInt = (f 4).toInt + 1 := h355
        have h356_ : (f 4).toInt < (f 0).toInt := h356
        have h357_ : y352.toInt = (f 5).toInt - 1 := h357
        replace hS354 : MS S0 S350 (upd (upd (upd (upd (upd (upd f 4 z351) 5 y352) 24 l212) 37 z213) 44 b214) 68 z201) g'215 := hS354
        have hR364 : RJ (upd (upd (upd (upd (upd (upd f 4 z351) 5 y352) 24 l212) 37 z213) 44 b214) 68 z201) g'215 gs bc1 fl tw.toInt ((f 68).toNatClampNeg :: [on.toInt.toNat]) := RJ.at hR226_ (by show (f 4).toInt ≤ z351.toInt; omega)
        show am_E _ _ _ _ [some (.ref 39), some (.int on), some (.int tw), some (.int r229), none] [.int 1] _ _
        refine am_e6i hi_249_21 ?_
        refine am_e2 (v := 39) hi_249_22 rfl ?_
        refine mm_20 (v := .ref 90) hS354 hi_249_23 rfl ?_
        refine am_e1 (v := on) hi_249_26 rfl ?_
        refine am_e2 (v := 39) hi_249_27 rfl ?_
        refine am_e32n (as := [.ref 39]) (la := [some (.ref 39)]) (rest := [.int on, .ref 90]) hi_249_28 (am_hd0 (M := 249) (by decide) 28) (Nat.le_of_ble_eq_true rfl) (Nat.le_of_ble_eq_true rfl) (show 1 ≤ am_P0.2.2.1 210 from by decide +kernel) rfl (am_recv_ok hS354.fs) rfl rfl (ct_here (d := (d + 6)) hS354 hR364  (by show (0 : Int) ≤ (f 32).toInt; omega) (by show (f 32).toInt ≤ (63 : Int); omega) (by show (f 53).toInt ≤ (4096 : Int); omega) (by show (0 : Int) ≤ z201.toInt; omega) (by show z201.toInt ≤ (65534 : Int); omega)) ?_
        rintro v365 S366 (⟨r367, hv368, hS369, h370, h371⟩)
        subst hv368
        have h370_ : (0 : Int) ≤ r367.toInt := h370
        have h371_ : r367.toInt ≤ z201.toInt := h371
        show am_E _ _ _ _ [some (.ref 39), some (.int on), some (.int tw), some (.int r229), none] [.int r367, .int on, .ref 90] _ _
        refine mm_26 hS369 ma_71 hi_249_31 (by decide) (by omega) (by omega) (fun h => nomatch h) ?_
        intro S373 hS374
        have hix683 : on.toNatClampNeg = on.toInt.toNat := by first | rfl | (rw [cl_toNat, cl_toNat]; omega)
        have hR375 : RJ (upd (upd (upd (upd (upd (upd f 4 z351) 5 y352) 24 l212) 37 z213) 44 b214) 68 z201) (upg g'215 71 on.toNatClampNeg r367) gs bc1 fl tw.toInt ((f 68).toNatClampNeg :: [on.toInt.toNat]) := by rw [hix683]; exact RJ.lead hR364 (RJ.pjn hR364 (show on.toInt.toNat ∈ _ from by simp only [List.mem_cons, true_or, or_true]))
        refine am_e2 (v := 39) hi_249_32 rfl ?_
        refine am_e1 (v := tw) hi_249_33 rfl ?_
        refine am_e32n (as := [.ref 39, .int tw]) (la := [some (.ref 39), some (.int tw), none, none]) (rest := []) hi_249_34 (am_hd0 (M := 249) (by decide) 34) (Nat.le_of_ble_eq_true rfl) (Nat.le_of_ble_eq_true rfl) (show 2 ≤ am_P0.2.2.1 250 from by decide +kernel) rfl (am_recv_ok hS374.fs) rfl rfl (ct_mend (d := (d + 5)) hS374 hR375 rfl (by show (0 : Int) ≤ (f 32).toInt; omega) (by show (f 32).toInt ≤ (63 : Int); omega) (by show (f 53).toInt ≤ (4096 : Int); omega) (by show (0 : Int) ≤ z201.toInt; omega) (by show z201.toInt ≤ (65534 : Int); omega)) ?_
        rintro v376 S377 (⟨g'378, hv379, hS380, hR382, h381⟩)
        subst hv379
        have h381_ : ∀ j, j ∉ [71] → g'378 j = (upg g'215 71 on.toNatClampNeg r367) j := h381
        have hR382_ : RJ (upd (upd (upd (upd (upd (upd f 4 z351) 5 y352) 24 l212) 37 z213) 44 b214) 68 z201) g'378 gs bc1 [] 0 ((f 68).toNatClampNeg :: [on.toInt.toNat]) := hR382
        show am_E _ _ _ _ [some (.ref 39), some (.int on), some (.int tw), some (.int r229), none] [] _ _
        refine am_e18 hi_249_37 ?_
        refine am_e35 hi_249_148 ?_
        show am_E _ _ _ _ [some (.ref 39), some (.int 8), some (.int on), some (.int tw), some (.int th)] [] _ _
        refine am_e18 hi_180_201 ?_
        refine am_e35 hi_180_371 ?_
        have q1 : mg_p1 gs = mg_p1 gs := rfl
        have q2 : mg_p2 gs = mg_p2 gs := rfl
        have q3 : mg_p3 gs = mg_p3 gs := rfl
        have q4 : mg_p4 gs = mg_p4 gs := rfl
        refine ⟨_, _, _, bc1, rfl, hS380, Or.inl ⟨⟨(RJ.fewer (pj' := []) hR382_ (fun _ h => nomatch h)), ?_, ?_⟩, rfl, ?_⟩⟩
        · exact (mg_cast (mg_good_ext _ _ _ _ _ _ (fun i _ => by show g'378 34 i = g 34 i; rw [show g'378 34 = g'215 34 from h381_ 34 (by decide), show g'215 34 = g'203 34 from h223_ 34 (by decide), show g'203 34 = g 34 from h208_ 34 (by decide)]) (fun i _ => by show g'378 38 i = g 38 i; rw [show g'378 38 = g'215 38 from h381_ 38 (by decide), show g'215 38 = g'203 38 from h223_ 38 (by decide), show g'203 38 = g 38 from h208_ 38 (by decide)]) (fun i _ => by show g'378 23 i = g 23 i; rw [show g'378 23 = g'215 23 from h381_ 23 (by decide), show g'215 23 = g'203 23 from h223_ 23 (by decide), show g'203 23 = g 23 from h208_ 23 (by decide)]) hrest) (by show (f 15).toInt + 0 = (f 15).toInt; omega) (by show (f 20).toInt = (f 20).toInt; omega) (by show (f 37).toInt + -1 = z213.toInt; omega) (by show (f 32).toInt + 0 = (f 32).toInt; omega) (by show (f 5).toInt + -1 = y352.toInt; omega) : mg_good (g'378 34) (g'378 38) (g'378 23) gs ((f 15).toInt) ((f 20).toInt) (z213.toInt) ((f 32).toInt) (y352.toInt))
        · exact ⟨(by show 0 ≤ z351.toInt; omega), (by show z351.toInt ≤ (f 0).toInt; omega), (by show (f 0).toInt ≤ 512; omega), (by show 0 ≤ l212.toInt; omega), (by show l212.toInt + (f 20).toInt + mg_p1 gs ≤ 4 * z351.toInt; omega), (by show (f 20).toInt ≤ z351.toInt; omega), (by show (f 15).toInt + mg_p2 gs ≤ z351.toInt; omega), (by show mg_p3 gs ≤ 20 * z351.toInt + 20; omega), (by show 0 ≤ z201.toInt; omega), (by show z201.toInt + 3 * (f 20).toInt + mg_p4 gs ≤ 60 * z351.toInt + 60; omega), (by show 0 ≤ (f 62).toInt; omega), (by show (f 62).toInt + 64 * mj_n (g'378 16) (f 15).toNatClampNeg 3 ≤ 64 * z351.toInt; rw [show g'378 16 = g'215 16 from h381_ 16 (by decide), show g'215 16 = g'203 16 from h223_ 16 (by decide), show g'203 16 = g 16 from h208_ 16 (by decide)]; omega), (by show 0 ≤ b214.toInt; omega), (by show b214.toInt ≤ z351.toInt; omega), (by show 0 ≤ (f 48).toInt; omega), (by show (f 48).toInt ≤ z351.toInt; omega), (by show 1 ≤ (f 53).toInt; omega), (by show (f 53).toInt ≤ z351.toInt + 1; omega), (by show 0 ≤ (f 19).toInt; omega), (by show (f 19).toInt ≤ 600; omega)⟩
        · show 100 * ((f 0).toInt - z351.toInt) + mg_p3 gs < 100 * ((f 0).toInt - (f 4).toInt) + (1 + mg_p3 gs); omega
      · subst hv361
        replace hS362 : MS S0 S350 (upd (upd (upd (upd (upd (upd (upd f 6 a359) 7 b360) 10 0) 24 l212) 37 z213) 44 b214) 68 z201) g'215 := hS362
        have hR383 := rj_clear0 hR226_
        have hR384 : RJ (upd (upd (upd (upd (upd (upd (upd f 6 a359) 7 b360) 10 0) 24 l212) 37 z213) 44 b214) 68 z201) g'215 [] bc1 [] 0 [] := hR383
        show am_E _ _ _ _ [some (.ref 39), some (.int on), some (.int tw), some (.int r229), none] [.int 0] _ _
        refine am_e6i hi_249_21 ?_
        refine am_e2 (v := 39) hi_249_22 rfl ?_
        refine mm_20 (v := .ref 90) hS362 hi_249_23 rfl ?_
        refine am_e1 (v := on) hi_249_26 rfl ?_
        refine am_e2 (v := 39) hi_249_27 rfl ?_
        refine am_e32n (as := [.ref 39]) (la := [some (.ref 39)]) (rest := [.int on, .ref 90]) hi_249_28 (am_hd0 (M := 249) (by decide) 28) (Nat.le_of_ble_eq_true rfl) (Nat.le_of_ble_eq_true rfl) (show 1 ≤ am_P0.2.2.1 210 from by decide +kernel) rfl (am_recv_ok hS362.fs) rfl rfl (ct_here (d := (d + 6)) hS362 hR384  (by show (0 : Int) ≤ (f 32).toInt; omega) (by show (f 32).toInt ≤ (63 : Int); omega) (by show (f 53).toInt ≤ (4096 : Int); omega) (by show (0 : Int) ≤ z201.toInt; omega) (by show z201.toInt ≤ (65534 : Int); omega)) ?_
        rintro v385 S386 (⟨r387, hv388, hS389, h390, h391⟩)
        subst hv388
        have h390_ : (0 : Int) ≤ r387.toInt := h390
        have h391_ : r387.toInt ≤ z201.toInt := h391
        show am_E _ _ _ _ [some (.ref 39), some (.int on), some (.int tw), some (.int r229), none] [.int r387, .int on, .ref 90] _ _
        refine mm_26 hS389 ma_71 hi_249_31 (by decide) (by omega) (by omega) (fun h => nomatch h) ?_
        intro S393 hS394
        have hix724 : on.toNatClampNeg = on.toInt.toNat := by first | rfl | (rw [cl_toNat, cl_toNat]; omega)
        have hR395 : RJ (upd (upd (upd (upd (upd (upd (upd f 6 a359) 7 b360) 10 0) 24 l212) 37 z213) 44 b214) 68 z201) (upg g'215 71 on.toNatClampNeg r387) [] bc1 [] 0 [] := by rw [hix724]; exact RJ.lead hR384 (RJ.pjn hR384 (show on.toInt.toNat ∈ _ from by simp only [List.mem_cons, true_or, or_true]))
        refine am_e2 (v := 39) hi_249_32 rfl ?_
        refine am_e1 (v := tw) hi_249_33 rfl ?_
        refine am_e32n (as := [.ref 39, .int tw]) (la := [some (.ref 39), some (.int tw), none, none]) (rest := []) hi_249_34 (am_hd0 (M := 249) (by decide) 34) (Nat.le_of_ble_eq_true rfl) (Nat.le_of_ble_eq_true rfl) (show 2 ≤ am_P0.2.2.1 250 from by decide +kernel) rfl (am_recv_ok hS394.fs) rfl rfl (ct_mend (d := (d + 5)) hS394 hR395 rfl (by show (0 : Int) ≤ (f 32).toInt; omega) (by show (f 32).toInt ≤ (63 : Int); omega) (by show (f 53).toInt ≤ (4096 : Int); omega) (by show (0 : Int) ≤ z201.toInt; omega) (by show z201.toInt ≤ (65534 : Int); omega)) ?_
        rintro v396 S397 (⟨g'398, hv399, hS400, hR402, h401⟩)
        subst hv399
        have h401_ : ∀ j, j ∉ [71] → g'398 j = (upg g'215 71 on.toNatClampNeg r387) j := h401
        have hR402_ : RJ (upd (upd (upd (upd (upd (upd (upd f 6 a359) 7 b360) 10 0) 24 l212) 37 z213) 44 b214) 68 z201) g'398 [] bc1 [] 0 [] := hR402
        show am_E _ _ _ _ [some (.ref 39), some (.int on), some (.int tw), some (.int r229), none] [] _ _
        refine am_e18 hi_249_37 ?_
        refine am_e35 hi_249_148 ?_
        show am_E _ _ _ _ [some (.ref 39), some (.int 8), some (.int on), some (.int tw), some (.int th)] [] _ _
        refine am_e18 hi_180_201 ?_
        refine am_e35 hi_180_371 ?_
        have hRc := rj_clear0 hR402_
        refine ⟨_, _, [], _, rfl, hS400, Or.inr ⟨hRc, rfl, (by show 0 ≤ (f 4).toInt; omega), (by show (f 4).toInt ≤ (f 0).toInt; omega), (by show 0 ≤ (f 32).toInt; omega), (by show (f 32).toInt ≤ 63; omega), (by show 1 ≤ (f 53).toInt; omega), (by show (f 53).toInt ≤ 600; omega), (by show 0 ≤ z201.toInt; omega), (by show z201.toInt ≤ 60000; omega), (by show 0 ≤ (f 48).toInt; omega), (by show (f 48).toInt ≤ 8000; omega), (by show 0 ≤ z213.toInt; omega), (by show z213.toInt ≤ 128; omega), (by show 0 ≤ (f 62).toInt; omega), (by show (f 62).toInt ≤ 65000; omega), (by show 0 ≤ (f 19).toInt; omega), (by show (f 19).toInt ≤ 600; omega)⟩⟩
set_option maxHeartbeats 16000000 in
theorem st_9 {sc : Nat × (Nat → Int32)} {d : Nat} {S0 S : am_S} {f : Nat → Int32} {g : Nat → Nat → Int32} {on : Int32} {tw : Int32} {th : Int32} {gs : List mg_E} {bc : List (List Nat)} {fl : List Nat} (hS : MS S0 S f g) (hR : RJ f g gs bc fl on.toInt []) (hrest : mg_good (g 34) (g 38) (g 23) gs ((f 15).toInt + 0) ((f 20).toInt) ((f 37).toInt + -1) ((f 32).toInt + 0) ((f 5).toInt + -1)) (p0 : 0 ≤ (f 4).toInt) (p1 : (f 4).toInt ≤ (f 0).toInt) (p2 : (f 0).toInt ≤ 512) (p3 : 0 ≤ (f 24).toInt) (p4 : (f 24).toInt + (f 20).toInt + mg_p1 gs ≤ 4 * (f 4).toInt) (p5 : (f 20).toInt ≤ (f 4).toInt) (p6 : (f 15).toInt + 0 + mg_p2 gs ≤ (f 4).toInt) (p7 : 1 + mg_p3 gs ≤ 20 * (f 4).toInt + 20) (p8 : 0 ≤ (f 68).toInt) (p9 : (f 68).toInt + 3 * (f 20).toInt + 0 + mg_p4 gs ≤ 60 * (f 4).toInt + 60) (p10 : 0 ≤ (f 62).toInt) (p11 : (f 62).toInt + 64 * mj_n (g 16) (f 15).toNatClampNeg 3 ≤ 64 * (f 4).toInt) (p12 : 0 ≤ (f 44).toInt) (p13 : (f 44).toInt ≤ (f 4).toInt) (p14 : 0 ≤ (f 48).toInt) (p15 : (f 48).toInt ≤ (f 4).toInt) (p16 : 1 ≤ (f 53).toInt) (p17 : (f 53).toInt ≤ (f 4).toInt + 1) (p18 : 0 ≤ (f 19).toInt) (p19 : (f 19).toInt ≤ 600) (p20 : 0 ≤ mg_p1 gs) (p21 : 0 ≤ mg_p2 gs) (p22 : 0 ≤ mg_p4 gs) (p23 : 0 ≤ (f 10).toInt) (p24 : (f 10).toInt ≤ mg_p3 gs) (p25 : 0 ≤ mj_n (g 16) (f 15).toNatClampNeg 3) (p26 : 0 ≤ (f 15).toInt) (p27 : 0 ≤ (f 20).toInt) (p28 : 1 ≤ (f 37).toInt) (p29 : 0 ≤ (f 32).toInt) (p30 : (f 32).toInt ≤ (f 5).toInt) (p31 : (f 5).toInt ≤ 48) (p32 : (f 37).toInt ≤ 2 * (f 5).toInt + 0) : am_E (am_PP sc) (d + 8) 180 0 [some (.ref 39), some (.int 9), some (.int on), some (.int tw), some (.int th)] [] S (am_N fun v S1 => ∃ (f' : Nat → Int32) (g' : Nat → Nat → Int32) (gs' : List mg_E) (bc' : List (List Nat)), v = none ∧ MS S0 S1 f' g' ∧ (mg_on f (100 * ((f 0).toInt - (f 4).toInt) + (1 + mg_p3 gs)) f' g' gs' bc' ∨ mg_off f f' g' bc')) := by
  have hbs := mg_basic hrest
  obtain ⟨c0, bc1, rfl⟩ := RJ.bcons hR (by omega)
  refine am_e1 (v := 9) hi_180_0 rfl ?_
  refine am_e0 hi_180_1 ?_
  refine am_e13t hi_180_3 (by decide) ?_
  refine am_e1 (v := 9) hi_180_14 rfl ?_
  refine am_e19 (t := 204) hi_180_15 (by decide) ?_
  refine am_e2 (v := 39) hi_180_204 rfl ?_
  refine am_e32w (as := [.ref 39]) (la := [some (.ref 39)]) (rest := []) hi_180_205 (am_hd0 (M := 180) (by decide) 205) (Nat.le_of_ble_eq_true rfl) (Nat.le_of_ble_eq_true rfl) (show 1 ≤ am_P0.2.2.1 242 from by decide +kernel) rfl (am_recv_ok hS.fs) rfl rfl ?_
  refine am_e2 (v := 39) hi_242_0 rfl ?_
  refine am_e32w (as := [.ref 39]) (la := [some (.ref 39)]) (rest := []) hi_242_1 (am_hd0 (M := 242) (by decide) 1) (Nat.le_of_ble_eq_true rfl) (Nat.le_of_ble_eq_true rfl) (show 1 ≤ am_P0.2.2.1 243 from by decide +kernel) rfl (am_recv_ok hS.fs) rfl rfl ?_
  refine am_e2 (v := 39) hi_243_0 rfl ?_
  refine mm_20 (v := .int (f 24)) hS hi_243_1 rfl ?_
  refine am_e2 (v := 39) hi_243_4 rfl ?_
  refine mm_20 (v := .ref 62) hS hi_243_5 rfl ?_
  refine am_e2 (v := 39) hi_243_8 rfl ?_
  refine mm_20 (v := .int (f 37)) hS hi_243_9 rfl ?_
  refine am_e0 hi_243_12 ?_
  obtain ⟨z0, hz0, tz0⟩ := am_subI (x := f 37) (y := 1) (m := (f 37).toInt) (n := (1 : Int)) rfl (by decide) (by omega) (by omega)
  refine am_e10 (z := z0) hi_243_13 hz0 ?_
  refine mm_25 hS ma_38 hi_243_14 (by decide) (by omega) (by omega) ?_
  show am_E _ _ _ _ [some (.ref 39)] [.int (g 38 z0.toNatClampNeg), .int (f 24)] _ _
  have r1 : 0 ≤ (g 38 z0.toNatClampNeg).toInt ∧ (g 38 z0.toNatClampNeg).toInt ≤ (f 24).toInt := RJ.bl (i := z0) hR (by omega) (by show z0.toInt < (f 37).toInt; omega)
  by_cases c2 : (f 24).toInt ≤ (g 38 z0.toNatClampNeg).toInt
  · refine am_e13t hi_243_15 (am_cT (m := (f 24).toInt) (n := (g 38 z0.toNatClampNeg).toInt) rfl rfl c2) ?_
    refine am_e0 hi_243_22 ?_
    refine am_e36 hi_243_23 (by decide) ?_
    show am_E _ _ _ _ [some (.ref 39)] [.int 0] _ _
    refine am_e12t hi_242_4 (by decide) ?_
    refine am_e2 (v := 39) hi_242_20 rfl ?_
    refine am_e32n (as := [.ref 39]) (la := [some (.ref 39), none, none]) (rest := []) hi_242_21 (am_hd0 (M := 242) (by decide) 21) (Nat.le_of_ble_eq_true rfl) (Nat.le_of_ble_eq_true rfl) (show 1 ≤ am_P0.2.2.1 224 from by decide +kernel) rfl (am_recv_ok hS.fs) rfl rfl (ct_dropBlock2 (d := (d + 6)) hS hR  (by show (0 : Int) ≤ (f 32).toInt; omega) (by show (f 32).toInt ≤ (63 : Int); omega) (by show (0 : Int) ≤ (f 48).toInt; omega) (by show (f 48).toInt ≤ (8192 : Int); omega) (by show (f 4).toInt ≤ (8192 : Int); omega) (by show (1 : Int) ≤ (f 37).toInt; omega) (by show (f 37).toInt ≤ (128 : Int); omega)) ?_
    rintro v3 S4 (⟨l5, z6, b7, g'8, hv9, hS10, hR19, h11, h12, h13, h14, h15, h16, h17, h18⟩)
    subst hv9
    have h11_ : z6.toInt = (f 37).toInt - 1 := h11
    have h12_ : (0 : Int) ≤ l5.toInt := h12
    have h13_ : l5.toInt ≤ (f 24).toInt := h13
    have h14_ : (0 : Int) ≤ b7.toInt := h14
    have h15_ : b7.toInt ≤ (f 4).toInt := h15
    have h16_ : ∀ j, j ∉ [52] → g'8 j = g j := h16
    have h17_ : (fl : List Nat) = [] → RJ (upd (upd (upd f 24 l5) 37 z6) 44 b7) g'8 gs bc1 c0 (g'8 43 z6.toNatClampNeg).toInt [] := h17
    have h18_ : l5 = g 38 z6.toNatClampNeg := h18
    have hR19_ : RJ (upd (upd (upd f 24 l5) 37 z6) 44 b7) g'8 gs bc1 fl on.toInt [] := hR19
    show am_E _ _ _ _ [some (.ref 39)] [] _ _
    refine am_e35 hi_242_24 ?_
    show am_E _ _ _ _ [some (.ref 39), some (.int 9), some (.int on), some (.int tw), some (.int th)] [] _ _
    refine am_e2 (v := 39) hi_180_208 rfl ?_
    refine am_e1 (v := on) hi_180_209 rfl ?_
    refine am_e32n (as := [.ref 39, .int on]) (la := [some (.ref 39), some (.int on), none, none]) (rest := []) hi_180_210 (am_hd0 (M := 180) (by decide) 210) (Nat.le_of_ble_eq_true rfl) (Nat.le_of_ble_eq_true rfl) (show 2 ≤ am_P0.2.2.1 250 from by decide +kernel) rfl (am_recv_ok hS10.fs) rfl rfl (ct_mend (d := (d + 6)) hS10 hR19_ rfl (by show (0 : Int) ≤ (f 32).toInt; omega) (by show (f 32).toInt ≤ (63 : Int); omega) (by show (f 53).toInt ≤ (4096 : Int); omega) (by show (0 : Int) ≤ (f 68).toInt; omega) (by show (f 68).toInt ≤ (65534 : Int); omega)) ?_
    rintro v20 S21 (⟨g'22, hv23, hS24, hR26, h25⟩)
    subst hv23
    have h25_ : ∀ j, j ∉ [71] → g'22 j = g'8 j := h25
    have hR26_ : RJ (upd (upd (upd f 24 l5) 37 z6) 44 b7) g'22 gs bc1 [] 0 [] := hR26
    show am_E _ _ _ _ [some (.ref 39), some (.int 9), some (.int on), some (.int tw), some (.int th)] [] _ _
    refine am_e2 (v := 39) hi_180_213 rfl ?_
    refine am_e0 hi_180_214 ?_
    refine am_e32n (as := [.ref 39, .int 15]) (la := [some (.ref 39), some (.int 15)]) (rest := []) hi_180_216 (am_hd0 (M := 180) (by decide) 216) (Nat.le_of_ble_eq_true rfl) (Nat.le_of_ble_eq_true rfl) (show 2 ≤ am_P0.2.2.1 199 from by decide +kernel) rfl (am_recv_ok hS24.fs) rfl rfl (ct_leave (d := (d + 4)) hS24   (by show (0 : Int) ≤ (f 4).toInt; omega) (by show (f 0).toInt ≤ (16384 : Int); omega) (by show (0 : Int) ≤ (15 : Int); omega) (by show (0 : Int) ≤ (f 5).toInt; omega) (by show (f 5).toInt ≤ (48 : Int); omega)) ?_
    rintro v27 S28 (⟨z29, y30, hv31, hS32, h33, h34, h35⟩ | ⟨a37, b38, hv39, hS40⟩)
    · subst hv31
      have h33_ : z29.toInt = (f 4).toInt + 1 := h33
      have h34_ : (f 4).toInt < (f 0).toInt := h34
      have h35_ : y30.toInt = (f 5).toInt - 1 := h35
      replace hS32 : MS S0 S28 (upd (upd (upd (upd (upd f 4 z29) 5 y30) 24 l5) 37 z6) 44 b7) g'22 := hS32
      have hR42 : RJ (upd (upd (upd (upd (upd f 4 z29) 5 y30) 24 l5) 37 z6) 44 b7) g'22 gs bc1 [] 0 [] := RJ.at hR26_ (by show (f 4).toInt ≤ z29.toInt; omega)
      show am_E _ _ _ _ [some (.ref 39), some (.int 9), some (.int on), some (.int tw), some (.int th)] [.int 1] _ _
      refine am_e6i hi_180_219 ?_
      refine am_e18 hi_180_220 ?_
      refine am_e35 hi_180_371 ?_
      have q1 : mg_p1 gs = mg_p1 gs := rfl
      have q2 : mg_p2 gs = mg_p2 gs := rfl
      have q3 : mg_p3 gs = mg_p3 gs := rfl
      have q4 : mg_p4 gs = mg_p4 gs := rfl
      refine ⟨_, _, _, bc1, rfl, hS32, Or.inl ⟨⟨hR42, ?_, ?_⟩, rfl, ?_⟩⟩
      · exact (mg_cast (mg_good_ext _ _ _ _ _ _ (fun i _ => by show g'22 34 i = g 34 i; rw [show g'22 34 = g'8 34 from h25_ 34 (by decide), show g'8 34 = g 34 from h16_ 34 (by decide)]) (fun i _ => by show g'22 38 i = g 38 i; rw [show g'22 38 = g'8 38 from h25_ 38 (by decide), show g'8 38 = g 38 from h16_ 38 (by decide)]) (fun i _ => by show g'22 23 i = g 23 i; rw [show g'22 23 = g'8 23 from h25_ 23 (by decide), show g'8 23 = g 23 from h16_ 23 (by decide)]) hrest) (by show (f 15).toInt + 0 = (f 15).toInt; omega) (by show (f 20).toInt = (f 20).toInt; omega) (by show (f 37).toInt + -1 = z6.toInt; omega) (by show (f 32).toInt + 0 = (f 32).toInt; omega) (by show (f 5).toInt + -1 = y30.toInt; omega) : mg_good (g'22 34) (g'22 38) (g'22 23) gs ((f 15).toInt) ((f 20).toInt) (z6.toInt) ((f 32).toInt) (y30.toInt))
      · exact ⟨(by show 0 ≤ z29.toInt; omega), (by show z29.toInt ≤ (f 0).toInt; omega), (by show (f 0).toInt ≤ 512; omega), (by show 0 ≤ l5.toInt; omega), (by show l5.toInt + (f 20).toInt + mg_p1 gs ≤ 4 * z29.toInt; omega), (by show (f 20).toInt ≤ z29.toInt; omega), (by show (f 15).toInt + mg_p2 gs ≤ z29.toInt; omega), (by show mg_p3 gs ≤ 20 * z29.toInt + 20; omega), (by show 0 ≤ (f 68).toInt; omega), (by show (f 68).toInt + 3 * (f 20).toInt + mg_p4 gs ≤ 60 * z29.toInt + 60; omega), (by show 0 ≤ (f 62).toInt; omega), (by show (f 62).toInt + 64 * mj_n (g'22 16) (f 15).toNatClampNeg 3 ≤ 64 * z29.toInt; rw [show g'22 16 = g'8 16 from h25_ 16 (by decide), show g'8 16 = g 16 from h16_ 16 (by decide)]; omega), (by show 0 ≤ b7.toInt; omega), (by show b7.toInt ≤ z29.toInt; omega), (by show 0 ≤ (f 48).toInt; omega), (by show (f 48).toInt ≤ z29.toInt; omega), (by show 1 ≤ (f 53).toInt; omega), (by show (f 53).toInt ≤ z29.toInt + 1; omega), (by show 0 ≤ (f 19).toInt; omega), (by show (f 19).toInt ≤ 600; omega)⟩
      · show 100 * ((f 0).toInt - z29.toInt) + mg_p3 gs < 100 * ((f 0).toInt - (f 4).toInt) + (1 + mg_p3 gs); omega
    · subst hv39
      replace hS40 : MS S0 S28 (upd (upd (upd (upd (upd (upd f 6 a37) 7 b38) 10 0) 24 l5) 37 z6) 44 b7) g'22 := hS40
      have hR43 := rj_clear0 hR26_
      have hR44 : RJ (upd (upd (upd (upd (upd (upd f 6 a37) 7 b38) 10 0) 24 l5) 37 z6) 44 b7) g'22 [] bc1 [] 0 [] := hR43
      show am_E _ _ _ _ [some (.ref 39), some (.int 9), some (.int on), some (.int tw), some (.int th)] [.int 0] _ _
      refine am_e6i hi_180_219 ?_
      refine am_e18 hi_180_220 ?_
      refine am_e35 hi_180_371 ?_
      have hRc := rj_clear0 hR44
      refine ⟨_, _, [], _, rfl, hS40, Or.inr ⟨hRc, rfl, (by show 0 ≤ (f 4).toInt; omega), (by show (f 4).toInt ≤ (f 0).toInt; omega), (by show 0 ≤ (f 32).toInt; omega), (by show (f 32).toInt ≤ 63; omega), (by show 1 ≤ (f 53).toInt; omega), (by show (f 53).toInt ≤ 600; omega), (by show 0 ≤ (f 68).toInt; omega), (by show (f 68).toInt ≤ 60000; omega), (by show 0 ≤ (f 48).toInt; omega), (by show (f 48).toInt ≤ 8000; omega), (by show 0 ≤ z6.toInt; omega), (by show z6.toInt ≤ 128; omega), (by show 0 ≤ (f 62).toInt; omega), (by show (f 62).toInt ≤ 65000; omega), (by show 0 ≤ (f 19).toInt; omega), (by show (f 19).toInt ≤ 600; omega)⟩⟩
  · refine am_e13f hi_243_15 (am_cF (m := (f 24).toInt) (n := (g 38 z0.toNatClampNeg).toInt) rfl rfl c2) ?_
    refine am_e0 hi_243_18 ?_
    refine am_e18 hi_243_19 ?_
    refine am_e36 hi_243_23 (by decide) ?_
    show am_E _ _ _ _ [some (.ref 39)] [.int 1] _ _
    refine am_e12f hi_242_4 (by decide) ?_
    refine am_e2 (v := 39) hi_242_7 rfl ?_
    refine am_e0 hi_242_8 ?_
    refine am_e2 (v := 39) hi_242_10 rfl ?_
    refine am_e32w (as := [.ref 39]) (la := [some (.ref 39)]) (rest := [.int 33, .ref 39]) hi_242_11 (am_hd0 (M := 242) (by decide) 11) (Nat.le_of_ble_eq_true rfl) (Nat.le_of_ble_eq_true rfl) (show 1 ≤ am_P0.2.2.1 232 from by decide +kernel) rfl (am_recv_ok hS.fs) rfl rfl ?_
    refine am_e2 (v := 39) hi_232_0 rfl ?_
    refine mm_20 (v := .ref 62) hS hi_232_1 rfl ?_
    refine am_e2 (v := 39) hi_232_4 rfl ?_
    refine mm_20 (v := .int (f 37)) hS hi_232_5 rfl ?_
    refine am_e0 hi_232_8 ?_
    refine am_e10 (z := z0) hi_232_9 hz0 ?_
    refine mm_25 hS ma_38 hi_232_10 (by decide) (by omega) (by omega) ?_
    show am_E _ _ _ _ [some (.ref 39)] [.int (g 38 z0.toNatClampNeg)] _ _
    have r45 : 0 ≤ (g 38 z0.toNatClampNeg).toInt ∧ (g 38 z0.toNatClampNeg).toInt ≤ (f 24).toInt := RJ.bl (i := z0) hR (by omega) (by show z0.toInt < (f 37).toInt; omega)
    refine am_e2 (v := 39) hi_232_11 rfl ?_
    refine mm_20 (v := .ref 59) hS hi_232_12 rfl ?_
    refine am_e2 (v := 39) hi_232_15 rfl ?_
    refine mm_20 (v := .int (f 32)) hS hi_232_16 rfl ?_
    refine mm_25 hS ma_34 hi_232_19 (by decide) (by omega) (by omega) ?_
    show am_E _ _ _ _ [some (.ref 39)] [.int (g 34 (f 32).toNatClampNeg), .int (g 38 z0.toNatClampNeg)] _ _
    have r46 : 0 ≤ (g 34 (f 32).toNatClampNeg).toInt := RJ.ba hR (f 32).toNatClampNeg
    obtain ⟨z47, hz47⟩ : ∃ q__, am_bin 1 (g 38 z0.toNatClampNeg) (g 34 (f 32).toNatClampNeg) = q__ := ⟨_, rfl⟩
    refine am_e10 (z := z47) hi_232_20 hz47 ?_
    refine am_e33 hi_232_21 ?_
    show am_E _ _ _ _ [some (.ref 39)] [.int z47, .int 33, .ref 39] _ _
    refine am_e0 hi_242_14 ?_
    refine am_e0 hi_242_15 ?_
    refine am_e32n (as := [.ref 39, .int 33, .int z47, .int 0, .int 0]) (la := [some (.ref 39), some (.int 33), some (.int z47), some (.int 0), some (.int 0)]) (rest := []) hi_242_16 (am_hd0 (M := 242) (by decide) 16) (Nat.le_of_ble_eq_true rfl) (Nat.le_of_ble_eq_true rfl) (show 5 ≤ am_P0.2.2.1 189 from by decide +kernel) rfl (am_recv_ok hS.fs) rfl rfl (ct_put (d := (d + 6)) hS hR  (by show (0 : Int) ≤ (f 32).toInt; omega) (by show (f 32).toInt ≤ (63 : Int); omega) (by show (f 53).toInt ≤ (4096 : Int); omega) (by show (0 : Int) ≤ (f 68).toInt; omega) (by show (f 68).toInt ≤ (65534 : Int); omega)) ?_
    rintro v48 S49 (⟨z50, r51, g'52, hv53, hS54, hR58, h55, h56, h57⟩)
    subst hv53
    have h55_ : z50.toInt = (f 68).toInt + 1 := h55
    have h56_ : r51.toInt = (f 68).toInt := h56
    have h57_ : ∀ j, j ∉ [60, 69, 70, 71, 72, 73] → g'52 j = g j := h57
    have hR58_ : RJ (upd f 68 z50) g'52 gs (c0 :: bc1) fl on.toInt ((f 68).toNatClampNeg :: []) := hR58
    show am_E _ _ _ _ [some (.ref 39)] [.int r51] _ _
    refine am_e6i hi_242_19 ?_
    refine am_e2 (v := 39) hi_242_20 rfl ?_
    refine am_e32n (as := [.ref 39]) (la := [some (.ref 39), none, none]) (rest := []) hi_242_21 (am_hd0 (M := 242) (by decide) 21) (Nat.le_of_ble_eq_true rfl) (Nat.le_of_ble_eq_true rfl) (show 1 ≤ am_P0.2.2.1 224 from by decide +kernel) rfl (am_recv_ok hS54.fs) rfl rfl (ct_dropBlock2 (d := (d + 6)) hS54 hR58_  (by show (0 : Int) ≤ (f 32).toInt; omega) (by show (f 32).toInt ≤ (63 : Int); omega) (by show (0 : Int) ≤ (f 48).toInt; omega) (by show (f 48).toInt ≤ (8192 : Int); omega) (by show (f 4).toInt ≤ (8192 : Int); omega) (by show (1 : Int) ≤ (f 37).toInt; omega) (by show (f 37).toInt ≤ (128 : Int); omega)) ?_
    rintro v59 S60 (⟨l61, z62, b63, g'64, hv65, hS66, hR75, h67, h68, h69, h70, h71, h72, h73, h74⟩)
    subst hv65
    have h67_ : z62.toInt = (f 37).toInt - 1 := h67
    have h68_ : (0 : Int) ≤ l61.toInt := h68
    have h69_ : l61.toInt ≤ (f 24).toInt := h69
    have h70_ : (0 : Int) ≤ b63.toInt := h70
    have h71_ : b63.toInt ≤ (f 4).toInt := h71
    have h72_ : ∀ j, j ∉ [52] → g'64 j = g'52 j := h72
    have h73_ : (fl : List Nat) = [] → RJ (upd (upd (upd (upd f 24 l61) 37 z62) 44 b63) 68 z50) g'64 gs bc1 c0 (g'64 43 z62.toNatClampNeg).toInt ((f 68).toNatClampNeg :: []) := h73
    have h74_ : l61 = g'52 38 z62.toNatClampNeg := h74
    replace hS66 : MS S0 S60 (upd (upd (upd (upd f 24 l61) 37 z62) 44 b63) 68 z50) g'64 := hS66
    have hR75_ : RJ (upd (upd (upd (upd f 24 l61) 37 z62) 44 b63) 68 z50) g'64 gs bc1 fl on.toInt ((f 68).toNatClampNeg :: []) := hR75
    show am_E _ _ _ _ [some (.ref 39)] [] _ _
    refine am_e35 hi_242_24 ?_
    show am_E _ _ _ _ [some (.ref 39), some (.int 9), some (.int on), some (.int tw), some (.int th)] [] _ _
    refine am_e2 (v := 39) hi_180_208 rfl ?_
    refine am_e1 (v := on) hi_180_209 rfl ?_
    refine am_e32n (as := [.ref 39, .int on]) (la := [some (.ref 39), some (.int on), none, none]) (rest := []) hi_180_210 (am_hd0 (M := 180) (by decide) 210) (Nat.le_of_ble_eq_true rfl) (Nat.le_of_ble_eq_true rfl) (show 2 ≤ am_P0.2.2.1 250 from by decide +kernel) rfl (am_recv_ok hS66.fs) rfl rfl (ct_mend (d := (d + 6)) hS66 hR75_ rfl (by show (0 : Int) ≤ (f 32).toInt; omega) (by show (f 32).toInt ≤ (63 : Int); omega) (by show (f 53).toInt ≤ (4096 : Int); omega) (by show (0 : Int) ≤ z50.toInt; omega) (by show z50.toInt ≤ (65534 : Int); omega)) ?_
    rintro v76 S77 (⟨g'78, hv79, hS80, hR82, h81⟩)
    subst hv79
    have h81_ : ∀ j, j ∉ [71] → g'78 j = g'64 j := h81
    have hR82_ : RJ (upd (upd (upd (upd f 24 l61) 37 z62) 44 b63) 68 z50) g'78 gs bc1 [] 0 ((f 68).toNatClampNeg :: []) := hR82
    show am_E _ _ _ _ [some (.ref 39), some (.int 9), some (.int on), some (.int tw), some (.int th)] [] _ _
    refine am_e2 (v := 39) hi_180_213 rfl ?_
    refine am_e0 hi_180_214 ?_
    refine am_e32n (as := [.ref 39, .int 15]) (la := [some (.ref 39), some (.int 15)]) (rest := []) hi_180_216 (am_hd0 (M := 180) (by decide) 216) (Nat.le_of_ble_eq_true rfl) (Nat.le_of_ble_eq_true rfl) (show 2 ≤ am_P0.2.2.1 199 from by decide +kernel) rfl (am_recv_ok hS80.fs) rfl rfl (ct_leave (d := (d + 4)) hS80   (by show (0 : Int) ≤ (f 4).toInt; omega) (by show (f 0).toInt ≤ (16384 : Int); omega) (by show (0 : Int) ≤ (15 : Int); omega) (by show (0 : Int) ≤ (f 5).toInt; omega) (by show (f 5).toInt ≤ (48 : Int); omega)) ?_
    rintro v83 S84 (⟨z85, y86, hv87, hS88, h89, h90, h91⟩ | ⟨a93, b94, hv95, hS96⟩)
    · subst hv87
      have h89_ : z85.toInt = (f 4).toInt + 1 := h89
      have h90_ : (f 4).toInt < (f 0).toInt := h90
      have h91_ : y86.toInt = (f 5).toInt - 1 := h91
      replace hS88 : MS S0 S84 (upd (upd (upd (upd (upd (upd f 4 z85) 5 y86) 24 l61) 37 z62) 44 b63) 68 z50) g'78 := hS88
      have hR98 : RJ (upd (upd (upd (upd (upd (upd f 4 z85) 5 y86) 24 l61) 37 z62) 44 b63) 68 z50) g'78 gs bc1 [] 0 ((f 68).toNatClampNeg :: []) := RJ.at hR82_ (by show (f 4).toInt ≤ z85.toInt; omega)
      show am_E _ _ _ _ [some (.ref 39), some (.int 9), some (.int on), some (.int tw), some (.int th)] [.int 1] _ _
      refine am_e6i hi_180_219 ?_
      refine am_e18 hi_180_220 ?_
      refine am_e35 hi_180_371 ?_
      have q1 : mg_p1 gs = mg_p1 gs := rfl
      have q2 : mg_p2 gs = mg_p2 gs := rfl
      have q3 : mg_p3 gs = mg_p3 gs := rfl
      have q4 : mg_p4 gs = mg_p4 gs := rfl
      refine ⟨_, _, _, bc1, rfl, hS88, Or.inl ⟨⟨(RJ.fewer (pj' := []) hR98 (fun _ h => nomatch h)), ?_, ?_⟩, rfl, ?_⟩⟩
      · exact (mg_cast (mg_good_ext _ _ _ _ _ _ (fun i _ => by show g'78 34 i = g 34 i; rw [show g'78 34 = g'64 34 from h81_ 34 (by decide), show g'64 34 = g'52 34 from h72_ 34 (by decide), show g'52 34 = g 34 from h57_ 34 (by decide)]) (fun i _ => by show g'78 38 i = g 38 i; rw [show g'78 38 = g'64 38 from h81_ 38 (by decide), show g'64 38 = g'52 38 from h72_ 38 (by decide), show g'52 38 = g 38 from h57_ 38 (by decide)]) (fun i _ => by show g'78 23 i = g 23 i; rw [show g'78 23 = g'64 23 from h81_ 23 (by decide), show g'64 23 = g'52 23 from h72_ 23 (by decide), show g'52 23 = g 23 from h57_ 23 (by decide)]) hrest) (by show (f 15).toInt + 0 = (f 15).toInt; omega) (by show (f 20).toInt = (f 20).toInt; omega) (by show (f 37).toInt + -1 = z62.toInt; omega) (by show (f 32).toInt + 0 = (f 32).toInt; omega) (by show (f 5).toInt + -1 = y86.toInt; omega) : mg_good (g'78 34) (g'78 38) (g'78 23) gs ((f 15).toInt) ((f 20).toInt) (z62.toInt) ((f 32).toInt) (y86.toInt))
      · exact ⟨(by show 0 ≤ z85.toInt; omega), (by show z85.toInt ≤ (f 0).toInt; omega), (by show (f 0).toInt ≤ 512; omega), (by show 0 ≤ l61.toInt; omega), (by show l61.toInt + (f 20).toInt + mg_p1 gs ≤ 4 * z85.toInt; omega), (by show (f 20).toInt ≤ z85.toInt; omega), (by show (f 15).toInt + mg_p2 gs ≤ z85.toInt; omega), (by show mg_p3 gs ≤ 20 * z85.toInt + 20; omega), (by show 0 ≤ z50.toInt; omega), (by show z50.toInt + 3 * (f 20).toInt + mg_p4 gs ≤ 60 * z85.toInt + 60; omega), (by show 0 ≤ (f 62).toInt; omega), (by show (f 62).toInt + 64 * mj_n (g'78 16) (f 15).toNatClampNeg 3 ≤ 64 * z85.toInt; rw [show g'78 16 = g'64 16 from h81_ 16 (by decide), show g'64 16 = g'52 16 from h72_ 16 (by decide), show g'52 16 = g 16 from h57_ 16 (by decide)]; omega), (by show 0 ≤ b63.toInt; omega), (by show b63.toInt ≤ z85.toInt; omega), (by show 0 ≤ (f 48).toInt; omega), (by show (f 48).toInt ≤ z85.toInt; omega), (by show 1 ≤ (f 53).toInt; omega), (by show (f 53).toInt ≤ z85.toInt + 1; omega), (by show 0 ≤ (f 19).toInt; omega), (by show (f 19).toInt ≤ 600; omega)⟩
      · show 100 * ((f 0).toInt - z85.toInt) + mg_p3 gs < 100 * ((f 0).toInt - (f 4).toInt) + (1 + mg_p3 gs); omega
    · subst hv95
      replace hS96 : MS S0 S84 (upd (upd (upd (upd (upd (upd (upd f 6 a93) 7 b94) 10 0) 24 l61) 37 z62) 44 b63) 68 z50) g'78 := hS96
      have hR99 := rj_clear0 hR82_
      have hR100 : RJ (upd (upd (upd (upd (upd (upd (upd f 6 a93) 7 b94) 10 0) 24 l61) 37 z62) 44 b63) 68 z50) g'78 [] bc1 [] 0 [] := hR99
      show am_E _ _ _ _ [some (.ref 39), some (.int 9), some (.int on), some (.int tw), some (.int th)] [.int 0] _ _
      refine am_e6i hi_180_219 ?_
      refine am_e18 hi_180_220 ?_
      refine am_e35 hi_180_371 ?_
      have hRc := rj_clear0 hR100
      refine ⟨_, _, [], _, rfl, hS96, Or.inr ⟨hRc, rfl, (by show 0 ≤ (f 4).toInt; omega), (by show (f 4).toInt ≤ (f 0).toInt; omega), (by show 0 ≤ (f 32).toInt; omega), (by show (f 32).toInt ≤ 63; omega), (by show 1 ≤ (f 53).toInt; omega), (by show (f 53).toInt ≤ 600; omega), (by show 0 ≤ z50.toInt; omega), (by show z50.toInt ≤ 60000; omega), (by show 0 ≤ (f 48).toInt; omega), (by show (f 48).toInt ≤ 8000; omega), (by show 0 ≤ z62.toInt; omega), (by show z62.toInt ≤ 128; omega), (by show 0 ≤ (f 62).toInt; omega), (by show (f 62).toInt ≤ 65000; omega), (by show 0 ≤ (f 19).toInt; omega), (by show (f 19).toInt ≤ 600; omega)⟩⟩
