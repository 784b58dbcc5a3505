/-! STEPS: parts closed (printed by wip/p2/st2.py) -/
set_option maxHeartbeats 16000000 in
theorem st_8 {sc : Nat × (Nat → Int32)} {d : Nat} {S0 S : am_S} {f : Nat → Int32} {g : Nat → Nat → Int32} {on : Int32} {tw : Int32} {th : Int32} {gs : List mg_E} {bc : List (List Nat)} {fl : List Nat} (hS : MS S0 S f g) (hR : RJ f g gs bc fl tw.toInt [on.toInt.toNat]) (hrest : mg_good (g 34) (g 38) (g 23) gs ((f 15).toInt + 0) ((f 20).toInt) ((f 37).toInt + -1) ((f 32).toInt + 0) ((f 5).toInt + -1)) (p0 : 0 ≤ (f 4).toInt) (p1 : (f 4).toInt ≤ (f 0).toInt) (p2 : (f 0).toInt ≤ 512) (p3 : 0 ≤ (f 24).toInt) (p4 : (f 24).toInt + (f 20).toInt + mg_p1 gs ≤ 4 * (f 4).toInt) (p5 : (f 20).toInt ≤ (f 4).toInt) (p6 : (f 15).toInt + 0 + mg_p2 gs ≤ (f 4).toInt) (p7 : 1 + mg_p3 gs ≤ 20 * (f 4).toInt + 20) (p8 : 0 ≤ (f 68).toInt) (p9 : (f 68).toInt + 3 * (f 20).toInt + 0 + mg_p4 gs ≤ 60 * (f 4).toInt + 60) (p10 : 0 ≤ (f 62).toInt) (p11 : (f 62).toInt + 64 * mj_n (g 16) (f 15).toNatClampNeg 3 ≤ 64 * (f 4).toInt) (p12 : 0 ≤ (f 44).toInt) (p13 : (f 44).toInt ≤ (f 4).toInt) (p14 : 0 ≤ (f 48).toInt) (p15 : (f 48).toInt ≤ (f 4).toInt) (p16 : 1 ≤ (f 53).toInt) (p17 : (f 53).toInt ≤ (f 4).toInt + 1) (p18 : 0 ≤ (f 19).toInt) (p19 : (f 19).toInt ≤ 600) (p20 : 0 ≤ (f 6).toInt) (p21 : 0 ≤ (f 8).toInt) (p22 : 0 ≤ mg_p1 gs) (p23 : 0 ≤ mg_p2 gs) (p24 : 0 ≤ mg_p4 gs) (p25 : 0 ≤ (f 10).toInt) (p26 : (f 10).toInt ≤ mg_p3 gs) (p27 : 0 ≤ mj_n (g 16) (f 15).toNatClampNeg 3) (p28 : 0 ≤ (f 15).toInt) (p29 : 0 ≤ (f 20).toInt) (p30 : 1 ≤ (f 37).toInt) (p31 : 0 ≤ (f 32).toInt) (p32 : (f 32).toInt ≤ (f 5).toInt) (p33 : (f 5).toInt ≤ 48) (p34 : (f 37).toInt ≤ 2 * (f 5).toInt + 0) (p35 : 0 ≤ on.toInt) (p36 : on.toInt < (f 68).toInt) : am_E (am_PP sc) (d + 8) 180 0 [some (.ref 39), some (.int 8), some (.int on), some (.int tw), some (.int th)] [] S (am_N fun v S1 => ∃ (f' : Nat → Int32) (g' : Nat → Nat → Int32) (gs' : List mg_E) (bc' : List (List Nat)), v = none ∧ MS S0 S1 f' g' ∧ (mg_on f (100 * ((f 0).toInt - (f 4).toInt) + (1 + mg_p3 gs)) f' g' gs' bc' ∨ mg_off f f' g' bc')) := by
  have hbs := mg_basic hrest
  obtain ⟨c0, bc1, rfl⟩ := RJ.bcons hR (by omega)
  refine am_e1 (v := 8) hi_180_0 rfl ?_
  refine am_e0 hi_180_1 ?_
  refine am_e13t hi_180_3 (by decide) ?_
  refine am_e1 (v := 8) hi_180_14 rfl ?_
  refine am_e19 (t := 195) hi_180_15 (by decide) ?_
  refine am_e2 (v := 39) hi_180_195 rfl ?_
  refine am_e1 (v := on) hi_180_196 rfl ?_
  refine am_e1 (v := tw) hi_180_197 rfl ?_
  refine am_e32w (as := [.ref 39, .int on, .int tw]) (la := [some (.ref 39), some (.int on), some (.int tw), none, none]) (rest := []) hi_180_198 (am_hd0 (M := 180) (by decide) 198) (Nat.le_of_ble_eq_true rfl) (Nat.le_of_ble_eq_true rfl) (show 3 ≤ am_P0.2.2.1 249 from by decide +kernel) rfl (am_recv_ok hS.fs) rfl rfl ?_
  refine am_e2 (v := 39) hi_249_0 rfl ?_
  refine am_e32w (as := [.ref 39]) (la := [some (.ref 39)]) (rest := []) hi_249_1 (am_hd0 (M := 249) (by decide) 1) (Nat.le_of_ble_eq_true rfl) (Nat.le_of_ble_eq_true rfl) (show 1 ≤ am_P0.2.2.1 242 from by decide +kernel) rfl (am_recv_ok hS.fs) rfl rfl ?_
  refine am_e2 (v := 39) hi_242_0 rfl ?_
  refine am_e32w (as := [.ref 39]) (la := [some (.ref 39)]) (rest := []) hi_242_1 (am_hd0 (M := 242) (by decide) 1) (Nat.le_of_ble_eq_true rfl) (Nat.le_of_ble_eq_true rfl) (show 1 ≤ am_P0.2.2.1 243 from by decide +kernel) rfl (am_recv_ok hS.fs) rfl rfl ?_
  refine am_e2 (v := 39) hi_243_0 rfl ?_
  refine mm_20 (v := .int (f 24)) hS hi_243_1 rfl ?_
  refine am_e2 (v := 39) hi_243_4 rfl ?_
  refine mm_20 (v := .ref 62) hS hi_243_5 rfl ?_
  refine am_e2 (v := 39) hi_243_8 rfl ?_
  refine mm_20 (v := .int (f 37)) hS hi_243_9 rfl ?_
  refine am_e0 hi_243_12 ?_
  obtain ⟨z0, hz0, tz0⟩ := am_subI (x := f 37) (y := 1) (m := (f 37).toInt) (n := (1 : Int)) rfl (by decide) (by omega) (by omega)
  refine am_e10 (z := z0) hi_243_13 hz0 ?_
  refine mm_25 hS ma_38 hi_243_14 (by decide) (by omega) (by omega) ?_
  show am_E _ _ _ _ [some (.ref 39)] [.int (g 38 z0.toNatClampNeg), .int (f 24)] _ _
  have r1 : 0 ≤ (g 38 z0.toNatClampNeg).toInt ∧ (g 38 z0.toNatClampNeg).toInt ≤ (f 24).toInt := RJ.bl (i := z0) hR (by omega) (by show z0.toInt < (f 37).toInt; omega)
  by_cases c2 : (f 24).toInt ≤ (g 38 z0.toNatClampNeg).toInt
  · refine am_e13t hi_243_15 (am_cT (m := (f 24).toInt) (n := (g 38 z0.toNatClampNeg).toInt) rfl rfl c2) ?_
    refine am_e0 hi_243_22 ?_
    refine am_e36 hi_243_23 (by decide) ?_
    show am_E _ _ _ _ [some (.ref 39)] [.int 0] _ _
    refine am_e12t hi_242_4 (by decide) ?_
    refine am_e2 (v := 39) hi_242_20 rfl ?_
    refine am_e32n (as := [.ref 39]) (la := [some (.ref 39), none, none]) (rest := []) hi_242_21 (am_hd0 (M := 242) (by decide) 21) (Nat.le_of_ble_eq_true rfl) (Nat.le_of_ble_eq_true rfl) (show 1 ≤ am_P0.2.2.1 224 from by decide +kernel) rfl (am_recv_ok hS.fs) rfl rfl (ct_dropBlock2 (d := (d + 5)) hS hR  (by show (0 : Int) ≤ (f 32).toInt; omega) (by show (f 32).toInt ≤ (63 : Int); omega) (by show (0 : Int) ≤ (f 48).toInt; omega) (by show (f 48).toInt ≤ (8192 : Int); omega) (by show (f 4).toInt ≤ (8192 : Int); omega) (by show (1 : Int) ≤ (f 37).toInt; omega) (by show (f 37).toInt ≤ (128 : Int); omega)) ?_
    rintro v3 S4 (⟨l5, z6, b7, g'8, hv9, hS10, hR19, h11, h12, h13, h14, h15, h16, h17, h18⟩)
    subst hv9
    have h11_ : z6.toInt = (f 37).toInt - 1 := h11
    have h12_ : (0 : Int) ≤ l5.toInt := h12
    have h13_ : l5.toInt ≤ (f 24).toInt := h13
    have h14_ : (0 : Int) ≤ b7.toInt := h14
    have h15_ : b7.toInt ≤ (f 4).toInt := h15
    have h16_ : ∀ j, j ∉ [52] → g'8 j = g j := h16
    have h17_ : (fl : List Nat) = [] → RJ (upd (upd (upd f 24 l5) 37 z6) 44 b7) g'8 gs bc1 c0 (g'8 43 z6.toNatClampNeg).toInt [on.toInt.toNat] := h17
    have h18_ : l5 = g 38 z6.toNatClampNeg := h18
    have hR19_ : RJ (upd (upd (upd f 24 l5) 37 z6) 44 b7) g'8 gs bc1 fl tw.toInt [on.toInt.toNat] := hR19
    show am_E _ _ _ _ [some (.ref 39)] [] _ _
    refine am_e35 hi_242_24 ?_
    show am_E _ _ _ _ [some (.ref 39), some (.int on), some (.int tw), none, none] [] _ _
    refine am_e2 (v := 39) hi_249_4 rfl ?_
    refine am_e32w (as := [.ref 39]) (la := [some (.ref 39)]) (rest := []) hi_249_5 (am_hd0 (M := 249) (by decide) 5) (Nat.le_of_ble_eq_true rfl) (Nat.le_of_ble_eq_true rfl) (show 1 ≤ am_P0.2.2.1 183 from by decide +kernel) rfl (am_recv_ok hS10.fs) rfl rfl ?_
    refine am_e2 (v := 39) hi_183_0 rfl ?_
    refine am_e2 (v := 39) hi_183_1 rfl ?_
    refine mm_20 (v := .int (f 4)) hS10 hi_183_2 rfl ?_
    refine am_e32w (as := [.ref 39, .int (f 4)]) (la := [some (.ref 39), some (.int (f 4))]) (rest := []) hi_183_5 (am_hd0 (M := 183) (by decide) 5) (Nat.le_of_ble_eq_true rfl) (Nat.le_of_ble_eq_true rfl) (show 2 ≤ am_P0.2.2.1 184 from by decide +kernel) rfl (am_recv_ok hS10.fs) rfl rfl ?_
    refine am_e1 (v := f 4) hi_184_0 rfl ?_
    refine am_e2 (v := 39) hi_184_1 rfl ?_
    refine mm_20 (v := .int (f 0)) hS10 hi_184_2 rfl ?_
    by_cases c20 : (f 0).toInt ≤ (f 4).toInt
    · refine am_e13t hi_184_5 (am_cT (m := (f 4).toInt) (n := (f 0).toInt) rfl rfl c20) ?_
      refine am_e0 hi_184_17 ?_
      refine am_e33 hi_184_18 ?_
      show am_E _ _ _ _ [some (.ref 39)] [.int (-1)] _ _
      refine am_e33 hi_183_8 ?_
      show am_E _ _ _ _ [some (.ref 39), some (.int on), some (.int tw), none, none] [.int (-1)] _ _
      refine am_e3 (ls' := [some (.ref 39), some (.int on), some (.int tw), some (.int (-1)), none]) hi_249_8 (Nat.le_of_ble_eq_true rfl) rfl ?_
      refine am_e1 (v := (-1)) hi_249_9 rfl ?_
      refine am_e0 hi_249_10 ?_
      refine am_e13t hi_249_12 (by decide) ?_
      refine am_e1 (v := (-1)) hi_249_40 rfl ?_
      refine am_e0 hi_249_41 ?_
      refine am_e13f hi_249_43 (by decide) ?_
      refine am_e1 (v := (-1)) hi_249_46 rfl ?_
      refine am_e0 hi_249_47 ?_
      refine am_e13t hi_249_49 (by decide) ?_
      refine am_e2 (v := 39) hi_249_141 rfl ?_
      refine am_e0 hi_249_142 ?_
      refine am_e32n (as := [.ref 39, .int 7]) (la := [some (.ref 39), some (.int 7)]) (rest := []) hi_249_144 (am_hd0 (M := 249) (by decide) 144) (Nat.le_of_ble_eq_true rfl) (Nat.le_of_ble_eq_true rfl) (show 2 ≤ am_P0.2.2.1 194 from by decide +kernel) rfl (am_recv_ok hS10.fs) rfl rfl (ct_fail (d := (d + 6)) hS10   (by show (0 : Int) ≤ (7 : Int); omega) (by show (0 : Int) ≤ (f 6).toInt; omega)) ?_
      rintro v21 S22 (⟨a23, b24, hv25, hS26, h27⟩)
      subst hv25
      have h27_ : (0 : Int) ≤ a23.toInt := h27
      replace hS26 : MS S0 S22 (upd (upd (upd (upd (upd (upd f 6 a23) 7 b24) 10 0) 24 l5) 37 z6) 44 b7) g'8 := hS26
      have hR29 := rj_clear0 hR19_
      have hR30 : RJ (upd (upd (upd (upd (upd (upd f 6 a23) 7 b24) 10 0) 24 l5) 37 z6) 44 b7) g'8 [] bc1 [] 0 [] := hR29
      show am_E _ _ _ _ [some (.ref 39), some (.int on), some (.int tw), some (.int (-1)), none] [.int 0] _ _
      refine am_e6i hi_249_147 ?_
      refine am_e35 hi_249_148 ?_
      show am_E _ _ _ _ [some (.ref 39), some (.int 8), some (.int on), some (.int tw), some (.int th)] [] _ _
      refine am_e18 hi_180_201 ?_
      refine am_e35 hi_180_371 ?_
      have hRc := rj_clear0 hR30
      refine ⟨_, _, [], _, rfl, hS26, Or.inr ⟨hRc, rfl, (by show 0 ≤ (f 4).toInt; omega), (by show (f 4).toInt ≤ (f 0).toInt; omega), (by show 0 ≤ (f 32).toInt; omega), (by show (f 32).toInt ≤ 63; omega), (by show 1 ≤ (f 53).toInt; omega), (by show (f 53).toInt ≤ 600; omega), (by show 0 ≤ (f 68).toInt; omega), (by show (f 68).toInt ≤ 60000; omega), (by show 0 ≤ (f 48).toInt; omega), (by show (f 48).toInt ≤ 8000; omega), (by show 0 ≤ z6.toInt; omega), (by show z6.toInt ≤ 128; omega), (by show 0 ≤ (f 62).toInt; omega), (by show (f 62).toInt ≤ 65000; omega), (by show 0 ≤ (f 19).toInt; omega), (by show (f 19).toInt ≤ 600; omega), (by show 0 ≤ a23.toInt; omega), (by show 0 ≤ (f 8).toInt; omega)⟩⟩
    · refine am_e13f hi_184_5 (am_cF (m := (f 4).toInt) (n := (f 0).toInt) rfl rfl c20) ?_
      refine am_e2 (v := 39) hi_184_8 rfl ?_
      refine mm_20 (v := .ref 40) hS10 hi_184_9 rfl ?_
      refine am_e1 (v := f 4) hi_184_12 rfl ?_
      refine mm_25 hS10 ma_1 hi_184_13 (by decide) (by omega) (by omega) ?_
      show am_E _ _ _ _ _ (.int (g'8 1 (f 4).toNatClampNeg) :: _) _ _
      rw [show g'8 1 = g 1 from h16_ 1 (by decide)]
      show am_E _ _ _ _ [some (.ref 39), some (.int (f 4))] [.int (g 1 (f 4).toNatClampNeg)] _ _
      refine am_e18 hi_184_14 ?_
      refine am_e33 hi_184_18 ?_
      show am_E _ _ _ _ [some (.ref 39)] [.int (g 1 (f 4).toNatClampNeg)] _ _
      refine am_e33 hi_183_8 ?_
      show am_E _ _ _ _ [some (.ref 39), some (.int on), some (.int tw), none, none] [.int (g 1 (f 4).toNatClampNeg)] _ _
      refine am_e3 (ls' := [some (.ref 39), some (.int on), some (.int tw), some (.int (g 1 (f 4).toNatClampNeg)), none]) hi_249_8 (Nat.le_of_ble_eq_true rfl) rfl ?_
      refine am_e1 (v := g 1 (f 4).toNatClampNeg) hi_249_9 rfl ?_
      refine am_e0 hi_249_10 ?_
      by_cases c31 : ¬ (g 1 (f 4).toNatClampNeg).toInt = (15 : Int)
      · refine am_e13t hi_249_12 (am_cT (m := (g 1 (f 4).toNatClampNeg).toInt) (n := (15 : Int)) rfl (by decide) c31) ?_
        refine am_e1 (v := g 1 (f 4).toNatClampNeg) hi_249_40 rfl ?_
        refine am_e0 hi_249_41 ?_
        by_cases c32 : (g 1 (f 4).toNatClampNeg).toInt = (14 : Int)
        · refine am_e13t hi_249_43 (am_cT (m := (g 1 (f 4).toNatClampNeg).toInt) (n := (14 : Int)) rfl (by decide) c32) ?_
          refine am_e2 (v := 39) hi_249_52 rfl ?_
          refine am_e0 hi_249_53 ?_
          refine am_e1 (v := tw) hi_249_55 rfl ?_
          refine am_e0 hi_249_56 ?_
          refine am_e0 hi_249_57 ?_
          refine am_e32n (as := [.ref 39, .int 36, .int tw, .int 0, .int 0]) (la := [some (.ref 39), some (.int 36), some (.int tw), some (.int 0), some (.int 0)]) (rest := []) hi_249_58 (am_hd0 (M := 249) (by decide) 58) (Nat.le_of_ble_eq_true rfl) (Nat.le_of_ble_eq_true rfl) (show 5 ≤ am_P0.2.2.1 189 from by decide +kernel) rfl (am_recv_ok hS10.fs) rfl rfl (ct_putc (d := (d + 6)) hS10 hR19_ rfl (by show (0 : Int) ≤ (f 32).toInt; omega) (by show (f 32).toInt ≤ (63 : Int); omega) (by show (f 53).toInt ≤ (4096 : Int); omega) (by show (0 : Int) ≤ (f 68).toInt; omega) (by show (f 68).toInt ≤ (65534 : Int); omega)) ?_
          rintro v33 S34 (⟨z35, r36, g'37, hv38, hS39, hR43, h40, h41, h42⟩)
          subst hv38
          have h40_ : z35.toInt = (f 68).toInt + 1 := h40
          have h41_ : r36.toInt = (f 68).toInt := h41
          have h42_ : ∀ j, j ∉ [60, 69, 70, 71, 72, 73] → g'37 j = g'8 j := h42
          have hR43_ : RJ (upd (upd (upd (upd f 24 l5) 37 z6) 44 b7) 68 z35) g'37 gs bc1 ((f 68).toNatClampNeg :: fl) ((f 68).toInt + 1) [on.toInt.toNat] := hR43
          show am_E _ _ _ _ [some (.ref 39), some (.int on), some (.int tw), some (.int (g 1 (f 4).toNatClampNeg)), none] [.int r36] _ _
          refine am_e0 hi_249_61 ?_
          obtain ⟨z44, hz44, tz44⟩ := am_addI (x := r36) (y := 1) (m := r36.toInt) (n := (1 : Int)) rfl (by decide) (by omega) (by omega)
          refine am_e10 (z := z44) hi_249_62 hz44 ?_
          refine am_e3 (ls' := [some (.ref 39), some (.int on), some (.int tw), some (.int (g 1 (f 4).toNatClampNeg)), some (.int z44)]) hi_249_63 (Nat.le_of_ble_eq_true rfl) rfl ?_
          refine am_e2 (v := 39) hi_249_65 rfl ?_
          refine mm_20 (v := .ref 90) hS39 hi_249_66 rfl ?_
          refine am_e1 (v := on) hi_249_69 rfl ?_
          refine am_e2 (v := 39) hi_249_70 rfl ?_
          refine am_e32n (as := [.ref 39]) (la := [some (.ref 39)]) (rest := [.int on, .ref 90]) hi_249_71 (am_hd0 (M := 249) (by decide) 71) (Nat.le_of_ble_eq_true rfl) (Nat.le_of_ble_eq_true rfl) (show 1 ≤ am_P0.2.2.1 210 from by decide +kernel) rfl (am_recv_ok hS39.fs) rfl rfl (ct_here (d := (d + 6)) hS39 hR43_  (by show (0 : Int) ≤ (f 32).toInt; omega) (by show (f 32).toInt ≤ (63 : Int); omega) (by show (f 53).toInt ≤ (4096 : Int); omega) (by show (0 : Int) ≤ z35.toInt; omega) (by show z35.toInt ≤ (65534 : Int); omega)) ?_
          rintro v45 S46 (⟨r47, hv48, hS49, h50, h51⟩)
          subst hv48
          have h50_ : (0 : Int) ≤ r47.toInt := h50
          have h51_ : r47.toInt ≤ z35.toInt := h51
          show am_E _ _ _ _ [some (.ref 39), some (.int on), some (.int tw), some (.int (g 1 (f 4).toNatClampNeg)), some (.int z44)] [.int r47, .int on, .ref 90] _ _
          refine mm_26 hS49 ma_71 hi_249_74 (by decide) (by omega) (by omega) (fun h => nomatch h) ?_
          intro S53 hS54
          have hix143 : on.toNatClampNeg = on.toInt.toNat := by first | rfl | (rw [cl_toNat, cl_toNat]; omega)
          have hR55 : RJ (upd (upd (upd (upd f 24 l5) 37 z6) 44 b7) 68 z35) (upg g'37 71 on.toNatClampNeg r47) gs bc1 ((f 68).toNatClampNeg :: fl) ((f 68).toInt + 1) [on.toInt.toNat] := by rw [hix143]; exact RJ.lead hR43_ (RJ.pjn hR43_ (show on.toInt.toNat ∈ _ from by simp only [List.mem_cons, true_or, or_true]))
          refine am_e2 (v := 39) hi_249_75 rfl ?_
          refine am_e7 hi_249_76 ?_
          refine mm_20 (v := .int (f 4)) hS54 hi_249_77 rfl ?_
          refine am_e0 hi_249_80 ?_
          obtain ⟨z56, hz56, tz56⟩ := am_addI (x := f 4) (y := 1) (m := (f 4).toInt) (n := (1 : Int)) rfl (by decide) (by omega) (by omega)
          refine am_e10 (z := z56) hi_249_81 hz56 ?_
          refine mm_21 (v := z56) hS54 hi_249_82 rfl (Nat.le_of_ble_eq_true rfl) ms_4 ?_
          intro S57 hS58
          replace hS58 : MS S0 S57 (upd (upd (upd (upd (upd f 4 z56) 24 l5) 37 z6) 44 b7) 68 z35) (upg g'37 71 on.toNatClampNeg r47) := hS58
          have hR59 : RJ (upd (upd (upd (upd (upd f 4 z56) 24 l5) 37 z6) 44 b7) 68 z35) (upg g'37 71 on.toNatClampNeg r47) gs bc1 ((f 68).toNatClampNeg :: fl) ((f 68).toInt + 1) [on.toInt.toNat] := RJ.at hR55 (by show (f 4).toInt ≤ z56.toInt; omega)
          refine am_e1 (v := g 1 (f 4).toNatClampNeg) hi_249_85 rfl ?_
          refine am_e0 hi_249_86 ?_
          refine am_e13f hi_249_88 (am_cF (m := (g 1 (f 4).toNatClampNeg).toInt) (n := (14 : Int)) rfl (by decide) (by simp only [am_cI]; omega)) ?_
          refine am_e2 (v := 39) hi_249_91 rfl ?_
          refine am_e7 hi_249_92 ?_
          refine mm_20 (v := .int (f 5)) hS58 hi_249_93 rfl ?_
          refine am_e0 hi_249_96 ?_
          obtain ⟨z60, hz60, tz60⟩ := am_subI (x := f 5) (y := 1) (m := (f 5).toInt) (n := (1 : Int)) rfl (by decide) (by omega) (by omega)
          refine am_e10 (z := z60) hi_249_97 hz60 ?_
          refine mm_21 (v := z60) hS58 hi_249_98 rfl (Nat.le_of_ble_eq_true rfl) ms_5 ?_
          intro S61 hS62
          replace hS62 : MS S0 S61 (upd (upd (upd (upd (upd (upd f 4 z56) 5 z60) 24 l5) 37 z6) 44 b7) 68 z35) (upg g'37 71 on.toNatClampNeg r47) := hS62
          refine am_e2 (v := 39) hi_249_101 rfl ?_
          refine am_e0 hi_249_102 ?_
          refine am_e1 (v := z44) hi_249_104 rfl ?_
          refine am_e0 hi_249_106 ?_
          refine am_e0 hi_249_107 ?_
          refine am_e32n (as := [.ref 39, .int 7, .int z44, .int 0, .int 0]) (la := [some (.ref 39), some (.int 7), some (.int z44), some (.int 0), some (.int 0)]) (rest := []) hi_249_108 (am_hd0 (M := 249) (by decide) 108) (Nat.le_of_ble_eq_true rfl) (Nat.le_of_ble_eq_true rfl) (show 5 ≤ am_P0.2.2.1 179 from by decide +kernel) rfl (am_recv_ok hS62.fs) rfl rfl (ct_pilec (d := (d + 6)) hS62 hR59 (mj_e_79c hR59 (by decide) (by show z44.toInt = ((f 68).toInt + 1); omega)) (by show (0 : Int) ≤ (f 10).toInt; omega) (by show (f 10).toInt ≤ (65535 : Int); omega)) ?_
          rintro v63 S64 (⟨z65, g'66, hv67, hS68, hR71, h69, h70⟩)
          subst hv67
          have h69_ : z65.toInt = (f 10).toInt + 1 := h69
          have h70_ : ∀ j, j ∉ [11, 12, 13, 14] → g'66 j = (upg g'37 71 on.toNatClampNeg r47) j := h70
          replace hS68 : MS S0 S64 (upd (upd (upd (upd (upd (upd (upd f 4 z56) 5 z60) 10 z65) 24 l5) 37 z6) 44 b7) 68 z35) g'66 := hS68
          have hR71_ : RJ (upd (upd (upd (upd (upd (upd (upd f 4 z56) 5 z60) 10 z65) 24 l5) 37 z6) 44 b7) 68 z35) g'66 (((7 : Int), z44.toInt, (0 : Int), (0 : Int), ((f 68).toNatClampNeg :: fl)) :: gs) bc1 [] 0 [on.toInt.toNat] := hR71
          show am_E _ _ _ _ [some (.ref 39), some (.int on), some (.int tw), some (.int (g 1 (f 4).toNatClampNeg)), some (.int z44)] [] _ _
          refine am_e2 (v := 39) hi_249_111 rfl ?_
          refine am_e0 hi_249_112 ?_
          refine am_e32w (as := [.ref 39, .int 0]) (la := [some (.ref 39), some (.int 0)]) (rest := []) hi_249_113 (am_hd0 (M := 249) (by decide) 113) (Nat.le_of_ble_eq_true rfl) (Nat.le_of_ble_eq_true rfl) (show 2 ≤ am_P0.2.2.1 186 from by decide +kernel) rfl (am_recv_ok hS68.fs) rfl rfl ?_
          refine am_e2 (v := 39) hi_186_0 rfl ?_
          refine am_e0 hi_186_1 ?_
          refine am_e1 (v := 0) hi_186_3 rfl ?_
          refine am_e0 hi_186_4 ?_
          refine am_e0 hi_186_5 ?_
          refine am_e32n (as := [.ref 39, .int 23, .int 0, .int 0, .int 0]) (la := [some (.ref 39), some (.int 23), some (.int 0), some (.int 0), some (.int 0)]) (rest := []) hi_186_6 (am_hd0 (M := 186) (by decide) 6) (Nat.le_of_ble_eq_true rfl) (Nat.le_of_ble_eq_true rfl) (show 5 ≤ am_P0.2.2.1 179 from by decide +kernel) rfl (am_recv_ok hS68.fs) rfl rfl (ct_pile (d := (d + 5)) hS68 hR71_ (mj_e_plain (by decide)) (by show (0 : Int) ≤ z65.toInt; omega) (by show z65.toInt ≤ (65535 : Int); omega)) ?_
          rintro v72 S73 (⟨z74, g'75, hv76, hS77, hR80, h78, h79⟩)
          subst hv76
          have h78_ : z74.toInt = z65.toInt + 1 := h78
          have h79_ : ∀ j, j ∉ [11, 12, 13, 14] → g'75 j = g'66 j := h79
          replace hS77 : MS S0 S73 (upd (upd (upd (upd (upd (upd (upd f 4 z56) 5 z60) 10 z74) 24 l5) 37 z6) 44 b7) 68 z35) g'75 := hS77
          have hR80_ : RJ (upd (upd (upd (upd (upd (upd (upd f 4 z56) 5 z60) 10 z74) 24 l5) 37 z6) 44 b7) 68 z35) g'75 (((23 : Int), (0 : Int), (0 : Int), (0 : Int), []) :: (((7 : Int), z44.toInt, (0 : Int), (0 : Int), ((f 68).toNatClampNeg :: fl)) :: gs)) bc1 [] 0 [on.toInt.toNat] := hR80
          show am_E _ _ _ _ [some (.ref 39), some (.int 0)] [] _ _
          refine am_e35 hi_186_9 ?_
          show am_E _ _ _ _ [some (.ref 39), some (.int on), some (.int tw), some (.int (g 1 (f 4).toNatClampNeg)), some (.int z44)] [] _ _
          refine am_e18 hi_249_116 ?_
          refine am_e18 hi_249_138 ?_
          refine am_e35 hi_249_148 ?_
          show am_E _ _ _ _ [some (.ref 39), some (.int 8), some (.int on), some (.int tw), some (.int th)] [] _ _
          refine am_e18 hi_180_201 ?_
          refine am_e35 hi_180_371 ?_
          have q1 : mg_p1 (((23 : Int), (0 : Int), (0 : Int), (0 : Int), []) :: (((7 : Int), z44.toInt, (0 : Int), (0 : Int), ((f 68).toNatClampNeg :: fl)) :: gs)) = 0 + (0 + (mg_p1 gs)) := rfl
          have q2 : mg_p2 (((23 : Int), (0 : Int), (0 : Int), (0 : Int), []) :: (((7 : Int), z44.toInt, (0 : Int), (0 : Int), ((f 68).toNatClampNeg :: fl)) :: gs)) = 0 + (0 + (mg_p2 gs)) := rfl
          have q3 : mg_p3 (((23 : Int), (0 : Int), (0 : Int), (0 : Int), []) :: (((7 : Int), z44.toInt, (0 : Int), (0 : Int), ((f 68).toNatClampNeg :: fl)) :: gs)) = 1 + (1 + (mg_p3 gs)) := rfl
          have q4 : mg_p4 (((23 : Int), (0 : Int), (0 : Int), (0 : Int), []) :: (((7 : Int), z44.toInt, (0 : Int), (0 : Int), ((f 68).toNatClampNeg :: fl)) :: gs)) = 0 + (0 + (mg_p4 gs)) := rfl
          refine ⟨_, _, _, bc1, rfl, hS77, Or.inl ⟨⟨(RJ.fewer (pj' := []) hR80_ (fun _ h => nomatch h)), ?_, ?_⟩, rfl, ?_⟩⟩
          · exact (⟨⟨(show mg_k 23 from by decide), (show (0 : Int) ≤ (f 15).toInt from by omega), (show 0 ≤ (f 20).toInt from by omega), (show 1 ≤ z6.toInt from by omega), (show 0 ≤ (f 32).toInt from by omega), (show (f 32).toInt ≤ z60.toInt from by omega), (show z60.toInt ≤ 48 from by omega), (show z6.toInt ≤ 2 * (z60.toInt) + 2 from by omega), (show 0 ≤ (0 : Int) from by omega)⟩, ⟨⟨(show mg_k 7 from by decide), (show (1 : Int) ≤ (f 15).toInt + 1 from by omega), (show 0 ≤ (f 20).toInt from by omega), (show 1 ≤ z6.toInt + 0 from by omega), (show 0 ≤ (f 32).toInt + 0 from by omega), (show (f 32).toInt + 0 ≤ z60.toInt + 0 from by omega), (show z60.toInt + 0 ≤ 48 from by omega), (show z6.toInt + 0 ≤ 2 * (z60.toInt + 0) + 1 from by omega), trivial⟩, mg_cast (mg_good_ext _ _ _ _ _ _ (fun i _ => by show g'75 34 i = g 34 i; rw [show g'75 34 = g'66 34 from h79_ 34 (by decide), show g'66 34 = g'37 34 from h70_ 34 (by decide), show g'37 34 = g'8 34 from h42_ 34 (by decide), show g'8 34 = g 34 from h16_ 34 (by decide)]) (fun i _ => by show g'75 38 i = g 38 i; rw [show g'75 38 = g'66 38 from h79_ 38 (by decide), show g'66 38 = g'37 38 from h70_ 38 (by decide), show g'37 38 = g'8 38 from h42_ 38 (by decide), show g'8 38 = g 38 from h16_ 38 (by decide)]) (fun i _ => by show g'75 23 i = g 23 i; rw [show g'75 23 = g'66 23 from h79_ 23 (by decide), show g'66 23 = g'37 23 from h70_ 23 (by decide), show g'37 23 = g'8 23 from h42_ 23 (by decide), show g'8 23 = g 23 from h16_ 23 (by decide)]) hrest) (by show (f 15).toInt + 0 = (f 15).toInt + 1 + -1; omega) (by show (f 20).toInt = (f 20).toInt; omega) (by show (f 37).toInt + -1 = z6.toInt + 0 + 0; omega) (by show (f 32).toInt + 0 = (f 32).toInt + 0 + 0; omega) (by show (f 5).toInt + -1 = z60.toInt + 0 + 0; omega)⟩⟩ : mg_good (g'75 34) (g'75 38) (g'75 23) (((23 : Int), (0 : Int), (0 : Int), (0 : Int), []) :: (((7 : Int), z44.toInt, (0 : Int), (0 : Int), ((f 68).toNatClampNeg :: fl)) :: gs)) ((f 15).toInt) ((f 20).toInt) (z6.toInt) ((f 32).toInt) (z60.toInt))
          · exact ⟨(by show 0 ≤ z56.toInt; omega), (by show z56.toInt ≤ (f 0).toInt; omega), (by show (f 0).toInt ≤ 512; omega), (by show 0 ≤ l5.toInt; omega), (by show l5.toInt + (f 20).toInt + mg_p1 (((23 : Int), (0 : Int), (0 : Int), (0 : Int), []) :: (((7 : Int), z44.toInt, (0 : Int), (0 : Int), ((f 68).toNatClampNeg :: fl)) :: gs)) ≤ 4 * z56.toInt; omega), (by show (f 20).toInt ≤ z56.toInt; omega), (by show (f 15).toInt + mg_p2 (((23 : Int), (0 : Int), (0 : Int), (0 : Int), []) :: (((7 : Int), z44.toInt, (0 : Int), (0 : Int), ((f 68).toNatClampNeg :: fl)) :: gs)) ≤ z56.toInt; omega), (by show mg_p3 (((23 : Int), (0 : Int), (0 : Int), (0 : Int), []) :: (((7 : Int), z44.toInt, (0 : Int), (0 : Int), ((f 68).toNatClampNeg :: fl)) :: gs)) ≤ 20 * z56.toInt + 20; omega), (by show 0 ≤ z35.toInt; omega), (by show z35.toInt + 3 * (f 20).toInt + mg_p4 (((23 : Int), (0 : Int), (0 : Int), (0 : Int), []) :: (((7 : Int), z44.toInt, (0 : Int), (0 : Int), ((f 68).toNatClampNeg :: fl)) :: gs)) ≤ 60 * z56.toInt + 60; omega), (by show 0 ≤ (f 62).toInt; omega), (by show (f 62).toInt + 64 * mj_n (g'75 16) (f 15).toNatClampNeg 3 ≤ 64 * z56.toInt; rw [show g'75 16 = g'66 16 from h79_ 16 (by decide), show g'66 16 = g'37 16 from h70_ 16 (by decide), show g'37 16 = g'8 16 from h42_ 16 (by decide), show g'8 16 = g 16 from h16_ 16 (by decide)]; omega), (by show 0 ≤ b7.toInt; omega), (by show b7.toInt ≤ z56.toInt; omega), (by show 0 ≤ (f 48).toInt; omega), (by show (f 48).toInt ≤ z56.toInt; omega), (by show 1 ≤ (f 53).toInt; omega), (by show (f 53).toInt ≤ z56.toInt + 1; omega), (by show 0 ≤ (f 19).toInt; omega), (by show (f 19).toInt ≤ 600; omega), (by show 0 ≤ (f 6).toInt; omega), (by show 0 ≤ (f 8).toInt; omega)⟩
          · show 100 * ((f 0).toInt - z56.toInt) + mg_p3 (((23 : Int), (0 : Int), (0 : Int), (0 : Int), []) :: (((7 : Int), z44.toInt, (0 : Int), (0 : Int), ((f 68).toNatClampNeg :: fl)) :: gs)) < 100 * ((f 0).toInt - (f 4).toInt) + (1 + mg_p3 gs); omega
        · refine am_e13f hi_249_43 (am_cF (m := (g 1 (f 4).toNatClampNeg).toInt) (n := (14 : Int)) rfl (by decide) c32) ?_
          refine am_e1 (v := g 1 (f 4).toNatClampNeg) hi_249_46 rfl ?_
          refine am_e0 hi_249_47 ?_
          by_cases c81 : ¬ (g 1 (f 4).toNatClampNeg).toInt = (13 : Int)
          · refine am_e13t hi_249_49 (am_cT (m := (g 1 (f 4).toNatClampNeg).toInt) (n := (13 : Int)) rfl (by decide) c81) ?_
            refine am_e2 (v := 39) hi_249_141 rfl ?_
            refine am_e0 hi_249_142 ?_
            refine am_e32n (as := [.ref 39, .int 7]) (la := [some (.ref 39), some (.int 7)]) (rest := []) hi_249_144 (am_hd0 (M := 249) (by decide) 144) (Nat.le_of_ble_eq_true rfl) (Nat.le_of_ble_eq_true rfl) (show 2 ≤ am_P0.2.2.1 194 from by decide +kernel) rfl (am_recv_ok hS10.fs) rfl rfl (ct_fail (d := (d + 6)) hS10   (by show (0 : Int) ≤ (7 : Int); omega) (by show (0 : Int) ≤ (f 6).toInt; omega)) ?_
            rintro v82 S83 (⟨a84, b85, hv86, hS87, h88⟩)
            subst hv86
            have h88_ : (0 : Int) ≤ a84.toInt := h88
            replace hS87 : MS S0 S83 (upd (upd (upd (upd (upd (upd f 6 a84) 7 b85) 10 0) 24 l5) 37 z6) 44 b7) g'8 := hS87
            have hR90 := rj_clear0 hR19_
            have hR91 : RJ (upd (upd (upd (upd (upd (upd f 6 a84) 7 b85) 10 0) 24 l5) 37 z6) 44 b7) g'8 [] bc1 [] 0 [] := hR90
            show am_E _ _ _ _ [some (.ref 39), some (.int on), some (.int tw), some (.int (g 1 (f 4).toNatClampNeg)), none] [.int 0] _ _
            refine am_e6i hi_249_147 ?_
            refine am_e35 hi_249_148 ?_
            show am_E _ _ _ _ [some (.ref 39), some (.int 8), some (.int on), some (.int tw), some (.int th)] [] _ _
            refine am_e18 hi_180_201 ?_
            refine am_e35 hi_180_371 ?_
            have hRc := rj_clear0 hR91
            refine ⟨_, _, [], _, rfl, hS87, Or.inr ⟨hRc, rfl, (by show 0 ≤ (f 4).toInt; omega), (by show (f 4).toInt ≤ (f 0).toInt; omega), (by show 0 ≤ (f 32).toInt; omega), (by show (f 32).toInt ≤ 63; omega), (by show 1 ≤ (f 53).toInt; omega), (by show (f 53).toInt ≤ 600; omega), (by show 0 ≤ (f 68).toInt; omega), (by show (f 68).toInt ≤ 60000; omega), (by show 0 ≤ (f 48).toInt; omega), (by show (f 48).toInt ≤ 8000; omega), (by show 0 ≤ z6.toInt; omega), (by show z6.toInt ≤ 128; omega), (by show 0 ≤ (f 62).toInt; omega), (by show (f 62).toInt ≤ 65000; omega), (by show 0 ≤ (f 19).toInt; omega), (by show (f 19).toInt ≤ 600; omega), (by show 0 ≤ a84.toInt; omega), (by show 0 ≤ (f 8).toInt; omega)⟩⟩
          · refine am_e13f hi_249_49 (am_cF (m := (g 1 (f 4).toNatClampNeg).toInt) (n := (13 : Int)) rfl (by decide) c81) ?_
            refine am_e2 (v := 39) hi_249_52 rfl ?_
            refine am_e0 hi_249_53 ?_
            refine am_e1 (v := tw) hi_249_55 rfl ?_
            refine am_e0 hi_249_56 ?_
            refine am_e0 hi_249_57 ?_
            refine am_e32n (as := [.ref 39, .int 36, .int tw, .int 0, .int 0]) (la := [some (.ref 39), some (.int 36), some (.int tw), some (.int 0), some (.int 0)]) (rest := []) hi_249_58 (am_hd0 (M := 249) (by decide) 58) (Nat.le_of_ble_eq_true rfl) (Nat.le_of_ble_eq_true rfl) (show 5 ≤ am_P0.2.2.1 189 from by decide +kernel) rfl (am_recv_ok hS10.fs) rfl rfl (ct_putc (d := (d + 6)) hS10 hR19_ rfl (by show (0 : Int) ≤ (f 32).toInt; omega) (by show (f 32).toInt ≤ (63 : Int); omega) (by show (f 53).toInt ≤ (4096 : Int); omega) (by show (0 : Int) ≤ (f 68).toInt; omega) (by show (f 68).toInt ≤ (65534 : Int); omega)) ?_
            rintro v92 S93 (⟨z94, r95, g'96, hv97, hS98, hR102, h99, h100, h101⟩)
            subst hv97
            have h99_ : z94.toInt = (f 68).toInt + 1 := h99
            have h100_ : r95.toInt = (f 68).toInt := h100
            have h101_ : ∀ j, j ∉ [60, 69, 70, 71, 72, 73] → g'96 j = g'8 j := h101
            have hR102_ : RJ (upd (upd (upd (upd f 24 l5) 37 z6) 44 b7) 68 z94) g'96 gs bc1 ((f 68).toNatClampNeg :: fl) ((f 68).toInt + 1) [on.toInt.toNat] := hR102
            show am_E _ _ _ _ [some (.ref 39), some (.int on), some (.int tw), some (.int (g 1 (f 4).toNatClampNeg)), none] [.int r95] _ _
            refine am_e0 hi_249_61 ?_
            obtain ⟨z103, hz103, tz103⟩ := am_addI (x := r95) (y := 1) (m := r95.toInt) (n := (1 : Int)) rfl (by decide) (by omega) (by omega)
            refine am_e10 (z := z103) hi_249_62 hz103 ?_
            refine am_e3 (ls' := [some (.ref 39), some (.int on), some (.int tw), some (.int (g 1 (f 4).toNatClampNeg)), some (.int z103)]) hi_249_63 (Nat.le_of_ble_eq_true rfl) rfl ?_
            refine am_e2 (v := 39) hi_249_65 rfl ?_
            refine mm_20 (v := .ref 90) hS98 hi_249_66 rfl ?_
            refine am_e1 (v := on) hi_249_69 rfl ?_
            refine am_e2 (v := 39) hi_249_70 rfl ?_
            refine am_e32n (as := [.ref 39]) (la := [some (.ref 39)]) (rest := [.int on, .ref 90]) hi_249_71 (am_hd0 (M := 249) (by decide) 71) (Nat.le_of_ble_eq_true rfl) (Nat.le_of_ble_eq_true rfl) (show 1 ≤ am_P0.2.2.1 210 from by decide +kernel) rfl (am_recv_ok hS98.fs) rfl rfl (ct_here (d := (d + 6)) hS98 hR102_  (by show (0 : Int) ≤ (f 32).toInt; omega) (by show (f 32).toInt ≤ (63 : Int); omega) (by show (f 53).toInt ≤ (4096 : Int); omega) (by show (0 : Int) ≤ z94.toInt; omega) (by show z94.toInt ≤ (65534 : Int); omega)) ?_
            rintro v104 S105 (⟨r106, hv107, hS108, h109, h110⟩)
            subst hv107
            have h109_ : (0 : Int) ≤ r106.toInt := h109
            have h110_ : r106.toInt ≤ z94.toInt := h110
            show am_E _ _ _ _ [some (.ref 39), some (.int on), some (.int tw), some (.int (g 1 (f 4).toNatClampNeg)), some (.int z103)] [.int r106, .int on, .ref 90] _ _
            refine mm_26 hS108 ma_71 hi_249_74 (by decide) (by omega) (by omega) (fun h => nomatch h) ?_
            intro S112 hS113
            have hix264 : on.toNatClampNeg = on.toInt.toNat := by first | rfl | (rw [cl_toNat, cl_toNat]; omega)
            have hR114 : RJ (upd (upd (upd (upd f 24 l5) 37 z6) 44 b7) 68 z94) (upg g'96 71 on.toNatClampNeg r106) gs bc1 ((f 68).toNatClampNeg :: fl) ((f 68).toInt + 1) [on.toInt.toNat] := by rw [hix264]; exact RJ.lead hR102_ (RJ.pjn hR102_ (show on.toInt.toNat ∈ _ from by simp only [List.mem_cons, true_or, or_true]))
            refine am_e2 (v := 39) hi_249_75 rfl ?_
            refine am_e7 hi_249_76 ?_
            refine mm_20 (v := .int (f 4)) hS113 hi_249_77 rfl ?_
            refine am_e0 hi_249_80 ?_
            obtain ⟨z115, hz115, tz115⟩ := am_addI (x := f 4) (y := 1) (m := (f 4).toInt) (n := (1 : Int)) rfl (by decide) (by omega) (by omega)
            refine am_e10 (z := z115) hi_249_81 hz115 ?_
            refine mm_21 (v := z115) hS113 hi_249_82 rfl (Nat.le_of_ble_eq_true rfl) ms_4 ?_
            intro S116 hS117
            replace hS117 : MS S0 S116 (upd (upd (upd (upd (upd f 4 z115) 24 l5) 37 z6) 44 b7) 68 z94) (upg g'96 71 on.toNatClampNeg r106) := hS117
            have hR118 : RJ (upd (upd (upd (upd (upd f 4 z115) 24 l5) 37 z6) 44 b7) 68 z94) (upg g'96 71 on.toNatClampNeg r106) gs bc1 ((f 68).toNatClampNeg :: fl) ((f 68).toInt + 1) [on.toInt.toNat] := RJ.at hR114 (by show (f 4).toInt ≤ z115.toInt; omega)
            refine am_e1 (v := g 1 (f 4).toNatClampNeg) hi_249_85 rfl ?_
            refine am_e0 hi_249_86 ?_
            refine am_e13t hi_249_88 (am_cT (m := (g 1 (f 4).toNatClampNeg).toInt) (n := (14 : Int)) rfl (by decide) (by simp only [am_cI]; omega)) ?_
            refine am_e2 (v := 39) hi_249_119 rfl ?_
            refine am_e0 hi_249_120 ?_
            refine am_e32n (as := [.ref 39, .int 0]) (la := [some (.ref 39), some (.int 0)]) (rest := []) hi_249_121 (am_hd0 (M := 249) (by decide) 121) (Nat.le_of_ble_eq_true rfl) (Nat.le_of_ble_eq_true rfl) (show 2 ≤ am_P0.2.2.1 177 from by decide +kernel) rfl (am_recv_ok hS117.fs) rfl rfl (ct_beginBlock2 (d := (d + 6)) hS117 hR118 (by decide)  (by show (0 : Int) ≤ z6.toInt; omega) (by show z6.toInt ≤ (127 : Int); omega) (by show (0 : Int) ≤ l5.toInt; omega) (by show (0 : Int) ≤ b7.toInt; omega) (by show b7.toInt ≤ z115.toInt; omega) (by show (0 : Int) ≤ (f 48).toInt; omega)) ?_
            rintro v119 S120 (⟨z121, g'122, hv123, hS124, hR128, h125, h126, h127⟩)
            subst hv123
            have h125_ : z121.toInt = z6.toInt + 1 := h125
            have h126_ : ∀ j, j ∉ [38, 39, 40, 41, 42, 43] → g'122 j = (upg g'96 71 on.toNatClampNeg r106) j := h126
            have h127_ : g'122 38 = upd ((upg g'96 71 on.toNatClampNeg r106) 38) z6.toNatClampNeg l5 := h127
            replace hS124 : MS S0 S120 (upd (upd (upd (upd (upd f 4 z115) 24 l5) 37 z121) 44 b7) 68 z94) g'122 := hS124
            have hR128_ : RJ (upd (upd (upd (upd (upd f 4 z115) 24 l5) 37 z121) 44 b7) 68 z94) g'122 gs ([] :: bc1) ((f 68).toNatClampNeg :: fl) ((f 68).toInt + 1) [on.toInt.toNat] := hR128
            show am_E _ _ _ _ [some (.ref 39), some (.int on), some (.int tw), some (.int (g 1 (f 4).toNatClampNeg)), some (.int z103)] [] _ _
            refine am_e2 (v := 39) hi_249_124 rfl ?_
            refine am_e0 hi_249_125 ?_
            refine am_e1 (v := z103) hi_249_127 rfl ?_
            refine am_e0 hi_249_129 ?_
            refine am_e0 hi_249_130 ?_
            refine am_e32n (as := [.ref 39, .int 9, .int z103, .int 0, .int 0]) (la := [some (.ref 39), some (.int 9), some (.int z103), some (.int 0), some (.int 0)]) (rest := []) hi_249_131 (am_hd0 (M := 249) (by decide) 131) (Nat.le_of_ble_eq_true rfl) (Nat.le_of_ble_eq_true rfl) (show 5 ≤ am_P0.2.2.1 179 from by decide +kernel) rfl (am_recv_ok hS124.fs) rfl rfl (ct_pilec (d := (d + 6)) hS124 hR128_ (mj_e_79c hR128_ (by decide) (by show z103.toInt = ((f 68).toInt + 1); omega)) (by show (0 : Int) ≤ (f 10).toInt; omega) (by show (f 10).toInt ≤ (65535 : Int); omega)) ?_
            rintro v129 S130 (⟨z131, g'132, hv133, hS134, hR137, h135, h136⟩)
            subst hv133
            have h135_ : z131.toInt = (f 10).toInt + 1 := h135
            have h136_ : ∀ j, j ∉ [11, 12, 13, 14] → g'132 j = g'122 j := h136
            replace hS134 : MS S0 S130 (upd (upd (upd (upd (upd (upd f 4 z115) 10 z131) 24 l5) 37 z121) 44 b7) 68 z94) g'132 := hS134
            have hR137_ : RJ (upd (upd (upd (upd (upd (upd f 4 z115) 10 z131) 24 l5) 37 z121) 44 b7) 68 z94) g'132 (((9 : Int), z103.toInt, (0 : Int), (0 : Int), ((f 68).toNatClampNeg :: fl)) :: gs) ([] :: bc1) [] 0 [on.toInt.toNat] := hR137
            show am_E _ _ _ _ [some (.ref 39), some (.int on), some (.int tw), some (.int (g 1 (f 4).toNatClampNeg)), some (.int z103)] [] _ _
            refine am_e2 (v := 39) hi_249_134 rfl ?_
            refine am_e32w (as := [.ref 39]) (la := [some (.ref 39)]) (rest := []) hi_249_135 (am_hd0 (M := 249) (by decide) 135) (Nat.le_of_ble_eq_true rfl) (Nat.le_of_ble_eq_true rfl) (show 1 ≤ am_P0.2.2.1 178 from by decide +kernel) rfl (am_recv_ok hS134.fs) rfl rfl ?_
            refine am_e2 (v := 39) hi_178_0 rfl ?_
            refine am_e0 hi_178_1 ?_
            refine am_e0 hi_178_2 ?_
            refine am_e0 hi_178_3 ?_
            refine am_e0 hi_178_4 ?_
            refine am_e32n (as := [.ref 39, .int 1, .int 0, .int 0, .int 0]) (la := [some (.ref 39), some (.int 1), some (.int 0), some (.int 0), some (.int 0)]) (rest := []) hi_178_5 (am_hd0 (M := 178) (by decide) 5) (Nat.le_of_ble_eq_true rfl) (Nat.le_of_ble_eq_true rfl) (show 5 ≤ am_P0.2.2.1 179 from by decide +kernel) rfl (am_recv_ok hS134.fs) rfl rfl (ct_pile (d := (d + 5)) hS134 hR137_ (mj_e_plain (by decide)) (by show (0 : Int) ≤ z131.toInt; omega) (by show z131.toInt ≤ (65535 : Int); omega)) ?_
            rintro v138 S139 (⟨z140, g'141, hv142, hS143, hR146, h144, h145⟩)
            subst hv142
            have h144_ : z140.toInt = z131.toInt + 1 := h144
            have h145_ : ∀ j, j ∉ [11, 12, 13, 14] → g'141 j = g'132 j := h145
            replace hS143 : MS S0 S139 (upd (upd (upd (upd (upd (upd f 4 z115) 10 z140) 24 l5) 37 z121) 44 b7) 68 z94) g'141 := hS143
            have hR146_ : RJ (upd (upd (upd (upd (upd (upd f 4 z115) 10 z140) 24 l5) 37 z121) 44 b7) 68 z94) g'141 (((1 : Int), (0 : Int), (0 : Int), (0 : Int), []) :: (((9 : Int), z103.toInt, (0 : Int), (0 : Int), ((f 68).toNatClampNeg :: fl)) :: gs)) ([] :: bc1) [] 0 [on.toInt.toNat] := hR146
            show am_E _ _ _ _ [some (.ref 39)] [] _ _
            refine am_e35 hi_178_8 ?_
            show am_E _ _ _ _ [some (.ref 39), some (.int on), some (.int tw), some (.int (g 1 (f 4).toNatClampNeg)), some (.int z103)] [] _ _
            refine am_e18 hi_249_138 ?_
            refine am_e35 hi_249_148 ?_
            show am_E _ _ _ _ [some (.ref 39), some (.int 8), some (.int on), some (.int tw), some (.int th)] [] _ _
            refine am_e18 hi_180_201 ?_
            refine am_e35 hi_180_371 ?_
            have q1 : mg_p1 (((1 : Int), (0 : Int), (0 : Int), (0 : Int), []) :: (((9 : Int), z103.toInt, (0 : Int), (0 : Int), ((f 68).toNatClampNeg :: fl)) :: gs)) = 0 + (0 + (mg_p1 gs)) := rfl
            have q2 : mg_p2 (((1 : Int), (0 : Int), (0 : Int), (0 : Int), []) :: (((9 : Int), z103.toInt, (0 : Int), (0 : Int), ((f 68).toNatClampNeg :: fl)) :: gs)) = 0 + (0 + (mg_p2 gs)) := rfl
            have q3 : mg_p3 (((1 : Int), (0 : Int), (0 : Int), (0 : Int), []) :: (((9 : Int), z103.toInt, (0 : Int), (0 : Int), ((f 68).toNatClampNeg :: fl)) :: gs)) = 1 + (1 + (mg_p3 gs)) := rfl
            have q4 : mg_p4 (((1 : Int), (0 : Int), (0 : Int), (0 : Int), []) :: (((9 : Int), z103.toInt, (0 : Int), (0 : Int), ((f 68).toNatClampNeg :: fl)) :: gs)) = 0 + (0 + (mg_p4 gs)) := rfl
            refine ⟨_, _, _, ([] :: bc1), rfl, hS143, Or.inl ⟨⟨(RJ.fewer (pj' := []) hR146_ (fun _ h => nomatch h)), ?_, ?_⟩, rfl, ?_⟩⟩
            · exact (⟨⟨(show mg_k 1 from by decide), (show (0 : Int) ≤ (f 15).toInt from by omega), (show 0 ≤ (f 20).toInt from by omega), (show 1 ≤ z121.toInt from by omega), (show 0 ≤ (f 32).toInt from by omega), (show (f 32).toInt ≤ (f 5).toInt from by omega), (show (f 5).toInt ≤ 48 from by omega), (show z121.toInt ≤ 2 * ((f 5).toInt) + 1 from by omega), trivial⟩, ⟨⟨(show mg_k 9 from by decide), (show (0 : Int) ≤ (f 15).toInt + 0 from by omega), (show 0 ≤ (f 20).toInt from by omega), (show 1 ≤ z121.toInt + 0 from by omega), (show 0 ≤ (f 32).toInt + 0 from by omega), (show (f 32).toInt + 0 ≤ (f 5).toInt + 0 from by omega), (show (f 5).toInt + 0 ≤ 48 from by omega), (show z121.toInt + 0 ≤ 2 * ((f 5).toInt + 0) + 0 from by omega), trivial⟩, mg_cast (mg_good_ext _ _ _ _ _ _ (fun i _ => by show g'141 34 i = g 34 i; rw [show g'141 34 = g'132 34 from h145_ 34 (by decide), show g'132 34 = g'122 34 from h136_ 34 (by decide), show g'122 34 = g'96 34 from h126_ 34 (by decide), show g'96 34 = g'8 34 from h101_ 34 (by decide), show g'8 34 = g 34 from h16_ 34 (by decide)]) (fun i hi => by show g'141 38 i = g 38 i; rw [show g'141 38 = g'132 38 from h145_ 38 (by decide), show g'132 38 = g'122 38 from h136_ 38 (by decide), h127_, show (upg g'96 71 on.toNatClampNeg r106) 38 = g'96 38 from rfl, show g'96 38 = g'8 38 from h101_ 38 (by decide), show g'8 38 = g 38 from h16_ 38 (by decide)]; exact upd_ne (by rw [cl_toNat]; omega)) (fun i _ => by show g'141 23 i = g 23 i; rw [show g'141 23 = g'132 23 from h145_ 23 (by decide), show g'132 23 = g'122 23 from h136_ 23 (by decide), show g'122 23 = g'96 23 from h126_ 23 (by decide), show g'96 23 = g'8 23 from h101_ 23 (by decide), show g'8 23 = g 23 from h16_ 23 (by decide)]) hrest) (by show (f 15).toInt + 0 = (f 15).toInt + 0 + 0; omega) (by show (f 20).toInt = (f 20).toInt; omega) (by show (f 37).toInt + -1 = z121.toInt + 0 + -1; omega) (by show (f 32).toInt + 0 = (f 32).toInt + 0 + 0; omega) (by show (f 5).toInt + -1 = (f 5).toInt + 0 + -1; omega)⟩⟩ : mg_good (g'141 34) (g'141 38) (g'141 23) (((1 : Int), (0 : Int), (0 : Int), (0 : Int), []) :: (((9 : Int), z103.toInt, (0 : Int), (0 : Int), ((f 68).toNatClampNeg :: fl)) :: gs)) ((f 15).toInt) ((f 20).toInt) (z121.toInt) ((f 32).toInt) ((f 5).toInt))
            · exact ⟨(by show 0 ≤ z115.toInt; omega), (by show z115.toInt ≤ (f 0).toInt; omega), (by show (f 0).toInt ≤ 512; omega), (by show 0 ≤ l5.toInt; omega), (by show l5.toInt + (f 20).toInt + mg_p1 (((1 : Int), (0 : Int), (0 : Int), (0 : Int), []) :: (((9 : Int), z103.toInt, (0 : Int), (0 : Int), ((f 68).toNatClampNeg :: fl)) :: gs)) ≤ 4 * z115.toInt; omega), (by show (f 20).toInt ≤ z115.toInt; omega), (by show (f 15).toInt + mg_p2 (((1 : Int), (0 : Int), (0 : Int), (0 : Int), []) :: (((9 : Int), z103.toInt, (0 : Int), (0 : Int), ((f 68).toNatClampNeg :: fl)) :: gs)) ≤ z115.toInt; omega), (by show mg_p3 (((1 : Int), (0 : Int), (0 : Int), (0 : Int), []) :: (((9 : Int), z103.toInt, (0 : Int), (0 : Int), ((f 68).toNatClampNeg :: fl)) :: gs)) ≤ 20 * z115.toInt + 20; omega), (by show 0 ≤ z94.toInt; omega), (by show z94.toInt + 3 * (f 20).toInt + mg_p4 (((1 : Int), (0 : Int), (0 : Int), (0 : Int), []) :: (((9 : Int), z103.toInt, (0 : Int), (0 : Int), ((f 68).toNatClampNeg :: fl)) :: gs)) ≤ 60 * z115.toInt + 60; omega), (by show 0 ≤ (f 62).toInt; omega), (by show (f 62).toInt + 64 * mj_n (g'141 16) (f 15).toNatClampNeg 3 ≤ 64 * z115.toInt; rw [show g'141 16 = g'132 16 from h145_ 16 (by decide), show g'132 16 = g'122 16 from h136_ 16 (by decide), show g'122 16 = g'96 16 from h126_ 16 (by decide), show g'96 16 = g'8 16 from h101_ 16 (by decide), show g'8 16 = g 16 from h16_ 16 (by decide)]; omega), (by show 0 ≤ b7.toInt; omega), (by show b7.toInt ≤ z115.toInt; omega), (by show 0 ≤ (f 48).toInt; omega), (by show (f 48).toInt ≤ z115.toInt; omega), (by show 1 ≤ (f 53).toInt; omega), (by show (f 53).toInt ≤ z115.toInt + 1; omega), (by show 0 ≤ (f 19).toInt; omega), (by show (f 19).toInt ≤ 600; omega), (by show 0 ≤ (f 6).toInt; omega), (by show 0 ≤ (f 8).toInt; omega)⟩
            · show 100 * ((f 0).toInt - z115.toInt) + mg_p3 (((1 : Int), (0 : Int), (0 : Int), (0 : Int), []) :: (((9 : Int), z103.toInt, (0 : Int), (0 : Int), ((f 68).toNatClampNeg :: fl)) :: gs)) < 100 * ((f 0).toInt - (f 4).toInt) + (1 + mg_p3 gs); omega
      · refine am_e13f hi_249_12 (am_cF (m := (g 1 (f 4).toNatClampNeg).toInt) (n := (15 : Int)) rfl (by decide) c31) ?_
        refine am_e2 (v := 39) hi_249_15 rfl ?_
        refine am_e0 hi_249_16 ?_
        refine am_e32w (as := [.ref 39, .int 15]) (la := [some (.ref 39), some (.int 15)]) (rest := []) hi_249_18 (am_hd0 (M := 249) (by decide) 18) (Nat.le_of_ble_eq_true rfl) (Nat.le_of_ble_eq_true rfl) (show 2 ≤ am_P0.2.2.1 199 from by decide +kernel) rfl (am_recv_ok hS10.fs) rfl rfl ?_
        refine am_e2 (v := 39) hi_199_0 rfl ?_
        refine am_e1 (v := 15) hi_199_1 rfl ?_
        refine am_e32w (as := [.ref 39, .int 15]) (la := [some (.ref 39), some (.int 15)]) (rest := []) hi_199_2 (am_hd0 (M := 199) (by decide) 2) (Nat.le_of_ble_eq_true rfl) (Nat.le_of_ble_eq_true rfl) (show 2 ≤ am_P0.2.2.1 200 from by decide +kernel) rfl (am_recv_ok hS10.fs) rfl rfl ?_
        refine am_e2 (v := 39) hi_200_0 rfl ?_
        refine am_e32w (as := [.ref 39]) (la := [some (.ref 39)]) (rest := []) hi_200_1 (am_hd0 (M := 200) (by decide) 1) (Nat.le_of_ble_eq_true rfl) (Nat.le_of_ble_eq_true rfl) (show 1 ≤ am_P0.2.2.1 183 from by decide +kernel) rfl (am_recv_ok hS10.fs) rfl rfl ?_
        refine am_e2 (v := 39) hi_183_0 rfl ?_
        refine am_e2 (v := 39) hi_183_1 rfl ?_
        refine mm_20 (v := .int (f 4)) hS10 hi_183_2 rfl ?_
        refine am_e32w (as := [.ref 39, .int (f 4)]) (la := [some (.ref 39), some (.int (f 4))]) (rest := []) hi_183_5 (am_hd0 (M := 183) (by decide) 5) (Nat.le_of_ble_eq_true rfl) (Nat.le_of_ble_eq_true rfl) (show 2 ≤ am_P0.2.2.1 184 from by decide +kernel) rfl (am_recv_ok hS10.fs) rfl rfl ?_
        refine am_e1 (v := f 4) hi_184_0 rfl ?_
        refine am_e2 (v := 39) hi_184_1 rfl ?_
        refine mm_20 (v := .int (f 0)) hS10 hi_184_2 rfl ?_
        refine am_e13f hi_184_5 (am_cF (m := (f 4).toInt) (n := (f 0).toInt) rfl rfl (by simp only [am_cI]; omega)) ?_
        refine am_e2 (v := 39) hi_184_8 rfl ?_
        refine mm_20 (v := .ref 40) hS10 hi_184_9 rfl ?_
        refine am_e1 (v := f 4) hi_184_12 rfl ?_
        refine mm_25 hS10 ma_1 hi_184_13 (by decide) (by omega) (by omega) ?_
        show am_E _ _ _ _ _ (.int (g'8 1 (f 4).toNatClampNeg) :: _) _ _
        rw [show g'8 1 = g 1 from h16_ 1 (by decide)]
        show am_E _ _ _ _ [some (.ref 39), some (.int (f 4))] [.int (g 1 (f 4).toNatClampNeg)] _ _
        refine am_e18 hi_184_14 ?_
        refine am_e33 hi_184_18 ?_
        show am_E _ _ _ _ [some (.ref 39)] [.int (g 1 (f 4).toNatClampNeg)] _ _
        refine am_e33 hi_183_8 ?_
        show am_E _ _ _ _ [some (.ref 39), some (.int 15)] [.int (g 1 (f 4).toNatClampNeg)] _ _
        refine am_e1 (v := 15) hi_200_4 rfl ?_
        refine am_e13t hi_200_5 (am_cT (m := (g 1 (f 4).toNatClampNeg).toInt) (n := (15 : Int)) rfl (by decide) (by simp only [am_cI]; omega)) ?_
        refine am_e2 (v := 39) hi_200_15 rfl ?_
        refine am_e7 hi_200_16 ?_
        refine mm_20 (v := .int (f 4)) hS10 hi_200_17 rfl ?_
        refine am_e0 hi_200_20 ?_
        obtain ⟨z147, hz147, tz147⟩ := am_addI (x := f 4) (y := 1) (m := (f 4).toInt) (n := (1 : Int)) rfl (by decide) (by omega) (by omega)
        refine am_e10 (z := z147) hi_200_21 hz147 ?_
        refine mm_21 (v := z147) hS10 hi_200_22 rfl (Nat.le_of_ble_eq_true rfl) ms_4 ?_
        intro S148 hS149
        replace hS149 : MS S0 S148 (upd (upd (upd (upd f 4 z147) 24 l5) 37 z6) 44 b7) g'8 := hS149
        have hR150 : RJ (upd (upd (upd (upd f 4 z147) 24 l5) 37 z6) 44 b7) g'8 gs bc1 fl tw.toInt [on.toInt.toNat] := RJ.at hR19_ (by show (f 4).toInt ≤ z147.toInt; omega)
        refine am_e0 hi_200_25 ?_
        refine am_e36 hi_200_26 (by decide) ?_
        show am_E _ _ _ _ [some (.ref 39), some (.int 15)] [.int 1] _ _
        refine am_e12t hi_199_5 (by decide) ?_
        refine am_e2 (v := 39) hi_199_10 rfl ?_
        refine am_e7 hi_199_11 ?_
        refine mm_20 (v := .int (f 5)) hS149 hi_199_12 rfl ?_
        refine am_e0 hi_199_15 ?_
        obtain ⟨z151, hz151, tz151⟩ := am_subI (x := f 5) (y := 1) (m := (f 5).toInt) (n := (1 : Int)) rfl (by decide) (by omega) (by omega)
        refine am_e10 (z := z151) hi_199_16 hz151 ?_
        refine mm_21 (v := z151) hS149 hi_199_17 rfl (Nat.le_of_ble_eq_true rfl) ms_5 ?_
        intro S152 hS153
        replace hS153 : MS S0 S152 (upd (upd (upd (upd (upd f 4 z147) 5 z151) 24 l5) 37 z6) 44 b7) g'8 := hS153
        refine am_e0 hi_199_20 ?_
        refine am_e36 hi_199_21 (by decide) ?_
        show am_E _ _ _ _ [some (.ref 39), some (.int on), some (.int tw), some (.int (g 1 (f 4).toNatClampNeg)), none] [.int 1] _ _
        refine am_e6i hi_249_21 ?_
        refine am_e2 (v := 39) hi_249_22 rfl ?_
        refine mm_20 (v := .ref 90) hS153 hi_249_23 rfl ?_
        refine am_e1 (v := on) hi_249_26 rfl ?_
        refine am_e2 (v := 39) hi_249_27 rfl ?_
        refine am_e32n (as := [.ref 39]) (la := [some (.ref 39)]) (rest := [.int on, .ref 90]) hi_249_28 (am_hd0 (M := 249) (by decide) 28) (Nat.le_of_ble_eq_true rfl) (Nat.le_of_ble_eq_true rfl) (show 1 ≤ am_P0.2.2.1 210 from by decide +kernel) rfl (am_recv_ok hS153.fs) rfl rfl (ct_here (d := (d + 6)) hS153 hR150  (by show (0 : Int) ≤ (f 32).toInt; omega) (by show (f 32).toInt ≤ (63 : Int); omega) (by show (f 53).toInt ≤ (4096 : Int); omega) (by show (0 : Int) ≤ (f 68).toInt; omega) (by show (f 68).toInt ≤ (65534 : Int); omega)) ?_
        rintro v154 S155 (⟨r156, hv157, hS158, h159, h160⟩)
        subst hv157
        have h159_ : (0 : Int) ≤ r156.toInt := h159
        have h160_ : r156.toInt ≤ (f 68).toInt := h160
        show am_E _ _ _ _ [some (.ref 39), some (.int on), some (.int tw), some (.int (g 1 (f 4).toNatClampNeg)), none] [.int r156, .int on, .ref 90] _ _
        refine mm_26 hS158 ma_71 hi_249_31 (by decide) (by omega) (by omega) (fun h => nomatch h) ?_
        intro S162 hS163
        have hix403 : on.toNatClampNeg = on.toInt.toNat := by first | rfl | (rw [cl_toNat, cl_toNat]; omega)
        have hR164 : RJ (upd (upd (upd (upd (upd f 4 z147) 5 z151) 24 l5) 37 z6) 44 b7) (upg g'8 71 on.toNatClampNeg r156) gs bc1 fl tw.toInt [on.toInt.toNat] := by rw [hix403]; exact RJ.lead hR150 (RJ.pjn hR150 (show on.toInt.toNat ∈ _ from by simp only [List.mem_cons, true_or, or_true]))
        refine am_e2 (v := 39) hi_249_32 rfl ?_
        refine am_e1 (v := tw) hi_249_33 rfl ?_
        refine am_e32n (as := [.ref 39, .int tw]) (la := [some (.ref 39), some (.int tw), none, none]) (rest := []) hi_249_34 (am_hd0 (M := 249) (by decide) 34) (Nat.le_of_ble_eq_true rfl) (Nat.le_of_ble_eq_true rfl) (show 2 ≤ am_P0.2.2.1 250 from by decide +kernel) rfl (am_recv_ok hS163.fs) rfl rfl (ct_mend (d := (d + 5)) hS163 hR164 rfl (by show (0 : Int) ≤ (f 32).toInt; omega) (by show (f 32).toInt ≤ (63 : Int); omega) (by show (f 53).toInt ≤ (4096 : Int); omega) (by show (0 : Int) ≤ (f 68).toInt; omega) (by show (f 68).toInt ≤ (65534 : Int); omega)) ?_
        rintro v165 S166 (⟨g'167, hv168, hS169, hR171, h170⟩)
        subst hv168
        have h170_ : ∀ j, j ∉ [71] → g'167 j = (upg g'8 71 on.toNatClampNeg r156) j := h170
        have hR171_ : RJ (upd (upd (upd (upd (upd f 4 z147) 5 z151) 24 l5) 37 z6) 44 b7) g'167 gs bc1 [] 0 [on.toInt.toNat] := hR171
        show am_E _ _ _ _ [some (.ref 39), some (.int on), some (.int tw), some (.int (g 1 (f 4).toNatClampNeg)), none] [] _ _
        refine am_e18 hi_249_37 ?_
        refine am_e35 hi_249_148 ?_
        show am_E _ _ _ _ [some (.ref 39), some (.int 8), some (.int on), some (.int tw), some (.int th)] [] _ _
        refine am_e18 hi_180_201 ?_
        refine am_e35 hi_180_371 ?_
        have q1 : mg_p1 gs = mg_p1 gs := rfl
        have q2 : mg_p2 gs = mg_p2 gs := rfl
        have q3 : mg_p3 gs = mg_p3 gs := rfl
        have q4 : mg_p4 gs = mg_p4 gs := rfl
        refine ⟨_, _, _, bc1, rfl, hS169, Or.inl ⟨⟨(RJ.fewer (pj' := []) hR171_ (fun _ h => nomatch h)), ?_, ?_⟩, rfl, ?_⟩⟩
        · exact (mg_cast (mg_good_ext _ _ _ _ _ _ (fun i _ => by show g'167 34 i = g 34 i; rw [show g'167 34 = g'8 34 from h170_ 34 (by decide), show g'8 34 = g 34 from h16_ 34 (by decide)]) (fun i _ => by show g'167 38 i = g 38 i; rw [show g'167 38 = g'8 38 from h170_ 38 (by decide), show g'8 38 = g 38 from h16_ 38 (by decide)]) (fun i _ => by show g'167 23 i = g 23 i; rw [show g'167 23 = g'8 23 from h170_ 23 (by decide), show g'8 23 = g 23 from h16_ 23 (by decide)]) hrest) (by show (f 15).toInt + 0 = (f 15).toInt; omega) (by show (f 20).toInt = (f 20).toInt; omega) (by show (f 37).toInt + -1 = z6.toInt; omega) (by show (f 32).toInt + 0 = (f 32).toInt; omega) (by show (f 5).toInt + -1 = z151.toInt; omega) : mg_good (g'167 34) (g'167 38) (g'167 23) gs ((f 15).toInt) ((f 20).toInt) (z6.toInt) ((f 32).toInt) (z151.toInt))
        · exact ⟨(by show 0 ≤ z147.toInt; omega), (by show z147.toInt ≤ (f 0).toInt; omega), (by show (f 0).toInt ≤ 512; omega), (by show 0 ≤ l5.toInt; omega), (by show l5.toInt + (f 20).toInt + mg_p1 gs ≤ 4 * z147.toInt; omega), (by show (f 20).toInt ≤ z147.toInt; omega), (by show (f 15).toInt + mg_p2 gs ≤ z147.toInt; omega), (by show mg_p3 gs ≤ 20 * z147.toInt + 20; omega), (by show 0 ≤ (f 68).toInt; omega), (by show (f 68).toInt + 3 * (f 20).toInt + mg_p4 gs ≤ 60 * z147.toInt + 60; omega), (by show 0 ≤ (f 62).toInt; omega), (by show (f 62).toInt + 64 * mj_n (g'167 16) (f 15).toNatClampNeg 3 ≤ 64 * z147.toInt; rw [show g'167 16 = g'8 16 from h170_ 16 (by decide), show g'8 16 = g 16 from h16_ 16 (by decide)]; omega), (by show 0 ≤ b7.toInt; omega), (by show b7.toInt ≤ z147.toInt; omega), (by show 0 ≤ (f 48).toInt; omega), (by show (f 48).toInt ≤ z147.toInt; omega), (by show 1 ≤ (f 53).toInt; omega), (by show (f 53).toInt ≤ z147.toInt + 1; omega), (by show 0 ≤ (f 19).toInt; omega), (by show (f 19).toInt ≤ 600; omega), (by show 0 ≤ (f 6).toInt; omega), (by show 0 ≤ (f 8).toInt; omega)⟩
        · show 100 * ((f 0).toInt - z147.toInt) + mg_p3 gs < 100 * ((f 0).toInt - (f 4).toInt) + (1 + mg_p3 gs); omega
  · refine am_e13f hi_243_15 (am_cF (m := (f 24).toInt) (n := (g 38 z0.toNatClampNeg).toInt) rfl rfl c2) ?_
    refine am_e0 hi_243_18 ?_
    refine am_e18 hi_243_19 ?_
    refine am_e36 hi_243_23 (by decide) ?_
    show am_E _ _ _ _ [some (.ref 39)] [.int 1] _ _
    refine am_e12f hi_242_4 (by decide) ?_
    refine am_e2 (v := 39) hi_242_7 rfl ?_
    refine am_e0 hi_242_8 ?_
    refine am_e2 (v := 39) hi_242_10 rfl ?_
    refine am_e32w (as := [.ref 39]) (la := [some (.ref 39)]) (rest := [.int 33, .ref 39]) hi_242_11 (am_hd0 (M := 242) (by decide) 11) (Nat.le_of_ble_eq_true rfl) (Nat.le_of_ble_eq_true rfl) (show 1 ≤ am_P0.2.2.1 232 from by decide +kernel) rfl (am_recv_ok hS.fs) rfl rfl ?_
    refine am_e2 (v := 39) hi_232_0 rfl ?_
    refine mm_20 (v := .ref 62) hS hi_232_1 rfl ?_
    refine am_e2 (v := 39) hi_232_4 rfl ?_
    refine mm_20 (v := .int (f 37)) hS hi_232_5 rfl ?_
    refine am_e0 hi_232_8 ?_
    refine am_e10 (z := z0) hi_232_9 hz0 ?_
    refine mm_25 hS ma_38 hi_232_10 (by decide) (by omega) (by omega) ?_
    show am_E _ _ _ _ [some (.ref 39)] [.int (g 38 z0.toNatClampNeg)] _ _
    have r172 : 0 ≤ (g 38 z0.toNatClampNeg).toInt ∧ (g 38 z0.toNatClampNeg).toInt ≤ (f 24).toInt := RJ.bl (i := z0) hR (by omega) (by show z0.toInt < (f 37).toInt; omega)
    refine am_e2 (v := 39) hi_232_11 rfl ?_
    refine mm_20 (v := .ref 59) hS hi_232_12 rfl ?_
    refine am_e2 (v := 39) hi_232_15 rfl ?_
    refine mm_20 (v := .int (f 32)) hS hi_232_16 rfl ?_
    refine mm_25 hS ma_34 hi_232_19 (by decide) (by omega) (by omega) ?_
    show am_E _ _ _ _ [some (.ref 39)] [.int (g 34 (f 32).toNatClampNeg), .int (g 38 z0.toNatClampNeg)] _ _
    have r173 : 0 ≤ (g 34 (f 32).toNatClampNeg).toInt := RJ.ba hR (f 32).toNatClampNeg
    obtain ⟨z174, hz174⟩ : ∃ q__, am_bin 1 (g 38 z0.toNatClampNeg) (g 34 (f 32).toNatClampNeg) = q__ := ⟨_, rfl⟩
    refine am_e10 (z := z174) hi_232_20 hz174 ?_
    refine am_e33 hi_232_21 ?_
    show am_E _ _ _ _ [some (.ref 39)] [.int z174, .int 33, .ref 39] _ _
    refine am_e0 hi_242_14 ?_
    refine am_e0 hi_242_15 ?_
    refine am_e32n (as := [.ref 39, .int 33, .int z174, .int 0, .int 0]) (la := [some (.ref 39), some (.int 33), some (.int z174), some (.int 0), some (.int 0)]) (rest := []) hi_242_16 (am_hd0 (M := 242) (by decide) 16) (Nat.le_of_ble_eq_true rfl) (Nat.le_of_ble_eq_true rfl) (show 5 ≤ am_P0.2.2.1 189 from by decide +kernel) rfl (am_recv_ok hS.fs) rfl rfl (ct_put (d := (d + 5)) hS hR  (by show (0 : Int) ≤ (f 32).toInt; omega) (by show (f 32).toInt ≤ (63 : Int); omega) (by show (f 53).toInt ≤ (4096 : Int); omega) (by show (0 : Int) ≤ (f 68).toInt; omega) (by show (f 68).toInt ≤ (65534 : Int); omega)) ?_
    rintro v175 S176 (⟨z177, r178, g'179, hv180, hS181, hR185, h182, h183, h184⟩)
    subst hv180
    have h182_ : z177.toInt = (f 68).toInt + 1 := h182
    have h183_ : r178.toInt = (f 68).toInt := h183
    have h184_ : ∀ j, j ∉ [60, 69, 70, 71, 72, 73] → g'179 j = g j := h184
    have hR185_ : RJ (upd f 68 z177) g'179 gs (c0 :: bc1) fl tw.toInt ((f 68).toNatClampNeg :: [on.toInt.toNat]) := hR185
    show am_E _ _ _ _ [some (.ref 39)] [.int r178] _ _
    refine am_e6i hi_242_19 ?_
    refine am_e2 (v := 39) hi_242_20 rfl ?_
    refine am_e32n (as := [.ref 39]) (la := [some (.ref 39), none, none]) (rest := []) hi_242_21 (am_hd0 (M := 242) (by decide) 21) (Nat.le_of_ble_eq_true rfl) (Nat.le_of_ble_eq_true rfl) (show 1 ≤ am_P0.2.2.1 224 from by decide +kernel) rfl (am_recv_ok hS181.fs) rfl rfl (ct_dropBlock2 (d := (d + 5)) hS181 hR185_  (by show (0 : Int) ≤ (f 32).toInt; omega) (by show (f 32).toInt ≤ (63 : Int); omega) (by show (0 : Int) ≤ (f 48).toInt; omega) (by show (f 48).toInt ≤ (8192 : Int); omega) (by show (f 4).toInt ≤ (8192 : Int); omega) (by show (1 : Int) ≤ (f 37).toInt; omega) (by show (f 37).toInt ≤ (128 : Int); omega)) ?_
    rintro v186 S187 (⟨l188, z189, b190, g'191, hv192, hS193, hR202, h194, h195, h196, h197, h198, h199, h200, h201⟩)
    subst hv192
    have h194_ : z189.toInt = (f 37).toInt - 1 := h194
    have h195_ : (0 : Int) ≤ l188.toInt := h195
    have h196_ : l188.toInt ≤ (f 24).toInt := h196
    have h197_ : (0 : Int) ≤ b190.toInt := h197
    have h198_ : b190.toInt ≤ (f 4).toInt := h198
    have h199_ : ∀ j, j ∉ [52] → g'191 j = g'179 j := h199
    have h200_ : (fl : List Nat) = [] → RJ (upd (upd (upd (upd f 24 l188) 37 z189) 44 b190) 68 z177) g'191 gs bc1 c0 (g'191 43 z189.toNatClampNeg).toInt ((f 68).toNatClampNeg :: [on.toInt.toNat]) := h200
    have h201_ : l188 = g'179 38 z189.toNatClampNeg := h201
    replace hS193 : MS S0 S187 (upd (upd (upd (upd f 24 l188) 37 z189) 44 b190) 68 z177) g'191 := hS193
    have hR202_ : RJ (upd (upd (upd (upd f 24 l188) 37 z189) 44 b190) 68 z177) g'191 gs bc1 fl tw.toInt ((f 68).toNatClampNeg :: [on.toInt.toNat]) := hR202
    show am_E _ _ _ _ [some (.ref 39)] [] _ _
    refine am_e35 hi_242_24 ?_
    show am_E _ _ _ _ [some (.ref 39), some (.int on), some (.int tw), none, none] [] _ _
    refine am_e2 (v := 39) hi_249_4 rfl ?_
    refine am_e32w (as := [.ref 39]) (la := [some (.ref 39)]) (rest := []) hi_249_5 (am_hd0 (M := 249) (by decide) 5) (Nat.le_of_ble_eq_true rfl) (Nat.le_of_ble_eq_true rfl) (show 1 ≤ am_P0.2.2.1 183 from by decide +kernel) rfl (am_recv_ok hS193.fs) rfl rfl ?_
    refine am_e2 (v := 39) hi_183_0 rfl ?_
    refine am_e2 (v := 39) hi_183_1 rfl ?_
    refine mm_20 (v := .int (f 4)) hS193 hi_183_2 rfl ?_
    refine am_e32w (as := [.ref 39, .int (f 4)]) (la := [some (.ref 39), some (.int (f 4))]) (rest := []) hi_183_5 (am_hd0 (M := 183) (by decide) 5) (Nat.le_of_ble_eq_true rfl) (Nat.le_of_ble_eq_true rfl) (show 2 ≤ am_P0.2.2.1 184 from by decide +kernel) rfl (am_recv_ok hS193.fs) rfl rfl ?_
    refine am_e1 (v := f 4) hi_184_0 rfl ?_
    refine am_e2 (v := 39) hi_184_1 rfl ?_
    refine mm_20 (v := .int (f 0)) hS193 hi_184_2 rfl ?_
    by_cases c203 : (f 0).toInt ≤ (f 4).toInt
    · refine am_e13t hi_184_5 (am_cT (m := (f 4).toInt) (n := (f 0).toInt) rfl rfl c203) ?_
      refine am_e0 hi_184_17 ?_
      refine am_e33 hi_184_18 ?_
      show am_E _ _ _ _ [some (.ref 39)] [.int (-1)] _ _
      refine am_e33 hi_183_8 ?_
      show am_E _ _ _ _ [some (.ref 39), some (.int on), some (.int tw), none, none] [.int (-1)] _ _
      refine am_e3 (ls' := [some (.ref 39), some (.int on), some (.int tw), some (.int (-1)), none]) hi_249_8 (Nat.le_of_ble_eq_true rfl) rfl ?_
      refine am_e1 (v := (-1)) hi_249_9 rfl ?_
      refine am_e0 hi_249_10 ?_
      refine am_e13t hi_249_12 (by decide) ?_
      refine am_e1 (v := (-1)) hi_249_40 rfl ?_
      refine am_e0 hi_249_41 ?_
      refine am_e13f hi_249_43 (by decide) ?_
      refine am_e1 (v := (-1)) hi_249_46 rfl ?_
      refine am_e0 hi_249_47 ?_
      refine am_e13t hi_249_49 (by decide) ?_
      refine am_e2 (v := 39) hi_249_141 rfl ?_
      refine am_e0 hi_249_142 ?_
      refine am_e32n (as := [.ref 39, .int 7]) (la := [some (.ref 39), some (.int 7)]) (rest := []) hi_249_144 (am_hd0 (M := 249) (by decide) 144) (Nat.le_of_ble_eq_true rfl) (Nat.le_of_ble_eq_true rfl) (show 2 ≤ am_P0.2.2.1 194 from by decide +kernel) rfl (am_recv_ok hS193.fs) rfl rfl (ct_fail (d := (d + 6)) hS193   (by show (0 : Int) ≤ (7 : Int); omega) (by show (0 : Int) ≤ (f 6).toInt; omega)) ?_
      rintro v204 S205 (⟨a206, b207, hv208, hS209, h210⟩)
      subst hv208
      have h210_ : (0 : Int) ≤ a206.toInt := h210
      replace hS209 : MS S0 S205 (upd (upd (upd (upd (upd (upd (upd f 6 a206) 7 b207) 10 0) 24 l188) 37 z189) 44 b190) 68 z177) g'191 := hS209
      have hR212 := rj_clear0 hR202_
      have hR213 : RJ (upd (upd (upd (upd (upd (upd (upd f 6 a206) 7 b207) 10 0) 24 l188) 37 z189) 44 b190) 68 z177) g'191 [] bc1 [] 0 [] := hR212
      show am_E _ _ _ _ [some (.ref 39), some (.int on), some (.int tw), some (.int (-1)), none] [.int 0] _ _
      refine am_e6i hi_249_147 ?_
      refine am_e35 hi_249_148 ?_
      show am_E _ _ _ _ [some (.ref 39), some (.int 8), some (.int on), some (.int tw), some (.int th)] [] _ _
      refine am_e18 hi_180_201 ?_
      refine am_e35 hi_180_371 ?_
      have hRc := rj_clear0 hR213
      refine ⟨_, _, [], _, rfl, hS209, Or.inr ⟨hRc, rfl, (by show 0 ≤ (f 4).toInt; omega), (by show (f 4).toInt ≤ (f 0).toInt; omega), (by show 0 ≤ (f 32).toInt; omega), (by show (f 32).toInt ≤ 63; omega), (by show 1 ≤ (f 53).toInt; omega), (by show (f 53).toInt ≤ 600; omega), (by show 0 ≤ z177.toInt; omega), (by show z177.toInt ≤ 60000; omega), (by show 0 ≤ (f 48).toInt; omega), (by show (f 48).toInt ≤ 8000; omega), (by show 0 ≤ z189.toInt; omega), (by show z189.toInt ≤ 128; omega), (by show 0 ≤ (f 62).toInt; omega), (by show (f 62).toInt ≤ 65000; omega), (by show 0 ≤ (f 19).toInt; omega), (by show (f 19).toInt ≤ 600; omega), (by show 0 ≤ a206.toInt; omega), (by show 0 ≤ (f 8).toInt; omega)⟩⟩
    · refine am_e13f hi_184_5 (am_cF (m := (f 4).toInt) (n := (f 0).toInt) rfl rfl c203) ?_
      refine am_e2 (v := 39) hi_184_8 rfl ?_
      refine mm_20 (v := .ref 40) hS193 hi_184_9 rfl ?_
      refine am_e1 (v := f 4) hi_184_12 rfl ?_
      refine mm_25 hS193 ma_1 hi_184_13 (by decide) (by omega) (by omega) ?_
      show am_E _ _ _ _ _ (.int (g'191 1 (f 4).toNatClampNeg) :: _) _ _
      rw [show g'191 1 = g'179 1 from h199_ 1 (by decide), show g'179 1 = g 1 from h184_ 1 (by decide)]
      show am_E _ _ _ _ [some (.ref 39), some (.int (f 4))] [.int (g 1 (f 4).toNatClampNeg)] _ _
      refine am_e18 hi_184_14 ?_
      refine am_e33 hi_184_18 ?_
      show am_E _ _ _ _ [some (.ref 39)] [.int (g 1 (f 4).toNatClampNeg)] _ _
      refine am_e33 hi_183_8 ?_
      show am_E _ _ _ _ [some (.ref 39), some (.int on), some (.int tw), none, none] [.int (g 1 (f 4).toNatClampNeg)] _ _
      refine am_e3 (ls' := [some (.ref 39), some (.int on), some (.int tw), some (.int (g 1 (f 4).toNatClampNeg)), none]) hi_249_8 (Nat.le_of_ble_eq_true rfl) rfl ?_
      refine am_e1 (v := g 1 (f 4).toNatClampNeg) hi_249_9 rfl ?_
      refine am_e0 hi_249_10 ?_
      by_cases c214 : ¬ (g 1 (f 4).toNatClampNeg).toInt = (15 : Int)
      · refine am_e13t hi_249_12 (am_cT (m := (g 1 (f 4).toNatClampNeg).toInt) (n := (15 : Int)) rfl (by decide) c214) ?_
        refine am_e1 (v := g 1 (f 4).toNatClampNeg) hi_249_40 rfl ?_
        refine am_e0 hi_249_41 ?_
        by_cases c215 : (g 1 (f 4).toNatClampNeg).toInt = (14 : Int)
        · refine am_e13t hi_249_43 (am_cT (m := (g 1 (f 4).toNatClampNeg).toInt) (n := (14 : Int)) rfl (by decide) c215) ?_
          refine am_e2 (v := 39) hi_249_52 rfl ?_
          refine am_e0 hi_249_53 ?_
          refine am_e1 (v := tw) hi_249_55 rfl ?_
          refine am_e0 hi_249_56 ?_
          refine am_e0 hi_249_57 ?_
          refine am_e32n (as := [.ref 39, .int 36, .int tw, .int 0, .int 0]) (la := [some (.ref 39), some (.int 36), some (.int tw), some (.int 0), some (.int 0)]) (rest := []) hi_249_58 (am_hd0 (M := 249) (by decide) 58) (Nat.le_of_ble_eq_true rfl) (Nat.le_of_ble_eq_true rfl) (show 5 ≤ am_P0.2.2.1 189 from by decide +kernel) rfl (am_recv_ok hS193.fs) rfl rfl (ct_putc (d := (d + 6)) hS193 hR202_ rfl (by show (0 : Int) ≤ (f 32).toInt; omega) (by show (f 32).toInt ≤ (63 : Int); omega) (by show (f 53).toInt ≤ (4096 : Int); omega) (by show (0 : Int) ≤ z177.toInt; omega) (by show z177.toInt ≤ (65534 : Int); omega)) ?_
          rintro v216 S217 (⟨z218, r219, g'220, hv221, hS222, hR226, h223, h224, h225⟩)
          subst hv221
          have h223_ : z218.toInt = z177.toInt + 1 := h223
          have h224_ : r219.toInt = z177.toInt := h224
          have h225_ : ∀ j, j ∉ [60, 69, 70, 71, 72, 73] → g'220 j = g'191 j := h225
          replace hS222 : MS S0 S217 (upd (upd (upd (upd f 24 l188) 37 z189) 44 b190) 68 z218) g'220 := hS222
          have hR226_ : RJ (upd (upd (upd (upd f 24 l188) 37 z189) 44 b190) 68 z218) g'220 gs bc1 (z177.toNatClampNeg :: fl) (z177.toInt + 1) ((f 68).toNatClampNeg :: [on.toInt.toNat]) := hR226
          show am_E _ _ _ _ [some (.ref 39), some (.int on), some (.int tw), some (.int (g 1 (f 4).toNatClampNeg)), none] [.int r219] _ _
          refine am_e0 hi_249_61 ?_
          obtain ⟨z227, hz227, tz227⟩ := am_addI (x := r219) (y := 1) (m := r219.toInt) (n := (1 : Int)) rfl (by decide) (by omega) (by omega)
          refine am_e10 (z := z227) hi_249_62 hz227 ?_
          refine am_e3 (ls' := [some (.ref 39), some (.int on), some (.int tw), some (.int (g 1 (f 4).toNatClampNeg)), some (.int z227)]) hi_249_63 (Nat.le_of_ble_eq_true rfl) rfl ?_
          refine am_e2 (v := 39) hi_249_65 rfl ?_
          refine mm_20 (v := .ref 90) hS222 hi_249_66 rfl ?_
          refine am_e1 (v := on) hi_249_69 rfl ?_
          refine am_e2 (v := 39) hi_249_70 rfl ?_
          refine am_e32n (as := [.ref 39]) (la := [some (.ref 39)]) (rest := [.int on, .ref 90]) hi_249_71 (am_hd0 (M := 249) (by decide) 71) (Nat.le_of_ble_eq_true rfl) (Nat.le_of_ble_eq_true rfl) (show 1 ≤ am_P0.2.2.1 210 from by decide +kernel) rfl (am_recv_ok hS222.fs) rfl rfl (ct_here (d := (d + 6)) hS222 hR226_  (by show (0 : Int) ≤ (f 32).toInt; omega) (by show (f 32).toInt ≤ (63 : Int); omega) (by show (f 53).toInt ≤ (4096 : Int); omega) (by show (0 : Int) ≤ z218.toInt; omega) (by show z218.toInt ≤ (65534 : Int); omega)) ?_
          rintro v228 S229 (⟨r230, hv231, hS232, h233, h234⟩)
          subst hv231
          have h233_ : (0 : Int) ≤ r230.toInt := h233
          have h234_ : r230.toInt ≤ z218.toInt := h234
          show am_E _ _ _ _ [some (.ref 39), some (.int on), some (.int tw), some (.int (g 1 (f 4).toNatClampNeg)), some (.int z227)] [.int r230, .int on, .ref 90] _ _
          refine mm_26 hS232 ma_71 hi_249_74 (by decide) (by omega) (by omega) (fun h => nomatch h) ?_
          intro S236 hS237
          have hix579 : on.toNatClampNeg = on.toInt.toNat := by first | rfl | (rw [cl_toNat, cl_toNat]; omega)
          have hR238 : RJ (upd (upd (upd (upd f 24 l188) 37 z189) 44 b190) 68 z218) (upg g'220 71 on.toNatClampNeg r230) gs bc1 (z177.toNatClampNeg :: fl) (z177.toInt + 1) ((f 68).toNatClampNeg :: [on.toInt.toNat]) := by rw [hix579]; exact RJ.lead hR226_ (RJ.pjn hR226_ (show on.toInt.toNat ∈ _ from by simp only [List.mem_cons, true_or, or_true]))
          refine am_e2 (v := 39) hi_249_75 rfl ?_
          refine am_e7 hi_249_76 ?_
          refine mm_20 (v := .int (f 4)) hS237 hi_249_77 rfl ?_
          refine am_e0 hi_249_80 ?_
          obtain ⟨z239, hz239, tz239⟩ := am_addI (x := f 4) (y := 1) (m := (f 4).toInt) (n := (1 : Int)) rfl (by decide) (by omega) (by omega)
          refine am_e10 (z := z239) hi_249_81 hz239 ?_
          refine mm_21 (v := z239) hS237 hi_249_82 rfl (Nat.le_of_ble_eq_true rfl) ms_4 ?_
          intro S240 hS241
          replace hS241 : MS S0 S240 (upd (upd (upd (upd (upd f 4 z239) 24 l188) 37 z189) 44 b190) 68 z218) (upg g'220 71 on.toNatClampNeg r230) := hS241
          have hR242 : RJ (upd (upd (upd (upd (upd f 4 z239) 24 l188) 37 z189) 44 b190) 68 z218) (upg g'220 71 on.toNatClampNeg r230) gs bc1 (z177.toNatClampNeg :: fl) (z177.toInt + 1) ((f 68).toNatClampNeg :: [on.toInt.toNat]) := RJ.at hR238 (by show (f 4).toInt ≤ z239.toInt; omega)
          refine am_e1 (v := g 1 (f 4).toNatClampNeg) hi_249_85 rfl ?_
          refine am_e0 hi_249_86 ?_
          refine am_e13f hi_249_88 (am_cF (m := (g 1 (f 4).toNatClampNeg).toInt) (n := (14 : Int)) rfl (by decide) (by simp only [am_cI]; omega)) ?_
          refine am_e2 (v := 39) hi_249_91 rfl ?_
          refine am_e7 hi_249_92 ?_
          refine mm_20 (v := .int (f 5)) hS241 hi_249_93 rfl ?_
          refine am_e0 hi_249_96 ?_
          obtain ⟨z243, hz243, tz243⟩ := am_subI (x := f 5) (y := 1) (m := (f 5).toInt) (n := (1 : Int)) rfl (by decide) (by omega) (by omega)
          refine am_e10 (z := z243) hi_249_97 hz243 ?_
          refine mm_21 (v := z243) hS241 hi_249_98 rfl (Nat.le_of_ble_eq_true rfl) ms_5 ?_
          intro S244 hS245
          replace hS245 : MS S0 S244 (upd (upd (upd (upd (upd (upd f 4 z239) 5 z243) 24 l188) 37 z189) 44 b190) 68 z218) (upg g'220 71 on.toNatClampNeg r230) := hS245
          refine am_e2 (v := 39) hi_249_101 rfl ?_
          refine am_e0 hi_249_102 ?_
          refine am_e1 (v := z227) hi_249_104 rfl ?_
          refine am_e0 hi_249_106 ?_
          refine am_e0 hi_249_107 ?_
          refine am_e32n (as := [.ref 39, .int 7, .int z227, .int 0, .int 0]) (la := [some (.ref 39), some (.int 7), some (.int z227), some (.int 0), some (.int 0)]) (rest := []) hi_249_108 (am_hd0 (M := 249) (by decide) 108) (Nat.le_of_ble_eq_true rfl) (Nat.le_of_ble_eq_true rfl) (show 5 ≤ am_P0.2.2.1 179 from by decide +kernel) rfl (am_recv_ok hS245.fs) rfl rfl (ct_pilec (d := (d + 6)) hS245 hR242 (mj_e_79c hR242 (by decide) (by show z227.toInt = (z177.toInt + 1); omega)) (by show (0 : Int) ≤ (f 10).toInt; omega) (by show (f 10).toInt ≤ (65535 : Int); omega)) ?_
          rintro v246 S247 (⟨z248, g'249, hv250, hS251, hR254, h252, h253⟩)
          subst hv250
          have h252_ : z248.toInt = (f 10).toInt + 1 := h252
          have h253_ : ∀ j, j ∉ [11, 12, 13, 14] → g'249 j = (upg g'220 71 on.toNatClampNeg r230) j := h253
          replace hS251 : MS S0 S247 (upd (upd (upd (upd (upd (upd (upd f 4 z239) 5 z243) 10 z248) 24 l188) 37 z189) 44 b190) 68 z218) g'249 := hS251
          have hR254_ : RJ (upd (upd (upd (upd (upd (upd (upd f 4 z239) 5 z243) 10 z248) 24 l188) 37 z189) 44 b190) 68 z218) g'249 (((7 : Int), z227.toInt, (0 : Int), (0 : Int), (z177.toNatClampNeg :: fl)) :: gs) bc1 [] 0 ((f 68).toNatClampNeg :: [on.toInt.toNat]) := hR254
          show am_E _ _ _ _ [some (.ref 39), some (.int on), some (.int tw), some (.int (g 1 (f 4).toNatClampNeg)), some (.int z227)] [] _ _
          refine am_e2 (v := 39) hi_249_111 rfl ?_
          refine am_e0 hi_249_112 ?_
          refine am_e32w (as := [.ref 39, .int 0]) (la := [some (.ref 39), some (.int 0)]) (rest := []) hi_249_113 (am_hd0 (M := 249) (by decide) 113) (Nat.le_of_ble_eq_true rfl) (Nat.le_of_ble_eq_true rfl) (show 2 ≤ am_P0.2.2.1 186 from by decide +kernel) rfl (am_recv_ok hS251.fs) rfl rfl ?_
          refine am_e2 (v := 39) hi_186_0 rfl ?_
          refine am_e0 hi_186_1 ?_
          refine am_e1 (v := 0) hi_186_3 rfl ?_
          refine am_e0 hi_186_4 ?_
          refine am_e0 hi_186_5 ?_
          refine am_e32n (as := [.ref 39, .int 23, .int 0, .int 0, .int 0]) (la := [some (.ref 39), some (.int 23), some (.int 0), some (.int 0), some (.int 0)]) (rest := []) hi_186_6 (am_hd0 (M := 186) (by decide) 6) (Nat.le_of_ble_eq_true rfl) (Nat.le_of_ble_eq_true rfl) (show 5 ≤ am_P0.2.2.1 179 from by decide +kernel) rfl (am_recv_ok hS251.fs) rfl rfl (ct_pile (d := (d + 5)) hS251 hR254_ (mj_e_plain (by decide)) (by show (0 : Int) ≤ z248.toInt; omega) (by show z248.toInt ≤ (65535 : Int); omega)) ?_
          rintro v255 S256 (⟨z257, g'258, hv259, hS260, hR263, h261, h262⟩)
          subst hv259
          have h261_ : z257.toInt = z248.toInt + 1 := h261
          have h262_ : ∀ j, j ∉ [11, 12, 13, 14] → g'258 j = g'249 j := h262
          replace hS260 : MS S0 S256 (upd (upd (upd (upd (upd (upd (upd f 4 z239) 5 z243) 10 z257) 24 l188) 37 z189) 44 b190) 68 z218) g'258 := hS260
          have hR263_ : RJ (upd (upd (upd (upd (upd (upd (upd f 4 z239) 5 z243) 10 z257) 24 l188) 37 z189) 44 b190) 68 z218) g'258 (((23 : Int), (0 : Int), (0 : Int), (0 : Int), []) :: (((7 : Int), z227.toInt, (0 : Int), (0 : Int), (z177.toNatClampNeg :: fl)) :: gs)) bc1 [] 0 ((f 68).toNatClampNeg :: [on.toInt.toNat]) := hR263
          show am_E _ _ _ _ [some (.ref 39), some (.int 0)] [] _ _
          refine am_e35 hi_186_9 ?_
          show am_E _ _ _ _ [some (.ref 39), some (.int on), some (.int tw), some (.int (g 1 (f 4).toNatClampNeg)), some (.int z227)] [] _ _
          refine am_e18 hi_249_116 ?_
          refine am_e18 hi_249_138 ?_
          refine am_e35 hi_249_148 ?_
          show am_E _ _ _ _ [some (.ref 39), some (.int 8), some (.int on), some (.int tw), some (.int th)] [] _ _
          refine am_e18 hi_180_201 ?_
          refine am_e35 hi_180_371 ?_
          have q1 : mg_p1 (((23 : Int), (0 : Int), (0 : Int), (0 : Int), []) :: (((7 : Int), z227.toInt, (0 : Int), (0 : Int), (z177.toNatClampNeg :: fl)) :: gs)) = 0 + (0 + (mg_p1 gs)) := rfl
          have q2 : mg_p2 (((23 : Int), (0 : Int), (0 : Int), (0 : Int), []) :: (((7 : Int), z227.toInt, (0 : Int), (0 : Int), (z177.toNatClampNeg :: fl)) :: gs)) = 0 + (0 + (mg_p2 gs)) := rfl
          have q3 : mg_p3 (((23 : Int), (0 : Int), (0 : Int), (0 : Int), []) :: (((7 : Int), z227.toInt, (0 : Int), (0 : Int), (z177.toNatClampNeg :: fl)) :: gs)) = 1 + (1 + (mg_p3 gs)) := rfl
          have q4 : mg_p4 (((23 : Int), (0 : Int), (0 : Int), (0 : Int), []) :: (((7 : Int), z227.toInt, (0 : Int), (0 : Int), (z177.toNatClampNeg :: fl)) :: gs)) = 0 + (0 + (mg_p4 gs)) := rfl
          refine ⟨_, _, _, bc1, rfl, hS260, Or.inl ⟨⟨(RJ.fewer (pj' := []) hR263_ (fun _ h => nomatch h)), ?_, ?_⟩, rfl, ?_⟩⟩
          · exact (⟨⟨(show mg_k 23 from by decide), (show (0 : Int) ≤ (f 15).toInt from by omega), (show 0 ≤ (f 20).toInt from by omega), (show 1 ≤ z189.toInt from by omega), (show 0 ≤ (f 32).toInt from by omega), (show (f 32).toInt ≤ z243.toInt from by omega), (show z243.toInt ≤ 48 from by omega), (show z189.toInt ≤ 2 * (z243.toInt) + 2 from by omega), (show 0 ≤ (0 : Int) from by omega)⟩, ⟨⟨(show mg_k 7 from by decide), (show (1 : Int) ≤ (f 15).toInt + 1 from by omega), (show 0 ≤ (f 20).toInt from by omega), (show 1 ≤ z189.toInt + 0 from by omega), (show 0 ≤ (f 32).toInt + 0 from by omega), (show (f 32).toInt + 0 ≤ z243.toInt + 0 from by omega), (show z243.toInt + 0 ≤ 48 from by omega), (show z189.toInt + 0 ≤ 2 * (z243.toInt + 0) + 1 from by omega), trivial⟩, mg_cast (mg_good_ext _ _ _ _ _ _ (fun i _ => by show g'258 34 i = g 34 i; rw [show g'258 34 = g'249 34 from h262_ 34 (by decide), show g'249 34 = g'220 34 from h253_ 34 (by decide), show g'220 34 = g'191 34 from h225_ 34 (by decide), show g'191 34 = g'179 34 from h199_ 34 (by decide), show g'179 34 = g 34 from h184_ 34 (by decide)]) (fun i _ => by show g'258 38 i = g 38 i; rw [show g'258 38 = g'249 38 from h262_ 38 (by decide), show g'249 38 = g'220 38 from h253_ 38 (by decide), show g'220 38 = g'191 38 from h225_ 38 (by decide), show g'191 38 = g'179 38 from h199_ 38 (by decide), show g'179 38 = g 38 from h184_ 38 (by decide)]) (fun i _ => by show g'258 23 i = g 23 i; rw [show g'258 23 = g'249 23 from h262_ 23 (by decide), show g'249 23 = g'220 23 from h253_ 23 (by decide), show g'220 23 = g'191 23 from h225_ 23 (by decide), show g'191 23 = g'179 23 from h199_ 23 (by decide), show g'179 23 = g 23 from h184_ 23 (by decide)]) hrest) (by show (f 15).toInt + 0 = (f 15).toInt + 1 + -1; omega) (by show (f 20).toInt = (f 20).toInt; omega) (by show (f 37).toInt + -1 = z189.toInt + 0 + 0; omega) (by show (f 32).toInt + 0 = (f 32).toInt + 0 + 0; omega) (by show (f 5).toInt + -1 = z243.toInt + 0 + 0; omega)⟩⟩ : mg_good (g'258 34) (g'258 38) (g'258 23) (((23 : Int), (0 : Int), (0 : Int), (0 : Int), []) :: (((7 : Int), z227.toInt, (0 : Int), (0 : Int), (z177.toNatClampNeg :: fl)) :: gs)) ((f 15).toInt) ((f 20).toInt) (z189.toInt) ((f 32).toInt) (z243.toInt))
          · exact ⟨(by show 0 ≤ z239.toInt; omega), (by show z239.toInt ≤ (f 0).toInt; omega), (by show (f 0).toInt ≤ 512; omega), (by show 0 ≤ l188.toInt; omega), (by show l188.toInt + (f 20).toInt + mg_p1 (((23 : Int), (0 : Int), (0 : Int), (0 : Int), []) :: (((7 : Int), z227.toInt, (0 : Int), (0 : Int), (z177.toNatClampNeg :: fl)) :: gs)) ≤ 4 * z239.toInt; omega), (by show (f 20).toInt ≤ z239.toInt; omega), (by show (f 15).toInt + mg_p2 (((23 : Int), (0 : Int), (0 : Int), (0 : Int), []) :: (((7 : Int), z227.toInt, (0 : Int), (0 : Int), (z177.toNatClampNeg :: fl)) :: gs)) ≤ z239.toInt; omega), (by show mg_p3 (((23 : Int), (0 : Int), (0 : Int), (0 : Int), []) :: (((7 : Int), z227.toInt, (0 : Int), (0 : Int), (z177.toNatClampNeg :: fl)) :: gs)) ≤ 20 * z239.toInt + 20; omega), (by show 0 ≤ z218.toInt; omega), (by show z218.toInt + 3 * (f 20).toInt + mg_p4 (((23 : Int), (0 : Int), (0 : Int), (0 : Int), []) :: (((7 : Int), z227.toInt, (0 : Int), (0 : Int), (z177.toNatClampNeg :: fl)) :: gs)) ≤ 60 * z239.toInt + 60; omega), (by show 0 ≤ (f 62).toInt; omega), (by show (f 62).toInt + 64 * mj_n (g'258 16) (f 15).toNatClampNeg 3 ≤ 64 * z239.toInt; rw [show g'258 16 = g'249 16 from h262_ 16 (by decide), show g'249 16 = g'220 16 from h253_ 16 (by decide), show g'220 16 = g'191 16 from h225_ 16 (by decide), show g'191 16 = g'179 16 from h199_ 16 (by decide), show g'179 16 = g 16 from h184_ 16 (by decide)]; omega), (by show 0 ≤ b190.toInt; omega), (by show b190.toInt ≤ z239.toInt; omega), (by show 0 ≤ (f 48).toInt; omega), (by show (f 48).toInt ≤ z239.toInt; omega), (by show 1 ≤ (f 53).toInt; omega), (by show (f 53).toInt ≤ z239.toInt + 1; omega), (by show 0 ≤ (f 19).toInt; omega), (by show (f 19).toInt ≤ 600; omega), (by show 0 ≤ (f 6).toInt; omega), (by show 0 ≤ (f 8).toInt; omega)⟩
          · show 100 * ((f 0).toInt - z239.toInt) + mg_p3 (((23 : Int), (0 : Int), (0 : Int), (0 : Int), []) :: (((7 : Int), z227.toInt, (0 : Int), (0 : Int), (z177.toNatClampNeg :: fl)) :: gs)) < 100 * ((f 0).toInt - (f 4).toInt) + (1 + mg_p3 gs); omega
        · refine am_e13f hi_249_43 (am_cF (m := (g 1 (f 4).toNatClampNeg).toInt) (n := (14 : Int)) rfl (by decide) c215) ?_
          refine am_e1 (v := g 1 (f 4).toNatClampNeg) hi_249_46 rfl ?_
          refine am_e0 hi_249_47 ?_
          by_cases c264 : ¬ (g 1 (f 4).toNatClampNeg).toInt = (13 : Int)
          · refine am_e13t hi_249_49 (am_cT (m := (g 1 (f 4).toNatClampNeg).toInt) (n := (13 : Int)) rfl (by decide) c264) ?_
            refine am_e2 (v := 39) hi_249_141 rfl ?_
            refine am_e0 hi_249_142 ?_
            refine am_e32n (as := [.ref 39, .int 7]) (la := [some (.ref 39), some (.int 7)]) (rest := []) hi_249_144 (am_hd0 (M := 249) (by decide) 144) (Nat.le_of_ble_eq_true rfl) (Nat.le_of_ble_eq_true rfl) (show 2 ≤ am_P0.2.2.1 194 from by decide +kernel) rfl (am_recv_ok hS193.fs) rfl rfl (ct_fail (d := (d + 6)) hS193   (by show (0 : Int) ≤ (7 : Int); omega) (by show (0 : Int) ≤ (f 6).toInt; omega)) ?_
            rintro v265 S266 (⟨a267, b268, hv269, hS270, h271⟩)
            subst hv269
            have h271_ : (0 : Int) ≤ a267.toInt := h271
            replace hS270 : MS S0 S266 (upd (upd (upd (upd (upd (upd (upd f 6 a267) 7 b268) 10 0) 24 l188) 37 z189) 44 b190) 68 z177) g'191 := hS270
            have hR273 := rj_clear0 hR202_
            have hR274 : RJ (upd (upd (upd (upd (upd (upd (upd f 6 a267) 7 b268) 10 0) 24 l188) 37 z189) 44 b190) 68 z177) g'191 [] bc1 [] 0 [] := hR273
            show am_E _ _ _ _ [some (.ref 39), some (.int on), some (.int tw), some (.int (g 1 (f 4).toNatClampNeg)), none] [.int 0] _ _
            refine am_e6i hi_249_147 ?_
            refine am_e35 hi_249_148 ?_
            show am_E _ _ _ _ [some (.ref 39), some (.int 8), some (.int on), some (.int tw), some (.int th)] [] _ _
            refine am_e18 hi_180_201 ?_
            refine am_e35 hi_180_371 ?_
            have hRc := rj_clear0 hR274
            refine ⟨_, _, [], _, rfl, hS270, Or.inr ⟨hRc, rfl, (by show 0 ≤ (f 4).toInt; omega), (by show (f 4).toInt ≤ (f 0).toInt; omega), (by show 0 ≤ (f 32).toInt; omega), (by show (f 32).toInt ≤ 63; omega), (by show 1 ≤ (f 53).toInt; omega), (by show (f 53).toInt ≤ 600; omega), (by show 0 ≤ z177.toInt; omega), (by show z177.toInt ≤ 60000; omega), (by show 0 ≤ (f 48).toInt; omega), (by show (f 48).toInt ≤ 8000; omega), (by show 0 ≤ z189.toInt; omega), (by show z189.toInt ≤ 128; omega), (by show 0 ≤ (f 62).toInt; omega), (by show (f 62).toInt ≤ 65000; omega), (by show 0 ≤ (f 19).toInt; omega), (by show (f 19).toInt ≤ 600; omega), (by show 0 ≤ a267.toInt; omega), (by show 0 ≤ (f 8).toInt; omega)⟩⟩
          · refine am_e13f hi_249_49 (am_cF (m := (g 1 (f 4).toNatClampNeg).toInt) (n := (13 : Int)) rfl (by decide) c264) ?_
            refine am_e2 (v := 39) hi_249_52 rfl ?_
            refine am_e0 hi_249_53 ?_
            refine am_e1 (v := tw) hi_249_55 rfl ?_
            refine am_e0 hi_249_56 ?_
            refine am_e0 hi_249_57 ?_
            refine am_e32n (as := [.ref 39, .int 36, .int tw, .int 0, .int 0]) (la := [some (.ref 39), some (.int 36), some (.int tw), some (.int 0), some (.int 0)]) (rest := []) hi_249_58 (am_hd0 (M := 249) (by decide) 58) (Nat.le_of_ble_eq_true rfl) (Nat.le_of_ble_eq_true rfl) (show 5 ≤ am_P0.2.2.1 189 from by decide +kernel) rfl (am_recv_ok hS193.fs) rfl rfl (ct_putc (d := (d + 6)) hS193 hR202_ rfl (by show (0 : Int) ≤ (f 32).toInt; omega) (by show (f 32).toInt ≤ (63 : Int); omega) (by show (f 53).toInt ≤ (4096 : Int); omega) (by show (0 : Int) ≤ z177.toInt; omega) (by show z177.toInt ≤ (65534 : Int); omega)) ?_
            rintro v275 S276 (⟨z277, r278, g'279, hv280, hS281, hR285, h282, h283, h284⟩)
            subst hv280
            have h282_ : z277.toInt = z177.toInt + 1 := h282
            have h283_ : r278.toInt = z177.toInt := h283
            have h284_ : ∀ j, j ∉ [60, 69, 70, 71, 72, 73] → g'279 j = g'191 j := h284
            replace hS281 : MS S0 S276 (upd (upd (upd (upd f 24 l188) 37 z189) 44 b190) 68 z277) g'279 := hS281
            have hR285_ : RJ (upd (upd (upd (upd f 24 l188) 37 z189) 44 b190) 68 z277) g'279 gs bc1 (z177.toNatClampNeg :: fl) (z177.toInt + 1) ((f 68).toNatClampNeg :: [on.toInt.toNat]) := hR285
            show am_E _ _ _ _ [some (.ref 39), some (.int on), some (.int tw), some (.int (g 1 (f 4).toNatClampNeg)), none] [.int r278] _ _
            refine am_e0 hi_249_61 ?_
            obtain ⟨z286, hz286, tz286⟩ := am_addI (x := r278) (y := 1) (m := r278.toInt) (n := (1 : Int)) rfl (by decide) (by omega) (by omega)
            refine am_e10 (z := z286) hi_249_62 hz286 ?_
            refine am_e3 (ls' := [some (.ref 39), some (.int on), some (.int tw), some (.int (g 1 (f 4).toNatClampNeg)), some (.int z286)]) hi_249_63 (Nat.le_of_ble_eq_true rfl) rfl ?_
            refine am_e2 (v := 39) hi_249_65 rfl ?_
            refine mm_20 (v := .ref 90) hS281 hi_249_66 rfl ?_
            refine am_e1 (v := on) hi_249_69 rfl ?_
            refine am_e2 (v := 39) hi_249_70 rfl ?_
            refine am_e32n (as := [.ref 39]) (la := [some (.ref 39)]) (rest := [.int on, .ref 90]) hi_249_71 (am_hd0 (M := 249) (by decide) 71) (Nat.le_of_ble_eq_true rfl) (Nat.le_of_ble_eq_true rfl) (show 1 ≤ am_P0.2.2.1 210 from by decide +kernel) rfl (am_recv_ok hS281.fs) rfl rfl (ct_here (d := (d + 6)) hS281 hR285_  (by show (0 : Int) ≤ (f 32).toInt; omega) (by show (f 32).toInt ≤ (63 : Int); omega) (by show (f 53).toInt ≤ (4096 : Int); omega) (by show (0 : Int) ≤ z277.toInt; omega) (by show z277.toInt ≤ (65534 : Int); omega)) ?_
            rintro v287 S288 (⟨r289, hv290, hS291, h292, h293⟩)
            subst hv290
            have h292_ : (0 : Int) ≤ r289.toInt := h292
            have h293_ : r289.toInt ≤ z277.toInt := h293
            show am_E _ _ _ _ [some (.ref 39), some (.int on), some (.int tw), some (.int (g 1 (f 4).toNatClampNeg)), some (.int z286)] [.int r289, .int on, .ref 90] _ _
            refine mm_26 hS291 ma_71 hi_249_74 (by decide) (by omega) (by omega) (fun h => nomatch h) ?_
            intro S295 hS296
            have hix701 : on.toNatClampNeg = on.toInt.toNat := by first | rfl | (rw [cl_toNat, cl_toNat]; omega)
            have hR297 : RJ (upd (upd (upd (upd f 24 l188) 37 z189) 44 b190) 68 z277) (upg g'279 71 on.toNatClampNeg r289) gs bc1 (z177.toNatClampNeg :: fl) (z177.toInt + 1) ((f 68).toNatClampNeg :: [on.toInt.toNat]) := by rw [hix701]; exact RJ.lead hR285_ (RJ.pjn hR285_ (show on.toInt.toNat ∈ _ from by simp only [List.mem_cons, true_or, or_true]))
            refine am_e2 (v := 39) hi_249_75 rfl ?_
            refine am_e7 hi_249_76 ?_
            refine mm_20 (v := .int (f 4)) hS296 hi_249_77 rfl ?_
            refine am_e0 hi_249_80 ?_
            obtain ⟨z298, hz298, tz298⟩ := am_addI (x := f 4) (y := 1) (m := (f 4).toInt) (n := (1 : Int)) rfl (by decide) (by omega) (by omega)
            refine am_e10 (z := z298) hi_249_81 hz298 ?_
            refine mm_21 (v := z298) hS296 hi_249_82 rfl (Nat.le_of_ble_eq_true rfl) ms_4 ?_
            intro S299 hS300
            replace hS300 : MS S0 S299 (upd (upd (upd (upd (upd f 4 z298) 24 l188) 37 z189) 44 b190) 68 z277) (upg g'279 71 on.toNatClampNeg r289) := hS300
            have hR301 : RJ (upd (upd (upd (upd (upd f 4 z298) 24 l188) 37 z189) 44 b190) 68 z277) (upg g'279 71 on.toNatClampNeg r289) gs bc1 (z177.toNatClampNeg :: fl) (z177.toInt + 1) ((f 68).toNatClampNeg :: [on.toInt.toNat]) := RJ.at hR297 (by show (f 4).toInt ≤ z298.toInt; omega)
            refine am_e1 (v := g 1 (f 4).toNatClampNeg) hi_249_85 rfl ?_
            refine am_e0 hi_249_86 ?_
            refine am_e13t hi_249_88 (am_cT (m := (g 1 (f 4).toNatClampNeg).toInt) (n := (14 : Int)) rfl (by decide) (by simp only [am_cI]; omega)) ?_
            refine am_e2 (v := 39) hi_249_119 rfl ?_
            refine am_e0 hi_249_120 ?_
            refine am_e32n (as := [.ref 39, .int 0]) (la := [some (.ref 39), some (.int 0)]) (rest := []) hi_249_121 (am_hd0 (M := 249) (by decide) 121) (Nat.le_of_ble_eq_true rfl) (Nat.le_of_ble_eq_true rfl) (show 2 ≤ am_P0.2.2.1 177 from by decide +kernel) rfl (am_recv_ok hS300.fs) rfl rfl (ct_beginBlock2 (d := (d + 6)) hS300 hR301 (by decide)  (by show (0 : Int) ≤ z189.toInt; omega) (by show z189.toInt ≤ (127 : Int); omega) (by show (0 : Int) ≤ l188.toInt; omega) (by show (0 : Int) ≤ b190.toInt; omega) (by show b190.toInt ≤ z298.toInt; omega) (by show (0 : Int) ≤ (f 48).toInt; omega)) ?_
            rintro v302 S303 (⟨z304, g'305, hv306, hS307, hR311, h308, h309, h310⟩)
            subst hv306
            have h308_ : z304.toInt = z189.toInt + 1 := h308
            have h309_ : ∀ j, j ∉ [38, 39, 40, 41, 42, 43] → g'305 j = (upg g'279 71 on.toNatClampNeg r289) j := h309
            have h310_ : g'305 38 = upd ((upg g'279 71 on.toNatClampNeg r289) 38) z189.toNatClampNeg l188 := h310
            replace hS307 : MS S0 S303 (upd (upd (upd (upd (upd f 4 z298) 24 l188) 37 z304) 44 b190) 68 z277) g'305 := hS307
            have hR311_ : RJ (upd (upd (upd (upd (upd f 4 z298) 24 l188) 37 z304) 44 b190) 68 z277) g'305 gs ([] :: bc1) (z177.toNatClampNeg :: fl) (z177.toInt + 1) ((f 68).toNatClampNeg :: [on.toInt.toNat]) := hR311
            show am_E _ _ _ _ [some (.ref 39), some (.int on), some (.int tw), some (.int (g 1 (f 4).toNatClampNeg)), some (.int z286)] [] _ _
            refine am_e2 (v := 39) hi_249_124 rfl ?_
            refine am_e0 hi_249_125 ?_
            refine am_e1 (v := z286) hi_249_127 rfl ?_
            refine am_e0 hi_249_129 ?_
            refine am_e0 hi_249_130 ?_
            refine am_e32n (as := [.ref 39, .int 9, .int z286, .int 0, .int 0]) (la := [some (.ref 39), some (.int 9), some (.int z286), some (.int 0), some (.int 0)]) (rest := []) hi_249_131 (am_hd0 (M := 249) (by decide) 131) (Nat.le_of_ble_eq_true rfl) (Nat.le_of_ble_eq_true rfl) (show 5 ≤ am_P0.2.2.1 179 from by decide +kernel) rfl (am_recv_ok hS307.fs) rfl rfl (ct_pilec (d := (d + 6)) hS307 hR311_ (mj_e_79c hR311_ (by decide) (by show z286.toInt = (z177.toInt + 1); omega)) (by show (0 : Int) ≤ (f 10).toInt; omega) (by show (f 10).toInt ≤ (65535 : Int); omega)) ?_
            rintro v312 S313 (⟨z314, g'315, hv316, hS317, hR320, h318, h319⟩)
            subst hv316
            have h318_ : z314.toInt = (f 10).toInt + 1 := h318
            have h319_ : ∀ j, j ∉ [11, 12, 13, 14] → g'315 j = g'305 j := h319
            replace hS317 : MS S0 S313 (upd (upd (upd (upd (upd (upd f 4 z298) 10 z314) 24 l188) 37 z304) 44 b190) 68 z277) g'315 := hS317
            have hR320_ : RJ (upd (upd (upd (upd (upd (upd f 4 z298) 10 z314) 24 l188) 37 z304) 44 b190) 68 z277) g'315 (((9 : Int), z286.toInt, (0 : Int), (0 : Int), (z177.toNatClampNeg :: fl)) :: gs) ([] :: bc1) [] 0 ((f 68).toNatClampNeg :: [on.toInt.toNat]) := hR320
            show am_E _ _ _ _ [some (.ref 39), some (.int on), some (.int tw), some (.int (g 1 (f 4).toNatClampNeg)), some (.int z286)] [] _ _
            refine am_e2 (v := 39) hi_249_134 rfl ?_
            refine am_e32w (as := [.ref 39]) (la := [some (.ref 39)]) (rest := []) hi_249_135 (am_hd0 (M := 249) (by decide) 135) (Nat.le_of_ble_eq_true rfl) (Nat.le_of_ble_eq_true rfl) (show 1 ≤ am_P0.2.2.1 178 from by decide +kernel) rfl (am_recv_ok hS317.fs) rfl rfl ?_
            refine am_e2 (v := 39) hi_178_0 rfl ?_
            refine am_e0 hi_178_1 ?_
            refine am_e0 hi_178_2 ?_
            refine am_e0 hi_178_3 ?_
            refine am_e0 hi_178_4 ?_
            refine am_e32n (as := [.ref 39, .int 1, .int 0, .int 0, .int 0]) (la := [some (.ref 39), some (.int 1), some (.int 0), some (.int 0), some (.int 0)]) (rest := []) hi_178_5 (am_hd0 (M := 178) (by decide) 5) (Nat.le_of_ble_eq_true rfl) (Nat.le_of_ble_eq_true rfl) (show 5 ≤ am_P0.2.2.1 179 from by decide +kernel) rfl (am_recv_ok hS317.fs) rfl rfl (ct_pile (d := (d + 5)) hS317 hR320_ (mj_e_plain (by decide)) (by show (0 : Int) ≤ z314.toInt; omega) (by show z314.toInt ≤ (65535 : Int); omega)) ?_
            rintro v321 S322 (⟨z323, g'324, hv325, hS326, hR329, h327, h328⟩)
            subst hv325
            have h327_ : z323.toInt = z314.toInt + 1 := h327
            have h328_ : ∀ j, j ∉ [11, 12, 13, 14] → g'324 j = g'315 j := h328
            replace hS326 : MS S0 S322 (upd (upd (upd (upd (upd (upd f 4 z298) 10 z323) 24 l188) 37 z304) 44 b190) 68 z277) g'324 := hS326
            have hR329_ : RJ (upd (upd (upd (upd (upd (upd f 4 z298) 10 z323) 24 l188) 37 z304) 44 b190) 68 z277) g'324 (((1 : Int), (0 : Int), (0 : Int), (0 : Int), []) :: (((9 : Int), z286.toInt, (0 : Int), (0 : Int), (z177.toNatClampNeg :: fl)) :: gs)) ([] :: bc1) [] 0 ((f 68).toNatClampNeg :: [on.toInt.toNat]) := hR329
            show am_E _ _ _ _ [some (.ref 39)] [] _ _
            refine am_e35 hi_178_8 ?_
            show am_E _ _ _ _ [some (.ref 39), some (.int on), some (.int tw), some (.int (g 1 (f 4).toNatClampNeg)), some (.int z286)] [] _ _
            refine am_e18 hi_249_138 ?_
            refine am_e35 hi_249_148 ?_
            show am_E _ _ _ _ [some (.ref 39), some (.int 8), some (.int on), some (.int tw), some (.int th)] [] _ _
            refine am_e18 hi_180_201 ?_
            refine am_e35 hi_180_371 ?_
            have q1 : mg_p1 (((1 : Int), (0 : Int), (0 : Int), (0 : Int), []) :: (((9 : Int), z286.toInt, (0 : Int), (0 : Int), (z177.toNatClampNeg :: fl)) :: gs)) = 0 + (0 + (mg_p1 gs)) := rfl
            have q2 : mg_p2 (((1 : Int), (0 : Int), (0 : Int), (0 : Int), []) :: (((9 : Int), z286.toInt, (0 : Int), (0 : Int), (z177.toNatClampNeg :: fl)) :: gs)) = 0 + (0 + (mg_p2 gs)) := rfl
            have q3 : mg_p3 (((1 : Int), (0 : Int), (0 : Int), (0 : Int), []) :: (((9 : Int), z286.toInt, (0 : Int), (0 : Int), (z177.toNatClampNeg :: fl)) :: gs)) = 1 + (1 + (mg_p3 gs)) := rfl
            have q4 : mg_p4 (((1 : Int), (0 : Int), (0 : Int), (0 : Int), []) :: (((9 : Int), z286.toInt, (0 : Int), (0 : Int), (z177.toNatClampNeg :: fl)) :: gs)) = 0 + (0 + (mg_p4 gs)) := rfl
            refine ⟨_, _, _, ([] :: bc1), rfl, hS326, Or.inl ⟨⟨(RJ.fewer (pj' := []) hR329_ (fun _ h => nomatch h)), ?_, ?_⟩, rfl, ?_⟩⟩
            · exact (⟨⟨(show mg_k 1 from by decide), (show (0 : Int) ≤ (f 15).toInt from by omega), (show 0 ≤ (f 20).toInt from by omega), (show 1 ≤ z304.toInt from by omega), (show 0 ≤ (f 32).toInt from by omega), (show (f 32).toInt ≤ (f 5).toInt from by omega), (show (f 5).toInt ≤ 48 from by omega), (show z304.toInt ≤ 2 * ((f 5).toInt) + 1 from by omega), trivial⟩, ⟨⟨(show mg_k 9 from by decide), (show (0 : Int) ≤ (f 15).toInt + 0 from by omega), (show 0 ≤ (f 20).toInt from by omega), (show 1 ≤ z304.toInt + 0 from by omega), (show 0 ≤ (f 32).toInt + 0 from by omega), (show (f 32).toInt + 0 ≤ (f 5).toInt + 0 from by omega), (show (f 5).toInt + 0 ≤ 48 from by omega), (show z304.toInt + 0 ≤ 2 * ((f 5).toInt + 0) + 0 from by omega), trivial⟩, mg_cast (mg_good_ext _ _ _ _ _ _ (fun i _ => by show g'324 34 i = g 34 i; rw [show g'324 34 = g'315 34 from h328_ 34 (by decide), show g'315 34 = g'305 34 from h319_ 34 (by decide), show g'305 34 = g'279 34 from h309_ 34 (by decide), show g'279 34 = g'191 34 from h284_ 34 (by decide), show g'191 34 = g'179 34 from h199_ 34 (by decide), show g'179 34 = g 34 from h184_ 34 (by decide)]) (fun i hi => by show g'324 38 i = g 38 i; rw [show g'324 38 = g'315 38 from h328_ 38 (by decide), show g'315 38 = g'305 38 from h319_ 38 (by decide), h310_, show (upg g'279 71 on.toNatClampNeg r289) 38 = g'279 38 from rfl, show g'279 38 = g'191 38 from h284_ 38 (by decide), show g'191 38 = g'179 38 from h199_ 38 (by decide), show g'179 38 = g 38 from h184_ 38 (by decide)]; exact upd_ne (by rw [cl_toNat]; omega)) (fun i _ => by show g'324 23 i = g 23 i; rw [show g'324 23 = g'315 23 from h328_ 23 (by decide), show g'315 23 = g'305 23 from h319_ 23 (by decide), show g'305 23 = g'279 23 from h309_ 23 (by decide), show g'279 23 = g'191 23 from h284_ 23 (by decide), show g'191 23 = g'179 23 from h199_ 23 (by decide), show g'179 23 = g 23 from h184_ 23 (by decide)]) hrest) (by show (f 15).toInt + 0 = (f 15).toInt + 0 + 0; omega) (by show (f 20).toInt = (f 20).toInt; omega) (by show (f 37).toInt + -1 = z304.toInt + 0 + -1; omega) (by show (f 32).toInt + 0 = (f 32).toInt + 0 + 0; omega) (by show (f 5).toInt + -1 = (f 5).toInt + 0 + -1; omega)⟩⟩ : mg_good (g'324 34) (g'324 38) (g'324 23) (((1 : Int), (0 : Int), (0 : Int), (0 : Int), []) :: (((9 : Int), z286.toInt, (0 : Int), (0 : Int), (z177.toNatClampNeg :: fl)) :: gs)) ((f 15).toInt) ((f 20).toInt) (z304.toInt) ((f 32).toInt) ((f 5).toInt))
            · exact ⟨(by show 0 ≤ z298.toInt; omega), (by show z298.toInt ≤ (f 0).toInt; omega), (by show (f 0).toInt ≤ 512; omega), (by show 0 ≤ l188.toInt; omega), (by show l188.toInt + (f 20).toInt + mg_p1 (((1 : Int), (0 : Int), (0 : Int), (0 : Int), []) :: (((9 : Int), z286.toInt, (0 : Int), (0 : Int), (z177.toNatClampNeg :: fl)) :: gs)) ≤ 4 * z298.toInt; omega), (by show (f 20).toInt ≤ z298.toInt; omega), (by show (f 15).toInt + mg_p2 (((1 : Int), (0 : Int), (0 : Int), (0 : Int), []) :: (((9 : Int), z286.toInt, (0 : Int), (0 : Int), (z177.toNatClampNeg :: fl)) :: gs)) ≤ z298.toInt; omega), (by show mg_p3 (((1 : Int), (0 : Int), (0 : Int), (0 : Int), []) :: (((9 : Int), z286.toInt, (0 : Int), (0 : Int), (z177.toNatClampNeg :: fl)) :: gs)) ≤ 20 * z298.toInt + 20; omega), (by show 0 ≤ z277.toInt; omega), (by show z277.toInt + 3 * (f 20).toInt + mg_p4 (((1 : Int), (0 : Int), (0 : Int), (0 : Int), []) :: (((9 : Int), z286.toInt, (0 : Int), (0 : Int), (z177.toNatClampNeg :: fl)) :: gs)) ≤ 60 * z298.toInt + 60; omega), (by show 0 ≤ (f 62).toInt; omega), (by show (f 62).toInt + 64 * mj_n (g'324 16) (f 15).toNatClampNeg 3 ≤ 64 * z298.toInt; rw [show g'324 16 = g'315 16 from h328_ 16 (by decide), show g'315 16 = g'305 16 from h319_ 16 (by decide), show g'305 16 = g'279 16 from h309_ 16 (by decide), show g'279 16 = g'191 16 from h284_ 16 (by decide), show g'191 16 = g'179 16 from h199_ 16 (by decide), show g'179 16 = g 16 from h184_ 16 (by decide)]; omega), (by show 0 ≤ b190.toInt; omega), (by show b190.toInt ≤ z298.toInt; omega), (by show 0 ≤ (f 48).toInt; omega), (by show (f 48).toInt ≤ z298.toInt; omega), (by show 1 ≤ (f 53).toInt; omega), (by show (f 53).toInt ≤ z298.toInt + 1; omega), (by show 0 ≤ (f 19).toInt; omega), (by show (f 19).toInt ≤ 600; omega), (by show 0 ≤ (f 6).toInt; omega), (by show 0 ≤ (f 8).toInt; omega)⟩
            · show 100 * ((f 0).toInt - z298.toInt) + mg_p3 (((1 : Int), (0 : Int), (0 : Int), (0 : Int), []) :: (((9 : Int), z286.toInt, (0 : Int), (0 : Int), (z177.toNatClampNeg :: fl)) :: gs)) < 100 * ((f 0).toInt - (f 4).toInt) + (1 + mg_p3 gs); omega
      · refine am_e13f hi_249_12 (am_cF (m := (g 1 (f 4).toNatClampNeg).toInt) (n := (15 : Int)) rfl (by decide) c214) ?_
        refine am_e2 (v := 39) hi_249_15 rfl ?_
        refine am_e0 hi_249_16 ?_
        refine am_e32w (as := [.ref 39, .int 15]) (la := [some (.ref 39), some (.int 15)]) (rest := []) hi_249_18 (am_hd0 (M := 249) (by decide) 18) (Nat.le_of_ble_eq_true rfl) (Nat.le_of_ble_eq_true rfl) (show 2 ≤ am_P0.2.2.1 199 from by decide +kernel) rfl (am_recv_ok hS193.fs) rfl rfl ?_
        refine am_e2 (v := 39) hi_199_0 rfl ?_
        refine am_e1 (v := 15) hi_199_1 rfl ?_
        refine am_e32w (as := [.ref 39, .int 15]) (la := [some (.ref 39), some (.int 15)]) (rest := []) hi_199_2 (am_hd0 (M := 199) (by decide) 2) (Nat.le_of_ble_eq_true rfl) (Nat.le_of_ble_eq_true rfl) (show 2 ≤ am_P0.2.2.1 200 from by decide +kernel) rfl (am_recv_ok hS193.fs) rfl rfl ?_
        refine am_e2 (v := 39) hi_200_0 rfl ?_
        refine am_e32w (as := [.ref 39]) (la := [some (.ref 39)]) (rest := []) hi_200_1 (am_hd0 (M := 200) (by decide) 1) (Nat.le_of_ble_eq_true rfl) (Nat.le_of_ble_eq_true rfl) (show 1 ≤ am_P0.2.2.1 183 from by decide +kernel) rfl (am_recv_ok hS193.fs) rfl rfl ?_
        refine am_e2 (v := 39) hi_183_0 rfl ?_
        refine am_e2 (v := 39) hi_183_1 rfl ?_
        refine mm_20 (v := .int (f 4)) hS193 hi_183_2 rfl ?_
        refine am_e32w (as := [.ref 39, .int (f 4)]) (la := [some (.ref 39), some (.int (f 4))]) (rest := []) hi_183_5 (am_hd0 (M := 183) (by decide) 5) (Nat.le_of_ble_eq_true rfl) (Nat.le_of_ble_eq_true rfl) (show 2 ≤ am_P0.2.2.1 184 from by decide +kernel) rfl (am_recv_ok hS193.fs) rfl rfl ?_
        refine am_e1 (v := f 4) hi_184_0 rfl ?_
        refine am_e2 (v := 39) hi_184_1 rfl ?_
        refine mm_20 (v := .int (f 0)) hS193 hi_184_2 rfl ?_
        refine am_e13f hi_184_5 (am_cF (m := (f 4).toInt) (n := (f 0).toInt) rfl rfl (by simp only [am_cI]; omega)) ?_
        refine am_e2 (v := 39) hi_184_8 rfl ?_
        refine mm_20 (v := .ref 40) hS193 hi_184_9 rfl ?_
        refine am_e1 (v := f 4) hi_184_12 rfl ?_
        refine mm_25 hS193 ma_1 hi_184_13 (by decide) (by omega) (by omega) ?_
        show am_E _ _ _ _ _ (.int (g'191 1 (f 4).toNatClampNeg) :: _) _ _
        rw [show g'191 1 = g'179 1 from h199_ 1 (by decide), show g'179 1 = g 1 from h184_ 1 (by decide)]
        show am_E _ _ _ _ [some (.ref 39), some (.int (f 4))] [.int (g 1 (f 4).toNatClampNeg)] _ _
        refine am_e18 hi_184_14 ?_
        refine am_e33 hi_184_18 ?_
        show am_E _ _ _ _ [some (.ref 39)] [.int (g 1 (f 4).toNatClampNeg)] _ _
        refine am_e33 hi_183_8 ?_
        show am_E _ _ _ _ [some (.ref 39), some (.int 15)] [.int (g 1 (f 4).toNatClampNeg)] _ _
        refine am_e1 (v := 15) hi_200_4 rfl ?_
        refine am_e13t hi_200_5 (am_cT (m := (g 1 (f 4).toNatClampNeg).toInt) (n := (15 : Int)) rfl (by decide) (by simp only [am_cI]; omega)) ?_
        refine am_e2 (v := 39) hi_200_15 rfl ?_
        refine am_e7 hi_200_16 ?_
        refine mm_20 (v := .int (f 4)) hS193 hi_200_17 rfl ?_
        refine am_e0 hi_200_20 ?_
        obtain ⟨z330, hz330, tz330⟩ := am_addI (x := f 4) (y := 1) (m := (f 4).toInt) (n := (1 : Int)) rfl (by decide) (by omega) (by omega)
        refine am_e10 (z := z330) hi_200_21 hz330 ?_
        refine mm_21 (v := z330) hS193 hi_200_22 rfl (Nat.le_of_ble_eq_true rfl) ms_4 ?_
        intro S331 hS332
        replace hS332 : MS S0 S331 (upd (upd (upd (upd (upd f 4 z330) 24 l188) 37 z189) 44 b190) 68 z177) g'191 := hS332
        have hR333 : RJ (upd (upd (upd (upd (upd f 4 z330) 24 l188) 37 z189) 44 b190) 68 z177) g'191 gs bc1 fl tw.toInt ((f 68).toNatClampNeg :: [on.toInt.toNat]) := RJ.at hR202_ (by show (f 4).toInt ≤ z330.toInt; omega)
        refine am_e0 hi_200_25 ?_
        refine am_e36 hi_200_26 (by decide) ?_
        show am_E _ _ _ _ [some (.ref 39), some (.int 15)] [.int 1] _ _
        refine am_e12t hi_199_5 (by decide) ?_
        refine am_e2 (v := 39) hi_199_10 rfl ?_
        refine am_e7 hi_199_11 ?_
        refine mm_20 (v := .int (f 5)) hS332 hi_199_12 rfl ?_
        refine am_e0 hi_199_15 ?_
        obtain ⟨z334, hz334, tz334⟩ := am_subI (x := f 5) (y := 1) (m := (f 5).toInt) (n := (1 : Int)) rfl (by decide) (by omega) (by omega)
        refine am_e10 (z := z334) hi_199_16 hz334 ?_
        refine mm_21 (v := z334) hS332 hi_199_17 rfl (Nat.le_of_ble_eq_true rfl) ms_5 ?_
        intro S335 hS336
        replace hS336 : MS S0 S335 (upd (upd (upd (upd (upd (upd f 4 z330) 5 z334) 24 l188) 37 z189) 44 b190) 68 z177) g'191 := hS336
        refine am_e0 hi_199_20 ?_
        refine am_e36 hi_199_21 (by decide) ?_
        show am_E _ _ _ _ [some (.ref 39), some (.int on), some (.int tw), some (.int (g 1 (f 4).toNatClampNeg)), none] [.int 1] _ _
        refine am_e6i hi_249_21 ?_
        refine am_e2 (v := 39) hi_249_22 rfl ?_
        refine mm_20 (v := .ref 90) hS336 hi_249_23 rfl ?_
        refine am_e1 (v := on) hi_249_26 rfl ?_
        refine am_e2 (v := 39) hi_249_27 rfl ?_
        refine am_e32n (as := [.ref 39]) (la := [some (.ref 39)]) (rest := [.int on, .ref 90]) hi_249_28 (am_hd0 (M := 249) (by decide) 28) (Nat.le_of_ble_eq_true rfl) (Nat.le_of_ble_eq_true rfl) (show 1 ≤ am_P0.2.2.1 210 from by decide +kernel) rfl (am_recv_ok hS336.fs) rfl rfl (ct_here (d := (d + 6)) hS336 hR333  (by show (0 : Int) ≤ (f 32).toInt; omega) (by show (f 32).toInt ≤ (63 : Int); omega) (by show (f 53).toInt ≤ (4096 : Int); omega) (by show (0 : Int) ≤ z177.toInt; omega) (by show z177.toInt ≤ (65534 : Int); omega)) ?_
        rintro v337 S338 (⟨r339, hv340, hS341, h342, h343⟩)
        subst hv340
        have h342_ : (0 : Int) ≤ r339.toInt := h342
        have h343_ : r339.toInt ≤ z177.toInt := h343
        show am_E _ _ _ _ [some (.ref 39), some (.int on), some (.int tw), some (.int (g 1 (f 4).toNatClampNeg)), none] [.int r339, .int on, .ref 90] _ _
        refine mm_26 hS341 ma_71 hi_249_31 (by decide) (by omega) (by omega) (fun h => nomatch h) ?_
        intro S345 hS346
        have hix840 : on.toNatClampNeg = on.toInt.toNat := by first | rfl | (rw [cl_toNat, cl_toNat]; omega)
        have hR347 : RJ (upd (upd (upd (upd (upd (upd f 4 z330) 5 z334) 24 l188) 37 z189) 44 b190) 68 z177) (upg g'191 71 on.toNatClampNeg r339) gs bc1 fl tw.toInt ((f 68).toNatClampNeg :: [on.toInt.toNat]) := by rw [hix840]; exact RJ.lead hR333 (RJ.pjn hR333 (show on.toInt.toNat ∈ _ from by simp only [List.mem_cons, true_or, or_true]))
        refine am_e2 (v := 39) hi_249_32 rfl ?_
        refine am_e1 (v := tw) hi_249_33 rfl ?_
        refine am_e32n (as := [.ref 39, .int tw]) (la := [some (.ref 39), some (.int tw), none, none]) (rest := []) hi_249_34 (am_hd0 (M := 249) (by decide) 34) (Nat.le_of_ble_eq_true rfl) (Nat.le_of_ble_eq_true rfl) (show 2 ≤ am_P0.2.2.1 250 from by decide +kernel) rfl (am_recv_ok hS346.fs) rfl rfl (ct_mend (d := (d + 5)) hS346 hR347 rfl (by show (0 : Int) ≤ (f 32).toInt; omega) (by show (f 32).toInt ≤ (63 : Int); omega) (by show (f 53).toInt ≤ (4096 : Int); omega) (by show (0 : Int) ≤ z177.toInt; omega) (by show z177.toInt ≤ (65534 : Int); omega)) ?_
        rintro v348 S349 (⟨g'350, hv351, hS352, hR354, h353⟩)
        subst hv351
        have h353_ : ∀ j, j ∉ [71] → g'350 j = (upg g'191 71 on.toNatClampNeg r339) j := h353
        have hR354_ : RJ (upd (upd (upd (upd (upd (upd f 4 z330) 5 z334) 24 l188) 37 z189) 44 b190) 68 z177) g'350 gs bc1 [] 0 ((f 68).toNatClampNeg :: [on.toInt.toNat]) := hR354
        show am_E _ _ _ _ [some (.ref 39), some (.int on), some (.int tw), some (.int (g 1 (f 4).toNatClampNeg)), none] [] _ _
        refine am_e18 hi_249_37 ?_
        refine am_e35 hi_249_148 ?_
        show am_E _ _ _ _ [some (.ref 39), some (.int 8), some (.int on), some (.int tw), some (.int th)] [] _ _
        refine am_e18 hi_180_201 ?_
        refine am_e35 hi_180_371 ?_
        have q1 : mg_p1 gs = mg_p1 gs := rfl
        have q2 : mg_p2 gs = mg_p2 gs := rfl
        have q3 : mg_p3 gs = mg_p3 gs := rfl
        have q4 : mg_p4 gs = mg_p4 gs := rfl
        refine ⟨_, _, _, bc1, rfl, hS352, Or.inl ⟨⟨(RJ.fewer (pj' := []) hR354_ (fun _ h => nomatch h)), ?_, ?_⟩, rfl, ?_⟩⟩
        · exact (mg_cast (mg_good_ext _ _ _ _ _ _ (fun i _ => by show g'350 34 i = g 34 i; rw [show g'350 34 = g'191 34 from h353_ 34 (by decide), show g'191 34 = g'179 34 from h199_ 34 (by decide), show g'179 34 = g 34 from h184_ 34 (by decide)]) (fun i _ => by show g'350 38 i = g 38 i; rw [show g'350 38 = g'191 38 from h353_ 38 (by decide), show g'191 38 = g'179 38 from h199_ 38 (by decide), show g'179 38 = g 38 from h184_ 38 (by decide)]) (fun i _ => by show g'350 23 i = g 23 i; rw [show g'350 23 = g'191 23 from h353_ 23 (by decide), show g'191 23 = g'179 23 from h199_ 23 (by decide), show g'179 23 = g 23 from h184_ 23 (by decide)]) hrest) (by show (f 15).toInt + 0 = (f 15).toInt; omega) (by show (f 20).toInt = (f 20).toInt; omega) (by show (f 37).toInt + -1 = z189.toInt; omega) (by show (f 32).toInt + 0 = (f 32).toInt; omega) (by show (f 5).toInt + -1 = z334.toInt; omega) : mg_good (g'350 34) (g'350 38) (g'350 23) gs ((f 15).toInt) ((f 20).toInt) (z189.toInt) ((f 32).toInt) (z334.toInt))
        · exact ⟨(by show 0 ≤ z330.toInt; omega), (by show z330.toInt ≤ (f 0).toInt; omega), (by show (f 0).toInt ≤ 512; omega), (by show 0 ≤ l188.toInt; omega), (by show l188.toInt + (f 20).toInt + mg_p1 gs ≤ 4 * z330.toInt; omega), (by show (f 20).toInt ≤ z330.toInt; omega), (by show (f 15).toInt + mg_p2 gs ≤ z330.toInt; omega), (by show mg_p3 gs ≤ 20 * z330.toInt + 20; omega), (by show 0 ≤ z177.toInt; omega), (by show z177.toInt + 3 * (f 20).toInt + mg_p4 gs ≤ 60 * z330.toInt + 60; omega), (by show 0 ≤ (f 62).toInt; omega), (by show (f 62).toInt + 64 * mj_n (g'350 16) (f 15).toNatClampNeg 3 ≤ 64 * z330.toInt; rw [show g'350 16 = g'191 16 from h353_ 16 (by decide), show g'191 16 = g'179 16 from h199_ 16 (by decide), show g'179 16 = g 16 from h184_ 16 (by decide)]; omega), (by show 0 ≤ b190.toInt; omega), (by show b190.toInt ≤ z330.toInt; omega), (by show 0 ≤ (f 48).toInt; omega), (by show (f 48).toInt ≤ z330.toInt; omega), (by show 1 ≤ (f 53).toInt; omega), (by show (f 53).toInt ≤ z330.toInt + 1; omega), (by show 0 ≤ (f 19).toInt; omega), (by show (f 19).toInt ≤ 600; omega), (by show 0 ≤ (f 6).toInt; omega), (by show 0 ≤ (f 8).toInt; omega)⟩
        · show 100 * ((f 0).toInt - z330.toInt) + mg_p3 gs < 100 * ((f 0).toInt - (f 4).toInt) + (1 + mg_p3 gs); omega
set_option maxHeartbeats 16000000 in
theorem st_9 {sc : Nat × (Nat → Int32)} {d : Nat} {S0 S : am_S} {f : Nat → Int32} {g : Nat → Nat → Int32} {on : Int32} {tw : Int32} {th : Int32} {gs : List mg_E} {bc : List (List Nat)} {fl : List Nat} (hS : MS S0 S f g) (hR : RJ f g gs bc fl on.toInt []) (hrest : mg_good (g 34) (g 38) (g 23) gs ((f 15).toInt + 0) ((f 20).toInt) ((f 37).toInt + -1) ((f 32).toInt + 0) ((f 5).toInt + -1)) (p0 : 0 ≤ (f 4).toInt) (p1 : (f 4).toInt ≤ (f 0).toInt) (p2 : (f 0).toInt ≤ 512) (p3 : 0 ≤ (f 24).toInt) (p4 : (f 24).toInt + (f 20).toInt + mg_p1 gs ≤ 4 * (f 4).toInt) (p5 : (f 20).toInt ≤ (f 4).toInt) (p6 : (f 15).toInt + 0 + mg_p2 gs ≤ (f 4).toInt) (p7 : 1 + mg_p3 gs ≤ 20 * (f 4).toInt + 20) (p8 : 0 ≤ (f 68).toInt) (p9 : (f 68).toInt + 3 * (f 20).toInt + 0 + mg_p4 gs ≤ 60 * (f 4).toInt + 60) (p10 : 0 ≤ (f 62).toInt) (p11 : (f 62).toInt + 64 * mj_n (g 16) (f 15).toNatClampNeg 3 ≤ 64 * (f 4).toInt) (p12 : 0 ≤ (f 44).toInt) (p13 : (f 44).toInt ≤ (f 4).toInt) (p14 : 0 ≤ (f 48).toInt) (p15 : (f 48).toInt ≤ (f 4).toInt) (p16 : 1 ≤ (f 53).toInt) (p17 : (f 53).toInt ≤ (f 4).toInt + 1) (p18 : 0 ≤ (f 19).toInt) (p19 : (f 19).toInt ≤ 600) (p20 : 0 ≤ (f 6).toInt) (p21 : 0 ≤ (f 8).toInt) (p22 : 0 ≤ mg_p1 gs) (p23 : 0 ≤ mg_p2 gs) (p24 : 0 ≤ mg_p4 gs) (p25 : 0 ≤ (f 10).toInt) (p26 : (f 10).toInt ≤ mg_p3 gs) (p27 : 0 ≤ mj_n (g 16) (f 15).toNatClampNeg 3) (p28 : 0 ≤ (f 15).toInt) (p29 : 0 ≤ (f 20).toInt) (p30 : 1 ≤ (f 37).toInt) (p31 : 0 ≤ (f 32).toInt) (p32 : (f 32).toInt ≤ (f 5).toInt) (p33 : (f 5).toInt ≤ 48) (p34 : (f 37).toInt ≤ 2 * (f 5).toInt + 0) : am_E (am_PP sc) (d + 8) 180 0 [some (.ref 39), some (.int 9), some (.int on), some (.int tw), some (.int th)] [] S (am_N fun v S1 => ∃ (f' : Nat → Int32) (g' : Nat → Nat → Int32) (gs' : List mg_E) (bc' : List (List Nat)), v = none ∧ MS S0 S1 f' g' ∧ (mg_on f (100 * ((f 0).toInt - (f 4).toInt) + (1 + mg_p3 gs)) f' g' gs' bc' ∨ mg_off f f' g' bc')) := by
  have hbs := mg_basic hrest
  obtain ⟨c0, bc1, rfl⟩ := RJ.bcons hR (by omega)
  refine am_e1 (v := 9) hi_180_0 rfl ?_
  refine am_e0 hi_180_1 ?_
  refine am_e13t hi_180_3 (by decide) ?_
  refine am_e1 (v := 9) hi_180_14 rfl ?_
  refine am_e19 (t := 204) hi_180_15 (by decide) ?_
  refine am_e2 (v := 39) hi_180_204 rfl ?_
  refine am_e32w (as := [.ref 39]) (la := [some (.ref 39)]) (rest := []) hi_180_205 (am_hd0 (M := 180) (by decide) 205) (Nat.le_of_ble_eq_true rfl) (Nat.le_of_ble_eq_true rfl) (show 1 ≤ am_P0.2.2.1 242 from by decide +kernel) rfl (am_recv_ok hS.fs) rfl rfl ?_
  refine am_e2 (v := 39) hi_242_0 rfl ?_
  refine am_e32w (as := [.ref 39]) (la := [some (.ref 39)]) (rest := []) hi_242_1 (am_hd0 (M := 242) (by decide) 1) (Nat.le_of_ble_eq_true rfl) (Nat.le_of_ble_eq_true rfl) (show 1 ≤ am_P0.2.2.1 243 from by decide +kernel) rfl (am_recv_ok hS.fs) rfl rfl ?_
  refine am_e2 (v := 39) hi_243_0 rfl ?_
  refine mm_20 (v := .int (f 24)) hS hi_243_1 rfl ?_
  refine am_e2 (v := 39) hi_243_4 rfl ?_
  refine mm_20 (v := .ref 62) hS hi_243_5 rfl ?_
  refine am_e2 (v := 39) hi_243_8 rfl ?_
  refine mm_20 (v := .int (f 37)) hS hi_243_9 rfl ?_
  refine am_e0 hi_243_12 ?_
  obtain ⟨z0, hz0, tz0⟩ := am_subI (x := f 37) (y := 1) (m := (f 37).toInt) (n := (1 : Int)) rfl (by decide) (by omega) (by omega)
  refine am_e10 (z := z0) hi_243_13 hz0 ?_
  refine mm_25 hS ma_38 hi_243_14 (by decide) (by omega) (by omega) ?_
  show am_E _ _ _ _ [some (.ref 39)] [.int (g 38 z0.toNatClampNeg), .int (f 24)] _ _
  have r1 : 0 ≤ (g 38 z0.toNatClampNeg).toInt ∧ (g 38 z0.toNatClampNeg).toInt ≤ (f 24).toInt := RJ.bl (i := z0) hR (by omega) (by show z0.toInt < (f 37).toInt; omega)
  by_cases c2 : (f 24).toInt ≤ (g 38 z0.toNatClampNeg).toInt
  · refine am_e13t hi_243_15 (am_cT (m := (f 24).toInt) (n := (g 38 z0.toNatClampNeg).toInt) rfl rfl c2) ?_
    refine am_e0 hi_243_22 ?_
    refine am_e36 hi_243_23 (by decide) ?_
    show am_E _ _ _ _ [some (.ref 39)] [.int 0] _ _
    refine am_e12t hi_242_4 (by decide) ?_
    refine am_e2 (v := 39) hi_242_20 rfl ?_
    refine am_e32n (as := [.ref 39]) (la := [some (.ref 39), none, none]) (rest := []) hi_242_21 (am_hd0 (M := 242) (by decide) 21) (Nat.le_of_ble_eq_true rfl) (Nat.le_of_ble_eq_true rfl) (show 1 ≤ am_P0.2.2.1 224 from by decide +kernel) rfl (am_recv_ok hS.fs) rfl rfl (ct_dropBlock2 (d := (d + 6)) hS hR  (by show (0 : Int) ≤ (f 32).toInt; omega) (by show (f 32).toInt ≤ (63 : Int); omega) (by show (0 : Int) ≤ (f 48).toInt; omega) (by show (f 48).toInt ≤ (8192 : Int); omega) (by show (f 4).toInt ≤ (8192 : Int); omega) (by show (1 : Int) ≤ (f 37).toInt; omega) (by show (f 37).toInt ≤ (128 : Int); omega)) ?_
    rintro v3 S4 (⟨l5, z6, b7, g'8, hv9, hS10, hR19, h11, h12, h13, h14, h15, h16, h17, h18⟩)
    subst hv9
    have h11_ : z6.toInt = (f 37).toInt - 1 := h11
    have h12_ : (0 : Int) ≤ l5.toInt := h12
    have h13_ : l5.toInt ≤ (f 24).toInt := h13
    have h14_ : (0 : Int) ≤ b7.toInt := h14
    have h15_ : b7.toInt ≤ (f 4).toInt := h15
    have h16_ : ∀ j, j ∉ [52] → g'8 j = g j := h16
    have h17_ : (fl : List Nat) = [] → RJ (upd (upd (upd f 24 l5) 37 z6) 44 b7) g'8 gs bc1 c0 (g'8 43 z6.toNatClampNeg).toInt [] := h17
    have h18_ : l5 = g 38 z6.toNatClampNeg := h18
    have hR19_ : RJ (upd (upd (upd f 24 l5) 37 z6) 44 b7) g'8 gs bc1 fl on.toInt [] := hR19
    show am_E _ _ _ _ [some (.ref 39)] [] _ _
    refine am_e35 hi_242_24 ?_
    show am_E _ _ _ _ [some (.ref 39), some (.int 9), some (.int on), some (.int tw), some (.int th)] [] _ _
    refine am_e2 (v := 39) hi_180_208 rfl ?_
    refine am_e1 (v := on) hi_180_209 rfl ?_
    refine am_e32n (as := [.ref 39, .int on]) (la := [some (.ref 39), some (.int on), none, none]) (rest := []) hi_180_210 (am_hd0 (M := 180) (by decide) 210) (Nat.le_of_ble_eq_true rfl) (Nat.le_of_ble_eq_true rfl) (show 2 ≤ am_P0.2.2.1 250 from by decide +kernel) rfl (am_recv_ok hS10.fs) rfl rfl (ct_mend (d := (d + 6)) hS10 hR19_ rfl (by show (0 : Int) ≤ (f 32).toInt; omega) (by show (f 32).toInt ≤ (63 : Int); omega) (by show (f 53).toInt ≤ (4096 : Int); omega) (by show (0 : Int) ≤ (f 68).toInt; omega) (by show (f 68).toInt ≤ (65534 : Int); omega)) ?_
    rintro v20 S21 (⟨g'22, hv23, hS24, hR26, h25⟩)
    subst hv23
    have h25_ : ∀ j, j ∉ [71] → g'22 j = g'8 j := h25
    have hR26_ : RJ (upd (upd (upd f 24 l5) 37 z6) 44 b7) g'22 gs bc1 [] 0 [] := hR26
    show am_E _ _ _ _ [some (.ref 39), some (.int 9), some (.int on), some (.int tw), some (.int th)] [] _ _
    refine am_e2 (v := 39) hi_180_213 rfl ?_
    refine am_e0 hi_180_214 ?_
    refine am_e32n (as := [.ref 39, .int 15]) (la := [some (.ref 39), some (.int 15)]) (rest := []) hi_180_216 (am_hd0 (M := 180) (by decide) 216) (Nat.le_of_ble_eq_true rfl) (Nat.le_of_ble_eq_true rfl) (show 2 ≤ am_P0.2.2.1 199 from by decide +kernel) rfl (am_recv_ok hS24.fs) rfl rfl (ct_leave (d := (d + 4)) hS24   (by show (0 : Int) ≤ (f 4).toInt; omega) (by show (f 0).toInt ≤ (16384 : Int); omega) (by show (0 : Int) ≤ (15 : Int); omega) (by show (0 : Int) ≤ (f 5).toInt; omega) (by show (f 5).toInt ≤ (48 : Int); omega) (by show (0 : Int) ≤ (f 6).toInt; omega)) ?_
    rintro v27 S28 (⟨z29, y30, hv31, hS32, h33, h34, h35⟩ | ⟨a37, b38, hv39, hS40, h41⟩)
    · subst hv31
      have h33_ : z29.toInt = (f 4).toInt + 1 := h33
      have h34_ : (f 4).toInt < (f 0).toInt := h34
      have h35_ : y30.toInt = (f 5).toInt - 1 := h35
      replace hS32 : MS S0 S28 (upd (upd (upd (upd (upd f 4 z29) 5 y30) 24 l5) 37 z6) 44 b7) g'22 := hS32
      have hR43 : RJ (upd (upd (upd (upd (upd f 4 z29) 5 y30) 24 l5) 37 z6) 44 b7) g'22 gs bc1 [] 0 [] := RJ.at hR26_ (by show (f 4).toInt ≤ z29.toInt; omega)
      show am_E _ _ _ _ [some (.ref 39), some (.int 9), some (.int on), some (.int tw), some (.int th)] [.int 1] _ _
      refine am_e6i hi_180_219 ?_
      refine am_e18 hi_180_220 ?_
      refine am_e35 hi_180_371 ?_
      have q1 : mg_p1 gs = mg_p1 gs := rfl
      have q2 : mg_p2 gs = mg_p2 gs := rfl
      have q3 : mg_p3 gs = mg_p3 gs := rfl
      have q4 : mg_p4 gs = mg_p4 gs := rfl
      refine ⟨_, _, _, bc1, rfl, hS32, Or.inl ⟨⟨hR43, ?_, ?_⟩, rfl, ?_⟩⟩
      · exact (mg_cast (mg_good_ext _ _ _ _ _ _ (fun i _ => by show g'22 34 i = g 34 i; rw [show g'22 34 = g'8 34 from h25_ 34 (by decide), show g'8 34 = g 34 from h16_ 34 (by decide)]) (fun i _ => by show g'22 38 i = g 38 i; rw [show g'22 38 = g'8 38 from h25_ 38 (by decide), show g'8 38 = g 38 from h16_ 38 (by decide)]) (fun i _ => by show g'22 23 i = g 23 i; rw [show g'22 23 = g'8 23 from h25_ 23 (by decide), show g'8 23 = g 23 from h16_ 23 (by decide)]) hrest) (by show (f 15).toInt + 0 = (f 15).toInt; omega) (by show (f 20).toInt = (f 20).toInt; omega) (by show (f 37).toInt + -1 = z6.toInt; omega) (by show (f 32).toInt + 0 = (f 32).toInt; omega) (by show (f 5).toInt + -1 = y30.toInt; omega) : mg_good (g'22 34) (g'22 38) (g'22 23) gs ((f 15).toInt) ((f 20).toInt) (z6.toInt) ((f 32).toInt) (y30.toInt))
      · exact ⟨(by show 0 ≤ z29.toInt; omega), (by show z29.toInt ≤ (f 0).toInt; omega), (by show (f 0).toInt ≤ 512; omega), (by show 0 ≤ l5.toInt; omega), (by show l5.toInt + (f 20).toInt + mg_p1 gs ≤ 4 * z29.toInt; omega), (by show (f 20).toInt ≤ z29.toInt; omega), (by show (f 15).toInt + mg_p2 gs ≤ z29.toInt; omega), (by show mg_p3 gs ≤ 20 * z29.toInt + 20; omega), (by show 0 ≤ (f 68).toInt; omega), (by show (f 68).toInt + 3 * (f 20).toInt + mg_p4 gs ≤ 60 * z29.toInt + 60; omega), (by show 0 ≤ (f 62).toInt; omega), (by show (f 62).toInt + 64 * mj_n (g'22 16) (f 15).toNatClampNeg 3 ≤ 64 * z29.toInt; rw [show g'22 16 = g'8 16 from h25_ 16 (by decide), show g'8 16 = g 16 from h16_ 16 (by decide)]; omega), (by show 0 ≤ b7.toInt; omega), (by show b7.toInt ≤ z29.toInt; omega), (by show 0 ≤ (f 48).toInt; omega), (by show (f 48).toInt ≤ z29.toInt; omega), (by show 1 ≤ (f 53).toInt; omega), (by show (f 53).toInt ≤ z29.toInt + 1; omega), (by show 0 ≤ (f 19).toInt; omega), (by show (f 19).toInt ≤ 600; omega), (by show 0 ≤ (f 6).toInt; omega), (by show 0 ≤ (f 8).toInt; omega)⟩
      · show 100 * ((f 0).toInt - z29.toInt) + mg_p3 gs < 100 * ((f 0).toInt - (f 4).toInt) + (1 + mg_p3 gs); omega
    · subst hv39
      have h41_ : (0 : Int) ≤ a37.toInt := h41
      replace hS40 : MS S0 S28 (upd (upd (upd (upd (upd (upd f 6 a37) 7 b38) 10 0) 24 l5) 37 z6) 44 b7) g'22 := hS40
      have hR44 := rj_clear0 hR26_
      have hR45 : RJ (upd (upd (upd (upd (upd (upd f 6 a37) 7 b38) 10 0) 24 l5) 37 z6) 44 b7) g'22 [] bc1 [] 0 [] := hR44
      show am_E _ _ _ _ [some (.ref 39), some (.int 9), some (.int on), some (.int tw), some (.int th)] [.int 0] _ _
      refine am_e6i hi_180_219 ?_
      refine am_e18 hi_180_220 ?_
      refine am_e35 hi_180_371 ?_
      have hRc := rj_clear0 hR45
      refine ⟨_, _, [], _, rfl, hS40, Or.inr ⟨hRc, rfl, (by show 0 ≤ (f 4).toInt; omega), (by show (f 4).toInt ≤ (f 0).toInt; omega), (by show 0 ≤ (f 32).toInt; omega), (by show (f 32).toInt ≤ 63; omega), (by show 1 ≤ (f 53).toInt; omega), (by show (f 53).toInt ≤ 600; omega), (by show 0 ≤ (f 68).toInt; omega), (by show (f 68).toInt ≤ 60000; omega), (by show 0 ≤ (f 48).toInt; omega), (by show (f 48).toInt ≤ 8000; omega), (by show 0 ≤ z6.toInt; omega), (by show z6.toInt ≤ 128; omega), (by show 0 ≤ (f 62).toInt; omega), (by show (f 62).toInt ≤ 65000; omega), (by show 0 ≤ (f 19).toInt; omega), (by show (f 19).toInt ≤ 600; omega), (by show 0 ≤ a37.toInt; omega), (by show 0 ≤ (f 8).toInt; omega)⟩⟩
  · refine am_e13f hi_243_15 (am_cF (m := (f 24).toInt) (n := (g 38 z0.toNatClampNeg).toInt) rfl rfl c2) ?_
    refine am_e0 hi_243_18 ?_
    refine am_e18 hi_243_19 ?_
    refine am_e36 hi_243_23 (by decide) ?_
    show am_E _ _ _ _ [some (.ref 39)] [.int 1] _ _
    refine am_e12f hi_242_4 (by decide) ?_
    refine am_e2 (v := 39) hi_242_7 rfl ?_
    refine am_e0 hi_242_8 ?_
    refine am_e2 (v := 39) hi_242_10 rfl ?_
    refine am_e32w (as := [.ref 39]) (la := [some (.ref 39)]) (rest := [.int 33, .ref 39]) hi_242_11 (am_hd0 (M := 242) (by decide) 11) (Nat.le_of_ble_eq_true rfl) (Nat.le_of_ble_eq_true rfl) (show 1 ≤ am_P0.2.2.1 232 from by decide +kernel) rfl (am_recv_ok hS.fs) rfl rfl ?_
    refine am_e2 (v := 39) hi_232_0 rfl ?_
    refine mm_20 (v := .ref 62) hS hi_232_1 rfl ?_
    refine am_e2 (v := 39) hi_232_4 rfl ?_
    refine mm_20 (v := .int (f 37)) hS hi_232_5 rfl ?_
    refine am_e0 hi_232_8 ?_
    refine am_e10 (z := z0) hi_232_9 hz0 ?_
    refine mm_25 hS ma_38 hi_232_10 (by decide) (by omega) (by omega) ?_
    show am_E _ _ _ _ [some (.ref 39)] [.int (g 38 z0.toNatClampNeg)] _ _
    have r46 : 0 ≤ (g 38 z0.toNatClampNeg).toInt ∧ (g 38 z0.toNatClampNeg).toInt ≤ (f 24).toInt := RJ.bl (i := z0) hR (by omega) (by show z0.toInt < (f 37).toInt; omega)
    refine am_e2 (v := 39) hi_232_11 rfl ?_
    refine mm_20 (v := .ref 59) hS hi_232_12 rfl ?_
    refine am_e2 (v := 39) hi_232_15 rfl ?_
    refine mm_20 (v := .int (f 32)) hS hi_232_16 rfl ?_
    refine mm_25 hS ma_34 hi_232_19 (by decide) (by omega) (by omega) ?_
    show am_E _ _ _ _ [some (.ref 39)] [.int (g 34 (f 32).toNatClampNeg), .int (g 38 z0.toNatClampNeg)] _ _
    have r47 : 0 ≤ (g 34 (f 32).toNatClampNeg).toInt := RJ.ba hR (f 32).toNatClampNeg
    obtain ⟨z48, hz48⟩ : ∃ q__, am_bin 1 (g 38 z0.toNatClampNeg) (g 34 (f 32).toNatClampNeg) = q__ := ⟨_, rfl⟩
    refine am_e10 (z := z48) hi_232_20 hz48 ?_
    refine am_e33 hi_232_21 ?_
    show am_E _ _ _ _ [some (.ref 39)] [.int z48, .int 33, .ref 39] _ _
    refine am_e0 hi_242_14 ?_
    refine am_e0 hi_242_15 ?_
    refine am_e32n (as := [.ref 39, .int 33, .int z48, .int 0, .int 0]) (la := [some (.ref 39), some (.int 33), some (.int z48), some (.int 0), some (.int 0)]) (rest := []) hi_242_16 (am_hd0 (M := 242) (by decide) 16) (Nat.le_of_ble_eq_true rfl) (Nat.le_of_ble_eq_true rfl) (show 5 ≤ am_P0.2.2.1 189 from by decide +kernel) rfl (am_recv_ok hS.fs) rfl rfl (ct_put (d := (d + 6)) hS hR  (by show (0 : Int) ≤ (f 32).toInt; omega) (by show (f 32).toInt ≤ (63 : Int); omega) (by show (f 53).toInt ≤ (4096 : Int); omega) (by show (0 : Int) ≤ (f 68).toInt; omega) (by show (f 68).toInt ≤ (65534 : Int); omega)) ?_
    rintro v49 S50 (⟨z51, r52, g'53, hv54, hS55, hR59, h56, h57, h58⟩)
    subst hv54
    have h56_ : z51.toInt = (f 68).toInt + 1 := h56
    have h57_ : r52.toInt = (f 68).toInt := h57
    have h58_ : ∀ j, j ∉ [60, 69, 70, 71, 72, 73] → g'53 j = g j := h58
    have hR59_ : RJ (upd f 68 z51) g'53 gs (c0 :: bc1) fl on.toInt ((f 68).toNatClampNeg :: []) := hR59
    show am_E _ _ _ _ [some (.ref 39)] [.int r52] _ _
    refine am_e6i hi_242_19 ?_
    refine am_e2 (v := 39) hi_242_20 rfl ?_
    refine am_e32n (as := [.ref 39]) (la := [some (.ref 39), none, none]) (rest := []) hi_242_21 (am_hd0 (M := 242) (by decide) 21) (Nat.le_of_ble_eq_true rfl) (Nat.le_of_ble_eq_true rfl) (show 1 ≤ am_P0.2.2.1 224 from by decide +kernel) rfl (am_recv_ok hS55.fs) rfl rfl (ct_dropBlock2 (d := (d + 6)) hS55 hR59_  (by show (0 : Int) ≤ (f 32).toInt; omega) (by show (f 32).toInt ≤ (63 : Int); omega) (by show (0 : Int) ≤ (f 48).toInt; omega) (by show (f 48).toInt ≤ (8192 : Int); omega) (by show (f 4).toInt ≤ (8192 : Int); omega) (by show (1 : Int) ≤ (f 37).toInt; omega) (by show (f 37).toInt ≤ (128 : Int); omega)) ?_
    rintro v60 S61 (⟨l62, z63, b64, g'65, hv66, hS67, hR76, h68, h69, h70, h71, h72, h73, h74, h75⟩)
    subst hv66
    have h68_ : z63.toInt = (f 37).toInt - 1 := h68
    have h69_ : (0 : Int) ≤ l62.toInt := h69
    have h70_ : l62.toInt ≤ (f 24).toInt := h70
    have h71_ : (0 : Int) ≤ b64.toInt := h71
    have h72_ : b64.toInt ≤ (f 4).toInt := h72
    have h73_ : ∀ j, j ∉ [52] → g'65 j = g'53 j := h73
    have h74_ : (fl : List Nat) = [] → RJ (upd (upd (upd (upd f 24 l62) 37 z63) 44 b64) 68 z51) g'65 gs bc1 c0 (g'65 43 z63.toNatClampNeg).toInt ((f 68).toNatClampNeg :: []) := h74
    have h75_ : l62 = g'53 38 z63.toNatClampNeg := h75
    replace hS67 : MS S0 S61 (upd (upd (upd (upd f 24 l62) 37 z63) 44 b64) 68 z51) g'65 := hS67
    have hR76_ : RJ (upd (upd (upd (upd f 24 l62) 37 z63) 44 b64) 68 z51) g'65 gs bc1 fl on.toInt ((f 68).toNatClampNeg :: []) := hR76
    show am_E _ _ _ _ [some (.ref 39)] [] _ _
    refine am_e35 hi_242_24 ?_
    show am_E _ _ _ _ [some (.ref 39), some (.int 9), some (.int on), some (.int tw), some (.int th)] [] _ _
    refine am_e2 (v := 39) hi_180_208 rfl ?_
    refine am_e1 (v := on) hi_180_209 rfl ?_
    refine am_e32n (as := [.ref 39, .int on]) (la := [some (.ref 39), some (.int on), none, none]) (rest := []) hi_180_210 (am_hd0 (M := 180) (by decide) 210) (Nat.le_of_ble_eq_true rfl) (Nat.le_of_ble_eq_true rfl) (show 2 ≤ am_P0.2.2.1 250 from by decide +kernel) rfl (am_recv_ok hS67.fs) rfl rfl (ct_mend (d := (d + 6)) hS67 hR76_ rfl (by show (0 : Int) ≤ (f 32).toInt; omega) (by show (f 32).toInt ≤ (63 : Int); omega) (by show (f 53).toInt ≤ (4096 : Int); omega) (by show (0 : Int) ≤ z51.toInt; omega) (by show z51.toInt ≤ (65534 : Int); omega)) ?_
    rintro v77 S78 (⟨g'79, hv80, hS81, hR83, h82⟩)
    subst hv80
    have h82_ : ∀ j, j ∉ [71] → g'79 j = g'65 j := h82
    have hR83_ : RJ (upd (upd (upd (upd f 24 l62) 37 z63) 44 b64) 68 z51) g'79 gs bc1 [] 0 ((f 68).toNatClampNeg :: []) := hR83
    show am_E _ _ _ _ [some (.ref 39), some (.int 9), some (.int on), some (.int tw), some (.int th)] [] _ _
    refine am_e2 (v := 39) hi_180_213 rfl ?_
    refine am_e0 hi_180_214 ?_
    refine am_e32n (as := [.ref 39, .int 15]) (la := [some (.ref 39), some (.int 15)]) (rest := []) hi_180_216 (am_hd0 (M := 180) (by decide) 216) (Nat.le_of_ble_eq_true rfl) (Nat.le_of_ble_eq_true rfl) (show 2 ≤ am_P0.2.2.1 199 from by decide +kernel) rfl (am_recv_ok hS81.fs) rfl rfl (ct_leave (d := (d + 4)) hS81   (by show (0 : Int) ≤ (f 4).toInt; omega) (by show (f 0).toInt ≤ (16384 : Int); omega) (by show (0 : Int) ≤ (15 : Int); omega) (by show (0 : Int) ≤ (f 5).toInt; omega) (by show (f 5).toInt ≤ (48 : Int); omega) (by show (0 : Int) ≤ (f 6).toInt; omega)) ?_
    rintro v84 S85 (⟨z86, y87, hv88, hS89, h90, h91, h92⟩ | ⟨a94, b95, hv96, hS97, h98⟩)
    · subst hv88
      have h90_ : z86.toInt = (f 4).toInt + 1 := h90
      have h91_ : (f 4).toInt < (f 0).toInt := h91
      have h92_ : y87.toInt = (f 5).toInt - 1 := h92
      replace hS89 : MS S0 S85 (upd (upd (upd (upd (upd (upd f 4 z86) 5 y87) 24 l62) 37 z63) 44 b64) 68 z51) g'79 := hS89
      have hR100 : RJ (upd (upd (upd (upd (upd (upd f 4 z86) 5 y87) 24 l62) 37 z63) 44 b64) 68 z51) g'79 gs bc1 [] 0 ((f 68).toNatClampNeg :: []) := RJ.at hR83_ (by show (f 4).toInt ≤ z86.toInt; omega)
      show am_E _ _ _ _ [some (.ref 39), some (.int 9), some (.int on), some (.int tw), some (.int th)] [.int 1] _ _
      refine am_e6i hi_180_219 ?_
      refine am_e18 hi_180_220 ?_
      refine am_e35 hi_180_371 ?_
      have q1 : mg_p1 gs = mg_p1 gs := rfl
      have q2 : mg_p2 gs = mg_p2 gs := rfl
      have q3 : mg_p3 gs = mg_p3 gs := rfl
      have q4 : mg_p4 gs = mg_p4 gs := rfl
      refine ⟨_, _, _, bc1, rfl, hS89, Or.inl ⟨⟨(RJ.fewer (pj' := []) hR100 (fun _ h => nomatch h)), ?_, ?_⟩, rfl, ?_⟩⟩
      · exact (mg_cast (mg_good_ext _ _ _ _ _ _ (fun i _ => by show g'79 34 i = g 34 i; rw [show g'79 34 = g'65 34 from h82_ 34 (by decide), show g'65 34 = g'53 34 from h73_ 34 (by decide), show g'53 34 = g 34 from h58_ 34 (by decide)]) (fun i _ => by show g'79 38 i = g 38 i; rw [show g'79 38 = g'65 38 from h82_ 38 (by decide), show g'65 38 = g'53 38 from h73_ 38 (by decide), show g'53 38 = g 38 from h58_ 38 (by decide)]) (fun i _ => by show g'79 23 i = g 23 i; rw [show g'79 23 = g'65 23 from h82_ 23 (by decide), show g'65 23 = g'53 23 from h73_ 23 (by decide), show g'53 23 = g 23 from h58_ 23 (by decide)]) hrest) (by show (f 15).toInt + 0 = (f 15).toInt; omega) (by show (f 20).toInt = (f 20).toInt; omega) (by show (f 37).toInt + -1 = z63.toInt; omega) (by show (f 32).toInt + 0 = (f 32).toInt; omega) (by show (f 5).toInt + -1 = y87.toInt; omega) : mg_good (g'79 34) (g'79 38) (g'79 23) gs ((f 15).toInt) ((f 20).toInt) (z63.toInt) ((f 32).toInt) (y87.toInt))
      · exact ⟨(by show 0 ≤ z86.toInt; omega), (by show z86.toInt ≤ (f 0).toInt; omega), (by show (f 0).toInt ≤ 512; omega), (by show 0 ≤ l62.toInt; omega), (by show l62.toInt + (f 20).toInt + mg_p1 gs ≤ 4 * z86.toInt; omega), (by show (f 20).toInt ≤ z86.toInt; omega), (by show (f 15).toInt + mg_p2 gs ≤ z86.toInt; omega), (by show mg_p3 gs ≤ 20 * z86.toInt + 20; omega), (by show 0 ≤ z51.toInt; omega), (by show z51.toInt + 3 * (f 20).toInt + mg_p4 gs ≤ 60 * z86.toInt + 60; omega), (by show 0 ≤ (f 62).toInt; omega), (by show (f 62).toInt + 64 * mj_n (g'79 16) (f 15).toNatClampNeg 3 ≤ 64 * z86.toInt; rw [show g'79 16 = g'65 16 from h82_ 16 (by decide), show g'65 16 = g'53 16 from h73_ 16 (by decide), show g'53 16 = g 16 from h58_ 16 (by decide)]; omega), (by show 0 ≤ b64.toInt; omega), (by show b64.toInt ≤ z86.toInt; omega), (by show 0 ≤ (f 48).toInt; omega), (by show (f 48).toInt ≤ z86.toInt; omega), (by show 1 ≤ (f 53).toInt; omega), (by show (f 53).toInt ≤ z86.toInt + 1; omega), (by show 0 ≤ (f 19).toInt; omega), (by show (f 19).toInt ≤ 600; omega), (by show 0 ≤ (f 6).toInt; omega), (by show 0 ≤ (f 8).toInt; omega)⟩
      · show 100 * ((f 0).toInt - z86.toInt) + mg_p3 gs < 100 * ((f 0).toInt - (f 4).toInt) + (1 + mg_p3 gs); omega
    · subst hv96
      have h98_ : (0 : Int) ≤ a94.toInt := h98
      replace hS97 : MS S0 S85 (upd (upd (upd (upd (upd (upd (upd f 6 a94) 7 b95) 10 0) 24 l62) 37 z63) 44 b64) 68 z51) g'79 := hS97
      have hR101 := rj_clear0 hR83_
      have hR102 : RJ (upd (upd (upd (upd (upd (upd (upd f 6 a94) 7 b95) 10 0) 24 l62) 37 z63) 44 b64) 68 z51) g'79 [] bc1 [] 0 [] := hR101
      show am_E _ _ _ _ [some (.ref 39), some (.int 9), some (.int on), some (.int tw), some (.int th)] [.int 0] _ _
      refine am_e6i hi_180_219 ?_
      refine am_e18 hi_180_220 ?_
      refine am_e35 hi_180_371 ?_
      have hRc := rj_clear0 hR102
      refine ⟨_, _, [], _, rfl, hS97, Or.inr ⟨hRc, rfl, (by show 0 ≤ (f 4).toInt; omega), (by show (f 4).toInt ≤ (f 0).toInt; omega), (by show 0 ≤ (f 32).toInt; omega), (by show (f 32).toInt ≤ 63; omega), (by show 1 ≤ (f 53).toInt; omega), (by show (f 53).toInt ≤ 600; omega), (by show 0 ≤ z51.toInt; omega), (by show z51.toInt ≤ 60000; omega), (by show 0 ≤ (f 48).toInt; omega), (by show (f 48).toInt ≤ 8000; omega), (by show 0 ≤ z63.toInt; omega), (by show z63.toInt ≤ 128; omega), (by show 0 ≤ (f 62).toInt; omega), (by show (f 62).toInt ≤ 65000; omega), (by show 0 ≤ (f 19).toInt; omega), (by show (f 19).toInt ≤ 600; omega), (by show 0 ≤ a94.toInt; omega), (by show 0 ≤ (f 8).toInt; omega)⟩⟩
