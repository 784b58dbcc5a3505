/-! STEPS: operators, args (printed by wip/p2/st1.py) -/
theorem st_24 {sc : Nat × (Nat → Int32)} {d : Nat} {S0 S : am_S} {f : Nat → Int32} {g : Nat → Nat → Int32} {on : Int32} {tw : Int32} {th : Int32} {gs : List mg_E} {bc : List (List Nat)} (hS : MS S0 S f g) (hR : RJ f g gs bc [] 0 []) (hrest : mg_good (g 34) (g 38) (g 23) gs ((f 15).toInt + 0) ((f 20).toInt) ((f 37).toInt + 0) ((f 32).toInt + 0) ((f 5).toInt + 0)) (p0 : 0 ≤ (f 4).toInt) (p1 : (f 4).toInt ≤ (f 0).toInt) (p2 : (f 0).toInt ≤ 512) (p3 : 0 ≤ (f 24).toInt) (p4 : (f 24).toInt + (f 20).toInt + mg_p1 gs ≤ 4 * (f 4).toInt) (p5 : (f 20).toInt ≤ (f 4).toInt) (p6 : (f 15).toInt + 0 + mg_p2 gs ≤ (f 4).toInt) (p7 : 1 + mg_p3 gs ≤ 20 * (f 4).toInt + 20) (p8 : 0 ≤ (f 68).toInt) (p9 : (f 68).toInt + 3 * (f 20).toInt + 0 + mg_p4 gs ≤ 60 * (f 4).toInt + 60) (p10 : 0 ≤ (f 62).toInt) (p11 : (f 62).toInt + 64 * mj_n (g 16) (f 15).toNatClampNeg 3 ≤ 64 * (f 4).toInt) (p12 : 0 ≤ (f 44).toInt) (p13 : (f 44).toInt ≤ (f 4).toInt) (p14 : 0 ≤ (f 48).toInt) (p15 : (f 48).toInt ≤ (f 4).toInt) (p16 : 1 ≤ (f 53).toInt) (p17 : (f 53).toInt ≤ (f 4).toInt + 1) (p18 : 0 ≤ (f 19).toInt) (p19 : (f 19).toInt ≤ 600) (p20 : 0 ≤ (f 6).toInt) (p21 : 0 ≤ (f 8).toInt) (p22 : 0 ≤ mg_p1 gs) (p23 : 0 ≤ mg_p2 gs) (p24 : 0 ≤ mg_p4 gs) (p25 : 0 ≤ (f 10).toInt) (p26 : (f 10).toInt ≤ mg_p3 gs) (p27 : 0 ≤ mj_n (g 16) (f 15).toNatClampNeg 3) (p28 : 1 ≤ (f 15).toInt) (p29 : 0 ≤ (f 20).toInt) (p30 : 1 ≤ (f 37).toInt) (p31 : 0 ≤ (f 32).toInt) (p32 : (f 32).toInt ≤ (f 5).toInt) (p33 : (f 5).toInt ≤ 48) (p34 : (f 37).toInt ≤ 2 * (f 5).toInt + 2) (p35 : 0 ≤ on.toInt) : am_E (am_PP sc) (d + 8) 180 0 [some (.ref 39), some (.int 24), some (.int on), some (.int tw), some (.int th)] [] S (am_N fun v S1 => ∃ (f' : Nat → Int32) (g' : Nat → Nat → Int32) (gs' : List mg_E) (bc' : List (List Nat)), v = none ∧ MS S0 S1 f' g' ∧ (mg_on f (100 * ((f 0).toInt - (f 4).toInt) + (1 + mg_p3 gs)) f' g' gs' bc' ∨ mg_off f f' g' bc')) := by
  have hbs := mg_basic hrest
  refine am_e1 (v := 24) hi_180_0 rfl ?_
  refine am_e0 hi_180_1 ?_
  refine am_e13f hi_180_3 (by decide) ?_
  refine am_e2 (v := 39) hi_180_6 rfl ?_
  refine am_e1 (v := 24) hi_180_7 rfl ?_
  refine am_e1 (v := on) hi_180_8 rfl ?_
  refine am_e1 (v := tw) hi_180_9 rfl ?_
  refine am_e32w (as := [.ref 39, .int 24, .int on, .int tw]) (la := [some (.ref 39), some (.int 24), some (.int on), some (.int tw)]) (rest := []) hi_180_10 (am_hd0 (M := 180) (by decide) 10) (Nat.le_of_ble_eq_true rfl) (Nat.le_of_ble_eq_true rfl) (show 4 ≤ am_P0.2.2.1 181 from by decide +kernel) rfl (am_recv_ok hS.fs) rfl rfl ?_
  refine am_e1 (v := 24) hi_181_0 rfl ?_
  refine am_e19 (t := 96) hi_181_1 (by decide) ?_
  refine am_e2 (v := 39) hi_181_96 rfl ?_
  refine am_e1 (v := on) hi_181_97 rfl ?_
  refine am_e32w (as := [.ref 39, .int on]) (la := [some (.ref 39), some (.int on), none, none]) (rest := []) hi_181_98 (am_hd0 (M := 181) (by decide) 98) (Nat.le_of_ble_eq_true rfl) (Nat.le_of_ble_eq_true rfl) (show 2 ≤ am_P0.2.2.1 202 from by decide +kernel) rfl (am_recv_ok hS.fs) rfl rfl ?_
  refine am_e2 (v := 39) hi_202_0 rfl ?_
  refine am_e32n (as := [.ref 39]) (la := [some (.ref 39)]) (rest := []) hi_202_1 (am_hd0 (M := 202) (by decide) 1) (Nat.le_of_ble_eq_true rfl) (Nat.le_of_ble_eq_true rfl) (show 1 ≤ am_P0.2.2.1 183 from by decide +kernel) rfl (am_recv_ok hS.fs) rfl rfl (ct_next (d := (d + 4)) hS   (by show (0 : Int) ≤ (f 4).toInt; omega) (by show (f 0).toInt ≤ (16384 : Int); omega)) ?_
  rintro v0 S1 (⟨r2, hv3, hS4, h5⟩)
  subst hv3
  have h5_ : (f 4).toInt < (f 0).toInt ∨ r2.toInt = (-1 : Int) := h5
  show am_E _ _ _ _ [some (.ref 39), some (.int on), none, none] [.int r2] _ _
  refine am_e3 (ls' := [some (.ref 39), some (.int on), some (.int r2), none]) hi_202_4 (Nat.le_of_ble_eq_true rfl) rfl ?_
  refine am_e1 (v := r2) hi_202_5 rfl ?_
  refine am_e32n (as := [.int r2]) (la := [some (.int r2)]) (rest := []) hi_202_6 (am_hd0 (M := 202) (by decide) 6) (Nat.le_of_ble_eq_true rfl) (Nat.le_of_ble_eq_true rfl) (show 1 ≤ am_P0.2.2.1 203 from by decide +kernel) rfl rfl rfl rfl (ct_left (d := (d + 5)) hS4   ) ?_
  rintro v7 S8 (⟨r9, hv10, hS11, h12, h13, h14⟩)
  subst hv10
  have h12_ : (0 : Int) ≤ r9.toInt := h12
  have h13_ : r9.toInt ≤ (14 : Int) := h13
  have h14_ : r9.toInt = (0 : Int) ∨ (0 : Int) ≤ r2.toInt := h14
  show am_E _ _ _ _ [some (.ref 39), some (.int on), some (.int r2), none] [.int r9] _ _
  refine am_e1 (v := on) hi_202_9 rfl ?_
  by_cases c16 : on.toInt < r9.toInt
  · refine am_e13t hi_202_10 (am_cT (m := r9.toInt) (n := on.toInt) rfl rfl c16) ?_
    refine am_e2 (v := 39) hi_202_14 rfl ?_
    refine mm_20 (v := .int (f 4)) hS11 hi_202_15 rfl ?_
    refine am_e3 (ls' := [some (.ref 39), some (.int on), some (.int r2), some (.int (f 4))]) hi_202_18 (Nat.le_of_ble_eq_true rfl) rfl ?_
    refine am_e2 (v := 39) hi_202_19 rfl ?_
    refine am_e7 hi_202_20 ?_
    refine mm_20 (v := .int (f 4)) hS11 hi_202_21 rfl ?_
    refine am_e0 hi_202_24 ?_
    obtain ⟨z17, hz17, tz17⟩ := am_addI (x := f 4) (y := 1) (m := (f 4).toInt) (n := (1 : Int)) rfl (by decide) (by omega) (by omega)
    refine am_e10 (z := z17) hi_202_25 hz17 ?_
    refine mm_21 (v := z17) hS11 hi_202_26 rfl (Nat.le_of_ble_eq_true rfl) ms_4 ?_
    intro S18 hS19
    have hR20 : RJ (upd f 4 z17) g gs bc [] 0 [] := RJ.at hR (by show (f 4).toInt ≤ z17.toInt; omega)
    refine am_e2 (v := 39) hi_202_29 rfl ?_
    refine am_e32n (as := [.ref 39]) (la := [some (.ref 39), none, none, none]) (rest := []) hi_202_30 (am_hd0 (M := 202) (by decide) 30) (Nat.le_of_ble_eq_true rfl) (Nat.le_of_ble_eq_true rfl) (show 1 ≤ am_P0.2.2.1 204 from by decide +kernel) rfl (am_recv_ok hS19.fs) rfl rfl (ct_load (d := (d + 3)) hS19 hR20  (by show (0 : Int) ≤ (f 32).toInt; omega) (by show (f 32).toInt ≤ (63 : Int); omega) (by show (f 53).toInt ≤ (4096 : Int); omega) (by show (0 : Int) ≤ (f 68).toInt; omega) (by show (f 68).toInt ≤ (65534 : Int); omega) (by show (1 : Int) ≤ (f 15).toInt; omega) (by show (f 15).toInt ≤ (32767 : Int); omega) (by show (0 : Int) ≤ (f 24).toInt; omega) (by show (f 24).toInt ≤ (16384 : Int); omega) (by show (0 : Int) ≤ (f 62).toInt; omega) (by show (f 62).toInt ≤ (65000 : Int); omega)) ?_
    rintro v21 S22 (⟨o23, s24, m25, g'26, hv27, hS28, hR35, h29, h30, h31, h32, h33, h34⟩)
    subst hv27
    have h29_ : (f 62).toInt ≤ o23.toInt := h29
    have h30_ : o23.toInt ≤ (f 62).toInt + 64 := h30
    have h31_ : (f 68).toInt ≤ s24.toInt := h31
    have h32_ : s24.toInt ≤ (f 68).toInt + 1 := h32
    have h33_ : o23.toInt + 64 * mj_n (g'26 16) (f 15).toNatClampNeg 3 ≤ (f 62).toInt + 64 * mj_n (g 16) (f 15).toNatClampNeg 3 := h33
    have h34_ : ∀ j, j ∉ [16, 60, 63, 64, 65, 66, 67, 69, 70, 71, 72, 73] → g'26 j = g j := h34
    have hR35_ : RJ (upd (upd (upd (upd f 4 z17) 62 o23) 68 s24) 75 m25) g'26 gs bc [] 0 [] := hR35
    show am_E _ _ _ _ [some (.ref 39), some (.int on), some (.int r2), some (.int (f 4))] [] _ _
    refine am_e2 (v := 39) hi_202_33 rfl ?_
    refine am_e0 hi_202_34 ?_
    refine am_e1 (v := on) hi_202_36 rfl ?_
    refine am_e0 hi_202_37 ?_
    refine am_e0 hi_202_38 ?_
    refine am_e32n (as := [.ref 39, .int 24, .int on, .int 0, .int 0]) (la := [some (.ref 39), some (.int 24), some (.int on), some (.int 0), some (.int 0)]) (rest := []) hi_202_39 (am_hd0 (M := 202) (by decide) 39) (Nat.le_of_ble_eq_true rfl) (Nat.le_of_ble_eq_true rfl) (show 5 ≤ am_P0.2.2.1 179 from by decide +kernel) rfl (am_recv_ok hS28.fs) rfl rfl (ct_pile (d := (d + 5)) hS28 hR35_ (mj_e_plain (by decide)) (by show (0 : Int) ≤ (f 10).toInt; omega) (by show (f 10).toInt ≤ (65535 : Int); omega)) ?_
    rintro v36 S37 (⟨z38, g'39, hv40, hS41, hR44, h42, h43⟩)
    subst hv40
    have h42_ : z38.toInt = (f 10).toInt + 1 := h42
    have h43_ : ∀ j, j ∉ [11, 12, 13, 14] → g'39 j = g'26 j := h43
    replace hS41 : MS S0 S37 (upd (upd (upd (upd (upd f 4 z17) 10 z38) 62 o23) 68 s24) 75 m25) g'39 := hS41
    have hR44_ : RJ (upd (upd (upd (upd (upd f 4 z17) 10 z38) 62 o23) 68 s24) 75 m25) g'39 (((24 : Int), on.toInt, (0 : Int), (0 : Int), []) :: gs) bc [] 0 [] := hR44
    show am_E _ _ _ _ [some (.ref 39), some (.int on), some (.int r2), some (.int (f 4))] [] _ _
    refine am_e1 (v := r2) hi_202_42 rfl ?_
    refine am_e0 hi_202_43 ?_
    by_cases c45 : r2.toInt = (10 : Int)
    · refine am_e13t hi_202_45 (am_cT (m := r2.toInt) (n := (10 : Int)) rfl (by decide) c45) ?_
      refine am_e2 (v := 39) hi_202_54 rfl ?_
      refine am_e7 hi_202_55 ?_
      refine mm_20 (v := .int (f 15)) hS41 hi_202_56 rfl ?_
      refine am_e0 hi_202_59 ?_
      obtain ⟨z46, hz46, tz46⟩ := am_subI (x := f 15) (y := 1) (m := (f 15).toInt) (n := (1 : Int)) rfl (by decide) (by omega) (by omega)
      refine am_e10 (z := z46) hi_202_60 hz46 ?_
      refine mm_21 (v := z46) hS41 hi_202_61 rfl (Nat.le_of_ble_eq_true rfl) ms_15 ?_
      intro S47 hS48
      replace hS48 : MS S0 S47 (upd (upd (upd (upd (upd (upd f 4 z17) 10 z38) 15 z46) 62 o23) 68 s24) 75 m25) g'39 := hS48
      have hp49 : mj_n (g'26 16) (f 15).toNatClampNeg 3 = mj_n (g'26 16) z46.toNatClampNeg 3 + if (g'26 16 z46.toNatClampNeg).toInt = 3 then 1 else 0 := mj_pop (by rw [cl_toNat, cl_toNat]; omega)
      have hp491 : mj_n (g'26 16) z46.toNatClampNeg 3 ≤ mj_n (g'26 16) (f 15).toNatClampNeg 3 := by rw [hp49]; split <;> omega
      have hp492 : (g'26 16 z46.toNatClampNeg).toInt = 3 → mj_n (g'26 16) z46.toNatClampNeg 3 + 1 ≤ mj_n (g'26 16) (f 15).toNatClampNeg 3 := fun q => by rw [hp49, if_pos q]; exact Int.le_refl _
      refine am_e2 (v := 39) hi_202_64 rfl ?_
      refine am_e0 hi_202_65 ?_
      refine am_e2 (v := 39) hi_202_67 rfl ?_
      refine am_e1 (v := r2) hi_202_68 rfl ?_
      refine am_e0 hi_202_69 ?_
      refine am_e13f hi_202_71 (am_cF (m := r2.toInt) (n := (10 : Int)) rfl (by decide) (by simp only [am_cI]; omega)) ?_
      refine am_e0 hi_202_74 ?_
      refine am_e18 hi_202_76 ?_
      refine am_e0 hi_202_81 ?_
      refine am_e0 hi_202_82 ?_
      refine am_e0 hi_202_83 ?_
      refine am_e32n (as := [.ref 39, .int 15, .int 0, .int 0, .int 0]) (la := [some (.ref 39), some (.int 15), some (.int 0), some (.int 0), some (.int 0)]) (rest := [.int 26, .ref 39]) hi_202_84 (am_hd0 (M := 202) (by decide) 84) (Nat.le_of_ble_eq_true rfl) (Nat.le_of_ble_eq_true rfl) (show 5 ≤ am_P0.2.2.1 189 from by decide +kernel) rfl (am_recv_ok hS48.fs) rfl rfl (ct_put (d := (d + 5)) hS48 hR44_  (by show (0 : Int) ≤ (f 32).toInt; omega) (by show (f 32).toInt ≤ (63 : Int); omega) (by show (f 53).toInt ≤ (4096 : Int); omega) (by show (0 : Int) ≤ s24.toInt; omega) (by show s24.toInt ≤ (65534 : Int); omega)) ?_
      rintro v50 S51 (⟨z52, r53, g'54, hv55, hS56, hR60, h57, h58, h59⟩)
      subst hv55
      have h57_ : z52.toInt = s24.toInt + 1 := h57
      have h58_ : r53.toInt = s24.toInt := h58
      have h59_ : ∀ j, j ∉ [60, 69, 70, 71, 72, 73] → g'54 j = g'39 j := h59
      replace hS56 : MS S0 S51 (upd (upd (upd (upd (upd (upd f 4 z17) 10 z38) 15 z46) 62 o23) 68 z52) 75 m25) g'54 := hS56
      have hR60_ : RJ (upd (upd (upd (upd (upd (upd f 4 z17) 10 z38) 15 z46) 62 o23) 68 z52) 75 m25) g'54 (((24 : Int), on.toInt, (0 : Int), (0 : Int), []) :: gs) bc [] 0 (s24.toNatClampNeg :: []) := hR60
      show am_E _ _ _ _ [some (.ref 39), some (.int on), some (.int r2), some (.int (f 4))] [.int r53, .int 26, .ref 39] _ _
      refine am_e0 hi_202_87 ?_
      refine am_e0 hi_202_88 ?_
      refine am_e32n (as := [.ref 39, .int 26, .int r53, .int 0, .int 0]) (la := [some (.ref 39), some (.int 26), some (.int r53), some (.int 0), some (.int 0)]) (rest := []) hi_202_89 (am_hd0 (M := 202) (by decide) 89) (Nat.le_of_ble_eq_true rfl) (Nat.le_of_ble_eq_true rfl) (show 5 ≤ am_P0.2.2.1 179 from by decide +kernel) rfl (am_recv_ok hS56.fs) rfl rfl (ct_pile (d := (d + 5)) hS56 hR60_ (mj_e_j hR60_ (by decide) (by show 0 ≤ r53.toInt; omega) (by rw [show r53.toInt.toNat = s24.toNatClampNeg from (by rw [cl_toNat]; omega)]; exact List.mem_cons_self)) (by show (0 : Int) ≤ z38.toInt; omega) (by show z38.toInt ≤ (65535 : Int); omega)) ?_
      rintro v61 S62 (⟨z63, g'64, hv65, hS66, hR69, h67, h68⟩)
      subst hv65
      have h67_ : z63.toInt = z38.toInt + 1 := h67
      have h68_ : ∀ j, j ∉ [11, 12, 13, 14] → g'64 j = g'54 j := h68
      replace hS66 : MS S0 S62 (upd (upd (upd (upd (upd (upd f 4 z17) 10 z63) 15 z46) 62 o23) 68 z52) 75 m25) g'64 := hS66
      have hR69_ : RJ (upd (upd (upd (upd (upd (upd f 4 z17) 10 z63) 15 z46) 62 o23) 68 z52) 75 m25) g'64 (((26 : Int), r53.toInt, (0 : Int), (0 : Int), []) :: (((24 : Int), on.toInt, (0 : Int), (0 : Int), []) :: gs)) bc [] 0 (s24.toNatClampNeg :: []) := hR69
      show am_E _ _ _ _ [some (.ref 39), some (.int on), some (.int r2), some (.int (f 4))] [] _ _
      refine am_e18 hi_202_92 ?_
      refine am_e2 (v := 39) hi_202_104 rfl ?_
      refine am_e1 (v := r2) hi_202_105 rfl ?_
      refine am_e32n (as := [.int r2]) (la := [some (.int r2)]) (rest := [.ref 39]) hi_202_106 (am_hd0 (M := 202) (by decide) 106) (Nat.le_of_ble_eq_true rfl) (Nat.le_of_ble_eq_true rfl) (show 1 ≤ am_P0.2.2.1 208 from by decide +kernel) rfl rfl rfl rfl (ct_right (d := (d + 4)) hS66   ) ?_
      rintro v70 S71 (⟨r72, hv73, hS74, h75, h76⟩)
      subst hv73
      have h75_ : (0 : Int) ≤ r72.toInt := h75
      have h76_ : r72.toInt ≤ (14 : Int) := h76
      show am_E _ _ _ _ [some (.ref 39), some (.int on), some (.int r2), some (.int (f 4))] [.int r72, .ref 39] _ _
      refine am_e32w (as := [.ref 39, .int r72]) (la := [some (.ref 39), some (.int r72)]) (rest := []) hi_202_109 (am_hd0 (M := 202) (by decide) 109) (Nat.le_of_ble_eq_true rfl) (Nat.le_of_ble_eq_true rfl) (show 2 ≤ am_P0.2.2.1 186 from by decide +kernel) rfl (am_recv_ok hS74.fs) rfl rfl ?_
      refine am_e2 (v := 39) hi_186_0 rfl ?_
      refine am_e0 hi_186_1 ?_
      refine am_e1 (v := r72) hi_186_3 rfl ?_
      refine am_e0 hi_186_4 ?_
      refine am_e0 hi_186_5 ?_
      refine am_e32n (as := [.ref 39, .int 23, .int r72, .int 0, .int 0]) (la := [some (.ref 39), some (.int 23), some (.int r72), some (.int 0), some (.int 0)]) (rest := []) hi_186_6 (am_hd0 (M := 186) (by decide) 6) (Nat.le_of_ble_eq_true rfl) (Nat.le_of_ble_eq_true rfl) (show 5 ≤ am_P0.2.2.1 179 from by decide +kernel) rfl (am_recv_ok hS74.fs) rfl rfl (ct_pile (d := (d + 4)) hS74 hR69_ (mj_e_plain (by decide)) (by show (0 : Int) ≤ z63.toInt; omega) (by show z63.toInt ≤ (65535 : Int); omega)) ?_
      rintro v78 S79 (⟨z80, g'81, hv82, hS83, hR86, h84, h85⟩)
      subst hv82
      have h84_ : z80.toInt = z63.toInt + 1 := h84
      have h85_ : ∀ j, j ∉ [11, 12, 13, 14] → g'81 j = g'64 j := h85
      replace hS83 : MS S0 S79 (upd (upd (upd (upd (upd (upd f 4 z17) 10 z80) 15 z46) 62 o23) 68 z52) 75 m25) g'81 := hS83
      have hR86_ : RJ (upd (upd (upd (upd (upd (upd f 4 z17) 10 z80) 15 z46) 62 o23) 68 z52) 75 m25) g'81 (((23 : Int), r72.toInt, (0 : Int), (0 : Int), []) :: (((26 : Int), r53.toInt, (0 : Int), (0 : Int), []) :: (((24 : Int), on.toInt, (0 : Int), (0 : Int), []) :: gs))) bc [] 0 (s24.toNatClampNeg :: []) := hR86
      show am_E _ _ _ _ [some (.ref 39), some (.int r72)] [] _ _
      refine am_e35 hi_186_9 ?_
      show am_E _ _ _ _ [some (.ref 39), some (.int on), some (.int r2), some (.int (f 4))] [] _ _
      refine am_e35 hi_202_112 ?_
      show am_E _ _ _ _ [some (.ref 39), some (.int 24), some (.int on), some (.int tw)] [] _ _
      refine am_e18 hi_181_101 ?_
      refine am_e35 hi_181_397 ?_
      show am_E _ _ _ _ [some (.ref 39), some (.int 24), some (.int on), some (.int tw), some (.int th)] [] _ _
      refine am_e35 hi_180_13 ?_
      have q1 : mg_p1 (((23 : Int), r72.toInt, (0 : Int), (0 : Int), []) :: (((26 : Int), r53.toInt, (0 : Int), (0 : Int), []) :: (((24 : Int), on.toInt, (0 : Int), (0 : Int), []) :: gs))) = 0 + (0 + (0 + (mg_p1 gs))) := rfl
      have q2 : mg_p2 (((23 : Int), r72.toInt, (0 : Int), (0 : Int), []) :: (((26 : Int), r53.toInt, (0 : Int), (0 : Int), []) :: (((24 : Int), on.toInt, (0 : Int), (0 : Int), []) :: gs))) = 0 + (0 + (0 + (mg_p2 gs))) := rfl
      have q3 : mg_p3 (((23 : Int), r72.toInt, (0 : Int), (0 : Int), []) :: (((26 : Int), r53.toInt, (0 : Int), (0 : Int), []) :: (((24 : Int), on.toInt, (0 : Int), (0 : Int), []) :: gs))) = 1 + (1 + (1 + (mg_p3 gs))) := rfl
      have q4 : mg_p4 (((23 : Int), r72.toInt, (0 : Int), (0 : Int), []) :: (((26 : Int), r53.toInt, (0 : Int), (0 : Int), []) :: (((24 : Int), on.toInt, (0 : Int), (0 : Int), []) :: gs))) = 0 + (2 + (0 + (mg_p4 gs))) := rfl
      refine ⟨_, _, _, bc, rfl, hS83, Or.inl ⟨⟨(RJ.fewer (pj' := []) hR86_ (fun _ h => nomatch h)), ?_, ?_⟩, rfl, ?_⟩⟩
      · exact (⟨⟨(show mg_k 23 from by decide), (show (0 : Int) ≤ z46.toInt from by omega), (show 0 ≤ (f 20).toInt from by omega), (show 1 ≤ (f 37).toInt from by omega), (show 0 ≤ (f 32).toInt from by omega), (show (f 32).toInt ≤ (f 5).toInt from by omega), (show (f 5).toInt ≤ 48 from by omega), (show (f 37).toInt ≤ 2 * ((f 5).toInt) + 2 from by omega), (show 0 ≤ r72.toInt from by omega)⟩, ⟨⟨(show mg_k 26 from by decide), (show (1 : Int) ≤ z46.toInt + 1 from by omega), (show 0 ≤ (f 20).toInt from by omega), (show 1 ≤ (f 37).toInt + 0 from by omega), (show 0 ≤ (f 32).toInt + 0 from by omega), (show (f 32).toInt + 0 ≤ (f 5).toInt + 0 from by omega), (show (f 5).toInt + 0 ≤ 48 from by omega), (show (f 37).toInt + 0 ≤ 2 * ((f 5).toInt + 0) + 2 from by omega), trivial⟩, ⟨⟨(show mg_k 24 from by decide), (show (1 : Int) ≤ z46.toInt + 1 + 0 from by omega), (show 0 ≤ (f 20).toInt from by omega), (show 1 ≤ (f 37).toInt + 0 + 0 from by omega), (show 0 ≤ (f 32).toInt + 0 + 0 from by omega), (show (f 32).toInt + 0 + 0 ≤ (f 5).toInt + 0 + 0 from by omega), (show (f 5).toInt + 0 + 0 ≤ 48 from by omega), (show (f 37).toInt + 0 + 0 ≤ 2 * ((f 5).toInt + 0 + 0) + 2 from by omega), (show 0 ≤ on.toInt from by omega)⟩, mg_cast (mg_good_ext _ _ _ _ _ _ (fun i _ => by show g'81 34 i = g 34 i; rw [show g'81 34 = g'64 34 from h85_ 34 (by decide), show g'64 34 = g'54 34 from h68_ 34 (by decide), show g'54 34 = g'39 34 from h59_ 34 (by decide), show g'39 34 = g'26 34 from h43_ 34 (by decide), show g'26 34 = g 34 from h34_ 34 (by decide)]) (fun i _ => by show g'81 38 i = g 38 i; rw [show g'81 38 = g'64 38 from h85_ 38 (by decide), show g'64 38 = g'54 38 from h68_ 38 (by decide), show g'54 38 = g'39 38 from h59_ 38 (by decide), show g'39 38 = g'26 38 from h43_ 38 (by decide), show g'26 38 = g 38 from h34_ 38 (by decide)]) (fun i _ => by show g'81 23 i = g 23 i; rw [show g'81 23 = g'64 23 from h85_ 23 (by decide), show g'64 23 = g'54 23 from h68_ 23 (by decide), show g'54 23 = g'39 23 from h59_ 23 (by decide), show g'39 23 = g'26 23 from h43_ 23 (by decide), show g'26 23 = g 23 from h34_ 23 (by decide)]) hrest) (by show (f 15).toInt + 0 = z46.toInt + 1 + 0 + 0; omega) (by show (f 20).toInt = (f 20).toInt; omega) (by show (f 37).toInt + 0 = (f 37).toInt + 0 + 0 + 0; omega) (by show (f 32).toInt + 0 = (f 32).toInt + 0 + 0 + 0; omega) (by show (f 5).toInt + 0 = (f 5).toInt + 0 + 0 + 0; omega)⟩⟩⟩ : mg_good (g'81 34) (g'81 38) (g'81 23) (((23 : Int), r72.toInt, (0 : Int), (0 : Int), []) :: (((26 : Int), r53.toInt, (0 : Int), (0 : Int), []) :: (((24 : Int), on.toInt, (0 : Int), (0 : Int), []) :: gs))) (z46.toInt) ((f 20).toInt) ((f 37).toInt) ((f 32).toInt) ((f 5).toInt))
      · exact ⟨(by show 0 ≤ z17.toInt; omega), (by show z17.toInt ≤ (f 0).toInt; omega), (by show (f 0).toInt ≤ 512; omega), (by show 0 ≤ (f 24).toInt; omega), (by show (f 24).toInt + (f 20).toInt + mg_p1 (((23 : Int), r72.toInt, (0 : Int), (0 : Int), []) :: (((26 : Int), r53.toInt, (0 : Int), (0 : Int), []) :: (((24 : Int), on.toInt, (0 : Int), (0 : Int), []) :: gs))) ≤ 4 * z17.toInt; omega), (by show (f 20).toInt ≤ z17.toInt; omega), (by show z46.toInt + mg_p2 (((23 : Int), r72.toInt, (0 : Int), (0 : Int), []) :: (((26 : Int), r53.toInt, (0 : Int), (0 : Int), []) :: (((24 : Int), on.toInt, (0 : Int), (0 : Int), []) :: gs))) ≤ z17.toInt; omega), (by show mg_p3 (((23 : Int), r72.toInt, (0 : Int), (0 : Int), []) :: (((26 : Int), r53.toInt, (0 : Int), (0 : Int), []) :: (((24 : Int), on.toInt, (0 : Int), (0 : Int), []) :: gs))) ≤ 20 * z17.toInt + 20; omega), (by show 0 ≤ z52.toInt; omega), (by show z52.toInt + 3 * (f 20).toInt + mg_p4 (((23 : Int), r72.toInt, (0 : Int), (0 : Int), []) :: (((26 : Int), r53.toInt, (0 : Int), (0 : Int), []) :: (((24 : Int), on.toInt, (0 : Int), (0 : Int), []) :: gs))) ≤ 60 * z17.toInt + 60; omega), (by show 0 ≤ o23.toInt; omega), (by show o23.toInt + 64 * mj_n (g'81 16) z46.toNatClampNeg 3 ≤ 64 * z17.toInt; rw [show g'81 16 = g'64 16 from h85_ 16 (by decide), show g'64 16 = g'54 16 from h68_ 16 (by decide), show g'54 16 = g'39 16 from h59_ 16 (by decide), show g'39 16 = g'26 16 from h43_ 16 (by decide)]; omega), (by show 0 ≤ (f 44).toInt; omega), (by show (f 44).toInt ≤ z17.toInt; omega), (by show 0 ≤ (f 48).toInt; omega), (by show (f 48).toInt ≤ z17.toInt; omega), (by show 1 ≤ (f 53).toInt; omega), (by show (f 53).toInt ≤ z17.toInt + 1; omega), (by show 0 ≤ (f 19).toInt; omega), (by show (f 19).toInt ≤ 600; omega), (by show 0 ≤ (f 6).toInt; omega), (by show 0 ≤ (f 8).toInt; omega)⟩
      · show 100 * ((f 0).toInt - z17.toInt) + mg_p3 (((23 : Int), r72.toInt, (0 : Int), (0 : Int), []) :: (((26 : Int), r53.toInt, (0 : Int), (0 : Int), []) :: (((24 : Int), on.toInt, (0 : Int), (0 : Int), []) :: gs))) < 100 * ((f 0).toInt - (f 4).toInt) + (1 + mg_p3 gs); omega
    · refine am_e13f hi_202_45 (am_cF (m := r2.toInt) (n := (10 : Int)) rfl (by decide) c45) ?_
      refine am_e1 (v := r2) hi_202_48 rfl ?_
      refine am_e0 hi_202_49 ?_
      by_cases c87 : ¬ r2.toInt = (25 : Int)
      · refine am_e13t hi_202_51 (am_cT (m := r2.toInt) (n := (25 : Int)) rfl (by decide) c87) ?_
        refine am_e2 (v := 39) hi_202_95 rfl ?_
        refine am_e0 hi_202_96 ?_
        refine am_e1 (v := r2) hi_202_98 rfl ?_
        refine am_e1 (v := f 4) hi_202_99 rfl ?_
        refine am_e0 hi_202_100 ?_
        refine am_e32n (as := [.ref 39, .int 25, .int r2, .int (f 4), .int 0]) (la := [some (.ref 39), some (.int 25), some (.int r2), some (.int (f 4)), some (.int 0)]) (rest := []) hi_202_101 (am_hd0 (M := 202) (by decide) 101) (Nat.le_of_ble_eq_true rfl) (Nat.le_of_ble_eq_true rfl) (show 5 ≤ am_P0.2.2.1 179 from by decide +kernel) rfl (am_recv_ok hS41.fs) rfl rfl (ct_pile (d := (d + 5)) hS41 hR44_ (mj_e_plain (by decide)) (by show (0 : Int) ≤ z38.toInt; omega) (by show z38.toInt ≤ (65535 : Int); omega)) ?_
        rintro v88 S89 (⟨z90, g'91, hv92, hS93, hR96, h94, h95⟩)
        subst hv92
        have h94_ : z90.toInt = z38.toInt + 1 := h94
        have h95_ : ∀ j, j ∉ [11, 12, 13, 14] → g'91 j = g'39 j := h95
        replace hS93 : MS S0 S89 (upd (upd (upd (upd (upd f 4 z17) 10 z90) 62 o23) 68 s24) 75 m25) g'91 := hS93
        have hR96_ : RJ (upd (upd (upd (upd (upd f 4 z17) 10 z90) 62 o23) 68 s24) 75 m25) g'91 (((25 : Int), r2.toInt, (f 4).toInt, (0 : Int), []) :: (((24 : Int), on.toInt, (0 : Int), (0 : Int), []) :: gs)) bc [] 0 [] := hR96
        show am_E _ _ _ _ [some (.ref 39), some (.int on), some (.int r2), some (.int (f 4))] [] _ _
        refine am_e2 (v := 39) hi_202_104 rfl ?_
        refine am_e1 (v := r2) hi_202_105 rfl ?_
        refine am_e32n (as := [.int r2]) (la := [some (.int r2)]) (rest := [.ref 39]) hi_202_106 (am_hd0 (M := 202) (by decide) 106) (Nat.le_of_ble_eq_true rfl) (Nat.le_of_ble_eq_true rfl) (show 1 ≤ am_P0.2.2.1 208 from by decide +kernel) rfl rfl rfl rfl (ct_right (d := (d + 4)) hS93   ) ?_
        rintro v97 S98 (⟨r99, hv100, hS101, h102, h103⟩)
        subst hv100
        have h102_ : (0 : Int) ≤ r99.toInt := h102
        have h103_ : r99.toInt ≤ (14 : Int) := h103
        show am_E _ _ _ _ [some (.ref 39), some (.int on), some (.int r2), some (.int (f 4))] [.int r99, .ref 39] _ _
        refine am_e32w (as := [.ref 39, .int r99]) (la := [some (.ref 39), some (.int r99)]) (rest := []) hi_202_109 (am_hd0 (M := 202) (by decide) 109) (Nat.le_of_ble_eq_true rfl) (Nat.le_of_ble_eq_true rfl) (show 2 ≤ am_P0.2.2.1 186 from by decide +kernel) rfl (am_recv_ok hS101.fs) rfl rfl ?_
        refine am_e2 (v := 39) hi_186_0 rfl ?_
        refine am_e0 hi_186_1 ?_
        refine am_e1 (v := r99) hi_186_3 rfl ?_
        refine am_e0 hi_186_4 ?_
        refine am_e0 hi_186_5 ?_
        refine am_e32n (as := [.ref 39, .int 23, .int r99, .int 0, .int 0]) (la := [some (.ref 39), some (.int 23), some (.int r99), some (.int 0), some (.int 0)]) (rest := []) hi_186_6 (am_hd0 (M := 186) (by decide) 6) (Nat.le_of_ble_eq_true rfl) (Nat.le_of_ble_eq_true rfl) (show 5 ≤ am_P0.2.2.1 179 from by decide +kernel) rfl (am_recv_ok hS101.fs) rfl rfl (ct_pile (d := (d + 4)) hS101 hR96_ (mj_e_plain (by decide)) (by show (0 : Int) ≤ z90.toInt; omega) (by show z90.toInt ≤ (65535 : Int); omega)) ?_
        rintro v105 S106 (⟨z107, g'108, hv109, hS110, hR113, h111, h112⟩)
        subst hv109
        have h111_ : z107.toInt = z90.toInt + 1 := h111
        have h112_ : ∀ j, j ∉ [11, 12, 13, 14] → g'108 j = g'91 j := h112
        replace hS110 : MS S0 S106 (upd (upd (upd (upd (upd f 4 z17) 10 z107) 62 o23) 68 s24) 75 m25) g'108 := hS110
        have hR113_ : RJ (upd (upd (upd (upd (upd f 4 z17) 10 z107) 62 o23) 68 s24) 75 m25) g'108 (((23 : Int), r99.toInt, (0 : Int), (0 : Int), []) :: (((25 : Int), r2.toInt, (f 4).toInt, (0 : Int), []) :: (((24 : Int), on.toInt, (0 : Int), (0 : Int), []) :: gs))) bc [] 0 [] := hR113
        show am_E _ _ _ _ [some (.ref 39), some (.int r99)] [] _ _
        refine am_e35 hi_186_9 ?_
        show am_E _ _ _ _ [some (.ref 39), some (.int on), some (.int r2), some (.int (f 4))] [] _ _
        refine am_e35 hi_202_112 ?_
        show am_E _ _ _ _ [some (.ref 39), some (.int 24), some (.int on), some (.int tw)] [] _ _
        refine am_e18 hi_181_101 ?_
        refine am_e35 hi_181_397 ?_
        show am_E _ _ _ _ [some (.ref 39), some (.int 24), some (.int on), some (.int tw), some (.int th)] [] _ _
        refine am_e35 hi_180_13 ?_
        have q1 : mg_p1 (((23 : Int), r99.toInt, (0 : Int), (0 : Int), []) :: (((25 : Int), r2.toInt, (f 4).toInt, (0 : Int), []) :: (((24 : Int), on.toInt, (0 : Int), (0 : Int), []) :: gs))) = 0 + (0 + (0 + (mg_p1 gs))) := rfl
        have q2 : mg_p2 (((23 : Int), r99.toInt, (0 : Int), (0 : Int), []) :: (((25 : Int), r2.toInt, (f 4).toInt, (0 : Int), []) :: (((24 : Int), on.toInt, (0 : Int), (0 : Int), []) :: gs))) = 0 + (0 + (0 + (mg_p2 gs))) := rfl
        have q3 : mg_p3 (((23 : Int), r99.toInt, (0 : Int), (0 : Int), []) :: (((25 : Int), r2.toInt, (f 4).toInt, (0 : Int), []) :: (((24 : Int), on.toInt, (0 : Int), (0 : Int), []) :: gs))) = 1 + (1 + (1 + (mg_p3 gs))) := rfl
        have q4 : mg_p4 (((23 : Int), r99.toInt, (0 : Int), (0 : Int), []) :: (((25 : Int), r2.toInt, (f 4).toInt, (0 : Int), []) :: (((24 : Int), on.toInt, (0 : Int), (0 : Int), []) :: gs))) = 0 + (3 + (0 + (mg_p4 gs))) := rfl
        refine ⟨_, _, _, bc, rfl, hS110, Or.inl ⟨⟨hR113_, ?_, ?_⟩, rfl, ?_⟩⟩
        · exact (⟨⟨(show mg_k 23 from by decide), (show (0 : Int) ≤ (f 15).toInt from by omega), (show 0 ≤ (f 20).toInt from by omega), (show 1 ≤ (f 37).toInt from by omega), (show 0 ≤ (f 32).toInt from by omega), (show (f 32).toInt ≤ (f 5).toInt from by omega), (show (f 5).toInt ≤ 48 from by omega), (show (f 37).toInt ≤ 2 * ((f 5).toInt) + 2 from by omega), (show 0 ≤ r99.toInt from by omega)⟩, ⟨⟨(show mg_k 25 from by decide), (show (1 : Int) ≤ (f 15).toInt + 1 from by omega), (show 0 ≤ (f 20).toInt from by omega), (show 1 ≤ (f 37).toInt + 0 from by omega), (show 0 ≤ (f 32).toInt + 0 from by omega), (show (f 32).toInt + 0 ≤ (f 5).toInt + 0 from by omega), (show (f 5).toInt + 0 ≤ 48 from by omega), (show (f 37).toInt + 0 ≤ 2 * ((f 5).toInt + 0) + 2 from by omega), trivial⟩, ⟨⟨(show mg_k 24 from by decide), (show (1 : Int) ≤ (f 15).toInt + 1 + -1 from by omega), (show 0 ≤ (f 20).toInt from by omega), (show 1 ≤ (f 37).toInt + 0 + 0 from by omega), (show 0 ≤ (f 32).toInt + 0 + 0 from by omega), (show (f 32).toInt + 0 + 0 ≤ (f 5).toInt + 0 + 0 from by omega), (show (f 5).toInt + 0 + 0 ≤ 48 from by omega), (show (f 37).toInt + 0 + 0 ≤ 2 * ((f 5).toInt + 0 + 0) + 2 from by omega), (show 0 ≤ on.toInt from by omega)⟩, mg_cast (mg_good_ext _ _ _ _ _ _ (fun i _ => by show g'108 34 i = g 34 i; rw [show g'108 34 = g'91 34 from h112_ 34 (by decide), show g'91 34 = g'39 34 from h95_ 34 (by decide), show g'39 34 = g'26 34 from h43_ 34 (by decide), show g'26 34 = g 34 from h34_ 34 (by decide)]) (fun i _ => by show g'108 38 i = g 38 i; rw [show g'108 38 = g'91 38 from h112_ 38 (by decide), show g'91 38 = g'39 38 from h95_ 38 (by decide), show g'39 38 = g'26 38 from h43_ 38 (by decide), show g'26 38 = g 38 from h34_ 38 (by decide)]) (fun i _ => by show g'108 23 i = g 23 i; rw [show g'108 23 = g'91 23 from h112_ 23 (by decide), show g'91 23 = g'39 23 from h95_ 23 (by decide), show g'39 23 = g'26 23 from h43_ 23 (by decide), show g'26 23 = g 23 from h34_ 23 (by decide)]) hrest) (by show (f 15).toInt + 0 = (f 15).toInt + 1 + -1 + 0; omega) (by show (f 20).toInt = (f 20).toInt; omega) (by show (f 37).toInt + 0 = (f 37).toInt + 0 + 0 + 0; omega) (by show (f 32).toInt + 0 = (f 32).toInt + 0 + 0 + 0; omega) (by show (f 5).toInt + 0 = (f 5).toInt + 0 + 0 + 0; omega)⟩⟩⟩ : mg_good (g'108 34) (g'108 38) (g'108 23) (((23 : Int), r99.toInt, (0 : Int), (0 : Int), []) :: (((25 : Int), r2.toInt, (f 4).toInt, (0 : Int), []) :: (((24 : Int), on.toInt, (0 : Int), (0 : Int), []) :: gs))) ((f 15).toInt) ((f 20).toInt) ((f 37).toInt) ((f 32).toInt) ((f 5).toInt))
        · exact ⟨(by show 0 ≤ z17.toInt; omega), (by show z17.toInt ≤ (f 0).toInt; omega), (by show (f 0).toInt ≤ 512; omega), (by show 0 ≤ (f 24).toInt; omega), (by show (f 24).toInt + (f 20).toInt + mg_p1 (((23 : Int), r99.toInt, (0 : Int), (0 : Int), []) :: (((25 : Int), r2.toInt, (f 4).toInt, (0 : Int), []) :: (((24 : Int), on.toInt, (0 : Int), (0 : Int), []) :: gs))) ≤ 4 * z17.toInt; omega), (by show (f 20).toInt ≤ z17.toInt; omega), (by show (f 15).toInt + mg_p2 (((23 : Int), r99.toInt, (0 : Int), (0 : Int), []) :: (((25 : Int), r2.toInt, (f 4).toInt, (0 : Int), []) :: (((24 : Int), on.toInt, (0 : Int), (0 : Int), []) :: gs))) ≤ z17.toInt; omega), (by show mg_p3 (((23 : Int), r99.toInt, (0 : Int), (0 : Int), []) :: (((25 : Int), r2.toInt, (f 4).toInt, (0 : Int), []) :: (((24 : Int), on.toInt, (0 : Int), (0 : Int), []) :: gs))) ≤ 20 * z17.toInt + 20; omega), (by show 0 ≤ s24.toInt; omega), (by show s24.toInt + 3 * (f 20).toInt + mg_p4 (((23 : Int), r99.toInt, (0 : Int), (0 : Int), []) :: (((25 : Int), r2.toInt, (f 4).toInt, (0 : Int), []) :: (((24 : Int), on.toInt, (0 : Int), (0 : Int), []) :: gs))) ≤ 60 * z17.toInt + 60; omega), (by show 0 ≤ o23.toInt; omega), (by show o23.toInt + 64 * mj_n (g'108 16) (f 15).toNatClampNeg 3 ≤ 64 * z17.toInt; rw [show g'108 16 = g'91 16 from h112_ 16 (by decide), show g'91 16 = g'39 16 from h95_ 16 (by decide), show g'39 16 = g'26 16 from h43_ 16 (by decide)]; omega), (by show 0 ≤ (f 44).toInt; omega), (by show (f 44).toInt ≤ z17.toInt; omega), (by show 0 ≤ (f 48).toInt; omega), (by show (f 48).toInt ≤ z17.toInt; omega), (by show 1 ≤ (f 53).toInt; omega), (by show (f 53).toInt ≤ z17.toInt + 1; omega), (by show 0 ≤ (f 19).toInt; omega), (by show (f 19).toInt ≤ 600; omega), (by show 0 ≤ (f 6).toInt; omega), (by show 0 ≤ (f 8).toInt; omega)⟩
        · show 100 * ((f 0).toInt - z17.toInt) + mg_p3 (((23 : Int), r99.toInt, (0 : Int), (0 : Int), []) :: (((25 : Int), r2.toInt, (f 4).toInt, (0 : Int), []) :: (((24 : Int), on.toInt, (0 : Int), (0 : Int), []) :: gs))) < 100 * ((f 0).toInt - (f 4).toInt) + (1 + mg_p3 gs); omega
      · refine am_e13f hi_202_51 (am_cF (m := r2.toInt) (n := (25 : Int)) rfl (by decide) c87) ?_
        refine am_e2 (v := 39) hi_202_54 rfl ?_
        refine am_e7 hi_202_55 ?_
        refine mm_20 (v := .int (f 15)) hS41 hi_202_56 rfl ?_
        refine am_e0 hi_202_59 ?_
        obtain ⟨z114, hz114, tz114⟩ := am_subI (x := f 15) (y := 1) (m := (f 15).toInt) (n := (1 : Int)) rfl (by decide) (by omega) (by omega)
        refine am_e10 (z := z114) hi_202_60 hz114 ?_
        refine mm_21 (v := z114) hS41 hi_202_61 rfl (Nat.le_of_ble_eq_true rfl) ms_15 ?_
        intro S115 hS116
        replace hS116 : MS S0 S115 (upd (upd (upd (upd (upd (upd f 4 z17) 10 z38) 15 z114) 62 o23) 68 s24) 75 m25) g'39 := hS116
        have hp117 : mj_n (g'26 16) (f 15).toNatClampNeg 3 = mj_n (g'26 16) z114.toNatClampNeg 3 + if (g'26 16 z114.toNatClampNeg).toInt = 3 then 1 else 0 := mj_pop (by rw [cl_toNat, cl_toNat]; omega)
        have hp1171 : mj_n (g'26 16) z114.toNatClampNeg 3 ≤ mj_n (g'26 16) (f 15).toNatClampNeg 3 := by rw [hp117]; split <;> omega
        have hp1172 : (g'26 16 z114.toNatClampNeg).toInt = 3 → mj_n (g'26 16) z114.toNatClampNeg 3 + 1 ≤ mj_n (g'26 16) (f 15).toNatClampNeg 3 := fun q => by rw [hp117, if_pos q]; exact Int.le_refl _
        refine am_e2 (v := 39) hi_202_64 rfl ?_
        refine am_e0 hi_202_65 ?_
        refine am_e2 (v := 39) hi_202_67 rfl ?_
        refine am_e1 (v := r2) hi_202_68 rfl ?_
        refine am_e0 hi_202_69 ?_
        refine am_e13t hi_202_71 (am_cT (m := r2.toInt) (n := (10 : Int)) rfl (by decide) (by simp only [am_cI]; omega)) ?_
        refine am_e0 hi_202_79 ?_
        refine am_e0 hi_202_81 ?_
        refine am_e0 hi_202_82 ?_
        refine am_e0 hi_202_83 ?_
        refine am_e32n (as := [.ref 39, .int 16, .int 0, .int 0, .int 0]) (la := [some (.ref 39), some (.int 16), some (.int 0), some (.int 0), some (.int 0)]) (rest := [.int 26, .ref 39]) hi_202_84 (am_hd0 (M := 202) (by decide) 84) (Nat.le_of_ble_eq_true rfl) (Nat.le_of_ble_eq_true rfl) (show 5 ≤ am_P0.2.2.1 189 from by decide +kernel) rfl (am_recv_ok hS116.fs) rfl rfl (ct_put (d := (d + 5)) hS116 hR44_  (by show (0 : Int) ≤ (f 32).toInt; omega) (by show (f 32).toInt ≤ (63 : Int); omega) (by show (f 53).toInt ≤ (4096 : Int); omega) (by show (0 : Int) ≤ s24.toInt; omega) (by show s24.toInt ≤ (65534 : Int); omega)) ?_
        rintro v118 S119 (⟨z120, r121, g'122, hv123, hS124, hR128, h125, h126, h127⟩)
        subst hv123
        have h125_ : z120.toInt = s24.toInt + 1 := h125
        have h126_ : r121.toInt = s24.toInt := h126
        have h127_ : ∀ j, j ∉ [60, 69, 70, 71, 72, 73] → g'122 j = g'39 j := h127
        replace hS124 : MS S0 S119 (upd (upd (upd (upd (upd (upd f 4 z17) 10 z38) 15 z114) 62 o23) 68 z120) 75 m25) g'122 := hS124
        have hR128_ : RJ (upd (upd (upd (upd (upd (upd f 4 z17) 10 z38) 15 z114) 62 o23) 68 z120) 75 m25) g'122 (((24 : Int), on.toInt, (0 : Int), (0 : Int), []) :: gs) bc [] 0 (s24.toNatClampNeg :: []) := hR128
        show am_E _ _ _ _ [some (.ref 39), some (.int on), some (.int r2), some (.int (f 4))] [.int r121, .int 26, .ref 39] _ _
        refine am_e0 hi_202_87 ?_
        refine am_e0 hi_202_88 ?_
        refine am_e32n (as := [.ref 39, .int 26, .int r121, .int 0, .int 0]) (la := [some (.ref 39), some (.int 26), some (.int r121), some (.int 0), some (.int 0)]) (rest := []) hi_202_89 (am_hd0 (M := 202) (by decide) 89) (Nat.le_of_ble_eq_true rfl) (Nat.le_of_ble_eq_true rfl) (show 5 ≤ am_P0.2.2.1 179 from by decide +kernel) rfl (am_recv_ok hS124.fs) rfl rfl (ct_pile (d := (d + 5)) hS124 hR128_ (mj_e_j hR128_ (by decide) (by show 0 ≤ r121.toInt; omega) (by rw [show r121.toInt.toNat = s24.toNatClampNeg from (by rw [cl_toNat]; omega)]; exact List.mem_cons_self)) (by show (0 : Int) ≤ z38.toInt; omega) (by show z38.toInt ≤ (65535 : Int); omega)) ?_
        rintro v129 S130 (⟨z131, g'132, hv133, hS134, hR137, h135, h136⟩)
        subst hv133
        have h135_ : z131.toInt = z38.toInt + 1 := h135
        have h136_ : ∀ j, j ∉ [11, 12, 13, 14] → g'132 j = g'122 j := h136
        replace hS134 : MS S0 S130 (upd (upd (upd (upd (upd (upd f 4 z17) 10 z131) 15 z114) 62 o23) 68 z120) 75 m25) g'132 := hS134
        have hR137_ : RJ (upd (upd (upd (upd (upd (upd f 4 z17) 10 z131) 15 z114) 62 o23) 68 z120) 75 m25) g'132 (((26 : Int), r121.toInt, (0 : Int), (0 : Int), []) :: (((24 : Int), on.toInt, (0 : Int), (0 : Int), []) :: gs)) bc [] 0 (s24.toNatClampNeg :: []) := hR137
        show am_E _ _ _ _ [some (.ref 39), some (.int on), some (.int r2), some (.int (f 4))] [] _ _
        refine am_e18 hi_202_92 ?_
        refine am_e2 (v := 39) hi_202_104 rfl ?_
        refine am_e1 (v := r2) hi_202_105 rfl ?_
        refine am_e32n (as := [.int r2]) (la := [some (.int r2)]) (rest := [.ref 39]) hi_202_106 (am_hd0 (M := 202) (by decide) 106) (Nat.le_of_ble_eq_true rfl) (Nat.le_of_ble_eq_true rfl) (show 1 ≤ am_P0.2.2.1 208 from by decide +kernel) rfl rfl rfl rfl (ct_right (d := (d + 4)) hS134   ) ?_
        rintro v138 S139 (⟨r140, hv141, hS142, h143, h144⟩)
        subst hv141
        have h143_ : (0 : Int) ≤ r140.toInt := h143
        have h144_ : r140.toInt ≤ (14 : Int) := h144
        show am_E _ _ _ _ [some (.ref 39), some (.int on), some (.int r2), some (.int (f 4))] [.int r140, .ref 39] _ _
        refine am_e32w (as := [.ref 39, .int r140]) (la := [some (.ref 39), some (.int r140)]) (rest := []) hi_202_109 (am_hd0 (M := 202) (by decide) 109) (Nat.le_of_ble_eq_true rfl) (Nat.le_of_ble_eq_true rfl) (show 2 ≤ am_P0.2.2.1 186 from by decide +kernel) rfl (am_recv_ok hS142.fs) rfl rfl ?_
        refine am_e2 (v := 39) hi_186_0 rfl ?_
        refine am_e0 hi_186_1 ?_
        refine am_e1 (v := r140) hi_186_3 rfl ?_
        refine am_e0 hi_186_4 ?_
        refine am_e0 hi_186_5 ?_
        refine am_e32n (as := [.ref 39, .int 23, .int r140, .int 0, .int 0]) (la := [some (.ref 39), some (.int 23), some (.int r140), some (.int 0), some (.int 0)]) (rest := []) hi_186_6 (am_hd0 (M := 186) (by decide) 6) (Nat.le_of_ble_eq_true rfl) (Nat.le_of_ble_eq_true rfl) (show 5 ≤ am_P0.2.2.1 179 from by decide +kernel) rfl (am_recv_ok hS142.fs) rfl rfl (ct_pile (d := (d + 4)) hS142 hR137_ (mj_e_plain (by decide)) (by show (0 : Int) ≤ z131.toInt; omega) (by show z131.toInt ≤ (65535 : Int); omega)) ?_
        rintro v146 S147 (⟨z148, g'149, hv150, hS151, hR154, h152, h153⟩)
        subst hv150
        have h152_ : z148.toInt = z131.toInt + 1 := h152
        have h153_ : ∀ j, j ∉ [11, 12, 13, 14] → g'149 j = g'132 j := h153
        replace hS151 : MS S0 S147 (upd (upd (upd (upd (upd (upd f 4 z17) 10 z148) 15 z114) 62 o23) 68 z120) 75 m25) g'149 := hS151
        have hR154_ : RJ (upd (upd (upd (upd (upd (upd f 4 z17) 10 z148) 15 z114) 62 o23) 68 z120) 75 m25) g'149 (((23 : Int), r140.toInt, (0 : Int), (0 : Int), []) :: (((26 : Int), r121.toInt, (0 : Int), (0 : Int), []) :: (((24 : Int), on.toInt, (0 : Int), (0 : Int), []) :: gs))) bc [] 0 (s24.toNatClampNeg :: []) := hR154
        show am_E _ _ _ _ [some (.ref 39), some (.int r140)] [] _ _
        refine am_e35 hi_186_9 ?_
        show am_E _ _ _ _ [some (.ref 39), some (.int on), some (.int r2), some (.int (f 4))] [] _ _
        refine am_e35 hi_202_112 ?_
        show am_E _ _ _ _ [some (.ref 39), some (.int 24), some (.int on), some (.int tw)] [] _ _
        refine am_e18 hi_181_101 ?_
        refine am_e35 hi_181_397 ?_
        show am_E _ _ _ _ [some (.ref 39), some (.int 24), some (.int on), some (.int tw), some (.int th)] [] _ _
        refine am_e35 hi_180_13 ?_
        have q1 : mg_p1 (((23 : Int), r140.toInt, (0 : Int), (0 : Int), []) :: (((26 : Int), r121.toInt, (0 : Int), (0 : Int), []) :: (((24 : Int), on.toInt, (0 : Int), (0 : Int), []) :: gs))) = 0 + (0 + (0 + (mg_p1 gs))) := rfl
        have q2 : mg_p2 (((23 : Int), r140.toInt, (0 : Int), (0 : Int), []) :: (((26 : Int), r121.toInt, (0 : Int), (0 : Int), []) :: (((24 : Int), on.toInt, (0 : Int), (0 : Int), []) :: gs))) = 0 + (0 + (0 + (mg_p2 gs))) := rfl
        have q3 : mg_p3 (((23 : Int), r140.toInt, (0 : Int), (0 : Int), []) :: (((26 : Int), r121.toInt, (0 : Int), (0 : Int), []) :: (((24 : Int), on.toInt, (0 : Int), (0 : Int), []) :: gs))) = 1 + (1 + (1 + (mg_p3 gs))) := rfl
        have q4 : mg_p4 (((23 : Int), r140.toInt, (0 : Int), (0 : Int), []) :: (((26 : Int), r121.toInt, (0 : Int), (0 : Int), []) :: (((24 : Int), on.toInt, (0 : Int), (0 : Int), []) :: gs))) = 0 + (2 + (0 + (mg_p4 gs))) := rfl
        refine ⟨_, _, _, bc, rfl, hS151, Or.inl ⟨⟨(RJ.fewer (pj' := []) hR154_ (fun _ h => nomatch h)), ?_, ?_⟩, rfl, ?_⟩⟩
        · exact (⟨⟨(show mg_k 23 from by decide), (show (0 : Int) ≤ z114.toInt from by omega), (show 0 ≤ (f 20).toInt from by omega), (show 1 ≤ (f 37).toInt from by omega), (show 0 ≤ (f 32).toInt from by omega), (show (f 32).toInt ≤ (f 5).toInt from by omega), (show (f 5).toInt ≤ 48 from by omega), (show (f 37).toInt ≤ 2 * ((f 5).toInt) + 2 from by omega), (show 0 ≤ r140.toInt from by omega)⟩, ⟨⟨(show mg_k 26 from by decide), (show (1 : Int) ≤ z114.toInt + 1 from by omega), (show 0 ≤ (f 20).toInt from by omega), (show 1 ≤ (f 37).toInt + 0 from by omega), (show 0 ≤ (f 32).toInt + 0 from by omega), (show (f 32).toInt + 0 ≤ (f 5).toInt + 0 from by omega), (show (f 5).toInt + 0 ≤ 48 from by omega), (show (f 37).toInt + 0 ≤ 2 * ((f 5).toInt + 0) + 2 from by omega), trivial⟩, ⟨⟨(show mg_k 24 from by decide), (show (1 : Int) ≤ z114.toInt + 1 + 0 from by omega), (show 0 ≤ (f 20).toInt from by omega), (show 1 ≤ (f 37).toInt + 0 + 0 from by omega), (show 0 ≤ (f 32).toInt + 0 + 0 from by omega), (show (f 32).toInt + 0 + 0 ≤ (f 5).toInt + 0 + 0 from by omega), (show (f 5).toInt + 0 + 0 ≤ 48 from by omega), (show (f 37).toInt + 0 + 0 ≤ 2 * ((f 5).toInt + 0 + 0) + 2 from by omega), (show 0 ≤ on.toInt from by omega)⟩, mg_cast (mg_good_ext _ _ _ _ _ _ (fun i _ => by show g'149 34 i = g 34 i; rw [show g'149 34 = g'132 34 from h153_ 34 (by decide), show g'132 34 = g'122 34 from h136_ 34 (by decide), show g'122 34 = g'39 34 from h127_ 34 (by decide), show g'39 34 = g'26 34 from h43_ 34 (by decide), show g'26 34 = g 34 from h34_ 34 (by decide)]) (fun i _ => by show g'149 38 i = g 38 i; rw [show g'149 38 = g'132 38 from h153_ 38 (by decide), show g'132 38 = g'122 38 from h136_ 38 (by decide), show g'122 38 = g'39 38 from h127_ 38 (by decide), show g'39 38 = g'26 38 from h43_ 38 (by decide), show g'26 38 = g 38 from h34_ 38 (by decide)]) (fun i _ => by show g'149 23 i = g 23 i; rw [show g'149 23 = g'132 23 from h153_ 23 (by decide), show g'132 23 = g'122 23 from h136_ 23 (by decide), show g'122 23 = g'39 23 from h127_ 23 (by decide), show g'39 23 = g'26 23 from h43_ 23 (by decide), show g'26 23 = g 23 from h34_ 23 (by decide)]) hrest) (by show (f 15).toInt + 0 = z114.toInt + 1 + 0 + 0; omega) (by show (f 20).toInt = (f 20).toInt; omega) (by show (f 37).toInt + 0 = (f 37).toInt + 0 + 0 + 0; omega) (by show (f 32).toInt + 0 = (f 32).toInt + 0 + 0 + 0; omega) (by show (f 5).toInt + 0 = (f 5).toInt + 0 + 0 + 0; omega)⟩⟩⟩ : mg_good (g'149 34) (g'149 38) (g'149 23) (((23 : Int), r140.toInt, (0 : Int), (0 : Int), []) :: (((26 : Int), r121.toInt, (0 : Int), (0 : Int), []) :: (((24 : Int), on.toInt, (0 : Int), (0 : Int), []) :: gs))) (z114.toInt) ((f 20).toInt) ((f 37).toInt) ((f 32).toInt) ((f 5).toInt))
        · exact ⟨(by show 0 ≤ z17.toInt; omega), (by show z17.toInt ≤ (f 0).toInt; omega), (by show (f 0).toInt ≤ 512; omega), (by show 0 ≤ (f 24).toInt; omega), (by show (f 24).toInt + (f 20).toInt + mg_p1 (((23 : Int), r140.toInt, (0 : Int), (0 : Int), []) :: (((26 : Int), r121.toInt, (0 : Int), (0 : Int), []) :: (((24 : Int), on.toInt, (0 : Int), (0 : Int), []) :: gs))) ≤ 4 * z17.toInt; omega), (by show (f 20).toInt ≤ z17.toInt; omega), (by show z114.toInt + mg_p2 (((23 : Int), r140.toInt, (0 : Int), (0 : Int), []) :: (((26 : Int), r121.toInt, (0 : Int), (0 : Int), []) :: (((24 : Int), on.toInt, (0 : Int), (0 : Int), []) :: gs))) ≤ z17.toInt; omega), (by show mg_p3 (((23 : Int), r140.toInt, (0 : Int), (0 : Int), []) :: (((26 : Int), r121.toInt, (0 : Int), (0 : Int), []) :: (((24 : Int), on.toInt, (0 : Int), (0 : Int), []) :: gs))) ≤ 20 * z17.toInt + 20; omega), (by show 0 ≤ z120.toInt; omega), (by show z120.toInt + 3 * (f 20).toInt + mg_p4 (((23 : Int), r140.toInt, (0 : Int), (0 : Int), []) :: (((26 : Int), r121.toInt, (0 : Int), (0 : Int), []) :: (((24 : Int), on.toInt, (0 : Int), (0 : Int), []) :: gs))) ≤ 60 * z17.toInt + 60; omega), (by show 0 ≤ o23.toInt; omega), (by show o23.toInt + 64 * mj_n (g'149 16) z114.toNatClampNeg 3 ≤ 64 * z17.toInt; rw [show g'149 16 = g'132 16 from h153_ 16 (by decide), show g'132 16 = g'122 16 from h136_ 16 (by decide), show g'122 16 = g'39 16 from h127_ 16 (by decide), show g'39 16 = g'26 16 from h43_ 16 (by decide)]; omega), (by show 0 ≤ (f 44).toInt; omega), (by show (f 44).toInt ≤ z17.toInt; omega), (by show 0 ≤ (f 48).toInt; omega), (by show (f 48).toInt ≤ z17.toInt; omega), (by show 1 ≤ (f 53).toInt; omega), (by show (f 53).toInt ≤ z17.toInt + 1; omega), (by show 0 ≤ (f 19).toInt; omega), (by show (f 19).toInt ≤ 600; omega), (by show 0 ≤ (f 6).toInt; omega), (by show 0 ≤ (f 8).toInt; omega)⟩
        · show 100 * ((f 0).toInt - z17.toInt) + mg_p3 (((23 : Int), r140.toInt, (0 : Int), (0 : Int), []) :: (((26 : Int), r121.toInt, (0 : Int), (0 : Int), []) :: (((24 : Int), on.toInt, (0 : Int), (0 : Int), []) :: gs))) < 100 * ((f 0).toInt - (f 4).toInt) + (1 + mg_p3 gs); omega
  · refine am_e13f hi_202_10 (am_cF (m := r9.toInt) (n := on.toInt) rfl rfl c16) ?_
    refine am_e35 hi_202_13 ?_
    show am_E _ _ _ _ [some (.ref 39), some (.int 24), some (.int on), some (.int tw)] [] _ _
    refine am_e18 hi_181_101 ?_
    refine am_e35 hi_181_397 ?_
    show am_E _ _ _ _ [some (.ref 39), some (.int 24), some (.int on), some (.int tw), some (.int th)] [] _ _
    refine am_e35 hi_180_13 ?_
    have q1 : mg_p1 gs = mg_p1 gs := rfl
    have q2 : mg_p2 gs = mg_p2 gs := rfl
    have q3 : mg_p3 gs = mg_p3 gs := rfl
    have q4 : mg_p4 gs = mg_p4 gs := rfl
    refine ⟨_, _, _, bc, rfl, hS11, Or.inl ⟨⟨hR, ?_, ?_⟩, rfl, ?_⟩⟩
    · exact (mg_cast (mg_good_ext _ _ _ _ _ _ (fun _ _ => rfl) (fun _ _ => rfl) (fun _ _ => rfl) hrest) (by show (f 15).toInt + 0 = (f 15).toInt; omega) (by show (f 20).toInt = (f 20).toInt; omega) (by show (f 37).toInt + 0 = (f 37).toInt; omega) (by show (f 32).toInt + 0 = (f 32).toInt; omega) (by show (f 5).toInt + 0 = (f 5).toInt; omega) : mg_good (g 34) (g 38) (g 23) gs ((f 15).toInt) ((f 20).toInt) ((f 37).toInt) ((f 32).toInt) ((f 5).toInt))
    · exact ⟨(by show 0 ≤ (f 4).toInt; omega), (by show (f 4).toInt ≤ (f 0).toInt; omega), (by show (f 0).toInt ≤ 512; omega), (by show 0 ≤ (f 24).toInt; omega), (by show (f 24).toInt + (f 20).toInt + mg_p1 gs ≤ 4 * (f 4).toInt; omega), (by show (f 20).toInt ≤ (f 4).toInt; omega), (by show (f 15).toInt + mg_p2 gs ≤ (f 4).toInt; omega), (by show mg_p3 gs ≤ 20 * (f 4).toInt + 20; omega), (by show 0 ≤ (f 68).toInt; omega), (by show (f 68).toInt + 3 * (f 20).toInt + mg_p4 gs ≤ 60 * (f 4).toInt + 60; omega), (by show 0 ≤ (f 62).toInt; omega), (by show (f 62).toInt + 64 * mj_n (g 16) (f 15).toNatClampNeg 3 ≤ 64 * (f 4).toInt; omega), (by show 0 ≤ (f 44).toInt; omega), (by show (f 44).toInt ≤ (f 4).toInt; omega), (by show 0 ≤ (f 48).toInt; omega), (by show (f 48).toInt ≤ (f 4).toInt; omega), (by show 1 ≤ (f 53).toInt; omega), (by show (f 53).toInt ≤ (f 4).toInt + 1; omega), (by show 0 ≤ (f 19).toInt; omega), (by show (f 19).toInt ≤ 600; omega), (by show 0 ≤ (f 6).toInt; omega), (by show 0 ≤ (f 8).toInt; omega)⟩
    · show 100 * ((f 0).toInt - (f 4).toInt) + mg_p3 gs < 100 * ((f 0).toInt - (f 4).toInt) + (1 + mg_p3 gs); omega
theorem st_32 {sc : Nat × (Nat → Int32)} {d : Nat} {S0 S : am_S} {f : Nat → Int32} {g : Nat → Nat → Int32} {on : Int32} {tw : Int32} {th : Int32} {gs : List mg_E} {bc : List (List Nat)} (hS : MS S0 S f g) (hR : RJ f g gs bc [] 0 []) (hrest : mg_good (g 34) (g 38) (g 23) gs ((f 15).toInt + -1) ((f 20).toInt) ((f 37).toInt + 0) ((f 32).toInt + 0) ((f 5).toInt + -1)) (p0 : 0 ≤ (f 4).toInt) (p1 : (f 4).toInt ≤ (f 0).toInt) (p2 : (f 0).toInt ≤ 512) (p3 : 0 ≤ (f 24).toInt) (p4 : (f 24).toInt + (f 20).toInt + mg_p1 gs ≤ 4 * (f 4).toInt) (p5 : (f 20).toInt ≤ (f 4).toInt) (p6 : (f 15).toInt + 0 + mg_p2 gs ≤ (f 4).toInt) (p7 : 1 + mg_p3 gs ≤ 20 * (f 4).toInt + 20) (p8 : 0 ≤ (f 68).toInt) (p9 : (f 68).toInt + 3 * (f 20).toInt + 0 + mg_p4 gs ≤ 60 * (f 4).toInt + 60) (p10 : 0 ≤ (f 62).toInt) (p11 : (f 62).toInt + 64 * mj_n (g 16) (f 15).toNatClampNeg 3 ≤ 64 * (f 4).toInt) (p12 : 0 ≤ (f 44).toInt) (p13 : (f 44).toInt ≤ (f 4).toInt) (p14 : 0 ≤ (f 48).toInt) (p15 : (f 48).toInt ≤ (f 4).toInt) (p16 : 1 ≤ (f 53).toInt) (p17 : (f 53).toInt ≤ (f 4).toInt + 1) (p18 : 0 ≤ (f 19).toInt) (p19 : (f 19).toInt ≤ 600) (p20 : 0 ≤ (f 6).toInt) (p21 : 0 ≤ (f 8).toInt) (p22 : 0 ≤ mg_p1 gs) (p23 : 0 ≤ mg_p2 gs) (p24 : 0 ≤ mg_p4 gs) (p25 : 0 ≤ (f 10).toInt) (p26 : (f 10).toInt ≤ mg_p3 gs) (p27 : 0 ≤ mj_n (g 16) (f 15).toNatClampNeg 3) (p28 : 2 ≤ (f 15).toInt) (p29 : 0 ≤ (f 20).toInt) (p30 : 1 ≤ (f 37).toInt) (p31 : 0 ≤ (f 32).toInt) (p32 : (f 32).toInt ≤ (f 5).toInt) (p33 : (f 5).toInt ≤ 48) (p34 : (f 37).toInt ≤ 2 * (f 5).toInt + 2) : am_E (am_PP sc) (d + 8) 180 0 [some (.ref 39), some (.int 32), some (.int on), some (.int tw), some (.int th)] [] S (am_N fun v S1 => ∃ (f' : Nat → Int32) (g' : Nat → Nat → Int32) (gs' : List mg_E) (bc' : List (List Nat)), v = none ∧ MS S0 S1 f' g' ∧ (mg_on f (100 * ((f 0).toInt - (f 4).toInt) + (1 + mg_p3 gs)) f' g' gs' bc' ∨ mg_off f f' g' bc')) := by
  have hbs := mg_basic hrest
  refine am_e1 (v := 32) hi_180_0 rfl ?_
  refine am_e0 hi_180_1 ?_
  refine am_e13f hi_180_3 (by decide) ?_
  refine am_e2 (v := 39) hi_180_6 rfl ?_
  refine am_e1 (v := 32) hi_180_7 rfl ?_
  refine am_e1 (v := on) hi_180_8 rfl ?_
  refine am_e1 (v := tw) hi_180_9 rfl ?_
  refine am_e32w (as := [.ref 39, .int 32, .int on, .int tw]) (la := [some (.ref 39), some (.int 32), some (.int on), some (.int tw)]) (rest := []) hi_180_10 (am_hd0 (M := 180) (by decide) 10) (Nat.le_of_ble_eq_true rfl) (Nat.le_of_ble_eq_true rfl) (show 4 ≤ am_P0.2.2.1 181 from by decide +kernel) rfl (am_recv_ok hS.fs) rfl rfl ?_
  refine am_e1 (v := 32) hi_181_0 rfl ?_
  refine am_e19 (t := 228) hi_181_1 (by decide) ?_
  refine am_e2 (v := 39) hi_181_228 rfl ?_
  refine am_e1 (v := on) hi_181_229 rfl ?_
  refine am_e1 (v := tw) hi_181_230 rfl ?_
  refine am_e32w (as := [.ref 39, .int on, .int tw]) (la := [some (.ref 39), some (.int on), some (.int tw), none, none]) (rest := []) hi_181_231 (am_hd0 (M := 181) (by decide) 231) (Nat.le_of_ble_eq_true rfl) (Nat.le_of_ble_eq_true rfl) (show 3 ≤ am_P0.2.2.1 215 from by decide +kernel) rfl (am_recv_ok hS.fs) rfl rfl ?_
  refine am_e2 (v := 39) hi_215_0 rfl ?_
  refine mm_20 (v := .int (f 19)) hS hi_215_1 rfl ?_
  refine am_e3 (ls' := [some (.ref 39), some (.int on), some (.int tw), some (.int (f 19)), none]) hi_215_4 (Nat.le_of_ble_eq_true rfl) rfl ?_
  refine am_e2 (v := 39) hi_215_5 rfl ?_
  refine am_e0 hi_215_6 ?_
  refine am_e32n (as := [.ref 39, .int 61]) (la := [some (.ref 39), some (.int 61)]) (rest := []) hi_215_8 (am_hd0 (M := 215) (by decide) 8) (Nat.le_of_ble_eq_true rfl) (Nat.le_of_ble_eq_true rfl) (show 2 ≤ am_P0.2.2.1 199 from by decide +kernel) rfl (am_recv_ok hS.fs) rfl rfl (ct_leave (d := (d + 2)) hS   (by show (0 : Int) ≤ (f 4).toInt; omega) (by show (f 0).toInt ≤ (16384 : Int); omega) (by show (0 : Int) ≤ (61 : Int); omega) (by show (0 : Int) ≤ (f 5).toInt; omega) (by show (f 5).toInt ≤ (48 : Int); omega) (by show (0 : Int) ≤ (f 6).toInt; omega)) ?_
  rintro v0 S1 (⟨z2, y3, hv4, hS5, h6, h7, h8⟩ | ⟨a10, b11, hv12, hS13, h14⟩)
  · subst hv4
    have h6_ : z2.toInt = (f 4).toInt + 1 := h6
    have h7_ : (f 4).toInt < (f 0).toInt := h7
    have h8_ : y3.toInt = (f 5).toInt - 1 := h8
    have hR16 : RJ (upd (upd f 4 z2) 5 y3) g gs bc [] 0 [] := RJ.at hR (by show (f 4).toInt ≤ z2.toInt; omega)
    show am_E _ _ _ _ [some (.ref 39), some (.int on), some (.int tw), some (.int (f 19)), none] [.int 1] _ _
    refine am_e12t hi_215_11 (by decide) ?_
    refine am_e2 (v := 39) hi_215_15 rfl ?_
    refine am_e32w (as := [.ref 39]) (la := [some (.ref 39)]) (rest := []) hi_215_16 (am_hd0 (M := 215) (by decide) 16) (Nat.le_of_ble_eq_true rfl) (Nat.le_of_ble_eq_true rfl) (show 1 ≤ am_P0.2.2.1 216 from by decide +kernel) rfl (am_recv_ok hS5.fs) rfl rfl ?_
    refine am_e2 (v := 39) hi_216_0 rfl ?_
    refine mm_20 (v := .ref 46) hS5 hi_216_1 rfl ?_
    refine am_e2 (v := 39) hi_216_4 rfl ?_
    refine mm_20 (v := .int (f 15)) hS5 hi_216_5 rfl ?_
    refine am_e0 hi_216_8 ?_
    obtain ⟨z17, hz17, tz17⟩ := am_subI (x := f 15) (y := 1) (m := (f 15).toInt) (n := (1 : Int)) rfl (by decide) (by omega) (by omega)
    refine am_e10 (z := z17) hi_216_9 hz17 ?_
    refine mm_25 hS5 ma_16 hi_216_10 (by decide) (by omega) (by omega) ?_
    show am_E _ _ _ _ [some (.ref 39)] [.int (g 16 z17.toNatClampNeg)] _ _
    refine am_e0 hi_216_11 ?_
    by_cases c18 : (g 16 z17.toNatClampNeg).toInt = (1 : Int)
    · refine am_e13t hi_216_12 (am_cT (m := (g 16 z17.toNatClampNeg).toInt) (n := (1 : Int)) rfl (by decide) c18) ?_
      refine am_e0 hi_216_30 ?_
      refine am_e18 hi_216_31 ?_
      refine am_e36 hi_216_35 (by decide) ?_
      show am_E _ _ _ _ [some (.ref 39), some (.int on), some (.int tw), some (.int (f 19)), none] [.int 1] _ _
      refine am_e3 (ls' := [some (.ref 39), some (.int on), some (.int tw), some (.int (f 19)), some (.int 1)]) hi_215_19 (Nat.le_of_ble_eq_true rfl) rfl ?_
      refine am_e1 (v := 1) hi_215_21 rfl ?_
      refine am_e12f hi_215_23 (by decide) ?_
      refine am_e2 (v := 39) hi_215_26 rfl ?_
      refine am_e32w (as := [.ref 39]) (la := [some (.ref 39), none]) (rest := []) hi_215_27 (am_hd0 (M := 215) (by decide) 27) (Nat.le_of_ble_eq_true rfl) (Nat.le_of_ble_eq_true rfl) (show 1 ≤ am_P0.2.2.1 217 from by decide +kernel) rfl (am_recv_ok hS5.fs) rfl rfl ?_
      refine am_e2 (v := 39) hi_217_0 rfl ?_
      refine mm_20 (v := .ref 47) hS5 hi_217_1 rfl ?_
      refine am_e2 (v := 39) hi_217_4 rfl ?_
      refine mm_20 (v := .int (f 15)) hS5 hi_217_5 rfl ?_
      refine am_e0 hi_217_8 ?_
      refine am_e10 (z := z17) hi_217_9 hz17 ?_
      refine mm_25 hS5 ma_17 hi_217_10 (by decide) (by omega) (by omega) ?_
      show am_E _ _ _ _ [some (.ref 39), none] [.int (g 17 z17.toNatClampNeg)] _ _
      have r19 : (g 16 z17.toNatClampNeg).toInt = 1 ∨ (g 16 z17.toNatClampNeg).toInt = 2 → 0 ≤ (g 17 z17.toNatClampNeg).toInt ∧ (g 17 z17.toNatClampNeg).toInt < 65536 := RJ.vc hR16 z17.toNatClampNeg
      refine am_e3 (ls' := [some (.ref 39), some (.int (g 17 z17.toNatClampNeg))]) hi_217_11 (Nat.le_of_ble_eq_true rfl) rfl ?_
      refine am_e2 (v := 39) hi_217_12 rfl ?_
      refine mm_20 (v := .ref 91) hS5 hi_217_13 rfl ?_
      refine am_e1 (v := g 17 z17.toNatClampNeg) hi_217_16 rfl ?_
      refine am_e2 (v := 39) hi_217_17 rfl ?_
      refine mm_20 (v := .ref 46) hS5 hi_217_18 rfl ?_
      refine am_e2 (v := 39) hi_217_21 rfl ?_
      refine mm_20 (v := .int (f 15)) hS5 hi_217_22 rfl ?_
      refine am_e0 hi_217_25 ?_
      refine am_e10 (z := z17) hi_217_26 hz17 ?_
      refine mm_25 hS5 ma_16 hi_217_27 (by decide) (by omega) (by omega) ?_
      show am_E _ _ _ _ [some (.ref 39), some (.int (g 17 z17.toNatClampNeg))] [.int (g 16 z17.toNatClampNeg), .int (g 17 z17.toNatClampNeg), .ref 91] _ _
      refine am_e0 hi_217_28 ?_
      refine am_e13f hi_217_29 (am_cF (m := (g 16 z17.toNatClampNeg).toInt) (n := (1 : Int)) rfl (by decide) (by simp only [am_cI]; omega)) ?_
      refine am_e2 (v := 39) hi_217_32 rfl ?_
      refine mm_20 (v := .ref 91) hS5 hi_217_33 rfl ?_
      refine am_e1 (v := g 17 z17.toNatClampNeg) hi_217_36 rfl ?_
      refine mm_25 hS5 ma_72 hi_217_37 (by decide) (by omega) (by omega) ?_
      show am_E _ _ _ _ [some (.ref 39), some (.int (g 17 z17.toNatClampNeg))] [.int (g 72 (g 17 z17.toNatClampNeg).toNatClampNeg), .int (g 17 z17.toNatClampNeg), .ref 91] _ _
      refine am_e0 hi_217_38 ?_
      obtain ⟨z20, hz20⟩ : ∃ q__, am_bin 3 (g 72 (g 17 z17.toNatClampNeg).toNatClampNeg) 1 = q__ := ⟨_, rfl⟩
      refine am_e10 (z := z20) hi_217_39 hz20 ?_
      refine am_e0 hi_217_40 ?_
      obtain ⟨z21, hz21⟩ : ∃ q__, am_bin 4 z20 4 = q__ := ⟨_, rfl⟩
      refine am_e10 (z := z21) hi_217_41 hz21 ?_
      refine am_e18 hi_217_42 ?_
      refine mm_26 hS5 ma_72 hi_217_46 (by decide) (by omega) (by omega) (fun h => nomatch h) ?_
      intro S22 hS23
      refine am_e2 (v := 39) hi_217_47 rfl ?_
      refine am_e7 hi_217_48 ?_
      refine mm_20 (v := .int (f 15)) hS23 hi_217_49 rfl ?_
      refine am_e0 hi_217_52 ?_
      refine am_e10 (z := z17) hi_217_53 hz17 ?_
      refine mm_21 (v := z17) hS23 hi_217_54 rfl (Nat.le_of_ble_eq_true rfl) ms_15 ?_
      intro S24 hS25
      have hp26 : mj_n (g 16) (f 15).toNatClampNeg 3 = mj_n (g 16) z17.toNatClampNeg 3 + if (g 16 z17.toNatClampNeg).toInt = 3 then 1 else 0 := mj_pop (by rw [cl_toNat, cl_toNat]; omega)
      have hp261 : mj_n (g 16) z17.toNatClampNeg 3 ≤ mj_n (g 16) (f 15).toNatClampNeg 3 := by rw [hp26]; split <;> omega
      have hp262 : (g 16 z17.toNatClampNeg).toInt = 3 → mj_n (g 16) z17.toNatClampNeg 3 + 1 ≤ mj_n (g 16) (f 15).toNatClampNeg 3 := fun q => by rw [hp26, if_pos q]; exact Int.le_refl _
      refine am_e35 hi_217_57 ?_
      show am_E _ _ _ _ [some (.ref 39), some (.int on), some (.int tw), some (.int (f 19)), some (.int 1)] [] _ _
      refine am_e18 hi_215_30 ?_
      refine am_e2 (v := 39) hi_215_37 rfl ?_
      refine am_e1 (v := 1) hi_215_38 rfl ?_
      refine am_e12f hi_215_40 (by decide) ?_
      refine am_e1 (v := f 19) hi_215_43 rfl ?_
      refine am_e0 hi_215_44 ?_
      obtain ⟨z27, hz27, tz27⟩ := am_subI (x := f 19) (y := 1) (m := (f 19).toInt) (n := (1 : Int)) rfl (by decide) (by omega) (by omega)
      refine am_e10 (z := z27) hi_215_45 hz27 ?_
      refine am_e1 (v := on) hi_215_46 rfl ?_
      obtain ⟨z28, hz28⟩ : ∃ q__, am_bin 0 z27 on = q__ := ⟨_, rfl⟩
      refine am_e10 (z := z28) hi_215_47 hz28 ?_
      refine am_e18 hi_215_48 ?_
      refine am_e1 (v := 1) hi_215_54 rfl ?_
      refine am_e12f hi_215_56 (by decide) ?_
      refine am_e0 hi_215_59 ?_
      refine am_e18 hi_215_60 ?_
      refine am_e1 (v := tw) hi_215_64 rfl ?_
      refine am_e32w (as := [.ref 39, .int z28, .int 1, .int tw]) (la := [some (.ref 39), some (.int z28), some (.int 1), some (.int tw), none]) (rest := []) hi_215_65 (am_hd0 (M := 215) (by decide) 65) (Nat.le_of_ble_eq_true rfl) (Nat.le_of_ble_eq_true rfl) (show 4 ≤ am_P0.2.2.1 213 from by decide +kernel) rfl (am_recv_ok hS25.fs) rfl rfl ?_
      refine am_e2 (v := 39) hi_213_0 rfl ?_
      refine am_e0 hi_213_1 ?_
      refine am_e1 (v := z28) hi_213_3 rfl ?_
      refine am_e1 (v := 1) hi_213_4 rfl ?_
      refine am_e0 hi_213_5 ?_
      refine am_e10 (z := 3) hi_213_6 (by decide) ?_
      refine am_e1 (v := tw) hi_213_7 rfl ?_
      refine am_e32n (as := [.ref 39, .int 13, .int z28, .int 3, .int tw]) (la := [some (.ref 39), some (.int 13), some (.int z28), some (.int 3), some (.int tw)]) (rest := []) hi_213_8 (am_hd0 (M := 213) (by decide) 8) (Nat.le_of_ble_eq_true rfl) (Nat.le_of_ble_eq_true rfl) (show 5 ≤ am_P0.2.2.1 189 from by decide +kernel) rfl (am_recv_ok hS25.fs) rfl rfl (ct_put (d := (d + 4)) hS25 hR16  (by show (0 : Int) ≤ (f 32).toInt; omega) (by show (f 32).toInt ≤ (63 : Int); omega) (by show (f 53).toInt ≤ (4096 : Int); omega) (by show (0 : Int) ≤ (f 68).toInt; omega) (by show (f 68).toInt ≤ (65534 : Int); omega)) ?_
      rintro v29 S30 (⟨z31, r32, g'33, hv34, hS35, hR39, h36, h37, h38⟩)
      subst hv34
      have h36_ : z31.toInt = (f 68).toInt + 1 := h36
      have h37_ : r32.toInt = (f 68).toInt := h37
      have h38_ : ∀ j, j ∉ [60, 69, 70, 71, 72, 73] → g'33 j = (upg g 72 (g 17 z17.toNatClampNeg).toNatClampNeg z21) j := h38
      have hR39_ : RJ (upd (upd (upd (upd f 4 z2) 5 y3) 15 z17) 68 z31) g'33 gs bc [] 0 ((f 68).toNatClampNeg :: []) := hR39
      show am_E _ _ _ _ [some (.ref 39), some (.int z28), some (.int 1), some (.int tw), none] [.int r32] _ _
      refine am_e3 (ls' := [some (.ref 39), some (.int z28), some (.int 1), some (.int tw), some (.int r32)]) hi_213_11 (Nat.le_of_ble_eq_true rfl) rfl ?_
      refine am_e2 (v := 39) hi_213_13 rfl ?_
      refine am_e7 hi_213_14 ?_
      refine mm_20 (v := .int z17) hS35 hi_213_15 rfl ?_
      refine am_e0 hi_213_18 ?_
      obtain ⟨z40, hz40, tz40⟩ := am_subI (x := z17) (y := 1) (m := z17.toInt) (n := (1 : Int)) rfl (by decide) (by omega) (by omega)
      refine am_e10 (z := z40) hi_213_19 hz40 ?_
      refine mm_21 (v := z40) hS35 hi_213_20 rfl (Nat.le_of_ble_eq_true rfl) ms_15 ?_
      intro S41 hS42
      replace hS42 : MS S0 S41 (upd (upd (upd (upd f 4 z2) 5 y3) 15 z40) 68 z31) g'33 := hS42
      have hp43 : mj_n (g 16) z17.toNatClampNeg 3 = mj_n (g 16) z40.toNatClampNeg 3 + if (g 16 z40.toNatClampNeg).toInt = 3 then 1 else 0 := mj_pop (by rw [cl_toNat, cl_toNat]; omega)
      have hp431 : mj_n (g 16) z40.toNatClampNeg 3 ≤ mj_n (g 16) z17.toNatClampNeg 3 := by rw [hp43]; split <;> omega
      have hp432 : (g 16 z40.toNatClampNeg).toInt = 3 → mj_n (g 16) z40.toNatClampNeg 3 + 1 ≤ mj_n (g 16) z17.toNatClampNeg 3 := fun q => by rw [hp43, if_pos q]; exact Int.le_refl _
      refine am_e2 (v := 39) hi_213_23 rfl ?_
      refine am_e0 hi_213_24 ?_
      refine am_e1 (v := r32) hi_213_25 rfl ?_
      refine am_e1 (v := tw) hi_213_27 rfl ?_
      refine am_e32n (as := [.ref 39, .int 1, .int r32, .int tw]) (la := [some (.ref 39), some (.int 1), some (.int r32), some (.int tw)]) (rest := []) hi_213_28 (am_hd0 (M := 213) (by decide) 28) (Nat.le_of_ble_eq_true rfl) (Nat.le_of_ble_eq_true rfl) (show 4 ≤ am_P0.2.2.1 190 from by decide +kernel) rfl (am_recv_ok hS42.fs) rfl rfl (ct_value (d := (d + 4)) hS42 hR39_ (fun h => absurd h (by decide)) (fun _ => ⟨by omega, by omega⟩) (by show (0 : Int) ≤ z40.toInt; omega) (by show z40.toInt ≤ (32767 : Int); omega)) ?_
      rintro v44 S45 (⟨z46, g'47, hv48, hS49, hR54, h50, h51, h52, h53⟩)
      subst hv48
      have h50_ : z46.toInt = z40.toInt + 1 := h50
      have h51_ : ∀ j, j ∉ [16, 17, 18] → g'47 j = g'33 j := h51
      have h52_ : mj_n (g'47 16) z46.toNatClampNeg 3 ≤ mj_n (g 16) z40.toNatClampNeg 3 + 1 := by rw [show g'33 16 = g 16 from h38_ 16 (by decide)] at h52; exact h52
      have h53_ : (1 : Int) = 3 ∨ mj_n (g'47 16) z46.toNatClampNeg 3 ≤ mj_n (g 16) z40.toNatClampNeg 3 := by rw [show g'33 16 = g 16 from h38_ 16 (by decide)] at h53; exact h53
      replace hS49 : MS S0 S45 (upd (upd (upd (upd f 4 z2) 5 y3) 15 z46) 68 z31) g'47 := hS49
      have hR54_ : RJ (upd (upd (upd (upd f 4 z2) 5 y3) 15 z46) 68 z31) g'47 gs bc [] 0 ((f 68).toNatClampNeg :: []) := hR54
      show am_E _ _ _ _ [some (.ref 39), some (.int z28), some (.int 1), some (.int tw), some (.int r32)] [] _ _
      refine am_e35 hi_213_31 ?_
      show am_E _ _ _ _ [some (.ref 39), some (.int on), some (.int tw), some (.int (f 19)), some (.int 1)] [] _ _
      refine am_e35 hi_215_68 ?_
      show am_E _ _ _ _ [some (.ref 39), some (.int 32), some (.int on), some (.int tw)] [] _ _
      refine am_e18 hi_181_234 ?_
      refine am_e35 hi_181_397 ?_
      show am_E _ _ _ _ [some (.ref 39), some (.int 32), some (.int on), some (.int tw), some (.int th)] [] _ _
      refine am_e35 hi_180_13 ?_
      have q1 : mg_p1 gs = mg_p1 gs := rfl
      have q2 : mg_p2 gs = mg_p2 gs := rfl
      have q3 : mg_p3 gs = mg_p3 gs := rfl
      have q4 : mg_p4 gs = mg_p4 gs := rfl
      refine ⟨_, _, _, bc, rfl, hS49, Or.inl ⟨⟨(RJ.fewer (pj' := []) hR54_ (fun _ h => nomatch h)), ?_, ?_⟩, rfl, ?_⟩⟩
      · exact (mg_cast (mg_good_ext _ _ _ _ _ _ (fun i _ => by show g'47 34 i = g 34 i; rw [show g'47 34 = g'33 34 from h51_ 34 (by decide), show g'33 34 = g 34 from h38_ 34 (by decide)]) (fun i _ => by show g'47 38 i = g 38 i; rw [show g'47 38 = g'33 38 from h51_ 38 (by decide), show g'33 38 = g 38 from h38_ 38 (by decide)]) (fun i _ => by show g'47 23 i = g 23 i; rw [show g'47 23 = g'33 23 from h51_ 23 (by decide), show g'33 23 = g 23 from h38_ 23 (by decide)]) hrest) (by show (f 15).toInt + -1 = z46.toInt; omega) (by show (f 20).toInt = (f 20).toInt; omega) (by show (f 37).toInt + 0 = (f 37).toInt; omega) (by show (f 32).toInt + 0 = (f 32).toInt; omega) (by show (f 5).toInt + -1 = y3.toInt; omega) : mg_good (g'47 34) (g'47 38) (g'47 23) gs (z46.toInt) ((f 20).toInt) ((f 37).toInt) ((f 32).toInt) (y3.toInt))
      · exact ⟨(by show 0 ≤ z2.toInt; omega), (by show z2.toInt ≤ (f 0).toInt; omega), (by show (f 0).toInt ≤ 512; omega), (by show 0 ≤ (f 24).toInt; omega), (by show (f 24).toInt + (f 20).toInt + mg_p1 gs ≤ 4 * z2.toInt; omega), (by show (f 20).toInt ≤ z2.toInt; omega), (by show z46.toInt + mg_p2 gs ≤ z2.toInt; omega), (by show mg_p3 gs ≤ 20 * z2.toInt + 20; omega), (by show 0 ≤ z31.toInt; omega), (by show z31.toInt + 3 * (f 20).toInt + mg_p4 gs ≤ 60 * z2.toInt + 60; omega), (by show 0 ≤ (f 62).toInt; omega), (by show (f 62).toInt + 64 * mj_n (g'47 16) z46.toNatClampNeg 3 ≤ 64 * z2.toInt; omega), (by show 0 ≤ (f 44).toInt; omega), (by show (f 44).toInt ≤ z2.toInt; omega), (by show 0 ≤ (f 48).toInt; omega), (by show (f 48).toInt ≤ z2.toInt; omega), (by show 1 ≤ (f 53).toInt; omega), (by show (f 53).toInt ≤ z2.toInt + 1; omega), (by show 0 ≤ (f 19).toInt; omega), (by show (f 19).toInt ≤ 600; omega), (by show 0 ≤ (f 6).toInt; omega), (by show 0 ≤ (f 8).toInt; omega)⟩
      · show 100 * ((f 0).toInt - z2.toInt) + mg_p3 gs < 100 * ((f 0).toInt - (f 4).toInt) + (1 + mg_p3 gs); omega
    · refine am_e13f hi_216_12 (am_cF (m := (g 16 z17.toNatClampNeg).toInt) (n := (1 : Int)) rfl (by decide) c18) ?_
      refine am_e2 (v := 39) hi_216_15 rfl ?_
      refine mm_20 (v := .ref 46) hS5 hi_216_16 rfl ?_
      refine am_e2 (v := 39) hi_216_19 rfl ?_
      refine mm_20 (v := .int (f 15)) hS5 hi_216_20 rfl ?_
      refine am_e0 hi_216_23 ?_
      refine am_e10 (z := z17) hi_216_24 hz17 ?_
      refine mm_25 hS5 ma_16 hi_216_25 (by decide) (by omega) (by omega) ?_
      show am_E _ _ _ _ [some (.ref 39)] [.int (g 16 z17.toNatClampNeg)] _ _
      refine am_e0 hi_216_26 ?_
      by_cases c55 : ¬ (g 16 z17.toNatClampNeg).toInt = (2 : Int)
      · refine am_e13t hi_216_27 (am_cT (m := (g 16 z17.toNatClampNeg).toInt) (n := (2 : Int)) rfl (by decide) c55) ?_
        refine am_e0 hi_216_34 ?_
        refine am_e36 hi_216_35 (by decide) ?_
        show am_E _ _ _ _ [some (.ref 39), some (.int on), some (.int tw), some (.int (f 19)), none] [.int 0] _ _
        refine am_e3 (ls' := [some (.ref 39), some (.int on), some (.int tw), some (.int (f 19)), some (.int 0)]) hi_215_19 (Nat.le_of_ble_eq_true rfl) rfl ?_
        refine am_e1 (v := 0) hi_215_21 rfl ?_
        refine am_e12t hi_215_23 (by decide) ?_
        refine am_e2 (v := 39) hi_215_33 rfl ?_
        refine am_e32w (as := [.ref 39]) (la := [some (.ref 39)]) (rest := []) hi_215_34 (am_hd0 (M := 215) (by decide) 34) (Nat.le_of_ble_eq_true rfl) (Nat.le_of_ble_eq_true rfl) (show 1 ≤ am_P0.2.2.1 209 from by decide +kernel) rfl (am_recv_ok hS5.fs) rfl rfl ?_
        refine am_e2 (v := 39) hi_209_0 rfl ?_
        refine am_e32n (as := [.ref 39]) (la := [some (.ref 39), none, none, none]) (rest := []) hi_209_1 (am_hd0 (M := 209) (by decide) 1) (Nat.le_of_ble_eq_true rfl) (Nat.le_of_ble_eq_true rfl) (show 1 ≤ am_P0.2.2.1 204 from by decide +kernel) rfl (am_recv_ok hS5.fs) rfl rfl (ct_load (d := (d + 2)) hS5 hR16  (by show (0 : Int) ≤ (f 32).toInt; omega) (by show (f 32).toInt ≤ (63 : Int); omega) (by show (f 53).toInt ≤ (4096 : Int); omega) (by show (0 : Int) ≤ (f 68).toInt; omega) (by show (f 68).toInt ≤ (65534 : Int); omega) (by show (1 : Int) ≤ (f 15).toInt; omega) (by show (f 15).toInt ≤ (32767 : Int); omega) (by show (0 : Int) ≤ (f 24).toInt; omega) (by show (f 24).toInt ≤ (16384 : Int); omega) (by show (0 : Int) ≤ (f 62).toInt; omega) (by show (f 62).toInt ≤ (65000 : Int); omega)) ?_
        rintro v56 S57 (⟨o58, s59, m60, g'61, hv62, hS63, hR70, h64, h65, h66, h67, h68, h69⟩)
        subst hv62
        have h64_ : (f 62).toInt ≤ o58.toInt := h64
        have h65_ : o58.toInt ≤ (f 62).toInt + 64 := h65
        have h66_ : (f 68).toInt ≤ s59.toInt := h66
        have h67_ : s59.toInt ≤ (f 68).toInt + 1 := h67
        have h68_ : o58.toInt + 64 * mj_n (g'61 16) (f 15).toNatClampNeg 3 ≤ (f 62).toInt + 64 * mj_n (g 16) (f 15).toNatClampNeg 3 := h68
        have h69_ : ∀ j, j ∉ [16, 60, 63, 64, 65, 66, 67, 69, 70, 71, 72, 73] → g'61 j = g j := h69
        have hR70_ : RJ (upd (upd (upd (upd (upd f 4 z2) 5 y3) 62 o58) 68 s59) 75 m60) g'61 gs bc [] 0 [] := hR70
        show am_E _ _ _ _ [some (.ref 39)] [] _ _
        refine am_e2 (v := 39) hi_209_4 rfl ?_
        refine am_e7 hi_209_5 ?_
        refine mm_20 (v := .int (f 15)) hS63 hi_209_6 rfl ?_
        refine am_e0 hi_209_9 ?_
        refine am_e10 (z := z17) hi_209_10 hz17 ?_
        refine mm_21 (v := z17) hS63 hi_209_11 rfl (Nat.le_of_ble_eq_true rfl) ms_15 ?_
        intro S71 hS72
        replace hS72 : MS S0 S71 (upd (upd (upd (upd (upd (upd f 4 z2) 5 y3) 15 z17) 62 o58) 68 s59) 75 m60) g'61 := hS72
        have hp73 : mj_n (g'61 16) (f 15).toNatClampNeg 3 = mj_n (g'61 16) z17.toNatClampNeg 3 + if (g'61 16 z17.toNatClampNeg).toInt = 3 then 1 else 0 := mj_pop (by rw [cl_toNat, cl_toNat]; omega)
        have hp731 : mj_n (g'61 16) z17.toNatClampNeg 3 ≤ mj_n (g'61 16) (f 15).toNatClampNeg 3 := by rw [hp73]; split <;> omega
        have hp732 : (g'61 16 z17.toNatClampNeg).toInt = 3 → mj_n (g'61 16) z17.toNatClampNeg 3 + 1 ≤ mj_n (g'61 16) (f 15).toNatClampNeg 3 := fun q => by rw [hp73, if_pos q]; exact Int.le_refl _
        refine am_e35 hi_209_14 ?_
        show am_E _ _ _ _ [some (.ref 39), some (.int on), some (.int tw), some (.int (f 19)), some (.int 0)] [] _ _
        refine am_e2 (v := 39) hi_215_37 rfl ?_
        refine am_e1 (v := 0) hi_215_38 rfl ?_
        refine am_e12t hi_215_40 (by decide) ?_
        refine am_e1 (v := f 19) hi_215_51 rfl ?_
        refine am_e1 (v := on) hi_215_52 rfl ?_
        obtain ⟨z74, hz74⟩ : ∃ q__, am_bin 0 (f 19) on = q__ := ⟨_, rfl⟩
        refine am_e10 (z := z74) hi_215_53 hz74 ?_
        refine am_e1 (v := 0) hi_215_54 rfl ?_
        refine am_e12t hi_215_56 (by decide) ?_
        refine am_e0 hi_215_63 ?_
        refine am_e1 (v := tw) hi_215_64 rfl ?_
        refine am_e32w (as := [.ref 39, .int z74, .int 0, .int tw]) (la := [some (.ref 39), some (.int z74), some (.int 0), some (.int tw), none]) (rest := []) hi_215_65 (am_hd0 (M := 215) (by decide) 65) (Nat.le_of_ble_eq_true rfl) (Nat.le_of_ble_eq_true rfl) (show 4 ≤ am_P0.2.2.1 213 from by decide +kernel) rfl (am_recv_ok hS72.fs) rfl rfl ?_
        refine am_e2 (v := 39) hi_213_0 rfl ?_
        refine am_e0 hi_213_1 ?_
        refine am_e1 (v := z74) hi_213_3 rfl ?_
        refine am_e1 (v := 0) hi_213_4 rfl ?_
        refine am_e0 hi_213_5 ?_
        refine am_e10 (z := 2) hi_213_6 (by decide) ?_
        refine am_e1 (v := tw) hi_213_7 rfl ?_
        refine am_e32n (as := [.ref 39, .int 13, .int z74, .int 2, .int tw]) (la := [some (.ref 39), some (.int 13), some (.int z74), some (.int 2), some (.int tw)]) (rest := []) hi_213_8 (am_hd0 (M := 213) (by decide) 8) (Nat.le_of_ble_eq_true rfl) (Nat.le_of_ble_eq_true rfl) (show 5 ≤ am_P0.2.2.1 189 from by decide +kernel) rfl (am_recv_ok hS72.fs) rfl rfl (ct_put (d := (d + 4)) hS72 hR70_  (by show (0 : Int) ≤ (f 32).toInt; omega) (by show (f 32).toInt ≤ (63 : Int); omega) (by show (f 53).toInt ≤ (4096 : Int); omega) (by show (0 : Int) ≤ s59.toInt; omega) (by show s59.toInt ≤ (65534 : Int); omega)) ?_
        rintro v75 S76 (⟨z77, r78, g'79, hv80, hS81, hR85, h82, h83, h84⟩)
        subst hv80
        have h82_ : z77.toInt = s59.toInt + 1 := h82
        have h83_ : r78.toInt = s59.toInt := h83
        have h84_ : ∀ j, j ∉ [60, 69, 70, 71, 72, 73] → g'79 j = g'61 j := h84
        replace hS81 : MS S0 S76 (upd (upd (upd (upd (upd (upd f 4 z2) 5 y3) 15 z17) 62 o58) 68 z77) 75 m60) g'79 := hS81
        have hR85_ : RJ (upd (upd (upd (upd (upd (upd f 4 z2) 5 y3) 15 z17) 62 o58) 68 z77) 75 m60) g'79 gs bc [] 0 (s59.toNatClampNeg :: []) := hR85
        show am_E _ _ _ _ [some (.ref 39), some (.int z74), some (.int 0), some (.int tw), none] [.int r78] _ _
        refine am_e3 (ls' := [some (.ref 39), some (.int z74), some (.int 0), some (.int tw), some (.int r78)]) hi_213_11 (Nat.le_of_ble_eq_true rfl) rfl ?_
        refine am_e2 (v := 39) hi_213_13 rfl ?_
        refine am_e7 hi_213_14 ?_
        refine mm_20 (v := .int z17) hS81 hi_213_15 rfl ?_
        refine am_e0 hi_213_18 ?_
        obtain ⟨z86, hz86, tz86⟩ := am_subI (x := z17) (y := 1) (m := z17.toInt) (n := (1 : Int)) rfl (by decide) (by omega) (by omega)
        refine am_e10 (z := z86) hi_213_19 hz86 ?_
        refine mm_21 (v := z86) hS81 hi_213_20 rfl (Nat.le_of_ble_eq_true rfl) ms_15 ?_
        intro S87 hS88
        replace hS88 : MS S0 S87 (upd (upd (upd (upd (upd (upd f 4 z2) 5 y3) 15 z86) 62 o58) 68 z77) 75 m60) g'79 := hS88
        have hp89 : mj_n (g'61 16) z17.toNatClampNeg 3 = mj_n (g'61 16) z86.toNatClampNeg 3 + if (g'61 16 z86.toNatClampNeg).toInt = 3 then 1 else 0 := mj_pop (by rw [cl_toNat, cl_toNat]; omega)
        have hp891 : mj_n (g'61 16) z86.toNatClampNeg 3 ≤ mj_n (g'61 16) z17.toNatClampNeg 3 := by rw [hp89]; split <;> omega
        have hp892 : (g'61 16 z86.toNatClampNeg).toInt = 3 → mj_n (g'61 16) z86.toNatClampNeg 3 + 1 ≤ mj_n (g'61 16) z17.toNatClampNeg 3 := fun q => by rw [hp89, if_pos q]; exact Int.le_refl _
        refine am_e2 (v := 39) hi_213_23 rfl ?_
        refine am_e0 hi_213_24 ?_
        refine am_e1 (v := r78) hi_213_25 rfl ?_
        refine am_e1 (v := tw) hi_213_27 rfl ?_
        refine am_e32n (as := [.ref 39, .int 1, .int r78, .int tw]) (la := [some (.ref 39), some (.int 1), some (.int r78), some (.int tw)]) (rest := []) hi_213_28 (am_hd0 (M := 213) (by decide) 28) (Nat.le_of_ble_eq_true rfl) (Nat.le_of_ble_eq_true rfl) (show 4 ≤ am_P0.2.2.1 190 from by decide +kernel) rfl (am_recv_ok hS88.fs) rfl rfl (ct_value (d := (d + 4)) hS88 hR85_ (fun h => absurd h (by decide)) (fun _ => ⟨by omega, by omega⟩) (by show (0 : Int) ≤ z86.toInt; omega) (by show z86.toInt ≤ (32767 : Int); omega)) ?_
        rintro v90 S91 (⟨z92, g'93, hv94, hS95, hR100, h96, h97, h98, h99⟩)
        subst hv94
        have h96_ : z92.toInt = z86.toInt + 1 := h96
        have h97_ : ∀ j, j ∉ [16, 17, 18] → g'93 j = g'79 j := h97
        have h98_ : mj_n (g'93 16) z92.toNatClampNeg 3 ≤ mj_n (g'61 16) z86.toNatClampNeg 3 + 1 := by rw [show g'79 16 = g'61 16 from h84_ 16 (by decide)] at h98; exact h98
        have h99_ : (1 : Int) = 3 ∨ mj_n (g'93 16) z92.toNatClampNeg 3 ≤ mj_n (g'61 16) z86.toNatClampNeg 3 := by rw [show g'79 16 = g'61 16 from h84_ 16 (by decide)] at h99; exact h99
        replace hS95 : MS S0 S91 (upd (upd (upd (upd (upd (upd f 4 z2) 5 y3) 15 z92) 62 o58) 68 z77) 75 m60) g'93 := hS95
        have hR100_ : RJ (upd (upd (upd (upd (upd (upd f 4 z2) 5 y3) 15 z92) 62 o58) 68 z77) 75 m60) g'93 gs bc [] 0 (s59.toNatClampNeg :: []) := hR100
        show am_E _ _ _ _ [some (.ref 39), some (.int z74), some (.int 0), some (.int tw), some (.int r78)] [] _ _
        refine am_e35 hi_213_31 ?_
        show am_E _ _ _ _ [some (.ref 39), some (.int on), some (.int tw), some (.int (f 19)), some (.int 0)] [] _ _
        refine am_e35 hi_215_68 ?_
        show am_E _ _ _ _ [some (.ref 39), some (.int 32), some (.int on), some (.int tw)] [] _ _
        refine am_e18 hi_181_234 ?_
        refine am_e35 hi_181_397 ?_
        show am_E _ _ _ _ [some (.ref 39), some (.int 32), some (.int on), some (.int tw), some (.int th)] [] _ _
        refine am_e35 hi_180_13 ?_
        have q1 : mg_p1 gs = mg_p1 gs := rfl
        have q2 : mg_p2 gs = mg_p2 gs := rfl
        have q3 : mg_p3 gs = mg_p3 gs := rfl
        have q4 : mg_p4 gs = mg_p4 gs := rfl
        refine ⟨_, _, _, bc, rfl, hS95, Or.inl ⟨⟨(RJ.fewer (pj' := []) hR100_ (fun _ h => nomatch h)), ?_, ?_⟩, rfl, ?_⟩⟩
        · exact (mg_cast (mg_good_ext _ _ _ _ _ _ (fun i _ => by show g'93 34 i = g 34 i; rw [show g'93 34 = g'79 34 from h97_ 34 (by decide), show g'79 34 = g'61 34 from h84_ 34 (by decide), show g'61 34 = g 34 from h69_ 34 (by decide)]) (fun i _ => by show g'93 38 i = g 38 i; rw [show g'93 38 = g'79 38 from h97_ 38 (by decide), show g'79 38 = g'61 38 from h84_ 38 (by decide), show g'61 38 = g 38 from h69_ 38 (by decide)]) (fun i _ => by show g'93 23 i = g 23 i; rw [show g'93 23 = g'79 23 from h97_ 23 (by decide), show g'79 23 = g'61 23 from h84_ 23 (by decide), show g'61 23 = g 23 from h69_ 23 (by decide)]) hrest) (by show (f 15).toInt + -1 = z92.toInt; omega) (by show (f 20).toInt = (f 20).toInt; omega) (by show (f 37).toInt + 0 = (f 37).toInt; omega) (by show (f 32).toInt + 0 = (f 32).toInt; omega) (by show (f 5).toInt + -1 = y3.toInt; omega) : mg_good (g'93 34) (g'93 38) (g'93 23) gs (z92.toInt) ((f 20).toInt) ((f 37).toInt) ((f 32).toInt) (y3.toInt))
        · exact ⟨(by show 0 ≤ z2.toInt; omega), (by show z2.toInt ≤ (f 0).toInt; omega), (by show (f 0).toInt ≤ 512; omega), (by show 0 ≤ (f 24).toInt; omega), (by show (f 24).toInt + (f 20).toInt + mg_p1 gs ≤ 4 * z2.toInt; omega), (by show (f 20).toInt ≤ z2.toInt; omega), (by show z92.toInt + mg_p2 gs ≤ z2.toInt; omega), (by show mg_p3 gs ≤ 20 * z2.toInt + 20; omega), (by show 0 ≤ z77.toInt; omega), (by show z77.toInt + 3 * (f 20).toInt + mg_p4 gs ≤ 60 * z2.toInt + 60; omega), (by show 0 ≤ o58.toInt; omega), (by show o58.toInt + 64 * mj_n (g'93 16) z92.toNatClampNeg 3 ≤ 64 * z2.toInt; omega), (by show 0 ≤ (f 44).toInt; omega), (by show (f 44).toInt ≤ z2.toInt; omega), (by show 0 ≤ (f 48).toInt; omega), (by show (f 48).toInt ≤ z2.toInt; omega), (by show 1 ≤ (f 53).toInt; omega), (by show (f 53).toInt ≤ z2.toInt + 1; omega), (by show 0 ≤ (f 19).toInt; omega), (by show (f 19).toInt ≤ 600; omega), (by show 0 ≤ (f 6).toInt; omega), (by show 0 ≤ (f 8).toInt; omega)⟩
        · show 100 * ((f 0).toInt - z2.toInt) + mg_p3 gs < 100 * ((f 0).toInt - (f 4).toInt) + (1 + mg_p3 gs); omega
      · refine am_e13f hi_216_27 (am_cF (m := (g 16 z17.toNatClampNeg).toInt) (n := (2 : Int)) rfl (by decide) c55) ?_
        refine am_e0 hi_216_30 ?_
        refine am_e18 hi_216_31 ?_
        refine am_e36 hi_216_35 (by decide) ?_
        show am_E _ _ _ _ [some (.ref 39), some (.int on), some (.int tw), some (.int (f 19)), none] [.int 1] _ _
        refine am_e3 (ls' := [some (.ref 39), some (.int on), some (.int tw), some (.int (f 19)), some (.int 1)]) hi_215_19 (Nat.le_of_ble_eq_true rfl) rfl ?_
        refine am_e1 (v := 1) hi_215_21 rfl ?_
        refine am_e12f hi_215_23 (by decide) ?_
        refine am_e2 (v := 39) hi_215_26 rfl ?_
        refine am_e32w (as := [.ref 39]) (la := [some (.ref 39), none]) (rest := []) hi_215_27 (am_hd0 (M := 215) (by decide) 27) (Nat.le_of_ble_eq_true rfl) (Nat.le_of_ble_eq_true rfl) (show 1 ≤ am_P0.2.2.1 217 from by decide +kernel) rfl (am_recv_ok hS5.fs) rfl rfl ?_
        refine am_e2 (v := 39) hi_217_0 rfl ?_
        refine mm_20 (v := .ref 47) hS5 hi_217_1 rfl ?_
        refine am_e2 (v := 39) hi_217_4 rfl ?_
        refine mm_20 (v := .int (f 15)) hS5 hi_217_5 rfl ?_
        refine am_e0 hi_217_8 ?_
        refine am_e10 (z := z17) hi_217_9 hz17 ?_
        refine mm_25 hS5 ma_17 hi_217_10 (by decide) (by omega) (by omega) ?_
        show am_E _ _ _ _ [some (.ref 39), none] [.int (g 17 z17.toNatClampNeg)] _ _
        have r101 : (g 16 z17.toNatClampNeg).toInt = 1 ∨ (g 16 z17.toNatClampNeg).toInt = 2 → 0 ≤ (g 17 z17.toNatClampNeg).toInt ∧ (g 17 z17.toNatClampNeg).toInt < 65536 := RJ.vc hR16 z17.toNatClampNeg
        refine am_e3 (ls' := [some (.ref 39), some (.int (g 17 z17.toNatClampNeg))]) hi_217_11 (Nat.le_of_ble_eq_true rfl) rfl ?_
        refine am_e2 (v := 39) hi_217_12 rfl ?_
        refine mm_20 (v := .ref 91) hS5 hi_217_13 rfl ?_
        refine am_e1 (v := g 17 z17.toNatClampNeg) hi_217_16 rfl ?_
        refine am_e2 (v := 39) hi_217_17 rfl ?_
        refine mm_20 (v := .ref 46) hS5 hi_217_18 rfl ?_
        refine am_e2 (v := 39) hi_217_21 rfl ?_
        refine mm_20 (v := .int (f 15)) hS5 hi_217_22 rfl ?_
        refine am_e0 hi_217_25 ?_
        refine am_e10 (z := z17) hi_217_26 hz17 ?_
        refine mm_25 hS5 ma_16 hi_217_27 (by decide) (by omega) (by omega) ?_
        show am_E _ _ _ _ [some (.ref 39), some (.int (g 17 z17.toNatClampNeg))] [.int (g 16 z17.toNatClampNeg), .int (g 17 z17.toNatClampNeg), .ref 91] _ _
        refine am_e0 hi_217_28 ?_
        refine am_e13t hi_217_29 (am_cT (m := (g 16 z17.toNatClampNeg).toInt) (n := (1 : Int)) rfl (by decide) (by simp only [am_cI]; omega)) ?_
        refine am_e0 hi_217_45 ?_
        refine mm_26 hS5 ma_72 hi_217_46 (by decide) (by omega) (by omega) (fun h => nomatch h) ?_
        intro S102 hS103
        refine am_e2 (v := 39) hi_217_47 rfl ?_
        refine am_e7 hi_217_48 ?_
        refine mm_20 (v := .int (f 15)) hS103 hi_217_49 rfl ?_
        refine am_e0 hi_217_52 ?_
        refine am_e10 (z := z17) hi_217_53 hz17 ?_
        refine mm_21 (v := z17) hS103 hi_217_54 rfl (Nat.le_of_ble_eq_true rfl) ms_15 ?_
        intro S104 hS105
        have hp106 : mj_n (g 16) (f 15).toNatClampNeg 3 = mj_n (g 16) z17.toNatClampNeg 3 + if (g 16 z17.toNatClampNeg).toInt = 3 then 1 else 0 := mj_pop (by rw [cl_toNat, cl_toNat]; omega)
        have hp1061 : mj_n (g 16) z17.toNatClampNeg 3 ≤ mj_n (g 16) (f 15).toNatClampNeg 3 := by rw [hp106]; split <;> omega
        have hp1062 : (g 16 z17.toNatClampNeg).toInt = 3 → mj_n (g 16) z17.toNatClampNeg 3 + 1 ≤ mj_n (g 16) (f 15).toNatClampNeg 3 := fun q => by rw [hp106, if_pos q]; exact Int.le_refl _
        refine am_e35 hi_217_57 ?_
        show am_E _ _ _ _ [some (.ref 39), some (.int on), some (.int tw), some (.int (f 19)), some (.int 1)] [] _ _
        refine am_e18 hi_215_30 ?_
        refine am_e2 (v := 39) hi_215_37 rfl ?_
        refine am_e1 (v := 1) hi_215_38 rfl ?_
        refine am_e12f hi_215_40 (by decide) ?_
        refine am_e1 (v := f 19) hi_215_43 rfl ?_
        refine am_e0 hi_215_44 ?_
        obtain ⟨z107, hz107, tz107⟩ := am_subI (x := f 19) (y := 1) (m := (f 19).toInt) (n := (1 : Int)) rfl (by decide) (by omega) (by omega)
        refine am_e10 (z := z107) hi_215_45 hz107 ?_
        refine am_e1 (v := on) hi_215_46 rfl ?_
        obtain ⟨z108, hz108⟩ : ∃ q__, am_bin 0 z107 on = q__ := ⟨_, rfl⟩
        refine am_e10 (z := z108) hi_215_47 hz108 ?_
        refine am_e18 hi_215_48 ?_
        refine am_e1 (v := 1) hi_215_54 rfl ?_
        refine am_e12f hi_215_56 (by decide) ?_
        refine am_e0 hi_215_59 ?_
        refine am_e18 hi_215_60 ?_
        refine am_e1 (v := tw) hi_215_64 rfl ?_
        refine am_e32w (as := [.ref 39, .int z108, .int 1, .int tw]) (la := [some (.ref 39), some (.int z108), some (.int 1), some (.int tw), none]) (rest := []) hi_215_65 (am_hd0 (M := 215) (by decide) 65) (Nat.le_of_ble_eq_true rfl) (Nat.le_of_ble_eq_true rfl) (show 4 ≤ am_P0.2.2.1 213 from by decide +kernel) rfl (am_recv_ok hS105.fs) rfl rfl ?_
        refine am_e2 (v := 39) hi_213_0 rfl ?_
        refine am_e0 hi_213_1 ?_
        refine am_e1 (v := z108) hi_213_3 rfl ?_
        refine am_e1 (v := 1) hi_213_4 rfl ?_
        refine am_e0 hi_213_5 ?_
        refine am_e10 (z := 3) hi_213_6 (by decide) ?_
        refine am_e1 (v := tw) hi_213_7 rfl ?_
        refine am_e32n (as := [.ref 39, .int 13, .int z108, .int 3, .int tw]) (la := [some (.ref 39), some (.int 13), some (.int z108), some (.int 3), some (.int tw)]) (rest := []) hi_213_8 (am_hd0 (M := 213) (by decide) 8) (Nat.le_of_ble_eq_true rfl) (Nat.le_of_ble_eq_true rfl) (show 5 ≤ am_P0.2.2.1 189 from by decide +kernel) rfl (am_recv_ok hS105.fs) rfl rfl (ct_put (d := (d + 4)) hS105 hR16  (by show (0 : Int) ≤ (f 32).toInt; omega) (by show (f 32).toInt ≤ (63 : Int); omega) (by show (f 53).toInt ≤ (4096 : Int); omega) (by show (0 : Int) ≤ (f 68).toInt; omega) (by show (f 68).toInt ≤ (65534 : Int); omega)) ?_
        rintro v109 S110 (⟨z111, r112, g'113, hv114, hS115, hR119, h116, h117, h118⟩)
        subst hv114
        have h116_ : z111.toInt = (f 68).toInt + 1 := h116
        have h117_ : r112.toInt = (f 68).toInt := h117
        have h118_ : ∀ j, j ∉ [60, 69, 70, 71, 72, 73] → g'113 j = (upg g 72 (g 17 z17.toNatClampNeg).toNatClampNeg 0) j := h118
        have hR119_ : RJ (upd (upd (upd (upd f 4 z2) 5 y3) 15 z17) 68 z111) g'113 gs bc [] 0 ((f 68).toNatClampNeg :: []) := hR119
        show am_E _ _ _ _ [some (.ref 39), some (.int z108), some (.int 1), some (.int tw), none] [.int r112] _ _
        refine am_e3 (ls' := [some (.ref 39), some (.int z108), some (.int 1), some (.int tw), some (.int r112)]) hi_213_11 (Nat.le_of_ble_eq_true rfl) rfl ?_
        refine am_e2 (v := 39) hi_213_13 rfl ?_
        refine am_e7 hi_213_14 ?_
        refine mm_20 (v := .int z17) hS115 hi_213_15 rfl ?_
        refine am_e0 hi_213_18 ?_
        obtain ⟨z120, hz120, tz120⟩ := am_subI (x := z17) (y := 1) (m := z17.toInt) (n := (1 : Int)) rfl (by decide) (by omega) (by omega)
        refine am_e10 (z := z120) hi_213_19 hz120 ?_
        refine mm_21 (v := z120) hS115 hi_213_20 rfl (Nat.le_of_ble_eq_true rfl) ms_15 ?_
        intro S121 hS122
        replace hS122 : MS S0 S121 (upd (upd (upd (upd f 4 z2) 5 y3) 15 z120) 68 z111) g'113 := hS122
        have hp123 : mj_n (g 16) z17.toNatClampNeg 3 = mj_n (g 16) z120.toNatClampNeg 3 + if (g 16 z120.toNatClampNeg).toInt = 3 then 1 else 0 := mj_pop (by rw [cl_toNat, cl_toNat]; omega)
        have hp1231 : mj_n (g 16) z120.toNatClampNeg 3 ≤ mj_n (g 16) z17.toNatClampNeg 3 := by rw [hp123]; split <;> omega
        have hp1232 : (g 16 z120.toNatClampNeg).toInt = 3 → mj_n (g 16) z120.toNatClampNeg 3 + 1 ≤ mj_n (g 16) z17.toNatClampNeg 3 := fun q => by rw [hp123, if_pos q]; exact Int.le_refl _
        refine am_e2 (v := 39) hi_213_23 rfl ?_
        refine am_e0 hi_213_24 ?_
        refine am_e1 (v := r112) hi_213_25 rfl ?_
        refine am_e1 (v := tw) hi_213_27 rfl ?_
        refine am_e32n (as := [.ref 39, .int 1, .int r112, .int tw]) (la := [some (.ref 39), some (.int 1), some (.int r112), some (.int tw)]) (rest := []) hi_213_28 (am_hd0 (M := 213) (by decide) 28) (Nat.le_of_ble_eq_true rfl) (Nat.le_of_ble_eq_true rfl) (show 4 ≤ am_P0.2.2.1 190 from by decide +kernel) rfl (am_recv_ok hS122.fs) rfl rfl (ct_value (d := (d + 4)) hS122 hR119_ (fun h => absurd h (by decide)) (fun _ => ⟨by omega, by omega⟩) (by show (0 : Int) ≤ z120.toInt; omega) (by show z120.toInt ≤ (32767 : Int); omega)) ?_
        rintro v124 S125 (⟨z126, g'127, hv128, hS129, hR134, h130, h131, h132, h133⟩)
        subst hv128
        have h130_ : z126.toInt = z120.toInt + 1 := h130
        have h131_ : ∀ j, j ∉ [16, 17, 18] → g'127 j = g'113 j := h131
        have h132_ : mj_n (g'127 16) z126.toNatClampNeg 3 ≤ mj_n (g 16) z120.toNatClampNeg 3 + 1 := by rw [show g'113 16 = g 16 from h118_ 16 (by decide)] at h132; exact h132
        have h133_ : (1 : Int) = 3 ∨ mj_n (g'127 16) z126.toNatClampNeg 3 ≤ mj_n (g 16) z120.toNatClampNeg 3 := by rw [show g'113 16 = g 16 from h118_ 16 (by decide)] at h133; exact h133
        replace hS129 : MS S0 S125 (upd (upd (upd (upd f 4 z2) 5 y3) 15 z126) 68 z111) g'127 := hS129
        have hR134_ : RJ (upd (upd (upd (upd f 4 z2) 5 y3) 15 z126) 68 z111) g'127 gs bc [] 0 ((f 68).toNatClampNeg :: []) := hR134
        show am_E _ _ _ _ [some (.ref 39), some (.int z108), some (.int 1), some (.int tw), some (.int r112)] [] _ _
        refine am_e35 hi_213_31 ?_
        show am_E _ _ _ _ [some (.ref 39), some (.int on), some (.int tw), some (.int (f 19)), some (.int 1)] [] _ _
        refine am_e35 hi_215_68 ?_
        show am_E _ _ _ _ [some (.ref 39), some (.int 32), some (.int on), some (.int tw)] [] _ _
        refine am_e18 hi_181_234 ?_
        refine am_e35 hi_181_397 ?_
        show am_E _ _ _ _ [some (.ref 39), some (.int 32), some (.int on), some (.int tw), some (.int th)] [] _ _
        refine am_e35 hi_180_13 ?_
        have q1 : mg_p1 gs = mg_p1 gs := rfl
        have q2 : mg_p2 gs = mg_p2 gs := rfl
        have q3 : mg_p3 gs = mg_p3 gs := rfl
        have q4 : mg_p4 gs = mg_p4 gs := rfl
        refine ⟨_, _, _, bc, rfl, hS129, Or.inl ⟨⟨(RJ.fewer (pj' := []) hR134_ (fun _ h => nomatch h)), ?_, ?_⟩, rfl, ?_⟩⟩
        · exact (mg_cast (mg_good_ext _ _ _ _ _ _ (fun i _ => by show g'127 34 i = g 34 i; rw [show g'127 34 = g'113 34 from h131_ 34 (by decide), show g'113 34 = g 34 from h118_ 34 (by decide)]) (fun i _ => by show g'127 38 i = g 38 i; rw [show g'127 38 = g'113 38 from h131_ 38 (by decide), show g'113 38 = g 38 from h118_ 38 (by decide)]) (fun i _ => by show g'127 23 i = g 23 i; rw [show g'127 23 = g'113 23 from h131_ 23 (by decide), show g'113 23 = g 23 from h118_ 23 (by decide)]) hrest) (by show (f 15).toInt + -1 = z126.toInt; omega) (by show (f 20).toInt = (f 20).toInt; omega) (by show (f 37).toInt + 0 = (f 37).toInt; omega) (by show (f 32).toInt + 0 = (f 32).toInt; omega) (by show (f 5).toInt + -1 = y3.toInt; omega) : mg_good (g'127 34) (g'127 38) (g'127 23) gs (z126.toInt) ((f 20).toInt) ((f 37).toInt) ((f 32).toInt) (y3.toInt))
        · exact ⟨(by show 0 ≤ z2.toInt; omega), (by show z2.toInt ≤ (f 0).toInt; omega), (by show (f 0).toInt ≤ 512; omega), (by show 0 ≤ (f 24).toInt; omega), (by show (f 24).toInt + (f 20).toInt + mg_p1 gs ≤ 4 * z2.toInt; omega), (by show (f 20).toInt ≤ z2.toInt; omega), (by show z126.toInt + mg_p2 gs ≤ z2.toInt; omega), (by show mg_p3 gs ≤ 20 * z2.toInt + 20; omega), (by show 0 ≤ z111.toInt; omega), (by show z111.toInt + 3 * (f 20).toInt + mg_p4 gs ≤ 60 * z2.toInt + 60; omega), (by show 0 ≤ (f 62).toInt; omega), (by show (f 62).toInt + 64 * mj_n (g'127 16) z126.toNatClampNeg 3 ≤ 64 * z2.toInt; omega), (by show 0 ≤ (f 44).toInt; omega), (by show (f 44).toInt ≤ z2.toInt; omega), (by show 0 ≤ (f 48).toInt; omega), (by show (f 48).toInt ≤ z2.toInt; omega), (by show 1 ≤ (f 53).toInt; omega), (by show (f 53).toInt ≤ z2.toInt + 1; omega), (by show 0 ≤ (f 19).toInt; omega), (by show (f 19).toInt ≤ 600; omega), (by show 0 ≤ (f 6).toInt; omega), (by show 0 ≤ (f 8).toInt; omega)⟩
        · show 100 * ((f 0).toInt - z2.toInt) + mg_p3 gs < 100 * ((f 0).toInt - (f 4).toInt) + (1 + mg_p3 gs); omega
  · subst hv12
    have h14_ : (0 : Int) ≤ a10.toInt := h14
    have hR135 := rj_clear0 hR
    have hR136 : RJ (upd (upd (upd f 6 a10) 7 b11) 10 0) g [] bc [] 0 [] := hR135
    show am_E _ _ _ _ [some (.ref 39), some (.int on), some (.int tw), some (.int (f 19)), none] [.int 0] _ _
    refine am_e12f hi_215_11 (by decide) ?_
    refine am_e35 hi_215_14 ?_
    show am_E _ _ _ _ [some (.ref 39), some (.int 32), some (.int on), some (.int tw)] [] _ _
    refine am_e18 hi_181_234 ?_
    refine am_e35 hi_181_397 ?_
    show am_E _ _ _ _ [some (.ref 39), some (.int 32), some (.int on), some (.int tw), some (.int th)] [] _ _
    refine am_e35 hi_180_13 ?_
    have hRc := rj_clear0 hR136
    refine ⟨_, _, [], _, rfl, hS13, Or.inr ⟨hRc, rfl, (by show 0 ≤ (f 4).toInt; omega), (by show (f 4).toInt ≤ (f 0).toInt; omega), (by show 0 ≤ (f 32).toInt; omega), (by show (f 32).toInt ≤ 63; omega), (by show 1 ≤ (f 53).toInt; omega), (by show (f 53).toInt ≤ 600; omega), (by show 0 ≤ (f 68).toInt; omega), (by show (f 68).toInt ≤ 60000; omega), (by show 0 ≤ (f 48).toInt; omega), (by show (f 48).toInt ≤ 8000; omega), (by show 0 ≤ (f 37).toInt; omega), (by show (f 37).toInt ≤ 128; omega), (by show 0 ≤ (f 62).toInt; omega), (by show (f 62).toInt ≤ 65000; omega), (by show 0 ≤ (f 19).toInt; omega), (by show (f 19).toInt ≤ 600; omega), (by show 0 ≤ a10.toInt; omega), (by show 0 ≤ (f 8).toInt; omega)⟩⟩
