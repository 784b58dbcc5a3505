/-! STEPS: values (printed by wip/p2/st1.py) -/
theorem st_25 {sc : Nat × (Nat → Int32)} {d : Nat} {S0 S : am_S} {f : Nat → Int32} {g : Nat → Nat → Int32} {on : Int32} {tw : Int32} {th : Int32} {gs : List mg_E} {bc : List (List Nat)} (hS : MS S0 S f g) (hR : RJ f g gs bc [] 0 []) (hrest : mg_good (g 34) (g 38) (g 23) gs ((f 15).toInt + -1) ((f 20).toInt) ((f 37).toInt + 0) ((f 32).toInt + 0) ((f 5).toInt + 0)) (p0 : 0 ≤ (f 4).toInt) (p1 : (f 4).toInt ≤ (f 0).toInt) (p2 : (f 0).toInt ≤ 512) (p3 : 0 ≤ (f 24).toInt) (p4 : (f 24).toInt + (f 20).toInt + mg_p1 gs ≤ 4 * (f 4).toInt) (p5 : (f 20).toInt ≤ (f 4).toInt) (p6 : (f 15).toInt + 0 + mg_p2 gs ≤ (f 4).toInt) (p7 : 1 + mg_p3 gs ≤ 20 * (f 4).toInt + 20) (p8 : 0 ≤ (f 68).toInt) (p9 : (f 68).toInt + 3 * (f 20).toInt + 3 + mg_p4 gs ≤ 60 * (f 4).toInt + 60) (p10 : 0 ≤ (f 62).toInt) (p11 : (f 62).toInt + 64 * mj_n (g 16) (f 15).toNatClampNeg 3 ≤ 64 * (f 4).toInt) (p12 : 0 ≤ (f 44).toInt) (p13 : (f 44).toInt ≤ (f 4).toInt) (p14 : 0 ≤ (f 48).toInt) (p15 : (f 48).toInt ≤ (f 4).toInt) (p16 : 1 ≤ (f 53).toInt) (p17 : (f 53).toInt ≤ (f 4).toInt + 1) (p18 : 0 ≤ (f 19).toInt) (p19 : (f 19).toInt ≤ 600) (p20 : 0 ≤ (f 6).toInt) (p21 : 0 ≤ (f 8).toInt) (p22 : 0 ≤ mg_p1 gs) (p23 : 0 ≤ mg_p2 gs) (p24 : 0 ≤ mg_p4 gs) (p25 : 0 ≤ (f 10).toInt) (p26 : (f 10).toInt ≤ mg_p3 gs) (p27 : 0 ≤ mj_n (g 16) (f 15).toNatClampNeg 3) (p28 : 1 ≤ (f 15).toInt) (p29 : 0 ≤ (f 20).toInt) (p30 : 1 ≤ (f 37).toInt) (p31 : 0 ≤ (f 32).toInt) (p32 : (f 32).toInt ≤ (f 5).toInt) (p33 : (f 5).toInt ≤ 48) (p34 : (f 37).toInt ≤ 2 * (f 5).toInt + 2) : am_E (am_PP sc) (d + 8) 180 0 [some (.ref 39), some (.int 25), some (.int on), some (.int tw), some (.int th)] [] S (am_N fun v S1 => ∃ (f' : Nat → Int32) (g' : Nat → Nat → Int32) (gs' : List mg_E) (bc' : List (List Nat)), v = none ∧ MS S0 S1 f' g' ∧ (mg_on f (100 * ((f 0).toInt - (f 4).toInt) + (1 + mg_p3 gs)) f' g' gs' bc' ∨ mg_off f f' g' bc')) := by
  have hbs := mg_basic hrest
  refine am_e1 (v := 25) hi_180_0 rfl ?_
  refine am_e0 hi_180_1 ?_
  refine am_e13f hi_180_3 (by decide) ?_
  refine am_e2 (v := 39) hi_180_6 rfl ?_
  refine am_e1 (v := 25) hi_180_7 rfl ?_
  refine am_e1 (v := on) hi_180_8 rfl ?_
  refine am_e1 (v := tw) hi_180_9 rfl ?_
  refine am_e32w (as := [.ref 39, .int 25, .int on, .int tw]) (la := [some (.ref 39), some (.int 25), some (.int on), some (.int tw)]) (rest := []) hi_180_10 (am_hd0 (M := 180) (by decide) 10) (Nat.le_of_ble_eq_true rfl) (Nat.le_of_ble_eq_true rfl) (show 4 ≤ am_P0.2.2.1 181 from by decide +kernel) rfl (am_recv_ok hS.fs) rfl rfl ?_
  refine am_e1 (v := 25) hi_181_0 rfl ?_
  refine am_e19 (t := 104) hi_181_1 (by decide) ?_
  refine am_e2 (v := 39) hi_181_104 rfl ?_
  refine am_e32w (as := [.ref 39]) (la := [some (.ref 39)]) (rest := []) hi_181_105 (am_hd0 (M := 181) (by decide) 105) (Nat.le_of_ble_eq_true rfl) (Nat.le_of_ble_eq_true rfl) (show 1 ≤ am_P0.2.2.1 209 from by decide +kernel) rfl (am_recv_ok hS.fs) rfl rfl ?_
  refine am_e2 (v := 39) hi_209_0 rfl ?_
  refine am_e32n (as := [.ref 39]) (la := [some (.ref 39), none, none, none]) (rest := []) hi_209_1 (am_hd0 (M := 209) (by decide) 1) (Nat.le_of_ble_eq_true rfl) (Nat.le_of_ble_eq_true rfl) (show 1 ≤ am_P0.2.2.1 204 from by decide +kernel) rfl (am_recv_ok hS.fs) rfl rfl (ct_load (d := (d + 3)) hS hR  (by show (0 : Int) ≤ (f 32).toInt; omega) (by show (f 32).toInt ≤ (63 : Int); omega) (by show (f 53).toInt ≤ (4096 : Int); omega) (by show (0 : Int) ≤ (f 68).toInt; omega) (by show (f 68).toInt ≤ (65534 : Int); omega) (by show (1 : Int) ≤ (f 15).toInt; omega) (by show (f 15).toInt ≤ (32767 : Int); omega) (by show (0 : Int) ≤ (f 24).toInt; omega) (by show (f 24).toInt ≤ (16384 : Int); omega) (by show (0 : Int) ≤ (f 62).toInt; omega) (by show (f 62).toInt ≤ (65000 : Int); omega)) ?_
  rintro v0 S1 (⟨o2, s3, m4, g'5, hv6, hS7, hR14, h8, h9, h10, h11, h12, h13⟩)
  subst hv6
  have h8_ : (f 62).toInt ≤ o2.toInt := h8
  have h9_ : o2.toInt ≤ (f 62).toInt + 64 := h9
  have h10_ : (f 68).toInt ≤ s3.toInt := h10
  have h11_ : s3.toInt ≤ (f 68).toInt + 1 := h11
  have h12_ : o2.toInt + 64 * mj_n (g'5 16) (f 15).toNatClampNeg 3 ≤ (f 62).toInt + 64 * mj_n (g 16) (f 15).toNatClampNeg 3 := h12
  have h13_ : ∀ j, j ∉ [16, 60, 63, 64, 65, 66, 67, 69, 70, 71, 72, 73] → g'5 j = g j := h13
  have hR14_ : RJ (upd (upd (upd f 62 o2) 68 s3) 75 m4) g'5 gs bc [] 0 [] := hR14
  show am_E _ _ _ _ [some (.ref 39)] [] _ _
  refine am_e2 (v := 39) hi_209_4 rfl ?_
  refine am_e7 hi_209_5 ?_
  refine mm_20 (v := .int (f 15)) hS7 hi_209_6 rfl ?_
  refine am_e0 hi_209_9 ?_
  obtain ⟨z15, hz15, tz15⟩ := am_subI (x := f 15) (y := 1) (m := (f 15).toInt) (n := (1 : Int)) rfl (by decide) (by omega) (by omega)
  refine am_e10 (z := z15) hi_209_10 hz15 ?_
  refine mm_21 (v := z15) hS7 hi_209_11 rfl (Nat.le_of_ble_eq_true rfl) ms_15 ?_
  intro S16 hS17
  replace hS17 : MS S0 S16 (upd (upd (upd (upd f 15 z15) 62 o2) 68 s3) 75 m4) g'5 := hS17
  have hp18 : mj_n (g'5 16) (f 15).toNatClampNeg 3 = mj_n (g'5 16) z15.toNatClampNeg 3 + if (g'5 16 z15.toNatClampNeg).toInt = 3 then 1 else 0 := mj_pop (by rw [cl_toNat, cl_toNat]; omega)
  have hp181 : mj_n (g'5 16) z15.toNatClampNeg 3 ≤ mj_n (g'5 16) (f 15).toNatClampNeg 3 := by rw [hp18]; split <;> omega
  have hp182 : (g'5 16 z15.toNatClampNeg).toInt = 3 → mj_n (g'5 16) z15.toNatClampNeg 3 + 1 ≤ mj_n (g'5 16) (f 15).toNatClampNeg 3 := fun q => by rw [hp18, if_pos q]; exact Int.le_refl _
  refine am_e35 hi_209_14 ?_
  show am_E _ _ _ _ [some (.ref 39), some (.int 25), some (.int on), some (.int tw)] [] _ _
  refine am_e2 (v := 39) hi_181_108 rfl ?_
  refine am_e0 hi_181_109 ?_
  refine am_e1 (v := on) hi_181_111 rfl ?_
  refine am_e0 hi_181_112 ?_
  refine am_e1 (v := tw) hi_181_113 rfl ?_
  refine am_e32n (as := [.ref 39, .int 19, .int on, .int 0, .int tw]) (la := [some (.ref 39), some (.int 19), some (.int on), some (.int 0), some (.int tw)]) (rest := []) hi_181_114 (am_hd0 (M := 181) (by decide) 114) (Nat.le_of_ble_eq_true rfl) (Nat.le_of_ble_eq_true rfl) (show 5 ≤ am_P0.2.2.1 189 from by decide +kernel) rfl (am_recv_ok hS17.fs) rfl rfl (ct_put (d := (d + 6)) hS17 hR14_  (by show (0 : Int) ≤ (f 32).toInt; omega) (by show (f 32).toInt ≤ (63 : Int); omega) (by show (f 53).toInt ≤ (4096 : Int); omega) (by show (0 : Int) ≤ s3.toInt; omega) (by show s3.toInt ≤ (65534 : Int); omega)) ?_
  rintro v19 S20 (⟨z21, r22, g'23, hv24, hS25, hR29, h26, h27, h28⟩)
  subst hv24
  have h26_ : z21.toInt = s3.toInt + 1 := h26
  have h27_ : r22.toInt = s3.toInt := h27
  have h28_ : ∀ j, j ∉ [60, 69, 70, 71, 72, 73] → g'23 j = g'5 j := h28
  replace hS25 : MS S0 S20 (upd (upd (upd (upd f 15 z15) 62 o2) 68 z21) 75 m4) g'23 := hS25
  have hR29_ : RJ (upd (upd (upd (upd f 15 z15) 62 o2) 68 z21) 75 m4) g'23 gs bc [] 0 (s3.toNatClampNeg :: []) := hR29
  show am_E _ _ _ _ [some (.ref 39), some (.int 25), some (.int on), some (.int tw)] [.int r22] _ _
  refine am_e6i hi_181_117 ?_
  refine am_e18 hi_181_118 ?_
  refine am_e35 hi_181_397 ?_
  show am_E _ _ _ _ [some (.ref 39), some (.int 25), some (.int on), some (.int tw), some (.int th)] [] _ _
  refine am_e35 hi_180_13 ?_
  have q1 : mg_p1 gs = mg_p1 gs := rfl
  have q2 : mg_p2 gs = mg_p2 gs := rfl
  have q3 : mg_p3 gs = mg_p3 gs := rfl
  have q4 : mg_p4 gs = mg_p4 gs := rfl
  refine ⟨_, _, _, bc, rfl, hS25, Or.inl ⟨⟨(RJ.fewer (pj' := []) hR29_ (fun _ h => nomatch h)), ?_, ?_⟩, rfl, ?_⟩⟩
  · exact (mg_cast (mg_good_ext _ _ _ _ _ _ (fun i _ => by show g'23 34 i = g 34 i; rw [show g'23 34 = g'5 34 from h28_ 34 (by decide), show g'5 34 = g 34 from h13_ 34 (by decide)]) (fun i _ => by show g'23 38 i = g 38 i; rw [show g'23 38 = g'5 38 from h28_ 38 (by decide), show g'5 38 = g 38 from h13_ 38 (by decide)]) (fun i _ => by show g'23 23 i = g 23 i; rw [show g'23 23 = g'5 23 from h28_ 23 (by decide), show g'5 23 = g 23 from h13_ 23 (by decide)]) hrest) (by show (f 15).toInt + -1 = z15.toInt; omega) (by show (f 20).toInt = (f 20).toInt; omega) (by show (f 37).toInt + 0 = (f 37).toInt; omega) (by show (f 32).toInt + 0 = (f 32).toInt; omega) (by show (f 5).toInt + 0 = (f 5).toInt; omega) : mg_good (g'23 34) (g'23 38) (g'23 23) gs (z15.toInt) ((f 20).toInt) ((f 37).toInt) ((f 32).toInt) ((f 5).toInt))
  · exact ⟨(by show 0 ≤ (f 4).toInt; omega), (by show (f 4).toInt ≤ (f 0).toInt; omega), (by show (f 0).toInt ≤ 512; omega), (by show 0 ≤ (f 24).toInt; omega), (by show (f 24).toInt + (f 20).toInt + mg_p1 gs ≤ 4 * (f 4).toInt; omega), (by show (f 20).toInt ≤ (f 4).toInt; omega), (by show z15.toInt + mg_p2 gs ≤ (f 4).toInt; omega), (by show mg_p3 gs ≤ 20 * (f 4).toInt + 20; omega), (by show 0 ≤ z21.toInt; omega), (by show z21.toInt + 3 * (f 20).toInt + mg_p4 gs ≤ 60 * (f 4).toInt + 60; omega), (by show 0 ≤ o2.toInt; omega), (by show o2.toInt + 64 * mj_n (g'23 16) z15.toNatClampNeg 3 ≤ 64 * (f 4).toInt; rw [show g'23 16 = g'5 16 from h28_ 16 (by decide)]; omega), (by show 0 ≤ (f 44).toInt; omega), (by show (f 44).toInt ≤ (f 4).toInt; omega), (by show 0 ≤ (f 48).toInt; omega), (by show (f 48).toInt ≤ (f 4).toInt; omega), (by show 1 ≤ (f 53).toInt; omega), (by show (f 53).toInt ≤ (f 4).toInt + 1; omega), (by show 0 ≤ (f 19).toInt; omega), (by show (f 19).toInt ≤ 600; omega), (by show 0 ≤ (f 6).toInt; omega), (by show 0 ≤ (f 8).toInt; omega)⟩
  · show 100 * ((f 0).toInt - (f 4).toInt) + mg_p3 gs < 100 * ((f 0).toInt - (f 4).toInt) + (1 + mg_p3 gs); omega
theorem st_26 {sc : Nat × (Nat → Int32)} {d : Nat} {S0 S : am_S} {f : Nat → Int32} {g : Nat → Nat → Int32} {on : Int32} {tw : Int32} {th : Int32} {gs : List mg_E} {bc : List (List Nat)} (hS : MS S0 S f g) (hR : RJ f g gs bc [] 0 [on.toInt.toNat]) (hrest : mg_good (g 34) (g 38) (g 23) gs ((f 15).toInt + 0) ((f 20).toInt) ((f 37).toInt + 0) ((f 32).toInt + 0) ((f 5).toInt + 0)) (p0 : 0 ≤ (f 4).toInt) (p1 : (f 4).toInt ≤ (f 0).toInt) (p2 : (f 0).toInt ≤ 512) (p3 : 0 ≤ (f 24).toInt) (p4 : (f 24).toInt + (f 20).toInt + mg_p1 gs ≤ 4 * (f 4).toInt) (p5 : (f 20).toInt ≤ (f 4).toInt) (p6 : (f 15).toInt + 0 + mg_p2 gs ≤ (f 4).toInt) (p7 : 1 + mg_p3 gs ≤ 20 * (f 4).toInt + 20) (p8 : 0 ≤ (f 68).toInt) (p9 : (f 68).toInt + 3 * (f 20).toInt + 2 + mg_p4 gs ≤ 60 * (f 4).toInt + 60) (p10 : 0 ≤ (f 62).toInt) (p11 : (f 62).toInt + 64 * mj_n (g 16) (f 15).toNatClampNeg 3 ≤ 64 * (f 4).toInt) (p12 : 0 ≤ (f 44).toInt) (p13 : (f 44).toInt ≤ (f 4).toInt) (p14 : 0 ≤ (f 48).toInt) (p15 : (f 48).toInt ≤ (f 4).toInt) (p16 : 1 ≤ (f 53).toInt) (p17 : (f 53).toInt ≤ (f 4).toInt + 1) (p18 : 0 ≤ (f 19).toInt) (p19 : (f 19).toInt ≤ 600) (p20 : 0 ≤ (f 6).toInt) (p21 : 0 ≤ (f 8).toInt) (p22 : 0 ≤ mg_p1 gs) (p23 : 0 ≤ mg_p2 gs) (p24 : 0 ≤ mg_p4 gs) (p25 : 0 ≤ (f 10).toInt) (p26 : (f 10).toInt ≤ mg_p3 gs) (p27 : 0 ≤ mj_n (g 16) (f 15).toNatClampNeg 3) (p28 : 1 ≤ (f 15).toInt) (p29 : 0 ≤ (f 20).toInt) (p30 : 1 ≤ (f 37).toInt) (p31 : 0 ≤ (f 32).toInt) (p32 : (f 32).toInt ≤ (f 5).toInt) (p33 : (f 5).toInt ≤ 48) (p34 : (f 37).toInt ≤ 2 * (f 5).toInt + 2) (p35 : 0 ≤ on.toInt) (p36 : on.toInt < (f 68).toInt) : am_E (am_PP sc) (d + 8) 180 0 [some (.ref 39), some (.int 26), some (.int on), some (.int tw), some (.int th)] [] S (am_N fun v S1 => ∃ (f' : Nat → Int32) (g' : Nat → Nat → Int32) (gs' : List mg_E) (bc' : List (List Nat)), v = none ∧ MS S0 S1 f' g' ∧ (mg_on f (100 * ((f 0).toInt - (f 4).toInt) + (1 + mg_p3 gs)) f' g' gs' bc' ∨ mg_off f f' g' bc')) := by
  have hbs := mg_basic hrest
  refine am_e1 (v := 26) hi_180_0 rfl ?_
  refine am_e0 hi_180_1 ?_
  refine am_e13f hi_180_3 (by decide) ?_
  refine am_e2 (v := 39) hi_180_6 rfl ?_
  refine am_e1 (v := 26) hi_180_7 rfl ?_
  refine am_e1 (v := on) hi_180_8 rfl ?_
  refine am_e1 (v := tw) hi_180_9 rfl ?_
  refine am_e32w (as := [.ref 39, .int 26, .int on, .int tw]) (la := [some (.ref 39), some (.int 26), some (.int on), some (.int tw)]) (rest := []) hi_180_10 (am_hd0 (M := 180) (by decide) 10) (Nat.le_of_ble_eq_true rfl) (Nat.le_of_ble_eq_true rfl) (show 4 ≤ am_P0.2.2.1 181 from by decide +kernel) rfl (am_recv_ok hS.fs) rfl rfl ?_
  refine am_e1 (v := 26) hi_181_0 rfl ?_
  refine am_e19 (t := 121) hi_181_1 (by decide) ?_
  refine am_e2 (v := 39) hi_181_121 rfl ?_
  refine am_e32n (as := [.ref 39]) (la := [some (.ref 39), none, none, none]) (rest := []) hi_181_122 (am_hd0 (M := 181) (by decide) 122) (Nat.le_of_ble_eq_true rfl) (Nat.le_of_ble_eq_true rfl) (show 1 ≤ am_P0.2.2.1 204 from by decide +kernel) rfl (am_recv_ok hS.fs) rfl rfl (ct_load (d := (d + 4)) hS hR  (by show (0 : Int) ≤ (f 32).toInt; omega) (by show (f 32).toInt ≤ (63 : Int); omega) (by show (f 53).toInt ≤ (4096 : Int); omega) (by show (0 : Int) ≤ (f 68).toInt; omega) (by show (f 68).toInt ≤ (65534 : Int); omega) (by show (1 : Int) ≤ (f 15).toInt; omega) (by show (f 15).toInt ≤ (32767 : Int); omega) (by show (0 : Int) ≤ (f 24).toInt; omega) (by show (f 24).toInt ≤ (16384 : Int); omega) (by show (0 : Int) ≤ (f 62).toInt; omega) (by show (f 62).toInt ≤ (65000 : Int); omega)) ?_
  rintro v0 S1 (⟨o2, s3, m4, g'5, hv6, hS7, hR14, h8, h9, h10, h11, h12, h13⟩)
  subst hv6
  have h8_ : (f 62).toInt ≤ o2.toInt := h8
  have h9_ : o2.toInt ≤ (f 62).toInt + 64 := h9
  have h10_ : (f 68).toInt ≤ s3.toInt := h10
  have h11_ : s3.toInt ≤ (f 68).toInt + 1 := h11
  have h12_ : o2.toInt + 64 * mj_n (g'5 16) (f 15).toNatClampNeg 3 ≤ (f 62).toInt + 64 * mj_n (g 16) (f 15).toNatClampNeg 3 := h12
  have h13_ : ∀ j, j ∉ [16, 60, 63, 64, 65, 66, 67, 69, 70, 71, 72, 73] → g'5 j = g j := h13
  have hR14_ : RJ (upd (upd (upd f 62 o2) 68 s3) 75 m4) g'5 gs bc [] 0 [on.toInt.toNat] := hR14
  show am_E _ _ _ _ [some (.ref 39), some (.int 26), some (.int on), some (.int tw)] [] _ _
  refine am_e2 (v := 39) hi_181_125 rfl ?_
  refine mm_20 (v := .ref 90) hS7 hi_181_126 rfl ?_
  refine am_e1 (v := on) hi_181_129 rfl ?_
  refine am_e2 (v := 39) hi_181_130 rfl ?_
  refine am_e32n (as := [.ref 39]) (la := [some (.ref 39)]) (rest := [.int on, .ref 90]) hi_181_131 (am_hd0 (M := 181) (by decide) 131) (Nat.le_of_ble_eq_true rfl) (Nat.le_of_ble_eq_true rfl) (show 1 ≤ am_P0.2.2.1 210 from by decide +kernel) rfl (am_recv_ok hS7.fs) rfl rfl (ct_here (d := (d + 6)) hS7 hR14_  (by show (0 : Int) ≤ (f 32).toInt; omega) (by show (f 32).toInt ≤ (63 : Int); omega) (by show (f 53).toInt ≤ (4096 : Int); omega) (by show (0 : Int) ≤ s3.toInt; omega) (by show s3.toInt ≤ (65534 : Int); omega)) ?_
  rintro v15 S16 (⟨r17, hv18, hS19, h20, h21⟩)
  subst hv18
  have h20_ : (0 : Int) ≤ r17.toInt := h20
  have h21_ : r17.toInt ≤ s3.toInt := h21
  show am_E _ _ _ _ [some (.ref 39), some (.int 26), some (.int on), some (.int tw)] [.int r17, .int on, .ref 90] _ _
  refine mm_26 hS19 ma_71 hi_181_134 (by decide) (by omega) (by omega) (fun h => nomatch h) ?_
  intro S23 hS24
  have hix35 : on.toNatClampNeg = on.toInt.toNat := by first | rfl | (rw [cl_toNat, cl_toNat]; omega)
  have hR25 : RJ (upd (upd (upd f 62 o2) 68 s3) 75 m4) (upg g'5 71 on.toNatClampNeg r17) gs bc [] 0 [on.toInt.toNat] := by rw [hix35]; exact RJ.lead hR14_ (RJ.pjn hR14_ (show on.toInt.toNat ∈ _ from by simp only [List.mem_cons, true_or, or_true]))
  refine am_e18 hi_181_135 ?_
  refine am_e35 hi_181_397 ?_
  show am_E _ _ _ _ [some (.ref 39), some (.int 26), some (.int on), some (.int tw), some (.int th)] [] _ _
  refine am_e35 hi_180_13 ?_
  have q1 : mg_p1 gs = mg_p1 gs := rfl
  have q2 : mg_p2 gs = mg_p2 gs := rfl
  have q3 : mg_p3 gs = mg_p3 gs := rfl
  have q4 : mg_p4 gs = mg_p4 gs := rfl
  refine ⟨_, _, _, bc, rfl, hS24, Or.inl ⟨⟨(RJ.fewer (pj' := []) hR25 (fun _ h => nomatch h)), ?_, ?_⟩, rfl, ?_⟩⟩
  · exact (mg_cast (mg_good_ext _ _ _ _ _ _ (fun i _ => by show g'5 34 i = g 34 i; rw [show g'5 34 = g 34 from h13_ 34 (by decide)]) (fun i _ => by show g'5 38 i = g 38 i; rw [show g'5 38 = g 38 from h13_ 38 (by decide)]) (fun i _ => by show g'5 23 i = g 23 i; rw [show g'5 23 = g 23 from h13_ 23 (by decide)]) hrest) (by show (f 15).toInt + 0 = (f 15).toInt; omega) (by show (f 20).toInt = (f 20).toInt; omega) (by show (f 37).toInt + 0 = (f 37).toInt; omega) (by show (f 32).toInt + 0 = (f 32).toInt; omega) (by show (f 5).toInt + 0 = (f 5).toInt; omega) : mg_good ((upg g'5 71 on.toNatClampNeg r17) 34) ((upg g'5 71 on.toNatClampNeg r17) 38) ((upg g'5 71 on.toNatClampNeg r17) 23) gs ((f 15).toInt) ((f 20).toInt) ((f 37).toInt) ((f 32).toInt) ((f 5).toInt))
  · exact ⟨(by show 0 ≤ (f 4).toInt; omega), (by show (f 4).toInt ≤ (f 0).toInt; omega), (by show (f 0).toInt ≤ 512; omega), (by show 0 ≤ (f 24).toInt; omega), (by show (f 24).toInt + (f 20).toInt + mg_p1 gs ≤ 4 * (f 4).toInt; omega), (by show (f 20).toInt ≤ (f 4).toInt; omega), (by show (f 15).toInt + mg_p2 gs ≤ (f 4).toInt; omega), (by show mg_p3 gs ≤ 20 * (f 4).toInt + 20; omega), (by show 0 ≤ s3.toInt; omega), (by show s3.toInt + 3 * (f 20).toInt + mg_p4 gs ≤ 60 * (f 4).toInt + 60; omega), (by show 0 ≤ o2.toInt; omega), (by show o2.toInt + 64 * mj_n (g'5 16) (f 15).toNatClampNeg 3 ≤ 64 * (f 4).toInt; omega), (by show 0 ≤ (f 44).toInt; omega), (by show (f 44).toInt ≤ (f 4).toInt; omega), (by show 0 ≤ (f 48).toInt; omega), (by show (f 48).toInt ≤ (f 4).toInt; omega), (by show 1 ≤ (f 53).toInt; omega), (by show (f 53).toInt ≤ (f 4).toInt + 1; omega), (by show 0 ≤ (f 19).toInt; omega), (by show (f 19).toInt ≤ 600; omega), (by show 0 ≤ (f 6).toInt; omega), (by show 0 ≤ (f 8).toInt; omega)⟩
  · show 100 * ((f 0).toInt - (f 4).toInt) + mg_p3 gs < 100 * ((f 0).toInt - (f 4).toInt) + (1 + mg_p3 gs); omega
theorem st_27 {sc : Nat × (Nat → Int32)} {d : Nat} {S0 S : am_S} {f : Nat → Int32} {g : Nat → Nat → Int32} {on : Int32} {tw : Int32} {th : Int32} {gs : List mg_E} {bc : List (List Nat)} (hS : MS S0 S f g) (hR : RJ f g gs bc [] 0 []) (hrest : mg_good (g 34) (g 38) (g 23) gs ((f 15).toInt + 0) ((f 20).toInt) ((f 37).toInt + 0) ((f 32).toInt + 0) ((f 5).toInt + 0)) (p0 : 0 ≤ (f 4).toInt) (p1 : (f 4).toInt ≤ (f 0).toInt) (p2 : (f 0).toInt ≤ 512) (p3 : 0 ≤ (f 24).toInt) (p4 : (f 24).toInt + (f 20).toInt + mg_p1 gs ≤ 4 * (f 4).toInt) (p5 : (f 20).toInt ≤ (f 4).toInt) (p6 : (f 15).toInt + 0 + mg_p2 gs ≤ (f 4).toInt) (p7 : 1 + mg_p3 gs ≤ 20 * (f 4).toInt + 20) (p8 : 0 ≤ (f 68).toInt) (p9 : (f 68).toInt + 3 * (f 20).toInt + 3 + mg_p4 gs ≤ 60 * (f 4).toInt + 60) (p10 : 0 ≤ (f 62).toInt) (p11 : (f 62).toInt + 64 * mj_n (g 16) (f 15).toNatClampNeg 3 ≤ 64 * (f 4).toInt) (p12 : 0 ≤ (f 44).toInt) (p13 : (f 44).toInt ≤ (f 4).toInt) (p14 : 0 ≤ (f 48).toInt) (p15 : (f 48).toInt ≤ (f 4).toInt) (p16 : 1 ≤ (f 53).toInt) (p17 : (f 53).toInt ≤ (f 4).toInt + 1) (p18 : 0 ≤ (f 19).toInt) (p19 : (f 19).toInt ≤ 600) (p20 : 0 ≤ (f 6).toInt) (p21 : 0 ≤ (f 8).toInt) (p22 : 0 ≤ mg_p1 gs) (p23 : 0 ≤ mg_p2 gs) (p24 : 0 ≤ mg_p4 gs) (p25 : 0 ≤ (f 10).toInt) (p26 : (f 10).toInt ≤ mg_p3 gs) (p27 : 0 ≤ mj_n (g 16) (f 15).toNatClampNeg 3) (p28 : 1 ≤ (f 15).toInt) (p29 : 0 ≤ (f 20).toInt) (p30 : 1 ≤ (f 37).toInt) (p31 : 0 ≤ (f 32).toInt) (p32 : (f 32).toInt ≤ (f 5).toInt) (p33 : (f 5).toInt ≤ 48) (p34 : (f 37).toInt ≤ 2 * (f 5).toInt + 2) : am_E (am_PP sc) (d + 8) 180 0 [some (.ref 39), some (.int 27), some (.int on), some (.int tw), some (.int th)] [] S (am_N fun v S1 => ∃ (f' : Nat → Int32) (g' : Nat → Nat → Int32) (gs' : List mg_E) (bc' : List (List Nat)), v = none ∧ MS S0 S1 f' g' ∧ (mg_on f (100 * ((f 0).toInt - (f 4).toInt) + (1 + mg_p3 gs)) f' g' gs' bc' ∨ mg_off f f' g' bc')) := by
  have hbs := mg_basic hrest
  refine am_e1 (v := 27) hi_180_0 rfl ?_
  refine am_e0 hi_180_1 ?_
  refine am_e13f hi_180_3 (by decide) ?_
  refine am_e2 (v := 39) hi_180_6 rfl ?_
  refine am_e1 (v := 27) hi_180_7 rfl ?_
  refine am_e1 (v := on) hi_180_8 rfl ?_
  refine am_e1 (v := tw) hi_180_9 rfl ?_
  refine am_e32w (as := [.ref 39, .int 27, .int on, .int tw]) (la := [some (.ref 39), some (.int 27), some (.int on), some (.int tw)]) (rest := []) hi_180_10 (am_hd0 (M := 180) (by decide) 10) (Nat.le_of_ble_eq_true rfl) (Nat.le_of_ble_eq_true rfl) (show 4 ≤ am_P0.2.2.1 181 from by decide +kernel) rfl (am_recv_ok hS.fs) rfl rfl ?_
  refine am_e1 (v := 27) hi_181_0 rfl ?_
  refine am_e19 (t := 138) hi_181_1 (by decide) ?_
  refine am_e2 (v := 39) hi_181_138 rfl ?_
  refine am_e32n (as := [.ref 39]) (la := [some (.ref 39), none, none, none]) (rest := []) hi_181_139 (am_hd0 (M := 181) (by decide) 139) (Nat.le_of_ble_eq_true rfl) (Nat.le_of_ble_eq_true rfl) (show 1 ≤ am_P0.2.2.1 204 from by decide +kernel) rfl (am_recv_ok hS.fs) rfl rfl (ct_load (d := (d + 4)) hS hR  (by show (0 : Int) ≤ (f 32).toInt; omega) (by show (f 32).toInt ≤ (63 : Int); omega) (by show (f 53).toInt ≤ (4096 : Int); omega) (by show (0 : Int) ≤ (f 68).toInt; omega) (by show (f 68).toInt ≤ (65534 : Int); omega) (by show (1 : Int) ≤ (f 15).toInt; omega) (by show (f 15).toInt ≤ (32767 : Int); omega) (by show (0 : Int) ≤ (f 24).toInt; omega) (by show (f 24).toInt ≤ (16384 : Int); omega) (by show (0 : Int) ≤ (f 62).toInt; omega) (by show (f 62).toInt ≤ (65000 : Int); omega)) ?_
  rintro v0 S1 (⟨o2, s3, m4, g'5, hv6, hS7, hR14, h8, h9, h10, h11, h12, h13⟩)
  subst hv6
  have h8_ : (f 62).toInt ≤ o2.toInt := h8
  have h9_ : o2.toInt ≤ (f 62).toInt + 64 := h9
  have h10_ : (f 68).toInt ≤ s3.toInt := h10
  have h11_ : s3.toInt ≤ (f 68).toInt + 1 := h11
  have h12_ : o2.toInt + 64 * mj_n (g'5 16) (f 15).toNatClampNeg 3 ≤ (f 62).toInt + 64 * mj_n (g 16) (f 15).toNatClampNeg 3 := h12
  have h13_ : ∀ j, j ∉ [16, 60, 63, 64, 65, 66, 67, 69, 70, 71, 72, 73] → g'5 j = g j := h13
  have hR14_ : RJ (upd (upd (upd f 62 o2) 68 s3) 75 m4) g'5 gs bc [] 0 [] := hR14
  show am_E _ _ _ _ [some (.ref 39), some (.int 27), some (.int on), some (.int tw)] [] _ _
  refine am_e2 (v := 39) hi_181_142 rfl ?_
  refine am_e1 (v := on) hi_181_143 rfl ?_
  refine am_e0 hi_181_144 ?_
  by_cases c15 : ¬ on.toInt = (24 : Int)
  · refine am_e13t hi_181_146 (am_cT (m := on.toInt) (n := (24 : Int)) rfl (by decide) c15) ?_
    refine am_e0 hi_181_154 ?_
    refine am_e1 (v := on) hi_181_156 rfl ?_
    refine am_e0 hi_181_157 ?_
    refine am_e13t hi_181_159 (am_cT (m := on.toInt) (n := (24 : Int)) rfl (by decide) (by simp only [am_cI]; omega)) ?_
    refine am_e1 (v := on) hi_181_166 rfl ?_
    refine am_e0 hi_181_167 ?_
    refine am_e1 (v := tw) hi_181_168 rfl ?_
    refine am_e32n (as := [.ref 39, .int 18, .int on, .int 0, .int tw]) (la := [some (.ref 39), some (.int 18), some (.int on), some (.int 0), some (.int tw)]) (rest := []) hi_181_169 (am_hd0 (M := 181) (by decide) 169) (Nat.le_of_ble_eq_true rfl) (Nat.le_of_ble_eq_true rfl) (show 5 ≤ am_P0.2.2.1 189 from by decide +kernel) rfl (am_recv_ok hS7.fs) rfl rfl (ct_put (d := (d + 6)) hS7 hR14_  (by show (0 : Int) ≤ (f 32).toInt; omega) (by show (f 32).toInt ≤ (63 : Int); omega) (by show (f 53).toInt ≤ (4096 : Int); omega) (by show (0 : Int) ≤ s3.toInt; omega) (by show s3.toInt ≤ (65534 : Int); omega)) ?_
    rintro v16 S17 (⟨z18, r19, g'20, hv21, hS22, hR26, h23, h24, h25⟩)
    subst hv21
    have h23_ : z18.toInt = s3.toInt + 1 := h23
    have h24_ : r19.toInt = s3.toInt := h24
    have h25_ : ∀ j, j ∉ [60, 69, 70, 71, 72, 73] → g'20 j = g'5 j := h25
    replace hS22 : MS S0 S17 (upd (upd (upd f 62 o2) 68 z18) 75 m4) g'20 := hS22
    have hR26_ : RJ (upd (upd (upd f 62 o2) 68 z18) 75 m4) g'20 gs bc [] 0 (s3.toNatClampNeg :: []) := hR26
    show am_E _ _ _ _ [some (.ref 39), some (.int 27), some (.int on), some (.int tw)] [.int r19] _ _
    refine am_e6i hi_181_172 ?_
    refine am_e18 hi_181_173 ?_
    refine am_e35 hi_181_397 ?_
    show am_E _ _ _ _ [some (.ref 39), some (.int 27), some (.int on), some (.int tw), some (.int th)] [] _ _
    refine am_e35 hi_180_13 ?_
    have q1 : mg_p1 gs = mg_p1 gs := rfl
    have q2 : mg_p2 gs = mg_p2 gs := rfl
    have q3 : mg_p3 gs = mg_p3 gs := rfl
    have q4 : mg_p4 gs = mg_p4 gs := rfl
    refine ⟨_, _, _, bc, rfl, hS22, Or.inl ⟨⟨(RJ.fewer (pj' := []) hR26_ (fun _ h => nomatch h)), ?_, ?_⟩, rfl, ?_⟩⟩
    · exact (mg_cast (mg_good_ext _ _ _ _ _ _ (fun i _ => by show g'20 34 i = g 34 i; rw [show g'20 34 = g'5 34 from h25_ 34 (by decide), show g'5 34 = g 34 from h13_ 34 (by decide)]) (fun i _ => by show g'20 38 i = g 38 i; rw [show g'20 38 = g'5 38 from h25_ 38 (by decide), show g'5 38 = g 38 from h13_ 38 (by decide)]) (fun i _ => by show g'20 23 i = g 23 i; rw [show g'20 23 = g'5 23 from h25_ 23 (by decide), show g'5 23 = g 23 from h13_ 23 (by decide)]) hrest) (by show (f 15).toInt + 0 = (f 15).toInt; omega) (by show (f 20).toInt = (f 20).toInt; omega) (by show (f 37).toInt + 0 = (f 37).toInt; omega) (by show (f 32).toInt + 0 = (f 32).toInt; omega) (by show (f 5).toInt + 0 = (f 5).toInt; omega) : mg_good (g'20 34) (g'20 38) (g'20 23) gs ((f 15).toInt) ((f 20).toInt) ((f 37).toInt) ((f 32).toInt) ((f 5).toInt))
    · exact ⟨(by show 0 ≤ (f 4).toInt; omega), (by show (f 4).toInt ≤ (f 0).toInt; omega), (by show (f 0).toInt ≤ 512; omega), (by show 0 ≤ (f 24).toInt; omega), (by show (f 24).toInt + (f 20).toInt + mg_p1 gs ≤ 4 * (f 4).toInt; omega), (by show (f 20).toInt ≤ (f 4).toInt; omega), (by show (f 15).toInt + mg_p2 gs ≤ (f 4).toInt; omega), (by show mg_p3 gs ≤ 20 * (f 4).toInt + 20; omega), (by show 0 ≤ z18.toInt; omega), (by show z18.toInt + 3 * (f 20).toInt + mg_p4 gs ≤ 60 * (f 4).toInt + 60; omega), (by show 0 ≤ o2.toInt; omega), (by show o2.toInt + 64 * mj_n (g'20 16) (f 15).toNatClampNeg 3 ≤ 64 * (f 4).toInt; rw [show g'20 16 = g'5 16 from h25_ 16 (by decide)]; omega), (by show 0 ≤ (f 44).toInt; omega), (by show (f 44).toInt ≤ (f 4).toInt; omega), (by show 0 ≤ (f 48).toInt; omega), (by show (f 48).toInt ≤ (f 4).toInt; omega), (by show 1 ≤ (f 53).toInt; omega), (by show (f 53).toInt ≤ (f 4).toInt + 1; omega), (by show 0 ≤ (f 19).toInt; omega), (by show (f 19).toInt ≤ 600; omega), (by show 0 ≤ (f 6).toInt; omega), (by show 0 ≤ (f 8).toInt; omega)⟩
    · show 100 * ((f 0).toInt - (f 4).toInt) + mg_p3 gs < 100 * ((f 0).toInt - (f 4).toInt) + (1 + mg_p3 gs); omega
  · refine am_e13f hi_181_146 (am_cF (m := on.toInt) (n := (24 : Int)) rfl (by decide) c15) ?_
    refine am_e0 hi_181_149 ?_
    refine am_e18 hi_181_151 ?_
    refine am_e1 (v := on) hi_181_156 rfl ?_
    refine am_e0 hi_181_157 ?_
    refine am_e13f hi_181_159 (am_cF (m := on.toInt) (n := (24 : Int)) rfl (by decide) (by simp only [am_cI]; omega)) ?_
    refine am_e0 hi_181_162 ?_
    refine am_e18 hi_181_163 ?_
    refine am_e0 hi_181_167 ?_
    refine am_e1 (v := tw) hi_181_168 rfl ?_
    refine am_e32n (as := [.ref 39, .int 17, .int 0, .int 0, .int tw]) (la := [some (.ref 39), some (.int 17), some (.int 0), some (.int 0), some (.int tw)]) (rest := []) hi_181_169 (am_hd0 (M := 181) (by decide) 169) (Nat.le_of_ble_eq_true rfl) (Nat.le_of_ble_eq_true rfl) (show 5 ≤ am_P0.2.2.1 189 from by decide +kernel) rfl (am_recv_ok hS7.fs) rfl rfl (ct_put (d := (d + 6)) hS7 hR14_  (by show (0 : Int) ≤ (f 32).toInt; omega) (by show (f 32).toInt ≤ (63 : Int); omega) (by show (f 53).toInt ≤ (4096 : Int); omega) (by show (0 : Int) ≤ s3.toInt; omega) (by show s3.toInt ≤ (65534 : Int); omega)) ?_
    rintro v27 S28 (⟨z29, r30, g'31, hv32, hS33, hR37, h34, h35, h36⟩)
    subst hv32
    have h34_ : z29.toInt = s3.toInt + 1 := h34
    have h35_ : r30.toInt = s3.toInt := h35
    have h36_ : ∀ j, j ∉ [60, 69, 70, 71, 72, 73] → g'31 j = g'5 j := h36
    replace hS33 : MS S0 S28 (upd (upd (upd f 62 o2) 68 z29) 75 m4) g'31 := hS33
    have hR37_ : RJ (upd (upd (upd f 62 o2) 68 z29) 75 m4) g'31 gs bc [] 0 (s3.toNatClampNeg :: []) := hR37
    show am_E _ _ _ _ [some (.ref 39), some (.int 27), some (.int on), some (.int tw)] [.int r30] _ _
    refine am_e6i hi_181_172 ?_
    refine am_e18 hi_181_173 ?_
    refine am_e35 hi_181_397 ?_
    show am_E _ _ _ _ [some (.ref 39), some (.int 27), some (.int on), some (.int tw), some (.int th)] [] _ _
    refine am_e35 hi_180_13 ?_
    have q1 : mg_p1 gs = mg_p1 gs := rfl
    have q2 : mg_p2 gs = mg_p2 gs := rfl
    have q3 : mg_p3 gs = mg_p3 gs := rfl
    have q4 : mg_p4 gs = mg_p4 gs := rfl
    refine ⟨_, _, _, bc, rfl, hS33, Or.inl ⟨⟨(RJ.fewer (pj' := []) hR37_ (fun _ h => nomatch h)), ?_, ?_⟩, rfl, ?_⟩⟩
    · exact (mg_cast (mg_good_ext _ _ _ _ _ _ (fun i _ => by show g'31 34 i = g 34 i; rw [show g'31 34 = g'5 34 from h36_ 34 (by decide), show g'5 34 = g 34 from h13_ 34 (by decide)]) (fun i _ => by show g'31 38 i = g 38 i; rw [show g'31 38 = g'5 38 from h36_ 38 (by decide), show g'5 38 = g 38 from h13_ 38 (by decide)]) (fun i _ => by show g'31 23 i = g 23 i; rw [show g'31 23 = g'5 23 from h36_ 23 (by decide), show g'5 23 = g 23 from h13_ 23 (by decide)]) hrest) (by show (f 15).toInt + 0 = (f 15).toInt; omega) (by show (f 20).toInt = (f 20).toInt; omega) (by show (f 37).toInt + 0 = (f 37).toInt; omega) (by show (f 32).toInt + 0 = (f 32).toInt; omega) (by show (f 5).toInt + 0 = (f 5).toInt; omega) : mg_good (g'31 34) (g'31 38) (g'31 23) gs ((f 15).toInt) ((f 20).toInt) ((f 37).toInt) ((f 32).toInt) ((f 5).toInt))
    · exact ⟨(by show 0 ≤ (f 4).toInt; omega), (by show (f 4).toInt ≤ (f 0).toInt; omega), (by show (f 0).toInt ≤ 512; omega), (by show 0 ≤ (f 24).toInt; omega), (by show (f 24).toInt + (f 20).toInt + mg_p1 gs ≤ 4 * (f 4).toInt; omega), (by show (f 20).toInt ≤ (f 4).toInt; omega), (by show (f 15).toInt + mg_p2 gs ≤ (f 4).toInt; omega), (by show mg_p3 gs ≤ 20 * (f 4).toInt + 20; omega), (by show 0 ≤ z29.toInt; omega), (by show z29.toInt + 3 * (f 20).toInt + mg_p4 gs ≤ 60 * (f 4).toInt + 60; omega), (by show 0 ≤ o2.toInt; omega), (by show o2.toInt + 64 * mj_n (g'31 16) (f 15).toNatClampNeg 3 ≤ 64 * (f 4).toInt; rw [show g'31 16 = g'5 16 from h36_ 16 (by decide)]; omega), (by show 0 ≤ (f 44).toInt; omega), (by show (f 44).toInt ≤ (f 4).toInt; omega), (by show 0 ≤ (f 48).toInt; omega), (by show (f 48).toInt ≤ (f 4).toInt; omega), (by show 1 ≤ (f 53).toInt; omega), (by show (f 53).toInt ≤ (f 4).toInt + 1; omega), (by show 0 ≤ (f 19).toInt; omega), (by show (f 19).toInt ≤ 600; omega), (by show 0 ≤ (f 6).toInt; omega), (by show 0 ≤ (f 8).toInt; omega)⟩
    · show 100 * ((f 0).toInt - (f 4).toInt) + mg_p3 gs < 100 * ((f 0).toInt - (f 4).toInt) + (1 + mg_p3 gs); omega
theorem st_29 {sc : Nat × (Nat → Int32)} {d : Nat} {S0 S : am_S} {f : Nat → Int32} {g : Nat → Nat → Int32} {on : Int32} {tw : Int32} {th : Int32} {gs : List mg_E} {bc : List (List Nat)} (hS : MS S0 S f g) (hR : RJ f g gs bc [] 0 []) (hrest : mg_good (g 34) (g 38) (g 23) gs ((f 15).toInt + 0) ((f 20).toInt) ((f 37).toInt + 0) ((f 32).toInt + 0) ((f 5).toInt + -1)) (p0 : 0 ≤ (f 4).toInt) (p1 : (f 4).toInt ≤ (f 0).toInt) (p2 : (f 0).toInt ≤ 512) (p3 : 0 ≤ (f 24).toInt) (p4 : (f 24).toInt + (f 20).toInt + mg_p1 gs ≤ 4 * (f 4).toInt) (p5 : (f 20).toInt ≤ (f 4).toInt) (p6 : (f 15).toInt + 0 + mg_p2 gs ≤ (f 4).toInt) (p7 : 1 + mg_p3 gs ≤ 20 * (f 4).toInt + 20) (p8 : 0 ≤ (f 68).toInt) (p9 : (f 68).toInt + 3 * (f 20).toInt + 0 + mg_p4 gs ≤ 60 * (f 4).toInt + 60) (p10 : 0 ≤ (f 62).toInt) (p11 : (f 62).toInt + 64 * mj_n (g 16) (f 15).toNatClampNeg 3 ≤ 64 * (f 4).toInt) (p12 : 0 ≤ (f 44).toInt) (p13 : (f 44).toInt ≤ (f 4).toInt) (p14 : 0 ≤ (f 48).toInt) (p15 : (f 48).toInt ≤ (f 4).toInt) (p16 : 1 ≤ (f 53).toInt) (p17 : (f 53).toInt ≤ (f 4).toInt + 1) (p18 : 0 ≤ (f 19).toInt) (p19 : (f 19).toInt ≤ 600) (p20 : 0 ≤ (f 6).toInt) (p21 : 0 ≤ (f 8).toInt) (p22 : 0 ≤ mg_p1 gs) (p23 : 0 ≤ mg_p2 gs) (p24 : 0 ≤ mg_p4 gs) (p25 : 0 ≤ (f 10).toInt) (p26 : (f 10).toInt ≤ mg_p3 gs) (p27 : 0 ≤ mj_n (g 16) (f 15).toNatClampNeg 3) (p28 : 1 ≤ (f 15).toInt) (p29 : 0 ≤ (f 20).toInt) (p30 : 1 ≤ (f 37).toInt) (p31 : 0 ≤ (f 32).toInt) (p32 : (f 32).toInt ≤ (f 5).toInt) (p33 : (f 5).toInt ≤ 48) (p34 : (f 37).toInt ≤ 2 * (f 5).toInt + 2) : am_E (am_PP sc) (d + 8) 180 0 [some (.ref 39), some (.int 29), some (.int on), some (.int tw), some (.int th)] [] S (am_N fun v S1 => ∃ (f' : Nat → Int32) (g' : Nat → Nat → Int32) (gs' : List mg_E) (bc' : List (List Nat)), v = none ∧ MS S0 S1 f' g' ∧ (mg_on f (100 * ((f 0).toInt - (f 4).toInt) + (1 + mg_p3 gs)) f' g' gs' bc' ∨ mg_off f f' g' bc')) := by
  have hbs := mg_basic hrest
  refine am_e1 (v := 29) hi_180_0 rfl ?_
  refine am_e0 hi_180_1 ?_
  refine am_e13f hi_180_3 (by decide) ?_
  refine am_e2 (v := 39) hi_180_6 rfl ?_
  refine am_e1 (v := 29) hi_180_7 rfl ?_
  refine am_e1 (v := on) hi_180_8 rfl ?_
  refine am_e1 (v := tw) hi_180_9 rfl ?_
  refine am_e32w (as := [.ref 39, .int 29, .int on, .int tw]) (la := [some (.ref 39), some (.int 29), some (.int on), some (.int tw)]) (rest := []) hi_180_10 (am_hd0 (M := 180) (by decide) 10) (Nat.le_of_ble_eq_true rfl) (Nat.le_of_ble_eq_true rfl) (show 4 ≤ am_P0.2.2.1 181 from by decide +kernel) rfl (am_recv_ok hS.fs) rfl rfl ?_
  refine am_e1 (v := 29) hi_181_0 rfl ?_
  refine am_e19 (t := 183) hi_181_1 (by decide) ?_
  refine am_e2 (v := 39) hi_181_183 rfl ?_
  refine am_e32n (as := [.ref 39]) (la := [some (.ref 39), none, none, none]) (rest := []) hi_181_184 (am_hd0 (M := 181) (by decide) 184) (Nat.le_of_ble_eq_true rfl) (Nat.le_of_ble_eq_true rfl) (show 1 ≤ am_P0.2.2.1 204 from by decide +kernel) rfl (am_recv_ok hS.fs) rfl rfl (ct_load (d := (d + 4)) hS hR  (by show (0 : Int) ≤ (f 32).toInt; omega) (by show (f 32).toInt ≤ (63 : Int); omega) (by show (f 53).toInt ≤ (4096 : Int); omega) (by show (0 : Int) ≤ (f 68).toInt; omega) (by show (f 68).toInt ≤ (65534 : Int); omega) (by show (1 : Int) ≤ (f 15).toInt; omega) (by show (f 15).toInt ≤ (32767 : Int); omega) (by show (0 : Int) ≤ (f 24).toInt; omega) (by show (f 24).toInt ≤ (16384 : Int); omega) (by show (0 : Int) ≤ (f 62).toInt; omega) (by show (f 62).toInt ≤ (65000 : Int); omega)) ?_
  rintro v0 S1 (⟨o2, s3, m4, g'5, hv6, hS7, hR14, h8, h9, h10, h11, h12, h13⟩)
  subst hv6
  have h8_ : (f 62).toInt ≤ o2.toInt := h8
  have h9_ : o2.toInt ≤ (f 62).toInt + 64 := h9
  have h10_ : (f 68).toInt ≤ s3.toInt := h10
  have h11_ : s3.toInt ≤ (f 68).toInt + 1 := h11
  have h12_ : o2.toInt + 64 * mj_n (g'5 16) (f 15).toNatClampNeg 3 ≤ (f 62).toInt + 64 * mj_n (g 16) (f 15).toNatClampNeg 3 := h12
  have h13_ : ∀ j, j ∉ [16, 60, 63, 64, 65, 66, 67, 69, 70, 71, 72, 73] → g'5 j = g j := h13
  have hR14_ : RJ (upd (upd (upd f 62 o2) 68 s3) 75 m4) g'5 gs bc [] 0 [] := hR14
  show am_E _ _ _ _ [some (.ref 39), some (.int 29), some (.int on), some (.int tw)] [] _ _
  refine am_e2 (v := 39) hi_181_187 rfl ?_
  refine am_e0 hi_181_188 ?_
  refine am_e32n (as := [.ref 39, .int 61]) (la := [some (.ref 39), some (.int 61)]) (rest := []) hi_181_190 (am_hd0 (M := 181) (by decide) 190) (Nat.le_of_ble_eq_true rfl) (Nat.le_of_ble_eq_true rfl) (show 2 ≤ am_P0.2.2.1 199 from by decide +kernel) rfl (am_recv_ok hS7.fs) rfl rfl (ct_leave (d := (d + 3)) hS7   (by show (0 : Int) ≤ (f 4).toInt; omega) (by show (f 0).toInt ≤ (16384 : Int); omega) (by show (0 : Int) ≤ (61 : Int); omega) (by show (0 : Int) ≤ (f 5).toInt; omega) (by show (f 5).toInt ≤ (48 : Int); omega) (by show (0 : Int) ≤ (f 6).toInt; omega)) ?_
  rintro v15 S16 (⟨z17, y18, hv19, hS20, h21, h22, h23⟩ | ⟨a25, b26, hv27, hS28, h29⟩)
  · subst hv19
    have h21_ : z17.toInt = (f 4).toInt + 1 := h21
    have h22_ : (f 4).toInt < (f 0).toInt := h22
    have h23_ : y18.toInt = (f 5).toInt - 1 := h23
    replace hS20 : MS S0 S16 (upd (upd (upd (upd (upd f 4 z17) 5 y18) 62 o2) 68 s3) 75 m4) g'5 := hS20
    have hR31 : RJ (upd (upd (upd (upd (upd f 4 z17) 5 y18) 62 o2) 68 s3) 75 m4) g'5 gs bc [] 0 [] := RJ.at hR14_ (by show (f 4).toInt ≤ z17.toInt; omega)
    show am_E _ _ _ _ [some (.ref 39), some (.int 29), some (.int on), some (.int tw)] [.int 1] _ _
    refine am_e6i hi_181_193 ?_
    refine am_e18 hi_181_194 ?_
    refine am_e35 hi_181_397 ?_
    show am_E _ _ _ _ [some (.ref 39), some (.int 29), some (.int on), some (.int tw), some (.int th)] [] _ _
    refine am_e35 hi_180_13 ?_
    have q1 : mg_p1 gs = mg_p1 gs := rfl
    have q2 : mg_p2 gs = mg_p2 gs := rfl
    have q3 : mg_p3 gs = mg_p3 gs := rfl
    have q4 : mg_p4 gs = mg_p4 gs := rfl
    refine ⟨_, _, _, bc, rfl, hS20, Or.inl ⟨⟨hR31, ?_, ?_⟩, rfl, ?_⟩⟩
    · exact (mg_cast (mg_good_ext _ _ _ _ _ _ (fun i _ => by show g'5 34 i = g 34 i; rw [show g'5 34 = g 34 from h13_ 34 (by decide)]) (fun i _ => by show g'5 38 i = g 38 i; rw [show g'5 38 = g 38 from h13_ 38 (by decide)]) (fun i _ => by show g'5 23 i = g 23 i; rw [show g'5 23 = g 23 from h13_ 23 (by decide)]) hrest) (by show (f 15).toInt + 0 = (f 15).toInt; omega) (by show (f 20).toInt = (f 20).toInt; omega) (by show (f 37).toInt + 0 = (f 37).toInt; omega) (by show (f 32).toInt + 0 = (f 32).toInt; omega) (by show (f 5).toInt + -1 = y18.toInt; omega) : mg_good (g'5 34) (g'5 38) (g'5 23) gs ((f 15).toInt) ((f 20).toInt) ((f 37).toInt) ((f 32).toInt) (y18.toInt))
    · exact ⟨(by show 0 ≤ z17.toInt; omega), (by show z17.toInt ≤ (f 0).toInt; omega), (by show (f 0).toInt ≤ 512; omega), (by show 0 ≤ (f 24).toInt; omega), (by show (f 24).toInt + (f 20).toInt + mg_p1 gs ≤ 4 * z17.toInt; omega), (by show (f 20).toInt ≤ z17.toInt; omega), (by show (f 15).toInt + mg_p2 gs ≤ z17.toInt; omega), (by show mg_p3 gs ≤ 20 * z17.toInt + 20; omega), (by show 0 ≤ s3.toInt; omega), (by show s3.toInt + 3 * (f 20).toInt + mg_p4 gs ≤ 60 * z17.toInt + 60; omega), (by show 0 ≤ o2.toInt; omega), (by show o2.toInt + 64 * mj_n (g'5 16) (f 15).toNatClampNeg 3 ≤ 64 * z17.toInt; omega), (by show 0 ≤ (f 44).toInt; omega), (by show (f 44).toInt ≤ z17.toInt; omega), (by show 0 ≤ (f 48).toInt; omega), (by show (f 48).toInt ≤ z17.toInt; omega), (by show 1 ≤ (f 53).toInt; omega), (by show (f 53).toInt ≤ z17.toInt + 1; omega), (by show 0 ≤ (f 19).toInt; omega), (by show (f 19).toInt ≤ 600; omega), (by show 0 ≤ (f 6).toInt; omega), (by show 0 ≤ (f 8).toInt; omega)⟩
    · show 100 * ((f 0).toInt - z17.toInt) + mg_p3 gs < 100 * ((f 0).toInt - (f 4).toInt) + (1 + mg_p3 gs); omega
  · subst hv27
    have h29_ : (0 : Int) ≤ a25.toInt := h29
    replace hS28 : MS S0 S16 (upd (upd (upd (upd (upd (upd f 6 a25) 7 b26) 10 0) 62 o2) 68 s3) 75 m4) g'5 := hS28
    have hR32 := rj_clear0 hR14_
    have hR33 : RJ (upd (upd (upd (upd (upd (upd f 6 a25) 7 b26) 10 0) 62 o2) 68 s3) 75 m4) g'5 [] bc [] 0 [] := hR32
    show am_E _ _ _ _ [some (.ref 39), some (.int 29), some (.int on), some (.int tw)] [.int 0] _ _
    refine am_e6i hi_181_193 ?_
    refine am_e18 hi_181_194 ?_
    refine am_e35 hi_181_397 ?_
    show am_E _ _ _ _ [some (.ref 39), some (.int 29), some (.int on), some (.int tw), some (.int th)] [] _ _
    refine am_e35 hi_180_13 ?_
    have hRc := rj_clear0 hR33
    refine ⟨_, _, [], _, rfl, hS28, Or.inr ⟨hRc, rfl, (by show 0 ≤ (f 4).toInt; omega), (by show (f 4).toInt ≤ (f 0).toInt; omega), (by show 0 ≤ (f 32).toInt; omega), (by show (f 32).toInt ≤ 63; omega), (by show 1 ≤ (f 53).toInt; omega), (by show (f 53).toInt ≤ 600; omega), (by show 0 ≤ s3.toInt; omega), (by show s3.toInt ≤ 60000; omega), (by show 0 ≤ (f 48).toInt; omega), (by show (f 48).toInt ≤ 8000; omega), (by show 0 ≤ (f 37).toInt; omega), (by show (f 37).toInt ≤ 128; omega), (by show 0 ≤ o2.toInt; omega), (by show o2.toInt ≤ 65000; omega), (by show 0 ≤ (f 19).toInt; omega), (by show (f 19).toInt ≤ 600; omega), (by show 0 ≤ a25.toInt; omega), (by show 0 ≤ (f 8).toInt; omega)⟩⟩
theorem st_30 {sc : Nat × (Nat → Int32)} {d : Nat} {S0 S : am_S} {f : Nat → Int32} {g : Nat → Nat → Int32} {on : Int32} {tw : Int32} {th : Int32} {gs : List mg_E} {bc : List (List Nat)} (hS : MS S0 S f g) (hR : RJ f g gs bc [] 0 []) (hrest : mg_good (g 34) (g 38) (g 23) gs ((f 15).toInt + -1) ((f 20).toInt) ((f 37).toInt + 0) ((f 32).toInt + 0) ((f 5).toInt + -1)) (p0 : 0 ≤ (f 4).toInt) (p1 : (f 4).toInt ≤ (f 0).toInt) (p2 : (f 0).toInt ≤ 512) (p3 : 0 ≤ (f 24).toInt) (p4 : (f 24).toInt + (f 20).toInt + mg_p1 gs ≤ 4 * (f 4).toInt) (p5 : (f 20).toInt ≤ (f 4).toInt) (p6 : (f 15).toInt + 0 + mg_p2 gs ≤ (f 4).toInt) (p7 : 1 + mg_p3 gs ≤ 20 * (f 4).toInt + 20) (p8 : 0 ≤ (f 68).toInt) (p9 : (f 68).toInt + 3 * (f 20).toInt + 0 + mg_p4 gs ≤ 60 * (f 4).toInt + 60) (p10 : 0 ≤ (f 62).toInt) (p11 : (f 62).toInt + 64 * mj_n (g 16) (f 15).toNatClampNeg 3 ≤ 64 * (f 4).toInt) (p12 : 0 ≤ (f 44).toInt) (p13 : (f 44).toInt ≤ (f 4).toInt) (p14 : 0 ≤ (f 48).toInt) (p15 : (f 48).toInt ≤ (f 4).toInt) (p16 : 1 ≤ (f 53).toInt) (p17 : (f 53).toInt ≤ (f 4).toInt + 1) (p18 : 0 ≤ (f 19).toInt) (p19 : (f 19).toInt ≤ 600) (p20 : 0 ≤ (f 6).toInt) (p21 : 0 ≤ (f 8).toInt) (p22 : 0 ≤ mg_p1 gs) (p23 : 0 ≤ mg_p2 gs) (p24 : 0 ≤ mg_p4 gs) (p25 : 0 ≤ (f 10).toInt) (p26 : (f 10).toInt ≤ mg_p3 gs) (p27 : 0 ≤ mj_n (g 16) (f 15).toNatClampNeg 3) (p28 : 2 ≤ (f 15).toInt) (p29 : 0 ≤ (f 20).toInt) (p30 : 1 ≤ (f 37).toInt) (p31 : 0 ≤ (f 32).toInt) (p32 : (f 32).toInt ≤ (f 5).toInt) (p33 : (f 5).toInt ≤ 48) (p34 : (f 37).toInt ≤ 2 * (f 5).toInt + 2) : am_E (am_PP sc) (d + 8) 180 0 [some (.ref 39), some (.int 30), some (.int on), some (.int tw), some (.int th)] [] S (am_N fun v S1 => ∃ (f' : Nat → Int32) (g' : Nat → Nat → Int32) (gs' : List mg_E) (bc' : List (List Nat)), v = none ∧ MS S0 S1 f' g' ∧ (mg_on f (100 * ((f 0).toInt - (f 4).toInt) + (1 + mg_p3 gs)) f' g' gs' bc' ∨ mg_off f f' g' bc')) := by
  have hbs := mg_basic hrest
  refine am_e1 (v := 30) hi_180_0 rfl ?_
  refine am_e0 hi_180_1 ?_
  refine am_e13f hi_180_3 (by decide) ?_
  refine am_e2 (v := 39) hi_180_6 rfl ?_
  refine am_e1 (v := 30) hi_180_7 rfl ?_
  refine am_e1 (v := on) hi_180_8 rfl ?_
  refine am_e1 (v := tw) hi_180_9 rfl ?_
  refine am_e32w (as := [.ref 39, .int 30, .int on, .int tw]) (la := [some (.ref 39), some (.int 30), some (.int on), some (.int tw)]) (rest := []) hi_180_10 (am_hd0 (M := 180) (by decide) 10) (Nat.le_of_ble_eq_true rfl) (Nat.le_of_ble_eq_true rfl) (show 4 ≤ am_P0.2.2.1 181 from by decide +kernel) rfl (am_recv_ok hS.fs) rfl rfl ?_
  refine am_e1 (v := 30) hi_181_0 rfl ?_
  refine am_e19 (t := 197) hi_181_1 (by decide) ?_
  refine am_e2 (v := 39) hi_181_197 rfl ?_
  refine am_e32w (as := [.ref 39]) (la := [some (.ref 39)]) (rest := []) hi_181_198 (am_hd0 (M := 181) (by decide) 198) (Nat.le_of_ble_eq_true rfl) (Nat.le_of_ble_eq_true rfl) (show 1 ≤ am_P0.2.2.1 209 from by decide +kernel) rfl (am_recv_ok hS.fs) rfl rfl ?_
  refine am_e2 (v := 39) hi_209_0 rfl ?_
  refine am_e32n (as := [.ref 39]) (la := [some (.ref 39), none, none, none]) (rest := []) hi_209_1 (am_hd0 (M := 209) (by decide) 1) (Nat.le_of_ble_eq_true rfl) (Nat.le_of_ble_eq_true rfl) (show 1 ≤ am_P0.2.2.1 204 from by decide +kernel) rfl (am_recv_ok hS.fs) rfl rfl (ct_load (d := (d + 3)) hS hR  (by show (0 : Int) ≤ (f 32).toInt; omega) (by show (f 32).toInt ≤ (63 : Int); omega) (by show (f 53).toInt ≤ (4096 : Int); omega) (by show (0 : Int) ≤ (f 68).toInt; omega) (by show (f 68).toInt ≤ (65534 : Int); omega) (by show (1 : Int) ≤ (f 15).toInt; omega) (by show (f 15).toInt ≤ (32767 : Int); omega) (by show (0 : Int) ≤ (f 24).toInt; omega) (by show (f 24).toInt ≤ (16384 : Int); omega) (by show (0 : Int) ≤ (f 62).toInt; omega) (by show (f 62).toInt ≤ (65000 : Int); omega)) ?_
  rintro v0 S1 (⟨o2, s3, m4, g'5, hv6, hS7, hR14, h8, h9, h10, h11, h12, h13⟩)
  subst hv6
  have h8_ : (f 62).toInt ≤ o2.toInt := h8
  have h9_ : o2.toInt ≤ (f 62).toInt + 64 := h9
  have h10_ : (f 68).toInt ≤ s3.toInt := h10
  have h11_ : s3.toInt ≤ (f 68).toInt + 1 := h11
  have h12_ : o2.toInt + 64 * mj_n (g'5 16) (f 15).toNatClampNeg 3 ≤ (f 62).toInt + 64 * mj_n (g 16) (f 15).toNatClampNeg 3 := h12
  have h13_ : ∀ j, j ∉ [16, 60, 63, 64, 65, 66, 67, 69, 70, 71, 72, 73] → g'5 j = g j := h13
  have hR14_ : RJ (upd (upd (upd f 62 o2) 68 s3) 75 m4) g'5 gs bc [] 0 [] := hR14
  show am_E _ _ _ _ [some (.ref 39)] [] _ _
  refine am_e2 (v := 39) hi_209_4 rfl ?_
  refine am_e7 hi_209_5 ?_
  refine mm_20 (v := .int (f 15)) hS7 hi_209_6 rfl ?_
  refine am_e0 hi_209_9 ?_
  obtain ⟨z15, hz15, tz15⟩ := am_subI (x := f 15) (y := 1) (m := (f 15).toInt) (n := (1 : Int)) rfl (by decide) (by omega) (by omega)
  refine am_e10 (z := z15) hi_209_10 hz15 ?_
  refine mm_21 (v := z15) hS7 hi_209_11 rfl (Nat.le_of_ble_eq_true rfl) ms_15 ?_
  intro S16 hS17
  replace hS17 : MS S0 S16 (upd (upd (upd (upd f 15 z15) 62 o2) 68 s3) 75 m4) g'5 := hS17
  have hp18 : mj_n (g'5 16) (f 15).toNatClampNeg 3 = mj_n (g'5 16) z15.toNatClampNeg 3 + if (g'5 16 z15.toNatClampNeg).toInt = 3 then 1 else 0 := mj_pop (by rw [cl_toNat, cl_toNat]; omega)
  have hp181 : mj_n (g'5 16) z15.toNatClampNeg 3 ≤ mj_n (g'5 16) (f 15).toNatClampNeg 3 := by rw [hp18]; split <;> omega
  have hp182 : (g'5 16 z15.toNatClampNeg).toInt = 3 → mj_n (g'5 16) z15.toNatClampNeg 3 + 1 ≤ mj_n (g'5 16) (f 15).toNatClampNeg 3 := fun q => by rw [hp18, if_pos q]; exact Int.le_refl _
  refine am_e35 hi_209_14 ?_
  show am_E _ _ _ _ [some (.ref 39), some (.int 30), some (.int on), some (.int tw)] [] _ _
  refine am_e2 (v := 39) hi_181_201 rfl ?_
  refine am_e7 hi_181_202 ?_
  refine mm_20 (v := .int z15) hS17 hi_181_203 rfl ?_
  refine am_e0 hi_181_206 ?_
  obtain ⟨z19, hz19, tz19⟩ := am_subI (x := z15) (y := 1) (m := z15.toInt) (n := (1 : Int)) rfl (by decide) (by omega) (by omega)
  refine am_e10 (z := z19) hi_181_207 hz19 ?_
  refine mm_21 (v := z19) hS17 hi_181_208 rfl (Nat.le_of_ble_eq_true rfl) ms_15 ?_
  intro S20 hS21
  replace hS21 : MS S0 S20 (upd (upd (upd (upd f 15 z19) 62 o2) 68 s3) 75 m4) g'5 := hS21
  have hp22 : mj_n (g'5 16) z15.toNatClampNeg 3 = mj_n (g'5 16) z19.toNatClampNeg 3 + if (g'5 16 z19.toNatClampNeg).toInt = 3 then 1 else 0 := mj_pop (by rw [cl_toNat, cl_toNat]; omega)
  have hp221 : mj_n (g'5 16) z19.toNatClampNeg 3 ≤ mj_n (g'5 16) z15.toNatClampNeg 3 := by rw [hp22]; split <;> omega
  have hp222 : (g'5 16 z19.toNatClampNeg).toInt = 3 → mj_n (g'5 16) z19.toNatClampNeg 3 + 1 ≤ mj_n (g'5 16) z15.toNatClampNeg 3 := fun q => by rw [hp22, if_pos q]; exact Int.le_refl _
  refine am_e2 (v := 39) hi_181_211 rfl ?_
  refine am_e0 hi_181_212 ?_
  refine am_e0 hi_181_213 ?_
  refine am_e1 (v := on) hi_181_214 rfl ?_
  refine am_e32n (as := [.ref 39, .int 4, .int 0, .int on]) (la := [some (.ref 39), some (.int 4), some (.int 0), some (.int on)]) (rest := []) hi_181_215 (am_hd0 (M := 181) (by decide) 215) (Nat.le_of_ble_eq_true rfl) (Nat.le_of_ble_eq_true rfl) (show 4 ≤ am_P0.2.2.1 190 from by decide +kernel) rfl (am_recv_ok hS21.fs) rfl rfl (ct_value (d := (d + 6)) hS21 hR14_ (fun h => absurd h (by decide)) (fun h => absurd h (by decide)) (by show (0 : Int) ≤ z19.toInt; omega) (by show z19.toInt ≤ (32767 : Int); omega)) ?_
  rintro v23 S24 (⟨z25, g'26, hv27, hS28, hR33, h29, h30, h31, h32⟩)
  subst hv27
  have h29_ : z25.toInt = z19.toInt + 1 := h29
  have h30_ : ∀ j, j ∉ [16, 17, 18] → g'26 j = g'5 j := h30
  have h31_ : mj_n (g'26 16) z25.toNatClampNeg 3 ≤ mj_n (g'5 16) z19.toNatClampNeg 3 + 1 := h31
  have h32_ : (4 : Int) = 3 ∨ mj_n (g'26 16) z25.toNatClampNeg 3 ≤ mj_n (g'5 16) z19.toNatClampNeg 3 := h32
  replace hS28 : MS S0 S24 (upd (upd (upd (upd f 15 z25) 62 o2) 68 s3) 75 m4) g'26 := hS28
  have hR33_ : RJ (upd (upd (upd (upd f 15 z25) 62 o2) 68 s3) 75 m4) g'26 gs bc [] 0 [] := hR33
  show am_E _ _ _ _ [some (.ref 39), some (.int 30), some (.int on), some (.int tw)] [] _ _
  refine am_e2 (v := 39) hi_181_218 rfl ?_
  refine am_e0 hi_181_219 ?_
  refine am_e32n (as := [.ref 39, .int 65]) (la := [some (.ref 39), some (.int 65)]) (rest := []) hi_181_221 (am_hd0 (M := 181) (by decide) 221) (Nat.le_of_ble_eq_true rfl) (Nat.le_of_ble_eq_true rfl) (show 2 ≤ am_P0.2.2.1 199 from by decide +kernel) rfl (am_recv_ok hS28.fs) rfl rfl (ct_leave (d := (d + 3)) hS28   (by show (0 : Int) ≤ (f 4).toInt; omega) (by show (f 0).toInt ≤ (16384 : Int); omega) (by show (0 : Int) ≤ (65 : Int); omega) (by show (0 : Int) ≤ (f 5).toInt; omega) (by show (f 5).toInt ≤ (48 : Int); omega) (by show (0 : Int) ≤ (f 6).toInt; omega)) ?_
  rintro v34 S35 (⟨z36, y37, hv38, hS39, h40, h41, h42⟩ | ⟨a44, b45, hv46, hS47, h48⟩)
  · subst hv38
    have h40_ : z36.toInt = (f 4).toInt + 1 := h40
    have h41_ : (f 4).toInt < (f 0).toInt := h41
    have h42_ : y37.toInt = (f 5).toInt - 1 := h42
    replace hS39 : MS S0 S35 (upd (upd (upd (upd (upd (upd f 4 z36) 5 y37) 15 z25) 62 o2) 68 s3) 75 m4) g'26 := hS39
    have hR50 : RJ (upd (upd (upd (upd (upd (upd f 4 z36) 5 y37) 15 z25) 62 o2) 68 s3) 75 m4) g'26 gs bc [] 0 [] := RJ.at hR33_ (by show (f 4).toInt ≤ z36.toInt; omega)
    show am_E _ _ _ _ [some (.ref 39), some (.int 30), some (.int on), some (.int tw)] [.int 1] _ _
    refine am_e6i hi_181_224 ?_
    refine am_e18 hi_181_225 ?_
    refine am_e35 hi_181_397 ?_
    show am_E _ _ _ _ [some (.ref 39), some (.int 30), some (.int on), some (.int tw), some (.int th)] [] _ _
    refine am_e35 hi_180_13 ?_
    have q1 : mg_p1 gs = mg_p1 gs := rfl
    have q2 : mg_p2 gs = mg_p2 gs := rfl
    have q3 : mg_p3 gs = mg_p3 gs := rfl
    have q4 : mg_p4 gs = mg_p4 gs := rfl
    refine ⟨_, _, _, bc, rfl, hS39, Or.inl ⟨⟨hR50, ?_, ?_⟩, rfl, ?_⟩⟩
    · exact (mg_cast (mg_good_ext _ _ _ _ _ _ (fun i _ => by show g'26 34 i = g 34 i; rw [show g'26 34 = g'5 34 from h30_ 34 (by decide), show g'5 34 = g 34 from h13_ 34 (by decide)]) (fun i _ => by show g'26 38 i = g 38 i; rw [show g'26 38 = g'5 38 from h30_ 38 (by decide), show g'5 38 = g 38 from h13_ 38 (by decide)]) (fun i _ => by show g'26 23 i = g 23 i; rw [show g'26 23 = g'5 23 from h30_ 23 (by decide), show g'5 23 = g 23 from h13_ 23 (by decide)]) hrest) (by show (f 15).toInt + -1 = z25.toInt; omega) (by show (f 20).toInt = (f 20).toInt; omega) (by show (f 37).toInt + 0 = (f 37).toInt; omega) (by show (f 32).toInt + 0 = (f 32).toInt; omega) (by show (f 5).toInt + -1 = y37.toInt; omega) : mg_good (g'26 34) (g'26 38) (g'26 23) gs (z25.toInt) ((f 20).toInt) ((f 37).toInt) ((f 32).toInt) (y37.toInt))
    · exact ⟨(by show 0 ≤ z36.toInt; omega), (by show z36.toInt ≤ (f 0).toInt; omega), (by show (f 0).toInt ≤ 512; omega), (by show 0 ≤ (f 24).toInt; omega), (by show (f 24).toInt + (f 20).toInt + mg_p1 gs ≤ 4 * z36.toInt; omega), (by show (f 20).toInt ≤ z36.toInt; omega), (by show z25.toInt + mg_p2 gs ≤ z36.toInt; omega), (by show mg_p3 gs ≤ 20 * z36.toInt + 20; omega), (by show 0 ≤ s3.toInt; omega), (by show s3.toInt + 3 * (f 20).toInt + mg_p4 gs ≤ 60 * z36.toInt + 60; omega), (by show 0 ≤ o2.toInt; omega), (by show o2.toInt + 64 * mj_n (g'26 16) z25.toNatClampNeg 3 ≤ 64 * z36.toInt; omega), (by show 0 ≤ (f 44).toInt; omega), (by show (f 44).toInt ≤ z36.toInt; omega), (by show 0 ≤ (f 48).toInt; omega), (by show (f 48).toInt ≤ z36.toInt; omega), (by show 1 ≤ (f 53).toInt; omega), (by show (f 53).toInt ≤ z36.toInt + 1; omega), (by show 0 ≤ (f 19).toInt; omega), (by show (f 19).toInt ≤ 600; omega), (by show 0 ≤ (f 6).toInt; omega), (by show 0 ≤ (f 8).toInt; omega)⟩
    · show 100 * ((f 0).toInt - z36.toInt) + mg_p3 gs < 100 * ((f 0).toInt - (f 4).toInt) + (1 + mg_p3 gs); omega
  · subst hv46
    have h48_ : (0 : Int) ≤ a44.toInt := h48
    replace hS47 : MS S0 S35 (upd (upd (upd (upd (upd (upd (upd f 6 a44) 7 b45) 10 0) 15 z25) 62 o2) 68 s3) 75 m4) g'26 := hS47
    have hR51 := rj_clear0 hR33_
    have hR52 : RJ (upd (upd (upd (upd (upd (upd (upd f 6 a44) 7 b45) 10 0) 15 z25) 62 o2) 68 s3) 75 m4) g'26 [] bc [] 0 [] := hR51
    show am_E _ _ _ _ [some (.ref 39), some (.int 30), some (.int on), some (.int tw)] [.int 0] _ _
    refine am_e6i hi_181_224 ?_
    refine am_e18 hi_181_225 ?_
    refine am_e35 hi_181_397 ?_
    show am_E _ _ _ _ [some (.ref 39), some (.int 30), some (.int on), some (.int tw), some (.int th)] [] _ _
    refine am_e35 hi_180_13 ?_
    have hRc := rj_clear0 hR52
    refine ⟨_, _, [], _, rfl, hS47, Or.inr ⟨hRc, rfl, (by show 0 ≤ (f 4).toInt; omega), (by show (f 4).toInt ≤ (f 0).toInt; omega), (by show 0 ≤ (f 32).toInt; omega), (by show (f 32).toInt ≤ 63; omega), (by show 1 ≤ (f 53).toInt; omega), (by show (f 53).toInt ≤ 600; omega), (by show 0 ≤ s3.toInt; omega), (by show s3.toInt ≤ 60000; omega), (by show 0 ≤ (f 48).toInt; omega), (by show (f 48).toInt ≤ 8000; omega), (by show 0 ≤ (f 37).toInt; omega), (by show (f 37).toInt ≤ 128; omega), (by show 0 ≤ o2.toInt; omega), (by show o2.toInt ≤ 65000; omega), (by show 0 ≤ (f 19).toInt; omega), (by show (f 19).toInt ≤ 600; omega), (by show 0 ≤ a44.toInt; omega), (by show 0 ≤ (f 8).toInt; omega)⟩⟩
theorem st_33 {sc : Nat × (Nat → Int32)} {d : Nat} {S0 S : am_S} {f : Nat → Int32} {g : Nat → Nat → Int32} {on : Int32} {tw : Int32} {th : Int32} {gs : List mg_E} {bc : List (List Nat)} (hS : MS S0 S f g) (hR : RJ f g gs bc [] 0 []) (hrest : mg_good (g 34) (g 38) (g 23) gs ((f 15).toInt + -1) ((f 20).toInt) ((f 37).toInt + 0) ((f 32).toInt + 0) ((f 5).toInt + 0)) (p0 : 0 ≤ (f 4).toInt) (p1 : (f 4).toInt ≤ (f 0).toInt) (p2 : (f 0).toInt ≤ 512) (p3 : 0 ≤ (f 24).toInt) (p4 : (f 24).toInt + (f 20).toInt + mg_p1 gs ≤ 4 * (f 4).toInt) (p5 : (f 20).toInt ≤ (f 4).toInt) (p6 : (f 15).toInt + 0 + mg_p2 gs ≤ (f 4).toInt) (p7 : 1 + mg_p3 gs ≤ 20 * (f 4).toInt + 20) (p8 : 0 ≤ (f 68).toInt) (p9 : (f 68).toInt + 3 * (f 20).toInt + 3 + mg_p4 gs ≤ 60 * (f 4).toInt + 60) (p10 : 0 ≤ (f 62).toInt) (p11 : (f 62).toInt + 64 * mj_n (g 16) (f 15).toNatClampNeg 3 ≤ 64 * (f 4).toInt) (p12 : 0 ≤ (f 44).toInt) (p13 : (f 44).toInt ≤ (f 4).toInt) (p14 : 0 ≤ (f 48).toInt) (p15 : (f 48).toInt ≤ (f 4).toInt) (p16 : 1 ≤ (f 53).toInt) (p17 : (f 53).toInt ≤ (f 4).toInt + 1) (p18 : 0 ≤ (f 19).toInt) (p19 : (f 19).toInt ≤ 600) (p20 : 0 ≤ (f 6).toInt) (p21 : 0 ≤ (f 8).toInt) (p22 : 0 ≤ mg_p1 gs) (p23 : 0 ≤ mg_p2 gs) (p24 : 0 ≤ mg_p4 gs) (p25 : 0 ≤ (f 10).toInt) (p26 : (f 10).toInt ≤ mg_p3 gs) (p27 : 0 ≤ mj_n (g 16) (f 15).toNatClampNeg 3) (p28 : 2 ≤ (f 15).toInt) (p29 : 0 ≤ (f 20).toInt) (p30 : 1 ≤ (f 37).toInt) (p31 : 0 ≤ (f 32).toInt) (p32 : (f 32).toInt ≤ (f 5).toInt) (p33 : (f 5).toInt ≤ 48) (p34 : (f 37).toInt ≤ 2 * (f 5).toInt + 2) : am_E (am_PP sc) (d + 8) 180 0 [some (.ref 39), some (.int 33), some (.int on), some (.int tw), some (.int th)] [] S (am_N fun v S1 => ∃ (f' : Nat → Int32) (g' : Nat → Nat → Int32) (gs' : List mg_E) (bc' : List (List Nat)), v = none ∧ MS S0 S1 f' g' ∧ (mg_on f (100 * ((f 0).toInt - (f 4).toInt) + (1 + mg_p3 gs)) f' g' gs' bc' ∨ mg_off f f' g' bc')) := by
  have hbs := mg_basic hrest
  refine am_e1 (v := 33) hi_180_0 rfl ?_
  refine am_e0 hi_180_1 ?_
  refine am_e13f hi_180_3 (by decide) ?_
  refine am_e2 (v := 39) hi_180_6 rfl ?_
  refine am_e1 (v := 33) hi_180_7 rfl ?_
  refine am_e1 (v := on) hi_180_8 rfl ?_
  refine am_e1 (v := tw) hi_180_9 rfl ?_
  refine am_e32w (as := [.ref 39, .int 33, .int on, .int tw]) (la := [some (.ref 39), some (.int 33), some (.int on), some (.int tw)]) (rest := []) hi_180_10 (am_hd0 (M := 180) (by decide) 10) (Nat.le_of_ble_eq_true rfl) (Nat.le_of_ble_eq_true rfl) (show 4 ≤ am_P0.2.2.1 181 from by decide +kernel) rfl (am_recv_ok hS.fs) rfl rfl ?_
  refine am_e1 (v := 33) hi_181_0 rfl ?_
  refine am_e19 (t := 237) hi_181_1 (by decide) ?_
  refine am_e2 (v := 39) hi_181_237 rfl ?_
  refine am_e32w (as := [.ref 39]) (la := [some (.ref 39)]) (rest := []) hi_181_238 (am_hd0 (M := 181) (by decide) 238) (Nat.le_of_ble_eq_true rfl) (Nat.le_of_ble_eq_true rfl) (show 1 ≤ am_P0.2.2.1 209 from by decide +kernel) rfl (am_recv_ok hS.fs) rfl rfl ?_
  refine am_e2 (v := 39) hi_209_0 rfl ?_
  refine am_e32n (as := [.ref 39]) (la := [some (.ref 39), none, none, none]) (rest := []) hi_209_1 (am_hd0 (M := 209) (by decide) 1) (Nat.le_of_ble_eq_true rfl) (Nat.le_of_ble_eq_true rfl) (show 1 ≤ am_P0.2.2.1 204 from by decide +kernel) rfl (am_recv_ok hS.fs) rfl rfl (ct_load (d := (d + 3)) hS hR  (by show (0 : Int) ≤ (f 32).toInt; omega) (by show (f 32).toInt ≤ (63 : Int); omega) (by show (f 53).toInt ≤ (4096 : Int); omega) (by show (0 : Int) ≤ (f 68).toInt; omega) (by show (f 68).toInt ≤ (65534 : Int); omega) (by show (1 : Int) ≤ (f 15).toInt; omega) (by show (f 15).toInt ≤ (32767 : Int); omega) (by show (0 : Int) ≤ (f 24).toInt; omega) (by show (f 24).toInt ≤ (16384 : Int); omega) (by show (0 : Int) ≤ (f 62).toInt; omega) (by show (f 62).toInt ≤ (65000 : Int); omega)) ?_
  rintro v0 S1 (⟨o2, s3, m4, g'5, hv6, hS7, hR14, h8, h9, h10, h11, h12, h13⟩)
  subst hv6
  have h8_ : (f 62).toInt ≤ o2.toInt := h8
  have h9_ : o2.toInt ≤ (f 62).toInt + 64 := h9
  have h10_ : (f 68).toInt ≤ s3.toInt := h10
  have h11_ : s3.toInt ≤ (f 68).toInt + 1 := h11
  have h12_ : o2.toInt + 64 * mj_n (g'5 16) (f 15).toNatClampNeg 3 ≤ (f 62).toInt + 64 * mj_n (g 16) (f 15).toNatClampNeg 3 := h12
  have h13_ : ∀ j, j ∉ [16, 60, 63, 64, 65, 66, 67, 69, 70, 71, 72, 73] → g'5 j = g j := h13
  have hR14_ : RJ (upd (upd (upd f 62 o2) 68 s3) 75 m4) g'5 gs bc [] 0 [] := hR14
  show am_E _ _ _ _ [some (.ref 39)] [] _ _
  refine am_e2 (v := 39) hi_209_4 rfl ?_
  refine am_e7 hi_209_5 ?_
  refine mm_20 (v := .int (f 15)) hS7 hi_209_6 rfl ?_
  refine am_e0 hi_209_9 ?_
  obtain ⟨z15, hz15, tz15⟩ := am_subI (x := f 15) (y := 1) (m := (f 15).toInt) (n := (1 : Int)) rfl (by decide) (by omega) (by omega)
  refine am_e10 (z := z15) hi_209_10 hz15 ?_
  refine mm_21 (v := z15) hS7 hi_209_11 rfl (Nat.le_of_ble_eq_true rfl) ms_15 ?_
  intro S16 hS17
  replace hS17 : MS S0 S16 (upd (upd (upd (upd f 15 z15) 62 o2) 68 s3) 75 m4) g'5 := hS17
  have hp18 : mj_n (g'5 16) (f 15).toNatClampNeg 3 = mj_n (g'5 16) z15.toNatClampNeg 3 + if (g'5 16 z15.toNatClampNeg).toInt = 3 then 1 else 0 := mj_pop (by rw [cl_toNat, cl_toNat]; omega)
  have hp181 : mj_n (g'5 16) z15.toNatClampNeg 3 ≤ mj_n (g'5 16) (f 15).toNatClampNeg 3 := by rw [hp18]; split <;> omega
  have hp182 : (g'5 16 z15.toNatClampNeg).toInt = 3 → mj_n (g'5 16) z15.toNatClampNeg 3 + 1 ≤ mj_n (g'5 16) (f 15).toNatClampNeg 3 := fun q => by rw [hp18, if_pos q]; exact Int.le_refl _
  refine am_e35 hi_209_14 ?_
  show am_E _ _ _ _ [some (.ref 39), some (.int 33), some (.int on), some (.int tw)] [] _ _
  refine am_e2 (v := 39) hi_181_241 rfl ?_
  refine am_e0 hi_181_242 ?_
  refine am_e1 (v := on) hi_181_243 rfl ?_
  obtain ⟨z19, hz19⟩ : ∃ q__, am_bin 0 1 on = q__ := ⟨_, rfl⟩
  refine am_e10 (z := z19) hi_181_244 hz19 ?_
  refine am_e0 hi_181_245 ?_
  refine am_e1 (v := tw) hi_181_246 rfl ?_
  refine am_e32w (as := [.ref 39, .int z19, .int 0, .int tw]) (la := [some (.ref 39), some (.int z19), some (.int 0), some (.int tw), none]) (rest := []) hi_181_247 (am_hd0 (M := 181) (by decide) 247) (Nat.le_of_ble_eq_true rfl) (Nat.le_of_ble_eq_true rfl) (show 4 ≤ am_P0.2.2.1 213 from by decide +kernel) rfl (am_recv_ok hS17.fs) rfl rfl ?_
  refine am_e2 (v := 39) hi_213_0 rfl ?_
  refine am_e0 hi_213_1 ?_
  refine am_e1 (v := z19) hi_213_3 rfl ?_
  refine am_e1 (v := 0) hi_213_4 rfl ?_
  refine am_e0 hi_213_5 ?_
  refine am_e10 (z := 2) hi_213_6 (by decide) ?_
  refine am_e1 (v := tw) hi_213_7 rfl ?_
  refine am_e32n (as := [.ref 39, .int 13, .int z19, .int 2, .int tw]) (la := [some (.ref 39), some (.int 13), some (.int z19), some (.int 2), some (.int tw)]) (rest := []) hi_213_8 (am_hd0 (M := 213) (by decide) 8) (Nat.le_of_ble_eq_true rfl) (Nat.le_of_ble_eq_true rfl) (show 5 ≤ am_P0.2.2.1 189 from by decide +kernel) rfl (am_recv_ok hS17.fs) rfl rfl (ct_put (d := (d + 5)) hS17 hR14_  (by show (0 : Int) ≤ (f 32).toInt; omega) (by show (f 32).toInt ≤ (63 : Int); omega) (by show (f 53).toInt ≤ (4096 : Int); omega) (by show (0 : Int) ≤ s3.toInt; omega) (by show s3.toInt ≤ (65534 : Int); omega)) ?_
  rintro v20 S21 (⟨z22, r23, g'24, hv25, hS26, hR30, h27, h28, h29⟩)
  subst hv25
  have h27_ : z22.toInt = s3.toInt + 1 := h27
  have h28_ : r23.toInt = s3.toInt := h28
  have h29_ : ∀ j, j ∉ [60, 69, 70, 71, 72, 73] → g'24 j = g'5 j := h29
  replace hS26 : MS S0 S21 (upd (upd (upd (upd f 15 z15) 62 o2) 68 z22) 75 m4) g'24 := hS26
  have hR30_ : RJ (upd (upd (upd (upd f 15 z15) 62 o2) 68 z22) 75 m4) g'24 gs bc [] 0 (s3.toNatClampNeg :: []) := hR30
  show am_E _ _ _ _ [some (.ref 39), some (.int z19), some (.int 0), some (.int tw), none] [.int r23] _ _
  refine am_e3 (ls' := [some (.ref 39), some (.int z19), some (.int 0), some (.int tw), some (.int r23)]) hi_213_11 (Nat.le_of_ble_eq_true rfl) rfl ?_
  refine am_e2 (v := 39) hi_213_13 rfl ?_
  refine am_e7 hi_213_14 ?_
  refine mm_20 (v := .int z15) hS26 hi_213_15 rfl ?_
  refine am_e0 hi_213_18 ?_
  obtain ⟨z31, hz31, tz31⟩ := am_subI (x := z15) (y := 1) (m := z15.toInt) (n := (1 : Int)) rfl (by decide) (by omega) (by omega)
  refine am_e10 (z := z31) hi_213_19 hz31 ?_
  refine mm_21 (v := z31) hS26 hi_213_20 rfl (Nat.le_of_ble_eq_true rfl) ms_15 ?_
  intro S32 hS33
  replace hS33 : MS S0 S32 (upd (upd (upd (upd f 15 z31) 62 o2) 68 z22) 75 m4) g'24 := hS33
  have hp34 : mj_n (g'5 16) z15.toNatClampNeg 3 = mj_n (g'5 16) z31.toNatClampNeg 3 + if (g'5 16 z31.toNatClampNeg).toInt = 3 then 1 else 0 := mj_pop (by rw [cl_toNat, cl_toNat]; omega)
  have hp341 : mj_n (g'5 16) z31.toNatClampNeg 3 ≤ mj_n (g'5 16) z15.toNatClampNeg 3 := by rw [hp34]; split <;> omega
  have hp342 : (g'5 16 z31.toNatClampNeg).toInt = 3 → mj_n (g'5 16) z31.toNatClampNeg 3 + 1 ≤ mj_n (g'5 16) z15.toNatClampNeg 3 := fun q => by rw [hp34, if_pos q]; exact Int.le_refl _
  refine am_e2 (v := 39) hi_213_23 rfl ?_
  refine am_e0 hi_213_24 ?_
  refine am_e1 (v := r23) hi_213_25 rfl ?_
  refine am_e1 (v := tw) hi_213_27 rfl ?_
  refine am_e32n (as := [.ref 39, .int 1, .int r23, .int tw]) (la := [some (.ref 39), some (.int 1), some (.int r23), some (.int tw)]) (rest := []) hi_213_28 (am_hd0 (M := 213) (by decide) 28) (Nat.le_of_ble_eq_true rfl) (Nat.le_of_ble_eq_true rfl) (show 4 ≤ am_P0.2.2.1 190 from by decide +kernel) rfl (am_recv_ok hS33.fs) rfl rfl (ct_value (d := (d + 5)) hS33 hR30_ (fun h => absurd h (by decide)) (fun _ => ⟨by omega, by omega⟩) (by show (0 : Int) ≤ z31.toInt; omega) (by show z31.toInt ≤ (32767 : Int); omega)) ?_
  rintro v35 S36 (⟨z37, g'38, hv39, hS40, hR45, h41, h42, h43, h44⟩)
  subst hv39
  have h41_ : z37.toInt = z31.toInt + 1 := h41
  have h42_ : ∀ j, j ∉ [16, 17, 18] → g'38 j = g'24 j := h42
  have h43_ : mj_n (g'38 16) z37.toNatClampNeg 3 ≤ mj_n (g'5 16) z31.toNatClampNeg 3 + 1 := by rw [show g'24 16 = g'5 16 from h29_ 16 (by decide)] at h43; exact h43
  have h44_ : (1 : Int) = 3 ∨ mj_n (g'38 16) z37.toNatClampNeg 3 ≤ mj_n (g'5 16) z31.toNatClampNeg 3 := by rw [show g'24 16 = g'5 16 from h29_ 16 (by decide)] at h44; exact h44
  replace hS40 : MS S0 S36 (upd (upd (upd (upd f 15 z37) 62 o2) 68 z22) 75 m4) g'38 := hS40
  have hR45_ : RJ (upd (upd (upd (upd f 15 z37) 62 o2) 68 z22) 75 m4) g'38 gs bc [] 0 (s3.toNatClampNeg :: []) := hR45
  show am_E _ _ _ _ [some (.ref 39), some (.int z19), some (.int 0), some (.int tw), some (.int r23)] [] _ _
  refine am_e35 hi_213_31 ?_
  show am_E _ _ _ _ [some (.ref 39), some (.int 33), some (.int on), some (.int tw)] [] _ _
  refine am_e18 hi_181_250 ?_
  refine am_e35 hi_181_397 ?_
  show am_E _ _ _ _ [some (.ref 39), some (.int 33), some (.int on), some (.int tw), some (.int th)] [] _ _
  refine am_e35 hi_180_13 ?_
  have q1 : mg_p1 gs = mg_p1 gs := rfl
  have q2 : mg_p2 gs = mg_p2 gs := rfl
  have q3 : mg_p3 gs = mg_p3 gs := rfl
  have q4 : mg_p4 gs = mg_p4 gs := rfl
  refine ⟨_, _, _, bc, rfl, hS40, Or.inl ⟨⟨(RJ.fewer (pj' := []) hR45_ (fun _ h => nomatch h)), ?_, ?_⟩, rfl, ?_⟩⟩
  · exact (mg_cast (mg_good_ext _ _ _ _ _ _ (fun i _ => by show g'38 34 i = g 34 i; rw [show g'38 34 = g'24 34 from h42_ 34 (by decide), show g'24 34 = g'5 34 from h29_ 34 (by decide), show g'5 34 = g 34 from h13_ 34 (by decide)]) (fun i _ => by show g'38 38 i = g 38 i; rw [show g'38 38 = g'24 38 from h42_ 38 (by decide), show g'24 38 = g'5 38 from h29_ 38 (by decide), show g'5 38 = g 38 from h13_ 38 (by decide)]) (fun i _ => by show g'38 23 i = g 23 i; rw [show g'38 23 = g'24 23 from h42_ 23 (by decide), show g'24 23 = g'5 23 from h29_ 23 (by decide), show g'5 23 = g 23 from h13_ 23 (by decide)]) hrest) (by show (f 15).toInt + -1 = z37.toInt; omega) (by show (f 20).toInt = (f 20).toInt; omega) (by show (f 37).toInt + 0 = (f 37).toInt; omega) (by show (f 32).toInt + 0 = (f 32).toInt; omega) (by show (f 5).toInt + 0 = (f 5).toInt; omega) : mg_good (g'38 34) (g'38 38) (g'38 23) gs (z37.toInt) ((f 20).toInt) ((f 37).toInt) ((f 32).toInt) ((f 5).toInt))
  · exact ⟨(by show 0 ≤ (f 4).toInt; omega), (by show (f 4).toInt ≤ (f 0).toInt; omega), (by show (f 0).toInt ≤ 512; omega), (by show 0 ≤ (f 24).toInt; omega), (by show (f 24).toInt + (f 20).toInt + mg_p1 gs ≤ 4 * (f 4).toInt; omega), (by show (f 20).toInt ≤ (f 4).toInt; omega), (by show z37.toInt + mg_p2 gs ≤ (f 4).toInt; omega), (by show mg_p3 gs ≤ 20 * (f 4).toInt + 20; omega), (by show 0 ≤ z22.toInt; omega), (by show z22.toInt + 3 * (f 20).toInt + mg_p4 gs ≤ 60 * (f 4).toInt + 60; omega), (by show 0 ≤ o2.toInt; omega), (by show o2.toInt + 64 * mj_n (g'38 16) z37.toNatClampNeg 3 ≤ 64 * (f 4).toInt; omega), (by show 0 ≤ (f 44).toInt; omega), (by show (f 44).toInt ≤ (f 4).toInt; omega), (by show 0 ≤ (f 48).toInt; omega), (by show (f 48).toInt ≤ (f 4).toInt; omega), (by show 1 ≤ (f 53).toInt; omega), (by show (f 53).toInt ≤ (f 4).toInt + 1; omega), (by show 0 ≤ (f 19).toInt; omega), (by show (f 19).toInt ≤ 600; omega), (by show 0 ≤ (f 6).toInt; omega), (by show 0 ≤ (f 8).toInt; omega)⟩
  · show 100 * ((f 0).toInt - (f 4).toInt) + mg_p3 gs < 100 * ((f 0).toInt - (f 4).toInt) + (1 + mg_p3 gs); omega
theorem st_34 {sc : Nat × (Nat → Int32)} {d : Nat} {S0 S : am_S} {f : Nat → Int32} {g : Nat → Nat → Int32} {on : Int32} {tw : Int32} {th : Int32} {gs : List mg_E} {bc : List (List Nat)} (hS : MS S0 S f g) (hR : RJ f g gs bc [] 0 []) (hrest : mg_good (g 34) (g 38) (g 23) gs ((f 15).toInt + 0) ((f 20).toInt) ((f 37).toInt + 0) ((f 32).toInt + 0) ((f 5).toInt + 0)) (p0 : 0 ≤ (f 4).toInt) (p1 : (f 4).toInt ≤ (f 0).toInt) (p2 : (f 0).toInt ≤ 512) (p3 : 0 ≤ (f 24).toInt) (p4 : (f 24).toInt + (f 20).toInt + mg_p1 gs ≤ 4 * (f 4).toInt) (p5 : (f 20).toInt ≤ (f 4).toInt) (p6 : (f 15).toInt + 0 + on.toInt + mg_p2 gs ≤ (f 4).toInt + 1) (p7 : 1 + mg_p3 gs ≤ 20 * (f 4).toInt + 20) (p8 : 0 ≤ (f 68).toInt) (p9 : (f 68).toInt + 3 * (f 20).toInt + 0 + mg_p4 gs ≤ 60 * (f 4).toInt + 60) (p10 : 0 ≤ (f 62).toInt) (p11 : (f 62).toInt + 64 * mj_n (g 16) (f 15).toNatClampNeg 3 ≤ 64 * (f 4).toInt) (p12 : 0 ≤ (f 44).toInt) (p13 : (f 44).toInt ≤ (f 4).toInt) (p14 : 0 ≤ (f 48).toInt) (p15 : (f 48).toInt ≤ (f 4).toInt) (p16 : 1 ≤ (f 53).toInt) (p17 : (f 53).toInt ≤ (f 4).toInt + 1) (p18 : 0 ≤ (f 19).toInt) (p19 : (f 19).toInt ≤ 600) (p20 : 0 ≤ (f 6).toInt) (p21 : 0 ≤ (f 8).toInt) (p22 : 0 ≤ mg_p1 gs) (p23 : 0 ≤ mg_p2 gs) (p24 : 0 ≤ mg_p4 gs) (p25 : 0 ≤ (f 10).toInt) (p26 : (f 10).toInt ≤ mg_p3 gs) (p27 : 0 ≤ mj_n (g 16) (f 15).toNatClampNeg 3) (p28 : 1 ≤ (f 15).toInt) (p29 : 0 ≤ (f 20).toInt) (p30 : 1 ≤ (f 37).toInt) (p31 : 0 ≤ (f 32).toInt) (p32 : (f 32).toInt ≤ (f 5).toInt) (p33 : (f 5).toInt ≤ 48) (p34 : (f 37).toInt ≤ 2 * (f 5).toInt + 2) (p35 : 1 ≤ on.toInt) : am_E (am_PP sc) (d + 8) 180 0 [some (.ref 39), some (.int 34), some (.int on), some (.int tw), some (.int th)] [] S (am_N fun v S1 => ∃ (f' : Nat → Int32) (g' : Nat → Nat → Int32) (gs' : List mg_E) (bc' : List (List Nat)), v = none ∧ MS S0 S1 f' g' ∧ (mg_on f (100 * ((f 0).toInt - (f 4).toInt) + (1 + mg_p3 gs)) f' g' gs' bc' ∨ mg_off f f' g' bc')) := by
  have hbs := mg_basic hrest
  refine am_e1 (v := 34) hi_180_0 rfl ?_
  refine am_e0 hi_180_1 ?_
  refine am_e13f hi_180_3 (by decide) ?_
  refine am_e2 (v := 39) hi_180_6 rfl ?_
  refine am_e1 (v := 34) hi_180_7 rfl ?_
  refine am_e1 (v := on) hi_180_8 rfl ?_
  refine am_e1 (v := tw) hi_180_9 rfl ?_
  refine am_e32w (as := [.ref 39, .int 34, .int on, .int tw]) (la := [some (.ref 39), some (.int 34), some (.int on), some (.int tw)]) (rest := []) hi_180_10 (am_hd0 (M := 180) (by decide) 10) (Nat.le_of_ble_eq_true rfl) (Nat.le_of_ble_eq_true rfl) (show 4 ≤ am_P0.2.2.1 181 from by decide +kernel) rfl (am_recv_ok hS.fs) rfl rfl ?_
  refine am_e1 (v := 34) hi_181_0 rfl ?_
  refine am_e19 (t := 253) hi_181_1 (by decide) ?_
  refine am_e2 (v := 39) hi_181_253 rfl ?_
  refine am_e1 (v := on) hi_181_254 rfl ?_
  refine am_e32w (as := [.ref 39, .int on]) (la := [some (.ref 39), some (.int on)]) (rest := []) hi_181_255 (am_hd0 (M := 181) (by decide) 255) (Nat.le_of_ble_eq_true rfl) (Nat.le_of_ble_eq_true rfl) (show 2 ≤ am_P0.2.2.1 218 from by decide +kernel) rfl (am_recv_ok hS.fs) rfl rfl ?_
  refine am_e2 (v := 39) hi_218_0 rfl ?_
  refine am_e32n (as := [.ref 39]) (la := [some (.ref 39)]) (rest := []) hi_218_1 (am_hd0 (M := 218) (by decide) 1) (Nat.le_of_ble_eq_true rfl) (Nat.le_of_ble_eq_true rfl) (show 1 ≤ am_P0.2.2.1 183 from by decide +kernel) rfl (am_recv_ok hS.fs) rfl rfl (ct_next (d := (d + 4)) hS   (by show (0 : Int) ≤ (f 4).toInt; omega) (by show (f 0).toInt ≤ (16384 : Int); omega)) ?_
  rintro v0 S1 (⟨r2, hv3, hS4, h5⟩)
  subst hv3
  have h5_ : (f 4).toInt < (f 0).toInt ∨ r2.toInt = (-1 : Int) := h5
  show am_E _ _ _ _ [some (.ref 39), some (.int on)] [.int r2] _ _
  refine am_e0 hi_218_4 ?_
  by_cases c7 : ¬ r2.toInt = (69 : Int)
  · refine am_e13t hi_218_6 (am_cT (m := r2.toInt) (n := (69 : Int)) rfl (by decide) c7) ?_
    refine am_e2 (v := 39) hi_218_42 rfl ?_
    refine am_e1 (v := on) hi_218_43 rfl ?_
    refine mm_21 (v := on) hS4 hi_218_44 rfl (Nat.le_of_ble_eq_true rfl) ms_19 ?_
    intro S8 hS9
    refine am_e35 hi_218_47 ?_
    show am_E _ _ _ _ [some (.ref 39), some (.int 34), some (.int on), some (.int tw)] [] _ _
    refine am_e18 hi_181_258 ?_
    refine am_e35 hi_181_397 ?_
    show am_E _ _ _ _ [some (.ref 39), some (.int 34), some (.int on), some (.int tw), some (.int th)] [] _ _
    refine am_e35 hi_180_13 ?_
    have q1 : mg_p1 gs = mg_p1 gs := rfl
    have q2 : mg_p2 gs = mg_p2 gs := rfl
    have q3 : mg_p3 gs = mg_p3 gs := rfl
    have q4 : mg_p4 gs = mg_p4 gs := rfl
    refine ⟨_, _, _, bc, rfl, hS9, Or.inl ⟨⟨hR, ?_, ?_⟩, rfl, ?_⟩⟩
    · exact (mg_cast (mg_good_ext _ _ _ _ _ _ (fun _ _ => rfl) (fun _ _ => rfl) (fun _ _ => rfl) hrest) (by show (f 15).toInt + 0 = (f 15).toInt; omega) (by show (f 20).toInt = (f 20).toInt; omega) (by show (f 37).toInt + 0 = (f 37).toInt; omega) (by show (f 32).toInt + 0 = (f 32).toInt; omega) (by show (f 5).toInt + 0 = (f 5).toInt; omega) : mg_good (g 34) (g 38) (g 23) gs ((f 15).toInt) ((f 20).toInt) ((f 37).toInt) ((f 32).toInt) ((f 5).toInt))
    · exact ⟨(by show 0 ≤ (f 4).toInt; omega), (by show (f 4).toInt ≤ (f 0).toInt; omega), (by show (f 0).toInt ≤ 512; omega), (by show 0 ≤ (f 24).toInt; omega), (by show (f 24).toInt + (f 20).toInt + mg_p1 gs ≤ 4 * (f 4).toInt; omega), (by show (f 20).toInt ≤ (f 4).toInt; omega), (by show (f 15).toInt + mg_p2 gs ≤ (f 4).toInt; omega), (by show mg_p3 gs ≤ 20 * (f 4).toInt + 20; omega), (by show 0 ≤ (f 68).toInt; omega), (by show (f 68).toInt + 3 * (f 20).toInt + mg_p4 gs ≤ 60 * (f 4).toInt + 60; omega), (by show 0 ≤ (f 62).toInt; omega), (by show (f 62).toInt + 64 * mj_n (g 16) (f 15).toNatClampNeg 3 ≤ 64 * (f 4).toInt; omega), (by show 0 ≤ (f 44).toInt; omega), (by show (f 44).toInt ≤ (f 4).toInt; omega), (by show 0 ≤ (f 48).toInt; omega), (by show (f 48).toInt ≤ (f 4).toInt; omega), (by show 1 ≤ (f 53).toInt; omega), (by show (f 53).toInt ≤ (f 4).toInt + 1; omega), (by show 0 ≤ on.toInt; omega), (by show on.toInt ≤ 600; omega), (by show 0 ≤ (f 6).toInt; omega), (by show 0 ≤ (f 8).toInt; omega)⟩
    · show 100 * ((f 0).toInt - (f 4).toInt) + mg_p3 gs < 100 * ((f 0).toInt - (f 4).toInt) + (1 + mg_p3 gs); omega
  · refine am_e13f hi_218_6 (am_cF (m := r2.toInt) (n := (69 : Int)) rfl (by decide) c7) ?_
    refine am_e2 (v := 39) hi_218_9 rfl ?_
    refine am_e32w (as := [.ref 39]) (la := [some (.ref 39)]) (rest := []) hi_218_10 (am_hd0 (M := 218) (by decide) 10) (Nat.le_of_ble_eq_true rfl) (Nat.le_of_ble_eq_true rfl) (show 1 ≤ am_P0.2.2.1 209 from by decide +kernel) rfl (am_recv_ok hS4.fs) rfl rfl ?_
    refine am_e2 (v := 39) hi_209_0 rfl ?_
    refine am_e32n (as := [.ref 39]) (la := [some (.ref 39), none, none, none]) (rest := []) hi_209_1 (am_hd0 (M := 209) (by decide) 1) (Nat.le_of_ble_eq_true rfl) (Nat.le_of_ble_eq_true rfl) (show 1 ≤ am_P0.2.2.1 204 from by decide +kernel) rfl (am_recv_ok hS4.fs) rfl rfl (ct_load (d := (d + 2)) hS4 hR  (by show (0 : Int) ≤ (f 32).toInt; omega) (by show (f 32).toInt ≤ (63 : Int); omega) (by show (f 53).toInt ≤ (4096 : Int); omega) (by show (0 : Int) ≤ (f 68).toInt; omega) (by show (f 68).toInt ≤ (65534 : Int); omega) (by show (1 : Int) ≤ (f 15).toInt; omega) (by show (f 15).toInt ≤ (32767 : Int); omega) (by show (0 : Int) ≤ (f 24).toInt; omega) (by show (f 24).toInt ≤ (16384 : Int); omega) (by show (0 : Int) ≤ (f 62).toInt; omega) (by show (f 62).toInt ≤ (65000 : Int); omega)) ?_
    rintro v10 S11 (⟨o12, s13, m14, g'15, hv16, hS17, hR24, h18, h19, h20, h21, h22, h23⟩)
    subst hv16
    have h18_ : (f 62).toInt ≤ o12.toInt := h18
    have h19_ : o12.toInt ≤ (f 62).toInt + 64 := h19
    have h20_ : (f 68).toInt ≤ s13.toInt := h20
    have h21_ : s13.toInt ≤ (f 68).toInt + 1 := h21
    have h22_ : o12.toInt + 64 * mj_n (g'15 16) (f 15).toNatClampNeg 3 ≤ (f 62).toInt + 64 * mj_n (g 16) (f 15).toNatClampNeg 3 := h22
    have h23_ : ∀ j, j ∉ [16, 60, 63, 64, 65, 66, 67, 69, 70, 71, 72, 73] → g'15 j = g j := h23
    have hR24_ : RJ (upd (upd (upd f 62 o12) 68 s13) 75 m14) g'15 gs bc [] 0 [] := hR24
    show am_E _ _ _ _ [some (.ref 39)] [] _ _
    refine am_e2 (v := 39) hi_209_4 rfl ?_
    refine am_e7 hi_209_5 ?_
    refine mm_20 (v := .int (f 15)) hS17 hi_209_6 rfl ?_
    refine am_e0 hi_209_9 ?_
    obtain ⟨z25, hz25, tz25⟩ := am_subI (x := f 15) (y := 1) (m := (f 15).toInt) (n := (1 : Int)) rfl (by decide) (by omega) (by omega)
    refine am_e10 (z := z25) hi_209_10 hz25 ?_
    refine mm_21 (v := z25) hS17 hi_209_11 rfl (Nat.le_of_ble_eq_true rfl) ms_15 ?_
    intro S26 hS27
    replace hS27 : MS S0 S26 (upd (upd (upd (upd f 15 z25) 62 o12) 68 s13) 75 m14) g'15 := hS27
    have hp28 : mj_n (g'15 16) (f 15).toNatClampNeg 3 = mj_n (g'15 16) z25.toNatClampNeg 3 + if (g'15 16 z25.toNatClampNeg).toInt = 3 then 1 else 0 := mj_pop (by rw [cl_toNat, cl_toNat]; omega)
    have hp281 : mj_n (g'15 16) z25.toNatClampNeg 3 ≤ mj_n (g'15 16) (f 15).toNatClampNeg 3 := by rw [hp28]; split <;> omega
    have hp282 : (g'15 16 z25.toNatClampNeg).toInt = 3 → mj_n (g'15 16) z25.toNatClampNeg 3 + 1 ≤ mj_n (g'15 16) (f 15).toNatClampNeg 3 := fun q => by rw [hp28, if_pos q]; exact Int.le_refl _
    refine am_e35 hi_209_14 ?_
    show am_E _ _ _ _ [some (.ref 39), some (.int on)] [] _ _
    refine am_e2 (v := 39) hi_218_13 rfl ?_
    refine am_e7 hi_218_14 ?_
    refine mm_20 (v := .int (f 4)) hS27 hi_218_15 rfl ?_
    refine am_e0 hi_218_18 ?_
    obtain ⟨z29, hz29, tz29⟩ := am_addI (x := f 4) (y := 1) (m := (f 4).toInt) (n := (1 : Int)) rfl (by decide) (by omega) (by omega)
    refine am_e10 (z := z29) hi_218_19 hz29 ?_
    refine mm_21 (v := z29) hS27 hi_218_20 rfl (Nat.le_of_ble_eq_true rfl) ms_4 ?_
    intro S30 hS31
    replace hS31 : MS S0 S30 (upd (upd (upd (upd (upd f 4 z29) 15 z25) 62 o12) 68 s13) 75 m14) g'15 := hS31
    have hR32 : RJ (upd (upd (upd (upd (upd f 4 z29) 15 z25) 62 o12) 68 s13) 75 m14) g'15 gs bc [] 0 [] := RJ.at hR24_ (by show (f 4).toInt ≤ z29.toInt; omega)
    refine am_e2 (v := 39) hi_218_23 rfl ?_
    refine am_e0 hi_218_24 ?_
    refine am_e1 (v := on) hi_218_26 rfl ?_
    refine am_e0 hi_218_27 ?_
    obtain ⟨z33, hz33, tz33⟩ := am_addI (x := on) (y := 1) (m := on.toInt) (n := (1 : Int)) rfl (by decide) (by omega) (by omega)
    refine am_e10 (z := z33) hi_218_28 hz33 ?_
    refine am_e0 hi_218_29 ?_
    refine am_e0 hi_218_30 ?_
    refine am_e32n (as := [.ref 39, .int 34, .int z33, .int 0, .int 0]) (la := [some (.ref 39), some (.int 34), some (.int z33), some (.int 0), some (.int 0)]) (rest := []) hi_218_31 (am_hd0 (M := 218) (by decide) 31) (Nat.le_of_ble_eq_true rfl) (Nat.le_of_ble_eq_true rfl) (show 5 ≤ am_P0.2.2.1 179 from by decide +kernel) rfl (am_recv_ok hS31.fs) rfl rfl (ct_pile (d := (d + 5)) hS31 hR32 (mj_e_plain (by decide)) (by show (0 : Int) ≤ (f 10).toInt; omega) (by show (f 10).toInt ≤ (65535 : Int); omega)) ?_
    rintro v34 S35 (⟨z36, g'37, hv38, hS39, hR42, h40, h41⟩)
    subst hv38
    have h40_ : z36.toInt = (f 10).toInt + 1 := h40
    have h41_ : ∀ j, j ∉ [11, 12, 13, 14] → g'37 j = g'15 j := h41
    replace hS39 : MS S0 S35 (upd (upd (upd (upd (upd (upd f 4 z29) 10 z36) 15 z25) 62 o12) 68 s13) 75 m14) g'37 := hS39
    have hR42_ : RJ (upd (upd (upd (upd (upd (upd f 4 z29) 10 z36) 15 z25) 62 o12) 68 s13) 75 m14) g'37 (((34 : Int), z33.toInt, (0 : Int), (0 : Int), []) :: gs) bc [] 0 [] := hR42
    show am_E _ _ _ _ [some (.ref 39), some (.int on)] [] _ _
    refine am_e2 (v := 39) hi_218_34 rfl ?_
    refine am_e0 hi_218_35 ?_
    refine am_e32w (as := [.ref 39, .int 0]) (la := [some (.ref 39), some (.int 0)]) (rest := []) hi_218_36 (am_hd0 (M := 218) (by decide) 36) (Nat.le_of_ble_eq_true rfl) (Nat.le_of_ble_eq_true rfl) (show 2 ≤ am_P0.2.2.1 186 from by decide +kernel) rfl (am_recv_ok hS39.fs) rfl rfl ?_
    refine am_e2 (v := 39) hi_186_0 rfl ?_
    refine am_e0 hi_186_1 ?_
    refine am_e1 (v := 0) hi_186_3 rfl ?_
    refine am_e0 hi_186_4 ?_
    refine am_e0 hi_186_5 ?_
    refine am_e32n (as := [.ref 39, .int 23, .int 0, .int 0, .int 0]) (la := [some (.ref 39), some (.int 23), some (.int 0), some (.int 0), some (.int 0)]) (rest := []) hi_186_6 (am_hd0 (M := 186) (by decide) 6) (Nat.le_of_ble_eq_true rfl) (Nat.le_of_ble_eq_true rfl) (show 5 ≤ am_P0.2.2.1 179 from by decide +kernel) rfl (am_recv_ok hS39.fs) rfl rfl (ct_pile (d := (d + 4)) hS39 hR42_ (mj_e_plain (by decide)) (by show (0 : Int) ≤ z36.toInt; omega) (by show z36.toInt ≤ (65535 : Int); omega)) ?_
    rintro v43 S44 (⟨z45, g'46, hv47, hS48, hR51, h49, h50⟩)
    subst hv47
    have h49_ : z45.toInt = z36.toInt + 1 := h49
    have h50_ : ∀ j, j ∉ [11, 12, 13, 14] → g'46 j = g'37 j := h50
    replace hS48 : MS S0 S44 (upd (upd (upd (upd (upd (upd f 4 z29) 10 z45) 15 z25) 62 o12) 68 s13) 75 m14) g'46 := hS48
    have hR51_ : RJ (upd (upd (upd (upd (upd (upd f 4 z29) 10 z45) 15 z25) 62 o12) 68 s13) 75 m14) g'46 (((23 : Int), (0 : Int), (0 : Int), (0 : Int), []) :: (((34 : Int), z33.toInt, (0 : Int), (0 : Int), []) :: gs)) bc [] 0 [] := hR51
    show am_E _ _ _ _ [some (.ref 39), some (.int 0)] [] _ _
    refine am_e35 hi_186_9 ?_
    show am_E _ _ _ _ [some (.ref 39), some (.int on)] [] _ _
    refine am_e18 hi_218_39 ?_
    refine am_e35 hi_218_47 ?_
    show am_E _ _ _ _ [some (.ref 39), some (.int 34), some (.int on), some (.int tw)] [] _ _
    refine am_e18 hi_181_258 ?_
    refine am_e35 hi_181_397 ?_
    show am_E _ _ _ _ [some (.ref 39), some (.int 34), some (.int on), some (.int tw), some (.int th)] [] _ _
    refine am_e35 hi_180_13 ?_
    have q1 : mg_p1 (((23 : Int), (0 : Int), (0 : Int), (0 : Int), []) :: (((34 : Int), z33.toInt, (0 : Int), (0 : Int), []) :: gs)) = 0 + (0 + (mg_p1 gs)) := rfl
    have q2 : mg_p2 (((23 : Int), (0 : Int), (0 : Int), (0 : Int), []) :: (((34 : Int), z33.toInt, (0 : Int), (0 : Int), []) :: gs)) = 0 + ((z33.toInt - 1) + (mg_p2 gs)) := rfl
    have q3 : mg_p3 (((23 : Int), (0 : Int), (0 : Int), (0 : Int), []) :: (((34 : Int), z33.toInt, (0 : Int), (0 : Int), []) :: gs)) = 1 + (1 + (mg_p3 gs)) := rfl
    have q4 : mg_p4 (((23 : Int), (0 : Int), (0 : Int), (0 : Int), []) :: (((34 : Int), z33.toInt, (0 : Int), (0 : Int), []) :: gs)) = 0 + (0 + (mg_p4 gs)) := rfl
    refine ⟨_, _, _, bc, rfl, hS48, Or.inl ⟨⟨hR51_, ?_, ?_⟩, rfl, ?_⟩⟩
    · exact (⟨⟨(show mg_k 23 from by decide), (show (0 : Int) ≤ z25.toInt from by omega), (show 0 ≤ (f 20).toInt from by omega), (show 1 ≤ (f 37).toInt from by omega), (show 0 ≤ (f 32).toInt from by omega), (show (f 32).toInt ≤ (f 5).toInt from by omega), (show (f 5).toInt ≤ 48 from by omega), (show (f 37).toInt ≤ 2 * ((f 5).toInt) + 2 from by omega), (show 0 ≤ (0 : Int) from by omega)⟩, ⟨⟨(show mg_k 34 from by decide), (show (1 : Int) ≤ z25.toInt + 1 from by omega), (show 0 ≤ (f 20).toInt from by omega), (show 1 ≤ (f 37).toInt + 0 from by omega), (show 0 ≤ (f 32).toInt + 0 from by omega), (show (f 32).toInt + 0 ≤ (f 5).toInt + 0 from by omega), (show (f 5).toInt + 0 ≤ 48 from by omega), (show (f 37).toInt + 0 ≤ 2 * ((f 5).toInt + 0) + 2 from by omega), (show 1 ≤ z33.toInt from by omega)⟩, mg_cast (mg_good_ext _ _ _ _ _ _ (fun i _ => by show g'46 34 i = g 34 i; rw [show g'46 34 = g'37 34 from h50_ 34 (by decide), show g'37 34 = g'15 34 from h41_ 34 (by decide), show g'15 34 = g 34 from h23_ 34 (by decide)]) (fun i _ => by show g'46 38 i = g 38 i; rw [show g'46 38 = g'37 38 from h50_ 38 (by decide), show g'37 38 = g'15 38 from h41_ 38 (by decide), show g'15 38 = g 38 from h23_ 38 (by decide)]) (fun i _ => by show g'46 23 i = g 23 i; rw [show g'46 23 = g'37 23 from h50_ 23 (by decide), show g'37 23 = g'15 23 from h41_ 23 (by decide), show g'15 23 = g 23 from h23_ 23 (by decide)]) hrest) (by show (f 15).toInt + 0 = z25.toInt + 1 + 0; omega) (by show (f 20).toInt = (f 20).toInt; omega) (by show (f 37).toInt + 0 = (f 37).toInt + 0 + 0; omega) (by show (f 32).toInt + 0 = (f 32).toInt + 0 + 0; omega) (by show (f 5).toInt + 0 = (f 5).toInt + 0 + 0; omega)⟩⟩ : mg_good (g'46 34) (g'46 38) (g'46 23) (((23 : Int), (0 : Int), (0 : Int), (0 : Int), []) :: (((34 : Int), z33.toInt, (0 : Int), (0 : Int), []) :: gs)) (z25.toInt) ((f 20).toInt) ((f 37).toInt) ((f 32).toInt) ((f 5).toInt))
    · exact ⟨(by show 0 ≤ z29.toInt; omega), (by show z29.toInt ≤ (f 0).toInt; omega), (by show (f 0).toInt ≤ 512; omega), (by show 0 ≤ (f 24).toInt; omega), (by show (f 24).toInt + (f 20).toInt + mg_p1 (((23 : Int), (0 : Int), (0 : Int), (0 : Int), []) :: (((34 : Int), z33.toInt, (0 : Int), (0 : Int), []) :: gs)) ≤ 4 * z29.toInt; omega), (by show (f 20).toInt ≤ z29.toInt; omega), (by show z25.toInt + mg_p2 (((23 : Int), (0 : Int), (0 : Int), (0 : Int), []) :: (((34 : Int), z33.toInt, (0 : Int), (0 : Int), []) :: gs)) ≤ z29.toInt; omega), (by show mg_p3 (((23 : Int), (0 : Int), (0 : Int), (0 : Int), []) :: (((34 : Int), z33.toInt, (0 : Int), (0 : Int), []) :: gs)) ≤ 20 * z29.toInt + 20; omega), (by show 0 ≤ s13.toInt; omega), (by show s13.toInt + 3 * (f 20).toInt + mg_p4 (((23 : Int), (0 : Int), (0 : Int), (0 : Int), []) :: (((34 : Int), z33.toInt, (0 : Int), (0 : Int), []) :: gs)) ≤ 60 * z29.toInt + 60; omega), (by show 0 ≤ o12.toInt; omega), (by show o12.toInt + 64 * mj_n (g'46 16) z25.toNatClampNeg 3 ≤ 64 * z29.toInt; rw [show g'46 16 = g'37 16 from h50_ 16 (by decide), show g'37 16 = g'15 16 from h41_ 16 (by decide)]; omega), (by show 0 ≤ (f 44).toInt; omega), (by show (f 44).toInt ≤ z29.toInt; omega), (by show 0 ≤ (f 48).toInt; omega), (by show (f 48).toInt ≤ z29.toInt; omega), (by show 1 ≤ (f 53).toInt; omega), (by show (f 53).toInt ≤ z29.toInt + 1; omega), (by show 0 ≤ (f 19).toInt; omega), (by show (f 19).toInt ≤ 600; omega), (by show 0 ≤ (f 6).toInt; omega), (by show 0 ≤ (f 8).toInt; omega)⟩
    · show 100 * ((f 0).toInt - z29.toInt) + mg_p3 (((23 : Int), (0 : Int), (0 : Int), (0 : Int), []) :: (((34 : Int), z33.toInt, (0 : Int), (0 : Int), []) :: gs)) < 100 * ((f 0).toInt - (f 4).toInt) + (1 + mg_p3 gs); omega
theorem st_41 {sc : Nat × (Nat → Int32)} {d : Nat} {S0 S : am_S} {f : Nat → Int32} {g : Nat → Nat → Int32} {on : Int32} {tw : Int32} {th : Int32} {gs : List mg_E} {bc : List (List Nat)} (hS : MS S0 S f g) (hR : RJ f g gs bc [] 0 []) (hrest : mg_good (g 34) (g 38) (g 23) gs ((f 15).toInt + 1) ((f 20).toInt) ((f 37).toInt + 0) ((f 32).toInt + 0) ((f 5).toInt + 0)) (p0 : 0 ≤ (f 4).toInt) (p1 : (f 4).toInt ≤ (f 0).toInt) (p2 : (f 0).toInt ≤ 512) (p3 : 0 ≤ (f 24).toInt) (p4 : (f 24).toInt + (f 20).toInt + mg_p1 gs ≤ 4 * (f 4).toInt) (p5 : (f 20).toInt ≤ (f 4).toInt) (p6 : (f 15).toInt + 1 + mg_p2 gs ≤ (f 4).toInt) (p7 : 1 + mg_p3 gs ≤ 20 * (f 4).toInt + 20) (p8 : 0 ≤ (f 68).toInt) (p9 : (f 68).toInt + 3 * (f 20).toInt + 2 + mg_p4 gs ≤ 60 * (f 4).toInt + 60) (p10 : 0 ≤ (f 62).toInt) (p11 : (f 62).toInt + 64 * mj_n (g 16) (f 15).toNatClampNeg 3 ≤ 64 * (f 4).toInt) (p12 : 0 ≤ (f 44).toInt) (p13 : (f 44).toInt ≤ (f 4).toInt) (p14 : 0 ≤ (f 48).toInt) (p15 : (f 48).toInt ≤ (f 4).toInt) (p16 : 1 ≤ (f 53).toInt) (p17 : (f 53).toInt ≤ (f 4).toInt + 1) (p18 : 0 ≤ (f 19).toInt) (p19 : (f 19).toInt ≤ 600) (p20 : 0 ≤ (f 6).toInt) (p21 : 0 ≤ (f 8).toInt) (p22 : 0 ≤ mg_p1 gs) (p23 : 0 ≤ mg_p2 gs) (p24 : 0 ≤ mg_p4 gs) (p25 : 0 ≤ (f 10).toInt) (p26 : (f 10).toInt ≤ mg_p3 gs) (p27 : 0 ≤ mj_n (g 16) (f 15).toNatClampNeg 3) (p28 : 0 ≤ (f 15).toInt) (p29 : 0 ≤ (f 20).toInt) (p30 : 1 ≤ (f 37).toInt) (p31 : 0 ≤ (f 32).toInt) (p32 : (f 32).toInt ≤ (f 5).toInt) (p33 : (f 5).toInt ≤ 48) (p34 : (f 37).toInt ≤ 2 * (f 5).toInt + 2) : am_E (am_PP sc) (d + 8) 180 0 [some (.ref 39), some (.int 41), some (.int on), some (.int tw), some (.int th)] [] S (am_N fun v S1 => ∃ (f' : Nat → Int32) (g' : Nat → Nat → Int32) (gs' : List mg_E) (bc' : List (List Nat)), v = none ∧ MS S0 S1 f' g' ∧ (mg_on f (100 * ((f 0).toInt - (f 4).toInt) + (1 + mg_p3 gs)) f' g' gs' bc' ∨ mg_off f f' g' bc')) := by
  have hbs := mg_basic hrest
  refine am_e1 (v := 41) hi_180_0 rfl ?_
  refine am_e0 hi_180_1 ?_
  refine am_e13f hi_180_3 (by decide) ?_
  refine am_e2 (v := 39) hi_180_6 rfl ?_
  refine am_e1 (v := 41) hi_180_7 rfl ?_
  refine am_e1 (v := on) hi_180_8 rfl ?_
  refine am_e1 (v := tw) hi_180_9 rfl ?_
  refine am_e32w (as := [.ref 39, .int 41, .int on, .int tw]) (la := [some (.ref 39), some (.int 41), some (.int on), some (.int tw)]) (rest := []) hi_180_10 (am_hd0 (M := 180) (by decide) 10) (Nat.le_of_ble_eq_true rfl) (Nat.le_of_ble_eq_true rfl) (show 4 ≤ am_P0.2.2.1 181 from by decide +kernel) rfl (am_recv_ok hS.fs) rfl rfl ?_
  refine am_e1 (v := 41) hi_181_0 rfl ?_
  refine am_e19 (t := 377) hi_181_1 (by decide) ?_
  refine am_e2 (v := 39) hi_181_377 rfl ?_
  refine am_e0 hi_181_378 ?_
  refine am_e2 (v := 39) hi_181_380 rfl ?_
  refine mm_20 (v := .int (f 76)) hS hi_181_381 rfl ?_
  refine am_e0 hi_181_384 ?_
  refine am_e1 (v := on) hi_181_385 rfl ?_
  refine am_e32n (as := [.ref 39, .int 7, .int (f 76), .int 0, .int on]) (la := [some (.ref 39), some (.int 7), some (.int (f 76)), some (.int 0), some (.int on)]) (rest := []) hi_181_386 (am_hd0 (M := 181) (by decide) 386) (Nat.le_of_ble_eq_true rfl) (Nat.le_of_ble_eq_true rfl) (show 5 ≤ am_P0.2.2.1 189 from by decide +kernel) rfl (am_recv_ok hS.fs) rfl rfl (ct_put (d := (d + 6)) hS hR  (by show (0 : Int) ≤ (f 32).toInt; omega) (by show (f 32).toInt ≤ (63 : Int); omega) (by show (f 53).toInt ≤ (4096 : Int); omega) (by show (0 : Int) ≤ (f 68).toInt; omega) (by show (f 68).toInt ≤ (65534 : Int); omega)) ?_
  rintro v0 S1 (⟨z2, r3, g'4, hv5, hS6, hR10, h7, h8, h9⟩)
  subst hv5
  have h7_ : z2.toInt = (f 68).toInt + 1 := h7
  have h8_ : r3.toInt = (f 68).toInt := h8
  have h9_ : ∀ j, j ∉ [60, 69, 70, 71, 72, 73] → g'4 j = g j := h9
  have hR10_ : RJ (upd f 68 z2) g'4 gs bc [] 0 ((f 68).toNatClampNeg :: []) := hR10
  show am_E _ _ _ _ [some (.ref 39), some (.int 41), some (.int on), some (.int tw)] [.int r3] _ _
  refine am_e6i hi_181_389 ?_
  refine am_e2 (v := 39) hi_181_390 rfl ?_
  refine am_e0 hi_181_391 ?_
  refine am_e0 hi_181_392 ?_
  refine am_e0 hi_181_393 ?_
  refine am_e32n (as := [.ref 39, .int 0, .int 0, .int 0]) (la := [some (.ref 39), some (.int 0), some (.int 0), some (.int 0)]) (rest := []) hi_181_394 (am_hd0 (M := 181) (by decide) 394) (Nat.le_of_ble_eq_true rfl) (Nat.le_of_ble_eq_true rfl) (show 4 ≤ am_P0.2.2.1 190 from by decide +kernel) rfl (am_recv_ok hS6.fs) rfl rfl (ct_value (d := (d + 6)) hS6 hR10_ (fun h => absurd h (by decide)) (fun h => absurd h (by decide)) (by show (0 : Int) ≤ (f 15).toInt; omega) (by show (f 15).toInt ≤ (32767 : Int); omega)) ?_
  rintro v11 S12 (⟨z13, g'14, hv15, hS16, hR21, h17, h18, h19, h20⟩)
  subst hv15
  have h17_ : z13.toInt = (f 15).toInt + 1 := h17
  have h18_ : ∀ j, j ∉ [16, 17, 18] → g'14 j = g'4 j := h18
  have h19_ : mj_n (g'14 16) z13.toNatClampNeg 3 ≤ mj_n (g 16) (f 15).toNatClampNeg 3 + 1 := by rw [show g'4 16 = g 16 from h9_ 16 (by decide)] at h19; exact h19
  have h20_ : (0 : Int) = 3 ∨ mj_n (g'14 16) z13.toNatClampNeg 3 ≤ mj_n (g 16) (f 15).toNatClampNeg 3 := by rw [show g'4 16 = g 16 from h9_ 16 (by decide)] at h20; exact h20
  replace hS16 : MS S0 S12 (upd (upd f 15 z13) 68 z2) g'14 := hS16
  have hR21_ : RJ (upd (upd f 15 z13) 68 z2) g'14 gs bc [] 0 ((f 68).toNatClampNeg :: []) := hR21
  show am_E _ _ _ _ [some (.ref 39), some (.int 41), some (.int on), some (.int tw)] [] _ _
  refine am_e35 hi_181_397 ?_
  show am_E _ _ _ _ [some (.ref 39), some (.int 41), some (.int on), some (.int tw), some (.int th)] [] _ _
  refine am_e35 hi_180_13 ?_
  have q1 : mg_p1 gs = mg_p1 gs := rfl
  have q2 : mg_p2 gs = mg_p2 gs := rfl
  have q3 : mg_p3 gs = mg_p3 gs := rfl
  have q4 : mg_p4 gs = mg_p4 gs := rfl
  refine ⟨_, _, _, bc, rfl, hS16, Or.inl ⟨⟨(RJ.fewer (pj' := []) hR21_ (fun _ h => nomatch h)), ?_, ?_⟩, rfl, ?_⟩⟩
  · exact (mg_cast (mg_good_ext _ _ _ _ _ _ (fun i _ => by show g'14 34 i = g 34 i; rw [show g'14 34 = g'4 34 from h18_ 34 (by decide), show g'4 34 = g 34 from h9_ 34 (by decide)]) (fun i _ => by show g'14 38 i = g 38 i; rw [show g'14 38 = g'4 38 from h18_ 38 (by decide), show g'4 38 = g 38 from h9_ 38 (by decide)]) (fun i _ => by show g'14 23 i = g 23 i; rw [show g'14 23 = g'4 23 from h18_ 23 (by decide), show g'4 23 = g 23 from h9_ 23 (by decide)]) hrest) (by show (f 15).toInt + 1 = z13.toInt; omega) (by show (f 20).toInt = (f 20).toInt; omega) (by show (f 37).toInt + 0 = (f 37).toInt; omega) (by show (f 32).toInt + 0 = (f 32).toInt; omega) (by show (f 5).toInt + 0 = (f 5).toInt; omega) : mg_good (g'14 34) (g'14 38) (g'14 23) gs (z13.toInt) ((f 20).toInt) ((f 37).toInt) ((f 32).toInt) ((f 5).toInt))
  · exact ⟨(by show 0 ≤ (f 4).toInt; omega), (by show (f 4).toInt ≤ (f 0).toInt; omega), (by show (f 0).toInt ≤ 512; omega), (by show 0 ≤ (f 24).toInt; omega), (by show (f 24).toInt + (f 20).toInt + mg_p1 gs ≤ 4 * (f 4).toInt; omega), (by show (f 20).toInt ≤ (f 4).toInt; omega), (by show z13.toInt + mg_p2 gs ≤ (f 4).toInt; omega), (by show mg_p3 gs ≤ 20 * (f 4).toInt + 20; omega), (by show 0 ≤ z2.toInt; omega), (by show z2.toInt + 3 * (f 20).toInt + mg_p4 gs ≤ 60 * (f 4).toInt + 60; omega), (by show 0 ≤ (f 62).toInt; omega), (by show (f 62).toInt + 64 * mj_n (g'14 16) z13.toNatClampNeg 3 ≤ 64 * (f 4).toInt; omega), (by show 0 ≤ (f 44).toInt; omega), (by show (f 44).toInt ≤ (f 4).toInt; omega), (by show 0 ≤ (f 48).toInt; omega), (by show (f 48).toInt ≤ (f 4).toInt; omega), (by show 1 ≤ (f 53).toInt; omega), (by show (f 53).toInt ≤ (f 4).toInt + 1; omega), (by show 0 ≤ (f 19).toInt; omega), (by show (f 19).toInt ≤ 600; omega), (by show 0 ≤ (f 6).toInt; omega), (by show 0 ≤ (f 8).toInt; omega)⟩
  · show 100 * ((f 0).toInt - (f 4).toInt) + mg_p3 gs < 100 * ((f 0).toInt - (f 4).toInt) + (1 + mg_p3 gs); omega
