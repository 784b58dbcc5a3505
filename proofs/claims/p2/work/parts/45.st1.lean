/-! STEPS (printed by wip/p2/st1.py) -/
theorem st_25 {sc : Nat × (Nat → Int32)} {d : Nat} {S0 S : am_S} {f : Nat → Int32} {g : Nat → Nat → Int32} {on : Int32} {tw : Int32} {th : Int32} {gs : List mg_E} {bc : List (List Nat)} (hS : MS S0 S f g) (hR : RJ f g gs bc [] 0 []) (hrest : mg_good (g 34) (g 38) gs ((f 15).toInt + -1) ((f 20).toInt) ((f 37).toInt + 0) ((f 32).toInt + 0) ((f 5).toInt + 0)) (p0 : 0 ≤ (f 4).toInt) (p1 : (f 4).toInt ≤ (f 0).toInt) (p2 : (f 0).toInt ≤ 512) (p3 : 0 ≤ (f 24).toInt) (p4 : (f 24).toInt + (f 20).toInt + mg_p1 gs ≤ 4 * (f 4).toInt) (p5 : (f 20).toInt ≤ (f 4).toInt) (p6 : (f 15).toInt + 0 + mg_p2 gs ≤ (f 4).toInt) (p7 : 1 + mg_p3 gs ≤ 20 * (f 4).toInt + 20) (p8 : 0 ≤ (f 68).toInt) (p9 : (f 68).toInt + 3 * (f 20).toInt + 3 + mg_p4 gs ≤ 60 * (f 4).toInt + 60) (p10 : 0 ≤ (f 62).toInt) (p11 : (f 62).toInt + 64 * mj_n (g 16) (f 15).toNatClampNeg 3 ≤ 64 * (f 4).toInt) (p12 : 0 ≤ (f 44).toInt) (p13 : (f 44).toInt ≤ (f 4).toInt) (p14 : 0 ≤ (f 48).toInt) (p15 : (f 48).toInt ≤ (f 4).toInt) (p16 : 1 ≤ (f 53).toInt) (p17 : (f 53).toInt ≤ (f 4).toInt + 1) (p18 : 0 ≤ mg_p1 gs) (p19 : 0 ≤ mg_p2 gs) (p20 : 0 ≤ mg_p4 gs) (p21 : 0 ≤ (f 10).toInt) (p22 : (f 10).toInt ≤ mg_p3 gs) (p23 : 0 ≤ mj_n (g 16) (f 15).toNatClampNeg 3) (p24 : 1 ≤ (f 15).toInt) (p25 : 0 ≤ (f 20).toInt) (p26 : 1 ≤ (f 37).toInt) (p27 : 0 ≤ (f 32).toInt) (p28 : (f 32).toInt ≤ (f 5).toInt) (p29 : (f 5).toInt ≤ 48) (p30 : (f 37).toInt ≤ 2 * (f 5).toInt + 2) : am_E (am_PP sc) (d + 8) 180 0 [some (.ref 39), some (.int 25), some (.int on), some (.int tw), some (.int th)] [] S (am_N fun v S1 => ∃ (f' : Nat → Int32) (g' : Nat → Nat → Int32) (gs' : List mg_E) (bc' : List (List Nat)), v = none ∧ MS S0 S1 f' g' ∧ (mg_on f (100 * ((f 0).toInt - (f 4).toInt) + (1 + mg_p3 gs)) f' g' gs' bc' ∨ mg_off f f' g' bc')) := by
  refine am_e1 (v := 25) hi_180_0 rfl ?_
  refine am_e0 hi_180_1 ?_
  refine am_e13f hi_180_3 (by decide) ?_
  refine am_e2 (v := 39) hi_180_6 rfl ?_
  refine am_e1 (v := 25) hi_180_7 rfl ?_
  refine am_e1 (v := on) hi_180_8 rfl ?_
  refine am_e1 (v := tw) hi_180_9 rfl ?_
  refine am_e32w (as := [.ref 39, .int 25, .int on, .int tw]) (la := [some (.ref 39), some (.int 25), some (.int on), some (.int tw)]) (rest := []) hi_180_10 (am_hd0 (M := 180) (by decide) 10) (Nat.le_of_ble_eq_true rfl) (Nat.le_of_ble_eq_true rfl) (show 4 ≤ am_P0.2.2.1 181 from by decide +kernel) rfl (am_recv_ok hS.fs) rfl rfl ?_
  refine am_e1 (v := 25) hi_181_0 rfl ?_
  refine am_e19 (t := 104) hi_181_1 (by decide) ?_
  refine am_e2 (v := 39) hi_181_104 rfl ?_
  refine am_e32w (as := [.ref 39]) (la := [some (.ref 39)]) (rest := []) hi_181_105 (am_hd0 (M := 181) (by decide) 105) (Nat.le_of_ble_eq_true rfl) (Nat.le_of_ble_eq_true rfl) (show 1 ≤ am_P0.2.2.1 209 from by decide +kernel) rfl (am_recv_ok hS.fs) rfl rfl ?_
  refine am_e2 (v := 39) hi_209_0 rfl ?_
  refine am_e32n (as := [.ref 39]) (la := [some (.ref 39), none, none, none]) (rest := []) hi_209_1 (am_hd0 (M := 209) (by decide) 1) (Nat.le_of_ble_eq_true rfl) (Nat.le_of_ble_eq_true rfl) (show 1 ≤ am_P0.2.2.1 204 from by decide +kernel) rfl (am_recv_ok hS.fs) rfl rfl (ct_load (d := (d + 3)) hS hR  (by show 0 ≤ (f 32).toInt; omega) (by show (f 32).toInt ≤ 63; omega) (by show (f 53).toInt ≤ 4096; omega) (by show 0 ≤ (f 68).toInt; omega) (by show (f 68).toInt ≤ 65534; omega) (by show 1 ≤ (f 15).toInt; omega) (by show (f 15).toInt ≤ 32767; omega) (by show 0 ≤ (f 24).toInt; omega) (by show (f 24).toInt ≤ 16384; omega) (by show 0 ≤ (f 62).toInt; omega) (by show (f 62).toInt ≤ 65000; omega)) ?_
  rintro v0 S1 (⟨o2, s3, m4, g'5, hv6, hS7, hR14, h8, h9, h10, h11, h12, h13⟩)
  subst hv6
  have h8_ : (f 62).toInt ≤ o2.toInt := h8
  have h9_ : o2.toInt ≤ (f 62).toInt + 64 := h9
  have h10_ : (f 68).toInt ≤ s3.toInt := h10
  have h11_ : s3.toInt ≤ (f 68).toInt + 1 := h11
  have h12_ : o2.toInt + 64 * mj_n (g'5 16) (f 15).toNatClampNeg 3 ≤ (f 62).toInt + 64 * mj_n (g 16) (f 15).toNatClampNeg 3 := h12
  have h13_ : ∀ j, j ∉ [16, 60, 63, 64, 65, 66, 67, 69, 70, 71, 72, 73] → g'5 j = g j := h13
  have hR14_ : RJ (upd (upd (upd f 62 o2) 68 s3) 75 m4) g'5 gs bc [] 0 [] := hR14
  show am_E _ _ _ _ [some (.ref 39)] [] _ _
  refine am_e2 (v := 39) hi_209_4 rfl ?_
  refine am_e7 hi_209_5 ?_
  refine mm_20 (v := .int (f 15)) hS7 hi_209_6 rfl ?_
  refine am_e0 hi_209_9 ?_
  obtain ⟨z15, hz15, tz15⟩ := am_subI (x := f 15) (y := 1) (m := (f 15).toInt) (n := 1) rfl (by decide) (by omega) (by omega)
  refine am_e10 (z := z15) hi_209_10 hz15 ?_
  refine mm_21 (v := z15) hS7 hi_209_11 rfl (Nat.le_of_ble_eq_true rfl) ms_15 ?_
  intro S16 hS17
  replace hS17 : MS S0 S16 (upd (upd (upd (upd f 15 z15) 62 o2) 68 s3) 75 m4) g'5 := hS17
  have hp18 : mj_n (g'5 16) (f 15).toNatClampNeg 3 = mj_n (g'5 16) z15.toNatClampNeg 3 + if (g'5 16 z15.toNatClampNeg).toInt = 3 then 1 else 0 := mj_pop (by rw [cl_toNat, cl_toNat]; omega)
  have hp181 : mj_n (g'5 16) z15.toNatClampNeg 3 ≤ mj_n (g'5 16) (f 15).toNatClampNeg 3 := by rw [hp18]; split <;> omega
  have hp182 : (g'5 16 z15.toNatClampNeg).toInt = 3 → mj_n (g'5 16) z15.toNatClampNeg 3 + 1 ≤ mj_n (g'5 16) (f 15).toNatClampNeg 3 := fun q => by rw [hp18, if_pos q]; exact Int.le_refl _
  refine am_e35 hi_209_14 ?_
  show am_E _ _ _ _ [some (.ref 39), some (.int 25), some (.int on), some (.int tw)] [] _ _
  refine am_e2 (v := 39) hi_181_108 rfl ?_
  refine am_e0 hi_181_109 ?_
  refine am_e1 (v := on) hi_181_111 rfl ?_
  refine am_e0 hi_181_112 ?_
  refine am_e1 (v := tw) hi_181_113 rfl ?_
  refine am_e32n (as := [.ref 39, .int 19, .int on, .int 0, .int tw]) (la := [some (.ref 39), some (.int 19), some (.int on), some (.int 0), some (.int tw)]) (rest := []) hi_181_114 (am_hd0 (M := 181) (by decide) 114) (Nat.le_of_ble_eq_true rfl) (Nat.le_of_ble_eq_true rfl) (show 5 ≤ am_P0.2.2.1 189 from by decide +kernel) rfl (am_recv_ok hS17.fs) rfl rfl (ct_put (d := (d + 6)) hS17 hR14_  (by show 0 ≤ (f 32).toInt; omega) (by show (f 32).toInt ≤ 63; omega) (by show (f 53).toInt ≤ 4096; omega) (by show 0 ≤ s3.toInt; omega) (by show s3.toInt ≤ 65534; omega)) ?_
  rintro v19 S20 (⟨z21, r22, g'23, hv24, hS25, hR29, h26, h27, h28⟩)
  subst hv24
  have h26_ : z21.toInt = s3.toInt + 1 := h26
  have h27_ : r22.toInt = s3.toInt := h27
  have h28_ : ∀ j, j ∉ [60, 69, 70, 71, 72, 73] → g'23 j = g'5 j := h28
  replace hS25 : MS S0 S20 (upd (upd (upd (upd f 15 z15) 62 o2) 68 z21) 75 m4) g'23 := hS25
  have hR29_ : RJ (upd (upd (upd (upd f 15 z15) 62 o2) 68 z21) 75 m4) g'23 gs bc [] 0 (s3.toNatClampNeg :: []) := hR29
  show am_E _ _ _ _ [some (.ref 39), some (.int 25), some (.int on), some (.int tw)] [.int r22] _ _
  refine am_e6i hi_181_117 ?_
  refine am_e18 hi_181_118 ?_
  refine am_e35 hi_181_397 ?_
  show am_E _ _ _ _ [some (.ref 39), some (.int 25), some (.int on), some (.int tw), some (.int th)] [] _ _
  refine am_e35 hi_180_13 ?_
  have q1 : mg_p1 gs = mg_p1 gs := rfl
  have q2 : mg_p2 gs = mg_p2 gs := rfl
  have q3 : mg_p3 gs = mg_p3 gs := rfl
  have q4 : mg_p4 gs = mg_p4 gs := rfl
  refine ⟨_, _, _, bc, rfl, hS25, Or.inl ⟨⟨(RJ.fewer hR29_ (fun _ h => nomatch h)), ?_, ?_⟩, rfl, ?_⟩⟩
  · exact (mg_cast (mg_good_ext _ _ _ _ _ _ (fun i _ => by show g'23 34 i = g 34 i; rw [show g'23 34 = g'5 34 from h28_ 34 (by decide), show g'5 34 = g 34 from h13_ 34 (by decide)]) (fun i _ => by show g'23 38 i = g 38 i; rw [show g'23 38 = g'5 38 from h28_ 38 (by decide), show g'5 38 = g 38 from h13_ 38 (by decide)]) hrest) (by show (f 15).toInt + -1 = z15.toInt; omega) (by show (f 20).toInt = (f 20).toInt; omega) (by show (f 37).toInt + 0 = (f 37).toInt; omega) (by show (f 32).toInt + 0 = (f 32).toInt; omega) (by show (f 5).toInt + 0 = (f 5).toInt; omega) : mg_good (g'23 34) (g'23 38) gs (z15.toInt) ((f 20).toInt) ((f 37).toInt) ((f 32).toInt) ((f 5).toInt))
  · exact ⟨(by show 0 ≤ (f 4).toInt; omega), (by show (f 4).toInt ≤ (f 0).toInt; omega), (by show (f 0).toInt ≤ 512; omega), (by show 0 ≤ (f 24).toInt; omega), (by show (f 24).toInt + (f 20).toInt + mg_p1 gs ≤ 4 * (f 4).toInt; omega), (by show (f 20).toInt ≤ (f 4).toInt; omega), (by show z15.toInt + mg_p2 gs ≤ (f 4).toInt; omega), (by show mg_p3 gs ≤ 20 * (f 4).toInt + 20; omega), (by show 0 ≤ z21.toInt; omega), (by show z21.toInt + 3 * (f 20).toInt + mg_p4 gs ≤ 60 * (f 4).toInt + 60; omega), (by show 0 ≤ o2.toInt; omega), (by show o2.toInt + 64 * mj_n (g'23 16) z15.toNatClampNeg 3 ≤ 64 * (f 4).toInt; rw [show g'23 16 = g'5 16 from h28_ 16 (by decide)]; omega), (by show 0 ≤ (f 44).toInt; omega), (by show (f 44).toInt ≤ (f 4).toInt; omega), (by show 0 ≤ (f 48).toInt; omega), (by show (f 48).toInt ≤ (f 4).toInt; omega), (by show 1 ≤ (f 53).toInt; omega), (by show (f 53).toInt ≤ (f 4).toInt + 1; omega)⟩
  · show 100 * ((f 0).toInt - (f 4).toInt) + mg_p3 gs < 100 * ((f 0).toInt - (f 4).toInt) + (1 + mg_p3 gs); omega
