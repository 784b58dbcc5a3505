/-! STEPS: bodies closed (printed by wip/p2/st2.py) -/
set_option maxHeartbeats 16000000 in
theorem st_40 {sc : Nat × (Nat → Int32)} {d : Nat} {S0 S : am_S} {f : Nat → Int32} {g : Nat → Nat → Int32} {on : Int32} {tw : Int32} {th : Int32} {gs : List mg_E} {bc : List (List Nat)} (hS : MS S0 S f g) (hR : RJ f g gs bc [] 0 []) (hrest : mg_good (g 34) (g 38) (g 23) gs ((f 15).toInt + 0) ((f 20).toInt) ((f 37).toInt + -1) ((f 32).toInt + -1) ((f 5).toInt + -1)) (p0 : 0 ≤ (f 4).toInt) (p1 : (f 4).toInt ≤ (f 0).toInt) (p2 : (f 0).toInt ≤ 512) (p3 : 0 ≤ (f 24).toInt) (p4 : (f 24).toInt + (f 20).toInt + mg_p1 gs ≤ 4 * (f 4).toInt) (p5 : (f 20).toInt ≤ (f 4).toInt) (p6 : (f 15).toInt + 0 + mg_p2 gs ≤ (f 4).toInt) (p7 : 1 + mg_p3 gs ≤ 20 * (f 4).toInt + 20) (p8 : 0 ≤ (f 68).toInt) (p9 : (f 68).toInt + 3 * (f 20).toInt + 0 + mg_p4 gs ≤ 60 * (f 4).toInt + 60) (p10 : 0 ≤ (f 62).toInt) (p11 : (f 62).toInt + 64 * mj_n (g 16) (f 15).toNatClampNeg 3 ≤ 64 * (f 4).toInt) (p12 : 0 ≤ (f 44).toInt) (p13 : (f 44).toInt ≤ (f 4).toInt) (p14 : 0 ≤ (f 48).toInt) (p15 : (f 48).toInt ≤ (f 4).toInt) (p16 : 1 ≤ (f 53).toInt) (p17 : (f 53).toInt ≤ (f 4).toInt + 1) (p18 : 0 ≤ (f 19).toInt) (p19 : (f 19).toInt ≤ 600) (p20 : 0 ≤ (f 6).toInt) (p21 : 0 ≤ (f 8).toInt) (p22 : 0 ≤ mg_p1 gs) (p23 : 0 ≤ mg_p2 gs) (p24 : 0 ≤ mg_p4 gs) (p25 : 0 ≤ (f 10).toInt) (p26 : (f 10).toInt ≤ mg_p3 gs) (p27 : 0 ≤ mj_n (g 16) (f 15).toNatClampNeg 3) (p28 : 0 ≤ (f 15).toInt) (p29 : 0 ≤ (f 20).toInt) (p30 : 1 ≤ (f 37).toInt) (p31 : 0 ≤ (f 32).toInt) (p32 : (f 32).toInt ≤ (f 5).toInt) (p33 : (f 5).toInt ≤ 48) (p34 : (f 37).toInt ≤ 2 * (f 5).toInt + 1) : am_E (am_PP sc) (d + 8) 180 0 [some (.ref 39), some (.int 40), some (.int on), some (.int tw), some (.int th)] [] S (am_N fun v S1 => ∃ (f' : Nat → Int32) (g' : Nat → Nat → Int32) (gs' : List mg_E) (bc' : List (List Nat)), v = none ∧ MS S0 S1 f' g' ∧ (mg_on f (100 * ((f 0).toInt - (f 4).toInt) + (1 + mg_p3 gs)) f' g' gs' bc' ∨ mg_off f f' g' bc')) := by
  have hbs := mg_basic hrest
  obtain ⟨c0, bc1, rfl⟩ := RJ.bcons hR (by omega)
  refine am_e1 (v := 40) hi_180_0 rfl ?_
  refine am_e0 hi_180_1 ?_
  refine am_e13f hi_180_3 (by decide) ?_
  refine am_e2 (v := 39) hi_180_6 rfl ?_
  refine am_e1 (v := 40) hi_180_7 rfl ?_
  refine am_e1 (v := on) hi_180_8 rfl ?_
  refine am_e1 (v := tw) hi_180_9 rfl ?_
  refine am_e32w (as := [.ref 39, .int 40, .int on, .int tw]) (la := [some (.ref 39), some (.int 40), some (.int on), some (.int tw)]) (rest := []) hi_180_10 (am_hd0 (M := 180) (by decide) 10) (Nat.le_of_ble_eq_true rfl) (Nat.le_of_ble_eq_true rfl) (show 4 ≤ am_P0.2.2.1 181 from by decide +kernel) rfl (am_recv_ok hS.fs) rfl rfl ?_
  refine am_e1 (v := 40) hi_181_0 rfl ?_
  refine am_e19 (t := 369) hi_181_1 (by decide) ?_
  refine am_e2 (v := 39) hi_181_369 rfl ?_
  refine am_e1 (v := on) hi_181_370 rfl ?_
  refine am_e32w (as := [.ref 39, .int on]) (la := [some (.ref 39), some (.int on), none, none]) (rest := []) hi_181_371 (am_hd0 (M := 181) (by decide) 371) (Nat.le_of_ble_eq_true rfl) (Nat.le_of_ble_eq_true rfl) (show 2 ≤ am_P0.2.2.1 222 from by decide +kernel) rfl (am_recv_ok hS.fs) rfl rfl ?_
  refine am_e2 (v := 39) hi_222_0 rfl ?_
  refine mm_20 (v := .int (f 4)) hS hi_222_1 rfl ?_
  refine am_e3 (ls' := [some (.ref 39), some (.int on), some (.int (f 4)), none]) hi_222_4 (Nat.le_of_ble_eq_true rfl) rfl ?_
  refine am_e2 (v := 39) hi_222_5 rfl ?_
  refine am_e0 hi_222_6 ?_
  refine am_e32n (as := [.ref 39, .int 15]) (la := [some (.ref 39), some (.int 15)]) (rest := []) hi_222_8 (am_hd0 (M := 222) (by decide) 8) (Nat.le_of_ble_eq_true rfl) (Nat.le_of_ble_eq_true rfl) (show 2 ≤ am_P0.2.2.1 199 from by decide +kernel) rfl (am_recv_ok hS.fs) rfl rfl (ct_leave (d := (d + 2)) hS   (by show (0 : Int) ≤ (f 4).toInt; omega) (by show (f 0).toInt ≤ (16384 : Int); omega) (by show (0 : Int) ≤ (15 : Int); omega) (by show (0 : Int) ≤ (f 5).toInt; omega) (by show (f 5).toInt ≤ (48 : Int); omega) (by show (0 : Int) ≤ (f 6).toInt; omega)) ?_
  rintro v0 S1 (⟨z2, y3, hv4, hS5, h6, h7, h8⟩ | ⟨a10, b11, hv12, hS13, h14⟩)
  · subst hv4
    have h6_ : z2.toInt = (f 4).toInt + 1 := h6
    have h7_ : (f 4).toInt < (f 0).toInt := h7
    have h8_ : y3.toInt = (f 5).toInt - 1 := h8
    have hR16 : RJ (upd (upd f 4 z2) 5 y3) g gs (c0 :: bc1) [] 0 [] := RJ.at hR (by show (f 4).toInt ≤ z2.toInt; omega)
    show am_E _ _ _ _ [some (.ref 39), some (.int on), some (.int (f 4)), none] [.int 1] _ _
    refine am_e12t hi_222_11 (by decide) ?_
    refine am_e2 (v := 39) hi_222_15 rfl ?_
    refine mm_20 (v := .ref 58) hS5 hi_222_16 rfl ?_
    refine am_e2 (v := 39) hi_222_19 rfl ?_
    refine mm_20 (v := .int (f 32)) hS5 hi_222_20 rfl ?_
    refine mm_25 hS5 ma_33 hi_222_23 (by decide) (by omega) (by omega) ?_
    show am_E _ _ _ _ [some (.ref 39), some (.int on), some (.int (f 4)), none] [.int (g 33 (f 32).toNatClampNeg)] _ _
    have r17 : 0 ≤ (g 33 (f 32).toNatClampNeg).toInt ∧ (g 33 (f 32).toNatClampNeg).toInt < (f 53).toInt := RJ.fn (i := f 32) hR16 (by omega) (by show (f 32).toInt ≤ (f 32).toInt; omega)
    refine am_e3 (ls' := [some (.ref 39), some (.int on), some (.int (f 4)), some (.int (g 33 (f 32).toNatClampNeg))]) hi_222_24 (Nat.le_of_ble_eq_true rfl) rfl ?_
    refine am_e2 (v := 39) hi_222_25 rfl ?_
    refine am_e0 hi_222_26 ?_
    refine am_e0 hi_222_28 ?_
    refine am_e0 hi_222_29 ?_
    refine am_e1 (v := f 4) hi_222_30 rfl ?_
    refine am_e32n (as := [.ref 39, .int 45, .int 0, .int 0, .int (f 4)]) (la := [some (.ref 39), some (.int 45), some (.int 0), some (.int 0), some (.int (f 4))]) (rest := []) hi_222_31 (am_hd0 (M := 222) (by decide) 31) (Nat.le_of_ble_eq_true rfl) (Nat.le_of_ble_eq_true rfl) (show 5 ≤ am_P0.2.2.1 189 from by decide +kernel) rfl (am_recv_ok hS5.fs) rfl rfl (ct_put (d := (d + 5)) hS5 hR16  (by show (0 : Int) ≤ (f 32).toInt; omega) (by show (f 32).toInt ≤ (63 : Int); omega) (by show (f 53).toInt ≤ (4096 : Int); omega) (by show (0 : Int) ≤ (f 68).toInt; omega) (by show (f 68).toInt ≤ (65534 : Int); omega)) ?_
    rintro v18 S19 (⟨z20, r21, g'22, hv23, hS24, hR28, h25, h26, h27⟩)
    subst hv23
    have h25_ : z20.toInt = (f 68).toInt + 1 := h25
    have h26_ : r21.toInt = (f 68).toInt := h26
    have h27_ : ∀ j, j ∉ [60, 69, 70, 71, 72, 73] → g'22 j = g j := h27
    have hR28_ : RJ (upd (upd (upd f 4 z2) 5 y3) 68 z20) g'22 gs (c0 :: bc1) [] 0 ((f 68).toNatClampNeg :: []) := hR28
    show am_E _ _ _ _ [some (.ref 39), some (.int on), some (.int (f 4)), some (.int (g 33 (f 32).toNatClampNeg))] [.int r21] _ _
    refine am_e6i hi_222_34 ?_
    refine am_e2 (v := 39) hi_222_35 rfl ?_
    refine mm_20 (v := .ref 78) hS24 hi_222_36 rfl ?_
    refine am_e1 (v := g 33 (f 32).toNatClampNeg) hi_222_39 rfl ?_
    refine am_e1 (v := f 4) hi_222_40 rfl ?_
    refine am_e1 (v := on) hi_222_41 rfl ?_
    obtain ⟨z29, hz29⟩ : ∃ q__, am_bin 1 (f 4) on = q__ := ⟨_, rfl⟩
    refine am_e10 (z := z29) hi_222_42 hz29 ?_
    refine am_e0 hi_222_43 ?_
    obtain ⟨z30, hz30⟩ : ∃ q__, am_bin 0 z29 1 = q__ := ⟨_, rfl⟩
    refine am_e10 (z := z30) hi_222_44 hz30 ?_
    refine mm_26 hS24 ma_57 hi_222_45 (by decide) (by omega) (by omega) (fun h => nomatch h) ?_
    intro S31 hS32
    refine am_e2 (v := 39) hi_222_46 rfl ?_
    refine am_e32n (as := [.ref 39]) (la := [some (.ref 39), none]) (rest := []) hi_222_47 (am_hd0 (M := 222) (by decide) 47) (Nat.le_of_ble_eq_true rfl) (Nat.le_of_ble_eq_true rfl) (show 1 ≤ am_P0.2.2.1 223 from by decide +kernel) rfl (am_recv_ok hS32.fs) rfl rfl (ct_lostGotos (d := (d + 4)) hS32 hR28_  (by show (0 : Int) ≤ (f 32).toInt; omega) (by show (f 32).toInt ≤ (63 : Int); omega) (by show (0 : Int) ≤ (f 48).toInt; omega) (by show (f 48).toInt ≤ (8192 : Int); omega) (by show z2.toInt ≤ (8192 : Int); omega) (by show (0 : Int) ≤ (f 8).toInt; omega)) ?_
    rintro v33 S34 (⟨a35, b36, z37, hv38, hS39, hR43, h40, h41, h42⟩)
    subst hv38
    have h40_ : (0 : Int) ≤ z37.toInt := h40
    have h41_ : z37.toInt ≤ z2.toInt := h41
    have h42_ : (0 : Int) ≤ a35.toInt := h42
    replace hS39 : MS S0 S34 (upd (upd (upd (upd (upd (upd f 4 z2) 5 y3) 8 a35) 9 b36) 48 z37) 68 z20) (upg g'22 57 (g 33 (f 32).toNatClampNeg).toNatClampNeg z30) := hS39
    have hR43_ : RJ (upd (upd (upd (upd (upd (upd f 4 z2) 5 y3) 8 a35) 9 b36) 48 z37) 68 z20) (upg g'22 57 (g 33 (f 32).toNatClampNeg).toNatClampNeg z30) gs (c0 :: bc1) [] 0 ((f 68).toNatClampNeg :: []) := hR43
    show am_E _ _ _ _ [some (.ref 39), some (.int on), some (.int (f 4)), some (.int (g 33 (f 32).toNatClampNeg))] [] _ _
    refine am_e2 (v := 39) hi_222_50 rfl ?_
    refine am_e32n (as := [.ref 39]) (la := [some (.ref 39), none, none]) (rest := []) hi_222_51 (am_hd0 (M := 222) (by decide) 51) (Nat.le_of_ble_eq_true rfl) (Nat.le_of_ble_eq_true rfl) (show 1 ≤ am_P0.2.2.1 224 from by decide +kernel) rfl (am_recv_ok hS39.fs) rfl rfl (ct_dropBlock2 (d := (d + 5)) hS39 hR43_  (by show (0 : Int) ≤ (f 32).toInt; omega) (by show (f 32).toInt ≤ (63 : Int); omega) (by show (0 : Int) ≤ z37.toInt; omega) (by show z37.toInt ≤ (8192 : Int); omega) (by show z2.toInt ≤ (8192 : Int); omega) (by show (1 : Int) ≤ (f 37).toInt; omega) (by show (f 37).toInt ≤ (128 : Int); omega)) ?_
    rintro v44 S45 (⟨l46, z47, b48, g'49, hv50, hS51, hR60, h52, h53, h54, h55, h56, h57, h58, h59⟩)
    subst hv50
    have h52_ : z47.toInt = (f 37).toInt - 1 := h52
    have h53_ : (0 : Int) ≤ l46.toInt := h53
    have h54_ : l46.toInt ≤ (f 24).toInt := h54
    have h55_ : (0 : Int) ≤ b48.toInt := h55
    have h56_ : b48.toInt ≤ z2.toInt := h56
    have h57_ : ∀ j, j ∉ [52] → g'49 j = (upg g'22 57 (g 33 (f 32).toNatClampNeg).toNatClampNeg z30) j := h57
    have h58_ : ([] : List Nat) = [] → RJ (upd (upd (upd (upd (upd (upd (upd (upd (upd f 4 z2) 5 y3) 8 a35) 9 b36) 24 l46) 37 z47) 44 b48) 48 z37) 68 z20) g'49 gs bc1 c0 (g'49 43 z47.toNatClampNeg).toInt ((f 68).toNatClampNeg :: []) := h58
    have h59_ : l46 = (upg g'22 57 (g 33 (f 32).toNatClampNeg).toNatClampNeg z30) 38 z47.toNatClampNeg := h59
    replace hS51 : MS S0 S45 (upd (upd (upd (upd (upd (upd (upd (upd (upd f 4 z2) 5 y3) 8 a35) 9 b36) 24 l46) 37 z47) 44 b48) 48 z37) 68 z20) g'49 := hS51
    have hR60_ : RJ (upd (upd (upd (upd (upd (upd (upd (upd (upd f 4 z2) 5 y3) 8 a35) 9 b36) 24 l46) 37 z47) 44 b48) 48 z37) 68 z20) g'49 gs bc1 [] 0 ((f 68).toNatClampNeg :: []) := hR60
    show am_E _ _ _ _ [some (.ref 39), some (.int on), some (.int (f 4)), some (.int (g 33 (f 32).toNatClampNeg))] [] _ _
    refine am_e2 (v := 39) hi_222_54 rfl ?_
    refine am_e7 hi_222_55 ?_
    refine mm_20 (v := .int (f 32)) hS51 hi_222_56 rfl ?_
    refine am_e0 hi_222_59 ?_
    obtain ⟨z61, hz61, tz61⟩ := am_subI (x := f 32) (y := 1) (m := (f 32).toInt) (n := (1 : Int)) rfl (by decide) (by omega) (by omega)
    refine am_e10 (z := z61) hi_222_60 hz61 ?_
    refine mm_21 (v := z61) hS51 hi_222_61 rfl (Nat.le_of_ble_eq_true rfl) ms_32 ?_
    intro S62 hS63
    replace hS63 : MS S0 S62 (upd (upd (upd (upd (upd (upd (upd (upd (upd (upd f 4 z2) 5 y3) 8 a35) 9 b36) 24 l46) 32 z61) 37 z47) 44 b48) 48 z37) 68 z20) g'49 := hS63
    have hR64 : RJ (upd (upd (upd (upd (upd (upd (upd (upd (upd (upd f 4 z2) 5 y3) 8 a35) 9 b36) 24 l46) 32 z61) 37 z47) 44 b48) 48 z37) 68 z20) g'49 gs bc1 [] 0 ((f 68).toNatClampNeg :: []) := rj_depth hR60_ (by show z61.toInt ≤ (f 32).toInt; omega)
    refine am_e2 (v := 39) hi_222_64 rfl ?_
    refine am_e1 (v := g 33 (f 32).toNatClampNeg) hi_222_65 rfl ?_
    refine mm_21 (v := g 33 (f 32).toNatClampNeg) hS63 hi_222_66 rfl (Nat.le_of_ble_eq_true rfl) ms_76 ?_
    intro S65 hS66
    refine am_e35 hi_222_69 ?_
    show am_E _ _ _ _ [some (.ref 39), some (.int 40), some (.int on), some (.int tw)] [] _ _
    refine am_e18 hi_181_374 ?_
    refine am_e35 hi_181_397 ?_
    show am_E _ _ _ _ [some (.ref 39), some (.int 40), some (.int on), some (.int tw), some (.int th)] [] _ _
    refine am_e35 hi_180_13 ?_
    have q1 : mg_p1 gs = mg_p1 gs := rfl
    have q2 : mg_p2 gs = mg_p2 gs := rfl
    have q3 : mg_p3 gs = mg_p3 gs := rfl
    have q4 : mg_p4 gs = mg_p4 gs := rfl
    refine ⟨_, _, _, bc1, rfl, hS66, Or.inl ⟨⟨(RJ.fewer (pj' := []) hR64 (fun _ h => nomatch h)), ?_, ?_⟩, rfl, ?_⟩⟩
    · exact (mg_cast (mg_good_ext _ _ _ _ _ _ (fun i _ => by show g'49 34 i = g 34 i; rw [show g'49 34 = g'22 34 from h57_ 34 (by decide), show g'22 34 = g 34 from h27_ 34 (by decide)]) (fun i _ => by show g'49 38 i = g 38 i; rw [show g'49 38 = g'22 38 from h57_ 38 (by decide), show g'22 38 = g 38 from h27_ 38 (by decide)]) (fun i _ => by show g'49 23 i = g 23 i; rw [show g'49 23 = g'22 23 from h57_ 23 (by decide), show g'22 23 = g 23 from h27_ 23 (by decide)]) hrest) (by show (f 15).toInt + 0 = (f 15).toInt; omega) (by show (f 20).toInt = (f 20).toInt; omega) (by show (f 37).toInt + -1 = z47.toInt; omega) (by show (f 32).toInt + -1 = z61.toInt; omega) (by show (f 5).toInt + -1 = y3.toInt; omega) : mg_good (g'49 34) (g'49 38) (g'49 23) gs ((f 15).toInt) ((f 20).toInt) (z47.toInt) (z61.toInt) (y3.toInt))
    · exact ⟨(by show 0 ≤ z2.toInt; omega), (by show z2.toInt ≤ (f 0).toInt; omega), (by show (f 0).toInt ≤ 512; omega), (by show 0 ≤ l46.toInt; omega), (by show l46.toInt + (f 20).toInt + mg_p1 gs ≤ 4 * z2.toInt; omega), (by show (f 20).toInt ≤ z2.toInt; omega), (by show (f 15).toInt + mg_p2 gs ≤ z2.toInt; omega), (by show mg_p3 gs ≤ 20 * z2.toInt + 20; omega), (by show 0 ≤ z20.toInt; omega), (by show z20.toInt + 3 * (f 20).toInt + mg_p4 gs ≤ 60 * z2.toInt + 60; omega), (by show 0 ≤ (f 62).toInt; omega), (by show (f 62).toInt + 64 * mj_n (g'49 16) (f 15).toNatClampNeg 3 ≤ 64 * z2.toInt; rw [show g'49 16 = g'22 16 from h57_ 16 (by decide), show g'22 16 = g 16 from h27_ 16 (by decide)]; omega), (by show 0 ≤ b48.toInt; omega), (by show b48.toInt ≤ z2.toInt; omega), (by show 0 ≤ z37.toInt; omega), (by show z37.toInt ≤ z2.toInt; omega), (by show 1 ≤ (f 53).toInt; omega), (by show (f 53).toInt ≤ z2.toInt + 1; omega), (by show 0 ≤ (f 19).toInt; omega), (by show (f 19).toInt ≤ 600; omega), (by show 0 ≤ (f 6).toInt; omega), (by show 0 ≤ a35.toInt; omega)⟩
    · show 100 * ((f 0).toInt - z2.toInt) + mg_p3 gs < 100 * ((f 0).toInt - (f 4).toInt) + (1 + mg_p3 gs); omega
  · subst hv12
    have h14_ : (0 : Int) ≤ a10.toInt := h14
    have hR67 := rj_clear0 hR
    have hR68 : RJ (upd (upd (upd f 6 a10) 7 b11) 10 0) g [] (c0 :: bc1) [] 0 [] := hR67
    show am_E _ _ _ _ [some (.ref 39), some (.int on), some (.int (f 4)), none] [.int 0] _ _
    refine am_e12f hi_222_11 (by decide) ?_
    refine am_e35 hi_222_14 ?_
    show am_E _ _ _ _ [some (.ref 39), some (.int 40), some (.int on), some (.int tw)] [] _ _
    refine am_e18 hi_181_374 ?_
    refine am_e35 hi_181_397 ?_
    show am_E _ _ _ _ [some (.ref 39), some (.int 40), some (.int on), some (.int tw), some (.int th)] [] _ _
    refine am_e35 hi_180_13 ?_
    have hRc := rj_clear0 hR68
    refine ⟨_, _, [], _, rfl, hS13, Or.inr ⟨hRc, rfl, (by show 0 ≤ (f 4).toInt; omega), (by show (f 4).toInt ≤ (f 0).toInt; omega), (by show 0 ≤ (f 32).toInt; omega), (by show (f 32).toInt ≤ 63; omega), (by show 1 ≤ (f 53).toInt; omega), (by show (f 53).toInt ≤ 600; omega), (by show 0 ≤ (f 68).toInt; omega), (by show (f 68).toInt ≤ 60000; omega), (by show 0 ≤ (f 48).toInt; omega), (by show (f 48).toInt ≤ 8000; omega), (by show 0 ≤ (f 37).toInt; omega), (by show (f 37).toInt ≤ 128; omega), (by show 0 ≤ (f 62).toInt; omega), (by show (f 62).toInt ≤ 65000; omega), (by show 0 ≤ (f 19).toInt; omega), (by show (f 19).toInt ≤ 600; omega), (by show 0 ≤ a10.toInt; omega), (by show 0 ≤ (f 8).toInt; omega)⟩⟩
