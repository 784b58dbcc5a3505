/-! STEPS: expressions (printed by wip/p2/st2.py) -/
set_option maxHeartbeats 16000000 in
theorem st_23 {sc : Nat × (Nat → Int32)} {d : Nat} {S0 S : am_S} {f : Nat → Int32} {g : Nat → Nat → Int32} {on : Int32} {tw : Int32} {th : Int32} {gs : List mg_E} {bc : List (List Nat)} (hS : MS S0 S f g) (hR : RJ f g gs bc [] 0 []) (hrest : mg_good (g 34) (g 38) (g 23) gs ((f 15).toInt + 1) ((f 20).toInt) ((f 37).toInt + 0) ((f 32).toInt + 0) ((f 5).toInt + 0)) (p0 : 0 ≤ (f 4).toInt) (p1 : (f 4).toInt ≤ (f 0).toInt) (p2 : (f 0).toInt ≤ 512) (p3 : 0 ≤ (f 24).toInt) (p4 : (f 24).toInt + (f 20).toInt + mg_p1 gs ≤ 4 * (f 4).toInt) (p5 : (f 20).toInt ≤ (f 4).toInt) (p6 : (f 15).toInt + 0 + mg_p2 gs ≤ (f 4).toInt) (p7 : 1 + mg_p3 gs ≤ 20 * (f 4).toInt + 20) (p8 : 0 ≤ (f 68).toInt) (p9 : (f 68).toInt + 3 * (f 20).toInt + 0 + mg_p4 gs ≤ 60 * (f 4).toInt + 60) (p10 : 0 ≤ (f 62).toInt) (p11 : (f 62).toInt + 64 * mj_n (g 16) (f 15).toNatClampNeg 3 ≤ 64 * (f 4).toInt) (p12 : 0 ≤ (f 44).toInt) (p13 : (f 44).toInt ≤ (f 4).toInt) (p14 : 0 ≤ (f 48).toInt) (p15 : (f 48).toInt ≤ (f 4).toInt) (p16 : 1 ≤ (f 53).toInt) (p17 : (f 53).toInt ≤ (f 4).toInt + 1) (p18 : 0 ≤ (f 19).toInt) (p19 : (f 19).toInt ≤ 600) (p20 : 0 ≤ (f 6).toInt) (p21 : 0 ≤ (f 8).toInt) (p22 : 0 ≤ mg_p1 gs) (p23 : 0 ≤ mg_p2 gs) (p24 : 0 ≤ mg_p4 gs) (p25 : 0 ≤ (f 10).toInt) (p26 : (f 10).toInt ≤ mg_p3 gs) (p27 : 0 ≤ mj_n (g 16) (f 15).toNatClampNeg 3) (p28 : 0 ≤ (f 15).toInt) (p29 : 0 ≤ (f 20).toInt) (p30 : 1 ≤ (f 37).toInt) (p31 : 0 ≤ (f 32).toInt) (p32 : (f 32).toInt ≤ (f 5).toInt) (p33 : (f 5).toInt ≤ 48) (p34 : (f 37).toInt ≤ 2 * (f 5).toInt + 2) (p35 : 0 ≤ on.toInt) : am_E (am_PP sc) (d + 8) 180 0 [some (.ref 39), some (.int 23), some (.int on), some (.int tw), some (.int th)] [] S (am_N fun v S1 => ∃ (f' : Nat → Int32) (g' : Nat → Nat → Int32) (gs' : List mg_E) (bc' : List (List Nat)), v = none ∧ MS S0 S1 f' g' ∧ (mg_on f (100 * ((f 0).toInt - (f 4).toInt) + (1 + mg_p3 gs)) f' g' gs' bc' ∨ mg_off f f' g' bc')) := by
  have hbs := mg_basic hrest
  refine am_e1 (v := 23) hi_180_0 rfl ?_
  refine am_e0 hi_180_1 ?_
  refine am_e13f hi_180_3 (by decide) ?_
  refine am_e2 (v := 39) hi_180_6 rfl ?_
  refine am_e1 (v := 23) hi_180_7 rfl ?_
  refine am_e1 (v := on) hi_180_8 rfl ?_
  refine am_e1 (v := tw) hi_180_9 rfl ?_
  refine am_e32w (as := [.ref 39, .int 23, .int on, .int tw]) (la := [some (.ref 39), some (.int 23), some (.int on), some (.int tw)]) (rest := []) hi_180_10 (am_hd0 (M := 180) (by decide) 10) (Nat.le_of_ble_eq_true rfl) (Nat.le_of_ble_eq_true rfl) (show 4 ≤ am_P0.2.2.1 181 from by decide +kernel) rfl (am_recv_ok hS.fs) rfl rfl ?_
  refine am_e1 (v := 23) hi_181_0 rfl ?_
  refine am_e19 (t := 88) hi_181_1 (by decide) ?_
  refine am_e2 (v := 39) hi_181_88 rfl ?_
  refine am_e1 (v := on) hi_181_89 rfl ?_
  refine am_e32w (as := [.ref 39, .int on]) (la := [some (.ref 39), some (.int on), none]) (rest := []) hi_181_90 (am_hd0 (M := 181) (by decide) 90) (Nat.le_of_ble_eq_true rfl) (Nat.le_of_ble_eq_true rfl) (show 2 ≤ am_P0.2.2.1 182 from by decide +kernel) rfl (am_recv_ok hS.fs) rfl rfl ?_
  refine am_e2 (v := 39) hi_182_0 rfl ?_
  refine am_e32n (as := [.ref 39]) (la := [some (.ref 39)]) (rest := []) hi_182_1 (am_hd0 (M := 182) (by decide) 1) (Nat.le_of_ble_eq_true rfl) (Nat.le_of_ble_eq_true rfl) (show 1 ≤ am_P0.2.2.1 183 from by decide +kernel) rfl (am_recv_ok hS.fs) rfl rfl (ct_next (d := (d + 4)) hS   (by show (0 : Int) ≤ (f 4).toInt; omega) (by show (f 0).toInt ≤ (16384 : Int); omega)) ?_
  rintro v0 S1 (⟨r2, hv3, hS4, h5⟩)
  subst hv3
  have h5_ : (f 4).toInt < (f 0).toInt ∨ r2.toInt = (-1 : Int) := h5
  show am_E _ _ _ _ [some (.ref 39), some (.int on), none] [.int r2] _ _
  refine am_e3 (ls' := [some (.ref 39), some (.int on), some (.int r2)]) hi_182_4 (Nat.le_of_ble_eq_true rfl) rfl ?_
  refine am_e2 (v := 39) hi_182_5 rfl ?_
  refine am_e0 hi_182_6 ?_
  refine am_e1 (v := on) hi_182_8 rfl ?_
  refine am_e0 hi_182_9 ?_
  refine am_e0 hi_182_10 ?_
  refine am_e32n (as := [.ref 39, .int 24, .int on, .int 0, .int 0]) (la := [some (.ref 39), some (.int 24), some (.int on), some (.int 0), some (.int 0)]) (rest := []) hi_182_11 (am_hd0 (M := 182) (by decide) 11) (Nat.le_of_ble_eq_true rfl) (Nat.le_of_ble_eq_true rfl) (show 5 ≤ am_P0.2.2.1 179 from by decide +kernel) rfl (am_recv_ok hS4.fs) rfl rfl (ct_pile (d := (d + 5)) hS4 hR (mj_e_plain (by decide)) (by show (0 : Int) ≤ (f 10).toInt; omega) (by show (f 10).toInt ≤ (65535 : Int); omega)) ?_
  rintro v7 S8 (⟨z9, g'10, hv11, hS12, hR15, h13, h14⟩)
  subst hv11
  have h13_ : z9.toInt = (f 10).toInt + 1 := h13
  have h14_ : ∀ j, j ∉ [11, 12, 13, 14] → g'10 j = g j := h14
  have hR15_ : RJ (upd f 10 z9) g'10 (((24 : Int), on.toInt, (0 : Int), (0 : Int), []) :: gs) bc [] 0 [] := hR15
  show am_E _ _ _ _ [some (.ref 39), some (.int on), some (.int r2)] [] _ _
  refine am_e1 (v := r2) hi_182_14 rfl ?_
  refine am_e32n (as := [.int r2]) (la := [some (.int r2)]) (rest := []) hi_182_15 (am_hd0 (M := 182) (by decide) 15) (Nat.le_of_ble_eq_true rfl) (Nat.le_of_ble_eq_true rfl) (show 1 ≤ am_P0.2.2.1 185 from by decide +kernel) rfl rfl rfl rfl (ct_isUnary (d := (d + 5)) hS12   ) ?_
  rintro v16 S17 (⟨r18, hv19, hS20, h21, h22⟩)
  subst hv19
  have h21_ : r18 = 0 ∨ r18 = 1 := h21
  have h22_ : r18.toInt = (0 : Int) ∨ (0 : Int) ≤ r2.toInt := h22
  show am_E _ _ _ _ [some (.ref 39), some (.int on), some (.int r2)] [.int r18] _ _
  by_cases c24 : r18.toInt = (0 : Int)
  · refine am_e12t hi_182_18 (am_cT (m := r18.toInt) (n := (0 : Int)) rfl (by decide) c24) ?_
    refine am_e2 (v := 39) hi_182_52 rfl ?_
    refine am_e1 (v := r2) hi_182_53 rfl ?_
    refine am_e32w (as := [.ref 39, .int r2]) (la := [some (.ref 39), some (.int r2), none]) (rest := []) hi_182_54 (am_hd0 (M := 182) (by decide) 54) (Nat.le_of_ble_eq_true rfl) (Nat.le_of_ble_eq_true rfl) (show 2 ≤ am_P0.2.2.1 187 from by decide +kernel) rfl (am_recv_ok hS20.fs) rfl rfl ?_
    refine am_e2 (v := 39) hi_187_0 rfl ?_
    refine mm_20 (v := .int (f 4)) hS20 hi_187_1 rfl ?_
    refine am_e3 (ls' := [some (.ref 39), some (.int r2), some (.int (f 4))]) hi_187_4 (Nat.le_of_ble_eq_true rfl) rfl ?_
    refine am_e1 (v := r2) hi_187_5 rfl ?_
    by_cases c25 : r2.toInt = 2
    · refine am_e19 (t := 107) hi_187_6 (am_swI (v := r2) (w := 2) (by decide) (by decide) c25) ?_
      refine am_e2 (v := 39) hi_187_107 rfl ?_
      refine am_e0 hi_187_108 ?_
      refine am_e2 (v := 39) hi_187_109 rfl ?_
      refine mm_20 (v := .ref 41) hS20 hi_187_110 rfl ?_
      refine am_e2 (v := 39) hi_187_113 rfl ?_
      refine mm_20 (v := .int (f 4)) hS20 hi_187_114 rfl ?_
      refine mm_25 hS20 ma_2 hi_187_117 (by decide) (by omega) (by omega) ?_
      show am_E _ _ _ _ _ (.int (g'10 2 (f 4).toNatClampNeg) :: _) _ _
      rw [show g'10 2 = g 2 from h14_ 2 (by decide)]
      show am_E _ _ _ _ [some (.ref 39), some (.int r2), some (.int (f 4))] [.int (g 2 (f 4).toNatClampNeg), .int 4, .ref 39] _ _
      refine am_e32w (as := [.ref 39, .int 4, .int (g 2 (f 4).toNatClampNeg)]) (la := [some (.ref 39), some (.int 4), some (.int (g 2 (f 4).toNatClampNeg))]) (rest := []) hi_187_118 (am_hd0 (M := 187) (by decide) 118) (Nat.le_of_ble_eq_true rfl) (Nat.le_of_ble_eq_true rfl) (show 3 ≤ am_P0.2.2.1 188 from by decide +kernel) rfl (am_recv_ok hS20.fs) rfl rfl ?_
      refine am_e2 (v := 39) hi_188_0 rfl ?_
      refine am_e1 (v := 4) hi_188_1 rfl ?_
      refine am_e1 (v := g 2 (f 4).toNatClampNeg) hi_188_2 rfl ?_
      refine am_e0 hi_188_3 ?_
      refine am_e0 hi_188_4 ?_
      refine am_e32n (as := [.ref 39, .int 4, .int (g 2 (f 4).toNatClampNeg), .int 0, .int 0]) (la := [some (.ref 39), some (.int 4), some (.int (g 2 (f 4).toNatClampNeg)), some (.int 0), some (.int 0)]) (rest := []) hi_188_5 (am_hd0 (M := 188) (by decide) 5) (Nat.le_of_ble_eq_true rfl) (Nat.le_of_ble_eq_true rfl) (show 5 ≤ am_P0.2.2.1 189 from by decide +kernel) rfl (am_recv_ok hS20.fs) rfl rfl (ct_put (d := (d + 3)) hS20 hR15_  (by show (0 : Int) ≤ (f 32).toInt; omega) (by show (f 32).toInt ≤ (63 : Int); omega) (by show (f 53).toInt ≤ (4096 : Int); omega) (by show (0 : Int) ≤ (f 68).toInt; omega) (by show (f 68).toInt ≤ (65534 : Int); omega)) ?_
      rintro v26 S27 (⟨z28, r29, g'30, hv31, hS32, hR36, h33, h34, h35⟩)
      subst hv31
      have h33_ : z28.toInt = (f 68).toInt + 1 := h33
      have h34_ : r29.toInt = (f 68).toInt := h34
      have h35_ : ∀ j, j ∉ [60, 69, 70, 71, 72, 73] → g'30 j = g'10 j := h35
      have hR36_ : RJ (upd (upd f 10 z9) 68 z28) g'30 (((24 : Int), on.toInt, (0 : Int), (0 : Int), []) :: gs) bc [] 0 ((f 68).toNatClampNeg :: []) := hR36
      show am_E _ _ _ _ [some (.ref 39), some (.int 4), some (.int (g 2 (f 4).toNatClampNeg))] [.int r29] _ _
      refine am_e6i hi_188_8 ?_
      refine am_e2 (v := 39) hi_188_9 rfl ?_
      refine am_e0 hi_188_10 ?_
      refine am_e0 hi_188_11 ?_
      refine am_e0 hi_188_12 ?_
      refine am_e32n (as := [.ref 39, .int 0, .int 0, .int 0]) (la := [some (.ref 39), some (.int 0), some (.int 0), some (.int 0)]) (rest := []) hi_188_13 (am_hd0 (M := 188) (by decide) 13) (Nat.le_of_ble_eq_true rfl) (Nat.le_of_ble_eq_true rfl) (show 4 ≤ am_P0.2.2.1 190 from by decide +kernel) rfl (am_recv_ok hS32.fs) rfl rfl (ct_value (d := (d + 3)) hS32 hR36_ (fun h => absurd h (by decide)) (fun h => absurd h (by decide)) (by show (0 : Int) ≤ (f 15).toInt; omega) (by show (f 15).toInt ≤ (32767 : Int); omega)) ?_
      rintro v37 S38 (⟨z39, g'40, hv41, hS42, hR47, h43, h44, h45, h46⟩)
      subst hv41
      have h43_ : z39.toInt = (f 15).toInt + 1 := h43
      have h44_ : ∀ j, j ∉ [16, 17, 18] → g'40 j = g'30 j := h44
      have h45_ : mj_n (g'40 16) z39.toNatClampNeg 3 ≤ mj_n (g 16) (f 15).toNatClampNeg 3 + 1 := by rw [show g'30 16 = g'10 16 from h35_ 16 (by decide), show g'10 16 = g 16 from h14_ 16 (by decide)] at h45; exact h45
      have h46_ : (0 : Int) = 3 ∨ mj_n (g'40 16) z39.toNatClampNeg 3 ≤ mj_n (g 16) (f 15).toNatClampNeg 3 := by rw [show g'30 16 = g'10 16 from h35_ 16 (by decide), show g'10 16 = g 16 from h14_ 16 (by decide)] at h46; exact h46
      replace hS42 : MS S0 S38 (upd (upd (upd f 10 z9) 15 z39) 68 z28) g'40 := hS42
      have hR47_ : RJ (upd (upd (upd f 10 z9) 15 z39) 68 z28) g'40 (((24 : Int), on.toInt, (0 : Int), (0 : Int), []) :: gs) bc [] 0 ((f 68).toNatClampNeg :: []) := hR47
      show am_E _ _ _ _ [some (.ref 39), some (.int 4), some (.int (g 2 (f 4).toNatClampNeg))] [] _ _
      refine am_e2 (v := 39) hi_188_16 rfl ?_
      refine am_e7 hi_188_17 ?_
      refine mm_20 (v := .int (f 4)) hS42 hi_188_18 rfl ?_
      refine am_e0 hi_188_21 ?_
      obtain ⟨z48, hz48, tz48⟩ := am_addI (x := f 4) (y := 1) (m := (f 4).toInt) (n := (1 : Int)) rfl (by decide) (by omega) (by omega)
      refine am_e10 (z := z48) hi_188_22 hz48 ?_
      refine mm_21 (v := z48) hS42 hi_188_23 rfl (Nat.le_of_ble_eq_true rfl) ms_4 ?_
      intro S49 hS50
      replace hS50 : MS S0 S49 (upd (upd (upd (upd f 4 z48) 10 z9) 15 z39) 68 z28) g'40 := hS50
      have hR51 : RJ (upd (upd (upd (upd f 4 z48) 10 z9) 15 z39) 68 z28) g'40 (((24 : Int), on.toInt, (0 : Int), (0 : Int), []) :: gs) bc [] 0 ((f 68).toNatClampNeg :: []) := RJ.at hR47_ (by show (f 4).toInt ≤ z48.toInt; omega)
      refine am_e35 hi_188_26 ?_
      show am_E _ _ _ _ [some (.ref 39), some (.int r2), some (.int (f 4))] [] _ _
      refine am_e18 hi_187_121 ?_
      refine am_e35 hi_187_246 ?_
      show am_E _ _ _ _ [some (.ref 39), some (.int on), some (.int r2)] [] _ _
      refine am_e35 hi_182_57 ?_
      show am_E _ _ _ _ [some (.ref 39), some (.int 23), some (.int on), some (.int tw)] [] _ _
      refine am_e18 hi_181_93 ?_
      refine am_e35 hi_181_397 ?_
      show am_E _ _ _ _ [some (.ref 39), some (.int 23), some (.int on), some (.int tw), some (.int th)] [] _ _
      refine am_e35 hi_180_13 ?_
      have q1 : mg_p1 (((24 : Int), on.toInt, (0 : Int), (0 : Int), []) :: gs) = 0 + (mg_p1 gs) := rfl
      have q2 : mg_p2 (((24 : Int), on.toInt, (0 : Int), (0 : Int), []) :: gs) = 0 + (mg_p2 gs) := rfl
      have q3 : mg_p3 (((24 : Int), on.toInt, (0 : Int), (0 : Int), []) :: gs) = 1 + (mg_p3 gs) := rfl
      have q4 : mg_p4 (((24 : Int), on.toInt, (0 : Int), (0 : Int), []) :: gs) = 0 + (mg_p4 gs) := rfl
      refine ⟨_, _, _, bc, rfl, hS50, Or.inl ⟨⟨(RJ.fewer (pj' := []) hR51 (fun _ h => nomatch h)), ?_, ?_⟩, rfl, ?_⟩⟩
      · exact (⟨⟨(show mg_k 24 from by decide), (show (1 : Int) ≤ z39.toInt from by omega), (show 0 ≤ (f 20).toInt from by omega), (show 1 ≤ (f 37).toInt from by omega), (show 0 ≤ (f 32).toInt from by omega), (show (f 32).toInt ≤ (f 5).toInt from by omega), (show (f 5).toInt ≤ 48 from by omega), (show (f 37).toInt ≤ 2 * ((f 5).toInt) + 2 from by omega), (show 0 ≤ on.toInt from by omega)⟩, mg_cast (mg_good_ext _ _ _ _ _ _ (fun i _ => by show g'40 34 i = g 34 i; rw [show g'40 34 = g'30 34 from h44_ 34 (by decide), show g'30 34 = g'10 34 from h35_ 34 (by decide), show g'10 34 = g 34 from h14_ 34 (by decide)]) (fun i _ => by show g'40 38 i = g 38 i; rw [show g'40 38 = g'30 38 from h44_ 38 (by decide), show g'30 38 = g'10 38 from h35_ 38 (by decide), show g'10 38 = g 38 from h14_ 38 (by decide)]) (fun i _ => by show g'40 23 i = g 23 i; rw [show g'40 23 = g'30 23 from h44_ 23 (by decide), show g'30 23 = g'10 23 from h35_ 23 (by decide), show g'10 23 = g 23 from h14_ 23 (by decide)]) hrest) (by show (f 15).toInt + 1 = z39.toInt + 0; omega) (by show (f 20).toInt = (f 20).toInt; omega) (by show (f 37).toInt + 0 = (f 37).toInt + 0; omega) (by show (f 32).toInt + 0 = (f 32).toInt + 0; omega) (by show (f 5).toInt + 0 = (f 5).toInt + 0; omega)⟩ : mg_good (g'40 34) (g'40 38) (g'40 23) (((24 : Int), on.toInt, (0 : Int), (0 : Int), []) :: gs) (z39.toInt) ((f 20).toInt) ((f 37).toInt) ((f 32).toInt) ((f 5).toInt))
      · exact ⟨(by show 0 ≤ z48.toInt; omega), (by show z48.toInt ≤ (f 0).toInt; omega), (by show (f 0).toInt ≤ 512; omega), (by show 0 ≤ (f 24).toInt; omega), (by show (f 24).toInt + (f 20).toInt + mg_p1 (((24 : Int), on.toInt, (0 : Int), (0 : Int), []) :: gs) ≤ 4 * z48.toInt; omega), (by show (f 20).toInt ≤ z48.toInt; omega), (by show z39.toInt + mg_p2 (((24 : Int), on.toInt, (0 : Int), (0 : Int), []) :: gs) ≤ z48.toInt; omega), (by show mg_p3 (((24 : Int), on.toInt, (0 : Int), (0 : Int), []) :: gs) ≤ 20 * z48.toInt + 20; omega), (by show 0 ≤ z28.toInt; omega), (by show z28.toInt + 3 * (f 20).toInt + mg_p4 (((24 : Int), on.toInt, (0 : Int), (0 : Int), []) :: gs) ≤ 60 * z48.toInt + 60; omega), (by show 0 ≤ (f 62).toInt; omega), (by show (f 62).toInt + 64 * mj_n (g'40 16) z39.toNatClampNeg 3 ≤ 64 * z48.toInt; omega), (by show 0 ≤ (f 44).toInt; omega), (by show (f 44).toInt ≤ z48.toInt; omega), (by show 0 ≤ (f 48).toInt; omega), (by show (f 48).toInt ≤ z48.toInt; omega), (by show 1 ≤ (f 53).toInt; omega), (by show (f 53).toInt ≤ z48.toInt + 1; omega), (by show 0 ≤ (f 19).toInt; omega), (by show (f 19).toInt ≤ 600; omega), (by show 0 ≤ (f 6).toInt; omega), (by show 0 ≤ (f 8).toInt; omega)⟩
      · show 100 * ((f 0).toInt - z48.toInt) + mg_p3 (((24 : Int), on.toInt, (0 : Int), (0 : Int), []) :: gs) < 100 * ((f 0).toInt - (f 4).toInt) + (1 + mg_p3 gs); omega
    by_cases c52 : r2.toInt = 3
    · refine am_e19 (t := 124) hi_187_6 (am_swI (v := r2) (w := 3) (by decide) (by decide) c52) ?_
      refine am_e2 (v := 39) hi_187_124 rfl ?_
      refine am_e0 hi_187_125 ?_
      refine am_e2 (v := 39) hi_187_126 rfl ?_
      refine mm_20 (v := .ref 41) hS20 hi_187_127 rfl ?_
      refine am_e2 (v := 39) hi_187_130 rfl ?_
      refine mm_20 (v := .int (f 4)) hS20 hi_187_131 rfl ?_
      refine mm_25 hS20 ma_2 hi_187_134 (by decide) (by omega) (by omega) ?_
      show am_E _ _ _ _ _ (.int (g'10 2 (f 4).toNatClampNeg) :: _) _ _
      rw [show g'10 2 = g 2 from h14_ 2 (by decide)]
      show am_E _ _ _ _ [some (.ref 39), some (.int r2), some (.int (f 4))] [.int (g 2 (f 4).toNatClampNeg), .int 5, .ref 39] _ _
      refine am_e32w (as := [.ref 39, .int 5, .int (g 2 (f 4).toNatClampNeg)]) (la := [some (.ref 39), some (.int 5), some (.int (g 2 (f 4).toNatClampNeg))]) (rest := []) hi_187_135 (am_hd0 (M := 187) (by decide) 135) (Nat.le_of_ble_eq_true rfl) (Nat.le_of_ble_eq_true rfl) (show 3 ≤ am_P0.2.2.1 188 from by decide +kernel) rfl (am_recv_ok hS20.fs) rfl rfl ?_
      refine am_e2 (v := 39) hi_188_0 rfl ?_
      refine am_e1 (v := 5) hi_188_1 rfl ?_
      refine am_e1 (v := g 2 (f 4).toNatClampNeg) hi_188_2 rfl ?_
      refine am_e0 hi_188_3 ?_
      refine am_e0 hi_188_4 ?_
      refine am_e32n (as := [.ref 39, .int 5, .int (g 2 (f 4).toNatClampNeg), .int 0, .int 0]) (la := [some (.ref 39), some (.int 5), some (.int (g 2 (f 4).toNatClampNeg)), some (.int 0), some (.int 0)]) (rest := []) hi_188_5 (am_hd0 (M := 188) (by decide) 5) (Nat.le_of_ble_eq_true rfl) (Nat.le_of_ble_eq_true rfl) (show 5 ≤ am_P0.2.2.1 189 from by decide +kernel) rfl (am_recv_ok hS20.fs) rfl rfl (ct_put (d := (d + 3)) hS20 hR15_  (by show (0 : Int) ≤ (f 32).toInt; omega) (by show (f 32).toInt ≤ (63 : Int); omega) (by show (f 53).toInt ≤ (4096 : Int); omega) (by show (0 : Int) ≤ (f 68).toInt; omega) (by show (f 68).toInt ≤ (65534 : Int); omega)) ?_
      rintro v53 S54 (⟨z55, r56, g'57, hv58, hS59, hR63, h60, h61, h62⟩)
      subst hv58
      have h60_ : z55.toInt = (f 68).toInt + 1 := h60
      have h61_ : r56.toInt = (f 68).toInt := h61
      have h62_ : ∀ j, j ∉ [60, 69, 70, 71, 72, 73] → g'57 j = g'10 j := h62
      have hR63_ : RJ (upd (upd f 10 z9) 68 z55) g'57 (((24 : Int), on.toInt, (0 : Int), (0 : Int), []) :: gs) bc [] 0 ((f 68).toNatClampNeg :: []) := hR63
      show am_E _ _ _ _ [some (.ref 39), some (.int 5), some (.int (g 2 (f 4).toNatClampNeg))] [.int r56] _ _
      refine am_e6i hi_188_8 ?_
      refine am_e2 (v := 39) hi_188_9 rfl ?_
      refine am_e0 hi_188_10 ?_
      refine am_e0 hi_188_11 ?_
      refine am_e0 hi_188_12 ?_
      refine am_e32n (as := [.ref 39, .int 0, .int 0, .int 0]) (la := [some (.ref 39), some (.int 0), some (.int 0), some (.int 0)]) (rest := []) hi_188_13 (am_hd0 (M := 188) (by decide) 13) (Nat.le_of_ble_eq_true rfl) (Nat.le_of_ble_eq_true rfl) (show 4 ≤ am_P0.2.2.1 190 from by decide +kernel) rfl (am_recv_ok hS59.fs) rfl rfl (ct_value (d := (d + 3)) hS59 hR63_ (fun h => absurd h (by decide)) (fun h => absurd h (by decide)) (by show (0 : Int) ≤ (f 15).toInt; omega) (by show (f 15).toInt ≤ (32767 : Int); omega)) ?_
      rintro v64 S65 (⟨z66, g'67, hv68, hS69, hR74, h70, h71, h72, h73⟩)
      subst hv68
      have h70_ : z66.toInt = (f 15).toInt + 1 := h70
      have h71_ : ∀ j, j ∉ [16, 17, 18] → g'67 j = g'57 j := h71
      have h72_ : mj_n (g'67 16) z66.toNatClampNeg 3 ≤ mj_n (g 16) (f 15).toNatClampNeg 3 + 1 := by rw [show g'57 16 = g'10 16 from h62_ 16 (by decide), show g'10 16 = g 16 from h14_ 16 (by decide)] at h72; exact h72
      have h73_ : (0 : Int) = 3 ∨ mj_n (g'67 16) z66.toNatClampNeg 3 ≤ mj_n (g 16) (f 15).toNatClampNeg 3 := by rw [show g'57 16 = g'10 16 from h62_ 16 (by decide), show g'10 16 = g 16 from h14_ 16 (by decide)] at h73; exact h73
      replace hS69 : MS S0 S65 (upd (upd (upd f 10 z9) 15 z66) 68 z55) g'67 := hS69
      have hR74_ : RJ (upd (upd (upd f 10 z9) 15 z66) 68 z55) g'67 (((24 : Int), on.toInt, (0 : Int), (0 : Int), []) :: gs) bc [] 0 ((f 68).toNatClampNeg :: []) := hR74
      show am_E _ _ _ _ [some (.ref 39), some (.int 5), some (.int (g 2 (f 4).toNatClampNeg))] [] _ _
      refine am_e2 (v := 39) hi_188_16 rfl ?_
      refine am_e7 hi_188_17 ?_
      refine mm_20 (v := .int (f 4)) hS69 hi_188_18 rfl ?_
      refine am_e0 hi_188_21 ?_
      obtain ⟨z75, hz75, tz75⟩ := am_addI (x := f 4) (y := 1) (m := (f 4).toInt) (n := (1 : Int)) rfl (by decide) (by omega) (by omega)
      refine am_e10 (z := z75) hi_188_22 hz75 ?_
      refine mm_21 (v := z75) hS69 hi_188_23 rfl (Nat.le_of_ble_eq_true rfl) ms_4 ?_
      intro S76 hS77
      replace hS77 : MS S0 S76 (upd (upd (upd (upd f 4 z75) 10 z9) 15 z66) 68 z55) g'67 := hS77
      have hR78 : RJ (upd (upd (upd (upd f 4 z75) 10 z9) 15 z66) 68 z55) g'67 (((24 : Int), on.toInt, (0 : Int), (0 : Int), []) :: gs) bc [] 0 ((f 68).toNatClampNeg :: []) := RJ.at hR74_ (by show (f 4).toInt ≤ z75.toInt; omega)
      refine am_e35 hi_188_26 ?_
      show am_E _ _ _ _ [some (.ref 39), some (.int r2), some (.int (f 4))] [] _ _
      refine am_e18 hi_187_138 ?_
      refine am_e35 hi_187_246 ?_
      show am_E _ _ _ _ [some (.ref 39), some (.int on), some (.int r2)] [] _ _
      refine am_e35 hi_182_57 ?_
      show am_E _ _ _ _ [some (.ref 39), some (.int 23), some (.int on), some (.int tw)] [] _ _
      refine am_e18 hi_181_93 ?_
      refine am_e35 hi_181_397 ?_
      show am_E _ _ _ _ [some (.ref 39), some (.int 23), some (.int on), some (.int tw), some (.int th)] [] _ _
      refine am_e35 hi_180_13 ?_
      have q1 : mg_p1 (((24 : Int), on.toInt, (0 : Int), (0 : Int), []) :: gs) = 0 + (mg_p1 gs) := rfl
      have q2 : mg_p2 (((24 : Int), on.toInt, (0 : Int), (0 : Int), []) :: gs) = 0 + (mg_p2 gs) := rfl
      have q3 : mg_p3 (((24 : Int), on.toInt, (0 : Int), (0 : Int), []) :: gs) = 1 + (mg_p3 gs) := rfl
      have q4 : mg_p4 (((24 : Int), on.toInt, (0 : Int), (0 : Int), []) :: gs) = 0 + (mg_p4 gs) := rfl
      refine ⟨_, _, _, bc, rfl, hS77, Or.inl ⟨⟨(RJ.fewer (pj' := []) hR78 (fun _ h => nomatch h)), ?_, ?_⟩, rfl, ?_⟩⟩
      · exact (⟨⟨(show mg_k 24 from by decide), (show (1 : Int) ≤ z66.toInt from by omega), (show 0 ≤ (f 20).toInt from by omega), (show 1 ≤ (f 37).toInt from by omega), (show 0 ≤ (f 32).toInt from by omega), (show (f 32).toInt ≤ (f 5).toInt from by omega), (show (f 5).toInt ≤ 48 from by omega), (show (f 37).toInt ≤ 2 * ((f 5).toInt) + 2 from by omega), (show 0 ≤ on.toInt from by omega)⟩, mg_cast (mg_good_ext _ _ _ _ _ _ (fun i _ => by show g'67 34 i = g 34 i; rw [show g'67 34 = g'57 34 from h71_ 34 (by decide), show g'57 34 = g'10 34 from h62_ 34 (by decide), show g'10 34 = g 34 from h14_ 34 (by decide)]) (fun i _ => by show g'67 38 i = g 38 i; rw [show g'67 38 = g'57 38 from h71_ 38 (by decide), show g'57 38 = g'10 38 from h62_ 38 (by decide), show g'10 38 = g 38 from h14_ 38 (by decide)]) (fun i _ => by show g'67 23 i = g 23 i; rw [show g'67 23 = g'57 23 from h71_ 23 (by decide), show g'57 23 = g'10 23 from h62_ 23 (by decide), show g'10 23 = g 23 from h14_ 23 (by decide)]) hrest) (by show (f 15).toInt + 1 = z66.toInt + 0; omega) (by show (f 20).toInt = (f 20).toInt; omega) (by show (f 37).toInt + 0 = (f 37).toInt + 0; omega) (by show (f 32).toInt + 0 = (f 32).toInt + 0; omega) (by show (f 5).toInt + 0 = (f 5).toInt + 0; omega)⟩ : mg_good (g'67 34) (g'67 38) (g'67 23) (((24 : Int), on.toInt, (0 : Int), (0 : Int), []) :: gs) (z66.toInt) ((f 20).toInt) ((f 37).toInt) ((f 32).toInt) ((f 5).toInt))
      · exact ⟨(by show 0 ≤ z75.toInt; omega), (by show z75.toInt ≤ (f 0).toInt; omega), (by show (f 0).toInt ≤ 512; omega), (by show 0 ≤ (f 24).toInt; omega), (by show (f 24).toInt + (f 20).toInt + mg_p1 (((24 : Int), on.toInt, (0 : Int), (0 : Int), []) :: gs) ≤ 4 * z75.toInt; omega), (by show (f 20).toInt ≤ z75.toInt; omega), (by show z66.toInt + mg_p2 (((24 : Int), on.toInt, (0 : Int), (0 : Int), []) :: gs) ≤ z75.toInt; omega), (by show mg_p3 (((24 : Int), on.toInt, (0 : Int), (0 : Int), []) :: gs) ≤ 20 * z75.toInt + 20; omega), (by show 0 ≤ z55.toInt; omega), (by show z55.toInt + 3 * (f 20).toInt + mg_p4 (((24 : Int), on.toInt, (0 : Int), (0 : Int), []) :: gs) ≤ 60 * z75.toInt + 60; omega), (by show 0 ≤ (f 62).toInt; omega), (by show (f 62).toInt + 64 * mj_n (g'67 16) z66.toNatClampNeg 3 ≤ 64 * z75.toInt; omega), (by show 0 ≤ (f 44).toInt; omega), (by show (f 44).toInt ≤ z75.toInt; omega), (by show 0 ≤ (f 48).toInt; omega), (by show (f 48).toInt ≤ z75.toInt; omega), (by show 1 ≤ (f 53).toInt; omega), (by show (f 53).toInt ≤ z75.toInt + 1; omega), (by show 0 ≤ (f 19).toInt; omega), (by show (f 19).toInt ≤ 600; omega), (by show 0 ≤ (f 6).toInt; omega), (by show 0 ≤ (f 8).toInt; omega)⟩
      · show 100 * ((f 0).toInt - z75.toInt) + mg_p3 (((24 : Int), on.toInt, (0 : Int), (0 : Int), []) :: gs) < 100 * ((f 0).toInt - (f 4).toInt) + (1 + mg_p3 gs); omega
    by_cases c79 : r2.toInt = 16
    · refine am_e19 (t := 89) hi_187_6 (am_swI (v := r2) (w := 16) (by decide) (by decide) c79) ?_
      refine am_e2 (v := 39) hi_187_89 rfl ?_
      refine am_e0 hi_187_90 ?_
      refine am_e0 hi_187_91 ?_
      refine am_e32w (as := [.ref 39, .int 2, .int 0]) (la := [some (.ref 39), some (.int 2), some (.int 0)]) (rest := []) hi_187_92 (am_hd0 (M := 187) (by decide) 92) (Nat.le_of_ble_eq_true rfl) (Nat.le_of_ble_eq_true rfl) (show 3 ≤ am_P0.2.2.1 188 from by decide +kernel) rfl (am_recv_ok hS20.fs) rfl rfl ?_
      refine am_e2 (v := 39) hi_188_0 rfl ?_
      refine am_e1 (v := 2) hi_188_1 rfl ?_
      refine am_e1 (v := 0) hi_188_2 rfl ?_
      refine am_e0 hi_188_3 ?_
      refine am_e0 hi_188_4 ?_
      refine am_e32n (as := [.ref 39, .int 2, .int 0, .int 0, .int 0]) (la := [some (.ref 39), some (.int 2), some (.int 0), some (.int 0), some (.int 0)]) (rest := []) hi_188_5 (am_hd0 (M := 188) (by decide) 5) (Nat.le_of_ble_eq_true rfl) (Nat.le_of_ble_eq_true rfl) (show 5 ≤ am_P0.2.2.1 189 from by decide +kernel) rfl (am_recv_ok hS20.fs) rfl rfl (ct_put (d := (d + 3)) hS20 hR15_  (by show (0 : Int) ≤ (f 32).toInt; omega) (by show (f 32).toInt ≤ (63 : Int); omega) (by show (f 53).toInt ≤ (4096 : Int); omega) (by show (0 : Int) ≤ (f 68).toInt; omega) (by show (f 68).toInt ≤ (65534 : Int); omega)) ?_
      rintro v80 S81 (⟨z82, r83, g'84, hv85, hS86, hR90, h87, h88, h89⟩)
      subst hv85
      have h87_ : z82.toInt = (f 68).toInt + 1 := h87
      have h88_ : r83.toInt = (f 68).toInt := h88
      have h89_ : ∀ j, j ∉ [60, 69, 70, 71, 72, 73] → g'84 j = g'10 j := h89
      have hR90_ : RJ (upd (upd f 10 z9) 68 z82) g'84 (((24 : Int), on.toInt, (0 : Int), (0 : Int), []) :: gs) bc [] 0 ((f 68).toNatClampNeg :: []) := hR90
      show am_E _ _ _ _ [some (.ref 39), some (.int 2), some (.int 0)] [.int r83] _ _
      refine am_e6i hi_188_8 ?_
      refine am_e2 (v := 39) hi_188_9 rfl ?_
      refine am_e0 hi_188_10 ?_
      refine am_e0 hi_188_11 ?_
      refine am_e0 hi_188_12 ?_
      refine am_e32n (as := [.ref 39, .int 0, .int 0, .int 0]) (la := [some (.ref 39), some (.int 0), some (.int 0), some (.int 0)]) (rest := []) hi_188_13 (am_hd0 (M := 188) (by decide) 13) (Nat.le_of_ble_eq_true rfl) (Nat.le_of_ble_eq_true rfl) (show 4 ≤ am_P0.2.2.1 190 from by decide +kernel) rfl (am_recv_ok hS86.fs) rfl rfl (ct_value (d := (d + 3)) hS86 hR90_ (fun h => absurd h (by decide)) (fun h => absurd h (by decide)) (by show (0 : Int) ≤ (f 15).toInt; omega) (by show (f 15).toInt ≤ (32767 : Int); omega)) ?_
      rintro v91 S92 (⟨z93, g'94, hv95, hS96, hR101, h97, h98, h99, h100⟩)
      subst hv95
      have h97_ : z93.toInt = (f 15).toInt + 1 := h97
      have h98_ : ∀ j, j ∉ [16, 17, 18] → g'94 j = g'84 j := h98
      have h99_ : mj_n (g'94 16) z93.toNatClampNeg 3 ≤ mj_n (g 16) (f 15).toNatClampNeg 3 + 1 := by rw [show g'84 16 = g'10 16 from h89_ 16 (by decide), show g'10 16 = g 16 from h14_ 16 (by decide)] at h99; exact h99
      have h100_ : (0 : Int) = 3 ∨ mj_n (g'94 16) z93.toNatClampNeg 3 ≤ mj_n (g 16) (f 15).toNatClampNeg 3 := by rw [show g'84 16 = g'10 16 from h89_ 16 (by decide), show g'10 16 = g 16 from h14_ 16 (by decide)] at h100; exact h100
      replace hS96 : MS S0 S92 (upd (upd (upd f 10 z9) 15 z93) 68 z82) g'94 := hS96
      have hR101_ : RJ (upd (upd (upd f 10 z9) 15 z93) 68 z82) g'94 (((24 : Int), on.toInt, (0 : Int), (0 : Int), []) :: gs) bc [] 0 ((f 68).toNatClampNeg :: []) := hR101
      show am_E _ _ _ _ [some (.ref 39), some (.int 2), some (.int 0)] [] _ _
      refine am_e2 (v := 39) hi_188_16 rfl ?_
      refine am_e7 hi_188_17 ?_
      refine mm_20 (v := .int (f 4)) hS96 hi_188_18 rfl ?_
      refine am_e0 hi_188_21 ?_
      obtain ⟨z102, hz102, tz102⟩ := am_addI (x := f 4) (y := 1) (m := (f 4).toInt) (n := (1 : Int)) rfl (by decide) (by omega) (by omega)
      refine am_e10 (z := z102) hi_188_22 hz102 ?_
      refine mm_21 (v := z102) hS96 hi_188_23 rfl (Nat.le_of_ble_eq_true rfl) ms_4 ?_
      intro S103 hS104
      replace hS104 : MS S0 S103 (upd (upd (upd (upd f 4 z102) 10 z9) 15 z93) 68 z82) g'94 := hS104
      have hR105 : RJ (upd (upd (upd (upd f 4 z102) 10 z9) 15 z93) 68 z82) g'94 (((24 : Int), on.toInt, (0 : Int), (0 : Int), []) :: gs) bc [] 0 ((f 68).toNatClampNeg :: []) := RJ.at hR101_ (by show (f 4).toInt ≤ z102.toInt; omega)
      refine am_e35 hi_188_26 ?_
      show am_E _ _ _ _ [some (.ref 39), some (.int r2), some (.int (f 4))] [] _ _
      refine am_e18 hi_187_95 ?_
      refine am_e35 hi_187_246 ?_
      show am_E _ _ _ _ [some (.ref 39), some (.int on), some (.int r2)] [] _ _
      refine am_e35 hi_182_57 ?_
      show am_E _ _ _ _ [some (.ref 39), some (.int 23), some (.int on), some (.int tw)] [] _ _
      refine am_e18 hi_181_93 ?_
      refine am_e35 hi_181_397 ?_
      show am_E _ _ _ _ [some (.ref 39), some (.int 23), some (.int on), some (.int tw), some (.int th)] [] _ _
      refine am_e35 hi_180_13 ?_
      have q1 : mg_p1 (((24 : Int), on.toInt, (0 : Int), (0 : Int), []) :: gs) = 0 + (mg_p1 gs) := rfl
      have q2 : mg_p2 (((24 : Int), on.toInt, (0 : Int), (0 : Int), []) :: gs) = 0 + (mg_p2 gs) := rfl
      have q3 : mg_p3 (((24 : Int), on.toInt, (0 : Int), (0 : Int), []) :: gs) = 1 + (mg_p3 gs) := rfl
      have q4 : mg_p4 (((24 : Int), on.toInt, (0 : Int), (0 : Int), []) :: gs) = 0 + (mg_p4 gs) := rfl
      refine ⟨_, _, _, bc, rfl, hS104, Or.inl ⟨⟨(RJ.fewer (pj' := []) hR105 (fun _ h => nomatch h)), ?_, ?_⟩, rfl, ?_⟩⟩
      · exact (⟨⟨(show mg_k 24 from by decide), (show (1 : Int) ≤ z93.toInt from by omega), (show 0 ≤ (f 20).toInt from by omega), (show 1 ≤ (f 37).toInt from by omega), (show 0 ≤ (f 32).toInt from by omega), (show (f 32).toInt ≤ (f 5).toInt from by omega), (show (f 5).toInt ≤ 48 from by omega), (show (f 37).toInt ≤ 2 * ((f 5).toInt) + 2 from by omega), (show 0 ≤ on.toInt from by omega)⟩, mg_cast (mg_good_ext _ _ _ _ _ _ (fun i _ => by show g'94 34 i = g 34 i; rw [show g'94 34 = g'84 34 from h98_ 34 (by decide), show g'84 34 = g'10 34 from h89_ 34 (by decide), show g'10 34 = g 34 from h14_ 34 (by decide)]) (fun i _ => by show g'94 38 i = g 38 i; rw [show g'94 38 = g'84 38 from h98_ 38 (by decide), show g'84 38 = g'10 38 from h89_ 38 (by decide), show g'10 38 = g 38 from h14_ 38 (by decide)]) (fun i _ => by show g'94 23 i = g 23 i; rw [show g'94 23 = g'84 23 from h98_ 23 (by decide), show g'84 23 = g'10 23 from h89_ 23 (by decide), show g'10 23 = g 23 from h14_ 23 (by decide)]) hrest) (by show (f 15).toInt + 1 = z93.toInt + 0; omega) (by show (f 20).toInt = (f 20).toInt; omega) (by show (f 37).toInt + 0 = (f 37).toInt + 0; omega) (by show (f 32).toInt + 0 = (f 32).toInt + 0; omega) (by show (f 5).toInt + 0 = (f 5).toInt + 0; omega)⟩ : mg_good (g'94 34) (g'94 38) (g'94 23) (((24 : Int), on.toInt, (0 : Int), (0 : Int), []) :: gs) (z93.toInt) ((f 20).toInt) ((f 37).toInt) ((f 32).toInt) ((f 5).toInt))
      · exact ⟨(by show 0 ≤ z102.toInt; omega), (by show z102.toInt ≤ (f 0).toInt; omega), (by show (f 0).toInt ≤ 512; omega), (by show 0 ≤ (f 24).toInt; omega), (by show (f 24).toInt + (f 20).toInt + mg_p1 (((24 : Int), on.toInt, (0 : Int), (0 : Int), []) :: gs) ≤ 4 * z102.toInt; omega), (by show (f 20).toInt ≤ z102.toInt; omega), (by show z93.toInt + mg_p2 (((24 : Int), on.toInt, (0 : Int), (0 : Int), []) :: gs) ≤ z102.toInt; omega), (by show mg_p3 (((24 : Int), on.toInt, (0 : Int), (0 : Int), []) :: gs) ≤ 20 * z102.toInt + 20; omega), (by show 0 ≤ z82.toInt; omega), (by show z82.toInt + 3 * (f 20).toInt + mg_p4 (((24 : Int), on.toInt, (0 : Int), (0 : Int), []) :: gs) ≤ 60 * z102.toInt + 60; omega), (by show 0 ≤ (f 62).toInt; omega), (by show (f 62).toInt + 64 * mj_n (g'94 16) z93.toNatClampNeg 3 ≤ 64 * z102.toInt; omega), (by show 0 ≤ (f 44).toInt; omega), (by show (f 44).toInt ≤ z102.toInt; omega), (by show 0 ≤ (f 48).toInt; omega), (by show (f 48).toInt ≤ z102.toInt; omega), (by show 1 ≤ (f 53).toInt; omega), (by show (f 53).toInt ≤ z102.toInt + 1; omega), (by show 0 ≤ (f 19).toInt; omega), (by show (f 19).toInt ≤ 600; omega), (by show 0 ≤ (f 6).toInt; omega), (by show 0 ≤ (f 8).toInt; omega)⟩
      · show 100 * ((f 0).toInt - z102.toInt) + mg_p3 (((24 : Int), on.toInt, (0 : Int), (0 : Int), []) :: gs) < 100 * ((f 0).toInt - (f 4).toInt) + (1 + mg_p3 gs); omega
    by_cases c106 : r2.toInt = 18
    · refine am_e19 (t := 203) hi_187_6 (am_swI (v := r2) (w := 18) (by decide) (by decide) c106) ?_
      refine am_e2 (v := 39) hi_187_203 rfl ?_
      refine am_e0 hi_187_204 ?_
      refine am_e32n (as := [.ref 39, .int 18]) (la := [some (.ref 39), some (.int 18)]) (rest := []) hi_187_206 (am_hd0 (M := 187) (by decide) 206) (Nat.le_of_ble_eq_true rfl) (Nat.le_of_ble_eq_true rfl) (show 2 ≤ am_P0.2.2.1 193 from by decide +kernel) rfl (am_recv_ok hS20.fs) rfl rfl (ct_enter (d := (d + 2)) hS20   (by show (0 : Int) ≤ (f 4).toInt; omega) (by show (f 0).toInt ≤ (16384 : Int); omega) (by show (0 : Int) ≤ (18 : Int); omega) (by show (0 : Int) ≤ (f 5).toInt; omega) (by show (f 5).toInt ≤ (48 : Int); omega) (by show (0 : Int) ≤ (f 6).toInt; omega)) ?_
      rintro v107 S108 (⟨z109, y110, hv111, hS112, h113, h114, h115, h116⟩ | ⟨a118, b119, hv120, hS121, h122⟩)
      · subst hv111
        have h113_ : z109.toInt = (f 4).toInt + 1 := h113
        have h114_ : (f 4).toInt < (f 0).toInt := h114
        have h115_ : y110.toInt = (f 5).toInt + 1 := h115
        have h116_ : y110.toInt ≤ (48 : Int) := h116
        replace hS112 : MS S0 S108 (upd (upd (upd f 4 z109) 5 y110) 10 z9) g'10 := hS112
        have hR124 : RJ (upd (upd (upd f 4 z109) 5 y110) 10 z9) g'10 (((24 : Int), on.toInt, (0 : Int), (0 : Int), []) :: gs) bc [] 0 [] := RJ.at hR15_ (by show (f 4).toInt ≤ z109.toInt; omega)
        show am_E _ _ _ _ [some (.ref 39), some (.int r2), some (.int (f 4))] [.int 1] _ _
        refine am_e12t hi_187_209 (by decide) ?_
        refine am_e2 (v := 39) hi_187_215 rfl ?_
        refine am_e0 hi_187_216 ?_
        refine am_e1 (v := f 4) hi_187_218 rfl ?_
        refine am_e0 hi_187_219 ?_
        refine am_e0 hi_187_220 ?_
        refine am_e32n (as := [.ref 39, .int 41, .int (f 4), .int 0, .int 0]) (la := [some (.ref 39), some (.int 41), some (.int (f 4)), some (.int 0), some (.int 0)]) (rest := []) hi_187_221 (am_hd0 (M := 187) (by decide) 221) (Nat.le_of_ble_eq_true rfl) (Nat.le_of_ble_eq_true rfl) (show 5 ≤ am_P0.2.2.1 179 from by decide +kernel) rfl (am_recv_ok hS112.fs) rfl rfl (ct_pile (d := (d + 4)) hS112 hR124 (mj_e_plain (by decide)) (by show (0 : Int) ≤ z9.toInt; omega) (by show z9.toInt ≤ (65535 : Int); omega)) ?_
        rintro v125 S126 (⟨z127, g'128, hv129, hS130, hR133, h131, h132⟩)
        subst hv129
        have h131_ : z127.toInt = z9.toInt + 1 := h131
        have h132_ : ∀ j, j ∉ [11, 12, 13, 14] → g'128 j = g'10 j := h132
        replace hS130 : MS S0 S126 (upd (upd (upd f 4 z109) 5 y110) 10 z127) g'128 := hS130
        have hR133_ : RJ (upd (upd (upd f 4 z109) 5 y110) 10 z127) g'128 (((41 : Int), (f 4).toInt, (0 : Int), (0 : Int), []) :: (((24 : Int), on.toInt, (0 : Int), (0 : Int), []) :: gs)) bc [] 0 [] := hR133
        show am_E _ _ _ _ [some (.ref 39), some (.int r2), some (.int (f 4))] [] _ _
        refine am_e2 (v := 39) hi_187_224 rfl ?_
        refine am_e0 hi_187_225 ?_
        refine am_e1 (v := f 4) hi_187_226 rfl ?_
        refine am_e32n (as := [.ref 39, .int 0, .int (f 4)]) (la := [some (.ref 39), some (.int 0), some (.int (f 4)), none, none]) (rest := []) hi_187_227 (am_hd0 (M := 187) (by decide) 227) (Nat.le_of_ble_eq_true rfl) (Nat.le_of_ble_eq_true rfl) (show 3 ≤ am_P0.2.2.1 195 from by decide +kernel) rfl (am_recv_ok hS130.fs) rfl rfl (ct_body (d := d) hS130 hR133_ (by decide)  (by show (0 : Int) ≤ (f 32).toInt; omega) (by show (f 32).toInt ≤ (62 : Int); omega) (by show (1 : Int) ≤ (f 53).toInt; omega) (by show (f 53).toInt ≤ (4095 : Int); omega) (by show (0 : Int) ≤ z109.toInt; omega) (by show (f 0).toInt ≤ (16384 : Int); omega) (by show (0 : Int) ≤ y110.toInt; omega) (by show y110.toInt ≤ (48 : Int); omega) (by show z109.toInt ≤ (f 0).toInt; omega) (by show (f 0).toInt ≤ (512 : Int); omega) (by show (0 : Int) ≤ (f 24).toInt; omega) (by show (f 24).toInt ≤ (4000 : Int); omega) (by show (0 : Int) ≤ (f 44).toInt; omega) (by show (f 44).toInt ≤ z109.toInt; omega) (by show (0 : Int) ≤ (f 48).toInt; omega) (by show (f 48).toInt ≤ z109.toInt; omega) (by show (0 : Int) ≤ (f 37).toInt; omega) (by show (f 37).toInt ≤ (126 : Int); omega) (by show (0 : Int) ≤ z127.toInt; omega) (by show z127.toInt ≤ (65533 : Int); omega) (by show (0 : Int) ≤ (f 68).toInt; omega) (by show (0 : Int) ≤ (f 6).toInt; omega) (by show (0 : Int) ≤ (f 8).toInt; omega)) ?_
        rintro v134 S135 (⟨z136, y137, a138, b139, t140, l141, i_142, dd143, bz144, mm145, g'146, hv147, hS148, hR162, h149, h150, h151, h152, h153, h154, h155, h156, h157, h158, h159, h160, h161⟩ | ⟨a163, b164, hv165, hS166, hR168, h167⟩ | ⟨z169, y170, u171, v_172, a173, b174, l175, i_176, dd177, bz178, mm179, g'180, hv181, hS182, hR191, h183, h184, h185, h186, h187, h188, h189, h190⟩)
        · subst hv147
          have h149_ : z109.toInt + 2 ≤ z136.toInt := h149
          have h150_ : z136.toInt ≤ (f 0).toInt := h150
          have h151_ : y137.toInt = y110.toInt := h151
          have h152_ : (f 24).toInt ≤ l141.toInt := h152
          have h153_ : l141.toInt + z109.toInt ≤ (f 24).toInt + z136.toInt := h153
          have h154_ : t140.toInt = z127.toInt + 2 := h154
          have h155_ : dd143.toInt = (f 32).toInt + 1 := h155
          have h156_ : bz144.toInt = (f 37).toInt + 1 := h156
          have h157_ : mm145.toInt = (f 53).toInt + 1 := h157
          have h158_ : ∀ j, j ∉ [11, 12, 13, 14, 25, 26, 27, 28, 29, 30, 33, 34, 35, 36, 38, 39, 40, 41, 42, 43, 54, 55, 56, 58, 59, 60, 67] → g'146 j = g'128 j := h158
          have h159_ : g'146 34 = upd (g'128 34) dd143.toNatClampNeg (f 24) := h159
          have h160_ : g'146 38 = upd (g'128 38) (f 37).toNatClampNeg (f 24) := h160
          have h161_ : (0 : Int) ≤ a138.toInt := h161
          replace hS148 : MS S0 S135 (upd (upd (upd (upd (upd (upd (upd (upd (upd (upd f 4 z136) 5 y137) 8 a138) 9 b139) 10 t140) 24 l141) 31 i_142) 32 dd143) 37 bz144) 53 mm145) g'146 := hS148
          have hR162_ : RJ (upd (upd (upd (upd (upd (upd (upd (upd (upd (upd f 4 z136) 5 y137) 8 a138) 9 b139) 10 t140) 24 l141) 31 i_142) 32 dd143) 37 bz144) 53 mm145) g'146 (((1 : Int), (0 : Int), (0 : Int), (0 : Int), []) :: (((40 : Int), z109.toInt, (0 : Int), (0 : Int), []) :: (((41 : Int), (f 4).toInt, (0 : Int), (0 : Int), []) :: (((24 : Int), on.toInt, (0 : Int), (0 : Int), []) :: gs)))) ([] :: bc) [] 0 [] := hR162
          show am_E _ _ _ _ [some (.ref 39), some (.int r2), some (.int (f 4))] [] _ _
          refine am_e18 hi_187_230 ?_
          refine am_e35 hi_187_246 ?_
          show am_E _ _ _ _ [some (.ref 39), some (.int on), some (.int r2)] [] _ _
          refine am_e35 hi_182_57 ?_
          show am_E _ _ _ _ [some (.ref 39), some (.int 23), some (.int on), some (.int tw)] [] _ _
          refine am_e18 hi_181_93 ?_
          refine am_e35 hi_181_397 ?_
          show am_E _ _ _ _ [some (.ref 39), some (.int 23), some (.int on), some (.int tw), some (.int th)] [] _ _
          refine am_e35 hi_180_13 ?_
          have q1 : mg_p1 (((1 : Int), (0 : Int), (0 : Int), (0 : Int), []) :: (((40 : Int), z109.toInt, (0 : Int), (0 : Int), []) :: (((41 : Int), (f 4).toInt, (0 : Int), (0 : Int), []) :: (((24 : Int), on.toInt, (0 : Int), (0 : Int), []) :: gs)))) = 0 + (0 + (0 + (0 + (mg_p1 gs)))) := rfl
          have q2 : mg_p2 (((1 : Int), (0 : Int), (0 : Int), (0 : Int), []) :: (((40 : Int), z109.toInt, (0 : Int), (0 : Int), []) :: (((41 : Int), (f 4).toInt, (0 : Int), (0 : Int), []) :: (((24 : Int), on.toInt, (0 : Int), (0 : Int), []) :: gs)))) = 0 + (0 + (1 + (0 + (mg_p2 gs)))) := rfl
          have q3 : mg_p3 (((1 : Int), (0 : Int), (0 : Int), (0 : Int), []) :: (((40 : Int), z109.toInt, (0 : Int), (0 : Int), []) :: (((41 : Int), (f 4).toInt, (0 : Int), (0 : Int), []) :: (((24 : Int), on.toInt, (0 : Int), (0 : Int), []) :: gs)))) = 1 + (1 + (1 + (1 + (mg_p3 gs)))) := rfl
          have q4 : mg_p4 (((1 : Int), (0 : Int), (0 : Int), (0 : Int), []) :: (((40 : Int), z109.toInt, (0 : Int), (0 : Int), []) :: (((41 : Int), (f 4).toInt, (0 : Int), (0 : Int), []) :: (((24 : Int), on.toInt, (0 : Int), (0 : Int), []) :: gs)))) = 0 + (0 + (2 + (0 + (mg_p4 gs)))) := rfl
          refine ⟨_, _, _, ([] :: bc), rfl, hS148, Or.inl ⟨⟨hR162_, ?_, ?_⟩, rfl, ?_⟩⟩
          · exact (⟨⟨(show mg_k 1 from by decide), (show (0 : Int) ≤ (f 15).toInt from by omega), (show 0 ≤ (f 20).toInt from by omega), (show 1 ≤ bz144.toInt from by omega), (show 0 ≤ dd143.toInt from by omega), (show dd143.toInt ≤ y137.toInt from by omega), (show y137.toInt ≤ 48 from by omega), (show bz144.toInt ≤ 2 * (y137.toInt) + 1 from by omega), trivial⟩, ⟨⟨(show mg_k 40 from by decide), (show (0 : Int) ≤ (f 15).toInt + 0 from by omega), (show 0 ≤ (f 20).toInt from by omega), (show 1 ≤ bz144.toInt + 0 from by omega), (show 0 ≤ dd143.toInt + 0 from by omega), (show dd143.toInt + 0 ≤ y137.toInt + 0 from by omega), (show y137.toInt + 0 ≤ 48 from by omega), (show bz144.toInt + 0 ≤ 2 * (y137.toInt + 0) + 1 from by omega), trivial⟩, ⟨⟨(show mg_k 41 from by decide), (show (0 : Int) ≤ (f 15).toInt + 0 + 0 from by omega), (show 0 ≤ (f 20).toInt from by omega), (show 1 ≤ bz144.toInt + 0 + -1 from by omega), (show 0 ≤ dd143.toInt + 0 + -1 from by omega), (show dd143.toInt + 0 + -1 ≤ y137.toInt + 0 + -1 from by omega), (show y137.toInt + 0 + -1 ≤ 48 from by omega), (show bz144.toInt + 0 + -1 ≤ 2 * (y137.toInt + 0 + -1) + 2 from by omega), trivial⟩, ⟨⟨(show mg_k 24 from by decide), (show (1 : Int) ≤ (f 15).toInt + 0 + 0 + 1 from by omega), (show 0 ≤ (f 20).toInt from by omega), (show 1 ≤ bz144.toInt + 0 + -1 + 0 from by omega), (show 0 ≤ dd143.toInt + 0 + -1 + 0 from by omega), (show dd143.toInt + 0 + -1 + 0 ≤ y137.toInt + 0 + -1 + 0 from by omega), (show y137.toInt + 0 + -1 + 0 ≤ 48 from by omega), (show bz144.toInt + 0 + -1 + 0 ≤ 2 * (y137.toInt + 0 + -1 + 0) + 2 from by omega), (show 0 ≤ on.toInt from by omega)⟩, mg_cast (mg_good_ext _ _ _ _ _ _ (fun i hi => by show g'146 34 i = g 34 i; rw [h159_, show g'128 34 = g'10 34 from h132_ 34 (by decide), show g'10 34 = g 34 from h14_ 34 (by decide)]; exact upd_ne (by rw [cl_toNat]; omega)) (fun i hi => by show g'146 38 i = g 38 i; rw [h160_, show g'128 38 = g'10 38 from h132_ 38 (by decide), show g'10 38 = g 38 from h14_ 38 (by decide)]; exact upd_ne (by rw [cl_toNat]; omega)) (fun i _ => by show g'146 23 i = g 23 i; rw [show g'146 23 = g'128 23 from h158_ 23 (by decide), show g'128 23 = g'10 23 from h132_ 23 (by decide), show g'10 23 = g 23 from h14_ 23 (by decide)]) hrest) (by show (f 15).toInt + 1 = (f 15).toInt + 0 + 0 + 1 + 0; omega) (by show (f 20).toInt = (f 20).toInt; omega) (by show (f 37).toInt + 0 = bz144.toInt + 0 + -1 + 0 + 0; omega) (by show (f 32).toInt + 0 = dd143.toInt + 0 + -1 + 0 + 0; omega) (by show (f 5).toInt + 0 = y137.toInt + 0 + -1 + 0 + 0; omega)⟩⟩⟩⟩ : mg_good (g'146 34) (g'146 38) (g'146 23) (((1 : Int), (0 : Int), (0 : Int), (0 : Int), []) :: (((40 : Int), z109.toInt, (0 : Int), (0 : Int), []) :: (((41 : Int), (f 4).toInt, (0 : Int), (0 : Int), []) :: (((24 : Int), on.toInt, (0 : Int), (0 : Int), []) :: gs)))) ((f 15).toInt) ((f 20).toInt) (bz144.toInt) (dd143.toInt) (y137.toInt))
          · exact ⟨(by show 0 ≤ z136.toInt; omega), (by show z136.toInt ≤ (f 0).toInt; omega), (by show (f 0).toInt ≤ 512; omega), (by show 0 ≤ l141.toInt; omega), (by show l141.toInt + (f 20).toInt + mg_p1 (((1 : Int), (0 : Int), (0 : Int), (0 : Int), []) :: (((40 : Int), z109.toInt, (0 : Int), (0 : Int), []) :: (((41 : Int), (f 4).toInt, (0 : Int), (0 : Int), []) :: (((24 : Int), on.toInt, (0 : Int), (0 : Int), []) :: gs)))) ≤ 4 * z136.toInt; omega), (by show (f 20).toInt ≤ z136.toInt; omega), (by show (f 15).toInt + mg_p2 (((1 : Int), (0 : Int), (0 : Int), (0 : Int), []) :: (((40 : Int), z109.toInt, (0 : Int), (0 : Int), []) :: (((41 : Int), (f 4).toInt, (0 : Int), (0 : Int), []) :: (((24 : Int), on.toInt, (0 : Int), (0 : Int), []) :: gs)))) ≤ z136.toInt; omega), (by show mg_p3 (((1 : Int), (0 : Int), (0 : Int), (0 : Int), []) :: (((40 : Int), z109.toInt, (0 : Int), (0 : Int), []) :: (((41 : Int), (f 4).toInt, (0 : Int), (0 : Int), []) :: (((24 : Int), on.toInt, (0 : Int), (0 : Int), []) :: gs)))) ≤ 20 * z136.toInt + 20; omega), (by show 0 ≤ (f 68).toInt; omega), (by show (f 68).toInt + 3 * (f 20).toInt + mg_p4 (((1 : Int), (0 : Int), (0 : Int), (0 : Int), []) :: (((40 : Int), z109.toInt, (0 : Int), (0 : Int), []) :: (((41 : Int), (f 4).toInt, (0 : Int), (0 : Int), []) :: (((24 : Int), on.toInt, (0 : Int), (0 : Int), []) :: gs)))) ≤ 60 * z136.toInt + 60; omega), (by show 0 ≤ (f 62).toInt; omega), (by show (f 62).toInt + 64 * mj_n (g'146 16) (f 15).toNatClampNeg 3 ≤ 64 * z136.toInt; rw [show g'146 16 = g'128 16 from h158_ 16 (by decide), show g'128 16 = g'10 16 from h132_ 16 (by decide), show g'10 16 = g 16 from h14_ 16 (by decide)]; omega), (by show 0 ≤ (f 44).toInt; omega), (by show (f 44).toInt ≤ z136.toInt; omega), (by show 0 ≤ (f 48).toInt; omega), (by show (f 48).toInt ≤ z136.toInt; omega), (by show 1 ≤ mm145.toInt; omega), (by show mm145.toInt ≤ z136.toInt + 1; omega), (by show 0 ≤ (f 19).toInt; omega), (by show (f 19).toInt ≤ 600; omega), (by show 0 ≤ (f 6).toInt; omega), (by show 0 ≤ a138.toInt; omega)⟩
          · show 100 * ((f 0).toInt - z136.toInt) + mg_p3 (((1 : Int), (0 : Int), (0 : Int), (0 : Int), []) :: (((40 : Int), z109.toInt, (0 : Int), (0 : Int), []) :: (((41 : Int), (f 4).toInt, (0 : Int), (0 : Int), []) :: (((24 : Int), on.toInt, (0 : Int), (0 : Int), []) :: gs)))) < 100 * ((f 0).toInt - (f 4).toInt) + (1 + mg_p3 gs); omega
        · subst hv165
          have h167_ : (0 : Int) ≤ a163.toInt := h167
          replace hS166 : MS S0 S135 (upd (upd (upd (upd (upd f 4 z109) 5 y110) 6 a163) 7 b164) 10 0) g'128 := hS166
          have hR168_ : RJ (upd (upd (upd (upd (upd f 4 z109) 5 y110) 6 a163) 7 b164) 10 0) g'128 [] bc [] 0 [] := hR168
          show am_E _ _ _ _ [some (.ref 39), some (.int r2), some (.int (f 4))] [] _ _
          refine am_e18 hi_187_230 ?_
          refine am_e35 hi_187_246 ?_
          show am_E _ _ _ _ [some (.ref 39), some (.int on), some (.int r2)] [] _ _
          refine am_e35 hi_182_57 ?_
          show am_E _ _ _ _ [some (.ref 39), some (.int 23), some (.int on), some (.int tw)] [] _ _
          refine am_e18 hi_181_93 ?_
          refine am_e35 hi_181_397 ?_
          show am_E _ _ _ _ [some (.ref 39), some (.int 23), some (.int on), some (.int tw), some (.int th)] [] _ _
          refine am_e35 hi_180_13 ?_
          have hRc := rj_clear0 hR168_
          refine ⟨_, _, [], _, rfl, hS166, Or.inr ⟨hRc, rfl, (by show 0 ≤ z109.toInt; omega), (by show z109.toInt ≤ (f 0).toInt; omega), (by show 0 ≤ (f 32).toInt; omega), (by show (f 32).toInt ≤ 63; omega), (by show 1 ≤ (f 53).toInt; omega), (by show (f 53).toInt ≤ 600; omega), (by show 0 ≤ (f 68).toInt; omega), (by show (f 68).toInt ≤ 60000; omega), (by show 0 ≤ (f 48).toInt; omega), (by show (f 48).toInt ≤ 8000; omega), (by show 0 ≤ (f 37).toInt; omega), (by show (f 37).toInt ≤ 128; omega), (by show 0 ≤ (f 62).toInt; omega), (by show (f 62).toInt ≤ 65000; omega), (by show 0 ≤ (f 19).toInt; omega), (by show (f 19).toInt ≤ 600; omega), (by show 0 ≤ a163.toInt; omega), (by show 0 ≤ (f 8).toInt; omega)⟩⟩
        · subst hv181
          have h183_ : z109.toInt ≤ z169.toInt := h183
          have h184_ : z169.toInt ≤ (f 0).toInt := h184
          have h185_ : dd177.toInt = (f 32).toInt + 1 := h185
          have h186_ : bz178.toInt = (f 37).toInt + 1 := h186
          have h187_ : mm179.toInt = (f 53).toInt + 1 := h187
          have h188_ : ∀ j, j ∉ [11, 12, 13, 14, 25, 26, 27, 28, 29, 30, 33, 34, 35, 36, 38, 39, 40, 41, 42, 43, 54, 55, 56, 58, 59, 60, 67] → g'180 j = g'128 j := h188
          have h189_ : (0 : Int) ≤ u171.toInt := h189
          have h190_ : (0 : Int) ≤ a173.toInt := h190
          replace hS182 : MS S0 S135 (upd (upd (upd (upd (upd (upd (upd (upd (upd (upd (upd (upd f 4 z169) 5 y170) 6 u171) 7 v_172) 8 a173) 9 b174) 10 0) 24 l175) 31 i_176) 32 dd177) 37 bz178) 53 mm179) g'180 := hS182
          have hR191_ : RJ (upd (upd (upd (upd (upd (upd (upd (upd (upd (upd (upd (upd f 4 z169) 5 y170) 6 u171) 7 v_172) 8 a173) 9 b174) 10 0) 24 l175) 31 i_176) 32 dd177) 37 bz178) 53 mm179) g'180 [] ([] :: bc) [] 0 [] := hR191
          show am_E _ _ _ _ [some (.ref 39), some (.int r2), some (.int (f 4))] [] _ _
          refine am_e18 hi_187_230 ?_
          refine am_e35 hi_187_246 ?_
          show am_E _ _ _ _ [some (.ref 39), some (.int on), some (.int r2)] [] _ _
          refine am_e35 hi_182_57 ?_
          show am_E _ _ _ _ [some (.ref 39), some (.int 23), some (.int on), some (.int tw)] [] _ _
          refine am_e18 hi_181_93 ?_
          refine am_e35 hi_181_397 ?_
          show am_E _ _ _ _ [some (.ref 39), some (.int 23), some (.int on), some (.int tw), some (.int th)] [] _ _
          refine am_e35 hi_180_13 ?_
          have hRc := rj_clear0 hR191_
          refine ⟨_, _, [], _, rfl, hS182, Or.inr ⟨hRc, rfl, (by show 0 ≤ z169.toInt; omega), (by show z169.toInt ≤ (f 0).toInt; omega), (by show 0 ≤ dd177.toInt; omega), (by show dd177.toInt ≤ 63; omega), (by show 1 ≤ mm179.toInt; omega), (by show mm179.toInt ≤ 600; omega), (by show 0 ≤ (f 68).toInt; omega), (by show (f 68).toInt ≤ 60000; omega), (by show 0 ≤ (f 48).toInt; omega), (by show (f 48).toInt ≤ 8000; omega), (by show 0 ≤ bz178.toInt; omega), (by show bz178.toInt ≤ 128; omega), (by show 0 ≤ (f 62).toInt; omega), (by show (f 62).toInt ≤ 65000; omega), (by show 0 ≤ (f 19).toInt; omega), (by show (f 19).toInt ≤ 600; omega), (by show 0 ≤ u171.toInt; omega), (by show 0 ≤ a173.toInt; omega)⟩⟩
      · subst hv120
        have h122_ : (0 : Int) ≤ a118.toInt := h122
        replace hS121 : MS S0 S108 (upd (upd (upd f 6 a118) 7 b119) 10 0) g'10 := hS121
        have hR192 := rj_clear0 hR15_
        have hR193 : RJ (upd (upd (upd f 6 a118) 7 b119) 10 0) g'10 [] bc [] 0 [] := hR192
        show am_E _ _ _ _ [some (.ref 39), some (.int r2), some (.int (f 4))] [.int 0] _ _
        refine am_e12f hi_187_209 (by decide) ?_
        refine am_e18 hi_187_212 ?_
        refine am_e35 hi_187_246 ?_
        show am_E _ _ _ _ [some (.ref 39), some (.int on), some (.int r2)] [] _ _
        refine am_e35 hi_182_57 ?_
        show am_E _ _ _ _ [some (.ref 39), some (.int 23), some (.int on), some (.int tw)] [] _ _
        refine am_e18 hi_181_93 ?_
        refine am_e35 hi_181_397 ?_
        show am_E _ _ _ _ [some (.ref 39), some (.int 23), some (.int on), some (.int tw), some (.int th)] [] _ _
        refine am_e35 hi_180_13 ?_
        have hRc := rj_clear0 hR193
        refine ⟨_, _, [], _, rfl, hS121, Or.inr ⟨hRc, rfl, (by show 0 ≤ (f 4).toInt; omega), (by show (f 4).toInt ≤ (f 0).toInt; omega), (by show 0 ≤ (f 32).toInt; omega), (by show (f 32).toInt ≤ 63; omega), (by show 1 ≤ (f 53).toInt; omega), (by show (f 53).toInt ≤ 600; omega), (by show 0 ≤ (f 68).toInt; omega), (by show (f 68).toInt ≤ 60000; omega), (by show 0 ≤ (f 48).toInt; omega), (by show (f 48).toInt ≤ 8000; omega), (by show 0 ≤ (f 37).toInt; omega), (by show (f 37).toInt ≤ 128; omega), (by show 0 ≤ (f 62).toInt; omega), (by show (f 62).toInt ≤ 65000; omega), (by show 0 ≤ (f 19).toInt; omega), (by show (f 19).toInt ≤ 600; omega), (by show 0 ≤ a118.toInt; omega), (by show 0 ≤ (f 8).toInt; omega)⟩⟩
    by_cases c194 : r2.toInt = 23
    · refine am_e19 (t := 80) hi_187_6 (am_swI (v := r2) (w := 23) (by decide) (by decide) c194) ?_
      refine am_e2 (v := 39) hi_187_80 rfl ?_
      refine am_e0 hi_187_81 ?_
      refine am_e0 hi_187_82 ?_
      refine am_e32w (as := [.ref 39, .int 1, .int 0]) (la := [some (.ref 39), some (.int 1), some (.int 0)]) (rest := []) hi_187_83 (am_hd0 (M := 187) (by decide) 83) (Nat.le_of_ble_eq_true rfl) (Nat.le_of_ble_eq_true rfl) (show 3 ≤ am_P0.2.2.1 188 from by decide +kernel) rfl (am_recv_ok hS20.fs) rfl rfl ?_
      refine am_e2 (v := 39) hi_188_0 rfl ?_
      refine am_e1 (v := 1) hi_188_1 rfl ?_
      refine am_e1 (v := 0) hi_188_2 rfl ?_
      refine am_e0 hi_188_3 ?_
      refine am_e0 hi_188_4 ?_
      refine am_e32n (as := [.ref 39, .int 1, .int 0, .int 0, .int 0]) (la := [some (.ref 39), some (.int 1), some (.int 0), some (.int 0), some (.int 0)]) (rest := []) hi_188_5 (am_hd0 (M := 188) (by decide) 5) (Nat.le_of_ble_eq_true rfl) (Nat.le_of_ble_eq_true rfl) (show 5 ≤ am_P0.2.2.1 189 from by decide +kernel) rfl (am_recv_ok hS20.fs) rfl rfl (ct_put (d := (d + 3)) hS20 hR15_  (by show (0 : Int) ≤ (f 32).toInt; omega) (by show (f 32).toInt ≤ (63 : Int); omega) (by show (f 53).toInt ≤ (4096 : Int); omega) (by show (0 : Int) ≤ (f 68).toInt; omega) (by show (f 68).toInt ≤ (65534 : Int); omega)) ?_
      rintro v195 S196 (⟨z197, r198, g'199, hv200, hS201, hR205, h202, h203, h204⟩)
      subst hv200
      have h202_ : z197.toInt = (f 68).toInt + 1 := h202
      have h203_ : r198.toInt = (f 68).toInt := h203
      have h204_ : ∀ j, j ∉ [60, 69, 70, 71, 72, 73] → g'199 j = g'10 j := h204
      have hR205_ : RJ (upd (upd f 10 z9) 68 z197) g'199 (((24 : Int), on.toInt, (0 : Int), (0 : Int), []) :: gs) bc [] 0 ((f 68).toNatClampNeg :: []) := hR205
      show am_E _ _ _ _ [some (.ref 39), some (.int 1), some (.int 0)] [.int r198] _ _
      refine am_e6i hi_188_8 ?_
      refine am_e2 (v := 39) hi_188_9 rfl ?_
      refine am_e0 hi_188_10 ?_
      refine am_e0 hi_188_11 ?_
      refine am_e0 hi_188_12 ?_
      refine am_e32n (as := [.ref 39, .int 0, .int 0, .int 0]) (la := [some (.ref 39), some (.int 0), some (.int 0), some (.int 0)]) (rest := []) hi_188_13 (am_hd0 (M := 188) (by decide) 13) (Nat.le_of_ble_eq_true rfl) (Nat.le_of_ble_eq_true rfl) (show 4 ≤ am_P0.2.2.1 190 from by decide +kernel) rfl (am_recv_ok hS201.fs) rfl rfl (ct_value (d := (d + 3)) hS201 hR205_ (fun h => absurd h (by decide)) (fun h => absurd h (by decide)) (by show (0 : Int) ≤ (f 15).toInt; omega) (by show (f 15).toInt ≤ (32767 : Int); omega)) ?_
      rintro v206 S207 (⟨z208, g'209, hv210, hS211, hR216, h212, h213, h214, h215⟩)
      subst hv210
      have h212_ : z208.toInt = (f 15).toInt + 1 := h212
      have h213_ : ∀ j, j ∉ [16, 17, 18] → g'209 j = g'199 j := h213
      have h214_ : mj_n (g'209 16) z208.toNatClampNeg 3 ≤ mj_n (g 16) (f 15).toNatClampNeg 3 + 1 := by rw [show g'199 16 = g'10 16 from h204_ 16 (by decide), show g'10 16 = g 16 from h14_ 16 (by decide)] at h214; exact h214
      have h215_ : (0 : Int) = 3 ∨ mj_n (g'209 16) z208.toNatClampNeg 3 ≤ mj_n (g 16) (f 15).toNatClampNeg 3 := by rw [show g'199 16 = g'10 16 from h204_ 16 (by decide), show g'10 16 = g 16 from h14_ 16 (by decide)] at h215; exact h215
      replace hS211 : MS S0 S207 (upd (upd (upd f 10 z9) 15 z208) 68 z197) g'209 := hS211
      have hR216_ : RJ (upd (upd (upd f 10 z9) 15 z208) 68 z197) g'209 (((24 : Int), on.toInt, (0 : Int), (0 : Int), []) :: gs) bc [] 0 ((f 68).toNatClampNeg :: []) := hR216
      show am_E _ _ _ _ [some (.ref 39), some (.int 1), some (.int 0)] [] _ _
      refine am_e2 (v := 39) hi_188_16 rfl ?_
      refine am_e7 hi_188_17 ?_
      refine mm_20 (v := .int (f 4)) hS211 hi_188_18 rfl ?_
      refine am_e0 hi_188_21 ?_
      obtain ⟨z217, hz217, tz217⟩ := am_addI (x := f 4) (y := 1) (m := (f 4).toInt) (n := (1 : Int)) rfl (by decide) (by omega) (by omega)
      refine am_e10 (z := z217) hi_188_22 hz217 ?_
      refine mm_21 (v := z217) hS211 hi_188_23 rfl (Nat.le_of_ble_eq_true rfl) ms_4 ?_
      intro S218 hS219
      replace hS219 : MS S0 S218 (upd (upd (upd (upd f 4 z217) 10 z9) 15 z208) 68 z197) g'209 := hS219
      have hR220 : RJ (upd (upd (upd (upd f 4 z217) 10 z9) 15 z208) 68 z197) g'209 (((24 : Int), on.toInt, (0 : Int), (0 : Int), []) :: gs) bc [] 0 ((f 68).toNatClampNeg :: []) := RJ.at hR216_ (by show (f 4).toInt ≤ z217.toInt; omega)
      refine am_e35 hi_188_26 ?_
      show am_E _ _ _ _ [some (.ref 39), some (.int r2), some (.int (f 4))] [] _ _
      refine am_e18 hi_187_86 ?_
      refine am_e35 hi_187_246 ?_
      show am_E _ _ _ _ [some (.ref 39), some (.int on), some (.int r2)] [] _ _
      refine am_e35 hi_182_57 ?_
      show am_E _ _ _ _ [some (.ref 39), some (.int 23), some (.int on), some (.int tw)] [] _ _
      refine am_e18 hi_181_93 ?_
      refine am_e35 hi_181_397 ?_
      show am_E _ _ _ _ [some (.ref 39), some (.int 23), some (.int on), some (.int tw), some (.int th)] [] _ _
      refine am_e35 hi_180_13 ?_
      have q1 : mg_p1 (((24 : Int), on.toInt, (0 : Int), (0 : Int), []) :: gs) = 0 + (mg_p1 gs) := rfl
      have q2 : mg_p2 (((24 : Int), on.toInt, (0 : Int), (0 : Int), []) :: gs) = 0 + (mg_p2 gs) := rfl
      have q3 : mg_p3 (((24 : Int), on.toInt, (0 : Int), (0 : Int), []) :: gs) = 1 + (mg_p3 gs) := rfl
      have q4 : mg_p4 (((24 : Int), on.toInt, (0 : Int), (0 : Int), []) :: gs) = 0 + (mg_p4 gs) := rfl
      refine ⟨_, _, _, bc, rfl, hS219, Or.inl ⟨⟨(RJ.fewer (pj' := []) hR220 (fun _ h => nomatch h)), ?_, ?_⟩, rfl, ?_⟩⟩
      · exact (⟨⟨(show mg_k 24 from by decide), (show (1 : Int) ≤ z208.toInt from by omega), (show 0 ≤ (f 20).toInt from by omega), (show 1 ≤ (f 37).toInt from by omega), (show 0 ≤ (f 32).toInt from by omega), (show (f 32).toInt ≤ (f 5).toInt from by omega), (show (f 5).toInt ≤ 48 from by omega), (show (f 37).toInt ≤ 2 * ((f 5).toInt) + 2 from by omega), (show 0 ≤ on.toInt from by omega)⟩, mg_cast (mg_good_ext _ _ _ _ _ _ (fun i _ => by show g'209 34 i = g 34 i; rw [show g'209 34 = g'199 34 from h213_ 34 (by decide), show g'199 34 = g'10 34 from h204_ 34 (by decide), show g'10 34 = g 34 from h14_ 34 (by decide)]) (fun i _ => by show g'209 38 i = g 38 i; rw [show g'209 38 = g'199 38 from h213_ 38 (by decide), show g'199 38 = g'10 38 from h204_ 38 (by decide), show g'10 38 = g 38 from h14_ 38 (by decide)]) (fun i _ => by show g'209 23 i = g 23 i; rw [show g'209 23 = g'199 23 from h213_ 23 (by decide), show g'199 23 = g'10 23 from h204_ 23 (by decide), show g'10 23 = g 23 from h14_ 23 (by decide)]) hrest) (by show (f 15).toInt + 1 = z208.toInt + 0; omega) (by show (f 20).toInt = (f 20).toInt; omega) (by show (f 37).toInt + 0 = (f 37).toInt + 0; omega) (by show (f 32).toInt + 0 = (f 32).toInt + 0; omega) (by show (f 5).toInt + 0 = (f 5).toInt + 0; omega)⟩ : mg_good (g'209 34) (g'209 38) (g'209 23) (((24 : Int), on.toInt, (0 : Int), (0 : Int), []) :: gs) (z208.toInt) ((f 20).toInt) ((f 37).toInt) ((f 32).toInt) ((f 5).toInt))
      · exact ⟨(by show 0 ≤ z217.toInt; omega), (by show z217.toInt ≤ (f 0).toInt; omega), (by show (f 0).toInt ≤ 512; omega), (by show 0 ≤ (f 24).toInt; omega), (by show (f 24).toInt + (f 20).toInt + mg_p1 (((24 : Int), on.toInt, (0 : Int), (0 : Int), []) :: gs) ≤ 4 * z217.toInt; omega), (by show (f 20).toInt ≤ z217.toInt; omega), (by show z208.toInt + mg_p2 (((24 : Int), on.toInt, (0 : Int), (0 : Int), []) :: gs) ≤ z217.toInt; omega), (by show mg_p3 (((24 : Int), on.toInt, (0 : Int), (0 : Int), []) :: gs) ≤ 20 * z217.toInt + 20; omega), (by show 0 ≤ z197.toInt; omega), (by show z197.toInt + 3 * (f 20).toInt + mg_p4 (((24 : Int), on.toInt, (0 : Int), (0 : Int), []) :: gs) ≤ 60 * z217.toInt + 60; omega), (by show 0 ≤ (f 62).toInt; omega), (by show (f 62).toInt + 64 * mj_n (g'209 16) z208.toNatClampNeg 3 ≤ 64 * z217.toInt; omega), (by show 0 ≤ (f 44).toInt; omega), (by show (f 44).toInt ≤ z217.toInt; omega), (by show 0 ≤ (f 48).toInt; omega), (by show (f 48).toInt ≤ z217.toInt; omega), (by show 1 ≤ (f 53).toInt; omega), (by show (f 53).toInt ≤ z217.toInt + 1; omega), (by show 0 ≤ (f 19).toInt; omega), (by show (f 19).toInt ≤ 600; omega), (by show 0 ≤ (f 6).toInt; omega), (by show 0 ≤ (f 8).toInt; omega)⟩
      · show 100 * ((f 0).toInt - z217.toInt) + mg_p3 (((24 : Int), on.toInt, (0 : Int), (0 : Int), []) :: gs) < 100 * ((f 0).toInt - (f 4).toInt) + (1 + mg_p3 gs); omega
    by_cases c221 : r2.toInt = 29
    · refine am_e19 (t := 98) hi_187_6 (am_swI (v := r2) (w := 29) (by decide) (by decide) c221) ?_
      refine am_e2 (v := 39) hi_187_98 rfl ?_
      refine am_e0 hi_187_99 ?_
      refine am_e0 hi_187_100 ?_
      refine am_e32w (as := [.ref 39, .int 3, .int 0]) (la := [some (.ref 39), some (.int 3), some (.int 0)]) (rest := []) hi_187_101 (am_hd0 (M := 187) (by decide) 101) (Nat.le_of_ble_eq_true rfl) (Nat.le_of_ble_eq_true rfl) (show 3 ≤ am_P0.2.2.1 188 from by decide +kernel) rfl (am_recv_ok hS20.fs) rfl rfl ?_
      refine am_e2 (v := 39) hi_188_0 rfl ?_
      refine am_e1 (v := 3) hi_188_1 rfl ?_
      refine am_e1 (v := 0) hi_188_2 rfl ?_
      refine am_e0 hi_188_3 ?_
      refine am_e0 hi_188_4 ?_
      refine am_e32n (as := [.ref 39, .int 3, .int 0, .int 0, .int 0]) (la := [some (.ref 39), some (.int 3), some (.int 0), some (.int 0), some (.int 0)]) (rest := []) hi_188_5 (am_hd0 (M := 188) (by decide) 5) (Nat.le_of_ble_eq_true rfl) (Nat.le_of_ble_eq_true rfl) (show 5 ≤ am_P0.2.2.1 189 from by decide +kernel) rfl (am_recv_ok hS20.fs) rfl rfl (ct_put (d := (d + 3)) hS20 hR15_  (by show (0 : Int) ≤ (f 32).toInt; omega) (by show (f 32).toInt ≤ (63 : Int); omega) (by show (f 53).toInt ≤ (4096 : Int); omega) (by show (0 : Int) ≤ (f 68).toInt; omega) (by show (f 68).toInt ≤ (65534 : Int); omega)) ?_
      rintro v222 S223 (⟨z224, r225, g'226, hv227, hS228, hR232, h229, h230, h231⟩)
      subst hv227
      have h229_ : z224.toInt = (f 68).toInt + 1 := h229
      have h230_ : r225.toInt = (f 68).toInt := h230
      have h231_ : ∀ j, j ∉ [60, 69, 70, 71, 72, 73] → g'226 j = g'10 j := h231
      have hR232_ : RJ (upd (upd f 10 z9) 68 z224) g'226 (((24 : Int), on.toInt, (0 : Int), (0 : Int), []) :: gs) bc [] 0 ((f 68).toNatClampNeg :: []) := hR232
      show am_E _ _ _ _ [some (.ref 39), some (.int 3), some (.int 0)] [.int r225] _ _
      refine am_e6i hi_188_8 ?_
      refine am_e2 (v := 39) hi_188_9 rfl ?_
      refine am_e0 hi_188_10 ?_
      refine am_e0 hi_188_11 ?_
      refine am_e0 hi_188_12 ?_
      refine am_e32n (as := [.ref 39, .int 0, .int 0, .int 0]) (la := [some (.ref 39), some (.int 0), some (.int 0), some (.int 0)]) (rest := []) hi_188_13 (am_hd0 (M := 188) (by decide) 13) (Nat.le_of_ble_eq_true rfl) (Nat.le_of_ble_eq_true rfl) (show 4 ≤ am_P0.2.2.1 190 from by decide +kernel) rfl (am_recv_ok hS228.fs) rfl rfl (ct_value (d := (d + 3)) hS228 hR232_ (fun h => absurd h (by decide)) (fun h => absurd h (by decide)) (by show (0 : Int) ≤ (f 15).toInt; omega) (by show (f 15).toInt ≤ (32767 : Int); omega)) ?_
      rintro v233 S234 (⟨z235, g'236, hv237, hS238, hR243, h239, h240, h241, h242⟩)
      subst hv237
      have h239_ : z235.toInt = (f 15).toInt + 1 := h239
      have h240_ : ∀ j, j ∉ [16, 17, 18] → g'236 j = g'226 j := h240
      have h241_ : mj_n (g'236 16) z235.toNatClampNeg 3 ≤ mj_n (g 16) (f 15).toNatClampNeg 3 + 1 := by rw [show g'226 16 = g'10 16 from h231_ 16 (by decide), show g'10 16 = g 16 from h14_ 16 (by decide)] at h241; exact h241
      have h242_ : (0 : Int) = 3 ∨ mj_n (g'236 16) z235.toNatClampNeg 3 ≤ mj_n (g 16) (f 15).toNatClampNeg 3 := by rw [show g'226 16 = g'10 16 from h231_ 16 (by decide), show g'10 16 = g 16 from h14_ 16 (by decide)] at h242; exact h242
      replace hS238 : MS S0 S234 (upd (upd (upd f 10 z9) 15 z235) 68 z224) g'236 := hS238
      have hR243_ : RJ (upd (upd (upd f 10 z9) 15 z235) 68 z224) g'236 (((24 : Int), on.toInt, (0 : Int), (0 : Int), []) :: gs) bc [] 0 ((f 68).toNatClampNeg :: []) := hR243
      show am_E _ _ _ _ [some (.ref 39), some (.int 3), some (.int 0)] [] _ _
      refine am_e2 (v := 39) hi_188_16 rfl ?_
      refine am_e7 hi_188_17 ?_
      refine mm_20 (v := .int (f 4)) hS238 hi_188_18 rfl ?_
      refine am_e0 hi_188_21 ?_
      obtain ⟨z244, hz244, tz244⟩ := am_addI (x := f 4) (y := 1) (m := (f 4).toInt) (n := (1 : Int)) rfl (by decide) (by omega) (by omega)
      refine am_e10 (z := z244) hi_188_22 hz244 ?_
      refine mm_21 (v := z244) hS238 hi_188_23 rfl (Nat.le_of_ble_eq_true rfl) ms_4 ?_
      intro S245 hS246
      replace hS246 : MS S0 S245 (upd (upd (upd (upd f 4 z244) 10 z9) 15 z235) 68 z224) g'236 := hS246
      have hR247 : RJ (upd (upd (upd (upd f 4 z244) 10 z9) 15 z235) 68 z224) g'236 (((24 : Int), on.toInt, (0 : Int), (0 : Int), []) :: gs) bc [] 0 ((f 68).toNatClampNeg :: []) := RJ.at hR243_ (by show (f 4).toInt ≤ z244.toInt; omega)
      refine am_e35 hi_188_26 ?_
      show am_E _ _ _ _ [some (.ref 39), some (.int r2), some (.int (f 4))] [] _ _
      refine am_e18 hi_187_104 ?_
      refine am_e35 hi_187_246 ?_
      show am_E _ _ _ _ [some (.ref 39), some (.int on), some (.int r2)] [] _ _
      refine am_e35 hi_182_57 ?_
      show am_E _ _ _ _ [some (.ref 39), some (.int 23), some (.int on), some (.int tw)] [] _ _
      refine am_e18 hi_181_93 ?_
      refine am_e35 hi_181_397 ?_
      show am_E _ _ _ _ [some (.ref 39), some (.int 23), some (.int on), some (.int tw), some (.int th)] [] _ _
      refine am_e35 hi_180_13 ?_
      have q1 : mg_p1 (((24 : Int), on.toInt, (0 : Int), (0 : Int), []) :: gs) = 0 + (mg_p1 gs) := rfl
      have q2 : mg_p2 (((24 : Int), on.toInt, (0 : Int), (0 : Int), []) :: gs) = 0 + (mg_p2 gs) := rfl
      have q3 : mg_p3 (((24 : Int), on.toInt, (0 : Int), (0 : Int), []) :: gs) = 1 + (mg_p3 gs) := rfl
      have q4 : mg_p4 (((24 : Int), on.toInt, (0 : Int), (0 : Int), []) :: gs) = 0 + (mg_p4 gs) := rfl
      refine ⟨_, _, _, bc, rfl, hS246, Or.inl ⟨⟨(RJ.fewer (pj' := []) hR247 (fun _ h => nomatch h)), ?_, ?_⟩, rfl, ?_⟩⟩
      · exact (⟨⟨(show mg_k 24 from by decide), (show (1 : Int) ≤ z235.toInt from by omega), (show 0 ≤ (f 20).toInt from by omega), (show 1 ≤ (f 37).toInt from by omega), (show 0 ≤ (f 32).toInt from by omega), (show (f 32).toInt ≤ (f 5).toInt from by omega), (show (f 5).toInt ≤ 48 from by omega), (show (f 37).toInt ≤ 2 * ((f 5).toInt) + 2 from by omega), (show 0 ≤ on.toInt from by omega)⟩, mg_cast (mg_good_ext _ _ _ _ _ _ (fun i _ => by show g'236 34 i = g 34 i; rw [show g'236 34 = g'226 34 from h240_ 34 (by decide), show g'226 34 = g'10 34 from h231_ 34 (by decide), show g'10 34 = g 34 from h14_ 34 (by decide)]) (fun i _ => by show g'236 38 i = g 38 i; rw [show g'236 38 = g'226 38 from h240_ 38 (by decide), show g'226 38 = g'10 38 from h231_ 38 (by decide), show g'10 38 = g 38 from h14_ 38 (by decide)]) (fun i _ => by show g'236 23 i = g 23 i; rw [show g'236 23 = g'226 23 from h240_ 23 (by decide), show g'226 23 = g'10 23 from h231_ 23 (by decide), show g'10 23 = g 23 from h14_ 23 (by decide)]) hrest) (by show (f 15).toInt + 1 = z235.toInt + 0; omega) (by show (f 20).toInt = (f 20).toInt; omega) (by show (f 37).toInt + 0 = (f 37).toInt + 0; omega) (by show (f 32).toInt + 0 = (f 32).toInt + 0; omega) (by show (f 5).toInt + 0 = (f 5).toInt + 0; omega)⟩ : mg_good (g'236 34) (g'236 38) (g'236 23) (((24 : Int), on.toInt, (0 : Int), (0 : Int), []) :: gs) (z235.toInt) ((f 20).toInt) ((f 37).toInt) ((f 32).toInt) ((f 5).toInt))
      · exact ⟨(by show 0 ≤ z244.toInt; omega), (by show z244.toInt ≤ (f 0).toInt; omega), (by show (f 0).toInt ≤ 512; omega), (by show 0 ≤ (f 24).toInt; omega), (by show (f 24).toInt + (f 20).toInt + mg_p1 (((24 : Int), on.toInt, (0 : Int), (0 : Int), []) :: gs) ≤ 4 * z244.toInt; omega), (by show (f 20).toInt ≤ z244.toInt; omega), (by show z235.toInt + mg_p2 (((24 : Int), on.toInt, (0 : Int), (0 : Int), []) :: gs) ≤ z244.toInt; omega), (by show mg_p3 (((24 : Int), on.toInt, (0 : Int), (0 : Int), []) :: gs) ≤ 20 * z244.toInt + 20; omega), (by show 0 ≤ z224.toInt; omega), (by show z224.toInt + 3 * (f 20).toInt + mg_p4 (((24 : Int), on.toInt, (0 : Int), (0 : Int), []) :: gs) ≤ 60 * z244.toInt + 60; omega), (by show 0 ≤ (f 62).toInt; omega), (by show (f 62).toInt + 64 * mj_n (g'236 16) z235.toNatClampNeg 3 ≤ 64 * z244.toInt; omega), (by show 0 ≤ (f 44).toInt; omega), (by show (f 44).toInt ≤ z244.toInt; omega), (by show 0 ≤ (f 48).toInt; omega), (by show (f 48).toInt ≤ z244.toInt; omega), (by show 1 ≤ (f 53).toInt; omega), (by show (f 53).toInt ≤ z244.toInt + 1; omega), (by show 0 ≤ (f 19).toInt; omega), (by show (f 19).toInt ≤ 600; omega), (by show 0 ≤ (f 6).toInt; omega), (by show 0 ≤ (f 8).toInt; omega)⟩
      · show 100 * ((f 0).toInt - z244.toInt) + mg_p3 (((24 : Int), on.toInt, (0 : Int), (0 : Int), []) :: gs) < 100 * ((f 0).toInt - (f 4).toInt) + (1 + mg_p3 gs); omega
    by_cases c248 : r2.toInt = 62
    · refine am_e19 (t := 196) hi_187_6 (am_swI (v := r2) (w := 62) (by decide) (by decide) c248) ?_
      refine am_e2 (v := 39) hi_187_196 rfl ?_
      refine am_e32w (as := [.ref 39]) (la := [some (.ref 39), none]) (rest := []) hi_187_197 (am_hd0 (M := 187) (by decide) 197) (Nat.le_of_ble_eq_true rfl) (Nat.le_of_ble_eq_true rfl) (show 1 ≤ am_P0.2.2.1 192 from by decide +kernel) rfl (am_recv_ok hS20.fs) rfl rfl ?_
      refine am_e2 (v := 39) hi_192_0 rfl ?_
      refine mm_20 (v := .int (f 4)) hS20 hi_192_1 rfl ?_
      refine am_e3 (ls' := [some (.ref 39), some (.int (f 4))]) hi_192_4 (Nat.le_of_ble_eq_true rfl) rfl ?_
      refine am_e2 (v := 39) hi_192_5 rfl ?_
      refine am_e0 hi_192_6 ?_
      refine am_e32n (as := [.ref 39, .int 62]) (la := [some (.ref 39), some (.int 62)]) (rest := []) hi_192_8 (am_hd0 (M := 192) (by decide) 8) (Nat.le_of_ble_eq_true rfl) (Nat.le_of_ble_eq_true rfl) (show 2 ≤ am_P0.2.2.1 193 from by decide +kernel) rfl (am_recv_ok hS20.fs) rfl rfl (ct_enter (d := (d + 1)) hS20   (by show (0 : Int) ≤ (f 4).toInt; omega) (by show (f 0).toInt ≤ (16384 : Int); omega) (by show (0 : Int) ≤ (62 : Int); omega) (by show (0 : Int) ≤ (f 5).toInt; omega) (by show (f 5).toInt ≤ (48 : Int); omega) (by show (0 : Int) ≤ (f 6).toInt; omega)) ?_
      rintro v249 S250 (⟨z251, y252, hv253, hS254, h255, h256, h257, h258⟩ | ⟨a260, b261, hv262, hS263, h264⟩)
      · subst hv253
        have h255_ : z251.toInt = (f 4).toInt + 1 := h255
        have h256_ : (f 4).toInt < (f 0).toInt := h256
        have h257_ : y252.toInt = (f 5).toInt + 1 := h257
        have h258_ : y252.toInt ≤ (48 : Int) := h258
        replace hS254 : MS S0 S250 (upd (upd (upd f 4 z251) 5 y252) 10 z9) g'10 := hS254
        have hR266 : RJ (upd (upd (upd f 4 z251) 5 y252) 10 z9) g'10 (((24 : Int), on.toInt, (0 : Int), (0 : Int), []) :: gs) bc [] 0 [] := RJ.at hR15_ (by show (f 4).toInt ≤ z251.toInt; omega)
        show am_E _ _ _ _ [some (.ref 39), some (.int (f 4))] [.int 1] _ _
        refine am_e12t hi_192_11 (by decide) ?_
        refine am_e2 (v := 39) hi_192_15 rfl ?_
        refine am_e0 hi_192_16 ?_
        refine am_e0 hi_192_18 ?_
        refine am_e0 hi_192_19 ?_
        refine am_e1 (v := f 4) hi_192_20 rfl ?_
        refine am_e32n (as := [.ref 39, .int 20, .int 0, .int 0, .int (f 4)]) (la := [some (.ref 39), some (.int 20), some (.int 0), some (.int 0), some (.int (f 4))]) (rest := []) hi_192_21 (am_hd0 (M := 192) (by decide) 21) (Nat.le_of_ble_eq_true rfl) (Nat.le_of_ble_eq_true rfl) (show 5 ≤ am_P0.2.2.1 189 from by decide +kernel) rfl (am_recv_ok hS254.fs) rfl rfl (ct_put (d := (d + 3)) hS254 hR266  (by show (0 : Int) ≤ (f 32).toInt; omega) (by show (f 32).toInt ≤ (63 : Int); omega) (by show (f 53).toInt ≤ (4096 : Int); omega) (by show (0 : Int) ≤ (f 68).toInt; omega) (by show (f 68).toInt ≤ (65534 : Int); omega)) ?_
        rintro v267 S268 (⟨z269, r270, g'271, hv272, hS273, hR277, h274, h275, h276⟩)
        subst hv272
        have h274_ : z269.toInt = (f 68).toInt + 1 := h274
        have h275_ : r270.toInt = (f 68).toInt := h275
        have h276_ : ∀ j, j ∉ [60, 69, 70, 71, 72, 73] → g'271 j = g'10 j := h276
        have hR277_ : RJ (upd (upd (upd (upd f 4 z251) 5 y252) 10 z9) 68 z269) g'271 (((24 : Int), on.toInt, (0 : Int), (0 : Int), []) :: gs) bc [] 0 ((f 68).toNatClampNeg :: []) := hR277
        show am_E _ _ _ _ [some (.ref 39), some (.int (f 4))] [.int r270] _ _
        refine am_e6i hi_192_24 ?_
        refine am_e2 (v := 39) hi_192_25 rfl ?_
        refine am_e0 hi_192_26 ?_
        refine am_e0 hi_192_27 ?_
        refine am_e0 hi_192_28 ?_
        refine am_e32n (as := [.ref 39, .int 0, .int 0, .int 0]) (la := [some (.ref 39), some (.int 0), some (.int 0), some (.int 0)]) (rest := []) hi_192_29 (am_hd0 (M := 192) (by decide) 29) (Nat.le_of_ble_eq_true rfl) (Nat.le_of_ble_eq_true rfl) (show 4 ≤ am_P0.2.2.1 190 from by decide +kernel) rfl (am_recv_ok hS273.fs) rfl rfl (ct_value (d := (d + 3)) hS273 hR277_ (fun h => absurd h (by decide)) (fun h => absurd h (by decide)) (by show (0 : Int) ≤ (f 15).toInt; omega) (by show (f 15).toInt ≤ (32767 : Int); omega)) ?_
        rintro v278 S279 (⟨z280, g'281, hv282, hS283, hR288, h284, h285, h286, h287⟩)
        subst hv282
        have h284_ : z280.toInt = (f 15).toInt + 1 := h284
        have h285_ : ∀ j, j ∉ [16, 17, 18] → g'281 j = g'271 j := h285
        have h286_ : mj_n (g'281 16) z280.toNatClampNeg 3 ≤ mj_n (g 16) (f 15).toNatClampNeg 3 + 1 := by rw [show g'271 16 = g'10 16 from h276_ 16 (by decide), show g'10 16 = g 16 from h14_ 16 (by decide)] at h286; exact h286
        have h287_ : (0 : Int) = 3 ∨ mj_n (g'281 16) z280.toNatClampNeg 3 ≤ mj_n (g 16) (f 15).toNatClampNeg 3 := by rw [show g'271 16 = g'10 16 from h276_ 16 (by decide), show g'10 16 = g 16 from h14_ 16 (by decide)] at h287; exact h287
        replace hS283 : MS S0 S279 (upd (upd (upd (upd (upd f 4 z251) 5 y252) 10 z9) 15 z280) 68 z269) g'281 := hS283
        have hR288_ : RJ (upd (upd (upd (upd (upd f 4 z251) 5 y252) 10 z9) 15 z280) 68 z269) g'281 (((24 : Int), on.toInt, (0 : Int), (0 : Int), []) :: gs) bc [] 0 ((f 68).toNatClampNeg :: []) := hR288
        show am_E _ _ _ _ [some (.ref 39), some (.int (f 4))] [] _ _
        refine am_e2 (v := 39) hi_192_32 rfl ?_
        refine am_e0 hi_192_33 ?_
        refine am_e0 hi_192_35 ?_
        refine am_e0 hi_192_36 ?_
        refine am_e0 hi_192_37 ?_
        refine am_e32n (as := [.ref 39, .int 35, .int 0, .int 0, .int 0]) (la := [some (.ref 39), some (.int 35), some (.int 0), some (.int 0), some (.int 0)]) (rest := []) hi_192_38 (am_hd0 (M := 192) (by decide) 38) (Nat.le_of_ble_eq_true rfl) (Nat.le_of_ble_eq_true rfl) (show 5 ≤ am_P0.2.2.1 179 from by decide +kernel) rfl (am_recv_ok hS283.fs) rfl rfl (ct_pile (d := (d + 3)) hS283 hR288_ (mj_e_plain (by decide)) (by show (0 : Int) ≤ z9.toInt; omega) (by show z9.toInt ≤ (65535 : Int); omega)) ?_
        rintro v289 S290 (⟨z291, g'292, hv293, hS294, hR297, h295, h296⟩)
        subst hv293
        have h295_ : z291.toInt = z9.toInt + 1 := h295
        have h296_ : ∀ j, j ∉ [11, 12, 13, 14] → g'292 j = g'281 j := h296
        replace hS294 : MS S0 S290 (upd (upd (upd (upd (upd f 4 z251) 5 y252) 10 z291) 15 z280) 68 z269) g'292 := hS294
        have hR297_ : RJ (upd (upd (upd (upd (upd f 4 z251) 5 y252) 10 z291) 15 z280) 68 z269) g'292 (((35 : Int), (0 : Int), (0 : Int), (0 : Int), []) :: (((24 : Int), on.toInt, (0 : Int), (0 : Int), []) :: gs)) bc [] 0 ((f 68).toNatClampNeg :: []) := hR297
        show am_E _ _ _ _ [some (.ref 39), some (.int (f 4))] [] _ _
        refine am_e35 hi_192_41 ?_
        show am_E _ _ _ _ [some (.ref 39), some (.int r2), some (.int (f 4))] [] _ _
        refine am_e18 hi_187_200 ?_
        refine am_e35 hi_187_246 ?_
        show am_E _ _ _ _ [some (.ref 39), some (.int on), some (.int r2)] [] _ _
        refine am_e35 hi_182_57 ?_
        show am_E _ _ _ _ [some (.ref 39), some (.int 23), some (.int on), some (.int tw)] [] _ _
        refine am_e18 hi_181_93 ?_
        refine am_e35 hi_181_397 ?_
        show am_E _ _ _ _ [some (.ref 39), some (.int 23), some (.int on), some (.int tw), some (.int th)] [] _ _
        refine am_e35 hi_180_13 ?_
        have q1 : mg_p1 (((35 : Int), (0 : Int), (0 : Int), (0 : Int), []) :: (((24 : Int), on.toInt, (0 : Int), (0 : Int), []) :: gs)) = 0 + (0 + (mg_p1 gs)) := rfl
        have q2 : mg_p2 (((35 : Int), (0 : Int), (0 : Int), (0 : Int), []) :: (((24 : Int), on.toInt, (0 : Int), (0 : Int), []) :: gs)) = 0 + (0 + (mg_p2 gs)) := rfl
        have q3 : mg_p3 (((35 : Int), (0 : Int), (0 : Int), (0 : Int), []) :: (((24 : Int), on.toInt, (0 : Int), (0 : Int), []) :: gs)) = 3 + (1 + (mg_p3 gs)) := rfl
        have q4 : mg_p4 (((35 : Int), (0 : Int), (0 : Int), (0 : Int), []) :: (((24 : Int), on.toInt, (0 : Int), (0 : Int), []) :: gs)) = 0 + (0 + (mg_p4 gs)) := rfl
        refine ⟨_, _, _, bc, rfl, hS294, Or.inl ⟨⟨(RJ.fewer (pj' := []) hR297_ (fun _ h => nomatch h)), ?_, ?_⟩, rfl, ?_⟩⟩
        · exact (⟨⟨(show mg_k 35 from by decide), (show (0 : Int) ≤ z280.toInt from by omega), (show 0 ≤ (f 20).toInt from by omega), (show 1 ≤ (f 37).toInt from by omega), (show 0 ≤ (f 32).toInt from by omega), (show (f 32).toInt ≤ y252.toInt from by omega), (show y252.toInt ≤ 48 from by omega), (show (f 37).toInt ≤ 2 * (y252.toInt) + 2 from by omega), trivial⟩, ⟨⟨(show mg_k 24 from by decide), (show (1 : Int) ≤ z280.toInt + 0 from by omega), (show 0 ≤ (f 20).toInt from by omega), (show 1 ≤ (f 37).toInt + 0 from by omega), (show 0 ≤ (f 32).toInt + 0 from by omega), (show (f 32).toInt + 0 ≤ y252.toInt + -1 from by omega), (show y252.toInt + -1 ≤ 48 from by omega), (show (f 37).toInt + 0 ≤ 2 * (y252.toInt + -1) + 2 from by omega), (show 0 ≤ on.toInt from by omega)⟩, mg_cast (mg_good_ext _ _ _ _ _ _ (fun i _ => by show g'292 34 i = g 34 i; rw [show g'292 34 = g'281 34 from h296_ 34 (by decide), show g'281 34 = g'271 34 from h285_ 34 (by decide), show g'271 34 = g'10 34 from h276_ 34 (by decide), show g'10 34 = g 34 from h14_ 34 (by decide)]) (fun i _ => by show g'292 38 i = g 38 i; rw [show g'292 38 = g'281 38 from h296_ 38 (by decide), show g'281 38 = g'271 38 from h285_ 38 (by decide), show g'271 38 = g'10 38 from h276_ 38 (by decide), show g'10 38 = g 38 from h14_ 38 (by decide)]) (fun i _ => by show g'292 23 i = g 23 i; rw [show g'292 23 = g'281 23 from h296_ 23 (by decide), show g'281 23 = g'271 23 from h285_ 23 (by decide), show g'271 23 = g'10 23 from h276_ 23 (by decide), show g'10 23 = g 23 from h14_ 23 (by decide)]) hrest) (by show (f 15).toInt + 1 = z280.toInt + 0 + 0; omega) (by show (f 20).toInt = (f 20).toInt; omega) (by show (f 37).toInt + 0 = (f 37).toInt + 0 + 0; omega) (by show (f 32).toInt + 0 = (f 32).toInt + 0 + 0; omega) (by show (f 5).toInt + 0 = y252.toInt + -1 + 0; omega)⟩⟩ : mg_good (g'292 34) (g'292 38) (g'292 23) (((35 : Int), (0 : Int), (0 : Int), (0 : Int), []) :: (((24 : Int), on.toInt, (0 : Int), (0 : Int), []) :: gs)) (z280.toInt) ((f 20).toInt) ((f 37).toInt) ((f 32).toInt) (y252.toInt))
        · exact ⟨(by show 0 ≤ z251.toInt; omega), (by show z251.toInt ≤ (f 0).toInt; omega), (by show (f 0).toInt ≤ 512; omega), (by show 0 ≤ (f 24).toInt; omega), (by show (f 24).toInt + (f 20).toInt + mg_p1 (((35 : Int), (0 : Int), (0 : Int), (0 : Int), []) :: (((24 : Int), on.toInt, (0 : Int), (0 : Int), []) :: gs)) ≤ 4 * z251.toInt; omega), (by show (f 20).toInt ≤ z251.toInt; omega), (by show z280.toInt + mg_p2 (((35 : Int), (0 : Int), (0 : Int), (0 : Int), []) :: (((24 : Int), on.toInt, (0 : Int), (0 : Int), []) :: gs)) ≤ z251.toInt; omega), (by show mg_p3 (((35 : Int), (0 : Int), (0 : Int), (0 : Int), []) :: (((24 : Int), on.toInt, (0 : Int), (0 : Int), []) :: gs)) ≤ 20 * z251.toInt + 20; omega), (by show 0 ≤ z269.toInt; omega), (by show z269.toInt + 3 * (f 20).toInt + mg_p4 (((35 : Int), (0 : Int), (0 : Int), (0 : Int), []) :: (((24 : Int), on.toInt, (0 : Int), (0 : Int), []) :: gs)) ≤ 60 * z251.toInt + 60; omega), (by show 0 ≤ (f 62).toInt; omega), (by show (f 62).toInt + 64 * mj_n (g'292 16) z280.toNatClampNeg 3 ≤ 64 * z251.toInt; rw [show g'292 16 = g'281 16 from h296_ 16 (by decide)]; omega), (by show 0 ≤ (f 44).toInt; omega), (by show (f 44).toInt ≤ z251.toInt; omega), (by show 0 ≤ (f 48).toInt; omega), (by show (f 48).toInt ≤ z251.toInt; omega), (by show 1 ≤ (f 53).toInt; omega), (by show (f 53).toInt ≤ z251.toInt + 1; omega), (by show 0 ≤ (f 19).toInt; omega), (by show (f 19).toInt ≤ 600; omega), (by show 0 ≤ (f 6).toInt; omega), (by show 0 ≤ (f 8).toInt; omega)⟩
        · show 100 * ((f 0).toInt - z251.toInt) + mg_p3 (((35 : Int), (0 : Int), (0 : Int), (0 : Int), []) :: (((24 : Int), on.toInt, (0 : Int), (0 : Int), []) :: gs)) < 100 * ((f 0).toInt - (f 4).toInt) + (1 + mg_p3 gs); omega
      · subst hv262
        have h264_ : (0 : Int) ≤ a260.toInt := h264
        replace hS263 : MS S0 S250 (upd (upd (upd f 6 a260) 7 b261) 10 0) g'10 := hS263
        have hR298 := rj_clear0 hR15_
        have hR299 : RJ (upd (upd (upd f 6 a260) 7 b261) 10 0) g'10 [] bc [] 0 [] := hR298
        show am_E _ _ _ _ [some (.ref 39), some (.int (f 4))] [.int 0] _ _
        refine am_e12f hi_192_11 (by decide) ?_
        refine am_e35 hi_192_14 ?_
        show am_E _ _ _ _ [some (.ref 39), some (.int r2), some (.int (f 4))] [] _ _
        refine am_e18 hi_187_200 ?_
        refine am_e35 hi_187_246 ?_
        show am_E _ _ _ _ [some (.ref 39), some (.int on), some (.int r2)] [] _ _
        refine am_e35 hi_182_57 ?_
        show am_E _ _ _ _ [some (.ref 39), some (.int 23), some (.int on), some (.int tw)] [] _ _
        refine am_e18 hi_181_93 ?_
        refine am_e35 hi_181_397 ?_
        show am_E _ _ _ _ [some (.ref 39), some (.int 23), some (.int on), some (.int tw), some (.int th)] [] _ _
        refine am_e35 hi_180_13 ?_
        have hRc := rj_clear0 hR299
        refine ⟨_, _, [], _, rfl, hS263, Or.inr ⟨hRc, rfl, (by show 0 ≤ (f 4).toInt; omega), (by show (f 4).toInt ≤ (f 0).toInt; omega), (by show 0 ≤ (f 32).toInt; omega), (by show (f 32).toInt ≤ 63; omega), (by show 1 ≤ (f 53).toInt; omega), (by show (f 53).toInt ≤ 600; omega), (by show 0 ≤ (f 68).toInt; omega), (by show (f 68).toInt ≤ 60000; omega), (by show 0 ≤ (f 48).toInt; omega), (by show (f 48).toInt ≤ 8000; omega), (by show 0 ≤ (f 37).toInt; omega), (by show (f 37).toInt ≤ 128; omega), (by show 0 ≤ (f 62).toInt; omega), (by show (f 62).toInt ≤ 65000; omega), (by show 0 ≤ (f 19).toInt; omega), (by show (f 19).toInt ≤ 600; omega), (by show 0 ≤ a260.toInt; omega), (by show 0 ≤ (f 8).toInt; omega)⟩⟩
    by_cases c300 : r2.toInt = 72
    · refine am_e19 (t := 141) hi_187_6 (am_swI (v := r2) (w := 72) (by decide) (by decide) c300) ?_
      refine am_e2 (v := 39) hi_187_141 rfl ?_
      refine mm_20 (v := .ref 77) hS20 hi_187_142 rfl ?_
      refine am_e2 (v := 39) hi_187_145 rfl ?_
      refine mm_20 (v := .ref 58) hS20 hi_187_146 rfl ?_
      refine am_e2 (v := 39) hi_187_149 rfl ?_
      refine mm_20 (v := .int (f 32)) hS20 hi_187_150 rfl ?_
      refine mm_25 hS20 ma_33 hi_187_153 (by decide) (by omega) (by omega) ?_
      show am_E _ _ _ _ _ (.int (g'10 33 (f 32).toNatClampNeg) :: _) _ _
      rw [show g'10 33 = g 33 from h14_ 33 (by decide)]
      show am_E _ _ _ _ [some (.ref 39), some (.int r2), some (.int (f 4))] [.int (g 33 (f 32).toNatClampNeg), .ref 77] _ _
      have r301 : 0 ≤ (g 33 (f 32).toNatClampNeg).toInt ∧ (g 33 (f 32).toNatClampNeg).toInt < (f 53).toInt := by
        have h := RJ.fn (i := f 32) hR15_ (by omega) (by show (f 32).toInt ≤ (f 32).toInt; omega)
        rw [show g'10 33 = g 33 from h14_ 33 (by decide)] at h
        exact h
      refine mm_25 hS20 ma_56 hi_187_154 (by decide) (by omega) (by omega) ?_
      show am_E _ _ _ _ _ (.int (g'10 56 (g 33 (f 32).toNatClampNeg).toNatClampNeg) :: _) _ _
      rw [show g'10 56 = g 56 from h14_ 56 (by decide)]
      show am_E _ _ _ _ [some (.ref 39), some (.int r2), some (.int (f 4))] [.int (g 56 (g 33 (f 32).toNatClampNeg).toNatClampNeg)] _ _
      by_cases c302 : ¬ (g 56 (g 33 (f 32).toNatClampNeg).toNatClampNeg).toInt = (0 : Int)
      · refine am_e12t hi_187_155 (am_cT (m := (g 56 (g 33 (f 32).toNatClampNeg).toNatClampNeg).toInt) (n := (0 : Int)) rfl (by decide) c302) ?_
        refine am_e2 (v := 39) hi_187_168 rfl ?_
        refine am_e0 hi_187_169 ?_
        refine am_e2 (v := 39) hi_187_170 rfl ?_
        refine am_e0 hi_187_171 ?_
        refine am_e0 hi_187_173 ?_
        refine am_e0 hi_187_174 ?_
        refine am_e0 hi_187_175 ?_
        refine am_e32n (as := [.ref 39, .int 6, .int 0, .int 1, .int 0]) (la := [some (.ref 39), some (.int 6), some (.int 0), some (.int 1), some (.int 0)]) (rest := [.int 2, .ref 39]) hi_187_176 (am_hd0 (M := 187) (by decide) 176) (Nat.le_of_ble_eq_true rfl) (Nat.le_of_ble_eq_true rfl) (show 5 ≤ am_P0.2.2.1 189 from by decide +kernel) rfl (am_recv_ok hS20.fs) rfl rfl (ct_put (d := (d + 4)) hS20 hR15_  (by show (0 : Int) ≤ (f 32).toInt; omega) (by show (f 32).toInt ≤ (63 : Int); omega) (by show (f 53).toInt ≤ (4096 : Int); omega) (by show (0 : Int) ≤ (f 68).toInt; omega) (by show (f 68).toInt ≤ (65534 : Int); omega)) ?_
        rintro v303 S304 (⟨z305, r306, g'307, hv308, hS309, hR313, h310, h311, h312⟩)
        subst hv308
        have h310_ : z305.toInt = (f 68).toInt + 1 := h310
        have h311_ : r306.toInt = (f 68).toInt := h311
        have h312_ : ∀ j, j ∉ [60, 69, 70, 71, 72, 73] → g'307 j = g'10 j := h312
        have hR313_ : RJ (upd (upd f 10 z9) 68 z305) g'307 (((24 : Int), on.toInt, (0 : Int), (0 : Int), []) :: gs) bc [] 0 ((f 68).toNatClampNeg :: []) := hR313
        show am_E _ _ _ _ [some (.ref 39), some (.int r2), some (.int (f 4))] [.int r306, .int 2, .ref 39] _ _
        refine am_e0 hi_187_179 ?_
        refine am_e32n (as := [.ref 39, .int 2, .int r306, .int 0]) (la := [some (.ref 39), some (.int 2), some (.int r306), some (.int 0)]) (rest := []) hi_187_180 (am_hd0 (M := 187) (by decide) 180) (Nat.le_of_ble_eq_true rfl) (Nat.le_of_ble_eq_true rfl) (show 4 ≤ am_P0.2.2.1 190 from by decide +kernel) rfl (am_recv_ok hS309.fs) rfl rfl (ct_value (d := (d + 4)) hS309 hR313_ (fun h => absurd h (by decide)) (fun _ => ⟨by omega, by omega⟩) (by show (0 : Int) ≤ (f 15).toInt; omega) (by show (f 15).toInt ≤ (32767 : Int); omega)) ?_
        rintro v314 S315 (⟨z316, g'317, hv318, hS319, hR324, h320, h321, h322, h323⟩)
        subst hv318
        have h320_ : z316.toInt = (f 15).toInt + 1 := h320
        have h321_ : ∀ j, j ∉ [16, 17, 18] → g'317 j = g'307 j := h321
        have h322_ : mj_n (g'317 16) z316.toNatClampNeg 3 ≤ mj_n (g 16) (f 15).toNatClampNeg 3 + 1 := by rw [show g'307 16 = g'10 16 from h312_ 16 (by decide), show g'10 16 = g 16 from h14_ 16 (by decide)] at h322; exact h322
        have h323_ : (2 : Int) = 3 ∨ mj_n (g'317 16) z316.toNatClampNeg 3 ≤ mj_n (g 16) (f 15).toNatClampNeg 3 := by rw [show g'307 16 = g'10 16 from h312_ 16 (by decide), show g'10 16 = g 16 from h14_ 16 (by decide)] at h323; exact h323
        replace hS319 : MS S0 S315 (upd (upd (upd f 10 z9) 15 z316) 68 z305) g'317 := hS319
        have hR324_ : RJ (upd (upd (upd f 10 z9) 15 z316) 68 z305) g'317 (((24 : Int), on.toInt, (0 : Int), (0 : Int), []) :: gs) bc [] 0 ((f 68).toNatClampNeg :: []) := hR324
        show am_E _ _ _ _ [some (.ref 39), some (.int r2), some (.int (f 4))] [] _ _
        refine am_e2 (v := 39) hi_187_183 rfl ?_
        refine am_e7 hi_187_184 ?_
        refine mm_20 (v := .int (f 4)) hS319 hi_187_185 rfl ?_
        refine am_e0 hi_187_188 ?_
        obtain ⟨z325, hz325, tz325⟩ := am_addI (x := f 4) (y := 1) (m := (f 4).toInt) (n := (1 : Int)) rfl (by decide) (by omega) (by omega)
        refine am_e10 (z := z325) hi_187_189 hz325 ?_
        refine mm_21 (v := z325) hS319 hi_187_190 rfl (Nat.le_of_ble_eq_true rfl) ms_4 ?_
        intro S326 hS327
        replace hS327 : MS S0 S326 (upd (upd (upd (upd f 4 z325) 10 z9) 15 z316) 68 z305) g'317 := hS327
        have hR328 : RJ (upd (upd (upd (upd f 4 z325) 10 z9) 15 z316) 68 z305) g'317 (((24 : Int), on.toInt, (0 : Int), (0 : Int), []) :: gs) bc [] 0 ((f 68).toNatClampNeg :: []) := RJ.at hR324_ (by show (f 4).toInt ≤ z325.toInt; omega)
        refine am_e18 hi_187_193 ?_
        refine am_e35 hi_187_246 ?_
        show am_E _ _ _ _ [some (.ref 39), some (.int on), some (.int r2)] [] _ _
        refine am_e35 hi_182_57 ?_
        show am_E _ _ _ _ [some (.ref 39), some (.int 23), some (.int on), some (.int tw)] [] _ _
        refine am_e18 hi_181_93 ?_
        refine am_e35 hi_181_397 ?_
        show am_E _ _ _ _ [some (.ref 39), some (.int 23), some (.int on), some (.int tw), some (.int th)] [] _ _
        refine am_e35 hi_180_13 ?_
        have q1 : mg_p1 (((24 : Int), on.toInt, (0 : Int), (0 : Int), []) :: gs) = 0 + (mg_p1 gs) := rfl
        have q2 : mg_p2 (((24 : Int), on.toInt, (0 : Int), (0 : Int), []) :: gs) = 0 + (mg_p2 gs) := rfl
        have q3 : mg_p3 (((24 : Int), on.toInt, (0 : Int), (0 : Int), []) :: gs) = 1 + (mg_p3 gs) := rfl
        have q4 : mg_p4 (((24 : Int), on.toInt, (0 : Int), (0 : Int), []) :: gs) = 0 + (mg_p4 gs) := rfl
        refine ⟨_, _, _, bc, rfl, hS327, Or.inl ⟨⟨(RJ.fewer (pj' := []) hR328 (fun _ h => nomatch h)), ?_, ?_⟩, rfl, ?_⟩⟩
        · exact (⟨⟨(show mg_k 24 from by decide), (show (1 : Int) ≤ z316.toInt from by omega), (show 0 ≤ (f 20).toInt from by omega), (show 1 ≤ (f 37).toInt from by omega), (show 0 ≤ (f 32).toInt from by omega), (show (f 32).toInt ≤ (f 5).toInt from by omega), (show (f 5).toInt ≤ 48 from by omega), (show (f 37).toInt ≤ 2 * ((f 5).toInt) + 2 from by omega), (show 0 ≤ on.toInt from by omega)⟩, mg_cast (mg_good_ext _ _ _ _ _ _ (fun i _ => by show g'317 34 i = g 34 i; rw [show g'317 34 = g'307 34 from h321_ 34 (by decide), show g'307 34 = g'10 34 from h312_ 34 (by decide), show g'10 34 = g 34 from h14_ 34 (by decide)]) (fun i _ => by show g'317 38 i = g 38 i; rw [show g'317 38 = g'307 38 from h321_ 38 (by decide), show g'307 38 = g'10 38 from h312_ 38 (by decide), show g'10 38 = g 38 from h14_ 38 (by decide)]) (fun i _ => by show g'317 23 i = g 23 i; rw [show g'317 23 = g'307 23 from h321_ 23 (by decide), show g'307 23 = g'10 23 from h312_ 23 (by decide), show g'10 23 = g 23 from h14_ 23 (by decide)]) hrest) (by show (f 15).toInt + 1 = z316.toInt + 0; omega) (by show (f 20).toInt = (f 20).toInt; omega) (by show (f 37).toInt + 0 = (f 37).toInt + 0; omega) (by show (f 32).toInt + 0 = (f 32).toInt + 0; omega) (by show (f 5).toInt + 0 = (f 5).toInt + 0; omega)⟩ : mg_good (g'317 34) (g'317 38) (g'317 23) (((24 : Int), on.toInt, (0 : Int), (0 : Int), []) :: gs) (z316.toInt) ((f 20).toInt) ((f 37).toInt) ((f 32).toInt) ((f 5).toInt))
        · exact ⟨(by show 0 ≤ z325.toInt; omega), (by show z325.toInt ≤ (f 0).toInt; omega), (by show (f 0).toInt ≤ 512; omega), (by show 0 ≤ (f 24).toInt; omega), (by show (f 24).toInt + (f 20).toInt + mg_p1 (((24 : Int), on.toInt, (0 : Int), (0 : Int), []) :: gs) ≤ 4 * z325.toInt; omega), (by show (f 20).toInt ≤ z325.toInt; omega), (by show z316.toInt + mg_p2 (((24 : Int), on.toInt, (0 : Int), (0 : Int), []) :: gs) ≤ z325.toInt; omega), (by show mg_p3 (((24 : Int), on.toInt, (0 : Int), (0 : Int), []) :: gs) ≤ 20 * z325.toInt + 20; omega), (by show 0 ≤ z305.toInt; omega), (by show z305.toInt + 3 * (f 20).toInt + mg_p4 (((24 : Int), on.toInt, (0 : Int), (0 : Int), []) :: gs) ≤ 60 * z325.toInt + 60; omega), (by show 0 ≤ (f 62).toInt; omega), (by show (f 62).toInt + 64 * mj_n (g'317 16) z316.toNatClampNeg 3 ≤ 64 * z325.toInt; omega), (by show 0 ≤ (f 44).toInt; omega), (by show (f 44).toInt ≤ z325.toInt; omega), (by show 0 ≤ (f 48).toInt; omega), (by show (f 48).toInt ≤ z325.toInt; omega), (by show 1 ≤ (f 53).toInt; omega), (by show (f 53).toInt ≤ z325.toInt + 1; omega), (by show 0 ≤ (f 19).toInt; omega), (by show (f 19).toInt ≤ 600; omega), (by show 0 ≤ (f 6).toInt; omega), (by show 0 ≤ (f 8).toInt; omega)⟩
        · show 100 * ((f 0).toInt - z325.toInt) + mg_p3 (((24 : Int), on.toInt, (0 : Int), (0 : Int), []) :: gs) < 100 * ((f 0).toInt - (f 4).toInt) + (1 + mg_p3 gs); omega
      · refine am_e12f hi_187_155 (am_cF (m := (g 56 (g 33 (f 32).toNatClampNeg).toNatClampNeg).toInt) (n := (0 : Int)) rfl (by decide) c302) ?_
        refine am_e2 (v := 39) hi_187_158 rfl ?_
        refine am_e0 hi_187_159 ?_
        refine am_e2 (v := 39) hi_187_161 rfl ?_
        refine mm_20 (v := .int (f 4)) hS20 hi_187_162 rfl ?_
        refine am_e32n (as := [.ref 39, .int 15, .int (f 4)]) (la := [some (.ref 39), some (.int 15), some (.int (f 4))]) (rest := []) hi_187_165 (am_hd0 (M := 187) (by decide) 165) (Nat.le_of_ble_eq_true rfl) (Nat.le_of_ble_eq_true rfl) (show 3 ≤ am_P0.2.2.1 191 from by decide +kernel) rfl (am_recv_ok hS20.fs) rfl rfl (ct_failName (d := (d + 4)) hS20   (by show (0 : Int) ≤ (15 : Int); omega) (by show (0 : Int) ≤ (f 8).toInt; omega)) ?_
        rintro v329 S330 (⟨a331, b332, hv333, hS334, h335⟩)
        subst hv333
        have h335_ : (0 : Int) ≤ a331.toInt := h335
        replace hS334 : MS S0 S330 (upd (upd (upd f 8 a331) 9 b332) 10 z9) g'10 := hS334
        show am_E _ _ _ _ [some (.ref 39), some (.int r2), some (.int (f 4))] [] _ _
        refine am_e2 (v := 39) hi_187_168 rfl ?_
        refine am_e0 hi_187_169 ?_
        refine am_e2 (v := 39) hi_187_170 rfl ?_
        refine am_e0 hi_187_171 ?_
        refine am_e0 hi_187_173 ?_
        refine am_e0 hi_187_174 ?_
        refine am_e0 hi_187_175 ?_
        refine am_e32n (as := [.ref 39, .int 6, .int 0, .int 1, .int 0]) (la := [some (.ref 39), some (.int 6), some (.int 0), some (.int 1), some (.int 0)]) (rest := [.int 2, .ref 39]) hi_187_176 (am_hd0 (M := 187) (by decide) 176) (Nat.le_of_ble_eq_true rfl) (Nat.le_of_ble_eq_true rfl) (show 5 ≤ am_P0.2.2.1 189 from by decide +kernel) rfl (am_recv_ok hS334.fs) rfl rfl (ct_put (d := (d + 4)) hS334 hR15_  (by show (0 : Int) ≤ (f 32).toInt; omega) (by show (f 32).toInt ≤ (63 : Int); omega) (by show (f 53).toInt ≤ (4096 : Int); omega) (by show (0 : Int) ≤ (f 68).toInt; omega) (by show (f 68).toInt ≤ (65534 : Int); omega)) ?_
        rintro v337 S338 (⟨z339, r340, g'341, hv342, hS343, hR347, h344, h345, h346⟩)
        subst hv342
        have h344_ : z339.toInt = (f 68).toInt + 1 := h344
        have h345_ : r340.toInt = (f 68).toInt := h345
        have h346_ : ∀ j, j ∉ [60, 69, 70, 71, 72, 73] → g'341 j = g'10 j := h346
        have hR347_ : RJ (upd (upd (upd (upd f 8 a331) 9 b332) 10 z9) 68 z339) g'341 (((24 : Int), on.toInt, (0 : Int), (0 : Int), []) :: gs) bc [] 0 ((f 68).toNatClampNeg :: []) := hR347
        show am_E _ _ _ _ [some (.ref 39), some (.int r2), some (.int (f 4))] [.int r340, .int 2, .ref 39] _ _
        refine am_e0 hi_187_179 ?_
        refine am_e32n (as := [.ref 39, .int 2, .int r340, .int 0]) (la := [some (.ref 39), some (.int 2), some (.int r340), some (.int 0)]) (rest := []) hi_187_180 (am_hd0 (M := 187) (by decide) 180) (Nat.le_of_ble_eq_true rfl) (Nat.le_of_ble_eq_true rfl) (show 4 ≤ am_P0.2.2.1 190 from by decide +kernel) rfl (am_recv_ok hS343.fs) rfl rfl (ct_value (d := (d + 4)) hS343 hR347_ (fun h => absurd h (by decide)) (fun _ => ⟨by omega, by omega⟩) (by show (0 : Int) ≤ (f 15).toInt; omega) (by show (f 15).toInt ≤ (32767 : Int); omega)) ?_
        rintro v348 S349 (⟨z350, g'351, hv352, hS353, hR358, h354, h355, h356, h357⟩)
        subst hv352
        have h354_ : z350.toInt = (f 15).toInt + 1 := h354
        have h355_ : ∀ j, j ∉ [16, 17, 18] → g'351 j = g'341 j := h355
        have h356_ : mj_n (g'351 16) z350.toNatClampNeg 3 ≤ mj_n (g 16) (f 15).toNatClampNeg 3 + 1 := by rw [show g'341 16 = g'10 16 from h346_ 16 (by decide), show g'10 16 = g 16 from h14_ 16 (by decide)] at h356; exact h356
        have h357_ : (2 : Int) = 3 ∨ mj_n (g'351 16) z350.toNatClampNeg 3 ≤ mj_n (g 16) (f 15).toNatClampNeg 3 := by rw [show g'341 16 = g'10 16 from h346_ 16 (by decide), show g'10 16 = g 16 from h14_ 16 (by decide)] at h357; exact h357
        replace hS353 : MS S0 S349 (upd (upd (upd (upd (upd f 8 a331) 9 b332) 10 z9) 15 z350) 68 z339) g'351 := hS353
        have hR358_ : RJ (upd (upd (upd (upd (upd f 8 a331) 9 b332) 10 z9) 15 z350) 68 z339) g'351 (((24 : Int), on.toInt, (0 : Int), (0 : Int), []) :: gs) bc [] 0 ((f 68).toNatClampNeg :: []) := hR358
        show am_E _ _ _ _ [some (.ref 39), some (.int r2), some (.int (f 4))] [] _ _
        refine am_e2 (v := 39) hi_187_183 rfl ?_
        refine am_e7 hi_187_184 ?_
        refine mm_20 (v := .int (f 4)) hS353 hi_187_185 rfl ?_
        refine am_e0 hi_187_188 ?_
        obtain ⟨z359, hz359, tz359⟩ := am_addI (x := f 4) (y := 1) (m := (f 4).toInt) (n := (1 : Int)) rfl (by decide) (by omega) (by omega)
        refine am_e10 (z := z359) hi_187_189 hz359 ?_
        refine mm_21 (v := z359) hS353 hi_187_190 rfl (Nat.le_of_ble_eq_true rfl) ms_4 ?_
        intro S360 hS361
        replace hS361 : MS S0 S360 (upd (upd (upd (upd (upd (upd f 4 z359) 8 a331) 9 b332) 10 z9) 15 z350) 68 z339) g'351 := hS361
        have hR362 : RJ (upd (upd (upd (upd (upd (upd f 4 z359) 8 a331) 9 b332) 10 z9) 15 z350) 68 z339) g'351 (((24 : Int), on.toInt, (0 : Int), (0 : Int), []) :: gs) bc [] 0 ((f 68).toNatClampNeg :: []) := RJ.at hR358_ (by show (f 4).toInt ≤ z359.toInt; omega)
        refine am_e18 hi_187_193 ?_
        refine am_e35 hi_187_246 ?_
        show am_E _ _ _ _ [some (.ref 39), some (.int on), some (.int r2)] [] _ _
        refine am_e35 hi_182_57 ?_
        show am_E _ _ _ _ [some (.ref 39), some (.int 23), some (.int on), some (.int tw)] [] _ _
        refine am_e18 hi_181_93 ?_
        refine am_e35 hi_181_397 ?_
        show am_E _ _ _ _ [some (.ref 39), some (.int 23), some (.int on), some (.int tw), some (.int th)] [] _ _
        refine am_e35 hi_180_13 ?_
        have q1 : mg_p1 (((24 : Int), on.toInt, (0 : Int), (0 : Int), []) :: gs) = 0 + (mg_p1 gs) := rfl
        have q2 : mg_p2 (((24 : Int), on.toInt, (0 : Int), (0 : Int), []) :: gs) = 0 + (mg_p2 gs) := rfl
        have q3 : mg_p3 (((24 : Int), on.toInt, (0 : Int), (0 : Int), []) :: gs) = 1 + (mg_p3 gs) := rfl
        have q4 : mg_p4 (((24 : Int), on.toInt, (0 : Int), (0 : Int), []) :: gs) = 0 + (mg_p4 gs) := rfl
        refine ⟨_, _, _, bc, rfl, hS361, Or.inl ⟨⟨(RJ.fewer (pj' := []) hR362 (fun _ h => nomatch h)), ?_, ?_⟩, rfl, ?_⟩⟩
        · exact (⟨⟨(show mg_k 24 from by decide), (show (1 : Int) ≤ z350.toInt from by omega), (show 0 ≤ (f 20).toInt from by omega), (show 1 ≤ (f 37).toInt from by omega), (show 0 ≤ (f 32).toInt from by omega), (show (f 32).toInt ≤ (f 5).toInt from by omega), (show (f 5).toInt ≤ 48 from by omega), (show (f 37).toInt ≤ 2 * ((f 5).toInt) + 2 from by omega), (show 0 ≤ on.toInt from by omega)⟩, mg_cast (mg_good_ext _ _ _ _ _ _ (fun i _ => by show g'351 34 i = g 34 i; rw [show g'351 34 = g'341 34 from h355_ 34 (by decide), show g'341 34 = g'10 34 from h346_ 34 (by decide), show g'10 34 = g 34 from h14_ 34 (by decide)]) (fun i _ => by show g'351 38 i = g 38 i; rw [show g'351 38 = g'341 38 from h355_ 38 (by decide), show g'341 38 = g'10 38 from h346_ 38 (by decide), show g'10 38 = g 38 from h14_ 38 (by decide)]) (fun i _ => by show g'351 23 i = g 23 i; rw [show g'351 23 = g'341 23 from h355_ 23 (by decide), show g'341 23 = g'10 23 from h346_ 23 (by decide), show g'10 23 = g 23 from h14_ 23 (by decide)]) hrest) (by show (f 15).toInt + 1 = z350.toInt + 0; omega) (by show (f 20).toInt = (f 20).toInt; omega) (by show (f 37).toInt + 0 = (f 37).toInt + 0; omega) (by show (f 32).toInt + 0 = (f 32).toInt + 0; omega) (by show (f 5).toInt + 0 = (f 5).toInt + 0; omega)⟩ : mg_good (g'351 34) (g'351 38) (g'351 23) (((24 : Int), on.toInt, (0 : Int), (0 : Int), []) :: gs) (z350.toInt) ((f 20).toInt) ((f 37).toInt) ((f 32).toInt) ((f 5).toInt))
        · exact ⟨(by show 0 ≤ z359.toInt; omega), (by show z359.toInt ≤ (f 0).toInt; omega), (by show (f 0).toInt ≤ 512; omega), (by show 0 ≤ (f 24).toInt; omega), (by show (f 24).toInt + (f 20).toInt + mg_p1 (((24 : Int), on.toInt, (0 : Int), (0 : Int), []) :: gs) ≤ 4 * z359.toInt; omega), (by show (f 20).toInt ≤ z359.toInt; omega), (by show z350.toInt + mg_p2 (((24 : Int), on.toInt, (0 : Int), (0 : Int), []) :: gs) ≤ z359.toInt; omega), (by show mg_p3 (((24 : Int), on.toInt, (0 : Int), (0 : Int), []) :: gs) ≤ 20 * z359.toInt + 20; omega), (by show 0 ≤ z339.toInt; omega), (by show z339.toInt + 3 * (f 20).toInt + mg_p4 (((24 : Int), on.toInt, (0 : Int), (0 : Int), []) :: gs) ≤ 60 * z359.toInt + 60; omega), (by show 0 ≤ (f 62).toInt; omega), (by show (f 62).toInt + 64 * mj_n (g'351 16) z350.toNatClampNeg 3 ≤ 64 * z359.toInt; omega), (by show 0 ≤ (f 44).toInt; omega), (by show (f 44).toInt ≤ z359.toInt; omega), (by show 0 ≤ (f 48).toInt; omega), (by show (f 48).toInt ≤ z359.toInt; omega), (by show 1 ≤ (f 53).toInt; omega), (by show (f 53).toInt ≤ z359.toInt + 1; omega), (by show 0 ≤ (f 19).toInt; omega), (by show (f 19).toInt ≤ 600; omega), (by show 0 ≤ (f 6).toInt; omega), (by show 0 ≤ a331.toInt; omega)⟩
        · show 100 * ((f 0).toInt - z359.toInt) + mg_p3 (((24 : Int), on.toInt, (0 : Int), (0 : Int), []) :: gs) < 100 * ((f 0).toInt - (f 4).toInt) + (1 + mg_p3 gs); omega
    refine am_e19 (t := 233) hi_187_6 (am_swK (v := r2) (ks := [2, 3, 16, 18, 23, 29, 62, 72]) (by decide) (by intro k hk; simp only [List.mem_cons, List.not_mem_nil, or_false] at hk; rcases hk with rfl | rfl | rfl | rfl | rfl | rfl | rfl | rfl <;> omega)) ?_
    refine am_e2 (v := 39) hi_187_233 rfl ?_
    refine am_e0 hi_187_234 ?_
    refine am_e0 hi_187_236 ?_
    refine am_e0 hi_187_237 ?_
    refine am_e0 hi_187_238 ?_
    refine am_e32n (as := [.ref 39, .int 28, .int 0, .int 0, .int 0]) (la := [some (.ref 39), some (.int 28), some (.int 0), some (.int 0), some (.int 0)]) (rest := []) hi_187_239 (am_hd0 (M := 187) (by decide) 239) (Nat.le_of_ble_eq_true rfl) (Nat.le_of_ble_eq_true rfl) (show 5 ≤ am_P0.2.2.1 179 from by decide +kernel) rfl (am_recv_ok hS20.fs) rfl rfl (ct_pile (d := (d + 4)) hS20 hR15_ (mj_e_plain (by decide)) (by show (0 : Int) ≤ z9.toInt; omega) (by show z9.toInt ≤ (65535 : Int); omega)) ?_
    rintro v363 S364 (⟨z365, g'366, hv367, hS368, hR371, h369, h370⟩)
    subst hv367
    have h369_ : z365.toInt = z9.toInt + 1 := h369
    have h370_ : ∀ j, j ∉ [11, 12, 13, 14] → g'366 j = g'10 j := h370
    replace hS368 : MS S0 S364 (upd f 10 z365) g'366 := hS368
    have hR371_ : RJ (upd f 10 z365) g'366 (((28 : Int), (0 : Int), (0 : Int), (0 : Int), []) :: (((24 : Int), on.toInt, (0 : Int), (0 : Int), []) :: gs)) bc [] 0 [] := hR371
    show am_E _ _ _ _ [some (.ref 39), some (.int r2), some (.int (f 4))] [] _ _
    refine am_e2 (v := 39) hi_187_242 rfl ?_
    refine am_e32w (as := [.ref 39]) (la := [some (.ref 39)]) (rest := []) hi_187_243 (am_hd0 (M := 187) (by decide) 243) (Nat.le_of_ble_eq_true rfl) (Nat.le_of_ble_eq_true rfl) (show 1 ≤ am_P0.2.2.1 201 from by decide +kernel) rfl (am_recv_ok hS368.fs) rfl rfl ?_
    refine am_e2 (v := 39) hi_201_0 rfl ?_
    refine am_e32n (as := [.ref 39]) (la := [some (.ref 39)]) (rest := []) hi_201_1 (am_hd0 (M := 201) (by decide) 1) (Nat.le_of_ble_eq_true rfl) (Nat.le_of_ble_eq_true rfl) (show 1 ≤ am_P0.2.2.1 183 from by decide +kernel) rfl (am_recv_ok hS368.fs) rfl rfl (ct_next (d := (d + 2)) hS368   (by show (0 : Int) ≤ (f 4).toInt; omega) (by show (f 0).toInt ≤ (16384 : Int); omega)) ?_
    rintro v372 S373 (⟨r374, hv375, hS376, h377⟩)
    subst hv375
    have h377_ : (f 4).toInt < (f 0).toInt ∨ r374.toInt = (-1 : Int) := h377
    show am_E _ _ _ _ [some (.ref 39)] [.int r374] _ _
    refine am_e0 hi_201_4 ?_
    by_cases c379 : ¬ r374.toInt = (1 : Int)
    · refine am_e13t hi_201_5 (am_cT (m := r374.toInt) (n := (1 : Int)) rfl (by decide) c379) ?_
      refine am_e2 (v := 39) hi_201_31 rfl ?_
      refine am_e0 hi_201_32 ?_
      refine am_e32n (as := [.ref 39, .int 60]) (la := [some (.ref 39), some (.int 60)]) (rest := []) hi_201_34 (am_hd0 (M := 201) (by decide) 34) (Nat.le_of_ble_eq_true rfl) (Nat.le_of_ble_eq_true rfl) (show 2 ≤ am_P0.2.2.1 193 from by decide +kernel) rfl (am_recv_ok hS376.fs) rfl rfl (ct_enter (d := (d + 1)) hS376   (by show (0 : Int) ≤ (f 4).toInt; omega) (by show (f 0).toInt ≤ (16384 : Int); omega) (by show (0 : Int) ≤ (60 : Int); omega) (by show (0 : Int) ≤ (f 5).toInt; omega) (by show (f 5).toInt ≤ (48 : Int); omega) (by show (0 : Int) ≤ (f 6).toInt; omega)) ?_
      rintro v380 S381 (⟨z382, y383, hv384, hS385, h386, h387, h388, h389⟩ | ⟨a391, b392, hv393, hS394, h395⟩)
      · subst hv384
        have h386_ : z382.toInt = (f 4).toInt + 1 := h386
        have h387_ : (f 4).toInt < (f 0).toInt := h387
        have h388_ : y383.toInt = (f 5).toInt + 1 := h388
        have h389_ : y383.toInt ≤ (48 : Int) := h389
        replace hS385 : MS S0 S381 (upd (upd (upd f 4 z382) 5 y383) 10 z365) g'366 := hS385
        have hR397 : RJ (upd (upd (upd f 4 z382) 5 y383) 10 z365) g'366 (((28 : Int), (0 : Int), (0 : Int), (0 : Int), []) :: (((24 : Int), on.toInt, (0 : Int), (0 : Int), []) :: gs)) bc [] 0 [] := RJ.at hR371_ (by show (f 4).toInt ≤ z382.toInt; omega)
        show am_E _ _ _ _ [some (.ref 39)] [.int 1] _ _
        refine am_e12f hi_201_37 (by decide) ?_
        refine am_e2 (v := 39) hi_201_40 rfl ?_
        refine am_e0 hi_201_41 ?_
        refine am_e0 hi_201_43 ?_
        refine am_e0 hi_201_44 ?_
        refine am_e0 hi_201_45 ?_
        refine am_e32n (as := [.ref 39, .int 29, .int 0, .int 0, .int 0]) (la := [some (.ref 39), some (.int 29), some (.int 0), some (.int 0), some (.int 0)]) (rest := []) hi_201_46 (am_hd0 (M := 201) (by decide) 46) (Nat.le_of_ble_eq_true rfl) (Nat.le_of_ble_eq_true rfl) (show 5 ≤ am_P0.2.2.1 179 from by decide +kernel) rfl (am_recv_ok hS385.fs) rfl rfl (ct_pile (d := (d + 3)) hS385 hR397 (mj_e_plain (by decide)) (by show (0 : Int) ≤ z365.toInt; omega) (by show z365.toInt ≤ (65535 : Int); omega)) ?_
        rintro v398 S399 (⟨z400, g'401, hv402, hS403, hR406, h404, h405⟩)
        subst hv402
        have h404_ : z400.toInt = z365.toInt + 1 := h404
        have h405_ : ∀ j, j ∉ [11, 12, 13, 14] → g'401 j = g'366 j := h405
        replace hS403 : MS S0 S399 (upd (upd (upd f 4 z382) 5 y383) 10 z400) g'401 := hS403
        have hR406_ : RJ (upd (upd (upd f 4 z382) 5 y383) 10 z400) g'401 (((29 : Int), (0 : Int), (0 : Int), (0 : Int), []) :: (((28 : Int), (0 : Int), (0 : Int), (0 : Int), []) :: (((24 : Int), on.toInt, (0 : Int), (0 : Int), []) :: gs))) bc [] 0 [] := hR406
        show am_E _ _ _ _ [some (.ref 39)] [] _ _
        refine am_e2 (v := 39) hi_201_49 rfl ?_
        refine am_e0 hi_201_50 ?_
        refine am_e32w (as := [.ref 39, .int 0]) (la := [some (.ref 39), some (.int 0)]) (rest := []) hi_201_51 (am_hd0 (M := 201) (by decide) 51) (Nat.le_of_ble_eq_true rfl) (Nat.le_of_ble_eq_true rfl) (show 2 ≤ am_P0.2.2.1 186 from by decide +kernel) rfl (am_recv_ok hS403.fs) rfl rfl ?_
        refine am_e2 (v := 39) hi_186_0 rfl ?_
        refine am_e0 hi_186_1 ?_
        refine am_e1 (v := 0) hi_186_3 rfl ?_
        refine am_e0 hi_186_4 ?_
        refine am_e0 hi_186_5 ?_
        refine am_e32n (as := [.ref 39, .int 23, .int 0, .int 0, .int 0]) (la := [some (.ref 39), some (.int 23), some (.int 0), some (.int 0), some (.int 0)]) (rest := []) hi_186_6 (am_hd0 (M := 186) (by decide) 6) (Nat.le_of_ble_eq_true rfl) (Nat.le_of_ble_eq_true rfl) (show 5 ≤ am_P0.2.2.1 179 from by decide +kernel) rfl (am_recv_ok hS403.fs) rfl rfl (ct_pile (d := (d + 2)) hS403 hR406_ (mj_e_plain (by decide)) (by show (0 : Int) ≤ z400.toInt; omega) (by show z400.toInt ≤ (65535 : Int); omega)) ?_
        rintro v407 S408 (⟨z409, g'410, hv411, hS412, hR415, h413, h414⟩)
        subst hv411
        have h413_ : z409.toInt = z400.toInt + 1 := h413
        have h414_ : ∀ j, j ∉ [11, 12, 13, 14] → g'410 j = g'401 j := h414
        replace hS412 : MS S0 S408 (upd (upd (upd f 4 z382) 5 y383) 10 z409) g'410 := hS412
        have hR415_ : RJ (upd (upd (upd f 4 z382) 5 y383) 10 z409) g'410 (((23 : Int), (0 : Int), (0 : Int), (0 : Int), []) :: (((29 : Int), (0 : Int), (0 : Int), (0 : Int), []) :: (((28 : Int), (0 : Int), (0 : Int), (0 : Int), []) :: (((24 : Int), on.toInt, (0 : Int), (0 : Int), []) :: gs)))) bc [] 0 [] := hR415
        show am_E _ _ _ _ [some (.ref 39), some (.int 0)] [] _ _
        refine am_e35 hi_186_9 ?_
        show am_E _ _ _ _ [some (.ref 39)] [] _ _
        refine am_e35 hi_201_54 ?_
        show am_E _ _ _ _ [some (.ref 39), some (.int r2), some (.int (f 4))] [] _ _
        refine am_e35 hi_187_246 ?_
        show am_E _ _ _ _ [some (.ref 39), some (.int on), some (.int r2)] [] _ _
        refine am_e35 hi_182_57 ?_
        show am_E _ _ _ _ [some (.ref 39), some (.int 23), some (.int on), some (.int tw)] [] _ _
        refine am_e18 hi_181_93 ?_
        refine am_e35 hi_181_397 ?_
        show am_E _ _ _ _ [some (.ref 39), some (.int 23), some (.int on), some (.int tw), some (.int th)] [] _ _
        refine am_e35 hi_180_13 ?_
        have q1 : mg_p1 (((23 : Int), (0 : Int), (0 : Int), (0 : Int), []) :: (((29 : Int), (0 : Int), (0 : Int), (0 : Int), []) :: (((28 : Int), (0 : Int), (0 : Int), (0 : Int), []) :: (((24 : Int), on.toInt, (0 : Int), (0 : Int), []) :: gs)))) = 0 + (0 + (0 + (0 + (mg_p1 gs)))) := rfl
        have q2 : mg_p2 (((23 : Int), (0 : Int), (0 : Int), (0 : Int), []) :: (((29 : Int), (0 : Int), (0 : Int), (0 : Int), []) :: (((28 : Int), (0 : Int), (0 : Int), (0 : Int), []) :: (((24 : Int), on.toInt, (0 : Int), (0 : Int), []) :: gs)))) = 0 + (0 + (0 + (0 + (mg_p2 gs)))) := rfl
        have q3 : mg_p3 (((23 : Int), (0 : Int), (0 : Int), (0 : Int), []) :: (((29 : Int), (0 : Int), (0 : Int), (0 : Int), []) :: (((28 : Int), (0 : Int), (0 : Int), (0 : Int), []) :: (((24 : Int), on.toInt, (0 : Int), (0 : Int), []) :: gs)))) = 1 + (1 + (1 + (1 + (mg_p3 gs)))) := rfl
        have q4 : mg_p4 (((23 : Int), (0 : Int), (0 : Int), (0 : Int), []) :: (((29 : Int), (0 : Int), (0 : Int), (0 : Int), []) :: (((28 : Int), (0 : Int), (0 : Int), (0 : Int), []) :: (((24 : Int), on.toInt, (0 : Int), (0 : Int), []) :: gs)))) = 0 + (0 + (0 + (0 + (mg_p4 gs)))) := rfl
        refine ⟨_, _, _, bc, rfl, hS412, Or.inl ⟨⟨hR415_, ?_, ?_⟩, rfl, ?_⟩⟩
        · exact (⟨⟨(show mg_k 23 from by decide), (show (0 : Int) ≤ (f 15).toInt from by omega), (show 0 ≤ (f 20).toInt from by omega), (show 1 ≤ (f 37).toInt from by omega), (show 0 ≤ (f 32).toInt from by omega), (show (f 32).toInt ≤ y383.toInt from by omega), (show y383.toInt ≤ 48 from by omega), (show (f 37).toInt ≤ 2 * (y383.toInt) + 2 from by omega), (show 0 ≤ (0 : Int) from by omega)⟩, ⟨⟨(show mg_k 29 from by decide), (show (1 : Int) ≤ (f 15).toInt + 1 from by omega), (show 0 ≤ (f 20).toInt from by omega), (show 1 ≤ (f 37).toInt + 0 from by omega), (show 0 ≤ (f 32).toInt + 0 from by omega), (show (f 32).toInt + 0 ≤ y383.toInt + 0 from by omega), (show y383.toInt + 0 ≤ 48 from by omega), (show (f 37).toInt + 0 ≤ 2 * (y383.toInt + 0) + 2 from by omega), trivial⟩, ⟨⟨(show mg_k 28 from by decide), (show (1 : Int) ≤ (f 15).toInt + 1 + 0 from by omega), (show 0 ≤ (f 20).toInt from by omega), (show 1 ≤ (f 37).toInt + 0 + 0 from by omega), (show 0 ≤ (f 32).toInt + 0 + 0 from by omega), (show (f 32).toInt + 0 + 0 ≤ y383.toInt + 0 + -1 from by omega), (show y383.toInt + 0 + -1 ≤ 48 from by omega), (show (f 37).toInt + 0 + 0 ≤ 2 * (y383.toInt + 0 + -1) + 2 from by omega), trivial⟩, ⟨⟨(show mg_k 24 from by decide), (show (1 : Int) ≤ (f 15).toInt + 1 + 0 + 0 from by omega), (show 0 ≤ (f 20).toInt from by omega), (show 1 ≤ (f 37).toInt + 0 + 0 + 0 from by omega), (show 0 ≤ (f 32).toInt + 0 + 0 + 0 from by omega), (show (f 32).toInt + 0 + 0 + 0 ≤ y383.toInt + 0 + -1 + 0 from by omega), (show y383.toInt + 0 + -1 + 0 ≤ 48 from by omega), (show (f 37).toInt + 0 + 0 + 0 ≤ 2 * (y383.toInt + 0 + -1 + 0) + 2 from by omega), (show 0 ≤ on.toInt from by omega)⟩, mg_cast (mg_good_ext _ _ _ _ _ _ (fun i _ => by show g'410 34 i = g 34 i; rw [show g'410 34 = g'401 34 from h414_ 34 (by decide), show g'401 34 = g'366 34 from h405_ 34 (by decide), show g'366 34 = g'10 34 from h370_ 34 (by decide), show g'10 34 = g 34 from h14_ 34 (by decide)]) (fun i _ => by show g'410 38 i = g 38 i; rw [show g'410 38 = g'401 38 from h414_ 38 (by decide), show g'401 38 = g'366 38 from h405_ 38 (by decide), show g'366 38 = g'10 38 from h370_ 38 (by decide), show g'10 38 = g 38 from h14_ 38 (by decide)]) (fun i _ => by show g'410 23 i = g 23 i; rw [show g'410 23 = g'401 23 from h414_ 23 (by decide), show g'401 23 = g'366 23 from h405_ 23 (by decide), show g'366 23 = g'10 23 from h370_ 23 (by decide), show g'10 23 = g 23 from h14_ 23 (by decide)]) hrest) (by show (f 15).toInt + 1 = (f 15).toInt + 1 + 0 + 0 + 0; omega) (by show (f 20).toInt = (f 20).toInt; omega) (by show (f 37).toInt + 0 = (f 37).toInt + 0 + 0 + 0 + 0; omega) (by show (f 32).toInt + 0 = (f 32).toInt + 0 + 0 + 0 + 0; omega) (by show (f 5).toInt + 0 = y383.toInt + 0 + -1 + 0 + 0; omega)⟩⟩⟩⟩ : mg_good (g'410 34) (g'410 38) (g'410 23) (((23 : Int), (0 : Int), (0 : Int), (0 : Int), []) :: (((29 : Int), (0 : Int), (0 : Int), (0 : Int), []) :: (((28 : Int), (0 : Int), (0 : Int), (0 : Int), []) :: (((24 : Int), on.toInt, (0 : Int), (0 : Int), []) :: gs)))) ((f 15).toInt) ((f 20).toInt) ((f 37).toInt) ((f 32).toInt) (y383.toInt))
        · exact ⟨(by show 0 ≤ z382.toInt; omega), (by show z382.toInt ≤ (f 0).toInt; omega), (by show (f 0).toInt ≤ 512; omega), (by show 0 ≤ (f 24).toInt; omega), (by show (f 24).toInt + (f 20).toInt + mg_p1 (((23 : Int), (0 : Int), (0 : Int), (0 : Int), []) :: (((29 : Int), (0 : Int), (0 : Int), (0 : Int), []) :: (((28 : Int), (0 : Int), (0 : Int), (0 : Int), []) :: (((24 : Int), on.toInt, (0 : Int), (0 : Int), []) :: gs)))) ≤ 4 * z382.toInt; omega), (by show (f 20).toInt ≤ z382.toInt; omega), (by show (f 15).toInt + mg_p2 (((23 : Int), (0 : Int), (0 : Int), (0 : Int), []) :: (((29 : Int), (0 : Int), (0 : Int), (0 : Int), []) :: (((28 : Int), (0 : Int), (0 : Int), (0 : Int), []) :: (((24 : Int), on.toInt, (0 : Int), (0 : Int), []) :: gs)))) ≤ z382.toInt; omega), (by show mg_p3 (((23 : Int), (0 : Int), (0 : Int), (0 : Int), []) :: (((29 : Int), (0 : Int), (0 : Int), (0 : Int), []) :: (((28 : Int), (0 : Int), (0 : Int), (0 : Int), []) :: (((24 : Int), on.toInt, (0 : Int), (0 : Int), []) :: gs)))) ≤ 20 * z382.toInt + 20; omega), (by show 0 ≤ (f 68).toInt; omega), (by show (f 68).toInt + 3 * (f 20).toInt + mg_p4 (((23 : Int), (0 : Int), (0 : Int), (0 : Int), []) :: (((29 : Int), (0 : Int), (0 : Int), (0 : Int), []) :: (((28 : Int), (0 : Int), (0 : Int), (0 : Int), []) :: (((24 : Int), on.toInt, (0 : Int), (0 : Int), []) :: gs)))) ≤ 60 * z382.toInt + 60; omega), (by show 0 ≤ (f 62).toInt; omega), (by show (f 62).toInt + 64 * mj_n (g'410 16) (f 15).toNatClampNeg 3 ≤ 64 * z382.toInt; rw [show g'410 16 = g'401 16 from h414_ 16 (by decide), show g'401 16 = g'366 16 from h405_ 16 (by decide), show g'366 16 = g'10 16 from h370_ 16 (by decide), show g'10 16 = g 16 from h14_ 16 (by decide)]; omega), (by show 0 ≤ (f 44).toInt; omega), (by show (f 44).toInt ≤ z382.toInt; omega), (by show 0 ≤ (f 48).toInt; omega), (by show (f 48).toInt ≤ z382.toInt; omega), (by show 1 ≤ (f 53).toInt; omega), (by show (f 53).toInt ≤ z382.toInt + 1; omega), (by show 0 ≤ (f 19).toInt; omega), (by show (f 19).toInt ≤ 600; omega), (by show 0 ≤ (f 6).toInt; omega), (by show 0 ≤ (f 8).toInt; omega)⟩
        · show 100 * ((f 0).toInt - z382.toInt) + mg_p3 (((23 : Int), (0 : Int), (0 : Int), (0 : Int), []) :: (((29 : Int), (0 : Int), (0 : Int), (0 : Int), []) :: (((28 : Int), (0 : Int), (0 : Int), (0 : Int), []) :: (((24 : Int), on.toInt, (0 : Int), (0 : Int), []) :: gs)))) < 100 * ((f 0).toInt - (f 4).toInt) + (1 + mg_p3 gs); omega
      · subst hv393
        have h395_ : (0 : Int) ≤ a391.toInt := h395
        replace hS394 : MS S0 S381 (upd (upd (upd f 6 a391) 7 b392) 10 0) g'366 := hS394
        have hR416 := rj_clear0 hR371_
        have hR417 : RJ (upd (upd (upd f 6 a391) 7 b392) 10 0) g'366 [] bc [] 0 [] := hR416
        show am_E _ _ _ _ [some (.ref 39)] [.int 0] _ _
        refine am_e12t hi_201_37 (by decide) ?_
        refine am_e35 hi_201_54 ?_
        show am_E _ _ _ _ [some (.ref 39), some (.int r2), some (.int (f 4))] [] _ _
        refine am_e35 hi_187_246 ?_
        show am_E _ _ _ _ [some (.ref 39), some (.int on), some (.int r2)] [] _ _
        refine am_e35 hi_182_57 ?_
        show am_E _ _ _ _ [some (.ref 39), some (.int 23), some (.int on), some (.int tw)] [] _ _
        refine am_e18 hi_181_93 ?_
        refine am_e35 hi_181_397 ?_
        show am_E _ _ _ _ [some (.ref 39), some (.int 23), some (.int on), some (.int tw), some (.int th)] [] _ _
        refine am_e35 hi_180_13 ?_
        have hRc := rj_clear0 hR417
        refine ⟨_, _, [], _, rfl, hS394, Or.inr ⟨hRc, rfl, (by show 0 ≤ (f 4).toInt; omega), (by show (f 4).toInt ≤ (f 0).toInt; omega), (by show 0 ≤ (f 32).toInt; omega), (by show (f 32).toInt ≤ 63; omega), (by show 1 ≤ (f 53).toInt; omega), (by show (f 53).toInt ≤ 600; omega), (by show 0 ≤ (f 68).toInt; omega), (by show (f 68).toInt ≤ 60000; omega), (by show 0 ≤ (f 48).toInt; omega), (by show (f 48).toInt ≤ 8000; omega), (by show 0 ≤ (f 37).toInt; omega), (by show (f 37).toInt ≤ 128; omega), (by show 0 ≤ (f 62).toInt; omega), (by show (f 62).toInt ≤ 65000; omega), (by show 0 ≤ (f 19).toInt; omega), (by show (f 19).toInt ≤ 600; omega), (by show 0 ≤ a391.toInt; omega), (by show 0 ≤ (f 8).toInt; omega)⟩⟩
    · refine am_e13f hi_201_5 (am_cF (m := r374.toInt) (n := (1 : Int)) rfl (by decide) c379) ?_
      refine am_e2 (v := 39) hi_201_8 rfl ?_
      refine am_e0 hi_201_9 ?_
      refine am_e0 hi_201_10 ?_
      refine am_e2 (v := 39) hi_201_11 rfl ?_
      refine mm_20 (v := .int (f 4)) hS376 hi_201_12 rfl ?_
      refine am_e32n (as := [.ref 39, .int 3, .int 0, .int (f 4)]) (la := [some (.ref 39), some (.int 3), some (.int 0), some (.int (f 4))]) (rest := []) hi_201_15 (am_hd0 (M := 201) (by decide) 15) (Nat.le_of_ble_eq_true rfl) (Nat.le_of_ble_eq_true rfl) (show 4 ≤ am_P0.2.2.1 190 from by decide +kernel) rfl (am_recv_ok hS376.fs) rfl rfl (ct_value (d := (d + 3)) hS376 hR371_ (fun _ => ⟨by omega, by omega⟩) (fun h => absurd h (by decide)) (by show (0 : Int) ≤ (f 15).toInt; omega) (by show (f 15).toInt ≤ (32767 : Int); omega)) ?_
      rintro v418 S419 (⟨z420, g'421, hv422, hS423, hR428, h424, h425, h426, h427⟩)
      subst hv422
      have h424_ : z420.toInt = (f 15).toInt + 1 := h424
      have h425_ : ∀ j, j ∉ [16, 17, 18] → g'421 j = g'366 j := h425
      have h426_ : mj_n (g'421 16) z420.toNatClampNeg 3 ≤ mj_n (g 16) (f 15).toNatClampNeg 3 + 1 := by rw [show g'366 16 = g'10 16 from h370_ 16 (by decide), show g'10 16 = g 16 from h14_ 16 (by decide)] at h426; exact h426
      have h427_ : (3 : Int) = 3 ∨ mj_n (g'421 16) z420.toNatClampNeg 3 ≤ mj_n (g 16) (f 15).toNatClampNeg 3 := by rw [show g'366 16 = g'10 16 from h370_ 16 (by decide), show g'10 16 = g 16 from h14_ 16 (by decide)] at h427; exact h427
      have hR428_ : RJ (upd (upd f 10 z365) 15 z420) g'421 (((28 : Int), (0 : Int), (0 : Int), (0 : Int), []) :: (((24 : Int), on.toInt, (0 : Int), (0 : Int), []) :: gs)) bc [] 0 [] := hR428
      show am_E _ _ _ _ [some (.ref 39)] [] _ _
      refine am_e2 (v := 39) hi_201_18 rfl ?_
      refine am_e7 hi_201_19 ?_
      refine mm_20 (v := .int (f 4)) hS423 hi_201_20 rfl ?_
      refine am_e0 hi_201_23 ?_
      obtain ⟨z429, hz429, tz429⟩ := am_addI (x := f 4) (y := 1) (m := (f 4).toInt) (n := (1 : Int)) rfl (by decide) (by omega) (by omega)
      refine am_e10 (z := z429) hi_201_24 hz429 ?_
      refine mm_21 (v := z429) hS423 hi_201_25 rfl (Nat.le_of_ble_eq_true rfl) ms_4 ?_
      intro S430 hS431
      replace hS431 : MS S0 S430 (upd (upd (upd f 4 z429) 10 z365) 15 z420) g'421 := hS431
      have hR432 : RJ (upd (upd (upd f 4 z429) 10 z365) 15 z420) g'421 (((28 : Int), (0 : Int), (0 : Int), (0 : Int), []) :: (((24 : Int), on.toInt, (0 : Int), (0 : Int), []) :: gs)) bc [] 0 [] := RJ.at hR428_ (by show (f 4).toInt ≤ z429.toInt; omega)
      refine am_e18 hi_201_28 ?_
      refine am_e35 hi_201_54 ?_
      show am_E _ _ _ _ [some (.ref 39), some (.int r2), some (.int (f 4))] [] _ _
      refine am_e35 hi_187_246 ?_
      show am_E _ _ _ _ [some (.ref 39), some (.int on), some (.int r2)] [] _ _
      refine am_e35 hi_182_57 ?_
      show am_E _ _ _ _ [some (.ref 39), some (.int 23), some (.int on), some (.int tw)] [] _ _
      refine am_e18 hi_181_93 ?_
      refine am_e35 hi_181_397 ?_
      show am_E _ _ _ _ [some (.ref 39), some (.int 23), some (.int on), some (.int tw), some (.int th)] [] _ _
      refine am_e35 hi_180_13 ?_
      have q1 : mg_p1 (((28 : Int), (0 : Int), (0 : Int), (0 : Int), []) :: (((24 : Int), on.toInt, (0 : Int), (0 : Int), []) :: gs)) = 0 + (0 + (mg_p1 gs)) := rfl
      have q2 : mg_p2 (((28 : Int), (0 : Int), (0 : Int), (0 : Int), []) :: (((24 : Int), on.toInt, (0 : Int), (0 : Int), []) :: gs)) = 0 + (0 + (mg_p2 gs)) := rfl
      have q3 : mg_p3 (((28 : Int), (0 : Int), (0 : Int), (0 : Int), []) :: (((24 : Int), on.toInt, (0 : Int), (0 : Int), []) :: gs)) = 1 + (1 + (mg_p3 gs)) := rfl
      have q4 : mg_p4 (((28 : Int), (0 : Int), (0 : Int), (0 : Int), []) :: (((24 : Int), on.toInt, (0 : Int), (0 : Int), []) :: gs)) = 0 + (0 + (mg_p4 gs)) := rfl
      refine ⟨_, _, _, bc, rfl, hS431, Or.inl ⟨⟨hR432, ?_, ?_⟩, rfl, ?_⟩⟩
      · exact (⟨⟨(show mg_k 28 from by decide), (show (1 : Int) ≤ z420.toInt from by omega), (show 0 ≤ (f 20).toInt from by omega), (show 1 ≤ (f 37).toInt from by omega), (show 0 ≤ (f 32).toInt from by omega), (show (f 32).toInt ≤ (f 5).toInt from by omega), (show (f 5).toInt ≤ 48 from by omega), (show (f 37).toInt ≤ 2 * ((f 5).toInt) + 2 from by omega), trivial⟩, ⟨⟨(show mg_k 24 from by decide), (show (1 : Int) ≤ z420.toInt + 0 from by omega), (show 0 ≤ (f 20).toInt from by omega), (show 1 ≤ (f 37).toInt + 0 from by omega), (show 0 ≤ (f 32).toInt + 0 from by omega), (show (f 32).toInt + 0 ≤ (f 5).toInt + 0 from by omega), (show (f 5).toInt + 0 ≤ 48 from by omega), (show (f 37).toInt + 0 ≤ 2 * ((f 5).toInt + 0) + 2 from by omega), (show 0 ≤ on.toInt from by omega)⟩, mg_cast (mg_good_ext _ _ _ _ _ _ (fun i _ => by show g'421 34 i = g 34 i; rw [show g'421 34 = g'366 34 from h425_ 34 (by decide), show g'366 34 = g'10 34 from h370_ 34 (by decide), show g'10 34 = g 34 from h14_ 34 (by decide)]) (fun i _ => by show g'421 38 i = g 38 i; rw [show g'421 38 = g'366 38 from h425_ 38 (by decide), show g'366 38 = g'10 38 from h370_ 38 (by decide), show g'10 38 = g 38 from h14_ 38 (by decide)]) (fun i _ => by show g'421 23 i = g 23 i; rw [show g'421 23 = g'366 23 from h425_ 23 (by decide), show g'366 23 = g'10 23 from h370_ 23 (by decide), show g'10 23 = g 23 from h14_ 23 (by decide)]) hrest) (by show (f 15).toInt + 1 = z420.toInt + 0 + 0; omega) (by show (f 20).toInt = (f 20).toInt; omega) (by show (f 37).toInt + 0 = (f 37).toInt + 0 + 0; omega) (by show (f 32).toInt + 0 = (f 32).toInt + 0 + 0; omega) (by show (f 5).toInt + 0 = (f 5).toInt + 0 + 0; omega)⟩⟩ : mg_good (g'421 34) (g'421 38) (g'421 23) (((28 : Int), (0 : Int), (0 : Int), (0 : Int), []) :: (((24 : Int), on.toInt, (0 : Int), (0 : Int), []) :: gs)) (z420.toInt) ((f 20).toInt) ((f 37).toInt) ((f 32).toInt) ((f 5).toInt))
      · exact ⟨(by show 0 ≤ z429.toInt; omega), (by show z429.toInt ≤ (f 0).toInt; omega), (by show (f 0).toInt ≤ 512; omega), (by show 0 ≤ (f 24).toInt; omega), (by show (f 24).toInt + (f 20).toInt + mg_p1 (((28 : Int), (0 : Int), (0 : Int), (0 : Int), []) :: (((24 : Int), on.toInt, (0 : Int), (0 : Int), []) :: gs)) ≤ 4 * z429.toInt; omega), (by show (f 20).toInt ≤ z429.toInt; omega), (by show z420.toInt + mg_p2 (((28 : Int), (0 : Int), (0 : Int), (0 : Int), []) :: (((24 : Int), on.toInt, (0 : Int), (0 : Int), []) :: gs)) ≤ z429.toInt; omega), (by show mg_p3 (((28 : Int), (0 : Int), (0 : Int), (0 : Int), []) :: (((24 : Int), on.toInt, (0 : Int), (0 : Int), []) :: gs)) ≤ 20 * z429.toInt + 20; omega), (by show 0 ≤ (f 68).toInt; omega), (by show (f 68).toInt + 3 * (f 20).toInt + mg_p4 (((28 : Int), (0 : Int), (0 : Int), (0 : Int), []) :: (((24 : Int), on.toInt, (0 : Int), (0 : Int), []) :: gs)) ≤ 60 * z429.toInt + 60; omega), (by show 0 ≤ (f 62).toInt; omega), (by show (f 62).toInt + 64 * mj_n (g'421 16) z420.toNatClampNeg 3 ≤ 64 * z429.toInt; omega), (by show 0 ≤ (f 44).toInt; omega), (by show (f 44).toInt ≤ z429.toInt; omega), (by show 0 ≤ (f 48).toInt; omega), (by show (f 48).toInt ≤ z429.toInt; omega), (by show 1 ≤ (f 53).toInt; omega), (by show (f 53).toInt ≤ z429.toInt + 1; omega), (by show 0 ≤ (f 19).toInt; omega), (by show (f 19).toInt ≤ 600; omega), (by show 0 ≤ (f 6).toInt; omega), (by show 0 ≤ (f 8).toInt; omega)⟩
      · show 100 * ((f 0).toInt - z429.toInt) + mg_p3 (((28 : Int), (0 : Int), (0 : Int), (0 : Int), []) :: (((24 : Int), on.toInt, (0 : Int), (0 : Int), []) :: gs)) < 100 * ((f 0).toInt - (f 4).toInt) + (1 + mg_p3 gs); omega
  · refine am_e12f hi_182_18 (am_cF (m := r18.toInt) (n := (0 : Int)) rfl (by decide) c24) ?_
    refine am_e2 (v := 39) hi_182_21 rfl ?_
    refine am_e0 hi_182_22 ?_
    refine am_e1 (v := r2) hi_182_24 rfl ?_
    refine am_e2 (v := 39) hi_182_25 rfl ?_
    refine mm_20 (v := .int (f 4)) hS20 hi_182_26 rfl ?_
    refine am_e0 hi_182_29 ?_
    refine am_e32n (as := [.ref 39, .int 27, .int r2, .int (f 4), .int 0]) (la := [some (.ref 39), some (.int 27), some (.int r2), some (.int (f 4)), some (.int 0)]) (rest := []) hi_182_30 (am_hd0 (M := 182) (by decide) 30) (Nat.le_of_ble_eq_true rfl) (Nat.le_of_ble_eq_true rfl) (show 5 ≤ am_P0.2.2.1 179 from by decide +kernel) rfl (am_recv_ok hS20.fs) rfl rfl (ct_pile (d := (d + 5)) hS20 hR15_ (mj_e_plain (by decide)) (by show (0 : Int) ≤ z9.toInt; omega) (by show z9.toInt ≤ (65535 : Int); omega)) ?_
    rintro v433 S434 (⟨z435, g'436, hv437, hS438, hR441, h439, h440⟩)
    subst hv437
    have h439_ : z435.toInt = z9.toInt + 1 := h439
    have h440_ : ∀ j, j ∉ [11, 12, 13, 14] → g'436 j = g'10 j := h440
    replace hS438 : MS S0 S434 (upd f 10 z435) g'436 := hS438
    have hR441_ : RJ (upd f 10 z435) g'436 (((27 : Int), r2.toInt, (f 4).toInt, (0 : Int), []) :: (((24 : Int), on.toInt, (0 : Int), (0 : Int), []) :: gs)) bc [] 0 [] := hR441
    show am_E _ _ _ _ [some (.ref 39), some (.int on), some (.int r2)] [] _ _
    refine am_e2 (v := 39) hi_182_33 rfl ?_
    refine am_e7 hi_182_34 ?_
    refine mm_20 (v := .int (f 4)) hS438 hi_182_35 rfl ?_
    refine am_e0 hi_182_38 ?_
    obtain ⟨z442, hz442, tz442⟩ := am_addI (x := f 4) (y := 1) (m := (f 4).toInt) (n := (1 : Int)) rfl (by decide) (by omega) (by omega)
    refine am_e10 (z := z442) hi_182_39 hz442 ?_
    refine mm_21 (v := z442) hS438 hi_182_40 rfl (Nat.le_of_ble_eq_true rfl) ms_4 ?_
    intro S443 hS444
    replace hS444 : MS S0 S443 (upd (upd f 4 z442) 10 z435) g'436 := hS444
    have hR445 : RJ (upd (upd f 4 z442) 10 z435) g'436 (((27 : Int), r2.toInt, (f 4).toInt, (0 : Int), []) :: (((24 : Int), on.toInt, (0 : Int), (0 : Int), []) :: gs)) bc [] 0 [] := RJ.at hR441_ (by show (f 4).toInt ≤ z442.toInt; omega)
    refine am_e2 (v := 39) hi_182_43 rfl ?_
    refine am_e0 hi_182_44 ?_
    refine am_e32w (as := [.ref 39, .int 12]) (la := [some (.ref 39), some (.int 12)]) (rest := []) hi_182_46 (am_hd0 (M := 182) (by decide) 46) (Nat.le_of_ble_eq_true rfl) (Nat.le_of_ble_eq_true rfl) (show 2 ≤ am_P0.2.2.1 186 from by decide +kernel) rfl (am_recv_ok hS444.fs) rfl rfl ?_
    refine am_e2 (v := 39) hi_186_0 rfl ?_
    refine am_e0 hi_186_1 ?_
    refine am_e1 (v := 12) hi_186_3 rfl ?_
    refine am_e0 hi_186_4 ?_
    refine am_e0 hi_186_5 ?_
    refine am_e32n (as := [.ref 39, .int 23, .int 12, .int 0, .int 0]) (la := [some (.ref 39), some (.int 23), some (.int 12), some (.int 0), some (.int 0)]) (rest := []) hi_186_6 (am_hd0 (M := 186) (by decide) 6) (Nat.le_of_ble_eq_true rfl) (Nat.le_of_ble_eq_true rfl) (show 5 ≤ am_P0.2.2.1 179 from by decide +kernel) rfl (am_recv_ok hS444.fs) rfl rfl (ct_pile (d := (d + 4)) hS444 hR445 (mj_e_plain (by decide)) (by show (0 : Int) ≤ z435.toInt; omega) (by show z435.toInt ≤ (65535 : Int); omega)) ?_
    rintro v446 S447 (⟨z448, g'449, hv450, hS451, hR454, h452, h453⟩)
    subst hv450
    have h452_ : z448.toInt = z435.toInt + 1 := h452
    have h453_ : ∀ j, j ∉ [11, 12, 13, 14] → g'449 j = g'436 j := h453
    replace hS451 : MS S0 S447 (upd (upd f 4 z442) 10 z448) g'449 := hS451
    have hR454_ : RJ (upd (upd f 4 z442) 10 z448) g'449 (((23 : Int), (12 : Int), (0 : Int), (0 : Int), []) :: (((27 : Int), r2.toInt, (f 4).toInt, (0 : Int), []) :: (((24 : Int), on.toInt, (0 : Int), (0 : Int), []) :: gs))) bc [] 0 [] := hR454
    show am_E _ _ _ _ [some (.ref 39), some (.int 12)] [] _ _
    refine am_e35 hi_186_9 ?_
    show am_E _ _ _ _ [some (.ref 39), some (.int on), some (.int r2)] [] _ _
    refine am_e18 hi_182_49 ?_
    refine am_e35 hi_182_57 ?_
    show am_E _ _ _ _ [some (.ref 39), some (.int 23), some (.int on), some (.int tw)] [] _ _
    refine am_e18 hi_181_93 ?_
    refine am_e35 hi_181_397 ?_
    show am_E _ _ _ _ [some (.ref 39), some (.int 23), some (.int on), some (.int tw), some (.int th)] [] _ _
    refine am_e35 hi_180_13 ?_
    have q1 : mg_p1 (((23 : Int), (12 : Int), (0 : Int), (0 : Int), []) :: (((27 : Int), r2.toInt, (f 4).toInt, (0 : Int), []) :: (((24 : Int), on.toInt, (0 : Int), (0 : Int), []) :: gs))) = 0 + (0 + (0 + (mg_p1 gs))) := rfl
    have q2 : mg_p2 (((23 : Int), (12 : Int), (0 : Int), (0 : Int), []) :: (((27 : Int), r2.toInt, (f 4).toInt, (0 : Int), []) :: (((24 : Int), on.toInt, (0 : Int), (0 : Int), []) :: gs))) = 0 + (0 + (0 + (mg_p2 gs))) := rfl
    have q3 : mg_p3 (((23 : Int), (12 : Int), (0 : Int), (0 : Int), []) :: (((27 : Int), r2.toInt, (f 4).toInt, (0 : Int), []) :: (((24 : Int), on.toInt, (0 : Int), (0 : Int), []) :: gs))) = 1 + (1 + (1 + (mg_p3 gs))) := rfl
    have q4 : mg_p4 (((23 : Int), (12 : Int), (0 : Int), (0 : Int), []) :: (((27 : Int), r2.toInt, (f 4).toInt, (0 : Int), []) :: (((24 : Int), on.toInt, (0 : Int), (0 : Int), []) :: gs))) = 0 + (3 + (0 + (mg_p4 gs))) := rfl
    refine ⟨_, _, _, bc, rfl, hS451, Or.inl ⟨⟨hR454_, ?_, ?_⟩, rfl, ?_⟩⟩
    · exact (⟨⟨(show mg_k 23 from by decide), (show (0 : Int) ≤ (f 15).toInt from by omega), (show 0 ≤ (f 20).toInt from by omega), (show 1 ≤ (f 37).toInt from by omega), (show 0 ≤ (f 32).toInt from by omega), (show (f 32).toInt ≤ (f 5).toInt from by omega), (show (f 5).toInt ≤ 48 from by omega), (show (f 37).toInt ≤ 2 * ((f 5).toInt) + 2 from by omega), (show 0 ≤ (12 : Int) from by omega)⟩, ⟨⟨(show mg_k 27 from by decide), (show (1 : Int) ≤ (f 15).toInt + 1 from by omega), (show 0 ≤ (f 20).toInt from by omega), (show 1 ≤ (f 37).toInt + 0 from by omega), (show 0 ≤ (f 32).toInt + 0 from by omega), (show (f 32).toInt + 0 ≤ (f 5).toInt + 0 from by omega), (show (f 5).toInt + 0 ≤ 48 from by omega), (show (f 37).toInt + 0 ≤ 2 * ((f 5).toInt + 0) + 2 from by omega), trivial⟩, ⟨⟨(show mg_k 24 from by decide), (show (1 : Int) ≤ (f 15).toInt + 1 + 0 from by omega), (show 0 ≤ (f 20).toInt from by omega), (show 1 ≤ (f 37).toInt + 0 + 0 from by omega), (show 0 ≤ (f 32).toInt + 0 + 0 from by omega), (show (f 32).toInt + 0 + 0 ≤ (f 5).toInt + 0 + 0 from by omega), (show (f 5).toInt + 0 + 0 ≤ 48 from by omega), (show (f 37).toInt + 0 + 0 ≤ 2 * ((f 5).toInt + 0 + 0) + 2 from by omega), (show 0 ≤ on.toInt from by omega)⟩, mg_cast (mg_good_ext _ _ _ _ _ _ (fun i _ => by show g'449 34 i = g 34 i; rw [show g'449 34 = g'436 34 from h453_ 34 (by decide), show g'436 34 = g'10 34 from h440_ 34 (by decide), show g'10 34 = g 34 from h14_ 34 (by decide)]) (fun i _ => by show g'449 38 i = g 38 i; rw [show g'449 38 = g'436 38 from h453_ 38 (by decide), show g'436 38 = g'10 38 from h440_ 38 (by decide), show g'10 38 = g 38 from h14_ 38 (by decide)]) (fun i _ => by show g'449 23 i = g 23 i; rw [show g'449 23 = g'436 23 from h453_ 23 (by decide), show g'436 23 = g'10 23 from h440_ 23 (by decide), show g'10 23 = g 23 from h14_ 23 (by decide)]) hrest) (by show (f 15).toInt + 1 = (f 15).toInt + 1 + 0 + 0; omega) (by show (f 20).toInt = (f 20).toInt; omega) (by show (f 37).toInt + 0 = (f 37).toInt + 0 + 0 + 0; omega) (by show (f 32).toInt + 0 = (f 32).toInt + 0 + 0 + 0; omega) (by show (f 5).toInt + 0 = (f 5).toInt + 0 + 0 + 0; omega)⟩⟩⟩ : mg_good (g'449 34) (g'449 38) (g'449 23) (((23 : Int), (12 : Int), (0 : Int), (0 : Int), []) :: (((27 : Int), r2.toInt, (f 4).toInt, (0 : Int), []) :: (((24 : Int), on.toInt, (0 : Int), (0 : Int), []) :: gs))) ((f 15).toInt) ((f 20).toInt) ((f 37).toInt) ((f 32).toInt) ((f 5).toInt))
    · exact ⟨(by show 0 ≤ z442.toInt; omega), (by show z442.toInt ≤ (f 0).toInt; omega), (by show (f 0).toInt ≤ 512; omega), (by show 0 ≤ (f 24).toInt; omega), (by show (f 24).toInt + (f 20).toInt + mg_p1 (((23 : Int), (12 : Int), (0 : Int), (0 : Int), []) :: (((27 : Int), r2.toInt, (f 4).toInt, (0 : Int), []) :: (((24 : Int), on.toInt, (0 : Int), (0 : Int), []) :: gs))) ≤ 4 * z442.toInt; omega), (by show (f 20).toInt ≤ z442.toInt; omega), (by show (f 15).toInt + mg_p2 (((23 : Int), (12 : Int), (0 : Int), (0 : Int), []) :: (((27 : Int), r2.toInt, (f 4).toInt, (0 : Int), []) :: (((24 : Int), on.toInt, (0 : Int), (0 : Int), []) :: gs))) ≤ z442.toInt; omega), (by show mg_p3 (((23 : Int), (12 : Int), (0 : Int), (0 : Int), []) :: (((27 : Int), r2.toInt, (f 4).toInt, (0 : Int), []) :: (((24 : Int), on.toInt, (0 : Int), (0 : Int), []) :: gs))) ≤ 20 * z442.toInt + 20; omega), (by show 0 ≤ (f 68).toInt; omega), (by show (f 68).toInt + 3 * (f 20).toInt + mg_p4 (((23 : Int), (12 : Int), (0 : Int), (0 : Int), []) :: (((27 : Int), r2.toInt, (f 4).toInt, (0 : Int), []) :: (((24 : Int), on.toInt, (0 : Int), (0 : Int), []) :: gs))) ≤ 60 * z442.toInt + 60; omega), (by show 0 ≤ (f 62).toInt; omega), (by show (f 62).toInt + 64 * mj_n (g'449 16) (f 15).toNatClampNeg 3 ≤ 64 * z442.toInt; rw [show g'449 16 = g'436 16 from h453_ 16 (by decide), show g'436 16 = g'10 16 from h440_ 16 (by decide), show g'10 16 = g 16 from h14_ 16 (by decide)]; omega), (by show 0 ≤ (f 44).toInt; omega), (by show (f 44).toInt ≤ z442.toInt; omega), (by show 0 ≤ (f 48).toInt; omega), (by show (f 48).toInt ≤ z442.toInt; omega), (by show 1 ≤ (f 53).toInt; omega), (by show (f 53).toInt ≤ z442.toInt + 1; omega), (by show 0 ≤ (f 19).toInt; omega), (by show (f 19).toInt ≤ 600; omega), (by show 0 ≤ (f 6).toInt; omega), (by show 0 ≤ (f 8).toInt; omega)⟩
    · show 100 * ((f 0).toInt - z442.toInt) + mg_p3 (((23 : Int), (12 : Int), (0 : Int), (0 : Int), []) :: (((27 : Int), r2.toInt, (f 4).toInt, (0 : Int), []) :: (((24 : Int), on.toInt, (0 : Int), (0 : Int), []) :: gs))) < 100 * ((f 0).toInt - (f 4).toInt) + (1 + mg_p3 gs); omega
