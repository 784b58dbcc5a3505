/-! STEPS: expressions (printed by wip/p2/st2.py) -/
set_option maxHeartbeats 16000000 in
theorem st_23 {sc : Nat × (Nat → Int32)} {d : Nat} {S0 S : am_S} {f : Nat → Int32} {g : Nat → Nat → Int32} {on : Int32} {tw : Int32} {th : Int32} {gs : List mg_E} {bc : List (List Nat)} (hS : MS S0 S f g) (hR : RJ f g gs bc [] 0 []) (hrest : mg_good (g 34) (g 38) (g 23) gs ((f 15).toInt + 1) ((f 20).toInt) ((f 37).toInt + 0) ((f 32).toInt + 0) ((f 5).toInt + 0)) (p0 : 0 ≤ (f 4).toInt) (p1 : (f 4).toInt ≤ (f 0).toInt) (p2 : (f 0).toInt ≤ 512) (p3 : 0 ≤ (f 24).toInt) (p4 : (f 24).toInt + (f 20).toInt + mg_p1 gs ≤ 4 * (f 4).toInt) (p5 : (f 20).toInt ≤ (f 4).toInt) (p6 : (f 15).toInt + 0 + mg_p2 gs ≤ (f 4).toInt) (p7 : 1 + mg_p3 gs ≤ 20 * (f 4).toInt + 20) (p8 : 0 ≤ (f 68).toInt) (p9 : (f 68).toInt + 3 * (f 20).toInt + 0 + mg_p4 gs ≤ 60 * (f 4).toInt + 60) (p10 : 0 ≤ (f 62).toInt) (p11 : (f 62).toInt + 64 * mj_n (g 16) (f 15).toNatClampNeg 3 ≤ 64 * (f 4).toInt) (p12 : 0 ≤ (f 44).toInt) (p13 : (f 44).toInt ≤ (f 4).toInt) (p14 : 0 ≤ (f 48).toInt) (p15 : (f 48).toInt ≤ (f 4).toInt) (p16 : 1 ≤ (f 53).toInt) (p17 : (f 53).toInt ≤ (f 4).toInt + 1) (p18 : 0 ≤ (f 19).toInt) (p19 : (f 19).toInt ≤ 600) (p20 : 0 ≤ mg_p1 gs) (p21 : 0 ≤ mg_p2 gs) (p22 : 0 ≤ mg_p4 gs) (p23 : 0 ≤ (f 10).toInt) (p24 : (f 10).toInt ≤ mg_p3 gs) (p25 : 0 ≤ mj_n (g 16) (f 15).toNatClampNeg 3) (p26 : 0 ≤ (f 15).toInt) (p27 : 0 ≤ (f 20).toInt) (p28 : 1 ≤ (f 37).toInt) (p29 : 0 ≤ (f 32).toInt) (p30 : (f 32).toInt ≤ (f 5).toInt) (p31 : (f 5).toInt ≤ 48) (p32 : (f 37).toInt ≤ 2 * (f 5).toInt + 2) (p33 : 0 ≤ on.toInt) : am_E (am_PP sc) (d + 8) 180 0 [some (.ref 39), some (.int 23), some (.int on), some (.int tw), some (.int th)] [] S (am_N fun v S1 => ∃ (f' : Nat → Int32) (g' : Nat → Nat → Int32) (gs' : List mg_E) (bc' : List (List Nat)), v = none ∧ MS S0 S1 f' g' ∧ (mg_on f (100 * ((f 0).toInt - (f 4).toInt) + (1 + mg_p3 gs)) f' g' gs' bc' ∨ mg_off f f' g' bc')) := by
  have hbs := mg_basic hrest
  refine am_e1 (v := 23) hi_180_0 rfl ?_
  refine am_e0 hi_180_1 ?_
  refine am_e13f hi_180_3 (by decide) ?_
  refine am_e2 (v := 39) hi_180_6 rfl ?_
  refine am_e1 (v := 23) hi_180_7 rfl ?_
  refine am_e1 (v := on) hi_180_8 rfl ?_
  refine am_e1 (v := tw) hi_180_9 rfl ?_
  refine am_e32w (as := [.ref 39, .int 23, .int on, .int tw]) (la := [some (.ref 39), some (.int 23), some (.int on), some (.int tw)]) (rest := []) hi_180_10 (am_hd0 (M := 180) (by decide) 10) (Nat.le_of_ble_eq_true rfl) (Nat.le_of_ble_eq_true rfl) (show 4 ≤ am_P0.2.2.1 181 from by decide +kernel) rfl (am_recv_ok hS.fs) rfl rfl ?_
  refine am_e1 (v := 23) hi_181_0 rfl ?_
  refine am_e19 (t := 88) hi_181_1 (by decide) ?_
  refine am_e2 (v := 39) hi_181_88 rfl ?_
  refine am_e1 (v := on) hi_181_89 rfl ?_
  refine am_e32w (as := [.ref 39, .int on]) (la := [some (.ref 39), some (.int on), none]) (rest := []) hi_181_90 (am_hd0 (M := 181) (by decide) 90) (Nat.le_of_ble_eq_true rfl) (Nat.le_of_ble_eq_true rfl) (show 2 ≤ am_P0.2.2.1 182 from by decide +kernel) rfl (am_recv_ok hS.fs) rfl rfl ?_
  refine am_e2 (v := 39) hi_182_0 rfl ?_
  refine am_e32n (as := [.ref 39]) (la := [some (.ref 39)]) (rest := []) hi_182_1 (am_hd0 (M := 182) (by decide) 1) (Nat.le_of_ble_eq_true rfl) (Nat.le_of_ble_eq_true rfl) (show 1 ≤ am_P0.2.2.1 183 from by decide +kernel) rfl (am_recv_ok hS.fs) rfl rfl (ct_next (d := (d + 4)) hS   (by show (0 : Int) ≤ (f 4).toInt; omega) (by show (f 0).toInt ≤ (16384 : Int); omega)) ?_
  rintro v0 S1 (⟨r2, hv3, hS4, h5⟩)
  subst hv3
  have h5_ : (f 4).toInt < (f 0).toInt ∨ r2.toInt = (-1 : Int) := h5
  show am_E _ _ _ _ [some (.ref 39), some (.int on), none] [.int r2] _ _
  refine am_e3 (ls' := [some (.ref 39), some (.int on), some (.int r2)]) hi_182_4 (Nat.le_of_ble_eq_true rfl) rfl ?_
  refine am_e2 (v := 39) hi_182_5 rfl ?_
  refine am_e0 hi_182_6 ?_
  refine am_e1 (v := on) hi_182_8 rfl ?_
  refine am_e0 hi_182_9 ?_
  refine am_e0 hi_182_10 ?_
  refine am_e32n (as := [.ref 39, .int 24, .int on, .int 0, .int 0]) (la := [some (.ref 39), some (.int 24), some (.int on), some (.int 0), some (.int 0)]) (rest := []) hi_182_11 (am_hd0 (M := 182) (by decide) 11) (Nat.le_of_ble_eq_true rfl) (Nat.le_of_ble_eq_true rfl) (show 5 ≤ am_P0.2.2.1 179 from by decide +kernel) rfl (am_recv_ok hS4.fs) rfl rfl (ct_pile (d := (d + 5)) hS4 hR (mj_e_plain (by decide)) (by show (0 : Int) ≤ (f 10).toInt; omega) (by show (f 10).toInt ≤ (65535 : Int); omega)) ?_
  rintro v7 S8 (⟨z9, g'10, hv11, hS12, hR15, h13, h14⟩)
  subst hv11
  have h13_ : z9.toInt = (f 10).toInt + 1 := h13
  have h14_ : ∀ j, j ∉ [11, 12, 13, 14] → g'10 j = g j := h14
  have hR15_ : RJ (upd f 10 z9) g'10 (((24 : Int), on.toInt, (0 : Int), (0 : Int), []) :: gs) bc [] 0 [] := hR15
  show am_E _ _ _ _ [some (.ref 39), some (.int on), some (.int r2)] [] _ _
  refine am_e1 (v := r2) hi_182_14 rfl ?_
  refine am_e32n (as := [.int r2]) (la := [some (.int r2)]) (rest := []) hi_182_15 (am_hd0 (M := 182) (by decide) 15) (Nat.le_of_ble_eq_true rfl) (Nat.le_of_ble_eq_true rfl) (show 1 ≤ am_P0.2.2.1 185 from by decide +kernel) rfl rfl rfl rfl (ct_isUnary (d := (d + 5)) hS12   ) ?_
  rintro v16 S17 (⟨r18, hv19, hS20, h21, h22⟩)
  subst hv19
  have h21_ : r18 = 0 ∨ r18 = 1 := h21
  have h22_ : r18.toInt = (0 : Int) ∨ (0 : Int) ≤ r2.toInt := h22
  show am_E _ _ _ _ [some (.ref 39), some (.int on), some (.int r2)] [.int r18] _ _
  by_cases c24 : r18.toInt = (0 : Int)
  · refine am_e12t hi_182_18 (am_cT (m := r18.toInt) (n := (0 : Int)) rfl (by decide) c24) ?_
    refine am_e2 (v := 39) hi_182_52 rfl ?_
    refine am_e1 (v := r2) hi_182_53 rfl ?_
    refine am_e32w (as := [.ref 39, .int r2]) (la := [some (.ref 39), some (.int r2), none]) (rest := []) hi_182_54 (am_hd0 (M := 182) (by decide) 54) (Nat.le_of_ble_eq_true rfl) (Nat.le_of_ble_eq_true rfl) (show 2 ≤ am_P0.2.2.1 187 from by decide +kernel) rfl (am_recv_ok hS20.fs) rfl rfl ?_
    refine am_e2 (v := 39) hi_187_0 rfl ?_
    refine mm_20 (v := .int (f 4)) hS20 hi_187_1 rfl ?_
    refine am_e3 (ls' := [some (.ref 39), some (.int r2), some (.int (f 4))]) hi_187_4 (Nat.le_of_ble_eq_true rfl) rfl ?_
    refine am_e1 (v := r2) hi_187_5 rfl ?_
    by_cases c25 : r2.toInt = 2
    · refine am_e19 (t := 107) hi_187_6 (am_swI (v := r2) (w := 2) (by decide) (by decide) c25) ?_
      refine am_e2 (v := 39) hi_187_107 rfl ?_
      refine am_e0 hi_187_108 ?_
      refine am_e2 (v := 39) hi_187_109 rfl ?_
      refine mm_20 (v := .ref 41) hS20 hi_187_110 rfl ?_
      refine am_e2 (v := 39) hi_187_113 rfl ?_
      refine mm_20 (v := .int (f 4)) hS20 hi_187_114 rfl ?_
      refine mm_25 hS20 ma_2 hi_187_117 (by decide) (by omega) (by omega) ?_
      show am_E _ _ _ _ _ (.int (g'10 2 (f 4).toNatClampNeg) :: _) _ _
      rw [show g'10 2 = g 2 from h14_ 2 (by decide)]
      show am_E _ _ _ _ [some (.ref 39), some (.int r2), some (.int (f 4))] [.int (g 2 (f 4).toNatClampNeg), .int 4, .ref 39] _ _
      refine am_e32w (as := [.ref 39, .int 4, .int (g 2 (f 4).toNatClampNeg)]) (la := [some (.ref 39), some (.int 4), some (.int (g 2 (f 4).toNatClampNeg))]) (rest := []) hi_187_118 (am_hd0 (M := 187) (by decide) 118) (Nat.le_of_ble_eq_true rfl) (Nat.le_of_ble_eq_true rfl) (show 3 ≤ am_P0.2.2.1 188 from by decide +kernel) rfl (am_recv_ok hS20.fs) rfl rfl ?_
      refine am_e2 (v := 39) hi_188_0 rfl ?_
      refine am_e1 (v := 4) hi_188_1 rfl ?_
      refine am_e1 (v := g 2 (f 4).toNatClampNeg) hi_188_2 rfl ?_
      refine am_e0 hi_188_3 ?_
      refine am_e0 hi_188_4 ?_
      refine am_e32n (as := [.ref 39, .int 4, .int (g 2 (f 4).toNatClampNeg), .int 0, .int 0]) (la := [some (.ref 39), some (.int 4), some (.int (g 2 (f 4).toNatClampNeg)), some (.int 0), some (.int 0)]) (rest := []) hi_188_5 (am_hd0 (M := 188) (by decide) 5) (Nat.le_of_ble_eq_true rfl) (Nat.le_of_ble_eq_true rfl) (show 5 ≤ am_P0.2.2.1 189 from by decide +kernel) rfl (am_recv_ok hS20.fs) rfl rfl (ct_put (d := (d + 3)) hS20 hR15_  (by show (0 : Int) ≤ (f 32).toInt; omega) (by show (f 32).toInt ≤ (63 : Int); omega) (by show (f 53).toInt ≤ (4096 : Int); omega) (by show (0 : Int) ≤ (f 68).toInt; omega) (by show (f 68).toInt ≤ (65534 : Int); omega)) ?_
      rintro v26 S27 (⟨z28, r29, g'30, hv31, hS32, hR36, h33, h34, h35⟩)
      subst hv31
      have h33_ : z28.toInt = (f 68).toInt + 1 := h33
      have h34_ : r29.toInt = (f 68).toInt := h34
      have h35_ : ∀ j, j ∉ [60, 69, 70, 71, 72, 73] → g'30 j = g'10 j := h35
      have hR36_ : RJ (upd (upd f 10 z9) 68 z28) g'30 (((24 : Int), on.toInt, (0 : Int), (0 : Int), []) :: gs) bc [] 0 ((f 68).toNatClampNeg :: []) := hR36
      show am_E _ _ _ _ [some (.ref 39), some (.int 4), some (.int (g 2 (f 4).toNatClampNeg))] [.int r29] _ _
      refine am_e6i hi_188_8 ?_
      refine am_e2 (v := 39) hi_188_9 rfl ?_
      refine am_e0 hi_188_10 ?_
      refine am_e0 hi_188_11 ?_
      refine am_e0 hi_188_12 ?_
      refine am_e32n (as := [.ref 39, .int 0, .int 0, .int 0]) (la := [some (.ref 39), some (.int 0), some (.int 0), some (.int 0)]) (rest := []) hi_188_13 (am_hd0 (M := 188) (by decide) 13) (Nat.le_of_ble_eq_true rfl) (Nat.le_of_ble_eq_true rfl) (show 4 ≤ am_P0.2.2.1 190 from by decide +kernel) rfl (am_recv_ok hS32.fs) rfl rfl (ct_value (d := (d + 3)) hS32 hR36_ (fun h => absurd h (by decide)) (fun h => absurd h (by decide)) (by show (0 : Int) ≤ (f 15).toInt; omega) (by show (f 15).toInt ≤ (32767 : Int); omega)) ?_
      rintro v37 S38 (⟨z39, g'40, hv41, hS42, hR47, h43, h44, h45, h46⟩)
      subst hv41
      have h43_ : z39.toInt = (f 15).toInt + 1 := h43
      have h44_ : ∀ j, j ∉ [16, 17, 18] → g'40 j = g'30 j := h44
      have h45_ : mj_n (g'40 16) z39.toNatClampNeg 3 ≤ mj_n (g 16) (f 15).toNatClampNeg 3 + 1 := by rw [show g'30 16 = g'10 16 from h35_ 16 (by decide), show g'10 16 = g 16 from h14_ 16 (by decide)] at h45; exact h45
      have h46_ : (0 : Int) = 3 ∨ mj_n (g'40 16) z39.toNatClampNeg 3 ≤ mj_n (g 16) (f 15).toNatClampNeg 3 := by rw [show g'30 16 = g'10 16 from h35_ 16 (by decide), show g'10 16 = g 16 from h14_ 16 (by decide)] at h46; exact h46
      replace hS42 : MS S0 S38 (upd (upd (upd f 10 z9) 15 z39) 68 z28) g'40 := hS42
      have hR47_ : RJ (upd (upd (upd f 10 z9) 15 z39) 68 z28) g'40 (((24 : Int), on.toInt, (0 : Int), (0 : Int), []) :: gs) bc [] 0 ((f 68).toNatClampNeg :: []) := hR47
      show am_E _ _ _ _ [some (.ref 39), some (.int 4), some (.int (g 2 (f 4).toNatClampNeg))] [] _ _
      refine am_e2 (v := 39) hi_188_16 rfl ?_
      refine am_e7 hi_188_17 ?_
      refine mm_20 (v := .int (f 4)) hS42 hi_188_18 rfl ?_
      refine am_e0 hi_188_21 ?_
      obtain ⟨z48, hz48, tz48⟩ := am_addI (x := f 4) (y := 1) (m := (f 4).toInt) (n := (1 : Int)) rfl (by decide) (by omega) (by omega)
      refine am_e10 (z := z48) hi_188_22 hz48 ?_
      refine mm_21 (v := z48) hS42 hi_188_23 rfl (Nat.le_of_ble_eq_true rfl) ms_4 ?_
      intro S49 hS50
      replace hS50 : MS S0 S49 (upd (upd (upd (upd f 4 z48) 10 z9) 15 z39) 68 z28) g'40 := hS50
      have hR51 : RJ (upd (upd (upd (upd f 4 z48) 10 z9) 15 z39) 68 z28) g'40 (((24 : Int), on.toInt, (0 : Int), (0 : Int), []) :: gs) bc [] 0 ((f 68).toNatClampNeg :: []) := RJ.at hR47_ (by show (f 4).toInt ≤ z48.toInt; omega)
      refine am_e35 hi_188_26 ?_
      show am_E _ _ _ _ [some (.ref 39), some (.int r2), some (.int (f 4))] [] _ _
      refine am_e18 hi_187_121 ?_
      refine am_e35 hi_187_246 ?_
      show am_E _ _ _ _ [some (.ref 39), some (.int on), some (.int r2)] [] _ _
      refine am_e35 hi_182_57 ?_
      show am_E _ _ _ _ [some (.ref 39), some (.int 23), some (.int on), some (.int tw)] [] _ _
      refine am_e18 hi_181_93 ?_
      refine am_e35 hi_181_397 ?_
      show am_E _ _ _ _ [some (.ref 39), some (.int 23), some (.int on), some (.int tw), some (.int th)] [] _ _
      refine am_e35 hi_180_13 ?_
      have q1 : mg_p1 (((24 : Int), on.toInt, (0 : Int), (0 : Int), []) :: gs) = 0 + (mg_p1 gs) := rfl
      have q2 : mg_p2 (((24 : Int), on.toInt, (0 : Int), (0 : Int), []) :: gs) = 0 + (mg_p2 gs) := rfl
      have q3 : mg_p3 (((24 : Int), on.toInt, (0 : Int), (0 : Int), []) :: gs) = 1 + (mg_p3 gs) := rfl
      have q4 : mg_p4 (((24 : Int), on.toInt, (0 : Int), (0 : Int), []) :: gs) = 0 + (mg_p4 gs) := rfl
      refine ⟨_, _, _, bc, rfl, hS50, Or.inl ⟨⟨(RJ.fewer (pj' := []) hR51 (fun _ h => nomatch h)), ?_, ?_⟩, rfl, ?_⟩⟩
      · exact (⟨⟨(show mg_k 24 from by decide), (show (1 : Int) ≤ z39.toInt from by omega), (show 0 ≤ (f 20).toInt from by omega), (show 1 ≤ (f 37).toInt from by omega), (show 0 ≤ (f 32).toInt from by omega), (show (f 32).toInt ≤ (f 5).toInt from by omega), (show (f 5).toInt ≤ 48 from by omega), (show (f 37).toInt ≤ 2 * ((f 5).toInt) + 2 from by omega), (show 0 ≤ on.toInt from by omega)⟩, mg_cast (mg_good_ext _ _ _ _ _ _ (fun i _ => by show g'40 34 i = g 34 i; rw [show g'40 34 = g'30 34 from h44_ 34 (by decide), show g'30 34 = g'10 34 from h35_ 34 (by decide), show g'10 34 = g 34 from h14_ 34 (by decide)]) (fun i _ => by show g'40 38 i = g 38 i; rw [show g'40 38 = g'30 38 from h44_ 38 (by decide), show g'30 38 = g'10 38 from h35_ 38 (by decide), show g'10 38 = g 38 from h14_ 38 (by decide)]) (fun i _ => by show g'40 23 i = g 23 i; rw [show g'40 23 = g'30 23 from h44_ 23 (by decide), show g'30 23 = g'10 23 from h35_ 23 (by decide), show g'10 23 = g 23 from h14_ 23 (by decide)]) hrest) (by show (f 15).toInt + 1 = z39.toInt + 0; omega) (by show (f 20).toInt = (f 20).toInt; omega) (by show (f 37).toInt + 0 = (f 37).toInt + 0; omega) (by show (f 32).toInt + 0 = (f 32).toInt + 0; omega) (by show (f 5).toInt + 0 = (f 5).toInt + 0; omega)⟩ : mg_good (g'40 34) (g'40 38) (g'40 23) (((24 : Int), on.toInt, (0 : Int), (0 : Int), []) :: gs) (z39.toInt) ((f 20).toInt) ((f 37).toInt) ((f 32).toInt) ((f 5).toInt))
      · exact ⟨(by show 0 ≤ z48.toInt; omega), (by show z48.toInt ≤ (f 0).toInt; omega), (by show (f 0).toInt ≤ 512; omega), (by show 0 ≤ (f 24).toInt; omega), (by show (f 24).toInt + (f 20).toInt + mg_p1 (((24 : Int), on.toInt, (0 : Int), (0 : Int), []) :: gs) ≤ 4 * z48.toInt; omega), (by show (f 20).toInt ≤ z48.toInt; omega), (by show z39.toInt + mg_p2 (((24 : Int), on.toInt, (0 : Int), (0 : Int), []) :: gs) ≤ z48.toInt; omega), (by show mg_p3 (((24 : Int), on.toInt, (0 : Int), (0 : Int), []) :: gs) ≤ 20 * z48.toInt + 20; omega), (by show 0 ≤ z28.toInt; omega), (by show z28.toInt + 3 * (f 20).toInt + mg_p4 (((24 : Int), on.toInt, (0 : Int), (0 : Int), []) :: gs) ≤ 60 * z48.toInt + 60; omega), (by show 0 ≤ (f 62).toInt; omega), (by show (f 62).toInt + 64 * mj_n (g'40 16) z39.toNatClampNeg 3 ≤ 64 * z48.toInt; omega), (by show 0 ≤ (f 44).toInt; omega), (by show (f 44).toInt ≤ z48.toInt; omega), (by show 0 ≤ (f 48).toInt; omega), (by show (f 48).toInt ≤ z48.toInt; omega), (by show 1 ≤ (f 53).toInt; omega), (by show (f 53).toInt ≤ z48.toInt + 1; omega), (by show 0 ≤ (f 19).toInt; omega), (by show (f 19).toInt ≤ 600; omega)⟩
      · show 100 * ((f 0).toInt - z48.toInt) + mg_p3 (((24 : Int), on.toInt, (0 : Int), (0 : Int), []) :: gs) < 100 * ((f 0).toInt - (f 4).toInt) + (1 + mg_p3 gs); omega
    by_cases c52 : r2.toInt = 3
    · refine am_e19 (t := 124) hi_187_6 (am_swI (v := r2) (w := 3) (by decide) (by decide) c52) ?_
      refine am_e2 (v := 39) hi_187_124 rfl ?_
      refine am_e0 hi_187_125 ?_
      refine am_e2 (v := 39) hi_187_126 rfl ?_
      refine mm_20 (v := .ref 41) hS20 hi_187_127 rfl ?_
      refine am_e2 (v := 39) hi_187_130 rfl ?_
      refine mm_20 (v := .int (f 4)) hS20 hi_187_131 rfl ?_
      refine mm_25 hS20 ma_2 hi_187_134 (by decide) (by omega) (by omega) ?_
      show am_E _ _ _ _ _ (.int (g'10 2 (f 4).toNatClampNeg) :: _) _ _
      rw [show g'10 2 = g 2 from h14_ 2 (by decide)]
      show am_E _ _ _ _ [some (.ref 39), some (.int r2), some (.int (f 4))] [.int (g 2 (f 4).toNatClampNeg), .int 5, .ref 39] _ _
      refine am_e32w (as := [.ref 39, .int 5, .int (g 2 (f 4).toNatClampNeg)]) (la := [some (.ref 39), some (.int 5), some (.int (g 2 (f 4).toNatClampNeg))]) (rest := []) hi_187_135 (am_hd0 (M := 187) (by decide) 135) (Nat.le_of_ble_eq_true rfl) (Nat.le_of_ble_eq_true rfl) (show 3 ≤ am_P0.2.2.1 188 from by decide +kernel) rfl (am_recv_ok hS20.fs) rfl rfl ?_
      refine am_e2 (v := 39) hi_188_0 rfl ?_
      refine am_e1 (v := 5) hi_188_1 rfl ?_
      refine am_e1 (v := g 2 (f 4).toNatClampNeg) hi_188_2 rfl ?_
      refine am_e0 hi_188_3 ?_
      refine am_e0 hi_188_4 ?_
      refine am_e32n (as := [.ref 39, .int 5, .int (g 2 (f 4).toNatClampNeg), .int 0, .int 0]) (la := [some (.ref 39), some (.int 5), some (.int (g 2 (f 4).toNatClampNeg)), some (.int 0), some (.int 0)]) (rest := []) hi_188_5 (am_hd0 (M := 188) (by decide) 5) (Nat.le_of_ble_eq_true rfl) (Nat.le_of_ble_eq_true rfl) (show 5 ≤ am_P0.2.2.1 189 from by decide +kernel) rfl (am_recv_ok hS20.fs) rfl rfl (ct_put (d := (d + 3)) hS20 hR15_  (by show (0 : Int) ≤ (f 32).toInt; omega) (by show (f 32).toInt ≤ (63 : Int); omega) (by show (f 53).toInt ≤ (4096 : Int); omega) (by show (0 : Int) ≤ (f 68).toInt; omega) (by show (f 68).toInt ≤ (65534 : Int); omega)) ?_
      rintro v53 S54 (⟨z55, r56, g'57, hv58, hS59, hR63, h60, h61, h62⟩)
      subst hv58
      have h60_ : z55.toInt = (f 68).toInt + 1 := h60
      have h61_ : r56.toInt = (f 68).toInt := h61
      have h62_ : ∀ j, j ∉ [60, 69, 70, 71, 72, 73] → g'57 j = g'10 j := h62
      have hR63_ : RJ (upd (upd f 10 z9) 68 z55) g'57 (((24 : Int), on.toInt, (0 : Int), (0 : Int), []) :: gs) bc [] 0 ((f 68).toNatClampNeg :: []) := hR63
      show am_E _ _ _ _ [some (.ref 39), some (.int 5), some (.int (g 2 (f 4).toNatClampNeg))] [.int r56] _ _
      refine am_e6i hi_188_8 ?_
      refine am_e2 (v := 39) hi_188_9 rfl ?_
      refine am_e0 hi_188_10 ?_
      refine am_e0 hi_188_11 ?_
      refine am_e0 hi_188_12 ?_
      refine am_e32n (as := [.ref 39, .int 0, .int 0, .int 0]) (la := [some (.ref 39), some (.int 0), some (.int 0), some (.int 0)]) (rest := []) hi_188_13 (am_hd0 (M := 188) (by decide) 13) (Nat.le_of_ble_eq_true rfl) (Nat.le_of_ble_eq_true rfl) (show 4 ≤ am_P0.2.2.1 190 from by decide +kernel) rfl (am_recv_ok hS59.fs) rfl rfl (ct_value (d := (d + 3)) hS59 hR63_ (fun h => absurd h (by decide)) (fun h => absurd h (by decide)) (by show (0 : Int) ≤ (f 15).toInt; omega) (by show (f 15).toInt ≤ (32767 : Int); omega)) ?_
      rintro v64 S65 (⟨z66, g'67, hv68, hS69, hR74, h70, h71, h72, h73⟩)
      subst hv68
      have h70_ : z66.toInt = (f 15).toInt + 1 := h70
      have h71_ : ∀ j, j ∉ [16, 17, 18] → g'67 j = g'57 j := h71
      have h72_ : mj_n (g'67 16) z66.toNatClampNeg 3 ≤ mj_n (g 16) (f 15).toNatClampNeg 3 + 1 := by rw [show g'57 16 = g'10 16 from h62_ 16 (by decide), show g'10 16 = g 16 from h14_ 16 (by decide)] at h72; exact h72
      have h73_ : (0 : Int) = 3 ∨ mj_n (g'67 16) z66.toNatClampNeg 3 ≤ mj_n (g 16) (f 15).toNatClampNeg 3 := by rw [show g'57 16 = g'10 16 from h62_ 16 (by decide), show g'10 16 = g 16 from h14_ 16 (by decide)] at h73; exact h73
      replace hS69 : MS S0 S65 (upd (upd (upd f 10 z9) 15 z66) 68 z55) g'67 := hS69
      have hR74_ : RJ (upd (upd (upd f 10 z9) 15 z66) 68 z55) g'67 (((24 : Int), on.toInt, (0 : Int), (0 : Int), []) :: gs) bc [] 0 ((f 68).toNatClampNeg :: []) := hR74
      show am_E _ _ _ _ [some (.ref 39), some (.int 5), some (.int (g 2 (f 4).toNatClampNeg))] [] _ _
      refine am_e2 (v := 39) hi_188_16 rfl ?_
      refine am_e7 hi_188_17 ?_
      refine mm_20 (v := .int (f 4)) hS69 hi_188_18 rfl ?_
      refine am_e0 hi_188_21 ?_
      obtain ⟨z75, hz75, tz75⟩ := am_addI (x := f 4) (y := 1) (m := (f 4).toInt) (n := (1 : Int)) rfl (by decide) (by omega) (by omega)
      refine am_e10 (z := z75) hi_188_22 hz75 ?_
      refine mm_21 (v := z75) hS69 hi_188_23 rfl (Nat.le_of_ble_eq_true rfl) ms_4 ?_
      intro S76 hS77
      replace hS77 : MS S0 S76 (upd (upd (upd (upd f 4 z75) 10 z9) 15 z66) 68 z55) g'67 := hS77
      have hR78 : RJ (upd (upd (upd (upd f 4 z75) 10 z9) 15 z66) 68 z55) g'67 (((24 : Int), on.toInt, (0 : Int), (0 : Int), []) :: gs) bc [] 0 ((f 68).toNatClampNeg :: []) := RJ.at hR74_ (by show (f 4).toInt ≤ z75.toInt; omega)
      refine am_e35 hi_188_26 ?_
      show am_E _ _ _ _ [some (.ref 39), some (.int r2), some (.int (f 4))] [] _ _
      refine am_e18 hi_187_138 ?_
      refine am_e35 hi_187_246 ?_
      show am_E _ _ _ _ [some (.ref 39), some (.int on), some (.int r2)] [] _ _
      refine am_e35 hi_182_57 ?_
      show am_E _ _ _ _ [some (.ref 39), some (.int 23), some (.int on), some (.int tw)] [] _ _
      refine am_e18 hi_181_93 ?_
      refine am_e35 hi_181_397 ?_
      show am_E _ _ _ _ [some (.ref 39), some (.int 23), some (.int on), some (.int tw), some (.int th)] [] _ _
      refine am_e35 hi_180_13 ?_
      have q1 : mg_p1 (((24 : Int), on.toInt, (0 : Int), (0 : Int), []) :: gs) = 0 + (mg_p1 gs) := rfl
      have q2 : mg_p2 (((24 : Int), on.toInt, (0 : Int), (0 : Int), []) :: gs) = 0 + (mg_p2 gs) := rfl
      have q3 : mg_p3 (((24 : Int), on.toInt, (0 : Int), (0 : Int), []) :: gs) = 1 + (mg_p3 gs) := rfl
      have q4 : mg_p4 (((24 : Int), on.toInt, (0 : Int), (0 : Int), []) :: gs) = 0 + (mg_p4 gs) := rfl
      refine ⟨_, _, _, bc, rfl, hS77, Or.inl ⟨⟨(RJ.fewer (pj' := []) hR78 (fun _ h => nomatch h)), ?_, ?_⟩, rfl, ?_⟩⟩
      · exact (⟨⟨(show mg_k 24 from by decide), (show (1 : Int) ≤ z66.toInt from by omega), (show 0 ≤ (f 20).toInt from by omega), (show 1 ≤ (f 37).toInt from by omega), (show 0 ≤ (f 32).toInt from by omega), (show (f 32).toInt ≤ (f 5).toInt from by omega), (show (f 5).toInt ≤ 48 from by omega), (show (f 37).toInt ≤ 2 * ((f 5).toInt) + 2 from by omega), (show 0 ≤ on.toInt from by omega)⟩, mg_cast (mg_good_ext _ _ _ _ _ _ (fun i _ => by show g'67 34 i = g 34 i; rw [show g'67 34 = g'57 34 from h71_ 34 (by decide), show g'57 34 = g'10 34 from h62_ 34 (by decide), show g'10 34 = g 34 from h14_ 34 (by decide)]) (fun i _ => by show g'67 38 i = g 38 i; rw [show g'67 38 = g'57 38 from h71_ 38 (by decide), show g'57 38 = g'10 38 from h62_ 38 (by decide), show g'10 38 = g 38 from h14_ 38 (by decide)]) (fun i _ => by show g'67 23 i = g 23 i; rw [show g'67 23 = g'57 23 from h71_ 23 (by decide), show g'57 23 = g'10 23 from h62_ 23 (by decide), show g'10 23 = g 23 from h14_ 23 (by decide)]) hrest) (by show (f 15).toInt + 1 = z66.toInt + 0; omega) (by show (f 20).toInt = (f 20).toInt; omega) (by show (f 37).toInt + 0 = (f 37).toInt + 0; omega) (by show (f 32).toInt + 0 = (f 32).toInt + 0; omega) (by show (f 5).toInt + 0 = (f 5).toInt + 0; omega)⟩ : mg_good (g'67 34) (g'67 38) (g'67 23) (((24 : Int), on.toInt, (0 : Int), (0 : Int), []) :: gs) (z66.toInt) ((f 20).toInt) ((f 37).toInt) ((f 32).toInt) ((f 5).toInt))
      · exact ⟨(by show 0 ≤ z75.toInt; omega), (by show z75.toInt ≤ (f 0).toInt; omega), (by show (f 0).toInt ≤ 512; omega), (by show 0 ≤ (f 24).toInt; omega), (by show (f 24).toInt + (f 20).toInt + mg_p1 (((24 : Int), on.toInt, (0 : Int), (0 : Int), []) :: gs) ≤ 4 * z75.toInt; omega), (by show (f 20).toInt ≤ z75.toInt; omega), (by show z66.toInt + mg_p2 (((24 : Int), on.toInt, (0 : Int), (0 : Int), []) :: gs) ≤ z75.toInt; omega), (by show mg_p3 (((24 : Int), on.toInt, (0 : Int), (0 : Int), []) :: gs) ≤ 20 * z75.toInt + 20; omega), (by show 0 ≤ z55.toInt; omega), (by show z55.toInt + 3 * (f 20).toInt + mg_p4 (((24 : Int), on.toInt, (0 : Int), (0 : Int), []) :: gs) ≤ 60 * z75.toInt + 60; omega), (by show 0 ≤ (f 62).toInt; omega), (by show (f 62).toInt + 64 * mj_n (g'67 16) z66.toNatClampNeg 3 ≤ 64 * z75.toInt; omega), (by show 0 ≤ (f 44).toInt; omega), (by show (f 44).toInt ≤ z75.toInt; omega), (by show 0 ≤ (f 48).toInt; omega), (by show (f 48).toInt ≤ z75.toInt; omega), (by show 1 ≤ (f 53).toInt; omega), (by show (f 53).toInt ≤ z75.toInt + 1; omega), (by show 0 ≤ (f 19).toInt; omega), (by show (f 19).toInt ≤ 600; omega)⟩
      · show 100 * ((f 0).toInt - z75.toInt) + mg_p3 (((24 : Int), on.toInt, (0 : Int), (0 : Int), []) :: gs) < 100 * ((f 0).toInt - (f 4).toInt) + (1 + mg_p3 gs); omega
    by_cases c79 : r2.toInt = 16
    · refine am_e19 (t := 89) hi_187_6 (am_swI (v := r2) (w := 16) (by decide) (by decide) c79) ?_
      refine am_e2 (v := 39) hi_187_89 rfl ?_
      refine am_e0 hi_187_90 ?_
      refine am_e0 hi_187_91 ?_
      refine am_e32w (as := [.ref 39, .int 2, .int 0]) (la := [some (.ref 39), some (.int 2), some (.int 0)]) (rest := []) hi_187_92 (am_hd0 (M := 187) (by decide) 92) (Nat.le_of_ble_eq_true rfl) (Nat.le_of_ble_eq_true rfl) (show 3 ≤ am_P0.2.2.1 188 from by decide +kernel) rfl (am_recv_ok hS20.fs) rfl rfl ?_
      refine am_e2 (v := 39) hi_188_0 rfl ?_
      refine am_e1 (v := 2) hi_188_1 rfl ?_
      refine am_e1 (v := 0) hi_188_2 rfl ?_
      refine am_e0 hi_188_3 ?_
      refine am_e0 hi_188_4 ?_
      refine am_e32n (as := [.ref 39, .int 2, .int 0, .int 0, .int 0]) (la := [some (.ref 39), some (.int 2), some (.int 0), some (.int 0), some (.int 0)]) (rest := []) hi_188_5 (am_hd0 (M := 188) (by decide) 5) (Nat.le_of_ble_eq_true rfl) (Nat.le_of_ble_eq_true rfl) (show 5 ≤ am_P0.2.2.1 189 from by decide +kernel) rfl (am_recv_ok hS20.fs) rfl rfl (ct_put (d := (d + 3)) hS20 hR15_  (by show (0 : Int) ≤ (f 32).toInt; omega) (by show (f 32).toInt ≤ (63 : Int); omega) (by show (f 53).toInt ≤ (4096 : Int); omega) (by show (0 : Int) ≤ (f 68).toInt; omega) (by show (f 68).toInt ≤ (65534 : Int); omega)) ?_
      rintro v80 S81 (⟨z82, r83, g'84, hv85, hS86, hR90, h87, h88, h89⟩)
      subst hv85
      have h87_ : z82.toInt = (f 68).toInt + 1 := h87
      have h88_ : r83.toInt = (f 68).toInt := h88
      have h89_ : ∀ j, j ∉ [60, 69, 70, 71, 72, 73] → g'84 j = g'10 j := h89
      have hR90_ : RJ (upd (upd f 10 z9) 68 z82) g'84 (((24 : Int), on.toInt, (0 : Int), (0 : Int), []) :: gs) bc [] 0 ((f 68).toNatClampNeg :: []) := hR90
      show am_E _ _ _ _ [some (.ref 39), some (.int 2), some (.int 0)] [.int r83] _ _
      refine am_e6i hi_188_8 ?_
      refine am_e2 (v := 39) hi_188_9 rfl ?_
      refine am_e0 hi_188_10 ?_
      refine am_e0 hi_188_11 ?_
      refine am_e0 hi_188_12 ?_
      refine am_e32n (as := [.ref 39, .int 0, .int 0, .int 0]) (la := [some (.ref 39), some (.int 0), some (.int 0), some (.int 0)]) (rest := []) hi_188_13 (am_hd0 (M := 188) (by decide) 13) (Nat.le_of_ble_eq_true rfl) (Nat.le_of_ble_eq_true rfl) (show 4 ≤ am_P0.2.2.1 190 from by decide +kernel) rfl (am_recv_ok hS86.fs) rfl rfl (ct_value (d := (d + 3)) hS86 hR90_ (fun h => absurd h (by decide)) (fun h => absurd h (by decide)) (by show (0 : Int) ≤ (f 15).toInt; omega) (by show (f 15).toInt ≤ (32767 : Int); omega)) ?_
      rintro v91 S92 (⟨z93, g'94, hv95, hS96, hR101, h97, h98, h99, h100⟩)
      subst hv95
      have h97_ : z93.toInt = (f 15).toInt + 1 := h97
      have h98_ : ∀ j, j ∉ [16, 17, 18] → g'94 j = g'84 j := h98
      have h99_ : mj_n (g'94 16) z93.toNatClampNeg 3 ≤ mj_n (g 16) (f 15).toNatClampNeg 3 + 1 := by rw [show g'84 16 = g'10 16 from h89_ 16 (by decide), show g'10 16 = g 16 from h14_ 16 (by decide)] at h99; exact h99
      have h100_ : (0 : Int) = 3 ∨ mj_n (g'94 16) z93.toNatClampNeg 3 ≤ mj_n (g 16) (f 15).toNatClampNeg 3 := by rw [show g'84 16 = g'10 16 from h89_ 16 (by decide), show g'10 16 = g 16 from h14_ 16 (by decide)] at h100; exact h100
      replace hS96 : MS S0 S92 (upd (upd (upd f 10 z9) 15 z93) 68 z82) g'94 := hS96
      have hR101_ : RJ (upd (upd (upd f 10 z9) 15 z93) 68 z82) g'94 (((24 : Int), on.toInt, (0 : Int), (0 : Int), []) :: gs) bc [] 0 ((f 68).toNatClampNeg :: []) := hR101
      show am_E _ _ _ _ [some (.ref 39), some (.int 2), some (.int 0)] [] _ _
      refine am_e2 (v := 39) hi_188_16 rfl ?_
      refine am_e7 hi_188_17 ?_
      refine mm_20 (v := .int (f 4)) hS96 hi_188_18 rfl ?_
      refine am_e0 hi_188_21 ?_
      obtain ⟨z102, hz102, tz102⟩ := am_addI (x := f 4) (y := 1) (m := (f 4).toInt) (n := (1 : Int)) rfl (by decide) (by omega) (by omega)
      refine am_e10 (z := z102) hi_188_22 hz102 ?_
      refine mm_21 (v := z102) hS96 hi_188_23 rfl (Nat.le_of_ble_eq_true rfl) ms_4 ?_
      intro S103 hS104
      replace hS104 : MS S0 S103 (upd (upd (upd (upd f 4 z102) 10 z9) 15 z93) 68 z82) g'94 := hS104
      have hR105 : RJ (upd (upd (upd (upd f 4 z102) 10 z9) 15 z93) 68 z82) g'94 (((24 : Int), on.toInt, (0 : Int), (0 : Int), []) :: gs) bc [] 0 ((f 68).toNatClampNeg :: []) := RJ.at hR101_ (by show (f 4).toInt ≤ z102.toInt; omega)
      refine am_e35 hi_188_26 ?_
      show am_E _ _ _ _ [some (.ref 39), some (.int r2), some (.int (f 4))] [] _ _
      refine am_e18 hi_187_95 ?_
      refine am_e35 hi_187_246 ?_
      show am_E _ _ _ _ [some (.ref 39), some (.int on), some (.int r2)] [] _ _
      refine am_e35 hi_182_57 ?_
      show am_E _ _ _ _ [some (.ref 39), some (.int 23), some (.int on), some (.int tw)] [] _ _
      refine am_e18 hi_181_93 ?_
      refine am_e35 hi_181_397 ?_
      show am_E _ _ _ _ [some (.ref 39), some (.int 23), some (.int on), some (.int tw), some (.int th)] [] _ _
      refine am_e35 hi_180_13 ?_
      have q1 : mg_p1 (((24 : Int), on.toInt, (0 : Int), (0 : Int), []) :: gs) = 0 + (mg_p1 gs) := rfl
      have q2 : mg_p2 (((24 : Int), on.toInt, (0 : Int), (0 : Int), []) :: gs) = 0 + (mg_p2 gs) := rfl
      have q3 : mg_p3 (((24 : Int), on.toInt, (0 : Int), (0 : Int), []) :: gs) = 1 + (mg_p3 gs) := rfl
      have q4 : mg_p4 (((24 : Int), on.toInt, (0 : Int), (0 : Int), []) :: gs) = 0 + (mg_p4 gs) := rfl
      refine ⟨_, _, _, bc, rfl, hS104, Or.inl ⟨⟨(RJ.fewer (pj' := []) hR105 (fun _ h => nomatch h)), ?_, ?_⟩, rfl, ?_⟩⟩
      · exact (⟨⟨(show mg_k 24 from by decide), (show (1 : Int) ≤ z93.toInt from by omega), (show 0 ≤ (f 20).toInt from by omega), (show 1 ≤ (f 37).toInt from by omega), (show 0 ≤ (f 32).toInt from by omega), (show (f 32).toInt ≤ (f 5).toInt from by omega), (show (f 5).toInt ≤ 48 from by omega), (show (f 37).toInt ≤ 2 * ((f 5).toInt) + 2 from by omega), (show 0 ≤ on.toInt from by omega)⟩, mg_cast (mg_good_ext _ _ _ _ _ _ (fun i _ => by show g'94 34 i = g 34 i; rw [show g'94 34 = g'84 34 from h98_ 34 (by decide), show g'84 34 = g'10 34 from h89_ 34 (by decide), show g'10 34 = g 34 from h14_ 34 (by decide)]) (fun i _ => by show g'94 38 i = g 38 i; rw [show g'94 38 = g'84 38 from h98_ 38 (by decide), show g'84 38 = g'10 38 from h89_ 38 (by decide), show g'10 38 = g 38 from h14_ 38 (by decide)]) (fun i _ => by show g'94 23 i = g 23 i; rw [show g'94 23 = g'84 23 from h98_ 23 (by decide), show g'84 23 = g'10 23 from h89_ 23 (by decide), show g'10 23 = g 23 from h14_ 23 (by decide)]) hrest) (by show (f 15).toInt + 1 = z93.toInt + 0; omega) (by show (f 20).toInt = (f 20).toInt; omega) (by show (f 37).toInt + 0 = (f 37).toInt + 0; omega) (by show (f 32).toInt + 0 = (f 32).toInt + 0; omega) (by show (f 5).toInt + 0 = (f 5).toInt + 0; omega)⟩ : mg_good (g'94 34) (g'94 38) (g'94 23) (((24 : Int), on.toInt, (0 : Int), (0 : Int), []) :: gs) (z93.toInt) ((f 20).toInt) ((f 37).toInt) ((f 32).toInt) ((f 5).toInt))
      · exact ⟨(by show 0 ≤ z102.toInt; omega), (by show z102.toInt ≤ (f 0).toInt; omega), (by show (f 0).toInt ≤ 512; omega), (by show 0 ≤ (f 24).toInt; omega), (by show (f 24).toInt + (f 20).toInt + mg_p1 (((24 : Int), on.toInt, (0 : Int), (0 : Int), []) :: gs) ≤ 4 * z102.toInt; omega), (by show (f 20).toInt ≤ z102.toInt; omega), (by show z93.toInt + mg_p2 (((24 : Int), on.toInt, (0 : Int), (0 : Int), []) :: gs) ≤ z102.toInt; omega), (by show mg_p3 (((24 : Int), on.toInt, (0 : Int), (0 : Int), []) :: gs) ≤ 20 * z102.toInt + 20; omega), (by show 0 ≤ z82.toInt; omega), (by show z82.toInt + 3 * (f 20).toInt + mg_p4 (((24 : Int), on.toInt, (0 : Int), (0 : Int), []) :: gs) ≤ 60 * z102.toInt + 60; omega), (by show 0 ≤ (f 62).toInt; omega), (by show (f 62).toInt + 64 * mj_n (g'94 16) z93.toNatClampNeg 3 ≤ 64 * z102.toInt; omega), (by show 0 ≤ (f 44).toInt; omega), (by show (f 44).toInt ≤ z102.toInt; omega), (by show 0 ≤ (f 48).toInt; omega), (by show (f 48).toInt ≤ z102.toInt; omega), (by show 1 ≤ (f 53).toInt; omega), (by show (f 53).toInt ≤ z102.toInt + 1; omega), (by show 0 ≤ (f 19).toInt; omega), (by show (f 19).toInt ≤ 600; omega)⟩
      · show 100 * ((f 0).toInt - z102.toInt) + mg_p3 (((24 : Int), on.toInt, (0 : Int), (0 : Int), []) :: gs) < 100 * ((f 0).toInt - (f 4).toInt) + (1 + mg_p3 gs); omega
    by_cases c106 : r2.toInt = 18
    · refine am_e19 (t := 203) hi_187_6 (am_swI (v := r2) (w := 18) (by decide) (by decide) c106) ?_
      refine am_e2 (v := 39) hi_187_203 rfl ?_
      refine am_e0 hi_187_204 ?_
      refine am_e32n (as := [.ref 39, .int 18]) (la := [some (.ref 39), some (.int 18)]) (rest := []) hi_187_206 (am_hd0 (M := 187) (by decide) 206) (Nat.le_of_ble_eq_true rfl) (Nat.le_of_ble_eq_true rfl) (show 2 ≤ am_P0.2.2.1 193 from by decide +kernel) rfl (am_recv_ok hS20.fs) rfl rfl (ct_enter (d := (d + 2)) hS20   (by show (0 : Int) ≤ (f 4).toInt; omega) (by show (f 0).toInt ≤ (16384 : Int); omega) (by show (0 : Int) ≤ (18 : Int); omega) (by show (0 : Int) ≤ (f 5).toInt; omega) (by show (f 5).toInt ≤ (48 : Int); omega)) ?_
      rintro v107 S108 (⟨z109, y110, hv111, hS112, h113, h114, h115, h116⟩ | ⟨a118, b119, hv120, hS121⟩)
      · subst hv111
        have h113_ : z109.toInt = (f 4).toInt + 1 := h113
        have h114_ : (f 4).toInt < (f 0).toInt := h114
        have h115_ : y110.toInt = (f 5).toInt + 1 := h115
        have h116_ : y110.toInt ≤ (48 : Int) := h116
        replace hS112 : MS S0 S108 (upd (upd (upd f 4 z109) 5 y110) 10 z9) g'10 := hS112
        have hR123 : RJ (upd (upd (upd f 4 z109) 5 y110) 10 z9) g'10 (((24 : Int), on.toInt, (0 : Int), (0 : Int), []) :: gs) bc [] 0 [] := RJ.at hR15_ (by show (f 4).toInt ≤ z109.toInt; omega)
        show am_E _ _ _ _ [some (.ref 39), some (.int r2), some (.int (f 4))] [.int 1] _ _
        refine am_e12t hi_187_209 (by decide) ?_
        refine am_e2 (v := 39) hi_187_215 rfl ?_
        refine am_e0 hi_187_216 ?_
        refine am_e1 (v := f 4) hi_187_218 rfl ?_
        refine am_e0 hi_187_219 ?_
        refine am_e0 hi_187_220 ?_
        refine am_e32n (as := [.ref 39, .int 41, .int (f 4), .int 0, .int 0]) (la := [some (.ref 39), some (.int 41), some (.int (f 4)), some (.int 0), some (.int 0)]) (rest := []) hi_187_221 (am_hd0 (M := 187) (by decide) 221) (Nat.le_of_ble_eq_true rfl) (Nat.le_of_ble_eq_true rfl) (show 5 ≤ am_P0.2.2.1 179 from by decide +kernel) rfl (am_recv_ok hS112.fs) rfl rfl (ct_pile (d := (d + 4)) hS112 hR123 (mj_e_plain (by decide)) (by show (0 : Int) ≤ z9.toInt; omega) (by show z9.toInt ≤ (65535 : Int); omega)) ?_
        rintro v124 S125 (⟨z126, g'127, hv128, hS129, hR132, h130, h131⟩)
        subst hv128
        have h130_ : z126.toInt = z9.toInt + 1 := h130
        have h131_ : ∀ j, j ∉ [11, 12, 13, 14] → g'127 j = g'10 j := h131
        replace hS129 : MS S0 S125 (upd (upd (upd f 4 z109) 5 y110) 10 z126) g'127 := hS129
        have hR132_ : RJ (upd (upd (upd f 4 z109) 5 y110) 10 z126) g'127 (((41 : Int), (f 4).toInt, (0 : Int), (0 : Int), []) :: (((24 : Int), on.toInt, (0 : Int), (0 : Int), []) :: gs)) bc [] 0 [] := hR132
        show am_E _ _ _ _ [some (.ref 39), some (.int r2), some (.int (f 4))] [] _ _
        refine am_e2 (v := 39) hi_187_224 rfl ?_
        refine am_e0 hi_187_225 ?_
        refine am_e1 (v := f 4) hi_187_226 rfl ?_
        refine am_e32n (as := [.ref 39, .int 0, .int (f 4)]) (la := [some (.ref 39), some (.int 0), some (.int (f 4)), none, none]) (rest := []) hi_187_227 (am_hd0 (M := 187) (by decide) 227) (Nat.le_of_ble_eq_true rfl) (Nat.le_of_ble_eq_true rfl) (show 3 ≤ am_P0.2.2.1 195 from by decide +kernel) rfl (am_recv_ok hS129.fs) rfl rfl (ct_body (d := d) hS129 hR132_ (by decide)  (by show (0 : Int) ≤ (f 32).toInt; omega) (by show (f 32).toInt ≤ (62 : Int); omega) (by show (1 : Int) ≤ (f 53).toInt; omega) (by show (f 53).toInt ≤ (4095 : Int); omega) (by show (0 : Int) ≤ z109.toInt; omega) (by show (f 0).toInt ≤ (16384 : Int); omega) (by show (0 : Int) ≤ y110.toInt; omega) (by show y110.toInt ≤ (48 : Int); omega) (by show z109.toInt ≤ (f 0).toInt; omega) (by show (f 0).toInt ≤ (512 : Int); omega) (by show (0 : Int) ≤ (f 24).toInt; omega) (by show (f 24).toInt ≤ (4000 : Int); omega) (by show (0 : Int) ≤ (f 44).toInt; omega) (by show (f 44).toInt ≤ z109.toInt; omega) (by show (0 : Int) ≤ (f 48).toInt; omega) (by show (f 48).toInt ≤ z109.toInt; omega) (by show (0 : Int) ≤ (f 37).toInt; omega) (by show (f 37).toInt ≤ (126 : Int); omega) (by show (0 : Int) ≤ z126.toInt; omega) (by show z126.toInt ≤ (65533 : Int); omega) (by show (0 : Int) ≤ (f 68).toInt; omega)) ?_
        rintro v133 S134 (⟨z135, y136, a137, b138, t139, l140, i_141, dd142, bz143, mm144, g'145, hv146, hS147, hR160, h148, h149, h150, h151, h152, h153, h154, h155, h156, h157, h158, h159⟩ | ⟨a161, b162, hv163, hS164, hR165⟩ | ⟨z166, y167, u168, v_169, a170, b171, l172, i_173, dd174, bz175, mm176, g'177, hv178, hS179, hR186, h180, h181, h182, h183, h184, h185⟩)
        · subst hv146
          have h148_ : z109.toInt + 2 ≤ z135.toInt := h148
          have h149_ : z135.toInt ≤ (f 0).toInt := h149
          have h150_ : y136.toInt = y110.toInt := h150
          have h151_ : (f 24).toInt ≤ l140.toInt := h151
          have h152_ : l140.toInt + z109.toInt ≤ (f 24).toInt + z135.toInt := h152
          have h153_ : t139.toInt = z126.toInt + 2 := h153
          have h154_ : dd142.toInt = (f 32).toInt + 1 := h154
          have h155_ : bz143.toInt = (f 37).toInt + 1 := h155
          have h156_ : mm144.toInt = (f 53).toInt + 1 := h156
          have h157_ : ∀ j, j ∉ [11, 12, 13, 14, 25, 26, 27, 28, 29, 30, 33, 34, 35, 36, 38, 39, 40, 41, 42, 43, 54, 55, 56, 58, 59, 60, 67] → g'145 j = g'127 j := h157
          have h158_ : g'145 34 = upd (g'127 34) dd142.toNatClampNeg (f 24) := h158
          have h159_ : g'145 38 = upd (g'127 38) (f 37).toNatClampNeg (f 24) := h159
          replace hS147 : MS S0 S134 (upd (upd (upd (upd (upd (upd (upd (upd (upd (upd f 4 z135) 5 y136) 8 a137) 9 b138) 10 t139) 24 l140) 31 i_141) 32 dd142) 37 bz143) 53 mm144) g'145 := hS147
          have hR160_ : RJ (upd (upd (upd (upd (upd (upd (upd (upd (upd (upd f 4 z135) 5 y136) 8 a137) 9 b138) 10 t139) 24 l140) 31 i_141) 32 dd142) 37 bz143) 53 mm144) g'145 (((1 : Int), (0 : Int), (0 : Int), (0 : Int), []) :: (((40 : Int), z109.toInt, (0 : Int), (0 : Int), []) :: (((41 : Int), (f 4).toInt, (0 : Int), (0 : Int), []) :: (((24 : Int), on.toInt, (0 : Int), (0 : Int), []) :: gs)))) ([] :: bc) [] 0 [] := hR160
          show am_E _ _ _ _ [some (.ref 39), some (.int r2), some (.int (f 4))] [] _ _
          refine am_e18 hi_187_230 ?_
          refine am_e35 hi_187_246 ?_
          show am_E _ _ _ _ [some (.ref 39), some (.int on), some (.int r2)] [] _ _
          refine am_e35 hi_182_57 ?_
          show am_E _ _ _ _ [some (.ref 39), some (.int 23), some (.int on), some (.int tw)] [] _ _
          refine am_e18 hi_181_93 ?_
          refine am_e35 hi_181_397 ?_
          show am_E _ _ _ _ [some (.ref 39), some (.int 23), some (.int on), some (.int tw), some (.int th)] [] _ _
          refine am_e35 hi_180_13 ?_
          have q1 : mg_p1 (((1 : Int), (0 : Int), (0 : Int), (0 : Int), []) :: (((40 : Int), z109.toInt, (0 : Int), (0 : Int), []) :: (((41 : Int), (f 4).toInt, (0 : Int), (0 : Int), []) :: (((24 : Int), on.toInt, (0 : Int), (0 : Int), []) :: gs)))) = 0 + (0 + (0 + (0 + (mg_p1 gs)))) := rfl
          have q2 : mg_p2 (((1 : Int), (0 : Int), (0 : Int), (0 : Int), []) :: (((40 : Int), z109.toInt, (0 : Int), (0 : Int), []) :: (((41 : Int), (f 4).toInt, (0 : Int), (0 : Int), []) :: (((24 : Int), on.toInt, (0 : Int), (0 : Int), []) :: gs)))) = 0 + (0 + (1 + (0 + (mg_p2 gs)))) := rfl
          have q3 : mg_p3 (((1 : Int), (0 : Int), (0 : Int), (0 : Int), []) :: (((40 : Int), z109.toInt, (0 : Int), (0 : Int), []) :: (((41 : Int), (f 4).toInt, (0 : Int), (0 : Int), []) :: (((24 : Int), on.toInt, (0 : Int), (0 : Int), []) :: gs)))) = 1 + (1 + (1 + (1 + (mg_p3 gs)))) := rfl
          have q4 : mg_p4 (((1 : Int), (0 : Int), (0 : Int), (0 : Int), []) :: (((40 : Int), z109.toInt, (0 : Int), (0 : Int), []) :: (((41 : Int), (f 4).toInt, (0 : Int), (0 : Int), []) :: (((24 : Int), on.toInt, (0 : Int), (0 : Int), []) :: gs)))) = 0 + (0 + (2 + (0 + (mg_p4 gs)))) := rfl
          refine ⟨_, _, _, ([] :: bc), rfl, hS147, Or.inl ⟨⟨hR160_, ?_, ?_⟩, rfl, ?_⟩⟩
          · exact (⟨⟨(show mg_k 1 from by decide), (show (0 : Int) ≤ (f 15).toInt from by omega), (show 0 ≤ (f 20).toInt from by omega), (show 1 ≤ bz143.toInt from by omega), (show 0 ≤ dd142.toInt from by omega), (show dd142.toInt ≤ y136.toInt from by omega), (show y136.toInt ≤ 48 from by omega), (show bz143.toInt ≤ 2 * (y136.toInt) + 1 from by omega), trivial⟩, ⟨⟨(show mg_k 40 from by decide), (show (0 : Int) ≤ (f 15).toInt + 0 from by omega), (show 0 ≤ (f 20).toInt from by omega), (show 1 ≤ bz143.toInt + 0 from by omega), (show 0 ≤ dd142.toInt + 0 from by omega), (show dd142.toInt + 0 ≤ y136.toInt + 0 from by omega), (show y136.toInt + 0 ≤ 48 from by omega), (show bz143.toInt + 0 ≤ 2 * (y136.toInt + 0) + 1 from by omega), trivial⟩, ⟨⟨(show mg_k 41 from by decide), (show (0 : Int) ≤ (f 15).toInt + 0 + 0 from by omega), (show 0 ≤ (f 20).toInt from by omega), (show 1 ≤ bz143.toInt + 0 + -1 from by omega), (show 0 ≤ dd142.toInt + 0 + -1 from by omega), (show dd142.toInt + 0 + -1 ≤ y136.toInt + 0 + -1 from by omega), (show y136.toInt + 0 + -1 ≤ 48 from by omega), (show bz143.toInt + 0 + -1 ≤ 2 * (y136.toInt + 0 + -1) + 2 from by omega), trivial⟩, ⟨⟨(show mg_k 24 from by decide), (show (1 : Int) ≤ (f 15).toInt + 0 + 0 + 1 from by omega), (show 0 ≤ (f 20).toInt from by omega), (show 1 ≤ bz143.toInt + 0 + -1 + 0 from by omega), (show 0 ≤ dd142.toInt + 0 + -1 + 0 from by omega), (show dd142.toInt + 0 + -1 + 0 ≤ y136.toInt + 0 + -1 + 0 from by omega), (show y136.toInt + 0 + -1 + 0 ≤ 48 from by omega), (show bz143.toInt + 0 + -1 + 0 ≤ 2 * (y136.toInt + 0 + -1 + 0) + 2 from by omega), (show 0 ≤ on.toInt from by omega)⟩, mg_cast (mg_good_ext _ _ _ _ _ _ (fun i hi => by show g'145 34 i = g 34 i; rw [h158_, show g'127 34 = g'10 34 from h131_ 34 (by decide), show g'10 34 = g 34 from h14_ 34 (by decide)]; exact upd_ne (by rw [cl_toNat]; omega)) (fun i hi => by show g'145 38 i = g 38 i; rw [h159_, show g'127 38 = g'10 38 from h131_ 38 (by decide), show g'10 38 = g 38 from h14_ 38 (by decide)]; exact upd_ne (by rw [cl_toNat]; omega)) (fun i _ => by show g'145 23 i = g 23 i; rw [show g'145 23 = g'127 23 from h157_ 23 (by decide), show g'127 23 = g'10 23 from h131_ 23 (by decide), show g'10 23 = g 23 from h14_ 23 (by decide)]) hrest) (by show (f 15).toInt + 1 = (f 15).toInt + 0 + 0 + 1 + 0; omega) (by show (f 20).toInt = (f 20).toInt; omega) (by show (f 37).toInt + 0 = bz143.toInt + 0 + -1 + 0 + 0; omega) (by show (f 32).toInt + 0 = dd142.toInt + 0 + -1 + 0 + 0; omega) (by show (f 5).toInt + 0 = y136.toInt + 0 + -1 + 0 + 0; omega)⟩⟩⟩⟩ : mg_good (g'145 34) (g'145 38) (g'145 23) (((1 : Int), (0 : Int), (0 : Int), (0 : Int), []) :: (((40 : Int), z109.toInt, (0 : Int), (0 : Int), []) :: (((41 : Int), (f 4).toInt, (0 : Int), (0 : Int), []) :: (((24 : Int), on.toInt, (0 : Int), (0 : Int), []) :: gs)))) ((f 15).toInt) ((f 20).toInt) (bz143.toInt) (dd142.toInt) (y136.toInt))
          · exact ⟨(by show 0 ≤ z135.toInt; omega), (by show z135.toInt ≤ (f 0).toInt; omega), (by show (f 0).toInt ≤ 512; omega), (by show 0 ≤ l140.toInt; omega), (by show l140.toInt + (f 20).toInt + mg_p1 (((1 : Int), (0 : Int), (0 : Int), (0 : Int), []) :: (((40 : Int), z109.toInt, (0 : Int), (0 : Int), []) :: (((41 : Int), (f 4).toInt, (0 : Int), (0 : Int), []) :: (((24 : Int), on.toInt, (0 : Int), (0 : Int), []) :: gs)))) ≤ 4 * z135.toInt; omega), (by show (f 20).toInt ≤ z135.toInt; omega), (by show (f 15).toInt + mg_p2 (((1 : Int), (0 : Int), (0 : Int), (0 : Int), []) :: (((40 : Int), z109.toInt, (0 : Int), (0 : Int), []) :: (((41 : Int), (f 4).toInt, (0 : Int), (0 : Int), []) :: (((24 : Int), on.toInt, (0 : Int), (0 : Int), []) :: gs)))) ≤ z135.toInt; omega), (by show mg_p3 (((1 : Int), (0 : Int), (0 : Int), (0 : Int), []) :: (((40 : Int), z109.toInt, (0 : Int), (0 : Int), []) :: (((41 : Int), (f 4).toInt, (0 : Int), (0 : Int), []) :: (((24 : Int), on.toInt, (0 : Int), (0 : Int), []) :: gs)))) ≤ 20 * z135.toInt + 20; omega), (by show 0 ≤ (f 68).toInt; omega), (by show (f 68).toInt + 3 * (f 20).toInt + mg_p4 (((1 : Int), (0 : Int), (0 : Int), (0 : Int), []) :: (((40 : Int), z109.toInt, (0 : Int), (0 : Int), []) :: (((41 : Int), (f 4).toInt, (0 : Int), (0 : Int), []) :: (((24 : Int), on.toInt, (0 : Int), (0 : Int), []) :: gs)))) ≤ 60 * z135.toInt + 60; omega), (by show 0 ≤ (f 62).toInt; omega), (by show (f 62).toInt + 64 * mj_n (g'145 16) (f 15).toNatClampNeg 3 ≤ 64 * z135.toInt; rw [show g'145 16 = g'127 16 from h157_ 16 (by decide), show g'127 16 = g'10 16 from h131_ 16 (by decide), show g'10 16 = g 16 from h14_ 16 (by decide)]; omega), (by show 0 ≤ (f 44).toInt; omega), (by show (f 44).toInt ≤ z135.toInt; omega), (by show 0 ≤ (f 48).toInt; omega), (by show (f 48).toInt ≤ z135.toInt; omega), (by show 1 ≤ mm144.toInt; omega), (by show mm144.toInt ≤ z135.toInt + 1; omega), (by show 0 ≤ (f 19).toInt; omega), (by show (f 19).toInt ≤ 600; omega)⟩
          · show 100 * ((f 0).toInt - z135.toInt) + mg_p3 (((1 : Int), (0 : Int), (0 : Int), (0 : Int), []) :: (((40 : Int), z109.toInt, (0 : Int), (0 : Int), []) :: (((41 : Int), (f 4).toInt, (0 : Int), (0 : Int), []) :: (((24 : Int), on.toInt, (0 : Int), (0 : Int), []) :: gs)))) < 100 * ((f 0).toInt - (f 4).toInt) + (1 + mg_p3 gs); omega
        · subst hv163
          replace hS164 : MS S0 S134 (upd (upd (upd (upd (upd f 4 z109) 5 y110) 6 a161) 7 b162) 10 0) g'127 := hS164
          have hR165_ : RJ (upd (upd (upd (upd (upd f 4 z109) 5 y110) 6 a161) 7 b162) 10 0) g'127 [] bc [] 0 [] := hR165
          show am_E _ _ _ _ [some (.ref 39), some (.int r2), some (.int (f 4))] [] _ _
          refine am_e18 hi_187_230 ?_
          refine am_e35 hi_187_246 ?_
          show am_E _ _ _ _ [some (.ref 39), some (.int on), some (.int r2)] [] _ _
          refine am_e35 hi_182_57 ?_
          show am_E _ _ _ _ [some (.ref 39), some (.int 23), some (.int on), some (.int tw)] [] _ _
          refine am_e18 hi_181_93 ?_
          refine am_e35 hi_181_397 ?_
          show am_E _ _ _ _ [some (.ref 39), some (.int 23), some (.int on), some (.int tw), some (.int th)] [] _ _
          refine am_e35 hi_180_13 ?_
          have hRc := rj_clear0 hR165_
          refine ⟨_, _, [], _, rfl, hS164, Or.inr ⟨hRc, rfl, (by show 0 ≤ z109.toInt; omega), (by show z109.toInt ≤ (f 0).toInt; omega), (by show 0 ≤ (f 32).toInt; omega), (by show (f 32).toInt ≤ 63; omega), (by show 1 ≤ (f 53).toInt; omega), (by show (f 53).toInt ≤ 600; omega), (by show 0 ≤ (f 68).toInt; omega), (by show (f 68).toInt ≤ 60000; omega), (by show 0 ≤ (f 48).toInt; omega), (by show (f 48).toInt ≤ 8000; omega), (by show 0 ≤ (f 37).toInt; omega), (by show (f 37).toInt ≤ 128; omega), (by show 0 ≤ (f 62).toInt; omega), (by show (f 62).toInt ≤ 65000; omega), (by show 0 ≤ (f 19).toInt; omega), (by show (f 19).toInt ≤ 600; omega)⟩⟩
        · subst hv178
          have h180_ : z109.toInt ≤ z166.toInt := h180
          have h181_ : z166.toInt ≤ (f 0).toInt := h181
          have h182_ : dd174.toInt = (f 32).toInt + 1 := h182
          have h183_ : bz175.toInt = (f 37).toInt + 1 := h183
          have h184_ : mm176.toInt = (f 53).toInt + 1 := h184
          have h185_ : ∀ j, j ∉ [11, 12, 13, 14, 25, 26, 27, 28, 29, 30, 33, 34, 35, 36, 38, 39, 40, 41, 42, 43, 54, 55, 56, 58, 59, 60, 67] → g'177 j = g'127 j := h185
          replace hS179 : MS S0 S134 (upd (upd (upd (upd (upd (upd (upd (upd (upd (upd (upd (upd f 4 z166) 5 y167) 6 u168) 7 v_169) 8 a170) 9 b171) 10 0) 24 l172) 31 i_173) 32 dd174) 37 bz175) 53 mm176) g'177 := hS179
          have hR186_ : RJ (upd (upd (upd (upd (upd (upd (upd (upd (upd (upd (upd (upd f 4 z166) 5 y167) 6 u168) 7 v_169) 8 a170) 9 b171) 10 0) 24 l172) 31 i_173) 32 dd174) 37 bz175) 53 mm176) g'177 [] ([] :: bc) [] 0 [] := hR186
          show am_E _ _ _ _ [some (.ref 39), some (.int r2), some (.int (f 4))] [] _ _
          refine am_e18 hi_187_230 ?_
          refine am_e35 hi_187_246 ?_
          show am_E _ _ _ _ [some (.ref 39), some (.int on), some (.int r2)] [] _ _
          refine am_e35 hi_182_57 ?_
          show am_E _ _ _ _ [some (.ref 39), some (.int 23), some (.int on), some (.int tw)] [] _ _
          refine am_e18 hi_181_93 ?_
          refine am_e35 hi_181_397 ?_
          show am_E _ _ _ _ [some (.ref 39), some (.int 23), some (.int on), some (.int tw), some (.int th)] [] _ _
          refine am_e35 hi_180_13 ?_
          have hRc := rj_clear0 hR186_
          refine ⟨_, _, [], _, rfl, hS179, Or.inr ⟨hRc, rfl, (by show 0 ≤ z166.toInt; omega), (by show z166.toInt ≤ (f 0).toInt; omega), (by show 0 ≤ dd174.toInt; omega), (by show dd174.toInt ≤ 63; omega), (by show 1 ≤ mm176.toInt; omega), (by show mm176.toInt ≤ 600; omega), (by show 0 ≤ (f 68).toInt; omega), (by show (f 68).toInt ≤ 60000; omega), (by show 0 ≤ (f 48).toInt; omega), (by show (f 48).toInt ≤ 8000; omega), (by show 0 ≤ bz175.toInt; omega), (by show bz175.toInt ≤ 128; omega), (by show 0 ≤ (f 62).toInt; omega), (by show (f 62).toInt ≤ 65000; omega), (by show 0 ≤ (f 19).toInt; omega), (by show (f 19).toInt ≤ 600; omega)⟩⟩
      · subst hv120
        replace hS121 : MS S0 S108 (upd (upd (upd f 6 a118) 7 b119) 10 0) g'10 := hS121
        have hR187 := rj_clear0 hR15_
        have hR188 : RJ (upd (upd (upd f 6 a118) 7 b119) 10 0) g'10 [] bc [] 0 [] := hR187
        show am_E _ _ _ _ [some (.ref 39), some (.int r2), some (.int (f 4))] [.int 0] _ _
        refine am_e12f hi_187_209 (by decide) ?_
        refine am_e18 hi_187_212 ?_
        refine am_e35 hi_187_246 ?_
        show am_E _ _ _ _ [some (.ref 39), some (.int on), some (.int r2)] [] _ _
        refine am_e35 hi_182_57 ?_
        show am_E _ _ _ _ [some (.ref 39), some (.int 23), some (.int on), some (.int tw)] [] _ _
        refine am_e18 hi_181_93 ?_
        refine am_e35 hi_181_397 ?_
        show am_E _ _ _ _ [some (.ref 39), some (.int 23), some (.int on), some (.int tw), some (.int th)] [] _ _
        refine am_e35 hi_180_13 ?_
        have hRc := rj_clear0 hR188
        refine ⟨_, _, [], _, rfl, hS121, Or.inr ⟨hRc, rfl, (by show 0 ≤ (f 4).toInt; omega), (by show (f 4).toInt ≤ (f 0).toInt; omega), (by show 0 ≤ (f 32).toInt; omega), (by show (f 32).toInt ≤ 63; omega), (by show 1 ≤ (f 53).toInt; omega), (by show (f 53).toInt ≤ 600; omega), (by show 0 ≤ (f 68).toInt; omega), (by show (f 68).toInt ≤ 60000; omega), (by show 0 ≤ (f 48).toInt; omega), (by show (f 48).toInt ≤ 8000; omega), (by show 0 ≤ (f 37).toInt; omega), (by show (f 37).toInt ≤ 128; omega), (by show 0 ≤ (f 62).toInt; omega), (by show (f 62).toInt ≤ 65000; omega), (by show 0 ≤ (f 19).toInt; omega), (by show (f 19).toInt ≤ 600; omega)⟩⟩
    by_cases c189 : r2.toInt = 23
    · refine am_e19 (t := 80) hi_187_6 (am_swI (v := r2) (w := 23) (by decide) (by decide) c189) ?_
      refine am_e2 (v := 39) hi_187_80 rfl ?_
      refine am_e0 hi_187_81 ?_
      refine am_e0 hi_187_82 ?_
      refine am_e32w (as := [.ref 39, .int 1, .int 0]) (la := [some (.ref 39), some (.int 1), some (.int 0)]) (rest := []) hi_187_83 (am_hd0 (M := 187) (by decide) 83) (Nat.le_of_ble_eq_true rfl) (Nat.le_of_ble_eq_true rfl) (show 3 ≤ am_P0.2.2.1 188 from by decide +kernel) rfl (am_recv_ok hS20.fs) rfl rfl ?_
      refine am_e2 (v := 39) hi_188_0 rfl ?_
      refine am_e1 (v := 1) hi_188_1 rfl ?_
      refine am_e1 (v := 0) hi_188_2 rfl ?_
      refine am_e0 hi_188_3 ?_
      refine am_e0 hi_188_4 ?_
      refine am_e32n (as := [.ref 39, .int 1, .int 0, .int 0, .int 0]) (la := [some (.ref 39), some (.int 1), some (.int 0), some (.int 0), some (.int 0)]) (rest := []) hi_188_5 (am_hd0 (M := 188) (by decide) 5) (Nat.le_of_ble_eq_true rfl) (Nat.le_of_ble_eq_true rfl) (show 5 ≤ am_P0.2.2.1 189 from by decide +kernel) rfl (am_recv_ok hS20.fs) rfl rfl (ct_put (d := (d + 3)) hS20 hR15_  (by show (0 : Int) ≤ (f 32).toInt; omega) (by show (f 32).toInt ≤ (63 : Int); omega) (by show (f 53).toInt ≤ (4096 : Int); omega) (by show (0 : Int) ≤ (f 68).toInt; omega) (by show (f 68).toInt ≤ (65534 : Int); omega)) ?_
      rintro v190 S191 (⟨z192, r193, g'194, hv195, hS196, hR200, h197, h198, h199⟩)
      subst hv195
      have h197_ : z192.toInt = (f 68).toInt + 1 := h197
      have h198_ : r193.toInt = (f 68).toInt := h198
      have h199_ : ∀ j, j ∉ [60, 69, 70, 71, 72, 73] → g'194 j = g'10 j := h199
      have hR200_ : RJ (upd (upd f 10 z9) 68 z192) g'194 (((24 : Int), on.toInt, (0 : Int), (0 : Int), []) :: gs) bc [] 0 ((f 68).toNatClampNeg :: []) := hR200
      show am_E _ _ _ _ [some (.ref 39), some (.int 1), some (.int 0)] [.int r193] _ _
      refine am_e6i hi_188_8 ?_
      refine am_e2 (v := 39) hi_188_9 rfl ?_
      refine am_e0 hi_188_10 ?_
      refine am_e0 hi_188_11 ?_
      refine am_e0 hi_188_12 ?_
      refine am_e32n (as := [.ref 39, .int 0, .int 0, .int 0]) (la := [some (.ref 39), some (.int 0), some (.int 0), some (.int 0)]) (rest := []) hi_188_13 (am_hd0 (M := 188) (by decide) 13) (Nat.le_of_ble_eq_true rfl) (Nat.le_of_ble_eq_true rfl) (show 4 ≤ am_P0.2.2.1 190 from by decide +kernel) rfl (am_recv_ok hS196.fs) rfl rfl (ct_value (d := (d + 3)) hS196 hR200_ (fun h => absurd h (by decide)) (fun h => absurd h (by decide)) (by show (0 : Int) ≤ (f 15).toInt; omega) (by show (f 15).toInt ≤ (32767 : Int); omega)) ?_
      rintro v201 S202 (⟨z203, g'204, hv205, hS206, hR211, h207, h208, h209, h210⟩)
      subst hv205
      have h207_ : z203.toInt = (f 15).toInt + 1 := h207
      have h208_ : ∀ j, j ∉ [16, 17, 18] → g'204 j = g'194 j := h208
      have h209_ : mj_n (g'204 16) z203.toNatClampNeg 3 ≤ mj_n (g 16) (f 15).toNatClampNeg 3 + 1 := by rw [show g'194 16 = g'10 16 from h199_ 16 (by decide), show g'10 16 = g 16 from h14_ 16 (by decide)] at h209; exact h209
      have h210_ : (0 : Int) = 3 ∨ mj_n (g'204 16) z203.toNatClampNeg 3 ≤ mj_n (g 16) (f 15).toNatClampNeg 3 := by rw [show g'194 16 = g'10 16 from h199_ 16 (by decide), show g'10 16 = g 16 from h14_ 16 (by decide)] at h210; exact h210
      replace hS206 : MS S0 S202 (upd (upd (upd f 10 z9) 15 z203) 68 z192) g'204 := hS206
      have hR211_ : RJ (upd (upd (upd f 10 z9) 15 z203) 68 z192) g'204 (((24 : Int), on.toInt, (0 : Int), (0 : Int), []) :: gs) bc [] 0 ((f 68).toNatClampNeg :: []) := hR211
      show am_E _ _ _ _ [some (.ref 39), some (.int 1), some (.int 0)] [] _ _
      refine am_e2 (v := 39) hi_188_16 rfl ?_
      refine am_e7 hi_188_17 ?_
      refine mm_20 (v := .int (f 4)) hS206 hi_188_18 rfl ?_
      refine am_e0 hi_188_21 ?_
      obtain ⟨z212, hz212, tz212⟩ := am_addI (x := f 4) (y := 1) (m := (f 4).toInt) (n := (1 : Int)) rfl (by decide) (by omega) (by omega)
      refine am_e10 (z := z212) hi_188_22 hz212 ?_
      refine mm_21 (v := z212) hS206 hi_188_23 rfl (Nat.le_of_ble_eq_true rfl) ms_4 ?_
      intro S213 hS214
      replace hS214 : MS S0 S213 (upd (upd (upd (upd f 4 z212) 10 z9) 15 z203) 68 z192) g'204 := hS214
      have hR215 : RJ (upd (upd (upd (upd f 4 z212) 10 z9) 15 z203) 68 z192) g'204 (((24 : Int), on.toInt, (0 : Int), (0 : Int), []) :: gs) bc [] 0 ((f 68).toNatClampNeg :: []) := RJ.at hR211_ (by show (f 4).toInt ≤ z212.toInt; omega)
      refine am_e35 hi_188_26 ?_
      show am_E _ _ _ _ [some (.ref 39), some (.int r2), some (.int (f 4))] [] _ _
      refine am_e18 hi_187_86 ?_
      refine am_e35 hi_187_246 ?_
      show am_E _ _ _ _ [some (.ref 39), some (.int on), some (.int r2)] [] _ _
      refine am_e35 hi_182_57 ?_
      show am_E _ _ _ _ [some (.ref 39), some (.int 23), some (.int on), some (.int tw)] [] _ _
      refine am_e18 hi_181_93 ?_
      refine am_e35 hi_181_397 ?_
      show am_E _ _ _ _ [some (.ref 39), some (.int 23), some (.int on), some (.int tw), some (.int th)] [] _ _
      refine am_e35 hi_180_13 ?_
      have q1 : mg_p1 (((24 : Int), on.toInt, (0 : Int), (0 : Int), []) :: gs) = 0 + (mg_p1 gs) := rfl
      have q2 : mg_p2 (((24 : Int), on.toInt, (0 : Int), (0 : Int), []) :: gs) = 0 + (mg_p2 gs) := rfl
      have q3 : mg_p3 (((24 : Int), on.toInt, (0 : Int), (0 : Int), []) :: gs) = 1 + (mg_p3 gs) := rfl
      have q4 : mg_p4 (((24 : Int), on.toInt, (0 : Int), (0 : Int), []) :: gs) = 0 + (mg_p4 gs) := rfl
      refine ⟨_, _, _, bc, rfl, hS214, Or.inl ⟨⟨(RJ.fewer (pj' := []) hR215 (fun _ h => nomatch h)), ?_, ?_⟩, rfl, ?_⟩⟩
      · exact (⟨⟨(show mg_k 24 from by decide), (show (1 : Int) ≤ z203.toInt from by omega), (show 0 ≤ (f 20).toInt from by omega), (show 1 ≤ (f 37).toInt from by omega), (show 0 ≤ (f 32).toInt from by omega), (show (f 32).toInt ≤ (f 5).toInt from by omega), (show (f 5).toInt ≤ 48 from by omega), (show (f 37).toInt ≤ 2 * ((f 5).toInt) + 2 from by omega), (show 0 ≤ on.toInt from by omega)⟩, mg_cast (mg_good_ext _ _ _ _ _ _ (fun i _ => by show g'204 34 i = g 34 i; rw [show g'204 34 = g'194 34 from h208_ 34 (by decide), show g'194 34 = g'10 34 from h199_ 34 (by decide), show g'10 34 = g 34 from h14_ 34 (by decide)]) (fun i _ => by show g'204 38 i = g 38 i; rw [show g'204 38 = g'194 38 from h208_ 38 (by decide), show g'194 38 = g'10 38 from h199_ 38 (by decide), show g'10 38 = g 38 from h14_ 38 (by decide)]) (fun i _ => by show g'204 23 i = g 23 i; rw [show g'204 23 = g'194 23 from h208_ 23 (by decide), show g'194 23 = g'10 23 from h199_ 23 (by decide), show g'10 23 = g 23 from h14_ 23 (by decide)]) hrest) (by show (f 15).toInt + 1 = z203.toInt + 0; omega) (by show (f 20).toInt = (f 20).toInt; omega) (by show (f 37).toInt + 0 = (f 37).toInt + 0; omega) (by show (f 32).toInt + 0 = (f 32).toInt + 0; omega) (by show (f 5).toInt + 0 = (f 5).toInt + 0; omega)⟩ : mg_good (g'204 34) (g'204 38) (g'204 23) (((24 : Int), on.toInt, (0 : Int), (0 : Int), []) :: gs) (z203.toInt) ((f 20).toInt) ((f 37).toInt) ((f 32).toInt) ((f 5).toInt))
      · exact ⟨(by show 0 ≤ z212.toInt; omega), (by show z212.toInt ≤ (f 0).toInt; omega), (by show (f 0).toInt ≤ 512; omega), (by show 0 ≤ (f 24).toInt; omega), (by show (f 24).toInt + (f 20).toInt + mg_p1 (((24 : Int), on.toInt, (0 : Int), (0 : Int), []) :: gs) ≤ 4 * z212.toInt; omega), (by show (f 20).toInt ≤ z212.toInt; omega), (by show z203.toInt + mg_p2 (((24 : Int), on.toInt, (0 : Int), (0 : Int), []) :: gs) ≤ z212.toInt; omega), (by show mg_p3 (((24 : Int), on.toInt, (0 : Int), (0 : Int), []) :: gs) ≤ 20 * z212.toInt + 20; omega), (by show 0 ≤ z192.toInt; omega), (by show z192.toInt + 3 * (f 20).toInt + mg_p4 (((24 : Int), on.toInt, (0 : Int), (0 : Int), []) :: gs) ≤ 60 * z212.toInt + 60; omega), (by show 0 ≤ (f 62).toInt; omega), (by show (f 62).toInt + 64 * mj_n (g'204 16) z203.toNatClampNeg 3 ≤ 64 * z212.toInt; omega), (by show 0 ≤ (f 44).toInt; omega), (by show (f 44).toInt ≤ z212.toInt; omega), (by show 0 ≤ (f 48).toInt; omega), (by show (f 48).toInt ≤ z212.toInt; omega), (by show 1 ≤ (f 53).toInt; omega), (by show (f 53).toInt ≤ z212.toInt + 1; omega), (by show 0 ≤ (f 19).toInt; omega), (by show (f 19).toInt ≤ 600; omega)⟩
      · show 100 * ((f 0).toInt - z212.toInt) + mg_p3 (((24 : Int), on.toInt, (0 : Int), (0 : Int), []) :: gs) < 100 * ((f 0).toInt - (f 4).toInt) + (1 + mg_p3 gs); omega
    by_cases c216 : r2.toInt = 29
    · refine am_e19 (t := 98) hi_187_6 (am_swI (v := r2) (w := 29) (by decide) (by decide) c216) ?_
      refine am_e2 (v := 39) hi_187_98 rfl ?_
      refine am_e0 hi_187_99 ?_
      refine am_e0 hi_187_100 ?_
      refine am_e32w (as := [.ref 39, .int 3, .int 0]) (la := [some (.ref 39), some (.int 3), some (.int 0)]) (rest := []) hi_187_101 (am_hd0 (M := 187) (by decide) 101) (Nat.le_of_ble_eq_true rfl) (Nat.le_of_ble_eq_true rfl) (show 3 ≤ am_P0.2.2.1 188 from by decide +kernel) rfl (am_recv_ok hS20.fs) rfl rfl ?_
      refine am_e2 (v := 39) hi_188_0 rfl ?_
      refine am_e1 (v := 3) hi_188_1 rfl ?_
      refine am_e1 (v := 0) hi_188_2 rfl ?_
      refine am_e0 hi_188_3 ?_
      refine am_e0 hi_188_4 ?_
      refine am_e32n (as := [.ref 39, .int 3, .int 0, .int 0, .int 0]) (la := [some (.ref 39), some (.int 3), some (.int 0), some (.int 0), some (.int 0)]) (rest := []) hi_188_5 (am_hd0 (M := 188) (by decide) 5) (Nat.le_of_ble_eq_true rfl) (Nat.le_of_ble_eq_true rfl) (show 5 ≤ am_P0.2.2.1 189 from by decide +kernel) rfl (am_recv_ok hS20.fs) rfl rfl (ct_put (d := (d + 3)) hS20 hR15_  (by show (0 : Int) ≤ (f 32).toInt; omega) (by show (f 32).toInt ≤ (63 : Int); omega) (by show (f 53).toInt ≤ (4096 : Int); omega) (by show (0 : Int) ≤ (f 68).toInt; omega) (by show (f 68).toInt ≤ (65534 : Int); omega)) ?_
      rintro v217 S218 (⟨z219, r220, g'221, hv222, hS223, hR227, h224, h225, h226⟩)
      subst hv222
      have h224_ : z219.toInt = (f 68).toInt + 1 := h224
      have h225_ : r220.toInt = (f 68).toInt := h225
      have h226_ : ∀ j, j ∉ [60, 69, 70, 71, 72, 73] → g'221 j = g'10 j := h226
      have hR227_ : RJ (upd (upd f 10 z9) 68 z219) g'221 (((24 : Int), on.toInt, (0 : Int), (0 : Int), []) :: gs) bc [] 0 ((f 68).toNatClampNeg :: []) := hR227
      show am_E _ _ _ _ [some (.ref 39), some (.int 3), some (.int 0)] [.int r220] _ _
      refine am_e6i hi_188_8 ?_
      refine am_e2 (v := 39) hi_188_9 rfl ?_
      refine am_e0 hi_188_10 ?_
      refine am_e0 hi_188_11 ?_
      refine am_e0 hi_188_12 ?_
      refine am_e32n (as := [.ref 39, .int 0, .int 0, .int 0]) (la := [some (.ref 39), some (.int 0), some (.int 0), some (.int 0)]) (rest := []) hi_188_13 (am_hd0 (M := 188) (by decide) 13) (Nat.le_of_ble_eq_true rfl) (Nat.le_of_ble_eq_true rfl) (show 4 ≤ am_P0.2.2.1 190 from by decide +kernel) rfl (am_recv_ok hS223.fs) rfl rfl (ct_value (d := (d + 3)) hS223 hR227_ (fun h => absurd h (by decide)) (fun h => absurd h (by decide)) (by show (0 : Int) ≤ (f 15).toInt; omega) (by show (f 15).toInt ≤ (32767 : Int); omega)) ?_
      rintro v228 S229 (⟨z230, g'231, hv232, hS233, hR238, h234, h235, h236, h237⟩)
      subst hv232
      have h234_ : z230.toInt = (f 15).toInt + 1 := h234
      have h235_ : ∀ j, j ∉ [16, 17, 18] → g'231 j = g'221 j := h235
      have h236_ : mj_n (g'231 16) z230.toNatClampNeg 3 ≤ mj_n (g 16) (f 15).toNatClampNeg 3 + 1 := by rw [show g'221 16 = g'10 16 from h226_ 16 (by decide), show g'10 16 = g 16 from h14_ 16 (by decide)] at h236; exact h236
      have h237_ : (0 : Int) = 3 ∨ mj_n (g'231 16) z230.toNatClampNeg 3 ≤ mj_n (g 16) (f 15).toNatClampNeg 3 := by rw [show g'221 16 = g'10 16 from h226_ 16 (by decide), show g'10 16 = g 16 from h14_ 16 (by decide)] at h237; exact h237
      replace hS233 : MS S0 S229 (upd (upd (upd f 10 z9) 15 z230) 68 z219) g'231 := hS233
      have hR238_ : RJ (upd (upd (upd f 10 z9) 15 z230) 68 z219) g'231 (((24 : Int), on.toInt, (0 : Int), (0 : Int), []) :: gs) bc [] 0 ((f 68).toNatClampNeg :: []) := hR238
      show am_E _ _ _ _ [some (.ref 39), some (.int 3), some (.int 0)] [] _ _
      refine am_e2 (v := 39) hi_188_16 rfl ?_
      refine am_e7 hi_188_17 ?_
      refine mm_20 (v := .int (f 4)) hS233 hi_188_18 rfl ?_
      refine am_e0 hi_188_21 ?_
      obtain ⟨z239, hz239, tz239⟩ := am_addI (x := f 4) (y := 1) (m := (f 4).toInt) (n := (1 : Int)) rfl (by decide) (by omega) (by omega)
      refine am_e10 (z := z239) hi_188_22 hz239 ?_
      refine mm_21 (v := z239) hS233 hi_188_23 rfl (Nat.le_of_ble_eq_true rfl) ms_4 ?_
      intro S240 hS241
      replace hS241 : MS S0 S240 (upd (upd (upd (upd f 4 z239) 10 z9) 15 z230) 68 z219) g'231 := hS241
      have hR242 : RJ (upd (upd (upd (upd f 4 z239) 10 z9) 15 z230) 68 z219) g'231 (((24 : Int), on.toInt, (0 : Int), (0 : Int), []) :: gs) bc [] 0 ((f 68).toNatClampNeg :: []) := RJ.at hR238_ (by show (f 4).toInt ≤ z239.toInt; omega)
      refine am_e35 hi_188_26 ?_
      show am_E _ _ _ _ [some (.ref 39), some (.int r2), some (.int (f 4))] [] _ _
      refine am_e18 hi_187_104 ?_
      refine am_e35 hi_187_246 ?_
      show am_E _ _ _ _ [some (.ref 39), some (.int on), some (.int r2)] [] _ _
      refine am_e35 hi_182_57 ?_
      show am_E _ _ _ _ [some (.ref 39), some (.int 23), some (.int on), some (.int tw)] [] _ _
      refine am_e18 hi_181_93 ?_
      refine am_e35 hi_181_397 ?_
      show am_E _ _ _ _ [some (.ref 39), some (.int 23), some (.int on), some (.int tw), some (.int th)] [] _ _
      refine am_e35 hi_180_13 ?_
      have q1 : mg_p1 (((24 : Int), on.toInt, (0 : Int), (0 : Int), []) :: gs) = 0 + (mg_p1 gs) := rfl
      have q2 : mg_p2 (((24 : Int), on.toInt, (0 : Int), (0 : Int), []) :: gs) = 0 + (mg_p2 gs) := rfl
      have q3 : mg_p3 (((24 : Int), on.toInt, (0 : Int), (0 : Int), []) :: gs) = 1 + (mg_p3 gs) := rfl
      have q4 : mg_p4 (((24 : Int), on.toInt, (0 : Int), (0 : Int), []) :: gs) = 0 + (mg_p4 gs) := rfl
      refine ⟨_, _, _, bc, rfl, hS241, Or.inl ⟨⟨(RJ.fewer (pj' := []) hR242 (fun _ h => nomatch h)), ?_, ?_⟩, rfl, ?_⟩⟩
      · exact (⟨⟨(show mg_k 24 from by decide), (show (1 : Int) ≤ z230.toInt from by omega), (show 0 ≤ (f 20).toInt from by omega), (show 1 ≤ (f 37).toInt from by omega), (show 0 ≤ (f 32).toInt from by omega), (show (f 32).toInt ≤ (f 5).toInt from by omega), (show (f 5).toInt ≤ 48 from by omega), (show (f 37).toInt ≤ 2 * ((f 5).toInt) + 2 from by omega), (show 0 ≤ on.toInt from by omega)⟩, mg_cast (mg_good_ext _ _ _ _ _ _ (fun i _ => by show g'231 34 i = g 34 i; rw [show g'231 34 = g'221 34 from h235_ 34 (by decide), show g'221 34 = g'10 34 from h226_ 34 (by decide), show g'10 34 = g 34 from h14_ 34 (by decide)]) (fun i _ => by show g'231 38 i = g 38 i; rw [show g'231 38 = g'221 38 from h235_ 38 (by decide), show g'221 38 = g'10 38 from h226_ 38 (by decide), show g'10 38 = g 38 from h14_ 38 (by decide)]) (fun i _ => by show g'231 23 i = g 23 i; rw [show g'231 23 = g'221 23 from h235_ 23 (by decide), show g'221 23 = g'10 23 from h226_ 23 (by decide), show g'10 23 = g 23 from h14_ 23 (by decide)]) hrest) (by show (f 15).toInt + 1 = z230.toInt + 0; omega) (by show (f 20).toInt = (f 20).toInt; omega) (by show (f 37).toInt + 0 = (f 37).toInt + 0; omega) (by show (f 32).toInt + 0 = (f 32).toInt + 0; omega) (by show (f 5).toInt + 0 = (f 5).toInt + 0; omega)⟩ : mg_good (g'231 34) (g'231 38) (g'231 23) (((24 : Int), on.toInt, (0 : Int), (0 : Int), []) :: gs) (z230.toInt) ((f 20).toInt) ((f 37).toInt) ((f 32).toInt) ((f 5).toInt))
      · exact ⟨(by show 0 ≤ z239.toInt; omega), (by show z239.toInt ≤ (f 0).toInt; omega), (by show (f 0).toInt ≤ 512; omega), (by show 0 ≤ (f 24).toInt; omega), (by show (f 24).toInt + (f 20).toInt + mg_p1 (((24 : Int), on.toInt, (0 : Int), (0 : Int), []) :: gs) ≤ 4 * z239.toInt; omega), (by show (f 20).toInt ≤ z239.toInt; omega), (by show z230.toInt + mg_p2 (((24 : Int), on.toInt, (0 : Int), (0 : Int), []) :: gs) ≤ z239.toInt; omega), (by show mg_p3 (((24 : Int), on.toInt, (0 : Int), (0 : Int), []) :: gs) ≤ 20 * z239.toInt + 20; omega), (by show 0 ≤ z219.toInt; omega), (by show z219.toInt + 3 * (f 20).toInt + mg_p4 (((24 : Int), on.toInt, (0 : Int), (0 : Int), []) :: gs) ≤ 60 * z239.toInt + 60; omega), (by show 0 ≤ (f 62).toInt; omega), (by show (f 62).toInt + 64 * mj_n (g'231 16) z230.toNatClampNeg 3 ≤ 64 * z239.toInt; omega), (by show 0 ≤ (f 44).toInt; omega), (by show (f 44).toInt ≤ z239.toInt; omega), (by show 0 ≤ (f 48).toInt; omega), (by show (f 48).toInt ≤ z239.toInt; omega), (by show 1 ≤ (f 53).toInt; omega), (by show (f 53).toInt ≤ z239.toInt + 1; omega), (by show 0 ≤ (f 19).toInt; omega), (by show (f 19).toInt ≤ 600; omega)⟩
      · show 100 * ((f 0).toInt - z239.toInt) + mg_p3 (((24 : Int), on.toInt, (0 : Int), (0 : Int), []) :: gs) < 100 * ((f 0).toInt - (f 4).toInt) + (1 + mg_p3 gs); omega
    by_cases c243 : r2.toInt = 62
    · refine am_e19 (t := 196) hi_187_6 (am_swI (v := r2) (w := 62) (by decide) (by decide) c243) ?_
      refine am_e2 (v := 39) hi_187_196 rfl ?_
      refine am_e32w (as := [.ref 39]) (la := [some (.ref 39), none]) (rest := []) hi_187_197 (am_hd0 (M := 187) (by decide) 197) (Nat.le_of_ble_eq_true rfl) (Nat.le_of_ble_eq_true rfl) (show 1 ≤ am_P0.2.2.1 192 from by decide +kernel) rfl (am_recv_ok hS20.fs) rfl rfl ?_
      refine am_e2 (v := 39) hi_192_0 rfl ?_
      refine mm_20 (v := .int (f 4)) hS20 hi_192_1 rfl ?_
      refine am_e3 (ls' := [some (.ref 39), some (.int (f 4))]) hi_192_4 (Nat.le_of_ble_eq_true rfl) rfl ?_
      refine am_e2 (v := 39) hi_192_5 rfl ?_
      refine am_e0 hi_192_6 ?_
      refine am_e32n (as := [.ref 39, .int 62]) (la := [some (.ref 39), some (.int 62)]) (rest := []) hi_192_8 (am_hd0 (M := 192) (by decide) 8) (Nat.le_of_ble_eq_true rfl) (Nat.le_of_ble_eq_true rfl) (show 2 ≤ am_P0.2.2.1 193 from by decide +kernel) rfl (am_recv_ok hS20.fs) rfl rfl (ct_enter (d := (d + 1)) hS20   (by show (0 : Int) ≤ (f 4).toInt; omega) (by show (f 0).toInt ≤ (16384 : Int); omega) (by show (0 : Int) ≤ (62 : Int); omega) (by show (0 : Int) ≤ (f 5).toInt; omega) (by show (f 5).toInt ≤ (48 : Int); omega)) ?_
      rintro v244 S245 (⟨z246, y247, hv248, hS249, h250, h251, h252, h253⟩ | ⟨a255, b256, hv257, hS258⟩)
      · subst hv248
        have h250_ : z246.toInt = (f 4).toInt + 1 := h250
        have h251_ : (f 4).toInt < (f 0).toInt := h251
        have h252_ : y247.toInt = (f 5).toInt + 1 := h252
        have h253_ : y247.toInt ≤ (48 : Int) := h253
        replace hS249 : MS S0 S245 (upd (upd (upd f 4 z246) 5 y247) 10 z9) g'10 := hS249
        have hR260 : RJ (upd (upd (upd f 4 z246) 5 y247) 10 z9) g'10 (((24 : Int), on.toInt, (0 : Int), (0 : Int), []) :: gs) bc [] 0 [] := RJ.at hR15_ (by show (f 4).toInt ≤ z246.toInt; omega)
        show am_E _ _ _ _ [some (.ref 39), some (.int (f 4))] [.int 1] _ _
        refine am_e12t hi_192_11 (by decide) ?_
        refine am_e2 (v := 39) hi_192_15 rfl ?_
        refine am_e0 hi_192_16 ?_
        refine am_e0 hi_192_18 ?_
        refine am_e0 hi_192_19 ?_
        refine am_e1 (v := f 4) hi_192_20 rfl ?_
        refine am_e32n (as := [.ref 39, .int 20, .int 0, .int 0, .int (f 4)]) (la := [some (.ref 39), some (.int 20), some (.int 0), some (.int 0), some (.int (f 4))]) (rest := []) hi_192_21 (am_hd0 (M := 192) (by decide) 21) (Nat.le_of_ble_eq_true rfl) (Nat.le_of_ble_eq_true rfl) (show 5 ≤ am_P0.2.2.1 189 from by decide +kernel) rfl (am_recv_ok hS249.fs) rfl rfl (ct_put (d := (d + 3)) hS249 hR260  (by show (0 : Int) ≤ (f 32).toInt; omega) (by show (f 32).toInt ≤ (63 : Int); omega) (by show (f 53).toInt ≤ (4096 : Int); omega) (by show (0 : Int) ≤ (f 68).toInt; omega) (by show (f 68).toInt ≤ (65534 : Int); omega)) ?_
        rintro v261 S262 (⟨z263, r264, g'265, hv266, hS267, hR271, h268, h269, h270⟩)
        subst hv266
        have h268_ : z263.toInt = (f 68).toInt + 1 := h268
        have h269_ : r264.toInt = (f 68).toInt := h269
        have h270_ : ∀ j, j ∉ [60, 69, 70, 71, 72, 73] → g'265 j = g'10 j := h270
        have hR271_ : RJ (upd (upd (upd (upd f 4 z246) 5 y247) 10 z9) 68 z263) g'265 (((24 : Int), on.toInt, (0 : Int), (0 : Int), []) :: gs) bc [] 0 ((f 68).toNatClampNeg :: []) := hR271
        show am_E _ _ _ _ [some (.ref 39), some (.int (f 4))] [.int r264] _ _
        refine am_e6i hi_192_24 ?_
        refine am_e2 (v := 39) hi_192_25 rfl ?_
        refine am_e0 hi_192_26 ?_
        refine am_e0 hi_192_27 ?_
        refine am_e0 hi_192_28 ?_
        refine am_e32n (as := [.ref 39, .int 0, .int 0, .int 0]) (la := [some (.ref 39), some (.int 0), some (.int 0), some (.int 0)]) (rest := []) hi_192_29 (am_hd0 (M := 192) (by decide) 29) (Nat.le_of_ble_eq_true rfl) (Nat.le_of_ble_eq_true rfl) (show 4 ≤ am_P0.2.2.1 190 from by decide +kernel) rfl (am_recv_ok hS267.fs) rfl rfl (ct_value (d := (d + 3)) hS267 hR271_ (fun h => absurd h (by decide)) (fun h => absurd h (by decide)) (by show (0 : Int) ≤ (f 15).toInt; omega) (by show (f 15).toInt ≤ (32767 : Int); omega)) ?_
        rintro v272 S273 (⟨z274, g'275, hv276, hS277, hR282, h278, h279, h280, h281⟩)
        subst hv276
        have h278_ : z274.toInt = (f 15).toInt + 1 := h278
        have h279_ : ∀ j, j ∉ [16, 17, 18] → g'275 j = g'265 j := h279
        have h280_ : mj_n (g'275 16) z274.toNatClampNeg 3 ≤ mj_n (g 16) (f 15).toNatClampNeg 3 + 1 := by rw [show g'265 16 = g'10 16 from h270_ 16 (by decide), show g'10 16 = g 16 from h14_ 16 (by decide)] at h280; exact h280
        have h281_ : (0 : Int) = 3 ∨ mj_n (g'275 16) z274.toNatClampNeg 3 ≤ mj_n (g 16) (f 15).toNatClampNeg 3 := by rw [show g'265 16 = g'10 16 from h270_ 16 (by decide), show g'10 16 = g 16 from h14_ 16 (by decide)] at h281; exact h281
        replace hS277 : MS S0 S273 (upd (upd (upd (upd (upd f 4 z246) 5 y247) 10 z9) 15 z274) 68 z263) g'275 := hS277
        have hR282_ : RJ (upd (upd (upd (upd (upd f 4 z246) 5 y247) 10 z9) 15 z274) 68 z263) g'275 (((24 : Int), on.toInt, (0 : Int), (0 : Int), []) :: gs) bc [] 0 ((f 68).toNatClampNeg :: []) := hR282
        show am_E _ _ _ _ [some (.ref 39), some (.int (f 4))] [] _ _
        refine am_e2 (v := 39) hi_192_32 rfl ?_
        refine am_e0 hi_192_33 ?_
        refine am_e0 hi_192_35 ?_
        refine am_e0 hi_192_36 ?_
        refine am_e0 hi_192_37 ?_
        refine am_e32n (as := [.ref 39, .int 35, .int 0, .int 0, .int 0]) (la := [some (.ref 39), some (.int 35), some (.int 0), some (.int 0), some (.int 0)]) (rest := []) hi_192_38 (am_hd0 (M := 192) (by decide) 38) (Nat.le_of_ble_eq_true rfl) (Nat.le_of_ble_eq_true rfl) (show 5 ≤ am_P0.2.2.1 179 from by decide +kernel) rfl (am_recv_ok hS277.fs) rfl rfl (ct_pile (d := (d + 3)) hS277 hR282_ (mj_e_plain (by decide)) (by show (0 : Int) ≤ z9.toInt; omega) (by show z9.toInt ≤ (65535 : Int); omega)) ?_
        rintro v283 S284 (⟨z285, g'286, hv287, hS288, hR291, h289, h290⟩)
        subst hv287
        have h289_ : z285.toInt = z9.toInt + 1 := h289
        have h290_ : ∀ j, j ∉ [11, 12, 13, 14] → g'286 j = g'275 j := h290
        replace hS288 : MS S0 S284 (upd (upd (upd (upd (upd f 4 z246) 5 y247) 10 z285) 15 z274) 68 z263) g'286 := hS288
        have hR291_ : RJ (upd (upd (upd (upd (upd f 4 z246) 5 y247) 10 z285) 15 z274) 68 z263) g'286 (((35 : Int), (0 : Int), (0 : Int), (0 : Int), []) :: (((24 : Int), on.toInt, (0 : Int), (0 : Int), []) :: gs)) bc [] 0 ((f 68).toNatClampNeg :: []) := hR291
        show am_E _ _ _ _ [some (.ref 39), some (.int (f 4))] [] _ _
        refine am_e35 hi_192_41 ?_
        show am_E _ _ _ _ [some (.ref 39), some (.int r2), some (.int (f 4))] [] _ _
        refine am_e18 hi_187_200 ?_
        refine am_e35 hi_187_246 ?_
        show am_E _ _ _ _ [some (.ref 39), some (.int on), some (.int r2)] [] _ _
        refine am_e35 hi_182_57 ?_
        show am_E _ _ _ _ [some (.ref 39), some (.int 23), some (.int on), some (.int tw)] [] _ _
        refine am_e18 hi_181_93 ?_
        refine am_e35 hi_181_397 ?_
        show am_E _ _ _ _ [some (.ref 39), some (.int 23), some (.int on), some (.int tw), some (.int th)] [] _ _
        refine am_e35 hi_180_13 ?_
        have q1 : mg_p1 (((35 : Int), (0 : Int), (0 : Int), (0 : Int), []) :: (((24 : Int), on.toInt, (0 : Int), (0 : Int), []) :: gs)) = 0 + (0 + (mg_p1 gs)) := rfl
        have q2 : mg_p2 (((35 : Int), (0 : Int), (0 : Int), (0 : Int), []) :: (((24 : Int), on.toInt, (0 : Int), (0 : Int), []) :: gs)) = 0 + (0 + (mg_p2 gs)) := rfl
        have q3 : mg_p3 (((35 : Int), (0 : Int), (0 : Int), (0 : Int), []) :: (((24 : Int), on.toInt, (0 : Int), (0 : Int), []) :: gs)) = 3 + (1 + (mg_p3 gs)) := rfl
        have q4 : mg_p4 (((35 : Int), (0 : Int), (0 : Int), (0 : Int), []) :: (((24 : Int), on.toInt, (0 : Int), (0 : Int), []) :: gs)) = 0 + (0 + (mg_p4 gs)) := rfl
        refine ⟨_, _, _, bc, rfl, hS288, Or.inl ⟨⟨(RJ.fewer (pj' := []) hR291_ (fun _ h => nomatch h)), ?_, ?_⟩, rfl, ?_⟩⟩
        · exact (⟨⟨(show mg_k 35 from by decide), (show (0 : Int) ≤ z274.toInt from by omega), (show 0 ≤ (f 20).toInt from by omega), (show 1 ≤ (f 37).toInt from by omega), (show 0 ≤ (f 32).toInt from by omega), (show (f 32).toInt ≤ y247.toInt from by omega), (show y247.toInt ≤ 48 from by omega), (show (f 37).toInt ≤ 2 * (y247.toInt) + 2 from by omega), trivial⟩, ⟨⟨(show mg_k 24 from by decide), (show (1 : Int) ≤ z274.toInt + 0 from by omega), (show 0 ≤ (f 20).toInt from by omega), (show 1 ≤ (f 37).toInt + 0 from by omega), (show 0 ≤ (f 32).toInt + 0 from by omega), (show (f 32).toInt + 0 ≤ y247.toInt + -1 from by omega), (show y247.toInt + -1 ≤ 48 from by omega), (show (f 37).toInt + 0 ≤ 2 * (y247.toInt + -1) + 2 from by omega), (show 0 ≤ on.toInt from by omega)⟩, mg_cast (mg_good_ext _ _ _ _ _ _ (fun i _ => by show g'286 34 i = g 34 i; rw [show g'286 34 = g'275 34 from h290_ 34 (by decide), show g'275 34 = g'265 34 from h279_ 34 (by decide), show g'265 34 = g'10 34 from h270_ 34 (by decide), show g'10 34 = g 34 from h14_ 34 (by decide)]) (fun i _ => by show g'286 38 i = g 38 i; rw [show g'286 38 = g'275 38 from h290_ 38 (by decide), show g'275 38 = g'265 38 from h279_ 38 (by decide), show g'265 38 = g'10 38 from h270_ 38 (by decide), show g'10 38 = g 38 from h14_ 38 (by decide)]) (fun i _ => by show g'286 23 i = g 23 i; rw [show g'286 23 = g'275 23 from h290_ 23 (by decide), show g'275 23 = g'265 23 from h279_ 23 (by decide), show g'265 23 = g'10 23 from h270_ 23 (by decide), show g'10 23 = g 23 from h14_ 23 (by decide)]) hrest) (by show (f 15).toInt + 1 = z274.toInt + 0 + 0; omega) (by show (f 20).toInt = (f 20).toInt; omega) (by show (f 37).toInt + 0 = (f 37).toInt + 0 + 0; omega) (by show (f 32).toInt + 0 = (f 32).toInt + 0 + 0; omega) (by show (f 5).toInt + 0 = y247.toInt + -1 + 0; omega)⟩⟩ : mg_good (g'286 34) (g'286 38) (g'286 23) (((35 : Int), (0 : Int), (0 : Int), (0 : Int), []) :: (((24 : Int), on.toInt, (0 : Int), (0 : Int), []) :: gs)) (z274.toInt) ((f 20).toInt) ((f 37).toInt) ((f 32).toInt) (y247.toInt))
        · exact ⟨(by show 0 ≤ z246.toInt; omega), (by show z246.toInt ≤ (f 0).toInt; omega), (by show (f 0).toInt ≤ 512; omega), (by show 0 ≤ (f 24).toInt; omega), (by show (f 24).toInt + (f 20).toInt + mg_p1 (((35 : Int), (0 : Int), (0 : Int), (0 : Int), []) :: (((24 : Int), on.toInt, (0 : Int), (0 : Int), []) :: gs)) ≤ 4 * z246.toInt; omega), (by show (f 20).toInt ≤ z246.toInt; omega), (by show z274.toInt + mg_p2 (((35 : Int), (0 : Int), (0 : Int), (0 : Int), []) :: (((24 : Int), on.toInt, (0 : Int), (0 : Int), []) :: gs)) ≤ z246.toInt; omega), (by show mg_p3 (((35 : Int), (0 : Int), (0 : Int), (0 : Int), []) :: (((24 : Int), on.toInt, (0 : Int), (0 : Int), []) :: gs)) ≤ 20 * z246.toInt + 20; omega), (by show 0 ≤ z263.toInt; omega), (by show z263.toInt + 3 * (f 20).toInt + mg_p4 (((35 : Int), (0 : Int), (0 : Int), (0 : Int), []) :: (((24 : Int), on.toInt, (0 : Int), (0 : Int), []) :: gs)) ≤ 60 * z246.toInt + 60; omega), (by show 0 ≤ (f 62).toInt; omega), (by show (f 62).toInt + 64 * mj_n (g'286 16) z274.toNatClampNeg 3 ≤ 64 * z246.toInt; rw [show g'286 16 = g'275 16 from h290_ 16 (by decide)]; omega), (by show 0 ≤ (f 44).toInt; omega), (by show (f 44).toInt ≤ z246.toInt; omega), (by show 0 ≤ (f 48).toInt; omega), (by show (f 48).toInt ≤ z246.toInt; omega), (by show 1 ≤ (f 53).toInt; omega), (by show (f 53).toInt ≤ z246.toInt + 1; omega), (by show 0 ≤ (f 19).toInt; omega), (by show (f 19).toInt ≤ 600; omega)⟩
        · show 100 * ((f 0).toInt - z246.toInt) + mg_p3 (((35 : Int), (0 : Int), (0 : Int), (0 : Int), []) :: (((24 : Int), on.toInt, (0 : Int), (0 : Int), []) :: gs)) < 100 * ((f 0).toInt - (f 4).toInt) + (1 + mg_p3 gs); omega
      · subst hv257
        replace hS258 : MS S0 S245 (upd (upd (upd f 6 a255) 7 b256) 10 0) g'10 := hS258
        have hR292 := rj_clear0 hR15_
        have hR293 : RJ (upd (upd (upd f 6 a255) 7 b256) 10 0) g'10 [] bc [] 0 [] := hR292
        show am_E _ _ _ _ [some (.ref 39), some (.int (f 4))] [.int 0] _ _
        refine am_e12f hi_192_11 (by decide) ?_
        refine am_e35 hi_192_14 ?_
        show am_E _ _ _ _ [some (.ref 39), some (.int r2), some (.int (f 4))] [] _ _
        refine am_e18 hi_187_200 ?_
        refine am_e35 hi_187_246 ?_
        show am_E _ _ _ _ [some (.ref 39), some (.int on), some (.int r2)] [] _ _
        refine am_e35 hi_182_57 ?_
        show am_E _ _ _ _ [some (.ref 39), some (.int 23), some (.int on), some (.int tw)] [] _ _
        refine am_e18 hi_181_93 ?_
        refine am_e35 hi_181_397 ?_
        show am_E _ _ _ _ [some (.ref 39), some (.int 23), some (.int on), some (.int tw), some (.int th)] [] _ _
        refine am_e35 hi_180_13 ?_
        have hRc := rj_clear0 hR293
        refine ⟨_, _, [], _, rfl, hS258, Or.inr ⟨hRc, rfl, (by show 0 ≤ (f 4).toInt; omega), (by show (f 4).toInt ≤ (f 0).toInt; omega), (by show 0 ≤ (f 32).toInt; omega), (by show (f 32).toInt ≤ 63; omega), (by show 1 ≤ (f 53).toInt; omega), (by show (f 53).toInt ≤ 600; omega), (by show 0 ≤ (f 68).toInt; omega), (by show (f 68).toInt ≤ 60000; omega), (by show 0 ≤ (f 48).toInt; omega), (by show (f 48).toInt ≤ 8000; omega), (by show 0 ≤ (f 37).toInt; omega), (by show (f 37).toInt ≤ 128; omega), (by show 0 ≤ (f 62).toInt; omega), (by show (f 62).toInt ≤ 65000; omega), (by show 0 ≤ (f 19).toInt; omega), (by show (f 19).toInt ≤ 600; omega)⟩⟩
    by_cases c294 : r2.toInt = 72
    · refine am_e19 (t := 141) hi_187_6 (am_swI (v := r2) (w := 72) (by decide) (by decide) c294) ?_
      refine am_e2 (v := 39) hi_187_141 rfl ?_
      refine mm_20 (v := .ref 77) hS20 hi_187_142 rfl ?_
      refine am_e2 (v := 39) hi_187_145 rfl ?_
      refine mm_20 (v := .ref 58) hS20 hi_187_146 rfl ?_
      refine am_e2 (v := 39) hi_187_149 rfl ?_
      refine mm_20 (v := .int (f 32)) hS20 hi_187_150 rfl ?_
      refine mm_25 hS20 ma_33 hi_187_153 (by decide) (by omega) (by omega) ?_
      show am_E _ _ _ _ _ (.int (g'10 33 (f 32).toNatClampNeg) :: _) _ _
      rw [show g'10 33 = g 33 from h14_ 33 (by decide)]
      show am_E _ _ _ _ [some (.ref 39), some (.int r2), some (.int (f 4))] [.int (g 33 (f 32).toNatClampNeg), .ref 77] _ _
      have r295 : 0 ≤ (g 33 (f 32).toNatClampNeg).toInt ∧ (g 33 (f 32).toNatClampNeg).toInt < (f 53).toInt := by
        have h := RJ.fn (i := f 32) hR15_ (by omega) (by show (f 32).toInt ≤ (f 32).toInt; omega)
        rw [show g'10 33 = g 33 from h14_ 33 (by decide)] at h
        exact h
      refine mm_25 hS20 ma_56 hi_187_154 (by decide) (by omega) (by omega) ?_
      show am_E _ _ _ _ _ (.int (g'10 56 (g 33 (f 32).toNatClampNeg).toNatClampNeg) :: _) _ _
      rw [show g'10 56 = g 56 from h14_ 56 (by decide)]
      show am_E _ _ _ _ [some (.ref 39), some (.int r2), some (.int (f 4))] [.int (g 56 (g 33 (f 32).toNatClampNeg).toNatClampNeg)] _ _
      by_cases c296 : ¬ (g 56 (g 33 (f 32).toNatClampNeg).toNatClampNeg).toInt = (0 : Int)
      · refine am_e12t hi_187_155 (am_cT (m := (g 56 (g 33 (f 32).toNatClampNeg).toNatClampNeg).toInt) (n := (0 : Int)) rfl (by decide) c296) ?_
        refine am_e2 (v := 39) hi_187_168 rfl ?_
        refine am_e0 hi_187_169 ?_
        refine am_e2 (v := 39) hi_187_170 rfl ?_
        refine am_e0 hi_187_171 ?_
        refine am_e0 hi_187_173 ?_
        refine am_e0 hi_187_174 ?_
        refine am_e0 hi_187_175 ?_
        refine am_e32n (as := [.ref 39, .int 6, .int 0, .int 1, .int 0]) (la := [some (.ref 39), some (.int 6), some (.int 0), some (.int 1), some (.int 0)]) (rest := [.int 2, .ref 39]) hi_187_176 (am_hd0 (M := 187) (by decide) 176) (Nat.le_of_ble_eq_true rfl) (Nat.le_of_ble_eq_true rfl) (show 5 ≤ am_P0.2.2.1 189 from by decide +kernel) rfl (am_recv_ok hS20.fs) rfl rfl (ct_put (d := (d + 4)) hS20 hR15_  (by show (0 : Int) ≤ (f 32).toInt; omega) (by show (f 32).toInt ≤ (63 : Int); omega) (by show (f 53).toInt ≤ (4096 : Int); omega) (by show (0 : Int) ≤ (f 68).toInt; omega) (by show (f 68).toInt ≤ (65534 : Int); omega)) ?_
        rintro v297 S298 (⟨z299, r300, g'301, hv302, hS303, hR307, h304, h305, h306⟩)
        subst hv302
        have h304_ : z299.toInt = (f 68).toInt + 1 := h304
        have h305_ : r300.toInt = (f 68).toInt := h305
        have h306_ : ∀ j, j ∉ [60, 69, 70, 71, 72, 73] → g'301 j = g'10 j := h306
        have hR307_ : RJ (upd (upd f 10 z9) 68 z299) g'301 (((24 : Int), on.toInt, (0 : Int), (0 : Int), []) :: gs) bc [] 0 ((f 68).toNatClampNeg :: []) := hR307
        show am_E _ _ _ _ [some (.ref 39), some (.int r2), some (.int (f 4))] [.int r300, .int 2, .ref 39] _ _
        refine am_e0 hi_187_179 ?_
        refine am_e32n (as := [.ref 39, .int 2, .int r300, .int 0]) (la := [some (.ref 39), some (.int 2), some (.int r300), some (.int 0)]) (rest := []) hi_187_180 (am_hd0 (M := 187) (by decide) 180) (Nat.le_of_ble_eq_true rfl) (Nat.le_of_ble_eq_true rfl) (show 4 ≤ am_P0.2.2.1 190 from by decide +kernel) rfl (am_recv_ok hS303.fs) rfl rfl (ct_value (d := (d + 4)) hS303 hR307_ (fun h => absurd h (by decide)) (fun _ => ⟨by omega, by omega⟩) (by show (0 : Int) ≤ (f 15).toInt; omega) (by show (f 15).toInt ≤ (32767 : Int); omega)) ?_
        rintro v308 S309 (⟨z310, g'311, hv312, hS313, hR318, h314, h315, h316, h317⟩)
        subst hv312
        have h314_ : z310.toInt = (f 15).toInt + 1 := h314
        have h315_ : ∀ j, j ∉ [16, 17, 18] → g'311 j = g'301 j := h315
        have h316_ : mj_n (g'311 16) z310.toNatClampNeg 3 ≤ mj_n (g 16) (f 15).toNatClampNeg 3 + 1 := by rw [show g'301 16 = g'10 16 from h306_ 16 (by decide), show g'10 16 = g 16 from h14_ 16 (by decide)] at h316; exact h316
        have h317_ : (2 : Int) = 3 ∨ mj_n (g'311 16) z310.toNatClampNeg 3 ≤ mj_n (g 16) (f 15).toNatClampNeg 3 := by rw [show g'301 16 = g'10 16 from h306_ 16 (by decide), show g'10 16 = g 16 from h14_ 16 (by decide)] at h317; exact h317
        replace hS313 : MS S0 S309 (upd (upd (upd f 10 z9) 15 z310) 68 z299) g'311 := hS313
        have hR318_ : RJ (upd (upd (upd f 10 z9) 15 z310) 68 z299) g'311 (((24 : Int), on.toInt, (0 : Int), (0 : Int), []) :: gs) bc [] 0 ((f 68).toNatClampNeg :: []) := hR318
        show am_E _ _ _ _ [some (.ref 39), some (.int r2), some (.int (f 4))] [] _ _
        refine am_e2 (v := 39) hi_187_183 rfl ?_
        refine am_e7 hi_187_184 ?_
        refine mm_20 (v := .int (f 4)) hS313 hi_187_185 rfl ?_
        refine am_e0 hi_187_188 ?_
        obtain ⟨z319, hz319, tz319⟩ := am_addI (x := f 4) (y := 1) (m := (f 4).toInt) (n := (1 : Int)) rfl (by decide) (by omega) (by omega)
        refine am_e10 (z := z319) hi_187_189 hz319 ?_
        refine mm_21 (v := z319) hS313 hi_187_190 rfl (Nat.le_of_ble_eq_true rfl) ms_4 ?_
        intro S320 hS321
        replace hS321 : MS S0 S320 (upd (upd (upd (upd f 4 z319) 10 z9) 15 z310) 68 z299) g'311 := hS321
        have hR322 : RJ (upd (upd (upd (upd f 4 z319) 10 z9) 15 z310) 68 z299) g'311 (((24 : Int), on.toInt, (0 : Int), (0 : Int), []) :: gs) bc [] 0 ((f 68).toNatClampNeg :: []) := RJ.at hR318_ (by show (f 4).toInt ≤ z319.toInt; omega)
        refine am_e18 hi_187_193 ?_
        refine am_e35 hi_187_246 ?_
        show am_E _ _ _ _ [some (.ref 39), some (.int on), some (.int r2)] [] _ _
        refine am_e35 hi_182_57 ?_
        show am_E _ _ _ _ [some (.ref 39), some (.int 23), some (.int on), some (.int tw)] [] _ _
        refine am_e18 hi_181_93 ?_
        refine am_e35 hi_181_397 ?_
        show am_E _ _ _ _ [some (.ref 39), some (.int 23), some (.int on), some (.int tw), some (.int th)] [] _ _
        refine am_e35 hi_180_13 ?_
        have q1 : mg_p1 (((24 : Int), on.toInt, (0 : Int), (0 : Int), []) :: gs) = 0 + (mg_p1 gs) := rfl
        have q2 : mg_p2 (((24 : Int), on.toInt, (0 : Int), (0 : Int), []) :: gs) = 0 + (mg_p2 gs) := rfl
        have q3 : mg_p3 (((24 : Int), on.toInt, (0 : Int), (0 : Int), []) :: gs) = 1 + (mg_p3 gs) := rfl
        have q4 : mg_p4 (((24 : Int), on.toInt, (0 : Int), (0 : Int), []) :: gs) = 0 + (mg_p4 gs) := rfl
        refine ⟨_, _, _, bc, rfl, hS321, Or.inl ⟨⟨(RJ.fewer (pj' := []) hR322 (fun _ h => nomatch h)), ?_, ?_⟩, rfl, ?_⟩⟩
        · exact (⟨⟨(show mg_k 24 from by decide), (show (1 : Int) ≤ z310.toInt from by omega), (show 0 ≤ (f 20).toInt from by omega), (show 1 ≤ (f 37).toInt from by omega), (show 0 ≤ (f 32).toInt from by omega), (show (f 32).toInt ≤ (f 5).toInt from by omega), (show (f 5).toInt ≤ 48 from by omega), (show (f 37).toInt ≤ 2 * ((f 5).toInt) + 2 from by omega), (show 0 ≤ on.toInt from by omega)⟩, mg_cast (mg_good_ext _ _ _ _ _ _ (fun i _ => by show g'311 34 i = g 34 i; rw [show g'311 34 = g'301 34 from h315_ 34 (by decide), show g'301 34 = g'10 34 from h306_ 34 (by decide), show g'10 34 = g 34 from h14_ 34 (by decide)]) (fun i _ => by show g'311 38 i = g 38 i; rw [show g'311 38 = g'301 38 from h315_ 38 (by decide), show g'301 38 = g'10 38 from h306_ 38 (by decide), show g'10 38 = g 38 from h14_ 38 (by decide)]) (fun i _ => by show g'311 23 i = g 23 i; rw [show g'311 23 = g'301 23 from h315_ 23 (by decide), show g'301 23 = g'10 23 from h306_ 23 (by decide), show g'10 23 = g 23 from h14_ 23 (by decide)]) hrest) (by show (f 15).toInt + 1 = z310.toInt + 0; omega) (by show (f 20).toInt = (f 20).toInt; omega) (by show (f 37).toInt + 0 = (f 37).toInt + 0; omega) (by show (f 32).toInt + 0 = (f 32).toInt + 0; omega) (by show (f 5).toInt + 0 = (f 5).toInt + 0; omega)⟩ : mg_good (g'311 34) (g'311 38) (g'311 23) (((24 : Int), on.toInt, (0 : Int), (0 : Int), []) :: gs) (z310.toInt) ((f 20).toInt) ((f 37).toInt) ((f 32).toInt) ((f 5).toInt))
        · exact ⟨(by show 0 ≤ z319.toInt; omega), (by show z319.toInt ≤ (f 0).toInt; omega), (by show (f 0).toInt ≤ 512; omega), (by show 0 ≤ (f 24).toInt; omega), (by show (f 24).toInt + (f 20).toInt + mg_p1 (((24 : Int), on.toInt, (0 : Int), (0 : Int), []) :: gs) ≤ 4 * z319.toInt; omega), (by show (f 20).toInt ≤ z319.toInt; omega), (by show z310.toInt + mg_p2 (((24 : Int), on.toInt, (0 : Int), (0 : Int), []) :: gs) ≤ z319.toInt; omega), (by show mg_p3 (((24 : Int), on.toInt, (0 : Int), (0 : Int), []) :: gs) ≤ 20 * z319.toInt + 20; omega), (by show 0 ≤ z299.toInt; omega), (by show z299.toInt + 3 * (f 20).toInt + mg_p4 (((24 : Int), on.toInt, (0 : Int), (0 : Int), []) :: gs) ≤ 60 * z319.toInt + 60; omega), (by show 0 ≤ (f 62).toInt; omega), (by show (f 62).toInt + 64 * mj_n (g'311 16) z310.toNatClampNeg 3 ≤ 64 * z319.toInt; omega), (by show 0 ≤ (f 44).toInt; omega), (by show (f 44).toInt ≤ z319.toInt; omega), (by show 0 ≤ (f 48).toInt; omega), (by show (f 48).toInt ≤ z319.toInt; omega), (by show 1 ≤ (f 53).toInt; omega), (by show (f 53).toInt ≤ z319.toInt + 1; omega), (by show 0 ≤ (f 19).toInt; omega), (by show (f 19).toInt ≤ 600; omega)⟩
        · show 100 * ((f 0).toInt - z319.toInt) + mg_p3 (((24 : Int), on.toInt, (0 : Int), (0 : Int), []) :: gs) < 100 * ((f 0).toInt - (f 4).toInt) + (1 + mg_p3 gs); omega
      · refine am_e12f hi_187_155 (am_cF (m := (g 56 (g 33 (f 32).toNatClampNeg).toNatClampNeg).toInt) (n := (0 : Int)) rfl (by decide) c296) ?_
        refine am_e2 (v := 39) hi_187_158 rfl ?_
        refine am_e0 hi_187_159 ?_
        refine am_e2 (v := 39) hi_187_161 rfl ?_
        refine mm_20 (v := .int (f 4)) hS20 hi_187_162 rfl ?_
        refine am_e32n (as := [.ref 39, .int 15, .int (f 4)]) (la := [some (.ref 39), some (.int 15), some (.int (f 4))]) (rest := []) hi_187_165 (am_hd0 (M := 187) (by decide) 165) (Nat.le_of_ble_eq_true rfl) (Nat.le_of_ble_eq_true rfl) (show 3 ≤ am_P0.2.2.1 191 from by decide +kernel) rfl (am_recv_ok hS20.fs) rfl rfl (ct_failName (d := (d + 4)) hS20   ) ?_
        rintro v323 S324 (⟨a325, b326, hv327, hS328⟩)
        subst hv327
        replace hS328 : MS S0 S324 (upd (upd (upd f 8 a325) 9 b326) 10 z9) g'10 := hS328
        show am_E _ _ _ _ [some (.ref 39), some (.int r2), some (.int (f 4))] [] _ _
        refine am_e2 (v := 39) hi_187_168 rfl ?_
        refine am_e0 hi_187_169 ?_
        refine am_e2 (v := 39) hi_187_170 rfl ?_
        refine am_e0 hi_187_171 ?_
        refine am_e0 hi_187_173 ?_
        refine am_e0 hi_187_174 ?_
        refine am_e0 hi_187_175 ?_
        refine am_e32n (as := [.ref 39, .int 6, .int 0, .int 1, .int 0]) (la := [some (.ref 39), some (.int 6), some (.int 0), some (.int 1), some (.int 0)]) (rest := [.int 2, .ref 39]) hi_187_176 (am_hd0 (M := 187) (by decide) 176) (Nat.le_of_ble_eq_true rfl) (Nat.le_of_ble_eq_true rfl) (show 5 ≤ am_P0.2.2.1 189 from by decide +kernel) rfl (am_recv_ok hS328.fs) rfl rfl (ct_put (d := (d + 4)) hS328 hR15_  (by show (0 : Int) ≤ (f 32).toInt; omega) (by show (f 32).toInt ≤ (63 : Int); omega) (by show (f 53).toInt ≤ (4096 : Int); omega) (by show (0 : Int) ≤ (f 68).toInt; omega) (by show (f 68).toInt ≤ (65534 : Int); omega)) ?_
        rintro v330 S331 (⟨z332, r333, g'334, hv335, hS336, hR340, h337, h338, h339⟩)
        subst hv335
        have h337_ : z332.toInt = (f 68).toInt + 1 := h337
        have h338_ : r333.toInt = (f 68).toInt := h338
        have h339_ : ∀ j, j ∉ [60, 69, 70, 71, 72, 73] → g'334 j = g'10 j := h339
        have hR340_ : RJ (upd (upd (upd (upd f 8 a325) 9 b326) 10 z9) 68 z332) g'334 (((24 : Int), on.toInt, (0 : Int), (0 : Int), []) :: gs) bc [] 0 ((f 68).toNatClampNeg :: []) := hR340
        show am_E _ _ _ _ [some (.ref 39), some (.int r2), some (.int (f 4))] [.int r333, .int 2, .ref 39] _ _
        refine am_e0 hi_187_179 ?_
        refine am_e32n (as := [.ref 39, .int 2, .int r333, .int 0]) (la := [some (.ref 39), some (.int 2), some (.int r333), some (.int 0)]) (rest := []) hi_187_180 (am_hd0 (M := 187) (by decide) 180) (Nat.le_of_ble_eq_true rfl) (Nat.le_of_ble_eq_true rfl) (show 4 ≤ am_P0.2.2.1 190 from by decide +kernel) rfl (am_recv_ok hS336.fs) rfl rfl (ct_value (d := (d + 4)) hS336 hR340_ (fun h => absurd h (by decide)) (fun _ => ⟨by omega, by omega⟩) (by show (0 : Int) ≤ (f 15).toInt; omega) (by show (f 15).toInt ≤ (32767 : Int); omega)) ?_
        rintro v341 S342 (⟨z343, g'344, hv345, hS346, hR351, h347, h348, h349, h350⟩)
        subst hv345
        have h347_ : z343.toInt = (f 15).toInt + 1 := h347
        have h348_ : ∀ j, j ∉ [16, 17, 18] → g'344 j = g'334 j := h348
        have h349_ : mj_n (g'344 16) z343.toNatClampNeg 3 ≤ mj_n (g 16) (f 15).toNatClampNeg 3 + 1 := by rw [show g'334 16 = g'10 16 from h339_ 16 (by decide), show g'10 16 = g 16 from h14_ 16 (by decide)] at h349; exact h349
        have h350_ : (2 : Int) = 3 ∨ mj_n (g'344 16) z343.toNatClampNeg 3 ≤ mj_n (g 16) (f 15).toNatClampNeg 3 := by rw [show g'334 16 = g'10 16 from h339_ 16 (by decide), show g'10 16 = g 16 from h14_ 16 (by decide)] at h350; exact h350
        replace hS346 : MS S0 S342 (upd (upd (upd (upd (upd f 8 a325) 9 b326) 10 z9) 15 z343) 68 z332) g'344 := hS346
        have hR351_ : RJ (upd (upd (upd (upd (upd f 8 a325) 9 b326) 10 z9) 15 z343) 68 z332) g'344 (((24 : Int), on.toInt, (0 : Int), (0 : Int), []) :: gs) bc [] 0 ((f 68).toNatClampNeg :: []) := hR351
        show am_E _ _ _ _ [some (.ref 39), some (.int r2), some (.int (f 4))] [] _ _
        refine am_e2 (v := 39) hi_187_183 rfl ?_
        refine am_e7 hi_187_184 ?_
        refine mm_20 (v := .int (f 4)) hS346 hi_187_185 rfl ?_
        refine am_e0 hi_187_188 ?_
        obtain ⟨z352, hz352, tz352⟩ := am_addI (x := f 4) (y := 1) (m := (f 4).toInt) (n := (1 : Int)) rfl (by decide) (by omega) (by omega)
        refine am_e10 (z := z352) hi_187_189 hz352 ?_
        refine mm_21 (v := z352) hS346 hi_187_190 rfl (Nat.le_of_ble_eq_true rfl) ms_4 ?_
        intro S353 hS354
        replace hS354 : MS S0 S353 (upd (upd (upd (upd (upd (upd f 4 z352) 8 a325) 9 b326) 10 z9) 15 z343) 68 z332) g'344 := hS354
        have hR355 : RJ (upd (upd (upd (upd (upd (upd f 4 z352) 8 a325) 9 b326) 10 z9) 15 z343) 68 z332) g'344 (((24 : Int), on.toInt, (0 : Int), (0 : Int), []) :: gs) bc [] 0 ((f 68).toNatClampNeg :: []) := RJ.at hR351_ (by show (f 4).toInt ≤ z352.toInt; omega)
        refine am_e18 hi_187_193 ?_
        refine am_e35 hi_187_246 ?_
        show am_E _ _ _ _ [some (.ref 39), some (.int on), some (.int r2)] [] _ _
        refine am_e35 hi_182_57 ?_
        show am_E _ _ _ _ [some (.ref 39), some (.int 23), some (.int on), some (.int tw)] [] _ _
        refine am_e18 hi_181_93 ?_
        refine am_e35 hi_181_397 ?_
        show am_E _ _ _ _ [some (.ref 39), some (.int 23), some (.int on), some (.int tw), some (.int th)] [] _ _
        refine am_e35 hi_180_13 ?_
        have q1 : mg_p1 (((24 : Int), on.toInt, (0 : Int), (0 : Int), []) :: gs) = 0 + (mg_p1 gs) := rfl
        have q2 : mg_p2 (((24 : Int), on.toInt, (0 : Int), (0 : Int), []) :: gs) = 0 + (mg_p2 gs) := rfl
        have q3 : mg_p3 (((24 : Int), on.toInt, (0 : Int), (0 : Int), []) :: gs) = 1 + (mg_p3 gs) := rfl
        have q4 : mg_p4 (((24 : Int), on.toInt, (0 : Int), (0 : Int), []) :: gs) = 0 + (mg_p4 gs) := rfl
        refine ⟨_, _, _, bc, rfl, hS354, Or.inl ⟨⟨(RJ.fewer (pj' := []) hR355 (fun _ h => nomatch h)), ?_, ?_⟩, rfl, ?_⟩⟩
        · exact (⟨⟨(show mg_k 24 from by decide), (show (1 : Int) ≤ z343.toInt from by omega), (show 0 ≤ (f 20).toInt from by omega), (show 1 ≤ (f 37).toInt from by omega), (show 0 ≤ (f 32).toInt from by omega), (show (f 32).toInt ≤ (f 5).toInt from by omega), (show (f 5).toInt ≤ 48 from by omega), (show (f 37).toInt ≤ 2 * ((f 5).toInt) + 2 from by omega), (show 0 ≤ on.toInt from by omega)⟩, mg_cast (mg_good_ext _ _ _ _ _ _ (fun i _ => by show g'344 34 i = g 34 i; rw [show g'344 34 = g'334 34 from h348_ 34 (by decide), show g'334 34 = g'10 34 from h339_ 34 (by decide), show g'10 34 = g 34 from h14_ 34 (by decide)]) (fun i _ => by show g'344 38 i = g 38 i; rw [show g'344 38 = g'334 38 from h348_ 38 (by decide), show g'334 38 = g'10 38 from h339_ 38 (by decide), show g'10 38 = g 38 from h14_ 38 (by decide)]) (fun i _ => by show g'344 23 i = g 23 i; rw [show g'344 23 = g'334 23 from h348_ 23 (by decide), show g'334 23 = g'10 23 from h339_ 23 (by decide), show g'10 23 = g 23 from h14_ 23 (by decide)]) hrest) (by show (f 15).toInt + 1 = z343.toInt + 0; omega) (by show (f 20).toInt = (f 20).toInt; omega) (by show (f 37).toInt + 0 = (f 37).toInt + 0; omega) (by show (f 32).toInt + 0 = (f 32).toInt + 0; omega) (by show (f 5).toInt + 0 = (f 5).toInt + 0; omega)⟩ : mg_good (g'344 34) (g'344 38) (g'344 23) (((24 : Int), on.toInt, (0 : Int), (0 : Int), []) :: gs) (z343.toInt) ((f 20).toInt) ((f 37).toInt) ((f 32).toInt) ((f 5).toInt))
        · exact ⟨(by show 0 ≤ z352.toInt; omega), (by show z352.toInt ≤ (f 0).toInt; omega), (by show (f 0).toInt ≤ 512; omega), (by show 0 ≤ (f 24).toInt; omega), (by show (f 24).toInt + (f 20).toInt + mg_p1 (((24 : Int), on.toInt, (0 : Int), (0 : Int), []) :: gs) ≤ 4 * z352.toInt; omega), (by show (f 20).toInt ≤ z352.toInt; omega), (by show z343.toInt + mg_p2 (((24 : Int), on.toInt, (0 : Int), (0 : Int), []) :: gs) ≤ z352.toInt; omega), (by show mg_p3 (((24 : Int), on.toInt, (0 : Int), (0 : Int), []) :: gs) ≤ 20 * z352.toInt + 20; omega), (by show 0 ≤ z332.toInt; omega), (by show z332.toInt + 3 * (f 20).toInt + mg_p4 (((24 : Int), on.toInt, (0 : Int), (0 : Int), []) :: gs) ≤ 60 * z352.toInt + 60; omega), (by show 0 ≤ (f 62).toInt; omega), (by show (f 62).toInt + 64 * mj_n (g'344 16) z343.toNatClampNeg 3 ≤ 64 * z352.toInt; omega), (by show 0 ≤ (f 44).toInt; omega), (by show (f 44).toInt ≤ z352.toInt; omega), (by show 0 ≤ (f 48).toInt; omega), (by show (f 48).toInt ≤ z352.toInt; omega), (by show 1 ≤ (f 53).toInt; omega), (by show (f 53).toInt ≤ z352.toInt + 1; omega), (by show 0 ≤ (f 19).toInt; omega), (by show (f 19).toInt ≤ 600; omega)⟩
        · show 100 * ((f 0).toInt - z352.toInt) + mg_p3 (((24 : Int), on.toInt, (0 : Int), (0 : Int), []) :: gs) < 100 * ((f 0).toInt - (f 4).toInt) + (1 + mg_p3 gs); omega
    refine am_e19 (t := 233) hi_187_6 (am_swK (v := r2) (ks := [2, 3, 16, 18, 23, 29, 62, 72]) (by decide) (by intro k hk; simp only [List.mem_cons, List.not_mem_nil, or_false] at hk; rcases hk with rfl | rfl | rfl | rfl | rfl | rfl | rfl | rfl <;> omega)) ?_
    refine am_e2 (v := 39) hi_187_233 rfl ?_
    refine am_e0 hi_187_234 ?_
    refine am_e0 hi_187_236 ?_
    refine am_e0 hi_187_237 ?_
    refine am_e0 hi_187_238 ?_
    refine am_e32n (as := [.ref 39, .int 28, .int 0, .int 0, .int 0]) (la := [some (.ref 39), some (.int 28), some (.int 0), some (.int 0), some (.int 0)]) (rest := []) hi_187_239 (am_hd0 (M := 187) (by decide) 239) (Nat.le_of_ble_eq_true rfl) (Nat.le_of_ble_eq_true rfl) (show 5 ≤ am_P0.2.2.1 179 from by decide +kernel) rfl (am_recv_ok hS20.fs) rfl rfl (ct_pile (d := (d + 4)) hS20 hR15_ (mj_e_plain (by decide)) (by show (0 : Int) ≤ z9.toInt; omega) (by show z9.toInt ≤ (65535 : Int); omega)) ?_
    rintro v356 S357 (⟨z358, g'359, hv360, hS361, hR364, h362, h363⟩)
    subst hv360
    have h362_ : z358.toInt = z9.toInt + 1 := h362
    have h363_ : ∀ j, j ∉ [11, 12, 13, 14] → g'359 j = g'10 j := h363
    replace hS361 : MS S0 S357 (upd f 10 z358) g'359 := hS361
    have hR364_ : RJ (upd f 10 z358) g'359 (((28 : Int), (0 : Int), (0 : Int), (0 : Int), []) :: (((24 : Int), on.toInt, (0 : Int), (0 : Int), []) :: gs)) bc [] 0 [] := hR364
    show am_E _ _ _ _ [some (.ref 39), some (.int r2), some (.int (f 4))] [] _ _
    refine am_e2 (v := 39) hi_187_242 rfl ?_
    refine am_e32w (as := [.ref 39]) (la := [some (.ref 39)]) (rest := []) hi_187_243 (am_hd0 (M := 187) (by decide) 243) (Nat.le_of_ble_eq_true rfl) (Nat.le_of_ble_eq_true rfl) (show 1 ≤ am_P0.2.2.1 201 from by decide +kernel) rfl (am_recv_ok hS361.fs) rfl rfl ?_
    refine am_e2 (v := 39) hi_201_0 rfl ?_
    refine am_e32n (as := [.ref 39]) (la := [some (.ref 39)]) (rest := []) hi_201_1 (am_hd0 (M := 201) (by decide) 1) (Nat.le_of_ble_eq_true rfl) (Nat.le_of_ble_eq_true rfl) (show 1 ≤ am_P0.2.2.1 183 from by decide +kernel) rfl (am_recv_ok hS361.fs) rfl rfl (ct_next (d := (d + 2)) hS361   (by show (0 : Int) ≤ (f 4).toInt; omega) (by show (f 0).toInt ≤ (16384 : Int); omega)) ?_
    rintro v365 S366 (⟨r367, hv368, hS369, h370⟩)
    subst hv368
    have h370_ : (f 4).toInt < (f 0).toInt ∨ r367.toInt = (-1 : Int) := h370
    show am_E _ _ _ _ [some (.ref 39)] [.int r367] _ _
    refine am_e0 hi_201_4 ?_
    by_cases c372 : ¬ r367.toInt = (1 : Int)
    · refine am_e13t hi_201_5 (am_cT (m := r367.toInt) (n := (1 : Int)) rfl (by decide) c372) ?_
      refine am_e2 (v := 39) hi_201_31 rfl ?_
      refine am_e0 hi_201_32 ?_
      refine am_e32n (as := [.ref 39, .int 60]) (la := [some (.ref 39), some (.int 60)]) (rest := []) hi_201_34 (am_hd0 (M := 201) (by decide) 34) (Nat.le_of_ble_eq_true rfl) (Nat.le_of_ble_eq_true rfl) (show 2 ≤ am_P0.2.2.1 193 from by decide +kernel) rfl (am_recv_ok hS369.fs) rfl rfl (ct_enter (d := (d + 1)) hS369   (by show (0 : Int) ≤ (f 4).toInt; omega) (by show (f 0).toInt ≤ (16384 : Int); omega) (by show (0 : Int) ≤ (60 : Int); omega) (by show (0 : Int) ≤ (f 5).toInt; omega) (by show (f 5).toInt ≤ (48 : Int); omega)) ?_
      rintro v373 S374 (⟨z375, y376, hv377, hS378, h379, h380, h381, h382⟩ | ⟨a384, b385, hv386, hS387⟩)
      · subst hv377
        have h379_ : z375.toInt = (f 4).toInt + 1 := h379
        have h380_ : (f 4).toInt < (f 0).toInt := h380
        have h381_ : y376.toInt = (f 5).toInt + 1 := h381
        have h382_ : y376.toInt ≤ (48 : Int) := h382
        replace hS378 : MS S0 S374 (upd (upd (upd f 4 z375) 5 y376) 10 z358) g'359 := hS378
        have hR389 : RJ (upd (upd (upd f 4 z375) 5 y376) 10 z358) g'359 (((28 : Int), (0 : Int), (0 : Int), (0 : Int), []) :: (((24 : Int), on.toInt, (0 : Int), (0 : Int), []) :: gs)) bc [] 0 [] := RJ.at hR364_ (by show (f 4).toInt ≤ z375.toInt; omega)
        show am_E _ _ _ _ [some (.ref 39)] [.int 1] _ _
        refine am_e12f hi_201_37 (by decide) ?_
        refine am_e2 (v := 39) hi_201_40 rfl ?_
        refine am_e0 hi_201_41 ?_
        refine am_e0 hi_201_43 ?_
        refine am_e0 hi_201_44 ?_
        refine am_e0 hi_201_45 ?_
        refine am_e32n (as := [.ref 39, .int 29, .int 0, .int 0, .int 0]) (la := [some (.ref 39), some (.int 29), some (.int 0), some (.int 0), some (.int 0)]) (rest := []) hi_201_46 (am_hd0 (M := 201) (by decide) 46) (Nat.le_of_ble_eq_true rfl) (Nat.le_of_ble_eq_true rfl) (show 5 ≤ am_P0.2.2.1 179 from by decide +kernel) rfl (am_recv_ok hS378.fs) rfl rfl (ct_pile (d := (d + 3)) hS378 hR389 (mj_e_plain (by decide)) (by show (0 : Int) ≤ z358.toInt; omega) (by show z358.toInt ≤ (65535 : Int); omega)) ?_
        rintro v390 S391 (⟨z392, g'393, hv394, hS395, hR398, h396, h397⟩)
        subst hv394
        have h396_ : z392.toInt = z358.toInt + 1 := h396
        have h397_ : ∀ j, j ∉ [11, 12, 13, 14] → g'393 j = g'359 j := h397
        replace hS395 : MS S0 S391 (upd (upd (upd f 4 z375) 5 y376) 10 z392) g'393 := hS395
        have hR398_ : RJ (upd (upd (upd f 4 z375) 5 y376) 10 z392) g'393 (((29 : Int), (0 : Int), (0 : Int), (0 : Int), []) :: (((28 : Int), (0 : Int), (0 : Int), (0 : Int), []) :: (((24 : Int), on.toInt, (0 : Int), (0 : Int), []) :: gs))) bc [] 0 [] := hR398
        show am_E _ _ _ _ [some (.ref 39)] [] _ _
        refine am_e2 (v := 39) hi_201_49 rfl ?_
        refine am_e0 hi_201_50 ?_
        refine am_e32w (as := [.ref 39, .int 0]) (la := [some (.ref 39), some (.int 0)]) (rest := []) hi_201_51 (am_hd0 (M := 201) (by decide) 51) (Nat.le_of_ble_eq_true rfl) (Nat.le_of_ble_eq_true rfl) (show 2 ≤ am_P0.2.2.1 186 from by decide +kernel) rfl (am_recv_ok hS395.fs) rfl rfl ?_
        refine am_e2 (v := 39) hi_186_0 rfl ?_
        refine am_e0 hi_186_1 ?_
        refine am_e1 (v := 0) hi_186_3 rfl ?_
        refine am_e0 hi_186_4 ?_
        refine am_e0 hi_186_5 ?_
        refine am_e32n (as := [.ref 39, .int 23, .int 0, .int 0, .int 0]) (la := [some (.ref 39), some (.int 23), some (.int 0), some (.int 0), some (.int 0)]) (rest := []) hi_186_6 (am_hd0 (M := 186) (by decide) 6) (Nat.le_of_ble_eq_true rfl) (Nat.le_of_ble_eq_true rfl) (show 5 ≤ am_P0.2.2.1 179 from by decide +kernel) rfl (am_recv_ok hS395.fs) rfl rfl (ct_pile (d := (d + 2)) hS395 hR398_ (mj_e_plain (by decide)) (by show (0 : Int) ≤ z392.toInt; omega) (by show z392.toInt ≤ (65535 : Int); omega)) ?_
        rintro v399 S400 (⟨z401, g'402, hv403, hS404, hR407, h405, h406⟩)
        subst hv403
        have h405_ : z401.toInt = z392.toInt + 1 := h405
        have h406_ : ∀ j, j ∉ [11, 12, 13, 14] → g'402 j = g'393 j := h406
        replace hS404 : MS S0 S400 (upd (upd (upd f 4 z375) 5 y376) 10 z401) g'402 := hS404
        have hR407_ : RJ (upd (upd (upd f 4 z375) 5 y376) 10 z401) g'402 (((23 : Int), (0 : Int), (0 : Int), (0 : Int), []) :: (((29 : Int), (0 : Int), (0 : Int), (0 : Int), []) :: (((28 : Int), (0 : Int), (0 : Int), (0 : Int), []) :: (((24 : Int), on.toInt, (0 : Int), (0 : Int), []) :: gs)))) bc [] 0 [] := hR407
        show am_E _ _ _ _ [some (.ref 39), some (.int 0)] [] _ _
        refine am_e35 hi_186_9 ?_
        show am_E _ _ _ _ [some (.ref 39)] [] _ _
        refine am_e35 hi_201_54 ?_
        show am_E _ _ _ _ [some (.ref 39), some (.int r2), some (.int (f 4))] [] _ _
        refine am_e35 hi_187_246 ?_
        show am_E _ _ _ _ [some (.ref 39), some (.int on), some (.int r2)] [] _ _
        refine am_e35 hi_182_57 ?_
        show am_E _ _ _ _ [some (.ref 39), some (.int 23), some (.int on), some (.int tw)] [] _ _
        refine am_e18 hi_181_93 ?_
        refine am_e35 hi_181_397 ?_
        show am_E _ _ _ _ [some (.ref 39), some (.int 23), some (.int on), some (.int tw), some (.int th)] [] _ _
        refine am_e35 hi_180_13 ?_
        have q1 : mg_p1 (((23 : Int), (0 : Int), (0 : Int), (0 : Int), []) :: (((29 : Int), (0 : Int), (0 : Int), (0 : Int), []) :: (((28 : Int), (0 : Int), (0 : Int), (0 : Int), []) :: (((24 : Int), on.toInt, (0 : Int), (0 : Int), []) :: gs)))) = 0 + (0 + (0 + (0 + (mg_p1 gs)))) := rfl
        have q2 : mg_p2 (((23 : Int), (0 : Int), (0 : Int), (0 : Int), []) :: (((29 : Int), (0 : Int), (0 : Int), (0 : Int), []) :: (((28 : Int), (0 : Int), (0 : Int), (0 : Int), []) :: (((24 : Int), on.toInt, (0 : Int), (0 : Int), []) :: gs)))) = 0 + (0 + (0 + (0 + (mg_p2 gs)))) := rfl
        have q3 : mg_p3 (((23 : Int), (0 : Int), (0 : Int), (0 : Int), []) :: (((29 : Int), (0 : Int), (0 : Int), (0 : Int), []) :: (((28 : Int), (0 : Int), (0 : Int), (0 : Int), []) :: (((24 : Int), on.toInt, (0 : Int), (0 : Int), []) :: gs)))) = 1 + (1 + (1 + (1 + (mg_p3 gs)))) := rfl
        have q4 : mg_p4 (((23 : Int), (0 : Int), (0 : Int), (0 : Int), []) :: (((29 : Int), (0 : Int), (0 : Int), (0 : Int), []) :: (((28 : Int), (0 : Int), (0 : Int), (0 : Int), []) :: (((24 : Int), on.toInt, (0 : Int), (0 : Int), []) :: gs)))) = 0 + (0 + (0 + (0 + (mg_p4 gs)))) := rfl
        refine ⟨_, _, _, bc, rfl, hS404, Or.inl ⟨⟨hR407_, ?_, ?_⟩, rfl, ?_⟩⟩
        · exact (⟨⟨(show mg_k 23 from by decide), (show (0 : Int) ≤ (f 15).toInt from by omega), (show 0 ≤ (f 20).toInt from by omega), (show 1 ≤ (f 37).toInt from by omega), (show 0 ≤ (f 32).toInt from by omega), (show (f 32).toInt ≤ y376.toInt from by omega), (show y376.toInt ≤ 48 from by omega), (show (f 37).toInt ≤ 2 * (y376.toInt) + 2 from by omega), (show 0 ≤ (0 : Int) from by omega)⟩, ⟨⟨(show mg_k 29 from by decide), (show (1 : Int) ≤ (f 15).toInt + 1 from by omega), (show 0 ≤ (f 20).toInt from by omega), (show 1 ≤ (f 37).toInt + 0 from by omega), (show 0 ≤ (f 32).toInt + 0 from by omega), (show (f 32).toInt + 0 ≤ y376.toInt + 0 from by omega), (show y376.toInt + 0 ≤ 48 from by omega), (show (f 37).toInt + 0 ≤ 2 * (y376.toInt + 0) + 2 from by omega), trivial⟩, ⟨⟨(show mg_k 28 from by decide), (show (1 : Int) ≤ (f 15).toInt + 1 + 0 from by omega), (show 0 ≤ (f 20).toInt from by omega), (show 1 ≤ (f 37).toInt + 0 + 0 from by omega), (show 0 ≤ (f 32).toInt + 0 + 0 from by omega), (show (f 32).toInt + 0 + 0 ≤ y376.toInt + 0 + -1 from by omega), (show y376.toInt + 0 + -1 ≤ 48 from by omega), (show (f 37).toInt + 0 + 0 ≤ 2 * (y376.toInt + 0 + -1) + 2 from by omega), trivial⟩, ⟨⟨(show mg_k 24 from by decide), (show (1 : Int) ≤ (f 15).toInt + 1 + 0 + 0 from by omega), (show 0 ≤ (f 20).toInt from by omega), (show 1 ≤ (f 37).toInt + 0 + 0 + 0 from by omega), (show 0 ≤ (f 32).toInt + 0 + 0 + 0 from by omega), (show (f 32).toInt + 0 + 0 + 0 ≤ y376.toInt + 0 + -1 + 0 from by omega), (show y376.toInt + 0 + -1 + 0 ≤ 48 from by omega), (show (f 37).toInt + 0 + 0 + 0 ≤ 2 * (y376.toInt + 0 + -1 + 0) + 2 from by omega), (show 0 ≤ on.toInt from by omega)⟩, mg_cast (mg_good_ext _ _ _ _ _ _ (fun i _ => by show g'402 34 i = g 34 i; rw [show g'402 34 = g'393 34 from h406_ 34 (by decide), show g'393 34 = g'359 34 from h397_ 34 (by decide), show g'359 34 = g'10 34 from h363_ 34 (by decide), show g'10 34 = g 34 from h14_ 34 (by decide)]) (fun i _ => by show g'402 38 i = g 38 i; rw [show g'402 38 = g'393 38 from h406_ 38 (by decide), show g'393 38 = g'359 38 from h397_ 38 (by decide), show g'359 38 = g'10 38 from h363_ 38 (by decide), show g'10 38 = g 38 from h14_ 38 (by decide)]) (fun i _ => by show g'402 23 i = g 23 i; rw [show g'402 23 = g'393 23 from h406_ 23 (by decide), show g'393 23 = g'359 23 from h397_ 23 (by decide), show g'359 23 = g'10 23 from h363_ 23 (by decide), show g'10 23 = g 23 from h14_ 23 (by decide)]) hrest) (by show (f 15).toInt + 1 = (f 15).toInt + 1 + 0 + 0 + 0; omega) (by show (f 20).toInt = (f 20).toInt; omega) (by show (f 37).toInt + 0 = (f 37).toInt + 0 + 0 + 0 + 0; omega) (by show (f 32).toInt + 0 = (f 32).toInt + 0 + 0 + 0 + 0; omega) (by show (f 5).toInt + 0 = y376.toInt + 0 + -1 + 0 + 0; omega)⟩⟩⟩⟩ : mg_good (g'402 34) (g'402 38) (g'402 23) (((23 : Int), (0 : Int), (0 : Int), (0 : Int), []) :: (((29 : Int), (0 : Int), (0 : Int), (0 : Int), []) :: (((28 : Int), (0 : Int), (0 : Int), (0 : Int), []) :: (((24 : Int), on.toInt, (0 : Int), (0 : Int), []) :: gs)))) ((f 15).toInt) ((f 20).toInt) ((f 37).toInt) ((f 32).toInt) (y376.toInt))
        · exact ⟨(by show 0 ≤ z375.toInt; omega), (by show z375.toInt ≤ (f 0).toInt; omega), (by show (f 0).toInt ≤ 512; omega), (by show 0 ≤ (f 24).toInt; omega), (by show (f 24).toInt + (f 20).toInt + mg_p1 (((23 : Int), (0 : Int), (0 : Int), (0 : Int), []) :: (((29 : Int), (0 : Int), (0 : Int), (0 : Int), []) :: (((28 : Int), (0 : Int), (0 : Int), (0 : Int), []) :: (((24 : Int), on.toInt, (0 : Int), (0 : Int), []) :: gs)))) ≤ 4 * z375.toInt; omega), (by show (f 20).toInt ≤ z375.toInt; omega), (by show (f 15).toInt + mg_p2 (((23 : Int), (0 : Int), (0 : Int), (0 : Int), []) :: (((29 : Int), (0 : Int), (0 : Int), (0 : Int), []) :: (((28 : Int), (0 : Int), (0 : Int), (0 : Int), []) :: (((24 : Int), on.toInt, (0 : Int), (0 : Int), []) :: gs)))) ≤ z375.toInt; omega), (by show mg_p3 (((23 : Int), (0 : Int), (0 : Int), (0 : Int), []) :: (((29 : Int), (0 : Int), (0 : Int), (0 : Int), []) :: (((28 : Int), (0 : Int), (0 : Int), (0 : Int), []) :: (((24 : Int), on.toInt, (0 : Int), (0 : Int), []) :: gs)))) ≤ 20 * z375.toInt + 20; omega), (by show 0 ≤ (f 68).toInt; omega), (by show (f 68).toInt + 3 * (f 20).toInt + mg_p4 (((23 : Int), (0 : Int), (0 : Int), (0 : Int), []) :: (((29 : Int), (0 : Int), (0 : Int), (0 : Int), []) :: (((28 : Int), (0 : Int), (0 : Int), (0 : Int), []) :: (((24 : Int), on.toInt, (0 : Int), (0 : Int), []) :: gs)))) ≤ 60 * z375.toInt + 60; omega), (by show 0 ≤ (f 62).toInt; omega), (by show (f 62).toInt + 64 * mj_n (g'402 16) (f 15).toNatClampNeg 3 ≤ 64 * z375.toInt; rw [show g'402 16 = g'393 16 from h406_ 16 (by decide), show g'393 16 = g'359 16 from h397_ 16 (by decide), show g'359 16 = g'10 16 from h363_ 16 (by decide), show g'10 16 = g 16 from h14_ 16 (by decide)]; omega), (by show 0 ≤ (f 44).toInt; omega), (by show (f 44).toInt ≤ z375.toInt; omega), (by show 0 ≤ (f 48).toInt; omega), (by show (f 48).toInt ≤ z375.toInt; omega), (by show 1 ≤ (f 53).toInt; omega), (by show (f 53).toInt ≤ z375.toInt + 1; omega), (by show 0 ≤ (f 19).toInt; omega), (by show (f 19).toInt ≤ 600; omega)⟩
        · show 100 * ((f 0).toInt - z375.toInt) + mg_p3 (((23 : Int), (0 : Int), (0 : Int), (0 : Int), []) :: (((29 : Int), (0 : Int), (0 : Int), (0 : Int), []) :: (((28 : Int), (0 : Int), (0 : Int), (0 : Int), []) :: (((24 : Int), on.toInt, (0 : Int), (0 : Int), []) :: gs)))) < 100 * ((f 0).toInt - (f 4).toInt) + (1 + mg_p3 gs); omega
      · subst hv386
        replace hS387 : MS S0 S374 (upd (upd (upd f 6 a384) 7 b385) 10 0) g'359 := hS387
        have hR408 := rj_clear0 hR364_
        have hR409 : RJ (upd (upd (upd f 6 a384) 7 b385) 10 0) g'359 [] bc [] 0 [] := hR408
        show am_E _ _ _ _ [some (.ref 39)] [.int 0] _ _
        refine am_e12t hi_201_37 (by decide) ?_
        refine am_e35 hi_201_54 ?_
        show am_E _ _ _ _ [some (.ref 39), some (.int r2), some (.int (f 4))] [] _ _
        refine am_e35 hi_187_246 ?_
        show am_E _ _ _ _ [some (.ref 39), some (.int on), some (.int r2)] [] _ _
        refine am_e35 hi_182_57 ?_
        show am_E _ _ _ _ [some (.ref 39), some (.int 23), some (.int on), some (.int tw)] [] _ _
        refine am_e18 hi_181_93 ?_
        refine am_e35 hi_181_397 ?_
        show am_E _ _ _ _ [some (.ref 39), some (.int 23), some (.int on), some (.int tw), some (.int th)] [] _ _
        refine am_e35 hi_180_13 ?_
        have hRc := rj_clear0 hR409
        refine ⟨_, _, [], _, rfl, hS387, Or.inr ⟨hRc, rfl, (by show 0 ≤ (f 4).toInt; omega), (by show (f 4).toInt ≤ (f 0).toInt; omega), (by show 0 ≤ (f 32).toInt; omega), (by show (f 32).toInt ≤ 63; omega), (by show 1 ≤ (f 53).toInt; omega), (by show (f 53).toInt ≤ 600; omega), (by show 0 ≤ (f 68).toInt; omega), (by show (f 68).toInt ≤ 60000; omega), (by show 0 ≤ (f 48).toInt; omega), (by show (f 48).toInt ≤ 8000; omega), (by show 0 ≤ (f 37).toInt; omega), (by show (f 37).toInt ≤ 128; omega), (by show 0 ≤ (f 62).toInt; omega), (by show (f 62).toInt ≤ 65000; omega), (by show 0 ≤ (f 19).toInt; omega), (by show (f 19).toInt ≤ 600; omega)⟩⟩
    · refine am_e13f hi_201_5 (am_cF (m := r367.toInt) (n := (1 : Int)) rfl (by decide) c372) ?_
      refine am_e2 (v := 39) hi_201_8 rfl ?_
      refine am_e0 hi_201_9 ?_
      refine am_e0 hi_201_10 ?_
      refine am_e2 (v := 39) hi_201_11 rfl ?_
      refine mm_20 (v := .int (f 4)) hS369 hi_201_12 rfl ?_
      refine am_e32n (as := [.ref 39, .int 3, .int 0, .int (f 4)]) (la := [some (.ref 39), some (.int 3), some (.int 0), some (.int (f 4))]) (rest := []) hi_201_15 (am_hd0 (M := 201) (by decide) 15) (Nat.le_of_ble_eq_true rfl) (Nat.le_of_ble_eq_true rfl) (show 4 ≤ am_P0.2.2.1 190 from by decide +kernel) rfl (am_recv_ok hS369.fs) rfl rfl (ct_value (d := (d + 3)) hS369 hR364_ (fun _ => ⟨by omega, by omega⟩) (fun h => absurd h (by decide)) (by show (0 : Int) ≤ (f 15).toInt; omega) (by show (f 15).toInt ≤ (32767 : Int); omega)) ?_
      rintro v410 S411 (⟨z412, g'413, hv414, hS415, hR420, h416, h417, h418, h419⟩)
      subst hv414
      have h416_ : z412.toInt = (f 15).toInt + 1 := h416
      have h417_ : ∀ j, j ∉ [16, 17, 18] → g'413 j = g'359 j := h417
      have h418_ : mj_n (g'413 16) z412.toNatClampNeg 3 ≤ mj_n (g 16) (f 15).toNatClampNeg 3 + 1 := by rw [show g'359 16 = g'10 16 from h363_ 16 (by decide), show g'10 16 = g 16 from h14_ 16 (by decide)] at h418; exact h418
      have h419_ : (3 : Int) = 3 ∨ mj_n (g'413 16) z412.toNatClampNeg 3 ≤ mj_n (g 16) (f 15).toNatClampNeg 3 := by rw [show g'359 16 = g'10 16 from h363_ 16 (by decide), show g'10 16 = g 16 from h14_ 16 (by decide)] at h419; exact h419
      have hR420_ : RJ (upd (upd f 10 z358) 15 z412) g'413 (((28 : Int), (0 : Int), (0 : Int), (0 : Int), []) :: (((24 : Int), on.toInt, (0 : Int), (0 : Int), []) :: gs)) bc [] 0 [] := hR420
      show am_E _ _ _ _ [some (.ref 39)] [] _ _
      refine am_e2 (v := 39) hi_201_18 rfl ?_
      refine am_e7 hi_201_19 ?_
      refine mm_20 (v := .int (f 4)) hS415 hi_201_20 rfl ?_
      refine am_e0 hi_201_23 ?_
      obtain ⟨z421, hz421, tz421⟩ := am_addI (x := f 4) (y := 1) (m := (f 4).toInt) (n := (1 : Int)) rfl (by decide) (by omega) (by omega)
      refine am_e10 (z := z421) hi_201_24 hz421 ?_
      refine mm_21 (v := z421) hS415 hi_201_25 rfl (Nat.le_of_ble_eq_true rfl) ms_4 ?_
      intro S422 hS423
      replace hS423 : MS S0 S422 (upd (upd (upd f 4 z421) 10 z358) 15 z412) g'413 := hS423
      have hR424 : RJ (upd (upd (upd f 4 z421) 10 z358) 15 z412) g'413 (((28 : Int), (0 : Int), (0 : Int), (0 : Int), []) :: (((24 : Int), on.toInt, (0 : Int), (0 : Int), []) :: gs)) bc [] 0 [] := RJ.at hR420_ (by show (f 4).toInt ≤ z421.toInt; omega)
      refine am_e18 hi_201_28 ?_
      refine am_e35 hi_201_54 ?_
      show am_E _ _ _ _ [some (.ref 39), some (.int r2), some (.int (f 4))] [] _ _
      refine am_e35 hi_187_246 ?_
      show am_E _ _ _ _ [some (.ref 39), some (.int on), some (.int r2)] [] _ _
      refine am_e35 hi_182_57 ?_
      show am_E _ _ _ _ [some (.ref 39), some (.int 23), some (.int on), some (.int tw)] [] _ _
      refine am_e18 hi_181_93 ?_
      refine am_e35 hi_181_397 ?_
      show am_E _ _ _ _ [some (.ref 39), some (.int 23), some (.int on), some (.int tw), some (.int th)] [] _ _
      refine am_e35 hi_180_13 ?_
      have q1 : mg_p1 (((28 : Int), (0 : Int), (0 : Int), (0 : Int), []) :: (((24 : Int), on.toInt, (0 : Int), (0 : Int), []) :: gs)) = 0 + (0 + (mg_p1 gs)) := rfl
      have q2 : mg_p2 (((28 : Int), (0 : Int), (0 : Int), (0 : Int), []) :: (((24 : Int), on.toInt, (0 : Int), (0 : Int), []) :: gs)) = 0 + (0 + (mg_p2 gs)) := rfl
      have q3 : mg_p3 (((28 : Int), (0 : Int), (0 : Int), (0 : Int), []) :: (((24 : Int), on.toInt, (0 : Int), (0 : Int), []) :: gs)) = 1 + (1 + (mg_p3 gs)) := rfl
      have q4 : mg_p4 (((28 : Int), (0 : Int), (0 : Int), (0 : Int), []) :: (((24 : Int), on.toInt, (0 : Int), (0 : Int), []) :: gs)) = 0 + (0 + (mg_p4 gs)) := rfl
      refine ⟨_, _, _, bc, rfl, hS423, Or.inl ⟨⟨hR424, ?_, ?_⟩, rfl, ?_⟩⟩
      · exact (⟨⟨(show mg_k 28 from by decide), (show (1 : Int) ≤ z412.toInt from by omega), (show 0 ≤ (f 20).toInt from by omega), (show 1 ≤ (f 37).toInt from by omega), (show 0 ≤ (f 32).toInt from by omega), (show (f 32).toInt ≤ (f 5).toInt from by omega), (show (f 5).toInt ≤ 48 from by omega), (show (f 37).toInt ≤ 2 * ((f 5).toInt) + 2 from by omega), trivial⟩, ⟨⟨(show mg_k 24 from by decide), (show (1 : Int) ≤ z412.toInt + 0 from by omega), (show 0 ≤ (f 20).toInt from by omega), (show 1 ≤ (f 37).toInt + 0 from by omega), (show 0 ≤ (f 32).toInt + 0 from by omega), (show (f 32).toInt + 0 ≤ (f 5).toInt + 0 from by omega), (show (f 5).toInt + 0 ≤ 48 from by omega), (show (f 37).toInt + 0 ≤ 2 * ((f 5).toInt + 0) + 2 from by omega), (show 0 ≤ on.toInt from by omega)⟩, mg_cast (mg_good_ext _ _ _ _ _ _ (fun i _ => by show g'413 34 i = g 34 i; rw [show g'413 34 = g'359 34 from h417_ 34 (by decide), show g'359 34 = g'10 34 from h363_ 34 (by decide), show g'10 34 = g 34 from h14_ 34 (by decide)]) (fun i _ => by show g'413 38 i = g 38 i; rw [show g'413 38 = g'359 38 from h417_ 38 (by decide), show g'359 38 = g'10 38 from h363_ 38 (by decide), show g'10 38 = g 38 from h14_ 38 (by decide)]) (fun i _ => by show g'413 23 i = g 23 i; rw [show g'413 23 = g'359 23 from h417_ 23 (by decide), show g'359 23 = g'10 23 from h363_ 23 (by decide), show g'10 23 = g 23 from h14_ 23 (by decide)]) hrest) (by show (f 15).toInt + 1 = z412.toInt + 0 + 0; omega) (by show (f 20).toInt = (f 20).toInt; omega) (by show (f 37).toInt + 0 = (f 37).toInt + 0 + 0; omega) (by show (f 32).toInt + 0 = (f 32).toInt + 0 + 0; omega) (by show (f 5).toInt + 0 = (f 5).toInt + 0 + 0; omega)⟩⟩ : mg_good (g'413 34) (g'413 38) (g'413 23) (((28 : Int), (0 : Int), (0 : Int), (0 : Int), []) :: (((24 : Int), on.toInt, (0 : Int), (0 : Int), []) :: gs)) (z412.toInt) ((f 20).toInt) ((f 37).toInt) ((f 32).toInt) ((f 5).toInt))
      · exact ⟨(by show 0 ≤ z421.toInt; omega), (by show z421.toInt ≤ (f 0).toInt; omega), (by show (f 0).toInt ≤ 512; omega), (by show 0 ≤ (f 24).toInt; omega), (by show (f 24).toInt + (f 20).toInt + mg_p1 (((28 : Int), (0 : Int), (0 : Int), (0 : Int), []) :: (((24 : Int), on.toInt, (0 : Int), (0 : Int), []) :: gs)) ≤ 4 * z421.toInt; omega), (by show (f 20).toInt ≤ z421.toInt; omega), (by show z412.toInt + mg_p2 (((28 : Int), (0 : Int), (0 : Int), (0 : Int), []) :: (((24 : Int), on.toInt, (0 : Int), (0 : Int), []) :: gs)) ≤ z421.toInt; omega), (by show mg_p3 (((28 : Int), (0 : Int), (0 : Int), (0 : Int), []) :: (((24 : Int), on.toInt, (0 : Int), (0 : Int), []) :: gs)) ≤ 20 * z421.toInt + 20; omega), (by show 0 ≤ (f 68).toInt; omega), (by show (f 68).toInt + 3 * (f 20).toInt + mg_p4 (((28 : Int), (0 : Int), (0 : Int), (0 : Int), []) :: (((24 : Int), on.toInt, (0 : Int), (0 : Int), []) :: gs)) ≤ 60 * z421.toInt + 60; omega), (by show 0 ≤ (f 62).toInt; omega), (by show (f 62).toInt + 64 * mj_n (g'413 16) z412.toNatClampNeg 3 ≤ 64 * z421.toInt; omega), (by show 0 ≤ (f 44).toInt; omega), (by show (f 44).toInt ≤ z421.toInt; omega), (by show 0 ≤ (f 48).toInt; omega), (by show (f 48).toInt ≤ z421.toInt; omega), (by show 1 ≤ (f 53).toInt; omega), (by show (f 53).toInt ≤ z421.toInt + 1; omega), (by show 0 ≤ (f 19).toInt; omega), (by show (f 19).toInt ≤ 600; omega)⟩
      · show 100 * ((f 0).toInt - z421.toInt) + mg_p3 (((28 : Int), (0 : Int), (0 : Int), (0 : Int), []) :: (((24 : Int), on.toInt, (0 : Int), (0 : Int), []) :: gs)) < 100 * ((f 0).toInt - (f 4).toInt) + (1 + mg_p3 gs); omega
  · refine am_e12f hi_182_18 (am_cF (m := r18.toInt) (n := (0 : Int)) rfl (by decide) c24) ?_
    refine am_e2 (v := 39) hi_182_21 rfl ?_
    refine am_e0 hi_182_22 ?_
    refine am_e1 (v := r2) hi_182_24 rfl ?_
    refine am_e2 (v := 39) hi_182_25 rfl ?_
    refine mm_20 (v := .int (f 4)) hS20 hi_182_26 rfl ?_
    refine am_e0 hi_182_29 ?_
    refine am_e32n (as := [.ref 39, .int 27, .int r2, .int (f 4), .int 0]) (la := [some (.ref 39), some (.int 27), some (.int r2), some (.int (f 4)), some (.int 0)]) (rest := []) hi_182_30 (am_hd0 (M := 182) (by decide) 30) (Nat.le_of_ble_eq_true rfl) (Nat.le_of_ble_eq_true rfl) (show 5 ≤ am_P0.2.2.1 179 from by decide +kernel) rfl (am_recv_ok hS20.fs) rfl rfl (ct_pile (d := (d + 5)) hS20 hR15_ (mj_e_plain (by decide)) (by show (0 : Int) ≤ z9.toInt; omega) (by show z9.toInt ≤ (65535 : Int); omega)) ?_
    rintro v425 S426 (⟨z427, g'428, hv429, hS430, hR433, h431, h432⟩)
    subst hv429
    have h431_ : z427.toInt = z9.toInt + 1 := h431
    have h432_ : ∀ j, j ∉ [11, 12, 13, 14] → g'428 j = g'10 j := h432
    replace hS430 : MS S0 S426 (upd f 10 z427) g'428 := hS430
    have hR433_ : RJ (upd f 10 z427) g'428 (((27 : Int), r2.toInt, (f 4).toInt, (0 : Int), []) :: (((24 : Int), on.toInt, (0 : Int), (0 : Int), []) :: gs)) bc [] 0 [] := hR433
    show am_E _ _ _ _ [some (.ref 39), some (.int on), some (.int r2)] [] _ _
    refine am_e2 (v := 39) hi_182_33 rfl ?_
    refine am_e7 hi_182_34 ?_
    refine mm_20 (v := .int (f 4)) hS430 hi_182_35 rfl ?_
    refine am_e0 hi_182_38 ?_
    obtain ⟨z434, hz434, tz434⟩ := am_addI (x := f 4) (y := 1) (m := (f 4).toInt) (n := (1 : Int)) rfl (by decide) (by omega) (by omega)
    refine am_e10 (z := z434) hi_182_39 hz434 ?_
    refine mm_21 (v := z434) hS430 hi_182_40 rfl (Nat.le_of_ble_eq_true rfl) ms_4 ?_
    intro S435 hS436
    replace hS436 : MS S0 S435 (upd (upd f 4 z434) 10 z427) g'428 := hS436
    have hR437 : RJ (upd (upd f 4 z434) 10 z427) g'428 (((27 : Int), r2.toInt, (f 4).toInt, (0 : Int), []) :: (((24 : Int), on.toInt, (0 : Int), (0 : Int), []) :: gs)) bc [] 0 [] := RJ.at hR433_ (by show (f 4).toInt ≤ z434.toInt; omega)
    refine am_e2 (v := 39) hi_182_43 rfl ?_
    refine am_e0 hi_182_44 ?_
    refine am_e32w (as := [.ref 39, .int 12]) (la := [some (.ref 39), some (.int 12)]) (rest := []) hi_182_46 (am_hd0 (M := 182) (by decide) 46) (Nat.le_of_ble_eq_true rfl) (Nat.le_of_ble_eq_true rfl) (show 2 ≤ am_P0.2.2.1 186 from by decide +kernel) rfl (am_recv_ok hS436.fs) rfl rfl ?_
    refine am_e2 (v := 39) hi_186_0 rfl ?_
    refine am_e0 hi_186_1 ?_
    refine am_e1 (v := 12) hi_186_3 rfl ?_
    refine am_e0 hi_186_4 ?_
    refine am_e0 hi_186_5 ?_
    refine am_e32n (as := [.ref 39, .int 23, .int 12, .int 0, .int 0]) (la := [some (.ref 39), some (.int 23), some (.int 12), some (.int 0), some (.int 0)]) (rest := []) hi_186_6 (am_hd0 (M := 186) (by decide) 6) (Nat.le_of_ble_eq_true rfl) (Nat.le_of_ble_eq_true rfl) (show 5 ≤ am_P0.2.2.1 179 from by decide +kernel) rfl (am_recv_ok hS436.fs) rfl rfl (ct_pile (d := (d + 4)) hS436 hR437 (mj_e_plain (by decide)) (by show (0 : Int) ≤ z427.toInt; omega) (by show z427.toInt ≤ (65535 : Int); omega)) ?_
    rintro v438 S439 (⟨z440, g'441, hv442, hS443, hR446, h444, h445⟩)
    subst hv442
    have h444_ : z440.toInt = z427.toInt + 1 := h444
    have h445_ : ∀ j, j ∉ [11, 12, 13, 14] → g'441 j = g'428 j := h445
    replace hS443 : MS S0 S439 (upd (upd f 4 z434) 10 z440) g'441 := hS443
    have hR446_ : RJ (upd (upd f 4 z434) 10 z440) g'441 (((23 : Int), (12 : Int), (0 : Int), (0 : Int), []) :: (((27 : Int), r2.toInt, (f 4).toInt, (0 : Int), []) :: (((24 : Int), on.toInt, (0 : Int), (0 : Int), []) :: gs))) bc [] 0 [] := hR446
    show am_E _ _ _ _ [some (.ref 39), some (.int 12)] [] _ _
    refine am_e35 hi_186_9 ?_
    show am_E _ _ _ _ [some (.ref 39), some (.int on), some (.int r2)] [] _ _
    refine am_e18 hi_182_49 ?_
    refine am_e35 hi_182_57 ?_
    show am_E _ _ _ _ [some (.ref 39), some (.int 23), some (.int on), some (.int tw)] [] _ _
    refine am_e18 hi_181_93 ?_
    refine am_e35 hi_181_397 ?_
    show am_E _ _ _ _ [some (.ref 39), some (.int 23), some (.int on), some (.int tw), some (.int th)] [] _ _
    refine am_e35 hi_180_13 ?_
    have q1 : mg_p1 (((23 : Int), (12 : Int), (0 : Int), (0 : Int), []) :: (((27 : Int), r2.toInt, (f 4).toInt, (0 : Int), []) :: (((24 : Int), on.toInt, (0 : Int), (0 : Int), []) :: gs))) = 0 + (0 + (0 + (mg_p1 gs))) := rfl
    have q2 : mg_p2 (((23 : Int), (12 : Int), (0 : Int), (0 : Int), []) :: (((27 : Int), r2.toInt, (f 4).toInt, (0 : Int), []) :: (((24 : Int), on.toInt, (0 : Int), (0 : Int), []) :: gs))) = 0 + (0 + (0 + (mg_p2 gs))) := rfl
    have q3 : mg_p3 (((23 : Int), (12 : Int), (0 : Int), (0 : Int), []) :: (((27 : Int), r2.toInt, (f 4).toInt, (0 : Int), []) :: (((24 : Int), on.toInt, (0 : Int), (0 : Int), []) :: gs))) = 1 + (1 + (1 + (mg_p3 gs))) := rfl
    have q4 : mg_p4 (((23 : Int), (12 : Int), (0 : Int), (0 : Int), []) :: (((27 : Int), r2.toInt, (f 4).toInt, (0 : Int), []) :: (((24 : Int), on.toInt, (0 : Int), (0 : Int), []) :: gs))) = 0 + (3 + (0 + (mg_p4 gs))) := rfl
    refine ⟨_, _, _, bc, rfl, hS443, Or.inl ⟨⟨hR446_, ?_, ?_⟩, rfl, ?_⟩⟩
    · exact (⟨⟨(show mg_k 23 from by decide), (show (0 : Int) ≤ (f 15).toInt from by omega), (show 0 ≤ (f 20).toInt from by omega), (show 1 ≤ (f 37).toInt from by omega), (show 0 ≤ (f 32).toInt from by omega), (show (f 32).toInt ≤ (f 5).toInt from by omega), (show (f 5).toInt ≤ 48 from by omega), (show (f 37).toInt ≤ 2 * ((f 5).toInt) + 2 from by omega), (show 0 ≤ (12 : Int) from by omega)⟩, ⟨⟨(show mg_k 27 from by decide), (show (1 : Int) ≤ (f 15).toInt + 1 from by omega), (show 0 ≤ (f 20).toInt from by omega), (show 1 ≤ (f 37).toInt + 0 from by omega), (show 0 ≤ (f 32).toInt + 0 from by omega), (show (f 32).toInt + 0 ≤ (f 5).toInt + 0 from by omega), (show (f 5).toInt + 0 ≤ 48 from by omega), (show (f 37).toInt + 0 ≤ 2 * ((f 5).toInt + 0) + 2 from by omega), trivial⟩, ⟨⟨(show mg_k 24 from by decide), (show (1 : Int) ≤ (f 15).toInt + 1 + 0 from by omega), (show 0 ≤ (f 20).toInt from by omega), (show 1 ≤ (f 37).toInt + 0 + 0 from by omega), (show 0 ≤ (f 32).toInt + 0 + 0 from by omega), (show (f 32).toInt + 0 + 0 ≤ (f 5).toInt + 0 + 0 from by omega), (show (f 5).toInt + 0 + 0 ≤ 48 from by omega), (show (f 37).toInt + 0 + 0 ≤ 2 * ((f 5).toInt + 0 + 0) + 2 from by omega), (show 0 ≤ on.toInt from by omega)⟩, mg_cast (mg_good_ext _ _ _ _ _ _ (fun i _ => by show g'441 34 i = g 34 i; rw [show g'441 34 = g'428 34 from h445_ 34 (by decide), show g'428 34 = g'10 34 from h432_ 34 (by decide), show g'10 34 = g 34 from h14_ 34 (by decide)]) (fun i _ => by show g'441 38 i = g 38 i; rw [show g'441 38 = g'428 38 from h445_ 38 (by decide), show g'428 38 = g'10 38 from h432_ 38 (by decide), show g'10 38 = g 38 from h14_ 38 (by decide)]) (fun i _ => by show g'441 23 i = g 23 i; rw [show g'441 23 = g'428 23 from h445_ 23 (by decide), show g'428 23 = g'10 23 from h432_ 23 (by decide), show g'10 23 = g 23 from h14_ 23 (by decide)]) hrest) (by show (f 15).toInt + 1 = (f 15).toInt + 1 + 0 + 0; omega) (by show (f 20).toInt = (f 20).toInt; omega) (by show (f 37).toInt + 0 = (f 37).toInt + 0 + 0 + 0; omega) (by show (f 32).toInt + 0 = (f 32).toInt + 0 + 0 + 0; omega) (by show (f 5).toInt + 0 = (f 5).toInt + 0 + 0 + 0; omega)⟩⟩⟩ : mg_good (g'441 34) (g'441 38) (g'441 23) (((23 : Int), (12 : Int), (0 : Int), (0 : Int), []) :: (((27 : Int), r2.toInt, (f 4).toInt, (0 : Int), []) :: (((24 : Int), on.toInt, (0 : Int), (0 : Int), []) :: gs))) ((f 15).toInt) ((f 20).toInt) ((f 37).toInt) ((f 32).toInt) ((f 5).toInt))
    · exact ⟨(by show 0 ≤ z434.toInt; omega), (by show z434.toInt ≤ (f 0).toInt; omega), (by show (f 0).toInt ≤ 512; omega), (by show 0 ≤ (f 24).toInt; omega), (by show (f 24).toInt + (f 20).toInt + mg_p1 (((23 : Int), (12 : Int), (0 : Int), (0 : Int), []) :: (((27 : Int), r2.toInt, (f 4).toInt, (0 : Int), []) :: (((24 : Int), on.toInt, (0 : Int), (0 : Int), []) :: gs))) ≤ 4 * z434.toInt; omega), (by show (f 20).toInt ≤ z434.toInt; omega), (by show (f 15).toInt + mg_p2 (((23 : Int), (12 : Int), (0 : Int), (0 : Int), []) :: (((27 : Int), r2.toInt, (f 4).toInt, (0 : Int), []) :: (((24 : Int), on.toInt, (0 : Int), (0 : Int), []) :: gs))) ≤ z434.toInt; omega), (by show mg_p3 (((23 : Int), (12 : Int), (0 : Int), (0 : Int), []) :: (((27 : Int), r2.toInt, (f 4).toInt, (0 : Int), []) :: (((24 : Int), on.toInt, (0 : Int), (0 : Int), []) :: gs))) ≤ 20 * z434.toInt + 20; omega), (by show 0 ≤ (f 68).toInt; omega), (by show (f 68).toInt + 3 * (f 20).toInt + mg_p4 (((23 : Int), (12 : Int), (0 : Int), (0 : Int), []) :: (((27 : Int), r2.toInt, (f 4).toInt, (0 : Int), []) :: (((24 : Int), on.toInt, (0 : Int), (0 : Int), []) :: gs))) ≤ 60 * z434.toInt + 60; omega), (by show 0 ≤ (f 62).toInt; omega), (by show (f 62).toInt + 64 * mj_n (g'441 16) (f 15).toNatClampNeg 3 ≤ 64 * z434.toInt; rw [show g'441 16 = g'428 16 from h445_ 16 (by decide), show g'428 16 = g'10 16 from h432_ 16 (by decide), show g'10 16 = g 16 from h14_ 16 (by decide)]; omega), (by show 0 ≤ (f 44).toInt; omega), (by show (f 44).toInt ≤ z434.toInt; omega), (by show 0 ≤ (f 48).toInt; omega), (by show (f 48).toInt ≤ z434.toInt; omega), (by show 1 ≤ (f 53).toInt; omega), (by show (f 53).toInt ≤ z434.toInt + 1; omega), (by show 0 ≤ (f 19).toInt; omega), (by show (f 19).toInt ≤ 600; omega)⟩
    · show 100 * ((f 0).toInt - z434.toInt) + mg_p3 (((23 : Int), (12 : Int), (0 : Int), (0 : Int), []) :: (((27 : Int), r2.toInt, (f 4).toInt, (0 : Int), []) :: (((24 : Int), on.toInt, (0 : Int), (0 : Int), []) :: gs))) < 100 * ((f 0).toInt - (f 4).toInt) + (1 + mg_p3 gs); omega
