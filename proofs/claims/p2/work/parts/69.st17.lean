/-! STEPS: statements (printed by wip/p2/st2.py) -/
set_option maxHeartbeats 16000000 in
theorem st_1 {sc : Nat × (Nat → Int32)} {d : Nat} {S0 S : am_S} {f : Nat → Int32} {g : Nat → Nat → Int32} {on : Int32} {tw : Int32} {th : Int32} {gs : List mg_E} {bc : List (List Nat)} (hS : MS S0 S f g) (hR : RJ f g gs bc [] 0 []) (hrest : mg_good (g 34) (g 38) (g 23) gs ((f 15).toInt + 0) ((f 20).toInt) ((f 37).toInt + 0) ((f 32).toInt + 0) ((f 5).toInt + 0)) (p0 : 0 ≤ (f 4).toInt) (p1 : (f 4).toInt ≤ (f 0).toInt) (p2 : (f 0).toInt ≤ 512) (p3 : 0 ≤ (f 24).toInt) (p4 : (f 24).toInt + (f 20).toInt + mg_p1 gs ≤ 4 * (f 4).toInt) (p5 : (f 20).toInt ≤ (f 4).toInt) (p6 : (f 15).toInt + 0 + mg_p2 gs ≤ (f 4).toInt) (p7 : 1 + mg_p3 gs ≤ 20 * (f 4).toInt + 20) (p8 : 0 ≤ (f 68).toInt) (p9 : (f 68).toInt + 3 * (f 20).toInt + 0 + mg_p4 gs ≤ 60 * (f 4).toInt + 60) (p10 : 0 ≤ (f 62).toInt) (p11 : (f 62).toInt + 64 * mj_n (g 16) (f 15).toNatClampNeg 3 ≤ 64 * (f 4).toInt) (p12 : 0 ≤ (f 44).toInt) (p13 : (f 44).toInt ≤ (f 4).toInt) (p14 : 0 ≤ (f 48).toInt) (p15 : (f 48).toInt ≤ (f 4).toInt) (p16 : 1 ≤ (f 53).toInt) (p17 : (f 53).toInt ≤ (f 4).toInt + 1) (p18 : 0 ≤ (f 19).toInt) (p19 : (f 19).toInt ≤ 600) (p20 : 0 ≤ mg_p1 gs) (p21 : 0 ≤ mg_p2 gs) (p22 : 0 ≤ mg_p4 gs) (p23 : 0 ≤ (f 10).toInt) (p24 : (f 10).toInt ≤ mg_p3 gs) (p25 : 0 ≤ mj_n (g 16) (f 15).toNatClampNeg 3) (p26 : 0 ≤ (f 15).toInt) (p27 : 0 ≤ (f 20).toInt) (p28 : 1 ≤ (f 37).toInt) (p29 : 0 ≤ (f 32).toInt) (p30 : (f 32).toInt ≤ (f 5).toInt) (p31 : (f 5).toInt ≤ 48) (p32 : (f 37).toInt ≤ 2 * (f 5).toInt + 1) : am_E (am_PP sc) (d + 8) 180 0 [some (.ref 39), some (.int 1), some (.int on), some (.int tw), some (.int th)] [] S (am_N fun v S1 => ∃ (f' : Nat → Int32) (g' : Nat → Nat → Int32) (gs' : List mg_E) (bc' : List (List Nat)), v = none ∧ MS S0 S1 f' g' ∧ (mg_on f (100 * ((f 0).toInt - (f 4).toInt) + (1 + mg_p3 gs)) f' g' gs' bc' ∨ mg_off f f' g' bc')) := by
  have hbs := mg_basic hrest
  refine am_e1 (v := 1) hi_180_0 rfl ?_
  refine am_e0 hi_180_1 ?_
  refine am_e13t hi_180_3 (by decide) ?_
  refine am_e1 (v := 1) hi_180_14 rfl ?_
  refine am_e19 (t := 112) hi_180_15 (by decide) ?_
  refine am_e2 (v := 39) hi_180_112 rfl ?_
  refine am_e32w (as := [.ref 39]) (la := [some (.ref 39), none]) (rest := []) hi_180_113 (am_hd0 (M := 180) (by decide) 113) (Nat.le_of_ble_eq_true rfl) (Nat.le_of_ble_eq_true rfl) (show 1 ≤ am_P0.2.2.1 225 from by decide +kernel) rfl (am_recv_ok hS.fs) rfl rfl ?_
  refine am_e2 (v := 39) hi_225_0 rfl ?_
  refine am_e32n (as := [.ref 39]) (la := [some (.ref 39)]) (rest := []) hi_225_1 (am_hd0 (M := 225) (by decide) 1) (Nat.le_of_ble_eq_true rfl) (Nat.le_of_ble_eq_true rfl) (show 1 ≤ am_P0.2.2.1 183 from by decide +kernel) rfl (am_recv_ok hS.fs) rfl rfl (ct_next (d := (d + 5)) hS   (by show (0 : Int) ≤ (f 4).toInt; omega) (by show (f 0).toInt ≤ (16384 : Int); omega)) ?_
  rintro v0 S1 (⟨r2, hv3, hS4, h5⟩)
  subst hv3
  have h5_ : (f 4).toInt < (f 0).toInt ∨ r2.toInt = (-1 : Int) := h5
  show am_E _ _ _ _ [some (.ref 39), none] [.int r2] _ _
  refine am_e3 (ls' := [some (.ref 39), some (.int r2)]) hi_225_4 (Nat.le_of_ble_eq_true rfl) rfl ?_
  refine am_e1 (v := r2) hi_225_5 rfl ?_
  refine am_e32n (as := [.int r2]) (la := [some (.int r2)]) (rest := []) hi_225_6 (am_hd0 (M := 225) (by decide) 6) (Nat.le_of_ble_eq_true rfl) (Nat.le_of_ble_eq_true rfl) (show 1 ≤ am_P0.2.2.1 226 from by decide +kernel) rfl rfl rfl rfl (ct_isFollower (d := (d + 6)) hS4   ) ?_
  rintro v7 S8 (⟨r9, hv10, hS11, h12, h13⟩)
  subst hv10
  have h12_ : r9 = 0 ∨ r9 = 1 := h12
  have h13_ : r9.toInt = (1 : Int) ∨ ¬ r2.toInt = -1 := h13
  show am_E _ _ _ _ [some (.ref 39), some (.int r2)] [.int r9] _ _
  by_cases c15 : r9.toInt = (0 : Int)
  · refine am_e12t hi_225_9 (am_cT (m := r9.toInt) (n := (0 : Int)) rfl (by decide) c15) ?_
    refine am_e1 (v := r2) hi_225_13 rfl ?_
    refine am_e0 hi_225_14 ?_
    by_cases c16 : ¬ r2.toInt = (27 : Int)
    · refine am_e13t hi_225_16 (am_cT (m := r2.toInt) (n := (27 : Int)) rfl (by decide) c16) ?_
      refine am_e2 (v := 39) hi_225_24 rfl ?_
      refine am_e32w (as := [.ref 39]) (la := [some (.ref 39)]) (rest := []) hi_225_25 (am_hd0 (M := 225) (by decide) 25) (Nat.le_of_ble_eq_true rfl) (Nat.le_of_ble_eq_true rfl) (show 1 ≤ am_P0.2.2.1 178 from by decide +kernel) rfl (am_recv_ok hS11.fs) rfl rfl ?_
      refine am_e2 (v := 39) hi_178_0 rfl ?_
      refine am_e0 hi_178_1 ?_
      refine am_e0 hi_178_2 ?_
      refine am_e0 hi_178_3 ?_
      refine am_e0 hi_178_4 ?_
      refine am_e32n (as := [.ref 39, .int 1, .int 0, .int 0, .int 0]) (la := [some (.ref 39), some (.int 1), some (.int 0), some (.int 0), some (.int 0)]) (rest := []) hi_178_5 (am_hd0 (M := 178) (by decide) 5) (Nat.le_of_ble_eq_true rfl) (Nat.le_of_ble_eq_true rfl) (show 5 ≤ am_P0.2.2.1 179 from by decide +kernel) rfl (am_recv_ok hS11.fs) rfl rfl (ct_pile (d := (d + 5)) hS11 hR (mj_e_plain (by decide)) (by show (0 : Int) ≤ (f 10).toInt; omega) (by show (f 10).toInt ≤ (65535 : Int); omega)) ?_
      rintro v17 S18 (⟨z19, g'20, hv21, hS22, hR25, h23, h24⟩)
      subst hv21
      have h23_ : z19.toInt = (f 10).toInt + 1 := h23
      have h24_ : ∀ j, j ∉ [11, 12, 13, 14] → g'20 j = g j := h24
      have hR25_ : RJ (upd f 10 z19) g'20 (((1 : Int), (0 : Int), (0 : Int), (0 : Int), []) :: gs) bc [] 0 [] := hR25
      show am_E _ _ _ _ [some (.ref 39)] [] _ _
      refine am_e35 hi_178_8 ?_
      show am_E _ _ _ _ [some (.ref 39), some (.int r2)] [] _ _
      refine am_e2 (v := 39) hi_225_28 rfl ?_
      refine am_e1 (v := r2) hi_225_29 rfl ?_
      refine am_e32w (as := [.ref 39, .int r2]) (la := [some (.ref 39), some (.int r2), none]) (rest := []) hi_225_30 (am_hd0 (M := 225) (by decide) 30) (Nat.le_of_ble_eq_true rfl) (Nat.le_of_ble_eq_true rfl) (show 2 ≤ am_P0.2.2.1 228 from by decide +kernel) rfl (am_recv_ok hS22.fs) rfl rfl ?_
      refine am_e2 (v := 39) hi_228_0 rfl ?_
      refine mm_20 (v := .int (f 4)) hS22 hi_228_1 rfl ?_
      refine am_e3 (ls' := [some (.ref 39), some (.int r2), some (.int (f 4))]) hi_228_4 (Nat.le_of_ble_eq_true rfl) rfl ?_
      refine am_e1 (v := r2) hi_228_5 rfl ?_
      by_cases c26 : r2.toInt = 11
      · refine am_e19 (t := 154) hi_228_6 (am_swI (v := r2) (w := 11) (by decide) (by decide) c26) ?_
        refine am_e2 (v := 39) hi_228_154 rfl ?_
        refine am_e7 hi_228_155 ?_
        refine mm_20 (v := .int (f 4)) hS22 hi_228_156 rfl ?_
        refine am_e0 hi_228_159 ?_
        obtain ⟨z27, hz27, tz27⟩ := am_addI (x := f 4) (y := 1) (m := (f 4).toInt) (n := (1 : Int)) rfl (by decide) (by omega) (by omega)
        refine am_e10 (z := z27) hi_228_160 hz27 ?_
        refine mm_21 (v := z27) hS22 hi_228_161 rfl (Nat.le_of_ble_eq_true rfl) ms_4 ?_
        intro S28 hS29
        replace hS29 : MS S0 S28 (upd (upd f 4 z27) 10 z19) g'20 := hS29
        have hR30 : RJ (upd (upd f 4 z27) 10 z19) g'20 (((1 : Int), (0 : Int), (0 : Int), (0 : Int), []) :: gs) bc [] 0 [] := RJ.at hR25_ (by show (f 4).toInt ≤ z27.toInt; omega)
        refine am_e2 (v := 39) hi_228_164 rfl ?_
        refine am_e1 (v := f 4) hi_228_165 rfl ?_
        refine am_e32n (as := [.ref 39, .int (f 4)]) (la := [some (.ref 39), some (.int (f 4)), none]) (rest := []) hi_228_166 (am_hd0 (M := 228) (by decide) 166) (Nat.le_of_ble_eq_true rfl) (Nat.le_of_ble_eq_true rfl) (show 2 ≤ am_P0.2.2.1 233 from by decide +kernel) rfl (am_recv_ok hS29.fs) rfl rfl (ct_leaveLoop (d := (d + 4)) hS29 hR30  (by show (0 : Int) ≤ (f 32).toInt; omega) (by show (f 32).toInt ≤ (63 : Int); omega) (by show (f 53).toInt ≤ (4096 : Int); omega) (by show (0 : Int) ≤ (f 68).toInt; omega) (by show (f 68).toInt ≤ (65532 : Int); omega) (by show (0 : Int) ≤ (f 37).toInt; omega) (by show (f 37).toInt ≤ (128 : Int); omega)) ?_
        rintro v31 S32 (⟨a33, b34, s35, g'36, bc237, hv38, hS39, hR44, h40, h41, h42, h43⟩)
        subst hv38
        have h40_ : (f 68).toInt ≤ s35.toInt := h40
        have h41_ : s35.toInt ≤ (f 68).toInt + 2 := h41
        have h42_ : ∀ j, j ∉ [43, 60, 69, 70, 71, 72, 73] → g'36 j = g'20 j := h42
        have h43_ : bc237.length = bc.length := h43
        replace hS39 : MS S0 S32 (upd (upd (upd (upd (upd f 4 z27) 8 a33) 9 b34) 10 z19) 68 s35) g'36 := hS39
        have hR44_ : RJ (upd (upd (upd (upd (upd f 4 z27) 8 a33) 9 b34) 10 z19) 68 s35) g'36 (((1 : Int), (0 : Int), (0 : Int), (0 : Int), []) :: gs) bc237 [] 0 [] := hR44
        show am_E _ _ _ _ [some (.ref 39), some (.int r2), some (.int (f 4))] [] _ _
        refine am_e18 hi_228_169 ?_
        refine am_e35 hi_228_422 ?_
        show am_E _ _ _ _ [some (.ref 39), some (.int r2)] [] _ _
        refine am_e35 hi_225_33 ?_
        show am_E _ _ _ _ [some (.ref 39), some (.int 1), some (.int on), some (.int tw), some (.int th)] [] _ _
        refine am_e18 hi_180_116 ?_
        refine am_e35 hi_180_371 ?_
        have q1 : mg_p1 (((1 : Int), (0 : Int), (0 : Int), (0 : Int), []) :: gs) = 0 + (mg_p1 gs) := rfl
        have q2 : mg_p2 (((1 : Int), (0 : Int), (0 : Int), (0 : Int), []) :: gs) = 0 + (mg_p2 gs) := rfl
        have q3 : mg_p3 (((1 : Int), (0 : Int), (0 : Int), (0 : Int), []) :: gs) = 1 + (mg_p3 gs) := rfl
        have q4 : mg_p4 (((1 : Int), (0 : Int), (0 : Int), (0 : Int), []) :: gs) = 0 + (mg_p4 gs) := rfl
        refine ⟨_, _, _, bc237, rfl, hS39, Or.inl ⟨⟨hR44_, ?_, ?_⟩, rfl, ?_⟩⟩
        · exact (⟨⟨(show mg_k 1 from by decide), (show (0 : Int) ≤ (f 15).toInt from by omega), (show 0 ≤ (f 20).toInt from by omega), (show 1 ≤ (f 37).toInt from by omega), (show 0 ≤ (f 32).toInt from by omega), (show (f 32).toInt ≤ (f 5).toInt from by omega), (show (f 5).toInt ≤ 48 from by omega), (show (f 37).toInt ≤ 2 * ((f 5).toInt) + 1 from by omega), trivial⟩, mg_cast (mg_good_ext _ _ _ _ _ _ (fun i _ => by show g'36 34 i = g 34 i; rw [show g'36 34 = g'20 34 from h42_ 34 (by decide), show g'20 34 = g 34 from h24_ 34 (by decide)]) (fun i _ => by show g'36 38 i = g 38 i; rw [show g'36 38 = g'20 38 from h42_ 38 (by decide), show g'20 38 = g 38 from h24_ 38 (by decide)]) (fun i _ => by show g'36 23 i = g 23 i; rw [show g'36 23 = g'20 23 from h42_ 23 (by decide), show g'20 23 = g 23 from h24_ 23 (by decide)]) hrest) (by show (f 15).toInt + 0 = (f 15).toInt + 0; omega) (by show (f 20).toInt = (f 20).toInt; omega) (by show (f 37).toInt + 0 = (f 37).toInt + 0; omega) (by show (f 32).toInt + 0 = (f 32).toInt + 0; omega) (by show (f 5).toInt + 0 = (f 5).toInt + 0; omega)⟩ : mg_good (g'36 34) (g'36 38) (g'36 23) (((1 : Int), (0 : Int), (0 : Int), (0 : Int), []) :: gs) ((f 15).toInt) ((f 20).toInt) ((f 37).toInt) ((f 32).toInt) ((f 5).toInt))
        · exact ⟨(by show 0 ≤ z27.toInt; omega), (by show z27.toInt ≤ (f 0).toInt; omega), (by show (f 0).toInt ≤ 512; omega), (by show 0 ≤ (f 24).toInt; omega), (by show (f 24).toInt + (f 20).toInt + mg_p1 (((1 : Int), (0 : Int), (0 : Int), (0 : Int), []) :: gs) ≤ 4 * z27.toInt; omega), (by show (f 20).toInt ≤ z27.toInt; omega), (by show (f 15).toInt + mg_p2 (((1 : Int), (0 : Int), (0 : Int), (0 : Int), []) :: gs) ≤ z27.toInt; omega), (by show mg_p3 (((1 : Int), (0 : Int), (0 : Int), (0 : Int), []) :: gs) ≤ 20 * z27.toInt + 20; omega), (by show 0 ≤ s35.toInt; omega), (by show s35.toInt + 3 * (f 20).toInt + mg_p4 (((1 : Int), (0 : Int), (0 : Int), (0 : Int), []) :: gs) ≤ 60 * z27.toInt + 60; omega), (by show 0 ≤ (f 62).toInt; omega), (by show (f 62).toInt + 64 * mj_n (g'36 16) (f 15).toNatClampNeg 3 ≤ 64 * z27.toInt; rw [show g'36 16 = g'20 16 from h42_ 16 (by decide), show g'20 16 = g 16 from h24_ 16 (by decide)]; omega), (by show 0 ≤ (f 44).toInt; omega), (by show (f 44).toInt ≤ z27.toInt; omega), (by show 0 ≤ (f 48).toInt; omega), (by show (f 48).toInt ≤ z27.toInt; omega), (by show 1 ≤ (f 53).toInt; omega), (by show (f 53).toInt ≤ z27.toInt + 1; omega), (by show 0 ≤ (f 19).toInt; omega), (by show (f 19).toInt ≤ 600; omega)⟩
        · show 100 * ((f 0).toInt - z27.toInt) + mg_p3 (((1 : Int), (0 : Int), (0 : Int), (0 : Int), []) :: gs) < 100 * ((f 0).toInt - (f 4).toInt) + (1 + mg_p3 gs); omega
      by_cases c45 : r2.toInt = 12
      · refine am_e19 (t := 201) hi_228_6 (am_swI (v := r2) (w := 12) (by decide) (by decide) c45) ?_
        refine am_e2 (v := 39) hi_228_201 rfl ?_
        refine am_e0 hi_228_202 ?_
        refine am_e32n (as := [.ref 39, .int 12]) (la := [some (.ref 39), some (.int 12)]) (rest := []) hi_228_204 (am_hd0 (M := 228) (by decide) 204) (Nat.le_of_ble_eq_true rfl) (Nat.le_of_ble_eq_true rfl) (show 2 ≤ am_P0.2.2.1 193 from by decide +kernel) rfl (am_recv_ok hS22.fs) rfl rfl (ct_enter (d := (d + 3)) hS22   (by show (0 : Int) ≤ (f 4).toInt; omega) (by show (f 0).toInt ≤ (16384 : Int); omega) (by show (0 : Int) ≤ (12 : Int); omega) (by show (0 : Int) ≤ (f 5).toInt; omega) (by show (f 5).toInt ≤ (48 : Int); omega)) ?_
        rintro v46 S47 (⟨z48, y49, hv50, hS51, h52, h53, h54, h55⟩ | ⟨a57, b58, hv59, hS60⟩)
        · subst hv50
          have h52_ : z48.toInt = (f 4).toInt + 1 := h52
          have h53_ : (f 4).toInt < (f 0).toInt := h53
          have h54_ : y49.toInt = (f 5).toInt + 1 := h54
          have h55_ : y49.toInt ≤ (48 : Int) := h55
          replace hS51 : MS S0 S47 (upd (upd (upd f 4 z48) 5 y49) 10 z19) g'20 := hS51
          have hR62 : RJ (upd (upd (upd f 4 z48) 5 y49) 10 z19) g'20 (((1 : Int), (0 : Int), (0 : Int), (0 : Int), []) :: gs) bc [] 0 [] := RJ.at hR25_ (by show (f 4).toInt ≤ z48.toInt; omega)
          show am_E _ _ _ _ [some (.ref 39), some (.int r2), some (.int (f 4))] [.int 1] _ _
          refine am_e12t hi_228_207 (by decide) ?_
          refine am_e2 (v := 39) hi_228_213 rfl ?_
          refine am_e0 hi_228_214 ?_
          refine am_e32n (as := [.ref 39, .int 0]) (la := [some (.ref 39), some (.int 0)]) (rest := []) hi_228_215 (am_hd0 (M := 228) (by decide) 215) (Nat.le_of_ble_eq_true rfl) (Nat.le_of_ble_eq_true rfl) (show 2 ≤ am_P0.2.2.1 177 from by decide +kernel) rfl (am_recv_ok hS51.fs) rfl rfl (ct_beginBlock2 (d := (d + 5)) hS51 hR62 (by decide)  (by show (0 : Int) ≤ (f 37).toInt; omega) (by show (f 37).toInt ≤ (127 : Int); omega) (by show (0 : Int) ≤ (f 24).toInt; omega) (by show (0 : Int) ≤ (f 44).toInt; omega) (by show (f 44).toInt ≤ z48.toInt; omega) (by show (0 : Int) ≤ (f 48).toInt; omega)) ?_
          rintro v63 S64 (⟨z65, g'66, hv67, hS68, hR72, h69, h70, h71⟩)
          subst hv67
          have h69_ : z65.toInt = (f 37).toInt + 1 := h69
          have h70_ : ∀ j, j ∉ [38, 39, 40, 41, 42, 43] → g'66 j = g'20 j := h70
          have h71_ : g'66 38 = upd (g'20 38) (f 37).toNatClampNeg (f 24) := h71
          have hR72_ : RJ (upd (upd (upd (upd f 4 z48) 5 y49) 10 z19) 37 z65) g'66 (((1 : Int), (0 : Int), (0 : Int), (0 : Int), []) :: gs) ([] :: bc) [] 0 [] := hR72
          show am_E _ _ _ _ [some (.ref 39), some (.int r2), some (.int (f 4))] [] _ _
          refine am_e2 (v := 39) hi_228_218 rfl ?_
          refine am_e0 hi_228_219 ?_
          refine am_e0 hi_228_220 ?_
          refine am_e0 hi_228_221 ?_
          refine am_e0 hi_228_222 ?_
          refine am_e32n (as := [.ref 39, .int 2, .int 0, .int 0, .int 0]) (la := [some (.ref 39), some (.int 2), some (.int 0), some (.int 0), some (.int 0)]) (rest := []) hi_228_223 (am_hd0 (M := 228) (by decide) 223) (Nat.le_of_ble_eq_true rfl) (Nat.le_of_ble_eq_true rfl) (show 5 ≤ am_P0.2.2.1 179 from by decide +kernel) rfl (am_recv_ok hS68.fs) rfl rfl (ct_pile (d := (d + 5)) hS68 hR72_ (mj_e_plain (by decide)) (by show (0 : Int) ≤ z19.toInt; omega) (by show z19.toInt ≤ (65535 : Int); omega)) ?_
          rintro v73 S74 (⟨z75, g'76, hv77, hS78, hR81, h79, h80⟩)
          subst hv77
          have h79_ : z75.toInt = z19.toInt + 1 := h79
          have h80_ : ∀ j, j ∉ [11, 12, 13, 14] → g'76 j = g'66 j := h80
          replace hS78 : MS S0 S74 (upd (upd (upd (upd f 4 z48) 5 y49) 10 z75) 37 z65) g'76 := hS78
          have hR81_ : RJ (upd (upd (upd (upd f 4 z48) 5 y49) 10 z75) 37 z65) g'76 (((2 : Int), (0 : Int), (0 : Int), (0 : Int), []) :: (((1 : Int), (0 : Int), (0 : Int), (0 : Int), []) :: gs)) ([] :: bc) [] 0 [] := hR81
          show am_E _ _ _ _ [some (.ref 39), some (.int r2), some (.int (f 4))] [] _ _
          refine am_e2 (v := 39) hi_228_226 rfl ?_
          refine am_e32w (as := [.ref 39]) (la := [some (.ref 39)]) (rest := []) hi_228_227 (am_hd0 (M := 228) (by decide) 227) (Nat.le_of_ble_eq_true rfl) (Nat.le_of_ble_eq_true rfl) (show 1 ≤ am_P0.2.2.1 178 from by decide +kernel) rfl (am_recv_ok hS78.fs) rfl rfl ?_
          refine am_e2 (v := 39) hi_178_0 rfl ?_
          refine am_e0 hi_178_1 ?_
          refine am_e0 hi_178_2 ?_
          refine am_e0 hi_178_3 ?_
          refine am_e0 hi_178_4 ?_
          refine am_e32n (as := [.ref 39, .int 1, .int 0, .int 0, .int 0]) (la := [some (.ref 39), some (.int 1), some (.int 0), some (.int 0), some (.int 0)]) (rest := []) hi_178_5 (am_hd0 (M := 178) (by decide) 5) (Nat.le_of_ble_eq_true rfl) (Nat.le_of_ble_eq_true rfl) (show 5 ≤ am_P0.2.2.1 179 from by decide +kernel) rfl (am_recv_ok hS78.fs) rfl rfl (ct_pile (d := (d + 4)) hS78 hR81_ (mj_e_plain (by decide)) (by show (0 : Int) ≤ z75.toInt; omega) (by show z75.toInt ≤ (65535 : Int); omega)) ?_
          rintro v82 S83 (⟨z84, g'85, hv86, hS87, hR90, h88, h89⟩)
          subst hv86
          have h88_ : z84.toInt = z75.toInt + 1 := h88
          have h89_ : ∀ j, j ∉ [11, 12, 13, 14] → g'85 j = g'76 j := h89
          replace hS87 : MS S0 S83 (upd (upd (upd (upd f 4 z48) 5 y49) 10 z84) 37 z65) g'85 := hS87
          have hR90_ : RJ (upd (upd (upd (upd f 4 z48) 5 y49) 10 z84) 37 z65) g'85 (((1 : Int), (0 : Int), (0 : Int), (0 : Int), []) :: (((2 : Int), (0 : Int), (0 : Int), (0 : Int), []) :: (((1 : Int), (0 : Int), (0 : Int), (0 : Int), []) :: gs))) ([] :: bc) [] 0 [] := hR90
          show am_E _ _ _ _ [some (.ref 39)] [] _ _
          refine am_e35 hi_178_8 ?_
          show am_E _ _ _ _ [some (.ref 39), some (.int r2), some (.int (f 4))] [] _ _
          refine am_e18 hi_228_230 ?_
          refine am_e35 hi_228_422 ?_
          show am_E _ _ _ _ [some (.ref 39), some (.int r2)] [] _ _
          refine am_e35 hi_225_33 ?_
          show am_E _ _ _ _ [some (.ref 39), some (.int 1), some (.int on), some (.int tw), some (.int th)] [] _ _
          refine am_e18 hi_180_116 ?_
          refine am_e35 hi_180_371 ?_
          have q1 : mg_p1 (((1 : Int), (0 : Int), (0 : Int), (0 : Int), []) :: (((2 : Int), (0 : Int), (0 : Int), (0 : Int), []) :: (((1 : Int), (0 : Int), (0 : Int), (0 : Int), []) :: gs))) = 0 + (0 + (0 + (mg_p1 gs))) := rfl
          have q2 : mg_p2 (((1 : Int), (0 : Int), (0 : Int), (0 : Int), []) :: (((2 : Int), (0 : Int), (0 : Int), (0 : Int), []) :: (((1 : Int), (0 : Int), (0 : Int), (0 : Int), []) :: gs))) = 0 + (0 + (0 + (mg_p2 gs))) := rfl
          have q3 : mg_p3 (((1 : Int), (0 : Int), (0 : Int), (0 : Int), []) :: (((2 : Int), (0 : Int), (0 : Int), (0 : Int), []) :: (((1 : Int), (0 : Int), (0 : Int), (0 : Int), []) :: gs))) = 1 + (1 + (1 + (mg_p3 gs))) := rfl
          have q4 : mg_p4 (((1 : Int), (0 : Int), (0 : Int), (0 : Int), []) :: (((2 : Int), (0 : Int), (0 : Int), (0 : Int), []) :: (((1 : Int), (0 : Int), (0 : Int), (0 : Int), []) :: gs))) = 0 + (0 + (0 + (mg_p4 gs))) := rfl
          refine ⟨_, _, _, ([] :: bc), rfl, hS87, Or.inl ⟨⟨hR90_, ?_, ?_⟩, rfl, ?_⟩⟩
          · exact (⟨⟨(show mg_k 1 from by decide), (show (0 : Int) ≤ (f 15).toInt from by omega), (show 0 ≤ (f 20).toInt from by omega), (show 1 ≤ z65.toInt from by omega), (show 0 ≤ (f 32).toInt from by omega), (show (f 32).toInt ≤ y49.toInt from by omega), (show y49.toInt ≤ 48 from by omega), (show z65.toInt ≤ 2 * (y49.toInt) + 1 from by omega), trivial⟩, ⟨⟨(show mg_k 2 from by decide), (show (0 : Int) ≤ (f 15).toInt + 0 from by omega), (show 0 ≤ (f 20).toInt from by omega), (show 1 ≤ z65.toInt + 0 from by omega), (show 0 ≤ (f 32).toInt + 0 from by omega), (show (f 32).toInt + 0 ≤ y49.toInt + 0 from by omega), (show y49.toInt + 0 ≤ 48 from by omega), (show z65.toInt + 0 ≤ 2 * (y49.toInt + 0) + 0 from by omega), trivial⟩, ⟨⟨(show mg_k 1 from by decide), (show (0 : Int) ≤ (f 15).toInt + 0 + 0 from by omega), (show 0 ≤ (f 20).toInt from by omega), (show 1 ≤ z65.toInt + 0 + -1 from by omega), (show 0 ≤ (f 32).toInt + 0 + 0 from by omega), (show (f 32).toInt + 0 + 0 ≤ y49.toInt + 0 + -1 from by omega), (show y49.toInt + 0 + -1 ≤ 48 from by omega), (show z65.toInt + 0 + -1 ≤ 2 * (y49.toInt + 0 + -1) + 1 from by omega), trivial⟩, mg_cast (mg_good_ext _ _ _ _ _ _ (fun i _ => by show g'85 34 i = g 34 i; rw [show g'85 34 = g'76 34 from h89_ 34 (by decide), show g'76 34 = g'66 34 from h80_ 34 (by decide), show g'66 34 = g'20 34 from h70_ 34 (by decide), show g'20 34 = g 34 from h24_ 34 (by decide)]) (fun i hi => by show g'85 38 i = g 38 i; rw [show g'85 38 = g'76 38 from h89_ 38 (by decide), show g'76 38 = g'66 38 from h80_ 38 (by decide), h71_, show g'20 38 = g 38 from h24_ 38 (by decide)]; exact upd_ne (by rw [cl_toNat]; omega)) (fun i _ => by show g'85 23 i = g 23 i; rw [show g'85 23 = g'76 23 from h89_ 23 (by decide), show g'76 23 = g'66 23 from h80_ 23 (by decide), show g'66 23 = g'20 23 from h70_ 23 (by decide), show g'20 23 = g 23 from h24_ 23 (by decide)]) hrest) (by show (f 15).toInt + 0 = (f 15).toInt + 0 + 0 + 0; omega) (by show (f 20).toInt = (f 20).toInt; omega) (by show (f 37).toInt + 0 = z65.toInt + 0 + -1 + 0; omega) (by show (f 32).toInt + 0 = (f 32).toInt + 0 + 0 + 0; omega) (by show (f 5).toInt + 0 = y49.toInt + 0 + -1 + 0; omega)⟩⟩⟩ : mg_good (g'85 34) (g'85 38) (g'85 23) (((1 : Int), (0 : Int), (0 : Int), (0 : Int), []) :: (((2 : Int), (0 : Int), (0 : Int), (0 : Int), []) :: (((1 : Int), (0 : Int), (0 : Int), (0 : Int), []) :: gs))) ((f 15).toInt) ((f 20).toInt) (z65.toInt) ((f 32).toInt) (y49.toInt))
          · exact ⟨(by show 0 ≤ z48.toInt; omega), (by show z48.toInt ≤ (f 0).toInt; omega), (by show (f 0).toInt ≤ 512; omega), (by show 0 ≤ (f 24).toInt; omega), (by show (f 24).toInt + (f 20).toInt + mg_p1 (((1 : Int), (0 : Int), (0 : Int), (0 : Int), []) :: (((2 : Int), (0 : Int), (0 : Int), (0 : Int), []) :: (((1 : Int), (0 : Int), (0 : Int), (0 : Int), []) :: gs))) ≤ 4 * z48.toInt; omega), (by show (f 20).toInt ≤ z48.toInt; omega), (by show (f 15).toInt + mg_p2 (((1 : Int), (0 : Int), (0 : Int), (0 : Int), []) :: (((2 : Int), (0 : Int), (0 : Int), (0 : Int), []) :: (((1 : Int), (0 : Int), (0 : Int), (0 : Int), []) :: gs))) ≤ z48.toInt; omega), (by show mg_p3 (((1 : Int), (0 : Int), (0 : Int), (0 : Int), []) :: (((2 : Int), (0 : Int), (0 : Int), (0 : Int), []) :: (((1 : Int), (0 : Int), (0 : Int), (0 : Int), []) :: gs))) ≤ 20 * z48.toInt + 20; omega), (by show 0 ≤ (f 68).toInt; omega), (by show (f 68).toInt + 3 * (f 20).toInt + mg_p4 (((1 : Int), (0 : Int), (0 : Int), (0 : Int), []) :: (((2 : Int), (0 : Int), (0 : Int), (0 : Int), []) :: (((1 : Int), (0 : Int), (0 : Int), (0 : Int), []) :: gs))) ≤ 60 * z48.toInt + 60; omega), (by show 0 ≤ (f 62).toInt; omega), (by show (f 62).toInt + 64 * mj_n (g'85 16) (f 15).toNatClampNeg 3 ≤ 64 * z48.toInt; rw [show g'85 16 = g'76 16 from h89_ 16 (by decide), show g'76 16 = g'66 16 from h80_ 16 (by decide), show g'66 16 = g'20 16 from h70_ 16 (by decide), show g'20 16 = g 16 from h24_ 16 (by decide)]; omega), (by show 0 ≤ (f 44).toInt; omega), (by show (f 44).toInt ≤ z48.toInt; omega), (by show 0 ≤ (f 48).toInt; omega), (by show (f 48).toInt ≤ z48.toInt; omega), (by show 1 ≤ (f 53).toInt; omega), (by show (f 53).toInt ≤ z48.toInt + 1; omega), (by show 0 ≤ (f 19).toInt; omega), (by show (f 19).toInt ≤ 600; omega)⟩
          · show 100 * ((f 0).toInt - z48.toInt) + mg_p3 (((1 : Int), (0 : Int), (0 : Int), (0 : Int), []) :: (((2 : Int), (0 : Int), (0 : Int), (0 : Int), []) :: (((1 : Int), (0 : Int), (0 : Int), (0 : Int), []) :: gs))) < 100 * ((f 0).toInt - (f 4).toInt) + (1 + mg_p3 gs); omega
        · subst hv59
          replace hS60 : MS S0 S47 (upd (upd (upd f 6 a57) 7 b58) 10 0) g'20 := hS60
          have hR91 := rj_clear0 hR25_
          have hR92 : RJ (upd (upd (upd f 6 a57) 7 b58) 10 0) g'20 [] bc [] 0 [] := hR91
          show am_E _ _ _ _ [some (.ref 39), some (.int r2), some (.int (f 4))] [.int 0] _ _
          refine am_e12f hi_228_207 (by decide) ?_
          refine am_e18 hi_228_210 ?_
          refine am_e35 hi_228_422 ?_
          show am_E _ _ _ _ [some (.ref 39), some (.int r2)] [] _ _
          refine am_e35 hi_225_33 ?_
          show am_E _ _ _ _ [some (.ref 39), some (.int 1), some (.int on), some (.int tw), some (.int th)] [] _ _
          refine am_e18 hi_180_116 ?_
          refine am_e35 hi_180_371 ?_
          have hRc := rj_clear0 hR92
          refine ⟨_, _, [], _, rfl, hS60, Or.inr ⟨hRc, rfl, (by show 0 ≤ (f 4).toInt; omega), (by show (f 4).toInt ≤ (f 0).toInt; omega), (by show 0 ≤ (f 32).toInt; omega), (by show (f 32).toInt ≤ 63; omega), (by show 1 ≤ (f 53).toInt; omega), (by show (f 53).toInt ≤ 600; omega), (by show 0 ≤ (f 68).toInt; omega), (by show (f 68).toInt ≤ 60000; omega), (by show 0 ≤ (f 48).toInt; omega), (by show (f 48).toInt ≤ 8000; omega), (by show 0 ≤ (f 37).toInt; omega), (by show (f 37).toInt ≤ 128; omega), (by show 0 ≤ (f 62).toInt; omega), (by show (f 62).toInt ≤ 65000; omega), (by show 0 ≤ (f 19).toInt; omega), (by show (f 19).toInt ≤ 600; omega)⟩⟩
      by_cases c93 : r2.toInt = 17
      · refine am_e19 (t := 344) hi_228_6 (am_swI (v := r2) (w := 17) (by decide) (by decide) c93) ?_
        refine am_e2 (v := 39) hi_228_344 rfl ?_
        refine am_e7 hi_228_345 ?_
        refine mm_20 (v := .int (f 4)) hS22 hi_228_346 rfl ?_
        refine am_e0 hi_228_349 ?_
        obtain ⟨z94, hz94, tz94⟩ := am_addI (x := f 4) (y := 1) (m := (f 4).toInt) (n := (1 : Int)) rfl (by decide) (by omega) (by omega)
        refine am_e10 (z := z94) hi_228_350 hz94 ?_
        refine mm_21 (v := z94) hS22 hi_228_351 rfl (Nat.le_of_ble_eq_true rfl) ms_4 ?_
        intro S95 hS96
        replace hS96 : MS S0 S95 (upd (upd f 4 z94) 10 z19) g'20 := hS96
        have hR97 : RJ (upd (upd f 4 z94) 10 z19) g'20 (((1 : Int), (0 : Int), (0 : Int), (0 : Int), []) :: gs) bc [] 0 [] := RJ.at hR25_ (by show (f 4).toInt ≤ z94.toInt; omega)
        refine am_e2 (v := 39) hi_228_354 rfl ?_
        refine am_e1 (v := f 4) hi_228_355 rfl ?_
        refine am_e32w (as := [.ref 39, .int (f 4)]) (la := [some (.ref 39), some (.int (f 4)), none, none]) (rest := []) hi_228_356 (am_hd0 (M := 228) (by decide) 356) (Nat.le_of_ble_eq_true rfl) (Nat.le_of_ble_eq_true rfl) (show 2 ≤ am_P0.2.2.1 235 from by decide +kernel) rfl (am_recv_ok hS96.fs) rfl rfl ?_
        refine am_e2 (v := 39) hi_235_0 rfl ?_
        refine am_e0 hi_235_1 ?_
        refine am_e32n (as := [.ref 39, .int 1]) (la := [some (.ref 39), some (.int 1)]) (rest := []) hi_235_2 (am_hd0 (M := 235) (by decide) 2) (Nat.le_of_ble_eq_true rfl) (Nat.le_of_ble_eq_true rfl) (show 2 ≤ am_P0.2.2.1 200 from by decide +kernel) rfl (am_recv_ok hS96.fs) rfl rfl (ct_take (d := (d + 2)) hS96   (by show (0 : Int) ≤ z94.toInt; omega) (by show (f 0).toInt ≤ (16384 : Int); omega) (by show (0 : Int) ≤ (1 : Int); omega)) ?_
        rintro v98 S99 (⟨z100, hv101, hS102, h103, h104⟩ | ⟨a106, b107, hv108, hS109⟩)
        · subst hv101
          have h103_ : z100.toInt = z94.toInt + 1 := h103
          have h104_ : z94.toInt < (f 0).toInt := h104
          replace hS102 : MS S0 S99 (upd (upd f 4 z100) 10 z19) g'20 := hS102
          have hR111 : RJ (upd (upd f 4 z100) 10 z19) g'20 (((1 : Int), (0 : Int), (0 : Int), (0 : Int), []) :: gs) bc [] 0 [] := RJ.at hR97 (by show z94.toInt ≤ z100.toInt; omega)
          show am_E _ _ _ _ [some (.ref 39), some (.int (f 4)), none, none] [.int 1] _ _
          refine am_e12t hi_235_5 (by decide) ?_
          refine am_e2 (v := 39) hi_235_9 rfl ?_
          refine am_e32n (as := [.ref 39]) (la := [some (.ref 39)]) (rest := []) hi_235_10 (am_hd0 (M := 235) (by decide) 10) (Nat.le_of_ble_eq_true rfl) (Nat.le_of_ble_eq_true rfl) (show 1 ≤ am_P0.2.2.1 183 from by decide +kernel) rfl (am_recv_ok hS102.fs) rfl rfl (ct_next (d := (d + 3)) hS102   (by show (0 : Int) ≤ z100.toInt; omega) (by show (f 0).toInt ≤ (16384 : Int); omega)) ?_
          rintro v112 S113 (⟨r114, hv115, hS116, h117⟩)
          subst hv115
          have h117_ : z100.toInt < (f 0).toInt ∨ r114.toInt = (-1 : Int) := h117
          show am_E _ _ _ _ [some (.ref 39), some (.int (f 4)), none, none] [.int r114] _ _
          refine am_e0 hi_235_13 ?_
          by_cases c119 : ¬ r114.toInt = (59 : Int)
          · refine am_e13t hi_235_15 (am_cT (m := r114.toInt) (n := (59 : Int)) rfl (by decide) c119) ?_
            refine am_e0 hi_235_43 ?_
            refine am_e3 (ls' := [some (.ref 39), some (.int (f 4)), some (.int 1), none]) hi_235_44 (Nat.le_of_ble_eq_true rfl) rfl ?_
            refine fr_loop (d := (d + 2)) (f := (upd (upd f 4 z100) 10 z19)) (g := g'20) (w := (f 4))  (by show (0 : Int) ≤ z100.toInt; omega) (by show (f 0).toInt ≤ (16384 : Int); omega) (by show z100.toInt ≤ (f 0).toInt; omega) (by show (f 0).toInt ≤ (512 : Int); omega) ?_ ?_ (((f 0).toInt - z100.toInt).toNat + 1) _ none 1 z100 hS116 hR111 (by show (1 : Int) ≤ (1 : Int); omega) (by show 2 * (1 : Int) = z100.toInt - z100.toInt + 2; omega) (by show z100.toInt ≤ z100.toInt; omega) (by show z100.toInt ≤ (f 0).toInt; omega) (by show (f 0).toInt - z100.toInt < _; omega)
            · intro S122 x3125 c120 z121 hS123 hR124 h126 h127 h128 h129
              replace hS123 : MS S0 S122 (upd (upd f 4 z121) 10 z19) g'20 := hS123
              have h126_ : (1 : Int) ≤ c120.toInt := h126
              have h127_ : 2 * c120.toInt = z121.toInt - z100.toInt + 2 := h127
              have h128_ : z100.toInt ≤ z121.toInt := h128
              have h129_ : z121.toInt ≤ (f 0).toInt := h129
              have hR124_ : RJ (upd (upd f 4 z121) 10 z19) g'20 (((1 : Int), (0 : Int), (0 : Int), (0 : Int), []) :: gs) bc [] 0 [] := hR124
              show am_E _ _ _ _ [some (.ref 39), some (.int (f 4)), some (.int c120), x3125] [] _ _
              refine am_e2 (v := 39) hi_235_79 rfl ?_
              refine mm_20 (v := .int z121) hS123 hi_235_80 rfl ?_
              refine am_e3 (ls' := [some (.ref 39), some (.int (f 4)), some (.int c120), some (.int z121)]) hi_235_83 (Nat.le_of_ble_eq_true rfl) rfl ?_
              refine am_e2 (v := 39) hi_235_84 rfl ?_
              refine am_e0 hi_235_85 ?_
              refine am_e32n (as := [.ref 39, .int 21]) (la := [some (.ref 39), some (.int 21)]) (rest := []) hi_235_87 (am_hd0 (M := 235) (by decide) 87) (Nat.le_of_ble_eq_true rfl) (Nat.le_of_ble_eq_true rfl) (show 2 ≤ am_P0.2.2.1 200 from by decide +kernel) rfl (am_recv_ok hS123.fs) rfl rfl (ct_take (d := (d + 2)) hS123   (by show (0 : Int) ≤ z121.toInt; omega) (by show (f 0).toInt ≤ (16384 : Int); omega) (by show (0 : Int) ≤ (21 : Int); omega)) ?_
              rintro v130 S131 (⟨z132, hv133, hS134, h135, h136⟩ | ⟨a138, b139, hv140, hS141⟩)
              · subst hv133
                have h135_ : z132.toInt = z121.toInt + 1 := h135
                have h136_ : z121.toInt < (f 0).toInt := h136
                replace hS134 : MS S0 S131 (upd (upd f 4 z132) 10 z19) g'20 := hS134
                have hR143 : RJ (upd (upd f 4 z132) 10 z19) g'20 (((1 : Int), (0 : Int), (0 : Int), (0 : Int), []) :: gs) bc [] 0 [] := RJ.at hR124_ (by show z121.toInt ≤ z132.toInt; omega)
                show am_E _ _ _ _ [some (.ref 39), some (.int (f 4)), some (.int c120), some (.int z121)] [.int 1] _ _
                refine am_e12t hi_235_90 (by decide) ?_
                refine am_e2 (v := 39) hi_235_94 rfl ?_
                refine am_e0 hi_235_95 ?_
                refine am_e1 (v := f 4) hi_235_97 rfl ?_
                refine am_e1 (v := c120) hi_235_98 rfl ?_
                refine am_e1 (v := z121) hi_235_99 rfl ?_
                refine am_e32n (as := [.ref 39, .int 14, .int (f 4), .int c120, .int z121]) (la := [some (.ref 39), some (.int 14), some (.int (f 4)), some (.int c120), some (.int z121)]) (rest := []) hi_235_100 (am_hd0 (M := 235) (by decide) 100) (Nat.le_of_ble_eq_true rfl) (Nat.le_of_ble_eq_true rfl) (show 5 ≤ am_P0.2.2.1 179 from by decide +kernel) rfl (am_recv_ok hS134.fs) rfl rfl (ct_pile (d := (d + 4)) hS134 hR143 (mj_e_plain (by decide)) (by show (0 : Int) ≤ z19.toInt; omega) (by show z19.toInt ≤ (65535 : Int); omega)) ?_
                rintro v144 S145 (⟨z146, g'147, hv148, hS149, hR152, h150, h151⟩)
                subst hv148
                have h150_ : z146.toInt = z19.toInt + 1 := h150
                have h151_ : ∀ j, j ∉ [11, 12, 13, 14] → g'147 j = g'20 j := h151
                replace hS149 : MS S0 S145 (upd (upd f 4 z132) 10 z146) g'147 := hS149
                have hR152_ : RJ (upd (upd f 4 z132) 10 z146) g'147 (((14 : Int), (f 4).toInt, c120.toInt, z121.toInt, []) :: (((1 : Int), (0 : Int), (0 : Int), (0 : Int), []) :: gs)) bc [] 0 [] := hR152
                show am_E _ _ _ _ [some (.ref 39), some (.int (f 4)), some (.int c120), some (.int z121)] [] _ _
                refine am_e2 (v := 39) hi_235_103 rfl ?_
                refine am_e32w (as := [.ref 39]) (la := [some (.ref 39)]) (rest := []) hi_235_104 (am_hd0 (M := 235) (by decide) 104) (Nat.le_of_ble_eq_true rfl) (Nat.le_of_ble_eq_true rfl) (show 1 ≤ am_P0.2.2.1 214 from by decide +kernel) rfl (am_recv_ok hS149.fs) rfl rfl ?_
                refine am_e2 (v := 39) hi_214_0 rfl ?_
                refine am_e0 hi_214_1 ?_
                refine am_e0 hi_214_3 ?_
                refine am_e0 hi_214_4 ?_
                refine am_e0 hi_214_5 ?_
                refine am_e32n (as := [.ref 39, .int 34, .int 1, .int 0, .int 0]) (la := [some (.ref 39), some (.int 34), some (.int 1), some (.int 0), some (.int 0)]) (rest := []) hi_214_6 (am_hd0 (M := 214) (by decide) 6) (Nat.le_of_ble_eq_true rfl) (Nat.le_of_ble_eq_true rfl) (show 5 ≤ am_P0.2.2.1 179 from by decide +kernel) rfl (am_recv_ok hS149.fs) rfl rfl (ct_pile (d := (d + 3)) hS149 hR152_ (mj_e_plain (by decide)) (by show (0 : Int) ≤ z146.toInt; omega) (by show z146.toInt ≤ (65535 : Int); omega)) ?_
                rintro v153 S154 (⟨z155, g'156, hv157, hS158, hR161, h159, h160⟩)
                subst hv157
                have h159_ : z155.toInt = z146.toInt + 1 := h159
                have h160_ : ∀ j, j ∉ [11, 12, 13, 14] → g'156 j = g'147 j := h160
                replace hS158 : MS S0 S154 (upd (upd f 4 z132) 10 z155) g'156 := hS158
                have hR161_ : RJ (upd (upd f 4 z132) 10 z155) g'156 (((34 : Int), (1 : Int), (0 : Int), (0 : Int), []) :: (((14 : Int), (f 4).toInt, c120.toInt, z121.toInt, []) :: (((1 : Int), (0 : Int), (0 : Int), (0 : Int), []) :: gs))) bc [] 0 [] := hR161
                show am_E _ _ _ _ [some (.ref 39)] [] _ _
                refine am_e2 (v := 39) hi_214_9 rfl ?_
                refine am_e0 hi_214_10 ?_
                refine am_e32w (as := [.ref 39, .int 0]) (la := [some (.ref 39), some (.int 0)]) (rest := []) hi_214_11 (am_hd0 (M := 214) (by decide) 11) (Nat.le_of_ble_eq_true rfl) (Nat.le_of_ble_eq_true rfl) (show 2 ≤ am_P0.2.2.1 186 from by decide +kernel) rfl (am_recv_ok hS158.fs) rfl rfl ?_
                refine am_e2 (v := 39) hi_186_0 rfl ?_
                refine am_e0 hi_186_1 ?_
                refine am_e1 (v := 0) hi_186_3 rfl ?_
                refine am_e0 hi_186_4 ?_
                refine am_e0 hi_186_5 ?_
                refine am_e32n (as := [.ref 39, .int 23, .int 0, .int 0, .int 0]) (la := [some (.ref 39), some (.int 23), some (.int 0), some (.int 0), some (.int 0)]) (rest := []) hi_186_6 (am_hd0 (M := 186) (by decide) 6) (Nat.le_of_ble_eq_true rfl) (Nat.le_of_ble_eq_true rfl) (show 5 ≤ am_P0.2.2.1 179 from by decide +kernel) rfl (am_recv_ok hS158.fs) rfl rfl (ct_pile (d := (d + 2)) hS158 hR161_ (mj_e_plain (by decide)) (by show (0 : Int) ≤ z155.toInt; omega) (by show z155.toInt ≤ (65535 : Int); omega)) ?_
                rintro v162 S163 (⟨z164, g'165, hv166, hS167, hR170, h168, h169⟩)
                subst hv166
                have h168_ : z164.toInt = z155.toInt + 1 := h168
                have h169_ : ∀ j, j ∉ [11, 12, 13, 14] → g'165 j = g'156 j := h169
                replace hS167 : MS S0 S163 (upd (upd f 4 z132) 10 z164) g'165 := hS167
                have hR170_ : RJ (upd (upd f 4 z132) 10 z164) g'165 (((23 : Int), (0 : Int), (0 : Int), (0 : Int), []) :: (((34 : Int), (1 : Int), (0 : Int), (0 : Int), []) :: (((14 : Int), (f 4).toInt, c120.toInt, z121.toInt, []) :: (((1 : Int), (0 : Int), (0 : Int), (0 : Int), []) :: gs)))) bc [] 0 [] := hR170
                show am_E _ _ _ _ [some (.ref 39), some (.int 0)] [] _ _
                refine am_e35 hi_186_9 ?_
                show am_E _ _ _ _ [some (.ref 39)] [] _ _
                refine am_e35 hi_214_14 ?_
                show am_E _ _ _ _ [some (.ref 39), some (.int (f 4)), some (.int c120), some (.int z121)] [] _ _
                refine am_e35 hi_235_107 ?_
                show am_E _ _ _ _ [some (.ref 39), some (.int r2), some (.int (f 4))] [] _ _
                refine am_e18 hi_228_359 ?_
                refine am_e35 hi_228_422 ?_
                show am_E _ _ _ _ [some (.ref 39), some (.int r2)] [] _ _
                refine am_e35 hi_225_33 ?_
                show am_E _ _ _ _ [some (.ref 39), some (.int 1), some (.int on), some (.int tw), some (.int th)] [] _ _
                refine am_e18 hi_180_116 ?_
                refine am_e35 hi_180_371 ?_
                have q1 : mg_p1 (((23 : Int), (0 : Int), (0 : Int), (0 : Int), []) :: (((34 : Int), (1 : Int), (0 : Int), (0 : Int), []) :: (((14 : Int), (f 4).toInt, c120.toInt, z121.toInt, []) :: (((1 : Int), (0 : Int), (0 : Int), (0 : Int), []) :: gs)))) = 0 + (0 + (c120.toInt + (0 + (mg_p1 gs)))) := rfl
                have q2 : mg_p2 (((23 : Int), (0 : Int), (0 : Int), (0 : Int), []) :: (((34 : Int), (1 : Int), (0 : Int), (0 : Int), []) :: (((14 : Int), (f 4).toInt, c120.toInt, z121.toInt, []) :: (((1 : Int), (0 : Int), (0 : Int), (0 : Int), []) :: gs)))) = 0 + (((1 : Int) - 1) + (0 + (0 + (mg_p2 gs)))) := rfl
                have q3 : mg_p3 (((23 : Int), (0 : Int), (0 : Int), (0 : Int), []) :: (((34 : Int), (1 : Int), (0 : Int), (0 : Int), []) :: (((14 : Int), (f 4).toInt, c120.toInt, z121.toInt, []) :: (((1 : Int), (0 : Int), (0 : Int), (0 : Int), []) :: gs)))) = 1 + (1 + (1 + (1 + (mg_p3 gs)))) := rfl
                have q4 : mg_p4 (((23 : Int), (0 : Int), (0 : Int), (0 : Int), []) :: (((34 : Int), (1 : Int), (0 : Int), (0 : Int), []) :: (((14 : Int), (f 4).toInt, c120.toInt, z121.toInt, []) :: (((1 : Int), (0 : Int), (0 : Int), (0 : Int), []) :: gs)))) = 0 + (0 + (0 + (0 + (mg_p4 gs)))) := rfl
                refine ⟨_, _, _, bc, rfl, hS167, Or.inl ⟨⟨hR170_, ?_, ?_⟩, rfl, ?_⟩⟩
                · exact (⟨⟨(show mg_k 23 from by decide), (show (0 : Int) ≤ (f 15).toInt from by omega), (show 0 ≤ (f 20).toInt from by omega), (show 1 ≤ (f 37).toInt from by omega), (show 0 ≤ (f 32).toInt from by omega), (show (f 32).toInt ≤ (f 5).toInt from by omega), (show (f 5).toInt ≤ 48 from by omega), (show (f 37).toInt ≤ 2 * ((f 5).toInt) + 2 from by omega), (show 0 ≤ (0 : Int) from by omega)⟩, ⟨⟨(show mg_k 34 from by decide), (show (1 : Int) ≤ (f 15).toInt + 1 from by omega), (show 0 ≤ (f 20).toInt from by omega), (show 1 ≤ (f 37).toInt + 0 from by omega), (show 0 ≤ (f 32).toInt + 0 from by omega), (show (f 32).toInt + 0 ≤ (f 5).toInt + 0 from by omega), (show (f 5).toInt + 0 ≤ 48 from by omega), (show (f 37).toInt + 0 ≤ 2 * ((f 5).toInt + 0) + 2 from by omega), (show 1 ≤ (1 : Int) from by omega)⟩, ⟨⟨(show mg_k 14 from by decide), (show (1 : Int) ≤ (f 15).toInt + 1 + 0 from by omega), (show 0 ≤ (f 20).toInt from by omega), (show 1 ≤ (f 37).toInt + 0 + 0 from by omega), (show 0 ≤ (f 32).toInt + 0 + 0 from by omega), (show (f 32).toInt + 0 + 0 ≤ (f 5).toInt + 0 + 0 from by omega), (show (f 5).toInt + 0 + 0 ≤ 48 from by omega), (show (f 37).toInt + 0 + 0 ≤ 2 * ((f 5).toInt + 0 + 0) + 1 from by omega), ⟨(show 0 ≤ (f 4).toInt from by omega), (show 1 ≤ c120.toInt from by omega), (show (f 4).toInt + 2 * c120.toInt ≤ 16000 from by omega)⟩⟩, ⟨⟨(show mg_k 1 from by decide), (show (0 : Int) ≤ (f 15).toInt + 1 + 0 + -1 from by omega), (show 0 ≤ (f 20).toInt from by omega), (show 1 ≤ (f 37).toInt + 0 + 0 + 0 from by omega), (show 0 ≤ (f 32).toInt + 0 + 0 + 0 from by omega), (show (f 32).toInt + 0 + 0 + 0 ≤ (f 5).toInt + 0 + 0 + 0 from by omega), (show (f 5).toInt + 0 + 0 + 0 ≤ 48 from by omega), (show (f 37).toInt + 0 + 0 + 0 ≤ 2 * ((f 5).toInt + 0 + 0 + 0) + 1 from by omega), trivial⟩, mg_cast (mg_good_ext _ _ _ _ _ _ (fun i _ => by show g'165 34 i = g 34 i; rw [show g'165 34 = g'156 34 from h169_ 34 (by decide), show g'156 34 = g'147 34 from h160_ 34 (by decide), show g'147 34 = g'20 34 from h151_ 34 (by decide), show g'20 34 = g 34 from h24_ 34 (by decide)]) (fun i _ => by show g'165 38 i = g 38 i; rw [show g'165 38 = g'156 38 from h169_ 38 (by decide), show g'156 38 = g'147 38 from h160_ 38 (by decide), show g'147 38 = g'20 38 from h151_ 38 (by decide), show g'20 38 = g 38 from h24_ 38 (by decide)]) (fun i _ => by show g'165 23 i = g 23 i; rw [show g'165 23 = g'156 23 from h169_ 23 (by decide), show g'156 23 = g'147 23 from h160_ 23 (by decide), show g'147 23 = g'20 23 from h151_ 23 (by decide), show g'20 23 = g 23 from h24_ 23 (by decide)]) hrest) (by show (f 15).toInt + 0 = (f 15).toInt + 1 + 0 + -1 + 0; omega) (by show (f 20).toInt = (f 20).toInt; omega) (by show (f 37).toInt + 0 = (f 37).toInt + 0 + 0 + 0 + 0; omega) (by show (f 32).toInt + 0 = (f 32).toInt + 0 + 0 + 0 + 0; omega) (by show (f 5).toInt + 0 = (f 5).toInt + 0 + 0 + 0 + 0; omega)⟩⟩⟩⟩ : mg_good (g'165 34) (g'165 38) (g'165 23) (((23 : Int), (0 : Int), (0 : Int), (0 : Int), []) :: (((34 : Int), (1 : Int), (0 : Int), (0 : Int), []) :: (((14 : Int), (f 4).toInt, c120.toInt, z121.toInt, []) :: (((1 : Int), (0 : Int), (0 : Int), (0 : Int), []) :: gs)))) ((f 15).toInt) ((f 20).toInt) ((f 37).toInt) ((f 32).toInt) ((f 5).toInt))
                · exact ⟨(by show 0 ≤ z132.toInt; omega), (by show z132.toInt ≤ (f 0).toInt; omega), (by show (f 0).toInt ≤ 512; omega), (by show 0 ≤ (f 24).toInt; omega), (by show (f 24).toInt + (f 20).toInt + mg_p1 (((23 : Int), (0 : Int), (0 : Int), (0 : Int), []) :: (((34 : Int), (1 : Int), (0 : Int), (0 : Int), []) :: (((14 : Int), (f 4).toInt, c120.toInt, z121.toInt, []) :: (((1 : Int), (0 : Int), (0 : Int), (0 : Int), []) :: gs)))) ≤ 4 * z132.toInt; omega), (by show (f 20).toInt ≤ z132.toInt; omega), (by show (f 15).toInt + mg_p2 (((23 : Int), (0 : Int), (0 : Int), (0 : Int), []) :: (((34 : Int), (1 : Int), (0 : Int), (0 : Int), []) :: (((14 : Int), (f 4).toInt, c120.toInt, z121.toInt, []) :: (((1 : Int), (0 : Int), (0 : Int), (0 : Int), []) :: gs)))) ≤ z132.toInt; omega), (by show mg_p3 (((23 : Int), (0 : Int), (0 : Int), (0 : Int), []) :: (((34 : Int), (1 : Int), (0 : Int), (0 : Int), []) :: (((14 : Int), (f 4).toInt, c120.toInt, z121.toInt, []) :: (((1 : Int), (0 : Int), (0 : Int), (0 : Int), []) :: gs)))) ≤ 20 * z132.toInt + 20; omega), (by show 0 ≤ (f 68).toInt; omega), (by show (f 68).toInt + 3 * (f 20).toInt + mg_p4 (((23 : Int), (0 : Int), (0 : Int), (0 : Int), []) :: (((34 : Int), (1 : Int), (0 : Int), (0 : Int), []) :: (((14 : Int), (f 4).toInt, c120.toInt, z121.toInt, []) :: (((1 : Int), (0 : Int), (0 : Int), (0 : Int), []) :: gs)))) ≤ 60 * z132.toInt + 60; omega), (by show 0 ≤ (f 62).toInt; omega), (by show (f 62).toInt + 64 * mj_n (g'165 16) (f 15).toNatClampNeg 3 ≤ 64 * z132.toInt; rw [show g'165 16 = g'156 16 from h169_ 16 (by decide), show g'156 16 = g'147 16 from h160_ 16 (by decide), show g'147 16 = g'20 16 from h151_ 16 (by decide), show g'20 16 = g 16 from h24_ 16 (by decide)]; omega), (by show 0 ≤ (f 44).toInt; omega), (by show (f 44).toInt ≤ z132.toInt; omega), (by show 0 ≤ (f 48).toInt; omega), (by show (f 48).toInt ≤ z132.toInt; omega), (by show 1 ≤ (f 53).toInt; omega), (by show (f 53).toInt ≤ z132.toInt + 1; omega), (by show 0 ≤ (f 19).toInt; omega), (by show (f 19).toInt ≤ 600; omega)⟩
                · show 100 * ((f 0).toInt - z132.toInt) + mg_p3 (((23 : Int), (0 : Int), (0 : Int), (0 : Int), []) :: (((34 : Int), (1 : Int), (0 : Int), (0 : Int), []) :: (((14 : Int), (f 4).toInt, c120.toInt, z121.toInt, []) :: (((1 : Int), (0 : Int), (0 : Int), (0 : Int), []) :: gs)))) < 100 * ((f 0).toInt - (f 4).toInt) + (1 + mg_p3 gs); omega
              · subst hv140
                replace hS141 : MS S0 S131 (upd (upd (upd (upd f 4 z121) 6 a138) 7 b139) 10 0) g'20 := hS141
                have hR171 := rj_clear0 hR124_
                have hR172 : RJ (upd (upd (upd (upd f 4 z121) 6 a138) 7 b139) 10 0) g'20 [] bc [] 0 [] := hR171
                show am_E _ _ _ _ [some (.ref 39), some (.int (f 4)), some (.int c120), some (.int z121)] [.int 0] _ _
                refine am_e12f hi_235_90 (by decide) ?_
                refine am_e35 hi_235_93 ?_
                show am_E _ _ _ _ [some (.ref 39), some (.int r2), some (.int (f 4))] [] _ _
                refine am_e18 hi_228_359 ?_
                refine am_e35 hi_228_422 ?_
                show am_E _ _ _ _ [some (.ref 39), some (.int r2)] [] _ _
                refine am_e35 hi_225_33 ?_
                show am_E _ _ _ _ [some (.ref 39), some (.int 1), some (.int on), some (.int tw), some (.int th)] [] _ _
                refine am_e18 hi_180_116 ?_
                refine am_e35 hi_180_371 ?_
                have hRc := rj_clear0 hR172
                refine ⟨_, _, [], _, rfl, hS141, Or.inr ⟨hRc, rfl, (by show 0 ≤ z121.toInt; omega), (by show z121.toInt ≤ (f 0).toInt; omega), (by show 0 ≤ (f 32).toInt; omega), (by show (f 32).toInt ≤ 63; omega), (by show 1 ≤ (f 53).toInt; omega), (by show (f 53).toInt ≤ 600; omega), (by show 0 ≤ (f 68).toInt; omega), (by show (f 68).toInt ≤ 60000; omega), (by show 0 ≤ (f 48).toInt; omega), (by show (f 48).toInt ≤ 8000; omega), (by show 0 ≤ (f 37).toInt; omega), (by show (f 37).toInt ≤ 128; omega), (by show 0 ≤ (f 62).toInt; omega), (by show (f 62).toInt ≤ 65000; omega), (by show 0 ≤ (f 19).toInt; omega), (by show (f 19).toInt ≤ 600; omega)⟩⟩
            · intro S176 x2179 x3180 z173 u_174 v_175 hS177 hR178 h181 h182
              replace hS177 : MS S0 S176 (upd (upd (upd (upd f 4 z173) 6 u_174) 7 v_175) 10 0) g'20 := hS177
              have h181_ : z100.toInt ≤ z173.toInt := h181
              have h182_ : z173.toInt ≤ (f 0).toInt := h182
              have hR178_ : RJ (upd (upd (upd (upd f 4 z173) 6 u_174) 7 v_175) 10 0) g'20 [] bc [] 0 [] := hR178
              show am_E _ _ _ _ [some (.ref 39), some (.int (f 4)), x2179, x3180] [] _ _
              refine am_e35 hi_235_72 ?_
              show am_E _ _ _ _ [some (.ref 39), some (.int r2), some (.int (f 4))] [] _ _
              refine am_e18 hi_228_359 ?_
              refine am_e35 hi_228_422 ?_
              show am_E _ _ _ _ [some (.ref 39), some (.int r2)] [] _ _
              refine am_e35 hi_225_33 ?_
              show am_E _ _ _ _ [some (.ref 39), some (.int 1), some (.int on), some (.int tw), some (.int th)] [] _ _
              refine am_e18 hi_180_116 ?_
              refine am_e35 hi_180_371 ?_
              have hRc := rj_clear0 hR178_
              refine ⟨_, _, [], _, rfl, hS177, Or.inr ⟨hRc, rfl, (by show 0 ≤ z173.toInt; omega), (by show z173.toInt ≤ (f 0).toInt; omega), (by show 0 ≤ (f 32).toInt; omega), (by show (f 32).toInt ≤ 63; omega), (by show 1 ≤ (f 53).toInt; omega), (by show (f 53).toInt ≤ 600; omega), (by show 0 ≤ (f 68).toInt; omega), (by show (f 68).toInt ≤ 60000; omega), (by show 0 ≤ (f 48).toInt; omega), (by show (f 48).toInt ≤ 8000; omega), (by show 0 ≤ (f 37).toInt; omega), (by show (f 37).toInt ≤ 128; omega), (by show 0 ≤ (f 62).toInt; omega), (by show (f 62).toInt ≤ 65000; omega), (by show 0 ≤ (f 19).toInt; omega), (by show (f 19).toInt ≤ 600; omega)⟩⟩
          · refine am_e13f hi_235_15 (am_cF (m := r114.toInt) (n := (59 : Int)) rfl (by decide) c119) ?_
            refine am_e2 (v := 39) hi_235_18 rfl ?_
            refine am_e7 hi_235_19 ?_
            refine mm_20 (v := .int z100) hS116 hi_235_20 rfl ?_
            refine am_e0 hi_235_23 ?_
            obtain ⟨z183, hz183, tz183⟩ := am_addI (x := z100) (y := 1) (m := z100.toInt) (n := (1 : Int)) rfl (by decide) (by omega) (by omega)
            refine am_e10 (z := z183) hi_235_24 hz183 ?_
            refine mm_21 (v := z183) hS116 hi_235_25 rfl (Nat.le_of_ble_eq_true rfl) ms_4 ?_
            intro S184 hS185
            replace hS185 : MS S0 S184 (upd (upd f 4 z183) 10 z19) g'20 := hS185
            have hR186 : RJ (upd (upd f 4 z183) 10 z19) g'20 (((1 : Int), (0 : Int), (0 : Int), (0 : Int), []) :: gs) bc [] 0 [] := RJ.at hR111 (by show z100.toInt ≤ z183.toInt; omega)
            refine am_e2 (v := 39) hi_235_28 rfl ?_
            refine am_e0 hi_235_29 ?_
            refine am_e1 (v := f 4) hi_235_31 rfl ?_
            refine am_e0 hi_235_32 ?_
            refine am_e0 hi_235_33 ?_
            refine am_e32n (as := [.ref 39, .int 10, .int (f 4), .int 0, .int 0]) (la := [some (.ref 39), some (.int 10), some (.int (f 4)), some (.int 0), some (.int 0)]) (rest := []) hi_235_34 (am_hd0 (M := 235) (by decide) 34) (Nat.le_of_ble_eq_true rfl) (Nat.le_of_ble_eq_true rfl) (show 5 ≤ am_P0.2.2.1 179 from by decide +kernel) rfl (am_recv_ok hS185.fs) rfl rfl (ct_pile (d := (d + 4)) hS185 hR186 (mj_e_plain (by decide)) (by show (0 : Int) ≤ z19.toInt; omega) (by show z19.toInt ≤ (65535 : Int); omega)) ?_
            rintro v187 S188 (⟨z189, g'190, hv191, hS192, hR195, h193, h194⟩)
            subst hv191
            have h193_ : z189.toInt = z19.toInt + 1 := h193
            have h194_ : ∀ j, j ∉ [11, 12, 13, 14] → g'190 j = g'20 j := h194
            replace hS192 : MS S0 S188 (upd (upd f 4 z183) 10 z189) g'190 := hS192
            have hR195_ : RJ (upd (upd f 4 z183) 10 z189) g'190 (((10 : Int), (f 4).toInt, (0 : Int), (0 : Int), []) :: (((1 : Int), (0 : Int), (0 : Int), (0 : Int), []) :: gs)) bc [] 0 [] := hR195
            show am_E _ _ _ _ [some (.ref 39), some (.int (f 4)), none, none] [] _ _
            refine am_e2 (v := 39) hi_235_37 rfl ?_
            refine am_e0 hi_235_38 ?_
            refine am_e32w (as := [.ref 39, .int 0]) (la := [some (.ref 39), some (.int 0)]) (rest := []) hi_235_39 (am_hd0 (M := 235) (by decide) 39) (Nat.le_of_ble_eq_true rfl) (Nat.le_of_ble_eq_true rfl) (show 2 ≤ am_P0.2.2.1 186 from by decide +kernel) rfl (am_recv_ok hS192.fs) rfl rfl ?_
            refine am_e2 (v := 39) hi_186_0 rfl ?_
            refine am_e0 hi_186_1 ?_
            refine am_e1 (v := 0) hi_186_3 rfl ?_
            refine am_e0 hi_186_4 ?_
            refine am_e0 hi_186_5 ?_
            refine am_e32n (as := [.ref 39, .int 23, .int 0, .int 0, .int 0]) (la := [some (.ref 39), some (.int 23), some (.int 0), some (.int 0), some (.int 0)]) (rest := []) hi_186_6 (am_hd0 (M := 186) (by decide) 6) (Nat.le_of_ble_eq_true rfl) (Nat.le_of_ble_eq_true rfl) (show 5 ≤ am_P0.2.2.1 179 from by decide +kernel) rfl (am_recv_ok hS192.fs) rfl rfl (ct_pile (d := (d + 3)) hS192 hR195_ (mj_e_plain (by decide)) (by show (0 : Int) ≤ z189.toInt; omega) (by show z189.toInt ≤ (65535 : Int); omega)) ?_
            rintro v196 S197 (⟨z198, g'199, hv200, hS201, hR204, h202, h203⟩)
            subst hv200
            have h202_ : z198.toInt = z189.toInt + 1 := h202
            have h203_ : ∀ j, j ∉ [11, 12, 13, 14] → g'199 j = g'190 j := h203
            replace hS201 : MS S0 S197 (upd (upd f 4 z183) 10 z198) g'199 := hS201
            have hR204_ : RJ (upd (upd f 4 z183) 10 z198) g'199 (((23 : Int), (0 : Int), (0 : Int), (0 : Int), []) :: (((10 : Int), (f 4).toInt, (0 : Int), (0 : Int), []) :: (((1 : Int), (0 : Int), (0 : Int), (0 : Int), []) :: gs))) bc [] 0 [] := hR204
            show am_E _ _ _ _ [some (.ref 39), some (.int 0)] [] _ _
            refine am_e35 hi_186_9 ?_
            show am_E _ _ _ _ [some (.ref 39), some (.int (f 4)), none, none] [] _ _
            refine am_e35 hi_235_42 ?_
            show am_E _ _ _ _ [some (.ref 39), some (.int r2), some (.int (f 4))] [] _ _
            refine am_e18 hi_228_359 ?_
            refine am_e35 hi_228_422 ?_
            show am_E _ _ _ _ [some (.ref 39), some (.int r2)] [] _ _
            refine am_e35 hi_225_33 ?_
            show am_E _ _ _ _ [some (.ref 39), some (.int 1), some (.int on), some (.int tw), some (.int th)] [] _ _
            refine am_e18 hi_180_116 ?_
            refine am_e35 hi_180_371 ?_
            have q1 : mg_p1 (((23 : Int), (0 : Int), (0 : Int), (0 : Int), []) :: (((10 : Int), (f 4).toInt, (0 : Int), (0 : Int), []) :: (((1 : Int), (0 : Int), (0 : Int), (0 : Int), []) :: gs))) = 0 + (0 + (0 + (mg_p1 gs))) := rfl
            have q2 : mg_p2 (((23 : Int), (0 : Int), (0 : Int), (0 : Int), []) :: (((10 : Int), (f 4).toInt, (0 : Int), (0 : Int), []) :: (((1 : Int), (0 : Int), (0 : Int), (0 : Int), []) :: gs))) = 0 + (0 + (0 + (mg_p2 gs))) := rfl
            have q3 : mg_p3 (((23 : Int), (0 : Int), (0 : Int), (0 : Int), []) :: (((10 : Int), (f 4).toInt, (0 : Int), (0 : Int), []) :: (((1 : Int), (0 : Int), (0 : Int), (0 : Int), []) :: gs))) = 1 + (1 + (1 + (mg_p3 gs))) := rfl
            have q4 : mg_p4 (((23 : Int), (0 : Int), (0 : Int), (0 : Int), []) :: (((10 : Int), (f 4).toInt, (0 : Int), (0 : Int), []) :: (((1 : Int), (0 : Int), (0 : Int), (0 : Int), []) :: gs))) = 0 + (0 + (0 + (mg_p4 gs))) := rfl
            refine ⟨_, _, _, bc, rfl, hS201, Or.inl ⟨⟨hR204_, ?_, ?_⟩, rfl, ?_⟩⟩
            · exact (⟨⟨(show mg_k 23 from by decide), (show (0 : Int) ≤ (f 15).toInt from by omega), (show 0 ≤ (f 20).toInt from by omega), (show 1 ≤ (f 37).toInt from by omega), (show 0 ≤ (f 32).toInt from by omega), (show (f 32).toInt ≤ (f 5).toInt from by omega), (show (f 5).toInt ≤ 48 from by omega), (show (f 37).toInt ≤ 2 * ((f 5).toInt) + 2 from by omega), (show 0 ≤ (0 : Int) from by omega)⟩, ⟨⟨(show mg_k 10 from by decide), (show (1 : Int) ≤ (f 15).toInt + 1 from by omega), (show 0 ≤ (f 20).toInt from by omega), (show 1 ≤ (f 37).toInt + 0 from by omega), (show 0 ≤ (f 32).toInt + 0 from by omega), (show (f 32).toInt + 0 ≤ (f 5).toInt + 0 from by omega), (show (f 5).toInt + 0 ≤ 48 from by omega), (show (f 37).toInt + 0 ≤ 2 * ((f 5).toInt + 0) + 1 from by omega), ⟨(show 0 ≤ (f 4).toInt from by omega), (show (f 4).toInt ≤ 16000 from by omega)⟩⟩, ⟨⟨(show mg_k 1 from by decide), (show (0 : Int) ≤ (f 15).toInt + 1 + -1 from by omega), (show 0 ≤ (f 20).toInt from by omega), (show 1 ≤ (f 37).toInt + 0 + 0 from by omega), (show 0 ≤ (f 32).toInt + 0 + 0 from by omega), (show (f 32).toInt + 0 + 0 ≤ (f 5).toInt + 0 + 0 from by omega), (show (f 5).toInt + 0 + 0 ≤ 48 from by omega), (show (f 37).toInt + 0 + 0 ≤ 2 * ((f 5).toInt + 0 + 0) + 1 from by omega), trivial⟩, mg_cast (mg_good_ext _ _ _ _ _ _ (fun i _ => by show g'199 34 i = g 34 i; rw [show g'199 34 = g'190 34 from h203_ 34 (by decide), show g'190 34 = g'20 34 from h194_ 34 (by decide), show g'20 34 = g 34 from h24_ 34 (by decide)]) (fun i _ => by show g'199 38 i = g 38 i; rw [show g'199 38 = g'190 38 from h203_ 38 (by decide), show g'190 38 = g'20 38 from h194_ 38 (by decide), show g'20 38 = g 38 from h24_ 38 (by decide)]) (fun i _ => by show g'199 23 i = g 23 i; rw [show g'199 23 = g'190 23 from h203_ 23 (by decide), show g'190 23 = g'20 23 from h194_ 23 (by decide), show g'20 23 = g 23 from h24_ 23 (by decide)]) hrest) (by show (f 15).toInt + 0 = (f 15).toInt + 1 + -1 + 0; omega) (by show (f 20).toInt = (f 20).toInt; omega) (by show (f 37).toInt + 0 = (f 37).toInt + 0 + 0 + 0; omega) (by show (f 32).toInt + 0 = (f 32).toInt + 0 + 0 + 0; omega) (by show (f 5).toInt + 0 = (f 5).toInt + 0 + 0 + 0; omega)⟩⟩⟩ : mg_good (g'199 34) (g'199 38) (g'199 23) (((23 : Int), (0 : Int), (0 : Int), (0 : Int), []) :: (((10 : Int), (f 4).toInt, (0 : Int), (0 : Int), []) :: (((1 : Int), (0 : Int), (0 : Int), (0 : Int), []) :: gs))) ((f 15).toInt) ((f 20).toInt) ((f 37).toInt) ((f 32).toInt) ((f 5).toInt))
            · exact ⟨(by show 0 ≤ z183.toInt; omega), (by show z183.toInt ≤ (f 0).toInt; omega), (by show (f 0).toInt ≤ 512; omega), (by show 0 ≤ (f 24).toInt; omega), (by show (f 24).toInt + (f 20).toInt + mg_p1 (((23 : Int), (0 : Int), (0 : Int), (0 : Int), []) :: (((10 : Int), (f 4).toInt, (0 : Int), (0 : Int), []) :: (((1 : Int), (0 : Int), (0 : Int), (0 : Int), []) :: gs))) ≤ 4 * z183.toInt; omega), (by show (f 20).toInt ≤ z183.toInt; omega), (by show (f 15).toInt + mg_p2 (((23 : Int), (0 : Int), (0 : Int), (0 : Int), []) :: (((10 : Int), (f 4).toInt, (0 : Int), (0 : Int), []) :: (((1 : Int), (0 : Int), (0 : Int), (0 : Int), []) :: gs))) ≤ z183.toInt; omega), (by show mg_p3 (((23 : Int), (0 : Int), (0 : Int), (0 : Int), []) :: (((10 : Int), (f 4).toInt, (0 : Int), (0 : Int), []) :: (((1 : Int), (0 : Int), (0 : Int), (0 : Int), []) :: gs))) ≤ 20 * z183.toInt + 20; omega), (by show 0 ≤ (f 68).toInt; omega), (by show (f 68).toInt + 3 * (f 20).toInt + mg_p4 (((23 : Int), (0 : Int), (0 : Int), (0 : Int), []) :: (((10 : Int), (f 4).toInt, (0 : Int), (0 : Int), []) :: (((1 : Int), (0 : Int), (0 : Int), (0 : Int), []) :: gs))) ≤ 60 * z183.toInt + 60; omega), (by show 0 ≤ (f 62).toInt; omega), (by show (f 62).toInt + 64 * mj_n (g'199 16) (f 15).toNatClampNeg 3 ≤ 64 * z183.toInt; rw [show g'199 16 = g'190 16 from h203_ 16 (by decide), show g'190 16 = g'20 16 from h194_ 16 (by decide), show g'20 16 = g 16 from h24_ 16 (by decide)]; omega), (by show 0 ≤ (f 44).toInt; omega), (by show (f 44).toInt ≤ z183.toInt; omega), (by show 0 ≤ (f 48).toInt; omega), (by show (f 48).toInt ≤ z183.toInt; omega), (by show 1 ≤ (f 53).toInt; omega), (by show (f 53).toInt ≤ z183.toInt + 1; omega), (by show 0 ≤ (f 19).toInt; omega), (by show (f 19).toInt ≤ 600; omega)⟩
            · show 100 * ((f 0).toInt - z183.toInt) + mg_p3 (((23 : Int), (0 : Int), (0 : Int), (0 : Int), []) :: (((10 : Int), (f 4).toInt, (0 : Int), (0 : Int), []) :: (((1 : Int), (0 : Int), (0 : Int), (0 : Int), []) :: gs))) < 100 * ((f 0).toInt - (f 4).toInt) + (1 + mg_p3 gs); omega
        · subst hv108
          replace hS109 : MS S0 S99 (upd (upd (upd (upd f 4 z94) 6 a106) 7 b107) 10 0) g'20 := hS109
          have hR205 := rj_clear0 hR97
          have hR206 : RJ (upd (upd (upd (upd f 4 z94) 6 a106) 7 b107) 10 0) g'20 [] bc [] 0 [] := hR205
          show am_E _ _ _ _ [some (.ref 39), some (.int (f 4)), none, none] [.int 0] _ _
          refine am_e12f hi_235_5 (by decide) ?_
          refine am_e35 hi_235_8 ?_
          show am_E _ _ _ _ [some (.ref 39), some (.int r2), some (.int (f 4))] [] _ _
          refine am_e18 hi_228_359 ?_
          refine am_e35 hi_228_422 ?_
          show am_E _ _ _ _ [some (.ref 39), some (.int r2)] [] _ _
          refine am_e35 hi_225_33 ?_
          show am_E _ _ _ _ [some (.ref 39), some (.int 1), some (.int on), some (.int tw), some (.int th)] [] _ _
          refine am_e18 hi_180_116 ?_
          refine am_e35 hi_180_371 ?_
          have hRc := rj_clear0 hR206
          refine ⟨_, _, [], _, rfl, hS109, Or.inr ⟨hRc, rfl, (by show 0 ≤ z94.toInt; omega), (by show z94.toInt ≤ (f 0).toInt; omega), (by show 0 ≤ (f 32).toInt; omega), (by show (f 32).toInt ≤ 63; omega), (by show 1 ≤ (f 53).toInt; omega), (by show (f 53).toInt ≤ 600; omega), (by show 0 ≤ (f 68).toInt; omega), (by show (f 68).toInt ≤ 60000; omega), (by show 0 ≤ (f 48).toInt; omega), (by show (f 48).toInt ≤ 8000; omega), (by show 0 ≤ (f 37).toInt; omega), (by show (f 37).toInt ≤ 128; omega), (by show 0 ≤ (f 62).toInt; omega), (by show (f 62).toInt ≤ 65000; omega), (by show 0 ≤ (f 19).toInt; omega), (by show (f 19).toInt ≤ 600; omega)⟩⟩
      by_cases c207 : r2.toInt = 18
      · refine am_e19 (t := 362) hi_228_6 (am_swI (v := r2) (w := 18) (by decide) (by decide) c207) ?_
        refine am_e2 (v := 39) hi_228_362 rfl ?_
        refine am_e0 hi_228_363 ?_
        refine am_e32n (as := [.ref 39, .int 18]) (la := [some (.ref 39), some (.int 18)]) (rest := []) hi_228_365 (am_hd0 (M := 228) (by decide) 365) (Nat.le_of_ble_eq_true rfl) (Nat.le_of_ble_eq_true rfl) (show 2 ≤ am_P0.2.2.1 193 from by decide +kernel) rfl (am_recv_ok hS22.fs) rfl rfl (ct_enter (d := (d + 3)) hS22   (by show (0 : Int) ≤ (f 4).toInt; omega) (by show (f 0).toInt ≤ (16384 : Int); omega) (by show (0 : Int) ≤ (18 : Int); omega) (by show (0 : Int) ≤ (f 5).toInt; omega) (by show (f 5).toInt ≤ (48 : Int); omega)) ?_
        rintro v208 S209 (⟨z210, y211, hv212, hS213, h214, h215, h216, h217⟩ | ⟨a219, b220, hv221, hS222⟩)
        · subst hv212
          have h214_ : z210.toInt = (f 4).toInt + 1 := h214
          have h215_ : (f 4).toInt < (f 0).toInt := h215
          have h216_ : y211.toInt = (f 5).toInt + 1 := h216
          have h217_ : y211.toInt ≤ (48 : Int) := h217
          replace hS213 : MS S0 S209 (upd (upd (upd f 4 z210) 5 y211) 10 z19) g'20 := hS213
          have hR224 : RJ (upd (upd (upd f 4 z210) 5 y211) 10 z19) g'20 (((1 : Int), (0 : Int), (0 : Int), (0 : Int), []) :: gs) bc [] 0 [] := RJ.at hR25_ (by show (f 4).toInt ≤ z210.toInt; omega)
          show am_E _ _ _ _ [some (.ref 39), some (.int r2), some (.int (f 4))] [.int 1] _ _
          refine am_e12f hi_228_368 (by decide) ?_
          refine am_e2 (v := 39) hi_228_371 rfl ?_
          refine am_e1 (v := f 4) hi_228_372 rfl ?_
          refine am_e32w (as := [.ref 39, .int (f 4)]) (la := [some (.ref 39), some (.int (f 4)), none, none, none, none]) (rest := []) hi_228_373 (am_hd0 (M := 228) (by decide) 373) (Nat.le_of_ble_eq_true rfl) (Nat.le_of_ble_eq_true rfl) (show 2 ≤ am_P0.2.2.1 236 from by decide +kernel) rfl (am_recv_ok hS213.fs) rfl rfl ?_
          refine am_e2 (v := 39) hi_236_0 rfl ?_
          refine mm_20 (v := .int z210) hS213 hi_236_1 rfl ?_
          refine am_e3 (ls' := [some (.ref 39), some (.int (f 4)), some (.int z210), none, none, none]) hi_236_4 (Nat.le_of_ble_eq_true rfl) rfl ?_
          refine am_e2 (v := 39) hi_236_5 rfl ?_
          refine am_e0 hi_236_6 ?_
          refine am_e32n (as := [.ref 39, .int 1]) (la := [some (.ref 39), some (.int 1)]) (rest := []) hi_236_7 (am_hd0 (M := 236) (by decide) 7) (Nat.le_of_ble_eq_true rfl) (Nat.le_of_ble_eq_true rfl) (show 2 ≤ am_P0.2.2.1 200 from by decide +kernel) rfl (am_recv_ok hS213.fs) rfl rfl (ct_take (d := (d + 2)) hS213   (by show (0 : Int) ≤ z210.toInt; omega) (by show (f 0).toInt ≤ (16384 : Int); omega) (by show (0 : Int) ≤ (1 : Int); omega)) ?_
          rintro v225 S226 (⟨z227, hv228, hS229, h230, h231⟩ | ⟨a233, b234, hv235, hS236⟩)
          · subst hv228
            have h230_ : z227.toInt = z210.toInt + 1 := h230
            have h231_ : z210.toInt < (f 0).toInt := h231
            replace hS229 : MS S0 S226 (upd (upd (upd f 4 z227) 5 y211) 10 z19) g'20 := hS229
            have hR238 : RJ (upd (upd (upd f 4 z227) 5 y211) 10 z19) g'20 (((1 : Int), (0 : Int), (0 : Int), (0 : Int), []) :: gs) bc [] 0 [] := RJ.at hR224 (by show z210.toInt ≤ z227.toInt; omega)
            show am_E _ _ _ _ [some (.ref 39), some (.int (f 4)), some (.int z210), none, none, none] [.int 1] _ _
            refine am_e12t hi_236_10 (by decide) ?_
            refine am_e2 (v := 39) hi_236_14 rfl ?_
            refine am_e32n (as := [.ref 39]) (la := [some (.ref 39)]) (rest := []) hi_236_15 (am_hd0 (M := 236) (by decide) 15) (Nat.le_of_ble_eq_true rfl) (Nat.le_of_ble_eq_true rfl) (show 1 ≤ am_P0.2.2.1 183 from by decide +kernel) rfl (am_recv_ok hS229.fs) rfl rfl (ct_next (d := (d + 3)) hS229   (by show (0 : Int) ≤ z227.toInt; omega) (by show (f 0).toInt ≤ (16384 : Int); omega)) ?_
            rintro v239 S240 (⟨r241, hv242, hS243, h244⟩)
            subst hv242
            have h244_ : z227.toInt < (f 0).toInt ∨ r241.toInt = (-1 : Int) := h244
            show am_E _ _ _ _ [some (.ref 39), some (.int (f 4)), some (.int z210), none, none, none] [.int r241] _ _
            refine am_e0 hi_236_18 ?_
            by_cases c246 : r241.toInt = (70 : Int)
            · refine am_e13t hi_236_20 (am_cT (m := r241.toInt) (n := (70 : Int)) rfl (by decide) c246) ?_
              refine am_e2 (v := 39) hi_236_66 rfl ?_
              refine am_e0 hi_236_67 ?_
              refine am_e0 hi_236_68 ?_
              refine am_e1 (v := z210) hi_236_69 rfl ?_
              refine am_e32n (as := [.ref 39, .int 3, .int 0, .int z210]) (la := [some (.ref 39), some (.int 3), some (.int 0), some (.int z210)]) (rest := []) hi_236_70 (am_hd0 (M := 236) (by decide) 70) (Nat.le_of_ble_eq_true rfl) (Nat.le_of_ble_eq_true rfl) (show 4 ≤ am_P0.2.2.1 190 from by decide +kernel) rfl (am_recv_ok hS243.fs) rfl rfl (ct_value (d := (d + 4)) hS243 hR238 (fun _ => ⟨by omega, by omega⟩) (fun h => absurd h (by decide)) (by show (0 : Int) ≤ (f 15).toInt; omega) (by show (f 15).toInt ≤ (32767 : Int); omega)) ?_
              rintro v247 S248 (⟨z249, g'250, hv251, hS252, hR257, h253, h254, h255, h256⟩)
              subst hv251
              have h253_ : z249.toInt = (f 15).toInt + 1 := h253
              have h254_ : ∀ j, j ∉ [16, 17, 18] → g'250 j = g'20 j := h254
              have h255_ : mj_n (g'250 16) z249.toNatClampNeg 3 ≤ mj_n (g 16) (f 15).toNatClampNeg 3 + 1 := by rw [show g'20 16 = g 16 from h24_ 16 (by decide)] at h255; exact h255
              have h256_ : (3 : Int) = 3 ∨ mj_n (g'250 16) z249.toNatClampNeg 3 ≤ mj_n (g 16) (f 15).toNatClampNeg 3 := by rw [show g'20 16 = g 16 from h24_ 16 (by decide)] at h256; exact h256
              have hR257_ : RJ (upd (upd (upd (upd f 4 z227) 5 y211) 10 z19) 15 z249) g'250 (((1 : Int), (0 : Int), (0 : Int), (0 : Int), []) :: gs) bc [] 0 [] := hR257
              show am_E _ _ _ _ [some (.ref 39), some (.int (f 4)), some (.int z210), none, none, none] [] _ _
              refine am_e2 (v := 39) hi_236_73 rfl ?_
              refine am_e32w (as := [.ref 39]) (la := [some (.ref 39)]) (rest := []) hi_236_74 (am_hd0 (M := 236) (by decide) 74) (Nat.le_of_ble_eq_true rfl) (Nat.le_of_ble_eq_true rfl) (show 1 ≤ am_P0.2.2.1 209 from by decide +kernel) rfl (am_recv_ok hS252.fs) rfl rfl ?_
              refine am_e2 (v := 39) hi_209_0 rfl ?_
              refine am_e32n (as := [.ref 39]) (la := [some (.ref 39), none, none, none]) (rest := []) hi_209_1 (am_hd0 (M := 209) (by decide) 1) (Nat.le_of_ble_eq_true rfl) (Nat.le_of_ble_eq_true rfl) (show 1 ≤ am_P0.2.2.1 204 from by decide +kernel) rfl (am_recv_ok hS252.fs) rfl rfl (ct_load (d := (d + 1)) hS252 hR257_  (by show (0 : Int) ≤ (f 32).toInt; omega) (by show (f 32).toInt ≤ (63 : Int); omega) (by show (f 53).toInt ≤ (4096 : Int); omega) (by show (0 : Int) ≤ (f 68).toInt; omega) (by show (f 68).toInt ≤ (65534 : Int); omega) (by show (1 : Int) ≤ z249.toInt; omega) (by show z249.toInt ≤ (32767 : Int); omega) (by show (0 : Int) ≤ (f 24).toInt; omega) (by show (f 24).toInt ≤ (16384 : Int); omega) (by show (0 : Int) ≤ (f 62).toInt; omega) (by show (f 62).toInt ≤ (65000 : Int); omega)) ?_
              rintro v258 S259 (⟨o260, s261, m262, g'263, hv264, hS265, hR272, h266, h267, h268, h269, h270, h271⟩)
              subst hv264
              have h266_ : (f 62).toInt ≤ o260.toInt := h266
              have h267_ : o260.toInt ≤ (f 62).toInt + 64 := h267
              have h268_ : (f 68).toInt ≤ s261.toInt := h268
              have h269_ : s261.toInt ≤ (f 68).toInt + 1 := h269
              have h270_ : o260.toInt + 64 * mj_n (g'263 16) z249.toNatClampNeg 3 ≤ (f 62).toInt + 64 * mj_n (g'250 16) z249.toNatClampNeg 3 := h270
              have h271_ : ∀ j, j ∉ [16, 60, 63, 64, 65, 66, 67, 69, 70, 71, 72, 73] → g'263 j = g'250 j := h271
              have hR272_ : RJ (upd (upd (upd (upd (upd (upd (upd f 4 z227) 5 y211) 10 z19) 15 z249) 62 o260) 68 s261) 75 m262) g'263 (((1 : Int), (0 : Int), (0 : Int), (0 : Int), []) :: gs) bc [] 0 [] := hR272
              show am_E _ _ _ _ [some (.ref 39)] [] _ _
              refine am_e2 (v := 39) hi_209_4 rfl ?_
              refine am_e7 hi_209_5 ?_
              refine mm_20 (v := .int z249) hS265 hi_209_6 rfl ?_
              refine am_e0 hi_209_9 ?_
              obtain ⟨z273, hz273, tz273⟩ := am_subI (x := z249) (y := 1) (m := z249.toInt) (n := (1 : Int)) rfl (by decide) (by omega) (by omega)
              refine am_e10 (z := z273) hi_209_10 hz273 ?_
              refine mm_21 (v := z273) hS265 hi_209_11 rfl (Nat.le_of_ble_eq_true rfl) ms_15 ?_
              intro S274 hS275
              replace hS275 : MS S0 S274 (upd (upd (upd (upd (upd (upd (upd f 4 z227) 5 y211) 10 z19) 15 z273) 62 o260) 68 s261) 75 m262) g'263 := hS275
              have hp276 : mj_n (g'263 16) z249.toNatClampNeg 3 = mj_n (g'263 16) z273.toNatClampNeg 3 + if (g'263 16 z273.toNatClampNeg).toInt = 3 then 1 else 0 := mj_pop (by rw [cl_toNat, cl_toNat]; omega)
              have hp2761 : mj_n (g'263 16) z273.toNatClampNeg 3 ≤ mj_n (g'263 16) z249.toNatClampNeg 3 := by rw [hp276]; split <;> omega
              have hp2762 : (g'263 16 z273.toNatClampNeg).toInt = 3 → mj_n (g'263 16) z273.toNatClampNeg 3 + 1 ≤ mj_n (g'263 16) z249.toNatClampNeg 3 := fun q => by rw [hp276, if_pos q]; exact Int.le_refl _
              refine am_e35 hi_209_14 ?_
              show am_E _ _ _ _ [some (.ref 39), some (.int (f 4)), some (.int z210), none, none, none] [] _ _
              refine am_e0 hi_236_77 ?_
              refine am_e3 (ls' := [some (.ref 39), some (.int (f 4)), some (.int z210), some (.int 0), none, none]) hi_236_78 (Nat.le_of_ble_eq_true rfl) rfl ?_
              refine am_e2 (v := 39) hi_236_79 rfl ?_
              refine mm_20 (v := .int z227) hS275 hi_236_80 rfl ?_
              refine am_e3 (ls' := [some (.ref 39), some (.int (f 4)), some (.int z210), some (.int 0), some (.int z227), none]) hi_236_83 (Nat.le_of_ble_eq_true rfl) rfl ?_
              refine fr_fs (d := d) (f := (upd (upd (upd (upd (upd (upd (upd f 4 z227) 5 y211) 10 z19) 15 z273) 62 o260) 68 s261) 75 m262)) (g := g'263) (w := (f 4)) (x2 := z210)  (by show (0 : Int) ≤ (f 32).toInt; omega) (by show (f 32).toInt ≤ (63 : Int); omega) (by show (f 53).toInt ≤ (4096 : Int); omega) (by show (0 : Int) ≤ z227.toInt; omega) (by show (f 0).toInt ≤ (16384 : Int); omega) (by show z227.toInt ≤ (f 0).toInt; omega) (by show (f 0).toInt ≤ (512 : Int); omega) (by show (0 : Int) ≤ s261.toInt; omega) (by show s261.toInt ≤ (60000 : Int); omega) ?_ ?_ (((f 0).toInt - z227.toInt).toNat + 1) _ none 0 z227 z227 s261 _ hS275 hR272_ (fun _ _ => rfl) (by decide) (by show z227.toInt ≤ z227.toInt; omega) (by show z227.toInt ≤ (f 0).toInt; omega) (by show s261.toInt ≤ s261.toInt; omega) (by show s261.toInt + z227.toInt ≤ s261.toInt + z227.toInt; omega) (by show (0 : Int) ≤ (0 : Int); omega) (by show (0 : Int) ≤ (1 : Int); omega) (by show (f 0).toInt - z227.toInt < _; omega)
              · intro S281 x5285 m3277 p4278 z279 s280 gx284 hS282 hR283 hg286 hg287 h288 h289 h290 h291
                replace hS282 : MS S0 S281 (upd (upd (upd (upd (upd (upd (upd f 4 z279) 5 y211) 10 z19) 15 z273) 62 o260) 68 s280) 75 m262) gx284 := hS282
                have h288_ : z227.toInt ≤ z279.toInt := h288
                have h289_ : z279.toInt ≤ (f 0).toInt := h289
                have h290_ : s261.toInt ≤ s280.toInt := h290
                have h291_ : s280.toInt + z227.toInt ≤ s261.toInt + z279.toInt := h291
                have hR283_ : RJ (upd (upd (upd (upd (upd (upd (upd f 4 z279) 5 y211) 10 z19) 15 z273) 62 o260) 68 s280) 75 m262) gx284 (((1 : Int), (0 : Int), (0 : Int), (0 : Int), []) :: gs) bc [] 0 [] := hR283
                show am_E _ _ _ _ [some (.ref 39), some (.int (f 4)), some (.int z210), some (.int m3277), some (.int p4278), x5285] [] _ _
                refine am_e2 (v := 39) hi_236_218 rfl ?_
                refine am_e0 hi_236_219 ?_
                refine am_e0 hi_236_221 ?_
                refine am_e0 hi_236_222 ?_
                refine am_e1 (v := p4278) hi_236_223 rfl ?_
                refine am_e32n (as := [.ref 39, .int 16, .int 3, .int 0, .int p4278]) (la := [some (.ref 39), some (.int 16), some (.int 3), some (.int 0), some (.int p4278)]) (rest := []) hi_236_225 (am_hd0 (M := 236) (by decide) 225) (Nat.le_of_ble_eq_true rfl) (Nat.le_of_ble_eq_true rfl) (show 5 ≤ am_P0.2.2.1 179 from by decide +kernel) rfl (am_recv_ok hS282.fs) rfl rfl (ct_pile (d := (d + 4)) hS282 hR283_ (mj_e_plain (by decide)) (by show (0 : Int) ≤ z19.toInt; omega) (by show z19.toInt ≤ (65535 : Int); omega)) ?_
                rintro v292 S293 (⟨z294, g'295, hv296, hS297, hR300, h298, h299⟩)
                subst hv296
                have h298_ : z294.toInt = z19.toInt + 1 := h298
                have h299_ : ∀ j, j ∉ [11, 12, 13, 14] → g'295 j = gx284 j := h299
                replace hS297 : MS S0 S293 (upd (upd (upd (upd (upd (upd (upd f 4 z279) 5 y211) 10 z294) 15 z273) 62 o260) 68 s280) 75 m262) g'295 := hS297
                have hR300_ : RJ (upd (upd (upd (upd (upd (upd (upd f 4 z279) 5 y211) 10 z294) 15 z273) 62 o260) 68 s280) 75 m262) g'295 (((16 : Int), (3 : Int), (0 : Int), p4278.toInt, []) :: (((1 : Int), (0 : Int), (0 : Int), (0 : Int), []) :: gs)) bc [] 0 [] := hR300
                show am_E _ _ _ _ [some (.ref 39), some (.int (f 4)), some (.int z210), some (.int m3277), some (.int p4278), x5285] [] _ _
                refine am_e2 (v := 39) hi_236_228 rfl ?_
                refine am_e0 hi_236_229 ?_
                refine am_e1 (v := f 4) hi_236_231 rfl ?_
                refine am_e0 hi_236_232 ?_
                refine am_e0 hi_236_233 ?_
                refine am_e32n (as := [.ref 39, .int 41, .int (f 4), .int 0, .int 0]) (la := [some (.ref 39), some (.int 41), some (.int (f 4)), some (.int 0), some (.int 0)]) (rest := []) hi_236_234 (am_hd0 (M := 236) (by decide) 234) (Nat.le_of_ble_eq_true rfl) (Nat.le_of_ble_eq_true rfl) (show 5 ≤ am_P0.2.2.1 179 from by decide +kernel) rfl (am_recv_ok hS297.fs) rfl rfl (ct_pile (d := (d + 4)) hS297 hR300_ (mj_e_plain (by decide)) (by show (0 : Int) ≤ z294.toInt; omega) (by show z294.toInt ≤ (65535 : Int); omega)) ?_
                rintro v301 S302 (⟨z303, g'304, hv305, hS306, hR309, h307, h308⟩)
                subst hv305
                have h307_ : z303.toInt = z294.toInt + 1 := h307
                have h308_ : ∀ j, j ∉ [11, 12, 13, 14] → g'304 j = g'295 j := h308
                replace hS306 : MS S0 S302 (upd (upd (upd (upd (upd (upd (upd f 4 z279) 5 y211) 10 z303) 15 z273) 62 o260) 68 s280) 75 m262) g'304 := hS306
                have hR309_ : RJ (upd (upd (upd (upd (upd (upd (upd f 4 z279) 5 y211) 10 z303) 15 z273) 62 o260) 68 s280) 75 m262) g'304 (((41 : Int), (f 4).toInt, (0 : Int), (0 : Int), []) :: (((16 : Int), (3 : Int), (0 : Int), p4278.toInt, []) :: (((1 : Int), (0 : Int), (0 : Int), (0 : Int), []) :: gs))) bc [] 0 [] := hR309
                show am_E _ _ _ _ [some (.ref 39), some (.int (f 4)), some (.int z210), some (.int m3277), some (.int p4278), x5285] [] _ _
                refine am_e2 (v := 39) hi_236_237 rfl ?_
                refine am_e1 (v := m3277) hi_236_238 rfl ?_
                refine am_e1 (v := f 4) hi_236_239 rfl ?_
                refine am_e32n (as := [.ref 39, .int m3277, .int (f 4)]) (la := [some (.ref 39), some (.int m3277), some (.int (f 4)), none, none]) (rest := []) hi_236_240 (am_hd0 (M := 236) (by decide) 240) (Nat.le_of_ble_eq_true rfl) (Nat.le_of_ble_eq_true rfl) (show 3 ≤ am_P0.2.2.1 195 from by decide +kernel) rfl (am_recv_ok hS306.fs) rfl rfl (ct_body (d := d) hS306 hR309_ hg287  (by show (0 : Int) ≤ (f 32).toInt; omega) (by show (f 32).toInt ≤ (62 : Int); omega) (by show (1 : Int) ≤ (f 53).toInt; omega) (by show (f 53).toInt ≤ (4095 : Int); omega) (by show (0 : Int) ≤ z279.toInt; omega) (by show (f 0).toInt ≤ (16384 : Int); omega) (by show (0 : Int) ≤ y211.toInt; omega) (by show y211.toInt ≤ (48 : Int); omega) (by show z279.toInt ≤ (f 0).toInt; omega) (by show (f 0).toInt ≤ (512 : Int); omega) (by show (0 : Int) ≤ (f 24).toInt; omega) (by show (f 24).toInt ≤ (4000 : Int); omega) (by show (0 : Int) ≤ (f 44).toInt; omega) (by show (f 44).toInt ≤ z279.toInt; omega) (by show (0 : Int) ≤ (f 48).toInt; omega) (by show (f 48).toInt ≤ z279.toInt; omega) (by show (0 : Int) ≤ (f 37).toInt; omega) (by show (f 37).toInt ≤ (126 : Int); omega) (by show (0 : Int) ≤ z303.toInt; omega) (by show z303.toInt ≤ (65533 : Int); omega) (by show (0 : Int) ≤ s280.toInt; omega)) ?_
                rintro v310 S311 (⟨z312, y313, a314, b315, t316, l317, i_318, dd319, bz320, mm321, g'322, hv323, hS324, hR337, h325, h326, h327, h328, h329, h330, h331, h332, h333, h334, h335, h336⟩ | ⟨a338, b339, hv340, hS341, hR342⟩ | ⟨z343, y344, u345, v_346, a347, b348, l349, i_350, dd351, bz352, mm353, g'354, hv355, hS356, hR363, h357, h358, h359, h360, h361, h362⟩)
                · subst hv323
                  have h325_ : z279.toInt + 2 ≤ z312.toInt := h325
                  have h326_ : z312.toInt ≤ (f 0).toInt := h326
                  have h327_ : y313.toInt = y211.toInt := h327
                  have h328_ : (f 24).toInt ≤ l317.toInt := h328
                  have h329_ : l317.toInt + z279.toInt ≤ (f 24).toInt + z312.toInt := h329
                  have h330_ : t316.toInt = z303.toInt + 2 := h330
                  have h331_ : dd319.toInt = (f 32).toInt + 1 := h331
                  have h332_ : bz320.toInt = (f 37).toInt + 1 := h332
                  have h333_ : mm321.toInt = (f 53).toInt + 1 := h333
                  have h334_ : ∀ j, j ∉ [11, 12, 13, 14, 25, 26, 27, 28, 29, 30, 33, 34, 35, 36, 38, 39, 40, 41, 42, 43, 54, 55, 56, 58, 59, 60, 67] → g'322 j = g'304 j := h334
                  have h335_ : g'322 34 = upd (g'304 34) dd319.toNatClampNeg (f 24) := h335
                  have h336_ : g'322 38 = upd (g'304 38) (f 37).toNatClampNeg (f 24) := h336
                  replace hS324 : MS S0 S311 (upd (upd (upd (upd (upd (upd (upd (upd (upd (upd (upd (upd (upd (upd f 4 z312) 5 y313) 8 a314) 9 b315) 10 t316) 15 z273) 24 l317) 31 i_318) 32 dd319) 37 bz320) 53 mm321) 62 o260) 68 s280) 75 m262) g'322 := hS324
                  have hR337_ : RJ (upd (upd (upd (upd (upd (upd (upd (upd (upd (upd (upd (upd (upd (upd f 4 z312) 5 y313) 8 a314) 9 b315) 10 t316) 15 z273) 24 l317) 31 i_318) 32 dd319) 37 bz320) 53 mm321) 62 o260) 68 s280) 75 m262) g'322 (((1 : Int), (0 : Int), (0 : Int), (0 : Int), []) :: (((40 : Int), z279.toInt, (0 : Int), (0 : Int), []) :: (((41 : Int), (f 4).toInt, (0 : Int), (0 : Int), []) :: (((16 : Int), (3 : Int), (0 : Int), p4278.toInt, []) :: (((1 : Int), (0 : Int), (0 : Int), (0 : Int), []) :: gs))))) ([] :: bc) [] 0 [] := hR337
                  show am_E _ _ _ _ [some (.ref 39), some (.int (f 4)), some (.int z210), some (.int m3277), some (.int p4278), x5285] [] _ _
                  refine am_e35 hi_236_243 ?_
                  show am_E _ _ _ _ [some (.ref 39), some (.int r2), some (.int (f 4))] [] _ _
                  refine am_e18 hi_228_376 ?_
                  refine am_e35 hi_228_422 ?_
                  show am_E _ _ _ _ [some (.ref 39), some (.int r2)] [] _ _
                  refine am_e35 hi_225_33 ?_
                  show am_E _ _ _ _ [some (.ref 39), some (.int 1), some (.int on), some (.int tw), some (.int th)] [] _ _
                  refine am_e18 hi_180_116 ?_
                  refine am_e35 hi_180_371 ?_
                  have q1 : mg_p1 (((1 : Int), (0 : Int), (0 : Int), (0 : Int), []) :: (((40 : Int), z279.toInt, (0 : Int), (0 : Int), []) :: (((41 : Int), (f 4).toInt, (0 : Int), (0 : Int), []) :: (((16 : Int), (3 : Int), (0 : Int), p4278.toInt, []) :: (((1 : Int), (0 : Int), (0 : Int), (0 : Int), []) :: gs))))) = 0 + (0 + (0 + (0 + (0 + (mg_p1 gs))))) := rfl
                  have q2 : mg_p2 (((1 : Int), (0 : Int), (0 : Int), (0 : Int), []) :: (((40 : Int), z279.toInt, (0 : Int), (0 : Int), []) :: (((41 : Int), (f 4).toInt, (0 : Int), (0 : Int), []) :: (((16 : Int), (3 : Int), (0 : Int), p4278.toInt, []) :: (((1 : Int), (0 : Int), (0 : Int), (0 : Int), []) :: gs))))) = 0 + (0 + (1 + (0 + (0 + (mg_p2 gs))))) := rfl
                  have q3 : mg_p3 (((1 : Int), (0 : Int), (0 : Int), (0 : Int), []) :: (((40 : Int), z279.toInt, (0 : Int), (0 : Int), []) :: (((41 : Int), (f 4).toInt, (0 : Int), (0 : Int), []) :: (((16 : Int), (3 : Int), (0 : Int), p4278.toInt, []) :: (((1 : Int), (0 : Int), (0 : Int), (0 : Int), []) :: gs))))) = 1 + (1 + (1 + (1 + (1 + (mg_p3 gs))))) := rfl
                  have q4 : mg_p4 (((1 : Int), (0 : Int), (0 : Int), (0 : Int), []) :: (((40 : Int), z279.toInt, (0 : Int), (0 : Int), []) :: (((41 : Int), (f 4).toInt, (0 : Int), (0 : Int), []) :: (((16 : Int), (3 : Int), (0 : Int), p4278.toInt, []) :: (((1 : Int), (0 : Int), (0 : Int), (0 : Int), []) :: gs))))) = 0 + (0 + (2 + (3 + (0 + (mg_p4 gs))))) := rfl
                  refine ⟨_, _, _, ([] :: bc), rfl, hS324, Or.inl ⟨⟨hR337_, ?_, ?_⟩, rfl, ?_⟩⟩
                  · exact (⟨⟨(show mg_k 1 from by decide), (show (0 : Int) ≤ z273.toInt from by omega), (show 0 ≤ (f 20).toInt from by omega), (show 1 ≤ bz320.toInt from by omega), (show 0 ≤ dd319.toInt from by omega), (show dd319.toInt ≤ y313.toInt from by omega), (show y313.toInt ≤ 48 from by omega), (show bz320.toInt ≤ 2 * (y313.toInt) + 1 from by omega), trivial⟩, ⟨⟨(show mg_k 40 from by decide), (show (0 : Int) ≤ z273.toInt + 0 from by omega), (show 0 ≤ (f 20).toInt from by omega), (show 1 ≤ bz320.toInt + 0 from by omega), (show 0 ≤ dd319.toInt + 0 from by omega), (show dd319.toInt + 0 ≤ y313.toInt + 0 from by omega), (show y313.toInt + 0 ≤ 48 from by omega), (show bz320.toInt + 0 ≤ 2 * (y313.toInt + 0) + 1 from by omega), trivial⟩, ⟨⟨(show mg_k 41 from by decide), (show (0 : Int) ≤ z273.toInt + 0 + 0 from by omega), (show 0 ≤ (f 20).toInt from by omega), (show 1 ≤ bz320.toInt + 0 + -1 from by omega), (show 0 ≤ dd319.toInt + 0 + -1 from by omega), (show dd319.toInt + 0 + -1 ≤ y313.toInt + 0 + -1 from by omega), (show y313.toInt + 0 + -1 ≤ 48 from by omega), (show bz320.toInt + 0 + -1 ≤ 2 * (y313.toInt + 0 + -1) + 2 from by omega), trivial⟩, ⟨⟨(show mg_k 16 from by decide), (show (1 : Int) ≤ z273.toInt + 0 + 0 + 1 from by omega), (show 0 ≤ (f 20).toInt from by omega), (show 1 ≤ bz320.toInt + 0 + -1 + 0 from by omega), (show 0 ≤ dd319.toInt + 0 + -1 + 0 from by omega), (show dd319.toInt + 0 + -1 + 0 ≤ y313.toInt + 0 + -1 + 0 from by omega), (show y313.toInt + 0 + -1 + 0 ≤ 48 from by omega), (show bz320.toInt + 0 + -1 + 0 ≤ 2 * (y313.toInt + 0 + -1 + 0) + 1 from by omega), trivial⟩, ⟨⟨(show mg_k 1 from by decide), (show (0 : Int) ≤ z273.toInt + 0 + 0 + 1 + -1 from by omega), (show 0 ≤ (f 20).toInt from by omega), (show 1 ≤ bz320.toInt + 0 + -1 + 0 + 0 from by omega), (show 0 ≤ dd319.toInt + 0 + -1 + 0 + 0 from by omega), (show dd319.toInt + 0 + -1 + 0 + 0 ≤ y313.toInt + 0 + -1 + 0 + 0 from by omega), (show y313.toInt + 0 + -1 + 0 + 0 ≤ 48 from by omega), (show bz320.toInt + 0 + -1 + 0 + 0 ≤ 2 * (y313.toInt + 0 + -1 + 0 + 0) + 1 from by omega), trivial⟩, mg_cast (mg_good_ext _ _ _ _ _ _ (fun i hi => by show g'322 34 i = g 34 i; rw [h335_, show g'304 34 = g'295 34 from h308_ 34 (by decide), show g'295 34 = gx284 34 from h299_ 34 (by decide), show gx284 34 = g'263 34 from hg286 34 (by decide), show g'263 34 = g'250 34 from h271_ 34 (by decide), show g'250 34 = g'20 34 from h254_ 34 (by decide), show g'20 34 = g 34 from h24_ 34 (by decide)]; exact upd_ne (by rw [cl_toNat]; omega)) (fun i hi => by show g'322 38 i = g 38 i; rw [h336_, show g'304 38 = g'295 38 from h308_ 38 (by decide), show g'295 38 = gx284 38 from h299_ 38 (by decide), show gx284 38 = g'263 38 from hg286 38 (by decide), show g'263 38 = g'250 38 from h271_ 38 (by decide), show g'250 38 = g'20 38 from h254_ 38 (by decide), show g'20 38 = g 38 from h24_ 38 (by decide)]; exact upd_ne (by rw [cl_toNat]; omega)) (fun i _ => by show g'322 23 i = g 23 i; rw [show g'322 23 = g'304 23 from h334_ 23 (by decide), show g'304 23 = g'295 23 from h308_ 23 (by decide), show g'295 23 = gx284 23 from h299_ 23 (by decide), show gx284 23 = g'263 23 from hg286 23 (by decide), show g'263 23 = g'250 23 from h271_ 23 (by decide), show g'250 23 = g'20 23 from h254_ 23 (by decide), show g'20 23 = g 23 from h24_ 23 (by decide)]) hrest) (by show (f 15).toInt + 0 = z273.toInt + 0 + 0 + 1 + -1 + 0; omega) (by show (f 20).toInt = (f 20).toInt; omega) (by show (f 37).toInt + 0 = bz320.toInt + 0 + -1 + 0 + 0 + 0; omega) (by show (f 32).toInt + 0 = dd319.toInt + 0 + -1 + 0 + 0 + 0; omega) (by show (f 5).toInt + 0 = y313.toInt + 0 + -1 + 0 + 0 + 0; omega)⟩⟩⟩⟩⟩ : mg_good (g'322 34) (g'322 38) (g'322 23) (((1 : Int), (0 : Int), (0 : Int), (0 : Int), []) :: (((40 : Int), z279.toInt, (0 : Int), (0 : Int), []) :: (((41 : Int), (f 4).toInt, (0 : Int), (0 : Int), []) :: (((16 : Int), (3 : Int), (0 : Int), p4278.toInt, []) :: (((1 : Int), (0 : Int), (0 : Int), (0 : Int), []) :: gs))))) (z273.toInt) ((f 20).toInt) (bz320.toInt) (dd319.toInt) (y313.toInt))
                  · exact ⟨(by show 0 ≤ z312.toInt; omega), (by show z312.toInt ≤ (f 0).toInt; omega), (by show (f 0).toInt ≤ 512; omega), (by show 0 ≤ l317.toInt; omega), (by show l317.toInt + (f 20).toInt + mg_p1 (((1 : Int), (0 : Int), (0 : Int), (0 : Int), []) :: (((40 : Int), z279.toInt, (0 : Int), (0 : Int), []) :: (((41 : Int), (f 4).toInt, (0 : Int), (0 : Int), []) :: (((16 : Int), (3 : Int), (0 : Int), p4278.toInt, []) :: (((1 : Int), (0 : Int), (0 : Int), (0 : Int), []) :: gs))))) ≤ 4 * z312.toInt; omega), (by show (f 20).toInt ≤ z312.toInt; omega), (by show z273.toInt + mg_p2 (((1 : Int), (0 : Int), (0 : Int), (0 : Int), []) :: (((40 : Int), z279.toInt, (0 : Int), (0 : Int), []) :: (((41 : Int), (f 4).toInt, (0 : Int), (0 : Int), []) :: (((16 : Int), (3 : Int), (0 : Int), p4278.toInt, []) :: (((1 : Int), (0 : Int), (0 : Int), (0 : Int), []) :: gs))))) ≤ z312.toInt; omega), (by show mg_p3 (((1 : Int), (0 : Int), (0 : Int), (0 : Int), []) :: (((40 : Int), z279.toInt, (0 : Int), (0 : Int), []) :: (((41 : Int), (f 4).toInt, (0 : Int), (0 : Int), []) :: (((16 : Int), (3 : Int), (0 : Int), p4278.toInt, []) :: (((1 : Int), (0 : Int), (0 : Int), (0 : Int), []) :: gs))))) ≤ 20 * z312.toInt + 20; omega), (by show 0 ≤ s280.toInt; omega), (by show s280.toInt + 3 * (f 20).toInt + mg_p4 (((1 : Int), (0 : Int), (0 : Int), (0 : Int), []) :: (((40 : Int), z279.toInt, (0 : Int), (0 : Int), []) :: (((41 : Int), (f 4).toInt, (0 : Int), (0 : Int), []) :: (((16 : Int), (3 : Int), (0 : Int), p4278.toInt, []) :: (((1 : Int), (0 : Int), (0 : Int), (0 : Int), []) :: gs))))) ≤ 60 * z312.toInt + 60; omega), (by show 0 ≤ o260.toInt; omega), (by show o260.toInt + 64 * mj_n (g'322 16) z273.toNatClampNeg 3 ≤ 64 * z312.toInt; rw [show g'322 16 = g'304 16 from h334_ 16 (by decide), show g'304 16 = g'295 16 from h308_ 16 (by decide), show g'295 16 = gx284 16 from h299_ 16 (by decide), show gx284 16 = g'263 16 from hg286 16 (by decide)]; omega), (by show 0 ≤ (f 44).toInt; omega), (by show (f 44).toInt ≤ z312.toInt; omega), (by show 0 ≤ (f 48).toInt; omega), (by show (f 48).toInt ≤ z312.toInt; omega), (by show 1 ≤ mm321.toInt; omega), (by show mm321.toInt ≤ z312.toInt + 1; omega), (by show 0 ≤ (f 19).toInt; omega), (by show (f 19).toInt ≤ 600; omega)⟩
                  · show 100 * ((f 0).toInt - z312.toInt) + mg_p3 (((1 : Int), (0 : Int), (0 : Int), (0 : Int), []) :: (((40 : Int), z279.toInt, (0 : Int), (0 : Int), []) :: (((41 : Int), (f 4).toInt, (0 : Int), (0 : Int), []) :: (((16 : Int), (3 : Int), (0 : Int), p4278.toInt, []) :: (((1 : Int), (0 : Int), (0 : Int), (0 : Int), []) :: gs))))) < 100 * ((f 0).toInt - (f 4).toInt) + (1 + mg_p3 gs); omega
                · subst hv340
                  replace hS341 : MS S0 S311 (upd (upd (upd (upd (upd (upd (upd (upd (upd f 4 z279) 5 y211) 6 a338) 7 b339) 10 0) 15 z273) 62 o260) 68 s280) 75 m262) g'304 := hS341
                  have hR342_ : RJ (upd (upd (upd (upd (upd (upd (upd (upd (upd f 4 z279) 5 y211) 6 a338) 7 b339) 10 0) 15 z273) 62 o260) 68 s280) 75 m262) g'304 [] bc [] 0 [] := hR342
                  show am_E _ _ _ _ [some (.ref 39), some (.int (f 4)), some (.int z210), some (.int m3277), some (.int p4278), x5285] [] _ _
                  refine am_e35 hi_236_243 ?_
                  show am_E _ _ _ _ [some (.ref 39), some (.int r2), some (.int (f 4))] [] _ _
                  refine am_e18 hi_228_376 ?_
                  refine am_e35 hi_228_422 ?_
                  show am_E _ _ _ _ [some (.ref 39), some (.int r2)] [] _ _
                  refine am_e35 hi_225_33 ?_
                  show am_E _ _ _ _ [some (.ref 39), some (.int 1), some (.int on), some (.int tw), some (.int th)] [] _ _
                  refine am_e18 hi_180_116 ?_
                  refine am_e35 hi_180_371 ?_
                  have hRc := rj_clear0 hR342_
                  refine ⟨_, _, [], _, rfl, hS341, Or.inr ⟨hRc, rfl, (by show 0 ≤ z279.toInt; omega), (by show z279.toInt ≤ (f 0).toInt; omega), (by show 0 ≤ (f 32).toInt; omega), (by show (f 32).toInt ≤ 63; omega), (by show 1 ≤ (f 53).toInt; omega), (by show (f 53).toInt ≤ 600; omega), (by show 0 ≤ s280.toInt; omega), (by show s280.toInt ≤ 60000; omega), (by show 0 ≤ (f 48).toInt; omega), (by show (f 48).toInt ≤ 8000; omega), (by show 0 ≤ (f 37).toInt; omega), (by show (f 37).toInt ≤ 128; omega), (by show 0 ≤ o260.toInt; omega), (by show o260.toInt ≤ 65000; omega), (by show 0 ≤ (f 19).toInt; omega), (by show (f 19).toInt ≤ 600; omega)⟩⟩
                · subst hv355
                  have h357_ : z279.toInt ≤ z343.toInt := h357
                  have h358_ : z343.toInt ≤ (f 0).toInt := h358
                  have h359_ : dd351.toInt = (f 32).toInt + 1 := h359
                  have h360_ : bz352.toInt = (f 37).toInt + 1 := h360
                  have h361_ : mm353.toInt = (f 53).toInt + 1 := h361
                  have h362_ : ∀ j, j ∉ [11, 12, 13, 14, 25, 26, 27, 28, 29, 30, 33, 34, 35, 36, 38, 39, 40, 41, 42, 43, 54, 55, 56, 58, 59, 60, 67] → g'354 j = g'304 j := h362
                  replace hS356 : MS S0 S311 (upd (upd (upd (upd (upd (upd (upd (upd (upd (upd (upd (upd (upd (upd (upd (upd f 4 z343) 5 y344) 6 u345) 7 v_346) 8 a347) 9 b348) 10 0) 15 z273) 24 l349) 31 i_350) 32 dd351) 37 bz352) 53 mm353) 62 o260) 68 s280) 75 m262) g'354 := hS356
                  have hR363_ : RJ (upd (upd (upd (upd (upd (upd (upd (upd (upd (upd (upd (upd (upd (upd (upd (upd f 4 z343) 5 y344) 6 u345) 7 v_346) 8 a347) 9 b348) 10 0) 15 z273) 24 l349) 31 i_350) 32 dd351) 37 bz352) 53 mm353) 62 o260) 68 s280) 75 m262) g'354 [] ([] :: bc) [] 0 [] := hR363
                  show am_E _ _ _ _ [some (.ref 39), some (.int (f 4)), some (.int z210), some (.int m3277), some (.int p4278), x5285] [] _ _
                  refine am_e35 hi_236_243 ?_
                  show am_E _ _ _ _ [some (.ref 39), some (.int r2), some (.int (f 4))] [] _ _
                  refine am_e18 hi_228_376 ?_
                  refine am_e35 hi_228_422 ?_
                  show am_E _ _ _ _ [some (.ref 39), some (.int r2)] [] _ _
                  refine am_e35 hi_225_33 ?_
                  show am_E _ _ _ _ [some (.ref 39), some (.int 1), some (.int on), some (.int tw), some (.int th)] [] _ _
                  refine am_e18 hi_180_116 ?_
                  refine am_e35 hi_180_371 ?_
                  have hRc := rj_clear0 hR363_
                  refine ⟨_, _, [], _, rfl, hS356, Or.inr ⟨hRc, rfl, (by show 0 ≤ z343.toInt; omega), (by show z343.toInt ≤ (f 0).toInt; omega), (by show 0 ≤ dd351.toInt; omega), (by show dd351.toInt ≤ 63; omega), (by show 1 ≤ mm353.toInt; omega), (by show mm353.toInt ≤ 600; omega), (by show 0 ≤ s280.toInt; omega), (by show s280.toInt ≤ 60000; omega), (by show 0 ≤ (f 48).toInt; omega), (by show (f 48).toInt ≤ 8000; omega), (by show 0 ≤ bz352.toInt; omega), (by show bz352.toInt ≤ 128; omega), (by show 0 ≤ o260.toInt; omega), (by show o260.toInt ≤ 65000; omega), (by show 0 ≤ (f 19).toInt; omega), (by show (f 19).toInt ≤ 600; omega)⟩⟩
              · intro S368 x3372 x4373 x5374 z364 s365 u_366 v_367 gx371 hS369 hR370 hg375 h376 h377 h378 h379
                replace hS369 : MS S0 S368 (upd (upd (upd (upd (upd (upd (upd (upd (upd f 4 z364) 5 y211) 6 u_366) 7 v_367) 10 0) 15 z273) 62 o260) 68 s365) 75 m262) gx371 := hS369
                have h376_ : z227.toInt ≤ z364.toInt := h376
                have h377_ : z364.toInt ≤ (f 0).toInt := h377
                have h378_ : s261.toInt ≤ s365.toInt := h378
                have h379_ : s365.toInt + z227.toInt ≤ s261.toInt + z364.toInt := h379
                have hR370_ : RJ (upd (upd (upd (upd (upd (upd (upd (upd (upd f 4 z364) 5 y211) 6 u_366) 7 v_367) 10 0) 15 z273) 62 o260) 68 s365) 75 m262) gx371 [] bc [] 0 [] := hR370
                show am_E _ _ _ _ [some (.ref 39), some (.int (f 4)), some (.int z210), x3372, x4373, x5374] [] _ _
                refine am_e35 hi_236_146 ?_
                show am_E _ _ _ _ [some (.ref 39), some (.int r2), some (.int (f 4))] [] _ _
                refine am_e18 hi_228_376 ?_
                refine am_e35 hi_228_422 ?_
                show am_E _ _ _ _ [some (.ref 39), some (.int r2)] [] _ _
                refine am_e35 hi_225_33 ?_
                show am_E _ _ _ _ [some (.ref 39), some (.int 1), some (.int on), some (.int tw), some (.int th)] [] _ _
                refine am_e18 hi_180_116 ?_
                refine am_e35 hi_180_371 ?_
                have hRc := rj_clear0 hR370_
                refine ⟨_, _, [], _, rfl, hS369, Or.inr ⟨hRc, rfl, (by show 0 ≤ z364.toInt; omega), (by show z364.toInt ≤ (f 0).toInt; omega), (by show 0 ≤ (f 32).toInt; omega), (by show (f 32).toInt ≤ 63; omega), (by show 1 ≤ (f 53).toInt; omega), (by show (f 53).toInt ≤ 600; omega), (by show 0 ≤ s365.toInt; omega), (by show s365.toInt ≤ 60000; omega), (by show 0 ≤ (f 48).toInt; omega), (by show (f 48).toInt ≤ 8000; omega), (by show 0 ≤ (f 37).toInt; omega), (by show (f 37).toInt ≤ 128; omega), (by show 0 ≤ o260.toInt; omega), (by show o260.toInt ≤ 65000; omega), (by show 0 ≤ (f 19).toInt; omega), (by show (f 19).toInt ≤ 600; omega)⟩⟩
            · refine am_e13f hi_236_20 (am_cF (m := r241.toInt) (n := (70 : Int)) rfl (by decide) c246) ?_
              refine am_e2 (v := 39) hi_236_23 rfl ?_
              refine am_e32n (as := [.ref 39]) (la := [some (.ref 39)]) (rest := []) hi_236_24 (am_hd0 (M := 236) (by decide) 24) (Nat.le_of_ble_eq_true rfl) (Nat.le_of_ble_eq_true rfl) (show 1 ≤ am_P0.2.2.1 183 from by decide +kernel) rfl (am_recv_ok hS243.fs) rfl rfl (ct_next (d := (d + 3)) hS243   (by show (0 : Int) ≤ z227.toInt; omega) (by show (f 0).toInt ≤ (16384 : Int); omega)) ?_
              rintro v380 S381 (⟨r382, hv383, hS384, h385⟩)
              subst hv383
              have h385_ : z227.toInt < (f 0).toInt ∨ r382.toInt = (-1 : Int) := h385
              show am_E _ _ _ _ [some (.ref 39), some (.int (f 4)), some (.int z210), none, none, none] [.int r382] _ _
              refine am_e0 hi_236_27 ?_
              by_cases c387 : r382.toInt = (68 : Int)
              · refine am_e13t hi_236_29 (am_cT (m := r382.toInt) (n := (68 : Int)) rfl (by decide) c387) ?_
                refine am_e2 (v := 39) hi_236_66 rfl ?_
                refine am_e0 hi_236_67 ?_
                refine am_e0 hi_236_68 ?_
                refine am_e1 (v := z210) hi_236_69 rfl ?_
                refine am_e32n (as := [.ref 39, .int 3, .int 0, .int z210]) (la := [some (.ref 39), some (.int 3), some (.int 0), some (.int z210)]) (rest := []) hi_236_70 (am_hd0 (M := 236) (by decide) 70) (Nat.le_of_ble_eq_true rfl) (Nat.le_of_ble_eq_true rfl) (show 4 ≤ am_P0.2.2.1 190 from by decide +kernel) rfl (am_recv_ok hS384.fs) rfl rfl (ct_value (d := (d + 4)) hS384 hR238 (fun _ => ⟨by omega, by omega⟩) (fun h => absurd h (by decide)) (by show (0 : Int) ≤ (f 15).toInt; omega) (by show (f 15).toInt ≤ (32767 : Int); omega)) ?_
                rintro v388 S389 (⟨z390, g'391, hv392, hS393, hR398, h394, h395, h396, h397⟩)
                subst hv392
                have h394_ : z390.toInt = (f 15).toInt + 1 := h394
                have h395_ : ∀ j, j ∉ [16, 17, 18] → g'391 j = g'20 j := h395
                have h396_ : mj_n (g'391 16) z390.toNatClampNeg 3 ≤ mj_n (g 16) (f 15).toNatClampNeg 3 + 1 := by rw [show g'20 16 = g 16 from h24_ 16 (by decide)] at h396; exact h396
                have h397_ : (3 : Int) = 3 ∨ mj_n (g'391 16) z390.toNatClampNeg 3 ≤ mj_n (g 16) (f 15).toNatClampNeg 3 := by rw [show g'20 16 = g 16 from h24_ 16 (by decide)] at h397; exact h397
                have hR398_ : RJ (upd (upd (upd (upd f 4 z227) 5 y211) 10 z19) 15 z390) g'391 (((1 : Int), (0 : Int), (0 : Int), (0 : Int), []) :: gs) bc [] 0 [] := hR398
                show am_E _ _ _ _ [some (.ref 39), some (.int (f 4)), some (.int z210), none, none, none] [] _ _
                refine am_e2 (v := 39) hi_236_73 rfl ?_
                refine am_e32w (as := [.ref 39]) (la := [some (.ref 39)]) (rest := []) hi_236_74 (am_hd0 (M := 236) (by decide) 74) (Nat.le_of_ble_eq_true rfl) (Nat.le_of_ble_eq_true rfl) (show 1 ≤ am_P0.2.2.1 209 from by decide +kernel) rfl (am_recv_ok hS393.fs) rfl rfl ?_
                refine am_e2 (v := 39) hi_209_0 rfl ?_
                refine am_e32n (as := [.ref 39]) (la := [some (.ref 39), none, none, none]) (rest := []) hi_209_1 (am_hd0 (M := 209) (by decide) 1) (Nat.le_of_ble_eq_true rfl) (Nat.le_of_ble_eq_true rfl) (show 1 ≤ am_P0.2.2.1 204 from by decide +kernel) rfl (am_recv_ok hS393.fs) rfl rfl (ct_load (d := (d + 1)) hS393 hR398_  (by show (0 : Int) ≤ (f 32).toInt; omega) (by show (f 32).toInt ≤ (63 : Int); omega) (by show (f 53).toInt ≤ (4096 : Int); omega) (by show (0 : Int) ≤ (f 68).toInt; omega) (by show (f 68).toInt ≤ (65534 : Int); omega) (by show (1 : Int) ≤ z390.toInt; omega) (by show z390.toInt ≤ (32767 : Int); omega) (by show (0 : Int) ≤ (f 24).toInt; omega) (by show (f 24).toInt ≤ (16384 : Int); omega) (by show (0 : Int) ≤ (f 62).toInt; omega) (by show (f 62).toInt ≤ (65000 : Int); omega)) ?_
                rintro v399 S400 (⟨o401, s402, m403, g'404, hv405, hS406, hR413, h407, h408, h409, h410, h411, h412⟩)
                subst hv405
                have h407_ : (f 62).toInt ≤ o401.toInt := h407
                have h408_ : o401.toInt ≤ (f 62).toInt + 64 := h408
                have h409_ : (f 68).toInt ≤ s402.toInt := h409
                have h410_ : s402.toInt ≤ (f 68).toInt + 1 := h410
                have h411_ : o401.toInt + 64 * mj_n (g'404 16) z390.toNatClampNeg 3 ≤ (f 62).toInt + 64 * mj_n (g'391 16) z390.toNatClampNeg 3 := h411
                have h412_ : ∀ j, j ∉ [16, 60, 63, 64, 65, 66, 67, 69, 70, 71, 72, 73] → g'404 j = g'391 j := h412
                have hR413_ : RJ (upd (upd (upd (upd (upd (upd (upd f 4 z227) 5 y211) 10 z19) 15 z390) 62 o401) 68 s402) 75 m403) g'404 (((1 : Int), (0 : Int), (0 : Int), (0 : Int), []) :: gs) bc [] 0 [] := hR413
                show am_E _ _ _ _ [some (.ref 39)] [] _ _
                refine am_e2 (v := 39) hi_209_4 rfl ?_
                refine am_e7 hi_209_5 ?_
                refine mm_20 (v := .int z390) hS406 hi_209_6 rfl ?_
                refine am_e0 hi_209_9 ?_
                obtain ⟨z414, hz414, tz414⟩ := am_subI (x := z390) (y := 1) (m := z390.toInt) (n := (1 : Int)) rfl (by decide) (by omega) (by omega)
                refine am_e10 (z := z414) hi_209_10 hz414 ?_
                refine mm_21 (v := z414) hS406 hi_209_11 rfl (Nat.le_of_ble_eq_true rfl) ms_15 ?_
                intro S415 hS416
                replace hS416 : MS S0 S415 (upd (upd (upd (upd (upd (upd (upd f 4 z227) 5 y211) 10 z19) 15 z414) 62 o401) 68 s402) 75 m403) g'404 := hS416
                have hp417 : mj_n (g'404 16) z390.toNatClampNeg 3 = mj_n (g'404 16) z414.toNatClampNeg 3 + if (g'404 16 z414.toNatClampNeg).toInt = 3 then 1 else 0 := mj_pop (by rw [cl_toNat, cl_toNat]; omega)
                have hp4171 : mj_n (g'404 16) z414.toNatClampNeg 3 ≤ mj_n (g'404 16) z390.toNatClampNeg 3 := by rw [hp417]; split <;> omega
                have hp4172 : (g'404 16 z414.toNatClampNeg).toInt = 3 → mj_n (g'404 16) z414.toNatClampNeg 3 + 1 ≤ mj_n (g'404 16) z390.toNatClampNeg 3 := fun q => by rw [hp417, if_pos q]; exact Int.le_refl _
                refine am_e35 hi_209_14 ?_
                show am_E _ _ _ _ [some (.ref 39), some (.int (f 4)), some (.int z210), none, none, none] [] _ _
                refine am_e0 hi_236_77 ?_
                refine am_e3 (ls' := [some (.ref 39), some (.int (f 4)), some (.int z210), some (.int 0), none, none]) hi_236_78 (Nat.le_of_ble_eq_true rfl) rfl ?_
                refine am_e2 (v := 39) hi_236_79 rfl ?_
                refine mm_20 (v := .int z227) hS416 hi_236_80 rfl ?_
                refine am_e3 (ls' := [some (.ref 39), some (.int (f 4)), some (.int z210), some (.int 0), some (.int z227), none]) hi_236_83 (Nat.le_of_ble_eq_true rfl) rfl ?_
                refine fr_fs (d := d) (f := (upd (upd (upd (upd (upd (upd (upd f 4 z227) 5 y211) 10 z19) 15 z414) 62 o401) 68 s402) 75 m403)) (g := g'404) (w := (f 4)) (x2 := z210)  (by show (0 : Int) ≤ (f 32).toInt; omega) (by show (f 32).toInt ≤ (63 : Int); omega) (by show (f 53).toInt ≤ (4096 : Int); omega) (by show (0 : Int) ≤ z227.toInt; omega) (by show (f 0).toInt ≤ (16384 : Int); omega) (by show z227.toInt ≤ (f 0).toInt; omega) (by show (f 0).toInt ≤ (512 : Int); omega) (by show (0 : Int) ≤ s402.toInt; omega) (by show s402.toInt ≤ (60000 : Int); omega) ?_ ?_ (((f 0).toInt - z227.toInt).toNat + 1) _ none 0 z227 z227 s402 _ hS416 hR413_ (fun _ _ => rfl) (by decide) (by show z227.toInt ≤ z227.toInt; omega) (by show z227.toInt ≤ (f 0).toInt; omega) (by show s402.toInt ≤ s402.toInt; omega) (by show s402.toInt + z227.toInt ≤ s402.toInt + z227.toInt; omega) (by show (0 : Int) ≤ (0 : Int); omega) (by show (0 : Int) ≤ (1 : Int); omega) (by show (f 0).toInt - z227.toInt < _; omega)
                · intro S422 x5426 m3418 p4419 z420 s421 gx425 hS423 hR424 hg427 hg428 h429 h430 h431 h432
                  replace hS423 : MS S0 S422 (upd (upd (upd (upd (upd (upd (upd f 4 z420) 5 y211) 10 z19) 15 z414) 62 o401) 68 s421) 75 m403) gx425 := hS423
                  have h429_ : z227.toInt ≤ z420.toInt := h429
                  have h430_ : z420.toInt ≤ (f 0).toInt := h430
                  have h431_ : s402.toInt ≤ s421.toInt := h431
                  have h432_ : s421.toInt + z227.toInt ≤ s402.toInt + z420.toInt := h432
                  have hR424_ : RJ (upd (upd (upd (upd (upd (upd (upd f 4 z420) 5 y211) 10 z19) 15 z414) 62 o401) 68 s421) 75 m403) gx425 (((1 : Int), (0 : Int), (0 : Int), (0 : Int), []) :: gs) bc [] 0 [] := hR424
                  show am_E _ _ _ _ [some (.ref 39), some (.int (f 4)), some (.int z210), some (.int m3418), some (.int p4419), x5426] [] _ _
                  refine am_e2 (v := 39) hi_236_218 rfl ?_
                  refine am_e0 hi_236_219 ?_
                  refine am_e0 hi_236_221 ?_
                  refine am_e0 hi_236_222 ?_
                  refine am_e1 (v := p4419) hi_236_223 rfl ?_
                  refine am_e32n (as := [.ref 39, .int 16, .int 3, .int 0, .int p4419]) (la := [some (.ref 39), some (.int 16), some (.int 3), some (.int 0), some (.int p4419)]) (rest := []) hi_236_225 (am_hd0 (M := 236) (by decide) 225) (Nat.le_of_ble_eq_true rfl) (Nat.le_of_ble_eq_true rfl) (show 5 ≤ am_P0.2.2.1 179 from by decide +kernel) rfl (am_recv_ok hS423.fs) rfl rfl (ct_pile (d := (d + 4)) hS423 hR424_ (mj_e_plain (by decide)) (by show (0 : Int) ≤ z19.toInt; omega) (by show z19.toInt ≤ (65535 : Int); omega)) ?_
                  rintro v433 S434 (⟨z435, g'436, hv437, hS438, hR441, h439, h440⟩)
                  subst hv437
                  have h439_ : z435.toInt = z19.toInt + 1 := h439
                  have h440_ : ∀ j, j ∉ [11, 12, 13, 14] → g'436 j = gx425 j := h440
                  replace hS438 : MS S0 S434 (upd (upd (upd (upd (upd (upd (upd f 4 z420) 5 y211) 10 z435) 15 z414) 62 o401) 68 s421) 75 m403) g'436 := hS438
                  have hR441_ : RJ (upd (upd (upd (upd (upd (upd (upd f 4 z420) 5 y211) 10 z435) 15 z414) 62 o401) 68 s421) 75 m403) g'436 (((16 : Int), (3 : Int), (0 : Int), p4419.toInt, []) :: (((1 : Int), (0 : Int), (0 : Int), (0 : Int), []) :: gs)) bc [] 0 [] := hR441
                  show am_E _ _ _ _ [some (.ref 39), some (.int (f 4)), some (.int z210), some (.int m3418), some (.int p4419), x5426] [] _ _
                  refine am_e2 (v := 39) hi_236_228 rfl ?_
                  refine am_e0 hi_236_229 ?_
                  refine am_e1 (v := f 4) hi_236_231 rfl ?_
                  refine am_e0 hi_236_232 ?_
                  refine am_e0 hi_236_233 ?_
                  refine am_e32n (as := [.ref 39, .int 41, .int (f 4), .int 0, .int 0]) (la := [some (.ref 39), some (.int 41), some (.int (f 4)), some (.int 0), some (.int 0)]) (rest := []) hi_236_234 (am_hd0 (M := 236) (by decide) 234) (Nat.le_of_ble_eq_true rfl) (Nat.le_of_ble_eq_true rfl) (show 5 ≤ am_P0.2.2.1 179 from by decide +kernel) rfl (am_recv_ok hS438.fs) rfl rfl (ct_pile (d := (d + 4)) hS438 hR441_ (mj_e_plain (by decide)) (by show (0 : Int) ≤ z435.toInt; omega) (by show z435.toInt ≤ (65535 : Int); omega)) ?_
                  rintro v442 S443 (⟨z444, g'445, hv446, hS447, hR450, h448, h449⟩)
                  subst hv446
                  have h448_ : z444.toInt = z435.toInt + 1 := h448
                  have h449_ : ∀ j, j ∉ [11, 12, 13, 14] → g'445 j = g'436 j := h449
                  replace hS447 : MS S0 S443 (upd (upd (upd (upd (upd (upd (upd f 4 z420) 5 y211) 10 z444) 15 z414) 62 o401) 68 s421) 75 m403) g'445 := hS447
                  have hR450_ : RJ (upd (upd (upd (upd (upd (upd (upd f 4 z420) 5 y211) 10 z444) 15 z414) 62 o401) 68 s421) 75 m403) g'445 (((41 : Int), (f 4).toInt, (0 : Int), (0 : Int), []) :: (((16 : Int), (3 : Int), (0 : Int), p4419.toInt, []) :: (((1 : Int), (0 : Int), (0 : Int), (0 : Int), []) :: gs))) bc [] 0 [] := hR450
                  show am_E _ _ _ _ [some (.ref 39), some (.int (f 4)), some (.int z210), some (.int m3418), some (.int p4419), x5426] [] _ _
                  refine am_e2 (v := 39) hi_236_237 rfl ?_
                  refine am_e1 (v := m3418) hi_236_238 rfl ?_
                  refine am_e1 (v := f 4) hi_236_239 rfl ?_
                  refine am_e32n (as := [.ref 39, .int m3418, .int (f 4)]) (la := [some (.ref 39), some (.int m3418), some (.int (f 4)), none, none]) (rest := []) hi_236_240 (am_hd0 (M := 236) (by decide) 240) (Nat.le_of_ble_eq_true rfl) (Nat.le_of_ble_eq_true rfl) (show 3 ≤ am_P0.2.2.1 195 from by decide +kernel) rfl (am_recv_ok hS447.fs) rfl rfl (ct_body (d := d) hS447 hR450_ hg428  (by show (0 : Int) ≤ (f 32).toInt; omega) (by show (f 32).toInt ≤ (62 : Int); omega) (by show (1 : Int) ≤ (f 53).toInt; omega) (by show (f 53).toInt ≤ (4095 : Int); omega) (by show (0 : Int) ≤ z420.toInt; omega) (by show (f 0).toInt ≤ (16384 : Int); omega) (by show (0 : Int) ≤ y211.toInt; omega) (by show y211.toInt ≤ (48 : Int); omega) (by show z420.toInt ≤ (f 0).toInt; omega) (by show (f 0).toInt ≤ (512 : Int); omega) (by show (0 : Int) ≤ (f 24).toInt; omega) (by show (f 24).toInt ≤ (4000 : Int); omega) (by show (0 : Int) ≤ (f 44).toInt; omega) (by show (f 44).toInt ≤ z420.toInt; omega) (by show (0 : Int) ≤ (f 48).toInt; omega) (by show (f 48).toInt ≤ z420.toInt; omega) (by show (0 : Int) ≤ (f 37).toInt; omega) (by show (f 37).toInt ≤ (126 : Int); omega) (by show (0 : Int) ≤ z444.toInt; omega) (by show z444.toInt ≤ (65533 : Int); omega) (by show (0 : Int) ≤ s421.toInt; omega)) ?_
                  rintro v451 S452 (⟨z453, y454, a455, b456, t457, l458, i_459, dd460, bz461, mm462, g'463, hv464, hS465, hR478, h466, h467, h468, h469, h470, h471, h472, h473, h474, h475, h476, h477⟩ | ⟨a479, b480, hv481, hS482, hR483⟩ | ⟨z484, y485, u486, v_487, a488, b489, l490, i_491, dd492, bz493, mm494, g'495, hv496, hS497, hR504, h498, h499, h500, h501, h502, h503⟩)
                  · subst hv464
                    have h466_ : z420.toInt + 2 ≤ z453.toInt := h466
                    have h467_ : z453.toInt ≤ (f 0).toInt := h467
                    have h468_ : y454.toInt = y211.toInt := h468
                    have h469_ : (f 24).toInt ≤ l458.toInt := h469
                    have h470_ : l458.toInt + z420.toInt ≤ (f 24).toInt + z453.toInt := h470
                    have h471_ : t457.toInt = z444.toInt + 2 := h471
                    have h472_ : dd460.toInt = (f 32).toInt + 1 := h472
                    have h473_ : bz461.toInt = (f 37).toInt + 1 := h473
                    have h474_ : mm462.toInt = (f 53).toInt + 1 := h474
                    have h475_ : ∀ j, j ∉ [11, 12, 13, 14, 25, 26, 27, 28, 29, 30, 33, 34, 35, 36, 38, 39, 40, 41, 42, 43, 54, 55, 56, 58, 59, 60, 67] → g'463 j = g'445 j := h475
                    have h476_ : g'463 34 = upd (g'445 34) dd460.toNatClampNeg (f 24) := h476
                    have h477_ : g'463 38 = upd (g'445 38) (f 37).toNatClampNeg (f 24) := h477
                    replace hS465 : MS S0 S452 (upd (upd (upd (upd (upd (upd (upd (upd (upd (upd (upd (upd (upd (upd f 4 z453) 5 y454) 8 a455) 9 b456) 10 t457) 15 z414) 24 l458) 31 i_459) 32 dd460) 37 bz461) 53 mm462) 62 o401) 68 s421) 75 m403) g'463 := hS465
                    have hR478_ : RJ (upd (upd (upd (upd (upd (upd (upd (upd (upd (upd (upd (upd (upd (upd f 4 z453) 5 y454) 8 a455) 9 b456) 10 t457) 15 z414) 24 l458) 31 i_459) 32 dd460) 37 bz461) 53 mm462) 62 o401) 68 s421) 75 m403) g'463 (((1 : Int), (0 : Int), (0 : Int), (0 : Int), []) :: (((40 : Int), z420.toInt, (0 : Int), (0 : Int), []) :: (((41 : Int), (f 4).toInt, (0 : Int), (0 : Int), []) :: (((16 : Int), (3 : Int), (0 : Int), p4419.toInt, []) :: (((1 : Int), (0 : Int), (0 : Int), (0 : Int), []) :: gs))))) ([] :: bc) [] 0 [] := hR478
                    show am_E _ _ _ _ [some (.ref 39), some (.int (f 4)), some (.int z210), some (.int m3418), some (.int p4419), x5426] [] _ _
                    refine am_e35 hi_236_243 ?_
                    show am_E _ _ _ _ [some (.ref 39), some (.int r2), some (.int (f 4))] [] _ _
                    refine am_e18 hi_228_376 ?_
                    refine am_e35 hi_228_422 ?_
                    show am_E _ _ _ _ [some (.ref 39), some (.int r2)] [] _ _
                    refine am_e35 hi_225_33 ?_
                    show am_E _ _ _ _ [some (.ref 39), some (.int 1), some (.int on), some (.int tw), some (.int th)] [] _ _
                    refine am_e18 hi_180_116 ?_
                    refine am_e35 hi_180_371 ?_
                    have q1 : mg_p1 (((1 : Int), (0 : Int), (0 : Int), (0 : Int), []) :: (((40 : Int), z420.toInt, (0 : Int), (0 : Int), []) :: (((41 : Int), (f 4).toInt, (0 : Int), (0 : Int), []) :: (((16 : Int), (3 : Int), (0 : Int), p4419.toInt, []) :: (((1 : Int), (0 : Int), (0 : Int), (0 : Int), []) :: gs))))) = 0 + (0 + (0 + (0 + (0 + (mg_p1 gs))))) := rfl
                    have q2 : mg_p2 (((1 : Int), (0 : Int), (0 : Int), (0 : Int), []) :: (((40 : Int), z420.toInt, (0 : Int), (0 : Int), []) :: (((41 : Int), (f 4).toInt, (0 : Int), (0 : Int), []) :: (((16 : Int), (3 : Int), (0 : Int), p4419.toInt, []) :: (((1 : Int), (0 : Int), (0 : Int), (0 : Int), []) :: gs))))) = 0 + (0 + (1 + (0 + (0 + (mg_p2 gs))))) := rfl
                    have q3 : mg_p3 (((1 : Int), (0 : Int), (0 : Int), (0 : Int), []) :: (((40 : Int), z420.toInt, (0 : Int), (0 : Int), []) :: (((41 : Int), (f 4).toInt, (0 : Int), (0 : Int), []) :: (((16 : Int), (3 : Int), (0 : Int), p4419.toInt, []) :: (((1 : Int), (0 : Int), (0 : Int), (0 : Int), []) :: gs))))) = 1 + (1 + (1 + (1 + (1 + (mg_p3 gs))))) := rfl
                    have q4 : mg_p4 (((1 : Int), (0 : Int), (0 : Int), (0 : Int), []) :: (((40 : Int), z420.toInt, (0 : Int), (0 : Int), []) :: (((41 : Int), (f 4).toInt, (0 : Int), (0 : Int), []) :: (((16 : Int), (3 : Int), (0 : Int), p4419.toInt, []) :: (((1 : Int), (0 : Int), (0 : Int), (0 : Int), []) :: gs))))) = 0 + (0 + (2 + (3 + (0 + (mg_p4 gs))))) := rfl
                    refine ⟨_, _, _, ([] :: bc), rfl, hS465, Or.inl ⟨⟨hR478_, ?_, ?_⟩, rfl, ?_⟩⟩
                    · exact (⟨⟨(show mg_k 1 from by decide), (show (0 : Int) ≤ z414.toInt from by omega), (show 0 ≤ (f 20).toInt from by omega), (show 1 ≤ bz461.toInt from by omega), (show 0 ≤ dd460.toInt from by omega), (show dd460.toInt ≤ y454.toInt from by omega), (show y454.toInt ≤ 48 from by omega), (show bz461.toInt ≤ 2 * (y454.toInt) + 1 from by omega), trivial⟩, ⟨⟨(show mg_k 40 from by decide), (show (0 : Int) ≤ z414.toInt + 0 from by omega), (show 0 ≤ (f 20).toInt from by omega), (show 1 ≤ bz461.toInt + 0 from by omega), (show 0 ≤ dd460.toInt + 0 from by omega), (show dd460.toInt + 0 ≤ y454.toInt + 0 from by omega), (show y454.toInt + 0 ≤ 48 from by omega), (show bz461.toInt + 0 ≤ 2 * (y454.toInt + 0) + 1 from by omega), trivial⟩, ⟨⟨(show mg_k 41 from by decide), (show (0 : Int) ≤ z414.toInt + 0 + 0 from by omega), (show 0 ≤ (f 20).toInt from by omega), (show 1 ≤ bz461.toInt + 0 + -1 from by omega), (show 0 ≤ dd460.toInt + 0 + -1 from by omega), (show dd460.toInt + 0 + -1 ≤ y454.toInt + 0 + -1 from by omega), (show y454.toInt + 0 + -1 ≤ 48 from by omega), (show bz461.toInt + 0 + -1 ≤ 2 * (y454.toInt + 0 + -1) + 2 from by omega), trivial⟩, ⟨⟨(show mg_k 16 from by decide), (show (1 : Int) ≤ z414.toInt + 0 + 0 + 1 from by omega), (show 0 ≤ (f 20).toInt from by omega), (show 1 ≤ bz461.toInt + 0 + -1 + 0 from by omega), (show 0 ≤ dd460.toInt + 0 + -1 + 0 from by omega), (show dd460.toInt + 0 + -1 + 0 ≤ y454.toInt + 0 + -1 + 0 from by omega), (show y454.toInt + 0 + -1 + 0 ≤ 48 from by omega), (show bz461.toInt + 0 + -1 + 0 ≤ 2 * (y454.toInt + 0 + -1 + 0) + 1 from by omega), trivial⟩, ⟨⟨(show mg_k 1 from by decide), (show (0 : Int) ≤ z414.toInt + 0 + 0 + 1 + -1 from by omega), (show 0 ≤ (f 20).toInt from by omega), (show 1 ≤ bz461.toInt + 0 + -1 + 0 + 0 from by omega), (show 0 ≤ dd460.toInt + 0 + -1 + 0 + 0 from by omega), (show dd460.toInt + 0 + -1 + 0 + 0 ≤ y454.toInt + 0 + -1 + 0 + 0 from by omega), (show y454.toInt + 0 + -1 + 0 + 0 ≤ 48 from by omega), (show bz461.toInt + 0 + -1 + 0 + 0 ≤ 2 * (y454.toInt + 0 + -1 + 0 + 0) + 1 from by omega), trivial⟩, mg_cast (mg_good_ext _ _ _ _ _ _ (fun i hi => by show g'463 34 i = g 34 i; rw [h476_, show g'445 34 = g'436 34 from h449_ 34 (by decide), show g'436 34 = gx425 34 from h440_ 34 (by decide), show gx425 34 = g'404 34 from hg427 34 (by decide), show g'404 34 = g'391 34 from h412_ 34 (by decide), show g'391 34 = g'20 34 from h395_ 34 (by decide), show g'20 34 = g 34 from h24_ 34 (by decide)]; exact upd_ne (by rw [cl_toNat]; omega)) (fun i hi => by show g'463 38 i = g 38 i; rw [h477_, show g'445 38 = g'436 38 from h449_ 38 (by decide), show g'436 38 = gx425 38 from h440_ 38 (by decide), show gx425 38 = g'404 38 from hg427 38 (by decide), show g'404 38 = g'391 38 from h412_ 38 (by decide), show g'391 38 = g'20 38 from h395_ 38 (by decide), show g'20 38 = g 38 from h24_ 38 (by decide)]; exact upd_ne (by rw [cl_toNat]; omega)) (fun i _ => by show g'463 23 i = g 23 i; rw [show g'463 23 = g'445 23 from h475_ 23 (by decide), show g'445 23 = g'436 23 from h449_ 23 (by decide), show g'436 23 = gx425 23 from h440_ 23 (by decide), show gx425 23 = g'404 23 from hg427 23 (by decide), show g'404 23 = g'391 23 from h412_ 23 (by decide), show g'391 23 = g'20 23 from h395_ 23 (by decide), show g'20 23 = g 23 from h24_ 23 (by decide)]) hrest) (by show (f 15).toInt + 0 = z414.toInt + 0 + 0 + 1 + -1 + 0; omega) (by show (f 20).toInt = (f 20).toInt; omega) (by show (f 37).toInt + 0 = bz461.toInt + 0 + -1 + 0 + 0 + 0; omega) (by show (f 32).toInt + 0 = dd460.toInt + 0 + -1 + 0 + 0 + 0; omega) (by show (f 5).toInt + 0 = y454.toInt + 0 + -1 + 0 + 0 + 0; omega)⟩⟩⟩⟩⟩ : mg_good (g'463 34) (g'463 38) (g'463 23) (((1 : Int), (0 : Int), (0 : Int), (0 : Int), []) :: (((40 : Int), z420.toInt, (0 : Int), (0 : Int), []) :: (((41 : Int), (f 4).toInt, (0 : Int), (0 : Int), []) :: (((16 : Int), (3 : Int), (0 : Int), p4419.toInt, []) :: (((1 : Int), (0 : Int), (0 : Int), (0 : Int), []) :: gs))))) (z414.toInt) ((f 20).toInt) (bz461.toInt) (dd460.toInt) (y454.toInt))
                    · exact ⟨(by show 0 ≤ z453.toInt; omega), (by show z453.toInt ≤ (f 0).toInt; omega), (by show (f 0).toInt ≤ 512; omega), (by show 0 ≤ l458.toInt; omega), (by show l458.toInt + (f 20).toInt + mg_p1 (((1 : Int), (0 : Int), (0 : Int), (0 : Int), []) :: (((40 : Int), z420.toInt, (0 : Int), (0 : Int), []) :: (((41 : Int), (f 4).toInt, (0 : Int), (0 : Int), []) :: (((16 : Int), (3 : Int), (0 : Int), p4419.toInt, []) :: (((1 : Int), (0 : Int), (0 : Int), (0 : Int), []) :: gs))))) ≤ 4 * z453.toInt; omega), (by show (f 20).toInt ≤ z453.toInt; omega), (by show z414.toInt + mg_p2 (((1 : Int), (0 : Int), (0 : Int), (0 : Int), []) :: (((40 : Int), z420.toInt, (0 : Int), (0 : Int), []) :: (((41 : Int), (f 4).toInt, (0 : Int), (0 : Int), []) :: (((16 : Int), (3 : Int), (0 : Int), p4419.toInt, []) :: (((1 : Int), (0 : Int), (0 : Int), (0 : Int), []) :: gs))))) ≤ z453.toInt; omega), (by show mg_p3 (((1 : Int), (0 : Int), (0 : Int), (0 : Int), []) :: (((40 : Int), z420.toInt, (0 : Int), (0 : Int), []) :: (((41 : Int), (f 4).toInt, (0 : Int), (0 : Int), []) :: (((16 : Int), (3 : Int), (0 : Int), p4419.toInt, []) :: (((1 : Int), (0 : Int), (0 : Int), (0 : Int), []) :: gs))))) ≤ 20 * z453.toInt + 20; omega), (by show 0 ≤ s421.toInt; omega), (by show s421.toInt + 3 * (f 20).toInt + mg_p4 (((1 : Int), (0 : Int), (0 : Int), (0 : Int), []) :: (((40 : Int), z420.toInt, (0 : Int), (0 : Int), []) :: (((41 : Int), (f 4).toInt, (0 : Int), (0 : Int), []) :: (((16 : Int), (3 : Int), (0 : Int), p4419.toInt, []) :: (((1 : Int), (0 : Int), (0 : Int), (0 : Int), []) :: gs))))) ≤ 60 * z453.toInt + 60; omega), (by show 0 ≤ o401.toInt; omega), (by show o401.toInt + 64 * mj_n (g'463 16) z414.toNatClampNeg 3 ≤ 64 * z453.toInt; rw [show g'463 16 = g'445 16 from h475_ 16 (by decide), show g'445 16 = g'436 16 from h449_ 16 (by decide), show g'436 16 = gx425 16 from h440_ 16 (by decide), show gx425 16 = g'404 16 from hg427 16 (by decide)]; omega), (by show 0 ≤ (f 44).toInt; omega), (by show (f 44).toInt ≤ z453.toInt; omega), (by show 0 ≤ (f 48).toInt; omega), (by show (f 48).toInt ≤ z453.toInt; omega), (by show 1 ≤ mm462.toInt; omega), (by show mm462.toInt ≤ z453.toInt + 1; omega), (by show 0 ≤ (f 19).toInt; omega), (by show (f 19).toInt ≤ 600; omega)⟩
                    · show 100 * ((f 0).toInt - z453.toInt) + mg_p3 (((1 : Int), (0 : Int), (0 : Int), (0 : Int), []) :: (((40 : Int), z420.toInt, (0 : Int), (0 : Int), []) :: (((41 : Int), (f 4).toInt, (0 : Int), (0 : Int), []) :: (((16 : Int), (3 : Int), (0 : Int), p4419.toInt, []) :: (((1 : Int), (0 : Int), (0 : Int), (0 : Int), []) :: gs))))) < 100 * ((f 0).toInt - (f 4).toInt) + (1 + mg_p3 gs); omega
                  · subst hv481
                    replace hS482 : MS S0 S452 (upd (upd (upd (upd (upd (upd (upd (upd (upd f 4 z420) 5 y211) 6 a479) 7 b480) 10 0) 15 z414) 62 o401) 68 s421) 75 m403) g'445 := hS482
                    have hR483_ : RJ (upd (upd (upd (upd (upd (upd (upd (upd (upd f 4 z420) 5 y211) 6 a479) 7 b480) 10 0) 15 z414) 62 o401) 68 s421) 75 m403) g'445 [] bc [] 0 [] := hR483
                    show am_E _ _ _ _ [some (.ref 39), some (.int (f 4)), some (.int z210), some (.int m3418), some (.int p4419), x5426] [] _ _
                    refine am_e35 hi_236_243 ?_
                    show am_E _ _ _ _ [some (.ref 39), some (.int r2), some (.int (f 4))] [] _ _
                    refine am_e18 hi_228_376 ?_
                    refine am_e35 hi_228_422 ?_
                    show am_E _ _ _ _ [some (.ref 39), some (.int r2)] [] _ _
                    refine am_e35 hi_225_33 ?_
                    show am_E _ _ _ _ [some (.ref 39), some (.int 1), some (.int on), some (.int tw), some (.int th)] [] _ _
                    refine am_e18 hi_180_116 ?_
                    refine am_e35 hi_180_371 ?_
                    have hRc := rj_clear0 hR483_
                    refine ⟨_, _, [], _, rfl, hS482, Or.inr ⟨hRc, rfl, (by show 0 ≤ z420.toInt; omega), (by show z420.toInt ≤ (f 0).toInt; omega), (by show 0 ≤ (f 32).toInt; omega), (by show (f 32).toInt ≤ 63; omega), (by show 1 ≤ (f 53).toInt; omega), (by show (f 53).toInt ≤ 600; omega), (by show 0 ≤ s421.toInt; omega), (by show s421.toInt ≤ 60000; omega), (by show 0 ≤ (f 48).toInt; omega), (by show (f 48).toInt ≤ 8000; omega), (by show 0 ≤ (f 37).toInt; omega), (by show (f 37).toInt ≤ 128; omega), (by show 0 ≤ o401.toInt; omega), (by show o401.toInt ≤ 65000; omega), (by show 0 ≤ (f 19).toInt; omega), (by show (f 19).toInt ≤ 600; omega)⟩⟩
                  · subst hv496
                    have h498_ : z420.toInt ≤ z484.toInt := h498
                    have h499_ : z484.toInt ≤ (f 0).toInt := h499
                    have h500_ : dd492.toInt = (f 32).toInt + 1 := h500
                    have h501_ : bz493.toInt = (f 37).toInt + 1 := h501
                    have h502_ : mm494.toInt = (f 53).toInt + 1 := h502
                    have h503_ : ∀ j, j ∉ [11, 12, 13, 14, 25, 26, 27, 28, 29, 30, 33, 34, 35, 36, 38, 39, 40, 41, 42, 43, 54, 55, 56, 58, 59, 60, 67] → g'495 j = g'445 j := h503
                    replace hS497 : MS S0 S452 (upd (upd (upd (upd (upd (upd (upd (upd (upd (upd (upd (upd (upd (upd (upd (upd f 4 z484) 5 y485) 6 u486) 7 v_487) 8 a488) 9 b489) 10 0) 15 z414) 24 l490) 31 i_491) 32 dd492) 37 bz493) 53 mm494) 62 o401) 68 s421) 75 m403) g'495 := hS497
                    have hR504_ : RJ (upd (upd (upd (upd (upd (upd (upd (upd (upd (upd (upd (upd (upd (upd (upd (upd f 4 z484) 5 y485) 6 u486) 7 v_487) 8 a488) 9 b489) 10 0) 15 z414) 24 l490) 31 i_491) 32 dd492) 37 bz493) 53 mm494) 62 o401) 68 s421) 75 m403) g'495 [] ([] :: bc) [] 0 [] := hR504
                    show am_E _ _ _ _ [some (.ref 39), some (.int (f 4)), some (.int z210), some (.int m3418), some (.int p4419), x5426] [] _ _
                    refine am_e35 hi_236_243 ?_
                    show am_E _ _ _ _ [some (.ref 39), some (.int r2), some (.int (f 4))] [] _ _
                    refine am_e18 hi_228_376 ?_
                    refine am_e35 hi_228_422 ?_
                    show am_E _ _ _ _ [some (.ref 39), some (.int r2)] [] _ _
                    refine am_e35 hi_225_33 ?_
                    show am_E _ _ _ _ [some (.ref 39), some (.int 1), some (.int on), some (.int tw), some (.int th)] [] _ _
                    refine am_e18 hi_180_116 ?_
                    refine am_e35 hi_180_371 ?_
                    have hRc := rj_clear0 hR504_
                    refine ⟨_, _, [], _, rfl, hS497, Or.inr ⟨hRc, rfl, (by show 0 ≤ z484.toInt; omega), (by show z484.toInt ≤ (f 0).toInt; omega), (by show 0 ≤ dd492.toInt; omega), (by show dd492.toInt ≤ 63; omega), (by show 1 ≤ mm494.toInt; omega), (by show mm494.toInt ≤ 600; omega), (by show 0 ≤ s421.toInt; omega), (by show s421.toInt ≤ 60000; omega), (by show 0 ≤ (f 48).toInt; omega), (by show (f 48).toInt ≤ 8000; omega), (by show 0 ≤ bz493.toInt; omega), (by show bz493.toInt ≤ 128; omega), (by show 0 ≤ o401.toInt; omega), (by show o401.toInt ≤ 65000; omega), (by show 0 ≤ (f 19).toInt; omega), (by show (f 19).toInt ≤ 600; omega)⟩⟩
                · intro S509 x3513 x4514 x5515 z505 s506 u_507 v_508 gx512 hS510 hR511 hg516 h517 h518 h519 h520
                  replace hS510 : MS S0 S509 (upd (upd (upd (upd (upd (upd (upd (upd (upd f 4 z505) 5 y211) 6 u_507) 7 v_508) 10 0) 15 z414) 62 o401) 68 s506) 75 m403) gx512 := hS510
                  have h517_ : z227.toInt ≤ z505.toInt := h517
                  have h518_ : z505.toInt ≤ (f 0).toInt := h518
                  have h519_ : s402.toInt ≤ s506.toInt := h519
                  have h520_ : s506.toInt + z227.toInt ≤ s402.toInt + z505.toInt := h520
                  have hR511_ : RJ (upd (upd (upd (upd (upd (upd (upd (upd (upd f 4 z505) 5 y211) 6 u_507) 7 v_508) 10 0) 15 z414) 62 o401) 68 s506) 75 m403) gx512 [] bc [] 0 [] := hR511
                  show am_E _ _ _ _ [some (.ref 39), some (.int (f 4)), some (.int z210), x3513, x4514, x5515] [] _ _
                  refine am_e35 hi_236_146 ?_
                  show am_E _ _ _ _ [some (.ref 39), some (.int r2), some (.int (f 4))] [] _ _
                  refine am_e18 hi_228_376 ?_
                  refine am_e35 hi_228_422 ?_
                  show am_E _ _ _ _ [some (.ref 39), some (.int r2)] [] _ _
                  refine am_e35 hi_225_33 ?_
                  show am_E _ _ _ _ [some (.ref 39), some (.int 1), some (.int on), some (.int tw), some (.int th)] [] _ _
                  refine am_e18 hi_180_116 ?_
                  refine am_e35 hi_180_371 ?_
                  have hRc := rj_clear0 hR511_
                  refine ⟨_, _, [], _, rfl, hS510, Or.inr ⟨hRc, rfl, (by show 0 ≤ z505.toInt; omega), (by show z505.toInt ≤ (f 0).toInt; omega), (by show 0 ≤ (f 32).toInt; omega), (by show (f 32).toInt ≤ 63; omega), (by show 1 ≤ (f 53).toInt; omega), (by show (f 53).toInt ≤ 600; omega), (by show 0 ≤ s506.toInt; omega), (by show s506.toInt ≤ 60000; omega), (by show 0 ≤ (f 48).toInt; omega), (by show (f 48).toInt ≤ 8000; omega), (by show 0 ≤ (f 37).toInt; omega), (by show (f 37).toInt ≤ 128; omega), (by show 0 ≤ o401.toInt; omega), (by show o401.toInt ≤ 65000; omega), (by show 0 ≤ (f 19).toInt; omega), (by show (f 19).toInt ≤ 600; omega)⟩⟩
              · refine am_e13f hi_236_29 (am_cF (m := r382.toInt) (n := (68 : Int)) rfl (by decide) c387) ?_
                refine am_e2 (v := 39) hi_236_32 rfl ?_
                refine am_e1 (v := z210) hi_236_33 rfl ?_
                refine am_e32w (as := [.ref 39, .int z210]) (la := [some (.ref 39), some (.int z210), none]) (rest := []) hi_236_34 (am_hd0 (M := 236) (by decide) 34) (Nat.le_of_ble_eq_true rfl) (Nat.le_of_ble_eq_true rfl) (show 2 ≤ am_P0.2.2.1 237 from by decide +kernel) rfl (am_recv_ok hS384.fs) rfl rfl ?_
                refine am_e2 (v := 39) hi_237_0 rfl ?_
                refine am_e2 (v := 39) hi_237_1 rfl ?_
                refine mm_20 (v := .ref 41) hS384 hi_237_2 rfl ?_
                refine am_e1 (v := z210) hi_237_5 rfl ?_
                refine mm_25 hS384 ma_2 hi_237_6 (by decide) (by omega) (by omega) ?_
                show am_E _ _ _ _ _ (.int (g'20 2 z210.toNatClampNeg) :: _) _ _
                rw [show g'20 2 = g 2 from h24_ 2 (by decide)]
                show am_E _ _ _ _ [some (.ref 39), some (.int z210), none] [.int (g 2 z210.toNatClampNeg), .ref 39] _ _
                refine am_e32n (as := [.ref 39, .int (g 2 z210.toNatClampNeg)]) (la := [some (.ref 39), some (.int (g 2 z210.toNatClampNeg)), none]) (rest := []) hi_237_7 (am_hd0 (M := 237) (by decide) 7) (Nat.le_of_ble_eq_true rfl) (Nat.le_of_ble_eq_true rfl) (show 2 ≤ am_P0.2.2.1 206 from by decide +kernel) rfl (am_recv_ok hS384.fs) rfl rfl (ct_find (d := (d + 3)) hS384   (by show (0 : Int) ≤ (f 24).toInt; omega) (by show (f 24).toInt ≤ (16384 : Int); omega)) ?_
                rintro v521 S522 (⟨r523, hv524, hS525, h526, h527⟩)
                subst hv524
                have h526_ : (-1 : Int) ≤ r523.toInt := h526
                have h527_ : r523.toInt < (f 24).toInt := h527
                show am_E _ _ _ _ [some (.ref 39), some (.int z210), none] [.int r523] _ _
                refine am_e3 (ls' := [some (.ref 39), some (.int z210), some (.int r523)]) hi_237_10 (Nat.le_of_ble_eq_true rfl) rfl ?_
                refine am_e1 (v := r523) hi_237_11 rfl ?_
                by_cases c529 : r523.toInt < (0 : Int)
                · refine am_e12t hi_237_12 (am_cT (m := r523.toInt) (n := (0 : Int)) rfl (by decide) c529) ?_
                  refine am_e2 (v := 39) hi_237_31 rfl ?_
                  refine am_e1 (v := z210) hi_237_32 rfl ?_
                  refine am_e32n (as := [.ref 39, .int z210]) (la := [some (.ref 39), some (.int z210), none, none, none]) (rest := []) hi_237_33 (am_hd0 (M := 237) (by decide) 33) (Nat.le_of_ble_eq_true rfl) (Nat.le_of_ble_eq_true rfl) (show 2 ≤ am_P0.2.2.1 205 from by decide +kernel) rfl (am_recv_ok hS525.fs) rfl rfl (ct_resolve (d := (d + 2)) hS525 hR238  (by show (0 : Int) ≤ (f 32).toInt; omega) (by show (f 32).toInt ≤ (63 : Int); omega) (by show (f 53).toInt ≤ (4096 : Int); omega) (by show (0 : Int) ≤ (f 24).toInt; omega) (by show (f 24).toInt ≤ (16384 : Int); omega) (by show (0 : Int) ≤ (f 62).toInt; omega) (by show (f 62).toInt ≤ (65000 : Int); omega) (by show (0 : Int) ≤ z210.toInt; omega) (by show z210.toInt ≤ (16383 : Int); omega)) ?_
                  rintro v530 S531 (⟨o532, m533, g'534, r535, hv536, hS537, hR543, h538, h539, h540, h541, h542⟩)
                  subst hv536
                  have h538_ : (f 62).toInt ≤ o532.toInt := h538
                  have h539_ : o532.toInt ≤ (f 62).toInt + 64 := h539
                  have h540_ : (0 : Int) ≤ r535.toInt := h540
                  have h541_ : r535.toInt ≤ (2 : Int) := h541
                  have h542_ : ∀ j, j ∉ [63, 64, 65, 66, 67] → g'534 j = g'20 j := h542
                  have hR543_ : RJ (upd (upd (upd (upd (upd f 4 z227) 5 y211) 10 z19) 62 o532) 75 m533) g'534 (((1 : Int), (0 : Int), (0 : Int), (0 : Int), []) :: gs) bc [] 0 [] := hR543
                  show am_E _ _ _ _ [some (.ref 39), some (.int z210), some (.int r523)] [.int r535] _ _
                  refine am_e33 hi_237_36 ?_
                  show am_E _ _ _ _ [some (.ref 39), some (.int (f 4)), some (.int z210), none, none, none] [.int r535] _ _
                  refine am_e3 (ls' := [some (.ref 39), some (.int (f 4)), some (.int z210), some (.int r535), none, none]) hi_236_37 (Nat.le_of_ble_eq_true rfl) rfl ?_
                  refine am_e2 (v := 39) hi_236_38 rfl ?_
                  refine am_e0 hi_236_39 ?_
                  refine am_e1 (v := r535) hi_236_41 rfl ?_
                  refine am_e2 (v := 39) hi_236_42 rfl ?_
                  refine mm_20 (v := .int m533) hS537 hi_236_43 rfl ?_
                  refine am_e1 (v := z210) hi_236_46 rfl ?_
                  refine am_e32n (as := [.ref 39, .int 16, .int r535, .int m533, .int z210]) (la := [some (.ref 39), some (.int 16), some (.int r535), some (.int m533), some (.int z210)]) (rest := []) hi_236_47 (am_hd0 (M := 236) (by decide) 47) (Nat.le_of_ble_eq_true rfl) (Nat.le_of_ble_eq_true rfl) (show 5 ≤ am_P0.2.2.1 179 from by decide +kernel) rfl (am_recv_ok hS537.fs) rfl rfl (ct_pile (d := (d + 4)) hS537 hR543_ (mj_e_plain (by decide)) (by show (0 : Int) ≤ z19.toInt; omega) (by show z19.toInt ≤ (65535 : Int); omega)) ?_
                  rintro v544 S545 (⟨z546, g'547, hv548, hS549, hR552, h550, h551⟩)
                  subst hv548
                  have h550_ : z546.toInt = z19.toInt + 1 := h550
                  have h551_ : ∀ j, j ∉ [11, 12, 13, 14] → g'547 j = g'534 j := h551
                  replace hS549 : MS S0 S545 (upd (upd (upd (upd (upd f 4 z227) 5 y211) 10 z546) 62 o532) 75 m533) g'547 := hS549
                  have hR552_ : RJ (upd (upd (upd (upd (upd f 4 z227) 5 y211) 10 z546) 62 o532) 75 m533) g'547 (((16 : Int), r535.toInt, m533.toInt, z210.toInt, []) :: (((1 : Int), (0 : Int), (0 : Int), (0 : Int), []) :: gs)) bc [] 0 [] := hR552
                  show am_E _ _ _ _ [some (.ref 39), some (.int (f 4)), some (.int z210), some (.int r535), none, none] [] _ _
                  refine am_e2 (v := 39) hi_236_50 rfl ?_
                  refine am_e0 hi_236_51 ?_
                  refine am_e1 (v := f 4) hi_236_53 rfl ?_
                  refine am_e0 hi_236_54 ?_
                  refine am_e0 hi_236_55 ?_
                  refine am_e32n (as := [.ref 39, .int 41, .int (f 4), .int 0, .int 0]) (la := [some (.ref 39), some (.int 41), some (.int (f 4)), some (.int 0), some (.int 0)]) (rest := []) hi_236_56 (am_hd0 (M := 236) (by decide) 56) (Nat.le_of_ble_eq_true rfl) (Nat.le_of_ble_eq_true rfl) (show 5 ≤ am_P0.2.2.1 179 from by decide +kernel) rfl (am_recv_ok hS549.fs) rfl rfl (ct_pile (d := (d + 4)) hS549 hR552_ (mj_e_plain (by decide)) (by show (0 : Int) ≤ z546.toInt; omega) (by show z546.toInt ≤ (65535 : Int); omega)) ?_
                  rintro v553 S554 (⟨z555, g'556, hv557, hS558, hR561, h559, h560⟩)
                  subst hv557
                  have h559_ : z555.toInt = z546.toInt + 1 := h559
                  have h560_ : ∀ j, j ∉ [11, 12, 13, 14] → g'556 j = g'547 j := h560
                  replace hS558 : MS S0 S554 (upd (upd (upd (upd (upd f 4 z227) 5 y211) 10 z555) 62 o532) 75 m533) g'556 := hS558
                  have hR561_ : RJ (upd (upd (upd (upd (upd f 4 z227) 5 y211) 10 z555) 62 o532) 75 m533) g'556 (((41 : Int), (f 4).toInt, (0 : Int), (0 : Int), []) :: (((16 : Int), r535.toInt, m533.toInt, z210.toInt, []) :: (((1 : Int), (0 : Int), (0 : Int), (0 : Int), []) :: gs))) bc [] 0 [] := hR561
                  show am_E _ _ _ _ [some (.ref 39), some (.int (f 4)), some (.int z210), some (.int r535), none, none] [] _ _
                  refine am_e2 (v := 39) hi_236_59 rfl ?_
                  refine am_e0 hi_236_60 ?_
                  refine am_e1 (v := f 4) hi_236_61 rfl ?_
                  refine am_e32n (as := [.ref 39, .int 0, .int (f 4)]) (la := [some (.ref 39), some (.int 0), some (.int (f 4)), none, none]) (rest := []) hi_236_62 (am_hd0 (M := 236) (by decide) 62) (Nat.le_of_ble_eq_true rfl) (Nat.le_of_ble_eq_true rfl) (show 3 ≤ am_P0.2.2.1 195 from by decide +kernel) rfl (am_recv_ok hS558.fs) rfl rfl (ct_body (d := d) hS558 hR561_ (by decide)  (by show (0 : Int) ≤ (f 32).toInt; omega) (by show (f 32).toInt ≤ (62 : Int); omega) (by show (1 : Int) ≤ (f 53).toInt; omega) (by show (f 53).toInt ≤ (4095 : Int); omega) (by show (0 : Int) ≤ z227.toInt; omega) (by show (f 0).toInt ≤ (16384 : Int); omega) (by show (0 : Int) ≤ y211.toInt; omega) (by show y211.toInt ≤ (48 : Int); omega) (by show z227.toInt ≤ (f 0).toInt; omega) (by show (f 0).toInt ≤ (512 : Int); omega) (by show (0 : Int) ≤ (f 24).toInt; omega) (by show (f 24).toInt ≤ (4000 : Int); omega) (by show (0 : Int) ≤ (f 44).toInt; omega) (by show (f 44).toInt ≤ z227.toInt; omega) (by show (0 : Int) ≤ (f 48).toInt; omega) (by show (f 48).toInt ≤ z227.toInt; omega) (by show (0 : Int) ≤ (f 37).toInt; omega) (by show (f 37).toInt ≤ (126 : Int); omega) (by show (0 : Int) ≤ z555.toInt; omega) (by show z555.toInt ≤ (65533 : Int); omega) (by show (0 : Int) ≤ (f 68).toInt; omega)) ?_
                  rintro v562 S563 (⟨z564, y565, a566, b567, t568, l569, i_570, dd571, bz572, mm573, g'574, hv575, hS576, hR589, h577, h578, h579, h580, h581, h582, h583, h584, h585, h586, h587, h588⟩ | ⟨a590, b591, hv592, hS593, hR594⟩ | ⟨z595, y596, u597, v_598, a599, b600, l601, i_602, dd603, bz604, mm605, g'606, hv607, hS608, hR615, h609, h610, h611, h612, h613, h614⟩)
                  · subst hv575
                    have h577_ : z227.toInt + 2 ≤ z564.toInt := h577
                    have h578_ : z564.toInt ≤ (f 0).toInt := h578
                    have h579_ : y565.toInt = y211.toInt := h579
                    have h580_ : (f 24).toInt ≤ l569.toInt := h580
                    have h581_ : l569.toInt + z227.toInt ≤ (f 24).toInt + z564.toInt := h581
                    have h582_ : t568.toInt = z555.toInt + 2 := h582
                    have h583_ : dd571.toInt = (f 32).toInt + 1 := h583
                    have h584_ : bz572.toInt = (f 37).toInt + 1 := h584
                    have h585_ : mm573.toInt = (f 53).toInt + 1 := h585
                    have h586_ : ∀ j, j ∉ [11, 12, 13, 14, 25, 26, 27, 28, 29, 30, 33, 34, 35, 36, 38, 39, 40, 41, 42, 43, 54, 55, 56, 58, 59, 60, 67] → g'574 j = g'556 j := h586
                    have h587_ : g'574 34 = upd (g'556 34) dd571.toNatClampNeg (f 24) := h587
                    have h588_ : g'574 38 = upd (g'556 38) (f 37).toNatClampNeg (f 24) := h588
                    replace hS576 : MS S0 S563 (upd (upd (upd (upd (upd (upd (upd (upd (upd (upd (upd (upd f 4 z564) 5 y565) 8 a566) 9 b567) 10 t568) 24 l569) 31 i_570) 32 dd571) 37 bz572) 53 mm573) 62 o532) 75 m533) g'574 := hS576
                    have hR589_ : RJ (upd (upd (upd (upd (upd (upd (upd (upd (upd (upd (upd (upd f 4 z564) 5 y565) 8 a566) 9 b567) 10 t568) 24 l569) 31 i_570) 32 dd571) 37 bz572) 53 mm573) 62 o532) 75 m533) g'574 (((1 : Int), (0 : Int), (0 : Int), (0 : Int), []) :: (((40 : Int), z227.toInt, (0 : Int), (0 : Int), []) :: (((41 : Int), (f 4).toInt, (0 : Int), (0 : Int), []) :: (((16 : Int), r535.toInt, m533.toInt, z210.toInt, []) :: (((1 : Int), (0 : Int), (0 : Int), (0 : Int), []) :: gs))))) ([] :: bc) [] 0 [] := hR589
                    show am_E _ _ _ _ [some (.ref 39), some (.int (f 4)), some (.int z210), some (.int r535), none, none] [] _ _
                    refine am_e35 hi_236_65 ?_
                    show am_E _ _ _ _ [some (.ref 39), some (.int r2), some (.int (f 4))] [] _ _
                    refine am_e18 hi_228_376 ?_
                    refine am_e35 hi_228_422 ?_
                    show am_E _ _ _ _ [some (.ref 39), some (.int r2)] [] _ _
                    refine am_e35 hi_225_33 ?_
                    show am_E _ _ _ _ [some (.ref 39), some (.int 1), some (.int on), some (.int tw), some (.int th)] [] _ _
                    refine am_e18 hi_180_116 ?_
                    refine am_e35 hi_180_371 ?_
                    have q1 : mg_p1 (((1 : Int), (0 : Int), (0 : Int), (0 : Int), []) :: (((40 : Int), z227.toInt, (0 : Int), (0 : Int), []) :: (((41 : Int), (f 4).toInt, (0 : Int), (0 : Int), []) :: (((16 : Int), r535.toInt, m533.toInt, z210.toInt, []) :: (((1 : Int), (0 : Int), (0 : Int), (0 : Int), []) :: gs))))) = 0 + (0 + (0 + (0 + (0 + (mg_p1 gs))))) := rfl
                    have q2 : mg_p2 (((1 : Int), (0 : Int), (0 : Int), (0 : Int), []) :: (((40 : Int), z227.toInt, (0 : Int), (0 : Int), []) :: (((41 : Int), (f 4).toInt, (0 : Int), (0 : Int), []) :: (((16 : Int), r535.toInt, m533.toInt, z210.toInt, []) :: (((1 : Int), (0 : Int), (0 : Int), (0 : Int), []) :: gs))))) = 0 + (0 + (1 + (0 + (0 + (mg_p2 gs))))) := rfl
                    have q3 : mg_p3 (((1 : Int), (0 : Int), (0 : Int), (0 : Int), []) :: (((40 : Int), z227.toInt, (0 : Int), (0 : Int), []) :: (((41 : Int), (f 4).toInt, (0 : Int), (0 : Int), []) :: (((16 : Int), r535.toInt, m533.toInt, z210.toInt, []) :: (((1 : Int), (0 : Int), (0 : Int), (0 : Int), []) :: gs))))) = 1 + (1 + (1 + (1 + (1 + (mg_p3 gs))))) := rfl
                    have q4 : mg_p4 (((1 : Int), (0 : Int), (0 : Int), (0 : Int), []) :: (((40 : Int), z227.toInt, (0 : Int), (0 : Int), []) :: (((41 : Int), (f 4).toInt, (0 : Int), (0 : Int), []) :: (((16 : Int), r535.toInt, m533.toInt, z210.toInt, []) :: (((1 : Int), (0 : Int), (0 : Int), (0 : Int), []) :: gs))))) = 0 + (0 + (2 + (3 + (0 + (mg_p4 gs))))) := rfl
                    refine ⟨_, _, _, ([] :: bc), rfl, hS576, Or.inl ⟨⟨hR589_, ?_, ?_⟩, rfl, ?_⟩⟩
                    · exact (⟨⟨(show mg_k 1 from by decide), (show (0 : Int) ≤ (f 15).toInt from by omega), (show 0 ≤ (f 20).toInt from by omega), (show 1 ≤ bz572.toInt from by omega), (show 0 ≤ dd571.toInt from by omega), (show dd571.toInt ≤ y565.toInt from by omega), (show y565.toInt ≤ 48 from by omega), (show bz572.toInt ≤ 2 * (y565.toInt) + 1 from by omega), trivial⟩, ⟨⟨(show mg_k 40 from by decide), (show (0 : Int) ≤ (f 15).toInt + 0 from by omega), (show 0 ≤ (f 20).toInt from by omega), (show 1 ≤ bz572.toInt + 0 from by omega), (show 0 ≤ dd571.toInt + 0 from by omega), (show dd571.toInt + 0 ≤ y565.toInt + 0 from by omega), (show y565.toInt + 0 ≤ 48 from by omega), (show bz572.toInt + 0 ≤ 2 * (y565.toInt + 0) + 1 from by omega), trivial⟩, ⟨⟨(show mg_k 41 from by decide), (show (0 : Int) ≤ (f 15).toInt + 0 + 0 from by omega), (show 0 ≤ (f 20).toInt from by omega), (show 1 ≤ bz572.toInt + 0 + -1 from by omega), (show 0 ≤ dd571.toInt + 0 + -1 from by omega), (show dd571.toInt + 0 + -1 ≤ y565.toInt + 0 + -1 from by omega), (show y565.toInt + 0 + -1 ≤ 48 from by omega), (show bz572.toInt + 0 + -1 ≤ 2 * (y565.toInt + 0 + -1) + 2 from by omega), trivial⟩, ⟨⟨(show mg_k 16 from by decide), (show (1 : Int) ≤ (f 15).toInt + 0 + 0 + 1 from by omega), (show 0 ≤ (f 20).toInt from by omega), (show 1 ≤ bz572.toInt + 0 + -1 + 0 from by omega), (show 0 ≤ dd571.toInt + 0 + -1 + 0 from by omega), (show dd571.toInt + 0 + -1 + 0 ≤ y565.toInt + 0 + -1 + 0 from by omega), (show y565.toInt + 0 + -1 + 0 ≤ 48 from by omega), (show bz572.toInt + 0 + -1 + 0 ≤ 2 * (y565.toInt + 0 + -1 + 0) + 1 from by omega), trivial⟩, ⟨⟨(show mg_k 1 from by decide), (show (0 : Int) ≤ (f 15).toInt + 0 + 0 + 1 + -1 from by omega), (show 0 ≤ (f 20).toInt from by omega), (show 1 ≤ bz572.toInt + 0 + -1 + 0 + 0 from by omega), (show 0 ≤ dd571.toInt + 0 + -1 + 0 + 0 from by omega), (show dd571.toInt + 0 + -1 + 0 + 0 ≤ y565.toInt + 0 + -1 + 0 + 0 from by omega), (show y565.toInt + 0 + -1 + 0 + 0 ≤ 48 from by omega), (show bz572.toInt + 0 + -1 + 0 + 0 ≤ 2 * (y565.toInt + 0 + -1 + 0 + 0) + 1 from by omega), trivial⟩, mg_cast (mg_good_ext _ _ _ _ _ _ (fun i hi => by show g'574 34 i = g 34 i; rw [h587_, show g'556 34 = g'547 34 from h560_ 34 (by decide), show g'547 34 = g'534 34 from h551_ 34 (by decide), show g'534 34 = g'20 34 from h542_ 34 (by decide), show g'20 34 = g 34 from h24_ 34 (by decide)]; exact upd_ne (by rw [cl_toNat]; omega)) (fun i hi => by show g'574 38 i = g 38 i; rw [h588_, show g'556 38 = g'547 38 from h560_ 38 (by decide), show g'547 38 = g'534 38 from h551_ 38 (by decide), show g'534 38 = g'20 38 from h542_ 38 (by decide), show g'20 38 = g 38 from h24_ 38 (by decide)]; exact upd_ne (by rw [cl_toNat]; omega)) (fun i _ => by show g'574 23 i = g 23 i; rw [show g'574 23 = g'556 23 from h586_ 23 (by decide), show g'556 23 = g'547 23 from h560_ 23 (by decide), show g'547 23 = g'534 23 from h551_ 23 (by decide), show g'534 23 = g'20 23 from h542_ 23 (by decide), show g'20 23 = g 23 from h24_ 23 (by decide)]) hrest) (by show (f 15).toInt + 0 = (f 15).toInt + 0 + 0 + 1 + -1 + 0; omega) (by show (f 20).toInt = (f 20).toInt; omega) (by show (f 37).toInt + 0 = bz572.toInt + 0 + -1 + 0 + 0 + 0; omega) (by show (f 32).toInt + 0 = dd571.toInt + 0 + -1 + 0 + 0 + 0; omega) (by show (f 5).toInt + 0 = y565.toInt + 0 + -1 + 0 + 0 + 0; omega)⟩⟩⟩⟩⟩ : mg_good (g'574 34) (g'574 38) (g'574 23) (((1 : Int), (0 : Int), (0 : Int), (0 : Int), []) :: (((40 : Int), z227.toInt, (0 : Int), (0 : Int), []) :: (((41 : Int), (f 4).toInt, (0 : Int), (0 : Int), []) :: (((16 : Int), r535.toInt, m533.toInt, z210.toInt, []) :: (((1 : Int), (0 : Int), (0 : Int), (0 : Int), []) :: gs))))) ((f 15).toInt) ((f 20).toInt) (bz572.toInt) (dd571.toInt) (y565.toInt))
                    · exact ⟨(by show 0 ≤ z564.toInt; omega), (by show z564.toInt ≤ (f 0).toInt; omega), (by show (f 0).toInt ≤ 512; omega), (by show 0 ≤ l569.toInt; omega), (by show l569.toInt + (f 20).toInt + mg_p1 (((1 : Int), (0 : Int), (0 : Int), (0 : Int), []) :: (((40 : Int), z227.toInt, (0 : Int), (0 : Int), []) :: (((41 : Int), (f 4).toInt, (0 : Int), (0 : Int), []) :: (((16 : Int), r535.toInt, m533.toInt, z210.toInt, []) :: (((1 : Int), (0 : Int), (0 : Int), (0 : Int), []) :: gs))))) ≤ 4 * z564.toInt; omega), (by show (f 20).toInt ≤ z564.toInt; omega), (by show (f 15).toInt + mg_p2 (((1 : Int), (0 : Int), (0 : Int), (0 : Int), []) :: (((40 : Int), z227.toInt, (0 : Int), (0 : Int), []) :: (((41 : Int), (f 4).toInt, (0 : Int), (0 : Int), []) :: (((16 : Int), r535.toInt, m533.toInt, z210.toInt, []) :: (((1 : Int), (0 : Int), (0 : Int), (0 : Int), []) :: gs))))) ≤ z564.toInt; omega), (by show mg_p3 (((1 : Int), (0 : Int), (0 : Int), (0 : Int), []) :: (((40 : Int), z227.toInt, (0 : Int), (0 : Int), []) :: (((41 : Int), (f 4).toInt, (0 : Int), (0 : Int), []) :: (((16 : Int), r535.toInt, m533.toInt, z210.toInt, []) :: (((1 : Int), (0 : Int), (0 : Int), (0 : Int), []) :: gs))))) ≤ 20 * z564.toInt + 20; omega), (by show 0 ≤ (f 68).toInt; omega), (by show (f 68).toInt + 3 * (f 20).toInt + mg_p4 (((1 : Int), (0 : Int), (0 : Int), (0 : Int), []) :: (((40 : Int), z227.toInt, (0 : Int), (0 : Int), []) :: (((41 : Int), (f 4).toInt, (0 : Int), (0 : Int), []) :: (((16 : Int), r535.toInt, m533.toInt, z210.toInt, []) :: (((1 : Int), (0 : Int), (0 : Int), (0 : Int), []) :: gs))))) ≤ 60 * z564.toInt + 60; omega), (by show 0 ≤ o532.toInt; omega), (by show o532.toInt + 64 * mj_n (g'574 16) (f 15).toNatClampNeg 3 ≤ 64 * z564.toInt; rw [show g'574 16 = g'556 16 from h586_ 16 (by decide), show g'556 16 = g'547 16 from h560_ 16 (by decide), show g'547 16 = g'534 16 from h551_ 16 (by decide), show g'534 16 = g'20 16 from h542_ 16 (by decide), show g'20 16 = g 16 from h24_ 16 (by decide)]; omega), (by show 0 ≤ (f 44).toInt; omega), (by show (f 44).toInt ≤ z564.toInt; omega), (by show 0 ≤ (f 48).toInt; omega), (by show (f 48).toInt ≤ z564.toInt; omega), (by show 1 ≤ mm573.toInt; omega), (by show mm573.toInt ≤ z564.toInt + 1; omega), (by show 0 ≤ (f 19).toInt; omega), (by show (f 19).toInt ≤ 600; omega)⟩
                    · show 100 * ((f 0).toInt - z564.toInt) + mg_p3 (((1 : Int), (0 : Int), (0 : Int), (0 : Int), []) :: (((40 : Int), z227.toInt, (0 : Int), (0 : Int), []) :: (((41 : Int), (f 4).toInt, (0 : Int), (0 : Int), []) :: (((16 : Int), r535.toInt, m533.toInt, z210.toInt, []) :: (((1 : Int), (0 : Int), (0 : Int), (0 : Int), []) :: gs))))) < 100 * ((f 0).toInt - (f 4).toInt) + (1 + mg_p3 gs); omega
                  · subst hv592
                    replace hS593 : MS S0 S563 (upd (upd (upd (upd (upd (upd (upd f 4 z227) 5 y211) 6 a590) 7 b591) 10 0) 62 o532) 75 m533) g'556 := hS593
                    have hR594_ : RJ (upd (upd (upd (upd (upd (upd (upd f 4 z227) 5 y211) 6 a590) 7 b591) 10 0) 62 o532) 75 m533) g'556 [] bc [] 0 [] := hR594
                    show am_E _ _ _ _ [some (.ref 39), some (.int (f 4)), some (.int z210), some (.int r535), none, none] [] _ _
                    refine am_e35 hi_236_65 ?_
                    show am_E _ _ _ _ [some (.ref 39), some (.int r2), some (.int (f 4))] [] _ _
                    refine am_e18 hi_228_376 ?_
                    refine am_e35 hi_228_422 ?_
                    show am_E _ _ _ _ [some (.ref 39), some (.int r2)] [] _ _
                    refine am_e35 hi_225_33 ?_
                    show am_E _ _ _ _ [some (.ref 39), some (.int 1), some (.int on), some (.int tw), some (.int th)] [] _ _
                    refine am_e18 hi_180_116 ?_
                    refine am_e35 hi_180_371 ?_
                    have hRc := rj_clear0 hR594_
                    refine ⟨_, _, [], _, rfl, hS593, Or.inr ⟨hRc, rfl, (by show 0 ≤ z227.toInt; omega), (by show z227.toInt ≤ (f 0).toInt; omega), (by show 0 ≤ (f 32).toInt; omega), (by show (f 32).toInt ≤ 63; omega), (by show 1 ≤ (f 53).toInt; omega), (by show (f 53).toInt ≤ 600; omega), (by show 0 ≤ (f 68).toInt; omega), (by show (f 68).toInt ≤ 60000; omega), (by show 0 ≤ (f 48).toInt; omega), (by show (f 48).toInt ≤ 8000; omega), (by show 0 ≤ (f 37).toInt; omega), (by show (f 37).toInt ≤ 128; omega), (by show 0 ≤ o532.toInt; omega), (by show o532.toInt ≤ 65000; omega), (by show 0 ≤ (f 19).toInt; omega), (by show (f 19).toInt ≤ 600; omega)⟩⟩
                  · subst hv607
                    have h609_ : z227.toInt ≤ z595.toInt := h609
                    have h610_ : z595.toInt ≤ (f 0).toInt := h610
                    have h611_ : dd603.toInt = (f 32).toInt + 1 := h611
                    have h612_ : bz604.toInt = (f 37).toInt + 1 := h612
                    have h613_ : mm605.toInt = (f 53).toInt + 1 := h613
                    have h614_ : ∀ j, j ∉ [11, 12, 13, 14, 25, 26, 27, 28, 29, 30, 33, 34, 35, 36, 38, 39, 40, 41, 42, 43, 54, 55, 56, 58, 59, 60, 67] → g'606 j = g'556 j := h614
                    replace hS608 : MS S0 S563 (upd (upd (upd (upd (upd (upd (upd (upd (upd (upd (upd (upd (upd (upd f 4 z595) 5 y596) 6 u597) 7 v_598) 8 a599) 9 b600) 10 0) 24 l601) 31 i_602) 32 dd603) 37 bz604) 53 mm605) 62 o532) 75 m533) g'606 := hS608
                    have hR615_ : RJ (upd (upd (upd (upd (upd (upd (upd (upd (upd (upd (upd (upd (upd (upd f 4 z595) 5 y596) 6 u597) 7 v_598) 8 a599) 9 b600) 10 0) 24 l601) 31 i_602) 32 dd603) 37 bz604) 53 mm605) 62 o532) 75 m533) g'606 [] ([] :: bc) [] 0 [] := hR615
                    show am_E _ _ _ _ [some (.ref 39), some (.int (f 4)), some (.int z210), some (.int r535), none, none] [] _ _
                    refine am_e35 hi_236_65 ?_
                    show am_E _ _ _ _ [some (.ref 39), some (.int r2), some (.int (f 4))] [] _ _
                    refine am_e18 hi_228_376 ?_
                    refine am_e35 hi_228_422 ?_
                    show am_E _ _ _ _ [some (.ref 39), some (.int r2)] [] _ _
                    refine am_e35 hi_225_33 ?_
                    show am_E _ _ _ _ [some (.ref 39), some (.int 1), some (.int on), some (.int tw), some (.int th)] [] _ _
                    refine am_e18 hi_180_116 ?_
                    refine am_e35 hi_180_371 ?_
                    have hRc := rj_clear0 hR615_
                    refine ⟨_, _, [], _, rfl, hS608, Or.inr ⟨hRc, rfl, (by show 0 ≤ z595.toInt; omega), (by show z595.toInt ≤ (f 0).toInt; omega), (by show 0 ≤ dd603.toInt; omega), (by show dd603.toInt ≤ 63; omega), (by show 1 ≤ mm605.toInt; omega), (by show mm605.toInt ≤ 600; omega), (by show 0 ≤ (f 68).toInt; omega), (by show (f 68).toInt ≤ 60000; omega), (by show 0 ≤ (f 48).toInt; omega), (by show (f 48).toInt ≤ 8000; omega), (by show 0 ≤ bz604.toInt; omega), (by show bz604.toInt ≤ 128; omega), (by show 0 ≤ o532.toInt; omega), (by show o532.toInt ≤ 65000; omega), (by show 0 ≤ (f 19).toInt; omega), (by show (f 19).toInt ≤ 600; omega)⟩⟩
                · refine am_e12f hi_237_12 (am_cF (m := r523.toInt) (n := (0 : Int)) rfl (by decide) c529) ?_
                  refine am_e2 (v := 39) hi_237_15 rfl ?_
                  refine mm_20 (v := .ref 56) hS525 hi_237_16 rfl ?_
                  refine am_e1 (v := r523) hi_237_19 rfl ?_
                  refine mm_25 hS525 ma_29 hi_237_20 (by decide) (by omega) (by omega) ?_
                  show am_E _ _ _ _ _ (.int (g'20 29 r523.toNatClampNeg) :: _) _ _
                  rw [show g'20 29 = g 29 from h24_ 29 (by decide)]
                  show am_E _ _ _ _ [some (.ref 39), some (.int z210), some (.int r523)] [.int (g 29 r523.toNatClampNeg)] _ _
                  by_cases c616 : (g 29 r523.toNatClampNeg).toInt = (0 : Int)
                  · refine am_e12t hi_237_21 (am_cT (m := (g 29 r523.toNatClampNeg).toInt) (n := (0 : Int)) rfl (by decide) c616) ?_
                    refine am_e2 (v := 39) hi_237_31 rfl ?_
                    refine am_e1 (v := z210) hi_237_32 rfl ?_
                    refine am_e32n (as := [.ref 39, .int z210]) (la := [some (.ref 39), some (.int z210), none, none, none]) (rest := []) hi_237_33 (am_hd0 (M := 237) (by decide) 33) (Nat.le_of_ble_eq_true rfl) (Nat.le_of_ble_eq_true rfl) (show 2 ≤ am_P0.2.2.1 205 from by decide +kernel) rfl (am_recv_ok hS525.fs) rfl rfl (ct_resolve (d := (d + 2)) hS525 hR238  (by show (0 : Int) ≤ (f 32).toInt; omega) (by show (f 32).toInt ≤ (63 : Int); omega) (by show (f 53).toInt ≤ (4096 : Int); omega) (by show (0 : Int) ≤ (f 24).toInt; omega) (by show (f 24).toInt ≤ (16384 : Int); omega) (by show (0 : Int) ≤ (f 62).toInt; omega) (by show (f 62).toInt ≤ (65000 : Int); omega) (by show (0 : Int) ≤ z210.toInt; omega) (by show z210.toInt ≤ (16383 : Int); omega)) ?_
                    rintro v617 S618 (⟨o619, m620, g'621, r622, hv623, hS624, hR630, h625, h626, h627, h628, h629⟩)
                    subst hv623
                    have h625_ : (f 62).toInt ≤ o619.toInt := h625
                    have h626_ : o619.toInt ≤ (f 62).toInt + 64 := h626
                    have h627_ : (0 : Int) ≤ r622.toInt := h627
                    have h628_ : r622.toInt ≤ (2 : Int) := h628
                    have h629_ : ∀ j, j ∉ [63, 64, 65, 66, 67] → g'621 j = g'20 j := h629
                    have hR630_ : RJ (upd (upd (upd (upd (upd f 4 z227) 5 y211) 10 z19) 62 o619) 75 m620) g'621 (((1 : Int), (0 : Int), (0 : Int), (0 : Int), []) :: gs) bc [] 0 [] := hR630
                    show am_E _ _ _ _ [some (.ref 39), some (.int z210), some (.int r523)] [.int r622] _ _
                    refine am_e33 hi_237_36 ?_
                    show am_E _ _ _ _ [some (.ref 39), some (.int (f 4)), some (.int z210), none, none, none] [.int r622] _ _
                    refine am_e3 (ls' := [some (.ref 39), some (.int (f 4)), some (.int z210), some (.int r622), none, none]) hi_236_37 (Nat.le_of_ble_eq_true rfl) rfl ?_
                    refine am_e2 (v := 39) hi_236_38 rfl ?_
                    refine am_e0 hi_236_39 ?_
                    refine am_e1 (v := r622) hi_236_41 rfl ?_
                    refine am_e2 (v := 39) hi_236_42 rfl ?_
                    refine mm_20 (v := .int m620) hS624 hi_236_43 rfl ?_
                    refine am_e1 (v := z210) hi_236_46 rfl ?_
                    refine am_e32n (as := [.ref 39, .int 16, .int r622, .int m620, .int z210]) (la := [some (.ref 39), some (.int 16), some (.int r622), some (.int m620), some (.int z210)]) (rest := []) hi_236_47 (am_hd0 (M := 236) (by decide) 47) (Nat.le_of_ble_eq_true rfl) (Nat.le_of_ble_eq_true rfl) (show 5 ≤ am_P0.2.2.1 179 from by decide +kernel) rfl (am_recv_ok hS624.fs) rfl rfl (ct_pile (d := (d + 4)) hS624 hR630_ (mj_e_plain (by decide)) (by show (0 : Int) ≤ z19.toInt; omega) (by show z19.toInt ≤ (65535 : Int); omega)) ?_
                    rintro v631 S632 (⟨z633, g'634, hv635, hS636, hR639, h637, h638⟩)
                    subst hv635
                    have h637_ : z633.toInt = z19.toInt + 1 := h637
                    have h638_ : ∀ j, j ∉ [11, 12, 13, 14] → g'634 j = g'621 j := h638
                    replace hS636 : MS S0 S632 (upd (upd (upd (upd (upd f 4 z227) 5 y211) 10 z633) 62 o619) 75 m620) g'634 := hS636
                    have hR639_ : RJ (upd (upd (upd (upd (upd f 4 z227) 5 y211) 10 z633) 62 o619) 75 m620) g'634 (((16 : Int), r622.toInt, m620.toInt, z210.toInt, []) :: (((1 : Int), (0 : Int), (0 : Int), (0 : Int), []) :: gs)) bc [] 0 [] := hR639
                    show am_E _ _ _ _ [some (.ref 39), some (.int (f 4)), some (.int z210), some (.int r622), none, none] [] _ _
                    refine am_e2 (v := 39) hi_236_50 rfl ?_
                    refine am_e0 hi_236_51 ?_
                    refine am_e1 (v := f 4) hi_236_53 rfl ?_
                    refine am_e0 hi_236_54 ?_
                    refine am_e0 hi_236_55 ?_
                    refine am_e32n (as := [.ref 39, .int 41, .int (f 4), .int 0, .int 0]) (la := [some (.ref 39), some (.int 41), some (.int (f 4)), some (.int 0), some (.int 0)]) (rest := []) hi_236_56 (am_hd0 (M := 236) (by decide) 56) (Nat.le_of_ble_eq_true rfl) (Nat.le_of_ble_eq_true rfl) (show 5 ≤ am_P0.2.2.1 179 from by decide +kernel) rfl (am_recv_ok hS636.fs) rfl rfl (ct_pile (d := (d + 4)) hS636 hR639_ (mj_e_plain (by decide)) (by show (0 : Int) ≤ z633.toInt; omega) (by show z633.toInt ≤ (65535 : Int); omega)) ?_
                    rintro v640 S641 (⟨z642, g'643, hv644, hS645, hR648, h646, h647⟩)
                    subst hv644
                    have h646_ : z642.toInt = z633.toInt + 1 := h646
                    have h647_ : ∀ j, j ∉ [11, 12, 13, 14] → g'643 j = g'634 j := h647
                    replace hS645 : MS S0 S641 (upd (upd (upd (upd (upd f 4 z227) 5 y211) 10 z642) 62 o619) 75 m620) g'643 := hS645
                    have hR648_ : RJ (upd (upd (upd (upd (upd f 4 z227) 5 y211) 10 z642) 62 o619) 75 m620) g'643 (((41 : Int), (f 4).toInt, (0 : Int), (0 : Int), []) :: (((16 : Int), r622.toInt, m620.toInt, z210.toInt, []) :: (((1 : Int), (0 : Int), (0 : Int), (0 : Int), []) :: gs))) bc [] 0 [] := hR648
                    show am_E _ _ _ _ [some (.ref 39), some (.int (f 4)), some (.int z210), some (.int r622), none, none] [] _ _
                    refine am_e2 (v := 39) hi_236_59 rfl ?_
                    refine am_e0 hi_236_60 ?_
                    refine am_e1 (v := f 4) hi_236_61 rfl ?_
                    refine am_e32n (as := [.ref 39, .int 0, .int (f 4)]) (la := [some (.ref 39), some (.int 0), some (.int (f 4)), none, none]) (rest := []) hi_236_62 (am_hd0 (M := 236) (by decide) 62) (Nat.le_of_ble_eq_true rfl) (Nat.le_of_ble_eq_true rfl) (show 3 ≤ am_P0.2.2.1 195 from by decide +kernel) rfl (am_recv_ok hS645.fs) rfl rfl (ct_body (d := d) hS645 hR648_ (by decide)  (by show (0 : Int) ≤ (f 32).toInt; omega) (by show (f 32).toInt ≤ (62 : Int); omega) (by show (1 : Int) ≤ (f 53).toInt; omega) (by show (f 53).toInt ≤ (4095 : Int); omega) (by show (0 : Int) ≤ z227.toInt; omega) (by show (f 0).toInt ≤ (16384 : Int); omega) (by show (0 : Int) ≤ y211.toInt; omega) (by show y211.toInt ≤ (48 : Int); omega) (by show z227.toInt ≤ (f 0).toInt; omega) (by show (f 0).toInt ≤ (512 : Int); omega) (by show (0 : Int) ≤ (f 24).toInt; omega) (by show (f 24).toInt ≤ (4000 : Int); omega) (by show (0 : Int) ≤ (f 44).toInt; omega) (by show (f 44).toInt ≤ z227.toInt; omega) (by show (0 : Int) ≤ (f 48).toInt; omega) (by show (f 48).toInt ≤ z227.toInt; omega) (by show (0 : Int) ≤ (f 37).toInt; omega) (by show (f 37).toInt ≤ (126 : Int); omega) (by show (0 : Int) ≤ z642.toInt; omega) (by show z642.toInt ≤ (65533 : Int); omega) (by show (0 : Int) ≤ (f 68).toInt; omega)) ?_
                    rintro v649 S650 (⟨z651, y652, a653, b654, t655, l656, i_657, dd658, bz659, mm660, g'661, hv662, hS663, hR676, h664, h665, h666, h667, h668, h669, h670, h671, h672, h673, h674, h675⟩ | ⟨a677, b678, hv679, hS680, hR681⟩ | ⟨z682, y683, u684, v_685, a686, b687, l688, i_689, dd690, bz691, mm692, g'693, hv694, hS695, hR702, h696, h697, h698, h699, h700, h701⟩)
                    · subst hv662
                      have h664_ : z227.toInt + 2 ≤ z651.toInt := h664
                      have h665_ : z651.toInt ≤ (f 0).toInt := h665
                      have h666_ : y652.toInt = y211.toInt := h666
                      have h667_ : (f 24).toInt ≤ l656.toInt := h667
                      have h668_ : l656.toInt + z227.toInt ≤ (f 24).toInt + z651.toInt := h668
                      have h669_ : t655.toInt = z642.toInt + 2 := h669
                      have h670_ : dd658.toInt = (f 32).toInt + 1 := h670
                      have h671_ : bz659.toInt = (f 37).toInt + 1 := h671
                      have h672_ : mm660.toInt = (f 53).toInt + 1 := h672
                      have h673_ : ∀ j, j ∉ [11, 12, 13, 14, 25, 26, 27, 28, 29, 30, 33, 34, 35, 36, 38, 39, 40, 41, 42, 43, 54, 55, 56, 58, 59, 60, 67] → g'661 j = g'643 j := h673
                      have h674_ : g'661 34 = upd (g'643 34) dd658.toNatClampNeg (f 24) := h674
                      have h675_ : g'661 38 = upd (g'643 38) (f 37).toNatClampNeg (f 24) := h675
                      replace hS663 : MS S0 S650 (upd (upd (upd (upd (upd (upd (upd (upd (upd (upd (upd (upd f 4 z651) 5 y652) 8 a653) 9 b654) 10 t655) 24 l656) 31 i_657) 32 dd658) 37 bz659) 53 mm660) 62 o619) 75 m620) g'661 := hS663
                      have hR676_ : RJ (upd (upd (upd (upd (upd (upd (upd (upd (upd (upd (upd (upd f 4 z651) 5 y652) 8 a653) 9 b654) 10 t655) 24 l656) 31 i_657) 32 dd658) 37 bz659) 53 mm660) 62 o619) 75 m620) g'661 (((1 : Int), (0 : Int), (0 : Int), (0 : Int), []) :: (((40 : Int), z227.toInt, (0 : Int), (0 : Int), []) :: (((41 : Int), (f 4).toInt, (0 : Int), (0 : Int), []) :: (((16 : Int), r622.toInt, m620.toInt, z210.toInt, []) :: (((1 : Int), (0 : Int), (0 : Int), (0 : Int), []) :: gs))))) ([] :: bc) [] 0 [] := hR676
                      show am_E _ _ _ _ [some (.ref 39), some (.int (f 4)), some (.int z210), some (.int r622), none, none] [] _ _
                      refine am_e35 hi_236_65 ?_
                      show am_E _ _ _ _ [some (.ref 39), some (.int r2), some (.int (f 4))] [] _ _
                      refine am_e18 hi_228_376 ?_
                      refine am_e35 hi_228_422 ?_
                      show am_E _ _ _ _ [some (.ref 39), some (.int r2)] [] _ _
                      refine am_e35 hi_225_33 ?_
                      show am_E _ _ _ _ [some (.ref 39), some (.int 1), some (.int on), some (.int tw), some (.int th)] [] _ _
                      refine am_e18 hi_180_116 ?_
                      refine am_e35 hi_180_371 ?_
                      have q1 : mg_p1 (((1 : Int), (0 : Int), (0 : Int), (0 : Int), []) :: (((40 : Int), z227.toInt, (0 : Int), (0 : Int), []) :: (((41 : Int), (f 4).toInt, (0 : Int), (0 : Int), []) :: (((16 : Int), r622.toInt, m620.toInt, z210.toInt, []) :: (((1 : Int), (0 : Int), (0 : Int), (0 : Int), []) :: gs))))) = 0 + (0 + (0 + (0 + (0 + (mg_p1 gs))))) := rfl
                      have q2 : mg_p2 (((1 : Int), (0 : Int), (0 : Int), (0 : Int), []) :: (((40 : Int), z227.toInt, (0 : Int), (0 : Int), []) :: (((41 : Int), (f 4).toInt, (0 : Int), (0 : Int), []) :: (((16 : Int), r622.toInt, m620.toInt, z210.toInt, []) :: (((1 : Int), (0 : Int), (0 : Int), (0 : Int), []) :: gs))))) = 0 + (0 + (1 + (0 + (0 + (mg_p2 gs))))) := rfl
                      have q3 : mg_p3 (((1 : Int), (0 : Int), (0 : Int), (0 : Int), []) :: (((40 : Int), z227.toInt, (0 : Int), (0 : Int), []) :: (((41 : Int), (f 4).toInt, (0 : Int), (0 : Int), []) :: (((16 : Int), r622.toInt, m620.toInt, z210.toInt, []) :: (((1 : Int), (0 : Int), (0 : Int), (0 : Int), []) :: gs))))) = 1 + (1 + (1 + (1 + (1 + (mg_p3 gs))))) := rfl
                      have q4 : mg_p4 (((1 : Int), (0 : Int), (0 : Int), (0 : Int), []) :: (((40 : Int), z227.toInt, (0 : Int), (0 : Int), []) :: (((41 : Int), (f 4).toInt, (0 : Int), (0 : Int), []) :: (((16 : Int), r622.toInt, m620.toInt, z210.toInt, []) :: (((1 : Int), (0 : Int), (0 : Int), (0 : Int), []) :: gs))))) = 0 + (0 + (2 + (3 + (0 + (mg_p4 gs))))) := rfl
                      refine ⟨_, _, _, ([] :: bc), rfl, hS663, Or.inl ⟨⟨hR676_, ?_, ?_⟩, rfl, ?_⟩⟩
                      · exact (⟨⟨(show mg_k 1 from by decide), (show (0 : Int) ≤ (f 15).toInt from by omega), (show 0 ≤ (f 20).toInt from by omega), (show 1 ≤ bz659.toInt from by omega), (show 0 ≤ dd658.toInt from by omega), (show dd658.toInt ≤ y652.toInt from by omega), (show y652.toInt ≤ 48 from by omega), (show bz659.toInt ≤ 2 * (y652.toInt) + 1 from by omega), trivial⟩, ⟨⟨(show mg_k 40 from by decide), (show (0 : Int) ≤ (f 15).toInt + 0 from by omega), (show 0 ≤ (f 20).toInt from by omega), (show 1 ≤ bz659.toInt + 0 from by omega), (show 0 ≤ dd658.toInt + 0 from by omega), (show dd658.toInt + 0 ≤ y652.toInt + 0 from by omega), (show y652.toInt + 0 ≤ 48 from by omega), (show bz659.toInt + 0 ≤ 2 * (y652.toInt + 0) + 1 from by omega), trivial⟩, ⟨⟨(show mg_k 41 from by decide), (show (0 : Int) ≤ (f 15).toInt + 0 + 0 from by omega), (show 0 ≤ (f 20).toInt from by omega), (show 1 ≤ bz659.toInt + 0 + -1 from by omega), (show 0 ≤ dd658.toInt + 0 + -1 from by omega), (show dd658.toInt + 0 + -1 ≤ y652.toInt + 0 + -1 from by omega), (show y652.toInt + 0 + -1 ≤ 48 from by omega), (show bz659.toInt + 0 + -1 ≤ 2 * (y652.toInt + 0 + -1) + 2 from by omega), trivial⟩, ⟨⟨(show mg_k 16 from by decide), (show (1 : Int) ≤ (f 15).toInt + 0 + 0 + 1 from by omega), (show 0 ≤ (f 20).toInt from by omega), (show 1 ≤ bz659.toInt + 0 + -1 + 0 from by omega), (show 0 ≤ dd658.toInt + 0 + -1 + 0 from by omega), (show dd658.toInt + 0 + -1 + 0 ≤ y652.toInt + 0 + -1 + 0 from by omega), (show y652.toInt + 0 + -1 + 0 ≤ 48 from by omega), (show bz659.toInt + 0 + -1 + 0 ≤ 2 * (y652.toInt + 0 + -1 + 0) + 1 from by omega), trivial⟩, ⟨⟨(show mg_k 1 from by decide), (show (0 : Int) ≤ (f 15).toInt + 0 + 0 + 1 + -1 from by omega), (show 0 ≤ (f 20).toInt from by omega), (show 1 ≤ bz659.toInt + 0 + -1 + 0 + 0 from by omega), (show 0 ≤ dd658.toInt + 0 + -1 + 0 + 0 from by omega), (show dd658.toInt + 0 + -1 + 0 + 0 ≤ y652.toInt + 0 + -1 + 0 + 0 from by omega), (show y652.toInt + 0 + -1 + 0 + 0 ≤ 48 from by omega), (show bz659.toInt + 0 + -1 + 0 + 0 ≤ 2 * (y652.toInt + 0 + -1 + 0 + 0) + 1 from by omega), trivial⟩, mg_cast (mg_good_ext _ _ _ _ _ _ (fun i hi => by show g'661 34 i = g 34 i; rw [h674_, show g'643 34 = g'634 34 from h647_ 34 (by decide), show g'634 34 = g'621 34 from h638_ 34 (by decide), show g'621 34 = g'20 34 from h629_ 34 (by decide), show g'20 34 = g 34 from h24_ 34 (by decide)]; exact upd_ne (by rw [cl_toNat]; omega)) (fun i hi => by show g'661 38 i = g 38 i; rw [h675_, show g'643 38 = g'634 38 from h647_ 38 (by decide), show g'634 38 = g'621 38 from h638_ 38 (by decide), show g'621 38 = g'20 38 from h629_ 38 (by decide), show g'20 38 = g 38 from h24_ 38 (by decide)]; exact upd_ne (by rw [cl_toNat]; omega)) (fun i _ => by show g'661 23 i = g 23 i; rw [show g'661 23 = g'643 23 from h673_ 23 (by decide), show g'643 23 = g'634 23 from h647_ 23 (by decide), show g'634 23 = g'621 23 from h638_ 23 (by decide), show g'621 23 = g'20 23 from h629_ 23 (by decide), show g'20 23 = g 23 from h24_ 23 (by decide)]) hrest) (by show (f 15).toInt + 0 = (f 15).toInt + 0 + 0 + 1 + -1 + 0; omega) (by show (f 20).toInt = (f 20).toInt; omega) (by show (f 37).toInt + 0 = bz659.toInt + 0 + -1 + 0 + 0 + 0; omega) (by show (f 32).toInt + 0 = dd658.toInt + 0 + -1 + 0 + 0 + 0; omega) (by show (f 5).toInt + 0 = y652.toInt + 0 + -1 + 0 + 0 + 0; omega)⟩⟩⟩⟩⟩ : mg_good (g'661 34) (g'661 38) (g'661 23) (((1 : Int), (0 : Int), (0 : Int), (0 : Int), []) :: (((40 : Int), z227.toInt, (0 : Int), (0 : Int), []) :: (((41 : Int), (f 4).toInt, (0 : Int), (0 : Int), []) :: (((16 : Int), r622.toInt, m620.toInt, z210.toInt, []) :: (((1 : Int), (0 : Int), (0 : Int), (0 : Int), []) :: gs))))) ((f 15).toInt) ((f 20).toInt) (bz659.toInt) (dd658.toInt) (y652.toInt))
                      · exact ⟨(by show 0 ≤ z651.toInt; omega), (by show z651.toInt ≤ (f 0).toInt; omega), (by show (f 0).toInt ≤ 512; omega), (by show 0 ≤ l656.toInt; omega), (by show l656.toInt + (f 20).toInt + mg_p1 (((1 : Int), (0 : Int), (0 : Int), (0 : Int), []) :: (((40 : Int), z227.toInt, (0 : Int), (0 : Int), []) :: (((41 : Int), (f 4).toInt, (0 : Int), (0 : Int), []) :: (((16 : Int), r622.toInt, m620.toInt, z210.toInt, []) :: (((1 : Int), (0 : Int), (0 : Int), (0 : Int), []) :: gs))))) ≤ 4 * z651.toInt; omega), (by show (f 20).toInt ≤ z651.toInt; omega), (by show (f 15).toInt + mg_p2 (((1 : Int), (0 : Int), (0 : Int), (0 : Int), []) :: (((40 : Int), z227.toInt, (0 : Int), (0 : Int), []) :: (((41 : Int), (f 4).toInt, (0 : Int), (0 : Int), []) :: (((16 : Int), r622.toInt, m620.toInt, z210.toInt, []) :: (((1 : Int), (0 : Int), (0 : Int), (0 : Int), []) :: gs))))) ≤ z651.toInt; omega), (by show mg_p3 (((1 : Int), (0 : Int), (0 : Int), (0 : Int), []) :: (((40 : Int), z227.toInt, (0 : Int), (0 : Int), []) :: (((41 : Int), (f 4).toInt, (0 : Int), (0 : Int), []) :: (((16 : Int), r622.toInt, m620.toInt, z210.toInt, []) :: (((1 : Int), (0 : Int), (0 : Int), (0 : Int), []) :: gs))))) ≤ 20 * z651.toInt + 20; omega), (by show 0 ≤ (f 68).toInt; omega), (by show (f 68).toInt + 3 * (f 20).toInt + mg_p4 (((1 : Int), (0 : Int), (0 : Int), (0 : Int), []) :: (((40 : Int), z227.toInt, (0 : Int), (0 : Int), []) :: (((41 : Int), (f 4).toInt, (0 : Int), (0 : Int), []) :: (((16 : Int), r622.toInt, m620.toInt, z210.toInt, []) :: (((1 : Int), (0 : Int), (0 : Int), (0 : Int), []) :: gs))))) ≤ 60 * z651.toInt + 60; omega), (by show 0 ≤ o619.toInt; omega), (by show o619.toInt + 64 * mj_n (g'661 16) (f 15).toNatClampNeg 3 ≤ 64 * z651.toInt; rw [show g'661 16 = g'643 16 from h673_ 16 (by decide), show g'643 16 = g'634 16 from h647_ 16 (by decide), show g'634 16 = g'621 16 from h638_ 16 (by decide), show g'621 16 = g'20 16 from h629_ 16 (by decide), show g'20 16 = g 16 from h24_ 16 (by decide)]; omega), (by show 0 ≤ (f 44).toInt; omega), (by show (f 44).toInt ≤ z651.toInt; omega), (by show 0 ≤ (f 48).toInt; omega), (by show (f 48).toInt ≤ z651.toInt; omega), (by show 1 ≤ mm660.toInt; omega), (by show mm660.toInt ≤ z651.toInt + 1; omega), (by show 0 ≤ (f 19).toInt; omega), (by show (f 19).toInt ≤ 600; omega)⟩
                      · show 100 * ((f 0).toInt - z651.toInt) + mg_p3 (((1 : Int), (0 : Int), (0 : Int), (0 : Int), []) :: (((40 : Int), z227.toInt, (0 : Int), (0 : Int), []) :: (((41 : Int), (f 4).toInt, (0 : Int), (0 : Int), []) :: (((16 : Int), r622.toInt, m620.toInt, z210.toInt, []) :: (((1 : Int), (0 : Int), (0 : Int), (0 : Int), []) :: gs))))) < 100 * ((f 0).toInt - (f 4).toInt) + (1 + mg_p3 gs); omega
                    · subst hv679
                      replace hS680 : MS S0 S650 (upd (upd (upd (upd (upd (upd (upd f 4 z227) 5 y211) 6 a677) 7 b678) 10 0) 62 o619) 75 m620) g'643 := hS680
                      have hR681_ : RJ (upd (upd (upd (upd (upd (upd (upd f 4 z227) 5 y211) 6 a677) 7 b678) 10 0) 62 o619) 75 m620) g'643 [] bc [] 0 [] := hR681
                      show am_E _ _ _ _ [some (.ref 39), some (.int (f 4)), some (.int z210), some (.int r622), none, none] [] _ _
                      refine am_e35 hi_236_65 ?_
                      show am_E _ _ _ _ [some (.ref 39), some (.int r2), some (.int (f 4))] [] _ _
                      refine am_e18 hi_228_376 ?_
                      refine am_e35 hi_228_422 ?_
                      show am_E _ _ _ _ [some (.ref 39), some (.int r2)] [] _ _
                      refine am_e35 hi_225_33 ?_
                      show am_E _ _ _ _ [some (.ref 39), some (.int 1), some (.int on), some (.int tw), some (.int th)] [] _ _
                      refine am_e18 hi_180_116 ?_
                      refine am_e35 hi_180_371 ?_
                      have hRc := rj_clear0 hR681_
                      refine ⟨_, _, [], _, rfl, hS680, Or.inr ⟨hRc, rfl, (by show 0 ≤ z227.toInt; omega), (by show z227.toInt ≤ (f 0).toInt; omega), (by show 0 ≤ (f 32).toInt; omega), (by show (f 32).toInt ≤ 63; omega), (by show 1 ≤ (f 53).toInt; omega), (by show (f 53).toInt ≤ 600; omega), (by show 0 ≤ (f 68).toInt; omega), (by show (f 68).toInt ≤ 60000; omega), (by show 0 ≤ (f 48).toInt; omega), (by show (f 48).toInt ≤ 8000; omega), (by show 0 ≤ (f 37).toInt; omega), (by show (f 37).toInt ≤ 128; omega), (by show 0 ≤ o619.toInt; omega), (by show o619.toInt ≤ 65000; omega), (by show 0 ≤ (f 19).toInt; omega), (by show (f 19).toInt ≤ 600; omega)⟩⟩
                    · subst hv694
                      have h696_ : z227.toInt ≤ z682.toInt := h696
                      have h697_ : z682.toInt ≤ (f 0).toInt := h697
                      have h698_ : dd690.toInt = (f 32).toInt + 1 := h698
                      have h699_ : bz691.toInt = (f 37).toInt + 1 := h699
                      have h700_ : mm692.toInt = (f 53).toInt + 1 := h700
                      have h701_ : ∀ j, j ∉ [11, 12, 13, 14, 25, 26, 27, 28, 29, 30, 33, 34, 35, 36, 38, 39, 40, 41, 42, 43, 54, 55, 56, 58, 59, 60, 67] → g'693 j = g'643 j := h701
                      replace hS695 : MS S0 S650 (upd (upd (upd (upd (upd (upd (upd (upd (upd (upd (upd (upd (upd (upd f 4 z682) 5 y683) 6 u684) 7 v_685) 8 a686) 9 b687) 10 0) 24 l688) 31 i_689) 32 dd690) 37 bz691) 53 mm692) 62 o619) 75 m620) g'693 := hS695
                      have hR702_ : RJ (upd (upd (upd (upd (upd (upd (upd (upd (upd (upd (upd (upd (upd (upd f 4 z682) 5 y683) 6 u684) 7 v_685) 8 a686) 9 b687) 10 0) 24 l688) 31 i_689) 32 dd690) 37 bz691) 53 mm692) 62 o619) 75 m620) g'693 [] ([] :: bc) [] 0 [] := hR702
                      show am_E _ _ _ _ [some (.ref 39), some (.int (f 4)), some (.int z210), some (.int r622), none, none] [] _ _
                      refine am_e35 hi_236_65 ?_
                      show am_E _ _ _ _ [some (.ref 39), some (.int r2), some (.int (f 4))] [] _ _
                      refine am_e18 hi_228_376 ?_
                      refine am_e35 hi_228_422 ?_
                      show am_E _ _ _ _ [some (.ref 39), some (.int r2)] [] _ _
                      refine am_e35 hi_225_33 ?_
                      show am_E _ _ _ _ [some (.ref 39), some (.int 1), some (.int on), some (.int tw), some (.int th)] [] _ _
                      refine am_e18 hi_180_116 ?_
                      refine am_e35 hi_180_371 ?_
                      have hRc := rj_clear0 hR702_
                      refine ⟨_, _, [], _, rfl, hS695, Or.inr ⟨hRc, rfl, (by show 0 ≤ z682.toInt; omega), (by show z682.toInt ≤ (f 0).toInt; omega), (by show 0 ≤ dd690.toInt; omega), (by show dd690.toInt ≤ 63; omega), (by show 1 ≤ mm692.toInt; omega), (by show mm692.toInt ≤ 600; omega), (by show 0 ≤ (f 68).toInt; omega), (by show (f 68).toInt ≤ 60000; omega), (by show 0 ≤ (f 48).toInt; omega), (by show (f 48).toInt ≤ 8000; omega), (by show 0 ≤ bz691.toInt; omega), (by show bz691.toInt ≤ 128; omega), (by show 0 ≤ o619.toInt; omega), (by show o619.toInt ≤ 65000; omega), (by show 0 ≤ (f 19).toInt; omega), (by show (f 19).toInt ≤ 600; omega)⟩⟩
                  · refine am_e12f hi_237_21 (am_cF (m := (g 29 r523.toNatClampNeg).toInt) (n := (0 : Int)) rfl (by decide) c616) ?_
                    refine am_e2 (v := 39) hi_237_24 rfl ?_
                    refine am_e0 hi_237_25 ?_
                    refine am_e1 (v := z210) hi_237_27 rfl ?_
                    refine am_e32n (as := [.ref 39, .int 10, .int z210]) (la := [some (.ref 39), some (.int 10), some (.int z210)]) (rest := []) hi_237_28 (am_hd0 (M := 237) (by decide) 28) (Nat.le_of_ble_eq_true rfl) (Nat.le_of_ble_eq_true rfl) (show 3 ≤ am_P0.2.2.1 191 from by decide +kernel) rfl (am_recv_ok hS525.fs) rfl rfl (ct_failName (d := (d + 3)) hS525   ) ?_
                    rintro v703 S704 (⟨a705, b706, hv707, hS708⟩)
                    subst hv707
                    replace hS708 : MS S0 S704 (upd (upd (upd (upd (upd f 4 z227) 5 y211) 8 a705) 9 b706) 10 z19) g'20 := hS708
                    show am_E _ _ _ _ [some (.ref 39), some (.int z210), some (.int r523)] [] _ _
                    refine am_e2 (v := 39) hi_237_31 rfl ?_
                    refine am_e1 (v := z210) hi_237_32 rfl ?_
                    refine am_e32n (as := [.ref 39, .int z210]) (la := [some (.ref 39), some (.int z210), none, none, none]) (rest := []) hi_237_33 (am_hd0 (M := 237) (by decide) 33) (Nat.le_of_ble_eq_true rfl) (Nat.le_of_ble_eq_true rfl) (show 2 ≤ am_P0.2.2.1 205 from by decide +kernel) rfl (am_recv_ok hS708.fs) rfl rfl (ct_resolve (d := (d + 2)) hS708 hR238  (by show (0 : Int) ≤ (f 32).toInt; omega) (by show (f 32).toInt ≤ (63 : Int); omega) (by show (f 53).toInt ≤ (4096 : Int); omega) (by show (0 : Int) ≤ (f 24).toInt; omega) (by show (f 24).toInt ≤ (16384 : Int); omega) (by show (0 : Int) ≤ (f 62).toInt; omega) (by show (f 62).toInt ≤ (65000 : Int); omega) (by show (0 : Int) ≤ z210.toInt; omega) (by show z210.toInt ≤ (16383 : Int); omega)) ?_
                    rintro v710 S711 (⟨o712, m713, g'714, r715, hv716, hS717, hR723, h718, h719, h720, h721, h722⟩)
                    subst hv716
                    have h718_ : (f 62).toInt ≤ o712.toInt := h718
                    have h719_ : o712.toInt ≤ (f 62).toInt + 64 := h719
                    have h720_ : (0 : Int) ≤ r715.toInt := h720
                    have h721_ : r715.toInt ≤ (2 : Int) := h721
                    have h722_ : ∀ j, j ∉ [63, 64, 65, 66, 67] → g'714 j = g'20 j := h722
                    have hR723_ : RJ (upd (upd (upd (upd (upd (upd (upd f 4 z227) 5 y211) 8 a705) 9 b706) 10 z19) 62 o712) 75 m713) g'714 (((1 : Int), (0 : Int), (0 : Int), (0 : Int), []) :: gs) bc [] 0 [] := hR723
                    show am_E _ _ _ _ [some (.ref 39), some (.int z210), some (.int r523)] [.int r715] _ _
                    refine am_e33 hi_237_36 ?_
                    show am_E _ _ _ _ [some (.ref 39), some (.int (f 4)), some (.int z210), none, none, none] [.int r715] _ _
                    refine am_e3 (ls' := [some (.ref 39), some (.int (f 4)), some (.int z210), some (.int r715), none, none]) hi_236_37 (Nat.le_of_ble_eq_true rfl) rfl ?_
                    refine am_e2 (v := 39) hi_236_38 rfl ?_
                    refine am_e0 hi_236_39 ?_
                    refine am_e1 (v := r715) hi_236_41 rfl ?_
                    refine am_e2 (v := 39) hi_236_42 rfl ?_
                    refine mm_20 (v := .int m713) hS717 hi_236_43 rfl ?_
                    refine am_e1 (v := z210) hi_236_46 rfl ?_
                    refine am_e32n (as := [.ref 39, .int 16, .int r715, .int m713, .int z210]) (la := [some (.ref 39), some (.int 16), some (.int r715), some (.int m713), some (.int z210)]) (rest := []) hi_236_47 (am_hd0 (M := 236) (by decide) 47) (Nat.le_of_ble_eq_true rfl) (Nat.le_of_ble_eq_true rfl) (show 5 ≤ am_P0.2.2.1 179 from by decide +kernel) rfl (am_recv_ok hS717.fs) rfl rfl (ct_pile (d := (d + 4)) hS717 hR723_ (mj_e_plain (by decide)) (by show (0 : Int) ≤ z19.toInt; omega) (by show z19.toInt ≤ (65535 : Int); omega)) ?_
                    rintro v724 S725 (⟨z726, g'727, hv728, hS729, hR732, h730, h731⟩)
                    subst hv728
                    have h730_ : z726.toInt = z19.toInt + 1 := h730
                    have h731_ : ∀ j, j ∉ [11, 12, 13, 14] → g'727 j = g'714 j := h731
                    replace hS729 : MS S0 S725 (upd (upd (upd (upd (upd (upd (upd f 4 z227) 5 y211) 8 a705) 9 b706) 10 z726) 62 o712) 75 m713) g'727 := hS729
                    have hR732_ : RJ (upd (upd (upd (upd (upd (upd (upd f 4 z227) 5 y211) 8 a705) 9 b706) 10 z726) 62 o712) 75 m713) g'727 (((16 : Int), r715.toInt, m713.toInt, z210.toInt, []) :: (((1 : Int), (0 : Int), (0 : Int), (0 : Int), []) :: gs)) bc [] 0 [] := hR732
                    show am_E _ _ _ _ [some (.ref 39), some (.int (f 4)), some (.int z210), some (.int r715), none, none] [] _ _
                    refine am_e2 (v := 39) hi_236_50 rfl ?_
                    refine am_e0 hi_236_51 ?_
                    refine am_e1 (v := f 4) hi_236_53 rfl ?_
                    refine am_e0 hi_236_54 ?_
                    refine am_e0 hi_236_55 ?_
                    refine am_e32n (as := [.ref 39, .int 41, .int (f 4), .int 0, .int 0]) (la := [some (.ref 39), some (.int 41), some (.int (f 4)), some (.int 0), some (.int 0)]) (rest := []) hi_236_56 (am_hd0 (M := 236) (by decide) 56) (Nat.le_of_ble_eq_true rfl) (Nat.le_of_ble_eq_true rfl) (show 5 ≤ am_P0.2.2.1 179 from by decide +kernel) rfl (am_recv_ok hS729.fs) rfl rfl (ct_pile (d := (d + 4)) hS729 hR732_ (mj_e_plain (by decide)) (by show (0 : Int) ≤ z726.toInt; omega) (by show z726.toInt ≤ (65535 : Int); omega)) ?_
                    rintro v733 S734 (⟨z735, g'736, hv737, hS738, hR741, h739, h740⟩)
                    subst hv737
                    have h739_ : z735.toInt = z726.toInt + 1 := h739
                    have h740_ : ∀ j, j ∉ [11, 12, 13, 14] → g'736 j = g'727 j := h740
                    replace hS738 : MS S0 S734 (upd (upd (upd (upd (upd (upd (upd f 4 z227) 5 y211) 8 a705) 9 b706) 10 z735) 62 o712) 75 m713) g'736 := hS738
                    have hR741_ : RJ (upd (upd (upd (upd (upd (upd (upd f 4 z227) 5 y211) 8 a705) 9 b706) 10 z735) 62 o712) 75 m713) g'736 (((41 : Int), (f 4).toInt, (0 : Int), (0 : Int), []) :: (((16 : Int), r715.toInt, m713.toInt, z210.toInt, []) :: (((1 : Int), (0 : Int), (0 : Int), (0 : Int), []) :: gs))) bc [] 0 [] := hR741
                    show am_E _ _ _ _ [some (.ref 39), some (.int (f 4)), some (.int z210), some (.int r715), none, none] [] _ _
                    refine am_e2 (v := 39) hi_236_59 rfl ?_
                    refine am_e0 hi_236_60 ?_
                    refine am_e1 (v := f 4) hi_236_61 rfl ?_
                    refine am_e32n (as := [.ref 39, .int 0, .int (f 4)]) (la := [some (.ref 39), some (.int 0), some (.int (f 4)), none, none]) (rest := []) hi_236_62 (am_hd0 (M := 236) (by decide) 62) (Nat.le_of_ble_eq_true rfl) (Nat.le_of_ble_eq_true rfl) (show 3 ≤ am_P0.2.2.1 195 from by decide +kernel) rfl (am_recv_ok hS738.fs) rfl rfl (ct_body (d := d) hS738 hR741_ (by decide)  (by show (0 : Int) ≤ (f 32).toInt; omega) (by show (f 32).toInt ≤ (62 : Int); omega) (by show (1 : Int) ≤ (f 53).toInt; omega) (by show (f 53).toInt ≤ (4095 : Int); omega) (by show (0 : Int) ≤ z227.toInt; omega) (by show (f 0).toInt ≤ (16384 : Int); omega) (by show (0 : Int) ≤ y211.toInt; omega) (by show y211.toInt ≤ (48 : Int); omega) (by show z227.toInt ≤ (f 0).toInt; omega) (by show (f 0).toInt ≤ (512 : Int); omega) (by show (0 : Int) ≤ (f 24).toInt; omega) (by show (f 24).toInt ≤ (4000 : Int); omega) (by show (0 : Int) ≤ (f 44).toInt; omega) (by show (f 44).toInt ≤ z227.toInt; omega) (by show (0 : Int) ≤ (f 48).toInt; omega) (by show (f 48).toInt ≤ z227.toInt; omega) (by show (0 : Int) ≤ (f 37).toInt; omega) (by show (f 37).toInt ≤ (126 : Int); omega) (by show (0 : Int) ≤ z735.toInt; omega) (by show z735.toInt ≤ (65533 : Int); omega) (by show (0 : Int) ≤ (f 68).toInt; omega)) ?_
                    rintro v742 S743 (⟨z744, y745, a746, b747, t748, l749, i_750, dd751, bz752, mm753, g'754, hv755, hS756, hR769, h757, h758, h759, h760, h761, h762, h763, h764, h765, h766, h767, h768⟩ | ⟨a770, b771, hv772, hS773, hR774⟩ | ⟨z775, y776, u777, v_778, a779, b780, l781, i_782, dd783, bz784, mm785, g'786, hv787, hS788, hR795, h789, h790, h791, h792, h793, h794⟩)
                    · subst hv755
                      have h757_ : z227.toInt + 2 ≤ z744.toInt := h757
                      have h758_ : z744.toInt ≤ (f 0).toInt := h758
                      have h759_ : y745.toInt = y211.toInt := h759
                      have h760_ : (f 24).toInt ≤ l749.toInt := h760
                      have h761_ : l749.toInt + z227.toInt ≤ (f 24).toInt + z744.toInt := h761
                      have h762_ : t748.toInt = z735.toInt + 2 := h762
                      have h763_ : dd751.toInt = (f 32).toInt + 1 := h763
                      have h764_ : bz752.toInt = (f 37).toInt + 1 := h764
                      have h765_ : mm753.toInt = (f 53).toInt + 1 := h765
                      have h766_ : ∀ j, j ∉ [11, 12, 13, 14, 25, 26, 27, 28, 29, 30, 33, 34, 35, 36, 38, 39, 40, 41, 42, 43, 54, 55, 56, 58, 59, 60, 67] → g'754 j = g'736 j := h766
                      have h767_ : g'754 34 = upd (g'736 34) dd751.toNatClampNeg (f 24) := h767
                      have h768_ : g'754 38 = upd (g'736 38) (f 37).toNatClampNeg (f 24) := h768
                      replace hS756 : MS S0 S743 (upd (upd (upd (upd (upd (upd (upd (upd (upd (upd (upd (upd f 4 z744) 5 y745) 8 a746) 9 b747) 10 t748) 24 l749) 31 i_750) 32 dd751) 37 bz752) 53 mm753) 62 o712) 75 m713) g'754 := hS756
                      have hR769_ : RJ (upd (upd (upd (upd (upd (upd (upd (upd (upd (upd (upd (upd f 4 z744) 5 y745) 8 a746) 9 b747) 10 t748) 24 l749) 31 i_750) 32 dd751) 37 bz752) 53 mm753) 62 o712) 75 m713) g'754 (((1 : Int), (0 : Int), (0 : Int), (0 : Int), []) :: (((40 : Int), z227.toInt, (0 : Int), (0 : Int), []) :: (((41 : Int), (f 4).toInt, (0 : Int), (0 : Int), []) :: (((16 : Int), r715.toInt, m713.toInt, z210.toInt, []) :: (((1 : Int), (0 : Int), (0 : Int), (0 : Int), []) :: gs))))) ([] :: bc) [] 0 [] := hR769
                      show am_E _ _ _ _ [some (.ref 39), some (.int (f 4)), some (.int z210), some (.int r715), none, none] [] _ _
                      refine am_e35 hi_236_65 ?_
                      show am_E _ _ _ _ [some (.ref 39), some (.int r2), some (.int (f 4))] [] _ _
                      refine am_e18 hi_228_376 ?_
                      refine am_e35 hi_228_422 ?_
                      show am_E _ _ _ _ [some (.ref 39), some (.int r2)] [] _ _
                      refine am_e35 hi_225_33 ?_
                      show am_E _ _ _ _ [some (.ref 39), some (.int 1), some (.int on), some (.int tw), some (.int th)] [] _ _
                      refine am_e18 hi_180_116 ?_
                      refine am_e35 hi_180_371 ?_
                      have q1 : mg_p1 (((1 : Int), (0 : Int), (0 : Int), (0 : Int), []) :: (((40 : Int), z227.toInt, (0 : Int), (0 : Int), []) :: (((41 : Int), (f 4).toInt, (0 : Int), (0 : Int), []) :: (((16 : Int), r715.toInt, m713.toInt, z210.toInt, []) :: (((1 : Int), (0 : Int), (0 : Int), (0 : Int), []) :: gs))))) = 0 + (0 + (0 + (0 + (0 + (mg_p1 gs))))) := rfl
                      have q2 : mg_p2 (((1 : Int), (0 : Int), (0 : Int), (0 : Int), []) :: (((40 : Int), z227.toInt, (0 : Int), (0 : Int), []) :: (((41 : Int), (f 4).toInt, (0 : Int), (0 : Int), []) :: (((16 : Int), r715.toInt, m713.toInt, z210.toInt, []) :: (((1 : Int), (0 : Int), (0 : Int), (0 : Int), []) :: gs))))) = 0 + (0 + (1 + (0 + (0 + (mg_p2 gs))))) := rfl
                      have q3 : mg_p3 (((1 : Int), (0 : Int), (0 : Int), (0 : Int), []) :: (((40 : Int), z227.toInt, (0 : Int), (0 : Int), []) :: (((41 : Int), (f 4).toInt, (0 : Int), (0 : Int), []) :: (((16 : Int), r715.toInt, m713.toInt, z210.toInt, []) :: (((1 : Int), (0 : Int), (0 : Int), (0 : Int), []) :: gs))))) = 1 + (1 + (1 + (1 + (1 + (mg_p3 gs))))) := rfl
                      have q4 : mg_p4 (((1 : Int), (0 : Int), (0 : Int), (0 : Int), []) :: (((40 : Int), z227.toInt, (0 : Int), (0 : Int), []) :: (((41 : Int), (f 4).toInt, (0 : Int), (0 : Int), []) :: (((16 : Int), r715.toInt, m713.toInt, z210.toInt, []) :: (((1 : Int), (0 : Int), (0 : Int), (0 : Int), []) :: gs))))) = 0 + (0 + (2 + (3 + (0 + (mg_p4 gs))))) := rfl
                      refine ⟨_, _, _, ([] :: bc), rfl, hS756, Or.inl ⟨⟨hR769_, ?_, ?_⟩, rfl, ?_⟩⟩
                      · exact (⟨⟨(show mg_k 1 from by decide), (show (0 : Int) ≤ (f 15).toInt from by omega), (show 0 ≤ (f 20).toInt from by omega), (show 1 ≤ bz752.toInt from by omega), (show 0 ≤ dd751.toInt from by omega), (show dd751.toInt ≤ y745.toInt from by omega), (show y745.toInt ≤ 48 from by omega), (show bz752.toInt ≤ 2 * (y745.toInt) + 1 from by omega), trivial⟩, ⟨⟨(show mg_k 40 from by decide), (show (0 : Int) ≤ (f 15).toInt + 0 from by omega), (show 0 ≤ (f 20).toInt from by omega), (show 1 ≤ bz752.toInt + 0 from by omega), (show 0 ≤ dd751.toInt + 0 from by omega), (show dd751.toInt + 0 ≤ y745.toInt + 0 from by omega), (show y745.toInt + 0 ≤ 48 from by omega), (show bz752.toInt + 0 ≤ 2 * (y745.toInt + 0) + 1 from by omega), trivial⟩, ⟨⟨(show mg_k 41 from by decide), (show (0 : Int) ≤ (f 15).toInt + 0 + 0 from by omega), (show 0 ≤ (f 20).toInt from by omega), (show 1 ≤ bz752.toInt + 0 + -1 from by omega), (show 0 ≤ dd751.toInt + 0 + -1 from by omega), (show dd751.toInt + 0 + -1 ≤ y745.toInt + 0 + -1 from by omega), (show y745.toInt + 0 + -1 ≤ 48 from by omega), (show bz752.toInt + 0 + -1 ≤ 2 * (y745.toInt + 0 + -1) + 2 from by omega), trivial⟩, ⟨⟨(show mg_k 16 from by decide), (show (1 : Int) ≤ (f 15).toInt + 0 + 0 + 1 from by omega), (show 0 ≤ (f 20).toInt from by omega), (show 1 ≤ bz752.toInt + 0 + -1 + 0 from by omega), (show 0 ≤ dd751.toInt + 0 + -1 + 0 from by omega), (show dd751.toInt + 0 + -1 + 0 ≤ y745.toInt + 0 + -1 + 0 from by omega), (show y745.toInt + 0 + -1 + 0 ≤ 48 from by omega), (show bz752.toInt + 0 + -1 + 0 ≤ 2 * (y745.toInt + 0 + -1 + 0) + 1 from by omega), trivial⟩, ⟨⟨(show mg_k 1 from by decide), (show (0 : Int) ≤ (f 15).toInt + 0 + 0 + 1 + -1 from by omega), (show 0 ≤ (f 20).toInt from by omega), (show 1 ≤ bz752.toInt + 0 + -1 + 0 + 0 from by omega), (show 0 ≤ dd751.toInt + 0 + -1 + 0 + 0 from by omega), (show dd751.toInt + 0 + -1 + 0 + 0 ≤ y745.toInt + 0 + -1 + 0 + 0 from by omega), (show y745.toInt + 0 + -1 + 0 + 0 ≤ 48 from by omega), (show bz752.toInt + 0 + -1 + 0 + 0 ≤ 2 * (y745.toInt + 0 + -1 + 0 + 0) + 1 from by omega), trivial⟩, mg_cast (mg_good_ext _ _ _ _ _ _ (fun i hi => by show g'754 34 i = g 34 i; rw [h767_, show g'736 34 = g'727 34 from h740_ 34 (by decide), show g'727 34 = g'714 34 from h731_ 34 (by decide), show g'714 34 = g'20 34 from h722_ 34 (by decide), show g'20 34 = g 34 from h24_ 34 (by decide)]; exact upd_ne (by rw [cl_toNat]; omega)) (fun i hi => by show g'754 38 i = g 38 i; rw [h768_, show g'736 38 = g'727 38 from h740_ 38 (by decide), show g'727 38 = g'714 38 from h731_ 38 (by decide), show g'714 38 = g'20 38 from h722_ 38 (by decide), show g'20 38 = g 38 from h24_ 38 (by decide)]; exact upd_ne (by rw [cl_toNat]; omega)) (fun i _ => by show g'754 23 i = g 23 i; rw [show g'754 23 = g'736 23 from h766_ 23 (by decide), show g'736 23 = g'727 23 from h740_ 23 (by decide), show g'727 23 = g'714 23 from h731_ 23 (by decide), show g'714 23 = g'20 23 from h722_ 23 (by decide), show g'20 23 = g 23 from h24_ 23 (by decide)]) hrest) (by show (f 15).toInt + 0 = (f 15).toInt + 0 + 0 + 1 + -1 + 0; omega) (by show (f 20).toInt = (f 20).toInt; omega) (by show (f 37).toInt + 0 = bz752.toInt + 0 + -1 + 0 + 0 + 0; omega) (by show (f 32).toInt + 0 = dd751.toInt + 0 + -1 + 0 + 0 + 0; omega) (by show (f 5).toInt + 0 = y745.toInt + 0 + -1 + 0 + 0 + 0; omega)⟩⟩⟩⟩⟩ : mg_good (g'754 34) (g'754 38) (g'754 23) (((1 : Int), (0 : Int), (0 : Int), (0 : Int), []) :: (((40 : Int), z227.toInt, (0 : Int), (0 : Int), []) :: (((41 : Int), (f 4).toInt, (0 : Int), (0 : Int), []) :: (((16 : Int), r715.toInt, m713.toInt, z210.toInt, []) :: (((1 : Int), (0 : Int), (0 : Int), (0 : Int), []) :: gs))))) ((f 15).toInt) ((f 20).toInt) (bz752.toInt) (dd751.toInt) (y745.toInt))
                      · exact ⟨(by show 0 ≤ z744.toInt; omega), (by show z744.toInt ≤ (f 0).toInt; omega), (by show (f 0).toInt ≤ 512; omega), (by show 0 ≤ l749.toInt; omega), (by show l749.toInt + (f 20).toInt + mg_p1 (((1 : Int), (0 : Int), (0 : Int), (0 : Int), []) :: (((40 : Int), z227.toInt, (0 : Int), (0 : Int), []) :: (((41 : Int), (f 4).toInt, (0 : Int), (0 : Int), []) :: (((16 : Int), r715.toInt, m713.toInt, z210.toInt, []) :: (((1 : Int), (0 : Int), (0 : Int), (0 : Int), []) :: gs))))) ≤ 4 * z744.toInt; omega), (by show (f 20).toInt ≤ z744.toInt; omega), (by show (f 15).toInt + mg_p2 (((1 : Int), (0 : Int), (0 : Int), (0 : Int), []) :: (((40 : Int), z227.toInt, (0 : Int), (0 : Int), []) :: (((41 : Int), (f 4).toInt, (0 : Int), (0 : Int), []) :: (((16 : Int), r715.toInt, m713.toInt, z210.toInt, []) :: (((1 : Int), (0 : Int), (0 : Int), (0 : Int), []) :: gs))))) ≤ z744.toInt; omega), (by show mg_p3 (((1 : Int), (0 : Int), (0 : Int), (0 : Int), []) :: (((40 : Int), z227.toInt, (0 : Int), (0 : Int), []) :: (((41 : Int), (f 4).toInt, (0 : Int), (0 : Int), []) :: (((16 : Int), r715.toInt, m713.toInt, z210.toInt, []) :: (((1 : Int), (0 : Int), (0 : Int), (0 : Int), []) :: gs))))) ≤ 20 * z744.toInt + 20; omega), (by show 0 ≤ (f 68).toInt; omega), (by show (f 68).toInt + 3 * (f 20).toInt + mg_p4 (((1 : Int), (0 : Int), (0 : Int), (0 : Int), []) :: (((40 : Int), z227.toInt, (0 : Int), (0 : Int), []) :: (((41 : Int), (f 4).toInt, (0 : Int), (0 : Int), []) :: (((16 : Int), r715.toInt, m713.toInt, z210.toInt, []) :: (((1 : Int), (0 : Int), (0 : Int), (0 : Int), []) :: gs))))) ≤ 60 * z744.toInt + 60; omega), (by show 0 ≤ o712.toInt; omega), (by show o712.toInt + 64 * mj_n (g'754 16) (f 15).toNatClampNeg 3 ≤ 64 * z744.toInt; rw [show g'754 16 = g'736 16 from h766_ 16 (by decide), show g'736 16 = g'727 16 from h740_ 16 (by decide), show g'727 16 = g'714 16 from h731_ 16 (by decide), show g'714 16 = g'20 16 from h722_ 16 (by decide), show g'20 16 = g 16 from h24_ 16 (by decide)]; omega), (by show 0 ≤ (f 44).toInt; omega), (by show (f 44).toInt ≤ z744.toInt; omega), (by show 0 ≤ (f 48).toInt; omega), (by show (f 48).toInt ≤ z744.toInt; omega), (by show 1 ≤ mm753.toInt; omega), (by show mm753.toInt ≤ z744.toInt + 1; omega), (by show 0 ≤ (f 19).toInt; omega), (by show (f 19).toInt ≤ 600; omega)⟩
                      · show 100 * ((f 0).toInt - z744.toInt) + mg_p3 (((1 : Int), (0 : Int), (0 : Int), (0 : Int), []) :: (((40 : Int), z227.toInt, (0 : Int), (0 : Int), []) :: (((41 : Int), (f 4).toInt, (0 : Int), (0 : Int), []) :: (((16 : Int), r715.toInt, m713.toInt, z210.toInt, []) :: (((1 : Int), (0 : Int), (0 : Int), (0 : Int), []) :: gs))))) < 100 * ((f 0).toInt - (f 4).toInt) + (1 + mg_p3 gs); omega
                    · subst hv772
                      replace hS773 : MS S0 S743 (upd (upd (upd (upd (upd (upd (upd (upd (upd f 4 z227) 5 y211) 6 a770) 7 b771) 8 a705) 9 b706) 10 0) 62 o712) 75 m713) g'736 := hS773
                      have hR774_ : RJ (upd (upd (upd (upd (upd (upd (upd (upd (upd f 4 z227) 5 y211) 6 a770) 7 b771) 8 a705) 9 b706) 10 0) 62 o712) 75 m713) g'736 [] bc [] 0 [] := hR774
                      show am_E _ _ _ _ [some (.ref 39), some (.int (f 4)), some (.int z210), some (.int r715), none, none] [] _ _
                      refine am_e35 hi_236_65 ?_
                      show am_E _ _ _ _ [some (.ref 39), some (.int r2), some (.int (f 4))] [] _ _
                      refine am_e18 hi_228_376 ?_
                      refine am_e35 hi_228_422 ?_
                      show am_E _ _ _ _ [some (.ref 39), some (.int r2)] [] _ _
                      refine am_e35 hi_225_33 ?_
                      show am_E _ _ _ _ [some (.ref 39), some (.int 1), some (.int on), some (.int tw), some (.int th)] [] _ _
                      refine am_e18 hi_180_116 ?_
                      refine am_e35 hi_180_371 ?_
                      have hRc := rj_clear0 hR774_
                      refine ⟨_, _, [], _, rfl, hS773, Or.inr ⟨hRc, rfl, (by show 0 ≤ z227.toInt; omega), (by show z227.toInt ≤ (f 0).toInt; omega), (by show 0 ≤ (f 32).toInt; omega), (by show (f 32).toInt ≤ 63; omega), (by show 1 ≤ (f 53).toInt; omega), (by show (f 53).toInt ≤ 600; omega), (by show 0 ≤ (f 68).toInt; omega), (by show (f 68).toInt ≤ 60000; omega), (by show 0 ≤ (f 48).toInt; omega), (by show (f 48).toInt ≤ 8000; omega), (by show 0 ≤ (f 37).toInt; omega), (by show (f 37).toInt ≤ 128; omega), (by show 0 ≤ o712.toInt; omega), (by show o712.toInt ≤ 65000; omega), (by show 0 ≤ (f 19).toInt; omega), (by show (f 19).toInt ≤ 600; omega)⟩⟩
                    · subst hv787
                      have h789_ : z227.toInt ≤ z775.toInt := h789
                      have h790_ : z775.toInt ≤ (f 0).toInt := h790
                      have h791_ : dd783.toInt = (f 32).toInt + 1 := h791
                      have h792_ : bz784.toInt = (f 37).toInt + 1 := h792
                      have h793_ : mm785.toInt = (f 53).toInt + 1 := h793
                      have h794_ : ∀ j, j ∉ [11, 12, 13, 14, 25, 26, 27, 28, 29, 30, 33, 34, 35, 36, 38, 39, 40, 41, 42, 43, 54, 55, 56, 58, 59, 60, 67] → g'786 j = g'736 j := h794
                      replace hS788 : MS S0 S743 (upd (upd (upd (upd (upd (upd (upd (upd (upd (upd (upd (upd (upd (upd f 4 z775) 5 y776) 6 u777) 7 v_778) 8 a779) 9 b780) 10 0) 24 l781) 31 i_782) 32 dd783) 37 bz784) 53 mm785) 62 o712) 75 m713) g'786 := hS788
                      have hR795_ : RJ (upd (upd (upd (upd (upd (upd (upd (upd (upd (upd (upd (upd (upd (upd f 4 z775) 5 y776) 6 u777) 7 v_778) 8 a779) 9 b780) 10 0) 24 l781) 31 i_782) 32 dd783) 37 bz784) 53 mm785) 62 o712) 75 m713) g'786 [] ([] :: bc) [] 0 [] := hR795
                      show am_E _ _ _ _ [some (.ref 39), some (.int (f 4)), some (.int z210), some (.int r715), none, none] [] _ _
                      refine am_e35 hi_236_65 ?_
                      show am_E _ _ _ _ [some (.ref 39), some (.int r2), some (.int (f 4))] [] _ _
                      refine am_e18 hi_228_376 ?_
                      refine am_e35 hi_228_422 ?_
                      show am_E _ _ _ _ [some (.ref 39), some (.int r2)] [] _ _
                      refine am_e35 hi_225_33 ?_
                      show am_E _ _ _ _ [some (.ref 39), some (.int 1), some (.int on), some (.int tw), some (.int th)] [] _ _
                      refine am_e18 hi_180_116 ?_
                      refine am_e35 hi_180_371 ?_
                      have hRc := rj_clear0 hR795_
                      refine ⟨_, _, [], _, rfl, hS788, Or.inr ⟨hRc, rfl, (by show 0 ≤ z775.toInt; omega), (by show z775.toInt ≤ (f 0).toInt; omega), (by show 0 ≤ dd783.toInt; omega), (by show dd783.toInt ≤ 63; omega), (by show 1 ≤ mm785.toInt; omega), (by show mm785.toInt ≤ 600; omega), (by show 0 ≤ (f 68).toInt; omega), (by show (f 68).toInt ≤ 60000; omega), (by show 0 ≤ (f 48).toInt; omega), (by show (f 48).toInt ≤ 8000; omega), (by show 0 ≤ bz784.toInt; omega), (by show bz784.toInt ≤ 128; omega), (by show 0 ≤ o712.toInt; omega), (by show o712.toInt ≤ 65000; omega), (by show 0 ≤ (f 19).toInt; omega), (by show (f 19).toInt ≤ 600; omega)⟩⟩
          · subst hv235
            replace hS236 : MS S0 S226 (upd (upd (upd (upd (upd f 4 z210) 5 y211) 6 a233) 7 b234) 10 0) g'20 := hS236
            have hR796 := rj_clear0 hR224
            have hR797 : RJ (upd (upd (upd (upd (upd f 4 z210) 5 y211) 6 a233) 7 b234) 10 0) g'20 [] bc [] 0 [] := hR796
            show am_E _ _ _ _ [some (.ref 39), some (.int (f 4)), some (.int z210), none, none, none] [.int 0] _ _
            refine am_e12f hi_236_10 (by decide) ?_
            refine am_e35 hi_236_13 ?_
            show am_E _ _ _ _ [some (.ref 39), some (.int r2), some (.int (f 4))] [] _ _
            refine am_e18 hi_228_376 ?_
            refine am_e35 hi_228_422 ?_
            show am_E _ _ _ _ [some (.ref 39), some (.int r2)] [] _ _
            refine am_e35 hi_225_33 ?_
            show am_E _ _ _ _ [some (.ref 39), some (.int 1), some (.int on), some (.int tw), some (.int th)] [] _ _
            refine am_e18 hi_180_116 ?_
            refine am_e35 hi_180_371 ?_
            have hRc := rj_clear0 hR797
            refine ⟨_, _, [], _, rfl, hS236, Or.inr ⟨hRc, rfl, (by show 0 ≤ z210.toInt; omega), (by show z210.toInt ≤ (f 0).toInt; omega), (by show 0 ≤ (f 32).toInt; omega), (by show (f 32).toInt ≤ 63; omega), (by show 1 ≤ (f 53).toInt; omega), (by show (f 53).toInt ≤ 600; omega), (by show 0 ≤ (f 68).toInt; omega), (by show (f 68).toInt ≤ 60000; omega), (by show 0 ≤ (f 48).toInt; omega), (by show (f 48).toInt ≤ 8000; omega), (by show 0 ≤ (f 37).toInt; omega), (by show (f 37).toInt ≤ 128; omega), (by show 0 ≤ (f 62).toInt; omega), (by show (f 62).toInt ≤ 65000; omega), (by show 0 ≤ (f 19).toInt; omega), (by show (f 19).toInt ≤ 600; omega)⟩⟩
        · subst hv221
          replace hS222 : MS S0 S209 (upd (upd (upd f 6 a219) 7 b220) 10 0) g'20 := hS222
          have hR798 := rj_clear0 hR25_
          have hR799 : RJ (upd (upd (upd f 6 a219) 7 b220) 10 0) g'20 [] bc [] 0 [] := hR798
          show am_E _ _ _ _ [some (.ref 39), some (.int r2), some (.int (f 4))] [.int 0] _ _
          refine am_e12t hi_228_368 (by decide) ?_
          refine am_e35 hi_228_422 ?_
          show am_E _ _ _ _ [some (.ref 39), some (.int r2)] [] _ _
          refine am_e35 hi_225_33 ?_
          show am_E _ _ _ _ [some (.ref 39), some (.int 1), some (.int on), some (.int tw), some (.int th)] [] _ _
          refine am_e18 hi_180_116 ?_
          refine am_e35 hi_180_371 ?_
          have hRc := rj_clear0 hR799
          refine ⟨_, _, [], _, rfl, hS222, Or.inr ⟨hRc, rfl, (by show 0 ≤ (f 4).toInt; omega), (by show (f 4).toInt ≤ (f 0).toInt; omega), (by show 0 ≤ (f 32).toInt; omega), (by show (f 32).toInt ≤ 63; omega), (by show 1 ≤ (f 53).toInt; omega), (by show (f 53).toInt ≤ 600; omega), (by show 0 ≤ (f 68).toInt; omega), (by show (f 68).toInt ≤ 60000; omega), (by show 0 ≤ (f 48).toInt; omega), (by show (f 48).toInt ≤ 8000; omega), (by show 0 ≤ (f 37).toInt; omega), (by show (f 37).toInt ≤ 128; omega), (by show 0 ≤ (f 62).toInt; omega), (by show (f 62).toInt ≤ 65000; omega), (by show 0 ≤ (f 19).toInt; omega), (by show (f 19).toInt ≤ 600; omega)⟩⟩
      by_cases c800 : r2.toInt = 19
      · refine am_e19 (t := 172) hi_228_6 (am_swI (v := r2) (w := 19) (by decide) (by decide) c800) ?_
        refine am_e2 (v := 39) hi_228_172 rfl ?_
        refine am_e7 hi_228_173 ?_
        refine mm_20 (v := .int (f 4)) hS22 hi_228_174 rfl ?_
        refine am_e0 hi_228_177 ?_
        obtain ⟨z801, hz801, tz801⟩ := am_addI (x := f 4) (y := 1) (m := (f 4).toInt) (n := (1 : Int)) rfl (by decide) (by omega) (by omega)
        refine am_e10 (z := z801) hi_228_178 hz801 ?_
        refine mm_21 (v := z801) hS22 hi_228_179 rfl (Nat.le_of_ble_eq_true rfl) ms_4 ?_
        intro S802 hS803
        replace hS803 : MS S0 S802 (upd (upd f 4 z801) 10 z19) g'20 := hS803
        have hR804 : RJ (upd (upd f 4 z801) 10 z19) g'20 (((1 : Int), (0 : Int), (0 : Int), (0 : Int), []) :: gs) bc [] 0 [] := RJ.at hR25_ (by show (f 4).toInt ≤ z801.toInt; omega)
        refine am_e2 (v := 39) hi_228_182 rfl ?_
        refine am_e0 hi_228_183 ?_
        refine am_e32n (as := [.ref 39, .int 1]) (la := [some (.ref 39), some (.int 1)]) (rest := []) hi_228_184 (am_hd0 (M := 228) (by decide) 184) (Nat.le_of_ble_eq_true rfl) (Nat.le_of_ble_eq_true rfl) (show 2 ≤ am_P0.2.2.1 200 from by decide +kernel) rfl (am_recv_ok hS803.fs) rfl rfl (ct_take (d := (d + 3)) hS803   (by show (0 : Int) ≤ z801.toInt; omega) (by show (f 0).toInt ≤ (16384 : Int); omega) (by show (0 : Int) ≤ (1 : Int); omega)) ?_
        rintro v805 S806 (⟨z807, hv808, hS809, h810, h811⟩ | ⟨a813, b814, hv815, hS816⟩)
        · subst hv808
          have h810_ : z807.toInt = z801.toInt + 1 := h810
          have h811_ : z801.toInt < (f 0).toInt := h811
          replace hS809 : MS S0 S806 (upd (upd f 4 z807) 10 z19) g'20 := hS809
          have hR818 : RJ (upd (upd f 4 z807) 10 z19) g'20 (((1 : Int), (0 : Int), (0 : Int), (0 : Int), []) :: gs) bc [] 0 [] := RJ.at hR804 (by show z801.toInt ≤ z807.toInt; omega)
          show am_E _ _ _ _ [some (.ref 39), some (.int r2), some (.int (f 4))] [.int 1] _ _
          refine am_e12f hi_228_187 (by decide) ?_
          refine am_e2 (v := 39) hi_228_190 rfl ?_
          refine am_e1 (v := f 4) hi_228_191 rfl ?_
          refine am_e1 (v := f 4) hi_228_192 rfl ?_
          refine am_e0 hi_228_193 ?_
          refine am_e10 (z := z801) hi_228_194 hz801 ?_
          refine am_e32n (as := [.ref 39, .int (f 4), .int z801]) (la := [some (.ref 39), some (.int (f 4)), some (.int z801), none, none]) (rest := []) hi_228_195 (am_hd0 (M := 228) (by decide) 195) (Nat.le_of_ble_eq_true rfl) (Nat.le_of_ble_eq_true rfl) (show 3 ≤ am_P0.2.2.1 234 from by decide +kernel) rfl (am_recv_ok hS809.fs) rfl rfl (ct_go (d := (d + 4)) hS809 hR818  (by show (0 : Int) ≤ (f 32).toInt; omega) (by show (f 32).toInt ≤ (63 : Int); omega) (by show (f 53).toInt ≤ (4096 : Int); omega) (by show (0 : Int) ≤ (f 68).toInt; omega) (by show (f 68).toInt ≤ (65531 : Int); omega) (by show (0 : Int) ≤ (f 44).toInt; omega) (by show (f 44).toInt ≤ (8192 : Int); omega) (by show (0 : Int) ≤ z801.toInt; omega) (by show z801.toInt ≤ (16383 : Int); omega) (by show (0 : Int) ≤ (f 48).toInt; omega) (by show (f 48).toInt < z807.toInt; omega) (by show z807.toInt ≤ (8192 : Int); omega)) ?_
          rintro v819 S820 (⟨z821, s822, g'823, hv824, hS825, hR830, h826, h827, h828, h829⟩)
          subst hv824
          have h826_ : (f 48).toInt ≤ z821.toInt := h826
          have h827_ : z821.toInt ≤ (f 48).toInt + 1 := h827
          have h828_ : s822.toInt = (f 68).toInt + 3 := h828
          have h829_ : ∀ j, j ∉ [49, 50, 51, 52, 60, 69, 70, 71, 72, 73] → g'823 j = g'20 j := h829
          have hR830_ : RJ (upd (upd (upd (upd f 4 z807) 10 z19) 48 z821) 68 s822) g'823 (((1 : Int), (0 : Int), (0 : Int), (0 : Int), []) :: gs) bc [] 0 [] := hR830
          show am_E _ _ _ _ [some (.ref 39), some (.int r2), some (.int (f 4))] [] _ _
          refine am_e18 hi_228_198 ?_
          refine am_e35 hi_228_422 ?_
          show am_E _ _ _ _ [some (.ref 39), some (.int r2)] [] _ _
          refine am_e35 hi_225_33 ?_
          show am_E _ _ _ _ [some (.ref 39), some (.int 1), some (.int on), some (.int tw), some (.int th)] [] _ _
          refine am_e18 hi_180_116 ?_
          refine am_e35 hi_180_371 ?_
          have q1 : mg_p1 (((1 : Int), (0 : Int), (0 : Int), (0 : Int), []) :: gs) = 0 + (mg_p1 gs) := rfl
          have q2 : mg_p2 (((1 : Int), (0 : Int), (0 : Int), (0 : Int), []) :: gs) = 0 + (mg_p2 gs) := rfl
          have q3 : mg_p3 (((1 : Int), (0 : Int), (0 : Int), (0 : Int), []) :: gs) = 1 + (mg_p3 gs) := rfl
          have q4 : mg_p4 (((1 : Int), (0 : Int), (0 : Int), (0 : Int), []) :: gs) = 0 + (mg_p4 gs) := rfl
          refine ⟨_, _, _, bc, rfl, hS825, Or.inl ⟨⟨hR830_, ?_, ?_⟩, rfl, ?_⟩⟩
          · exact (⟨⟨(show mg_k 1 from by decide), (show (0 : Int) ≤ (f 15).toInt from by omega), (show 0 ≤ (f 20).toInt from by omega), (show 1 ≤ (f 37).toInt from by omega), (show 0 ≤ (f 32).toInt from by omega), (show (f 32).toInt ≤ (f 5).toInt from by omega), (show (f 5).toInt ≤ 48 from by omega), (show (f 37).toInt ≤ 2 * ((f 5).toInt) + 1 from by omega), trivial⟩, mg_cast (mg_good_ext _ _ _ _ _ _ (fun i _ => by show g'823 34 i = g 34 i; rw [show g'823 34 = g'20 34 from h829_ 34 (by decide), show g'20 34 = g 34 from h24_ 34 (by decide)]) (fun i _ => by show g'823 38 i = g 38 i; rw [show g'823 38 = g'20 38 from h829_ 38 (by decide), show g'20 38 = g 38 from h24_ 38 (by decide)]) (fun i _ => by show g'823 23 i = g 23 i; rw [show g'823 23 = g'20 23 from h829_ 23 (by decide), show g'20 23 = g 23 from h24_ 23 (by decide)]) hrest) (by show (f 15).toInt + 0 = (f 15).toInt + 0; omega) (by show (f 20).toInt = (f 20).toInt; omega) (by show (f 37).toInt + 0 = (f 37).toInt + 0; omega) (by show (f 32).toInt + 0 = (f 32).toInt + 0; omega) (by show (f 5).toInt + 0 = (f 5).toInt + 0; omega)⟩ : mg_good (g'823 34) (g'823 38) (g'823 23) (((1 : Int), (0 : Int), (0 : Int), (0 : Int), []) :: gs) ((f 15).toInt) ((f 20).toInt) ((f 37).toInt) ((f 32).toInt) ((f 5).toInt))
          · exact ⟨(by show 0 ≤ z807.toInt; omega), (by show z807.toInt ≤ (f 0).toInt; omega), (by show (f 0).toInt ≤ 512; omega), (by show 0 ≤ (f 24).toInt; omega), (by show (f 24).toInt + (f 20).toInt + mg_p1 (((1 : Int), (0 : Int), (0 : Int), (0 : Int), []) :: gs) ≤ 4 * z807.toInt; omega), (by show (f 20).toInt ≤ z807.toInt; omega), (by show (f 15).toInt + mg_p2 (((1 : Int), (0 : Int), (0 : Int), (0 : Int), []) :: gs) ≤ z807.toInt; omega), (by show mg_p3 (((1 : Int), (0 : Int), (0 : Int), (0 : Int), []) :: gs) ≤ 20 * z807.toInt + 20; omega), (by show 0 ≤ s822.toInt; omega), (by show s822.toInt + 3 * (f 20).toInt + mg_p4 (((1 : Int), (0 : Int), (0 : Int), (0 : Int), []) :: gs) ≤ 60 * z807.toInt + 60; omega), (by show 0 ≤ (f 62).toInt; omega), (by show (f 62).toInt + 64 * mj_n (g'823 16) (f 15).toNatClampNeg 3 ≤ 64 * z807.toInt; rw [show g'823 16 = g'20 16 from h829_ 16 (by decide), show g'20 16 = g 16 from h24_ 16 (by decide)]; omega), (by show 0 ≤ (f 44).toInt; omega), (by show (f 44).toInt ≤ z807.toInt; omega), (by show 0 ≤ z821.toInt; omega), (by show z821.toInt ≤ z807.toInt; omega), (by show 1 ≤ (f 53).toInt; omega), (by show (f 53).toInt ≤ z807.toInt + 1; omega), (by show 0 ≤ (f 19).toInt; omega), (by show (f 19).toInt ≤ 600; omega)⟩
          · show 100 * ((f 0).toInt - z807.toInt) + mg_p3 (((1 : Int), (0 : Int), (0 : Int), (0 : Int), []) :: gs) < 100 * ((f 0).toInt - (f 4).toInt) + (1 + mg_p3 gs); omega
        · subst hv815
          replace hS816 : MS S0 S806 (upd (upd (upd (upd f 4 z801) 6 a813) 7 b814) 10 0) g'20 := hS816
          have hR831 := rj_clear0 hR804
          have hR832 : RJ (upd (upd (upd (upd f 4 z801) 6 a813) 7 b814) 10 0) g'20 [] bc [] 0 [] := hR831
          show am_E _ _ _ _ [some (.ref 39), some (.int r2), some (.int (f 4))] [.int 0] _ _
          refine am_e12t hi_228_187 (by decide) ?_
          refine am_e35 hi_228_422 ?_
          show am_E _ _ _ _ [some (.ref 39), some (.int r2)] [] _ _
          refine am_e35 hi_225_33 ?_
          show am_E _ _ _ _ [some (.ref 39), some (.int 1), some (.int on), some (.int tw), some (.int th)] [] _ _
          refine am_e18 hi_180_116 ?_
          refine am_e35 hi_180_371 ?_
          have hRc := rj_clear0 hR832
          refine ⟨_, _, [], _, rfl, hS816, Or.inr ⟨hRc, rfl, (by show 0 ≤ z801.toInt; omega), (by show z801.toInt ≤ (f 0).toInt; omega), (by show 0 ≤ (f 32).toInt; omega), (by show (f 32).toInt ≤ 63; omega), (by show 1 ≤ (f 53).toInt; omega), (by show (f 53).toInt ≤ 600; omega), (by show 0 ≤ (f 68).toInt; omega), (by show (f 68).toInt ≤ 60000; omega), (by show 0 ≤ (f 48).toInt; omega), (by show (f 48).toInt ≤ 8000; omega), (by show 0 ≤ (f 37).toInt; omega), (by show (f 37).toInt ≤ 128; omega), (by show 0 ≤ (f 62).toInt; omega), (by show (f 62).toInt ≤ 65000; omega), (by show 0 ≤ (f 19).toInt; omega), (by show (f 19).toInt ≤ 600; omega)⟩⟩
      by_cases c833 : r2.toInt = 20
      · refine am_e19 (t := 317) hi_228_6 (am_swI (v := r2) (w := 20) (by decide) (by decide) c833) ?_
        refine am_e2 (v := 39) hi_228_317 rfl ?_
        refine am_e7 hi_228_318 ?_
        refine mm_20 (v := .int (f 4)) hS22 hi_228_319 rfl ?_
        refine am_e0 hi_228_322 ?_
        obtain ⟨z834, hz834, tz834⟩ := am_addI (x := f 4) (y := 1) (m := (f 4).toInt) (n := (1 : Int)) rfl (by decide) (by omega) (by omega)
        refine am_e10 (z := z834) hi_228_323 hz834 ?_
        refine mm_21 (v := z834) hS22 hi_228_324 rfl (Nat.le_of_ble_eq_true rfl) ms_4 ?_
        intro S835 hS836
        replace hS836 : MS S0 S835 (upd (upd f 4 z834) 10 z19) g'20 := hS836
        have hR837 : RJ (upd (upd f 4 z834) 10 z19) g'20 (((1 : Int), (0 : Int), (0 : Int), (0 : Int), []) :: gs) bc [] 0 [] := RJ.at hR25_ (by show (f 4).toInt ≤ z834.toInt; omega)
        refine am_e2 (v := 39) hi_228_327 rfl ?_
        refine am_e0 hi_228_328 ?_
        refine am_e0 hi_228_330 ?_
        refine am_e0 hi_228_331 ?_
        refine am_e0 hi_228_332 ?_
        refine am_e32n (as := [.ref 39, .int 7, .int 0, .int 0, .int 0]) (la := [some (.ref 39), some (.int 7), some (.int 0), some (.int 0), some (.int 0)]) (rest := []) hi_228_333 (am_hd0 (M := 228) (by decide) 333) (Nat.le_of_ble_eq_true rfl) (Nat.le_of_ble_eq_true rfl) (show 5 ≤ am_P0.2.2.1 179 from by decide +kernel) rfl (am_recv_ok hS836.fs) rfl rfl (ct_pile (d := (d + 5)) hS836 hR837 (mj_e_79 (by decide) (by decide)) (by show (0 : Int) ≤ z19.toInt; omega) (by show z19.toInt ≤ (65535 : Int); omega)) ?_
        rintro v838 S839 (⟨z840, g'841, hv842, hS843, hR846, h844, h845⟩)
        subst hv842
        have h844_ : z840.toInt = z19.toInt + 1 := h844
        have h845_ : ∀ j, j ∉ [11, 12, 13, 14] → g'841 j = g'20 j := h845
        replace hS843 : MS S0 S839 (upd (upd f 4 z834) 10 z840) g'841 := hS843
        have hR846_ : RJ (upd (upd f 4 z834) 10 z840) g'841 (((7 : Int), (0 : Int), (0 : Int), (0 : Int), []) :: (((1 : Int), (0 : Int), (0 : Int), (0 : Int), []) :: gs)) bc [] 0 [] := hR846
        show am_E _ _ _ _ [some (.ref 39), some (.int r2), some (.int (f 4))] [] _ _
        refine am_e2 (v := 39) hi_228_336 rfl ?_
        refine am_e0 hi_228_337 ?_
        refine am_e32w (as := [.ref 39, .int 0]) (la := [some (.ref 39), some (.int 0)]) (rest := []) hi_228_338 (am_hd0 (M := 228) (by decide) 338) (Nat.le_of_ble_eq_true rfl) (Nat.le_of_ble_eq_true rfl) (show 2 ≤ am_P0.2.2.1 186 from by decide +kernel) rfl (am_recv_ok hS843.fs) rfl rfl ?_
        refine am_e2 (v := 39) hi_186_0 rfl ?_
        refine am_e0 hi_186_1 ?_
        refine am_e1 (v := 0) hi_186_3 rfl ?_
        refine am_e0 hi_186_4 ?_
        refine am_e0 hi_186_5 ?_
        refine am_e32n (as := [.ref 39, .int 23, .int 0, .int 0, .int 0]) (la := [some (.ref 39), some (.int 23), some (.int 0), some (.int 0), some (.int 0)]) (rest := []) hi_186_6 (am_hd0 (M := 186) (by decide) 6) (Nat.le_of_ble_eq_true rfl) (Nat.le_of_ble_eq_true rfl) (show 5 ≤ am_P0.2.2.1 179 from by decide +kernel) rfl (am_recv_ok hS843.fs) rfl rfl (ct_pile (d := (d + 4)) hS843 hR846_ (mj_e_plain (by decide)) (by show (0 : Int) ≤ z840.toInt; omega) (by show z840.toInt ≤ (65535 : Int); omega)) ?_
        rintro v847 S848 (⟨z849, g'850, hv851, hS852, hR855, h853, h854⟩)
        subst hv851
        have h853_ : z849.toInt = z840.toInt + 1 := h853
        have h854_ : ∀ j, j ∉ [11, 12, 13, 14] → g'850 j = g'841 j := h854
        replace hS852 : MS S0 S848 (upd (upd f 4 z834) 10 z849) g'850 := hS852
        have hR855_ : RJ (upd (upd f 4 z834) 10 z849) g'850 (((23 : Int), (0 : Int), (0 : Int), (0 : Int), []) :: (((7 : Int), (0 : Int), (0 : Int), (0 : Int), []) :: (((1 : Int), (0 : Int), (0 : Int), (0 : Int), []) :: gs))) bc [] 0 [] := hR855
        show am_E _ _ _ _ [some (.ref 39), some (.int 0)] [] _ _
        refine am_e35 hi_186_9 ?_
        show am_E _ _ _ _ [some (.ref 39), some (.int r2), some (.int (f 4))] [] _ _
        refine am_e18 hi_228_341 ?_
        refine am_e35 hi_228_422 ?_
        show am_E _ _ _ _ [some (.ref 39), some (.int r2)] [] _ _
        refine am_e35 hi_225_33 ?_
        show am_E _ _ _ _ [some (.ref 39), some (.int 1), some (.int on), some (.int tw), some (.int th)] [] _ _
        refine am_e18 hi_180_116 ?_
        refine am_e35 hi_180_371 ?_
        have q1 : mg_p1 (((23 : Int), (0 : Int), (0 : Int), (0 : Int), []) :: (((7 : Int), (0 : Int), (0 : Int), (0 : Int), []) :: (((1 : Int), (0 : Int), (0 : Int), (0 : Int), []) :: gs))) = 0 + (0 + (0 + (mg_p1 gs))) := rfl
        have q2 : mg_p2 (((23 : Int), (0 : Int), (0 : Int), (0 : Int), []) :: (((7 : Int), (0 : Int), (0 : Int), (0 : Int), []) :: (((1 : Int), (0 : Int), (0 : Int), (0 : Int), []) :: gs))) = 0 + (0 + (0 + (mg_p2 gs))) := rfl
        have q3 : mg_p3 (((23 : Int), (0 : Int), (0 : Int), (0 : Int), []) :: (((7 : Int), (0 : Int), (0 : Int), (0 : Int), []) :: (((1 : Int), (0 : Int), (0 : Int), (0 : Int), []) :: gs))) = 1 + (1 + (1 + (mg_p3 gs))) := rfl
        have q4 : mg_p4 (((23 : Int), (0 : Int), (0 : Int), (0 : Int), []) :: (((7 : Int), (0 : Int), (0 : Int), (0 : Int), []) :: (((1 : Int), (0 : Int), (0 : Int), (0 : Int), []) :: gs))) = 0 + (0 + (0 + (mg_p4 gs))) := rfl
        refine ⟨_, _, _, bc, rfl, hS852, Or.inl ⟨⟨hR855_, ?_, ?_⟩, rfl, ?_⟩⟩
        · exact (⟨⟨(show mg_k 23 from by decide), (show (0 : Int) ≤ (f 15).toInt from by omega), (show 0 ≤ (f 20).toInt from by omega), (show 1 ≤ (f 37).toInt from by omega), (show 0 ≤ (f 32).toInt from by omega), (show (f 32).toInt ≤ (f 5).toInt from by omega), (show (f 5).toInt ≤ 48 from by omega), (show (f 37).toInt ≤ 2 * ((f 5).toInt) + 2 from by omega), (show 0 ≤ (0 : Int) from by omega)⟩, ⟨⟨(show mg_k 7 from by decide), (show (1 : Int) ≤ (f 15).toInt + 1 from by omega), (show 0 ≤ (f 20).toInt from by omega), (show 1 ≤ (f 37).toInt + 0 from by omega), (show 0 ≤ (f 32).toInt + 0 from by omega), (show (f 32).toInt + 0 ≤ (f 5).toInt + 0 from by omega), (show (f 5).toInt + 0 ≤ 48 from by omega), (show (f 37).toInt + 0 ≤ 2 * ((f 5).toInt + 0) + 1 from by omega), trivial⟩, ⟨⟨(show mg_k 1 from by decide), (show (0 : Int) ≤ (f 15).toInt + 1 + -1 from by omega), (show 0 ≤ (f 20).toInt from by omega), (show 1 ≤ (f 37).toInt + 0 + 0 from by omega), (show 0 ≤ (f 32).toInt + 0 + 0 from by omega), (show (f 32).toInt + 0 + 0 ≤ (f 5).toInt + 0 + 0 from by omega), (show (f 5).toInt + 0 + 0 ≤ 48 from by omega), (show (f 37).toInt + 0 + 0 ≤ 2 * ((f 5).toInt + 0 + 0) + 1 from by omega), trivial⟩, mg_cast (mg_good_ext _ _ _ _ _ _ (fun i _ => by show g'850 34 i = g 34 i; rw [show g'850 34 = g'841 34 from h854_ 34 (by decide), show g'841 34 = g'20 34 from h845_ 34 (by decide), show g'20 34 = g 34 from h24_ 34 (by decide)]) (fun i _ => by show g'850 38 i = g 38 i; rw [show g'850 38 = g'841 38 from h854_ 38 (by decide), show g'841 38 = g'20 38 from h845_ 38 (by decide), show g'20 38 = g 38 from h24_ 38 (by decide)]) (fun i _ => by show g'850 23 i = g 23 i; rw [show g'850 23 = g'841 23 from h854_ 23 (by decide), show g'841 23 = g'20 23 from h845_ 23 (by decide), show g'20 23 = g 23 from h24_ 23 (by decide)]) hrest) (by show (f 15).toInt + 0 = (f 15).toInt + 1 + -1 + 0; omega) (by show (f 20).toInt = (f 20).toInt; omega) (by show (f 37).toInt + 0 = (f 37).toInt + 0 + 0 + 0; omega) (by show (f 32).toInt + 0 = (f 32).toInt + 0 + 0 + 0; omega) (by show (f 5).toInt + 0 = (f 5).toInt + 0 + 0 + 0; omega)⟩⟩⟩ : mg_good (g'850 34) (g'850 38) (g'850 23) (((23 : Int), (0 : Int), (0 : Int), (0 : Int), []) :: (((7 : Int), (0 : Int), (0 : Int), (0 : Int), []) :: (((1 : Int), (0 : Int), (0 : Int), (0 : Int), []) :: gs))) ((f 15).toInt) ((f 20).toInt) ((f 37).toInt) ((f 32).toInt) ((f 5).toInt))
        · exact ⟨(by show 0 ≤ z834.toInt; omega), (by show z834.toInt ≤ (f 0).toInt; omega), (by show (f 0).toInt ≤ 512; omega), (by show 0 ≤ (f 24).toInt; omega), (by show (f 24).toInt + (f 20).toInt + mg_p1 (((23 : Int), (0 : Int), (0 : Int), (0 : Int), []) :: (((7 : Int), (0 : Int), (0 : Int), (0 : Int), []) :: (((1 : Int), (0 : Int), (0 : Int), (0 : Int), []) :: gs))) ≤ 4 * z834.toInt; omega), (by show (f 20).toInt ≤ z834.toInt; omega), (by show (f 15).toInt + mg_p2 (((23 : Int), (0 : Int), (0 : Int), (0 : Int), []) :: (((7 : Int), (0 : Int), (0 : Int), (0 : Int), []) :: (((1 : Int), (0 : Int), (0 : Int), (0 : Int), []) :: gs))) ≤ z834.toInt; omega), (by show mg_p3 (((23 : Int), (0 : Int), (0 : Int), (0 : Int), []) :: (((7 : Int), (0 : Int), (0 : Int), (0 : Int), []) :: (((1 : Int), (0 : Int), (0 : Int), (0 : Int), []) :: gs))) ≤ 20 * z834.toInt + 20; omega), (by show 0 ≤ (f 68).toInt; omega), (by show (f 68).toInt + 3 * (f 20).toInt + mg_p4 (((23 : Int), (0 : Int), (0 : Int), (0 : Int), []) :: (((7 : Int), (0 : Int), (0 : Int), (0 : Int), []) :: (((1 : Int), (0 : Int), (0 : Int), (0 : Int), []) :: gs))) ≤ 60 * z834.toInt + 60; omega), (by show 0 ≤ (f 62).toInt; omega), (by show (f 62).toInt + 64 * mj_n (g'850 16) (f 15).toNatClampNeg 3 ≤ 64 * z834.toInt; rw [show g'850 16 = g'841 16 from h854_ 16 (by decide), show g'841 16 = g'20 16 from h845_ 16 (by decide), show g'20 16 = g 16 from h24_ 16 (by decide)]; omega), (by show 0 ≤ (f 44).toInt; omega), (by show (f 44).toInt ≤ z834.toInt; omega), (by show 0 ≤ (f 48).toInt; omega), (by show (f 48).toInt ≤ z834.toInt; omega), (by show 1 ≤ (f 53).toInt; omega), (by show (f 53).toInt ≤ z834.toInt + 1; omega), (by show 0 ≤ (f 19).toInt; omega), (by show (f 19).toInt ≤ 600; omega)⟩
        · show 100 * ((f 0).toInt - z834.toInt) + mg_p3 (((23 : Int), (0 : Int), (0 : Int), (0 : Int), []) :: (((7 : Int), (0 : Int), (0 : Int), (0 : Int), []) :: (((1 : Int), (0 : Int), (0 : Int), (0 : Int), []) :: gs))) < 100 * ((f 0).toInt - (f 4).toInt) + (1 + mg_p3 gs); omega
      by_cases c856 : r2.toInt = 22
      · refine am_e19 (t := 379) hi_228_6 (am_swI (v := r2) (w := 22) (by decide) (by decide) c856) ?_
        refine am_e2 (v := 39) hi_228_379 rfl ?_
        refine am_e7 hi_228_380 ?_
        refine mm_20 (v := .int (f 4)) hS22 hi_228_381 rfl ?_
        refine am_e0 hi_228_384 ?_
        obtain ⟨z857, hz857, tz857⟩ := am_addI (x := f 4) (y := 1) (m := (f 4).toInt) (n := (1 : Int)) rfl (by decide) (by omega) (by omega)
        refine am_e10 (z := z857) hi_228_385 hz857 ?_
        refine mm_21 (v := z857) hS22 hi_228_386 rfl (Nat.le_of_ble_eq_true rfl) ms_4 ?_
        intro S858 hS859
        replace hS859 : MS S0 S858 (upd (upd f 4 z857) 10 z19) g'20 := hS859
        have hR860 : RJ (upd (upd f 4 z857) 10 z19) g'20 (((1 : Int), (0 : Int), (0 : Int), (0 : Int), []) :: gs) bc [] 0 [] := RJ.at hR25_ (by show (f 4).toInt ≤ z857.toInt; omega)
        refine am_e2 (v := 39) hi_228_389 rfl ?_
        refine am_e1 (v := f 4) hi_228_390 rfl ?_
        refine am_e32w (as := [.ref 39, .int (f 4)]) (la := [some (.ref 39), some (.int (f 4)), none, none, none, none, none, none]) (rest := []) hi_228_391 (am_hd0 (M := 228) (by decide) 391) (Nat.le_of_ble_eq_true rfl) (Nat.le_of_ble_eq_true rfl) (show 2 ≤ am_P0.2.2.1 238 from by decide +kernel) rfl (am_recv_ok hS859.fs) rfl rfl ?_
        refine am_e2 (v := 39) hi_238_0 rfl ?_
        refine am_e32n (as := [.ref 39]) (la := [some (.ref 39)]) (rest := []) hi_238_1 (am_hd0 (M := 238) (by decide) 1) (Nat.le_of_ble_eq_true rfl) (Nat.le_of_ble_eq_true rfl) (show 1 ≤ am_P0.2.2.1 183 from by decide +kernel) rfl (am_recv_ok hS859.fs) rfl rfl (ct_next (d := (d + 3)) hS859   (by show (0 : Int) ≤ z857.toInt; omega) (by show (f 0).toInt ≤ (16384 : Int); omega)) ?_
        rintro v861 S862 (⟨r863, hv864, hS865, h866⟩)
        subst hv864
        have h866_ : z857.toInt < (f 0).toInt ∨ r863.toInt = (-1 : Int) := h866
        show am_E _ _ _ _ [some (.ref 39), some (.int (f 4)), none, none, none, none, none, none] [.int r863] _ _
        refine am_e0 hi_238_4 ?_
        by_cases c868 : ¬ r863.toInt = (18 : Int)
        · refine am_e13t hi_238_6 (am_cT (m := r863.toInt) (n := (18 : Int)) rfl (by decide) c868) ?_
          refine am_e2 (v := 39) hi_238_103 rfl ?_
          refine mm_20 (v := .int (f 20)) hS865 hi_238_104 rfl ?_
          refine am_e3 (ls' := [some (.ref 39), some (.int (f 4)), some (.int (f 20)), none, none, none, none, none]) hi_238_107 (Nat.le_of_ble_eq_true rfl) rfl ?_
          refine am_e0 hi_238_108 ?_
          refine am_e3 (ls' := [some (.ref 39), some (.int (f 4)), some (.int (f 20)), some (.int 1), none, none, none, none]) hi_238_109 (Nat.le_of_ble_eq_true rfl) rfl ?_
          refine am_e0 hi_238_110 ?_
          refine am_e3 (ls' := [some (.ref 39), some (.int (f 4)), some (.int (f 20)), some (.int 1), some (.int 0), none, none, none]) hi_238_111 (Nat.le_of_ble_eq_true rfl) rfl ?_
          refine fr_local (d := d) (f := (upd (upd f 4 z857) 10 z19)) (g := g'20) (w := (f 4)) (k0 := (f 20))  (by show (0 : Int) ≤ z857.toInt; omega) (by show (f 0).toInt ≤ (16384 : Int); omega) (by show z857.toInt ≤ (f 0).toInt; omega) (by show (f 0).toInt ≤ (512 : Int); omega) (by show (0 : Int) ≤ (f 20).toInt; omega) (by show (f 20).toInt ≤ (15000 : Int); omega) ?_ ?_ ?_ ((2 * ((f 0).toInt - z857.toInt) + (1 : Int)).toNat + 1) _ none none none 1 0 (f 8) (f 9) z857 (f 20) _ hS865 hR860 (fun _ _ => rfl) (fun _ _ => rfl) (fun i h1 h2 => absurd (Int.lt_of_le_of_lt h1 h2) (Int.lt_irrefl _)) (by show z857.toInt ≤ z857.toInt; omega) (by show z857.toInt ≤ (f 0).toInt; omega) (by show (f 20).toInt ≤ (f 20).toInt; omega) (by show (f 20).toInt + z857.toInt ≤ (f 20).toInt + z857.toInt; omega) (by show (0 : Int) ≤ (1 : Int); omega) (by show (1 : Int) ≤ (1 : Int); omega) (by show 2 * ((f 0).toInt - z857.toInt) + (1 : Int) < _; omega)
          · intro S875 x5879 x6880 x7881 m3869 c4870 a871 b872 z873 q874 gx878 hS876 hR877 hg882 hg883 hg884 h885 h886 h887 h888
            replace hS876 : MS S0 S875 (upd (upd (upd (upd (upd f 4 z873) 8 a871) 9 b872) 10 z19) 20 q874) gx878 := hS876
            have h885_ : z857.toInt ≤ z873.toInt := h885
            have h886_ : z873.toInt ≤ (f 0).toInt := h886
            have h887_ : (f 20).toInt ≤ q874.toInt := h887
            have h888_ : q874.toInt + z857.toInt ≤ (f 20).toInt + z873.toInt := h888
            have hR877_ : RJ (upd (upd (upd (upd (upd f 4 z873) 8 a871) 9 b872) 10 z19) 20 q874) gx878 (((1 : Int), (0 : Int), (0 : Int), (0 : Int), []) :: gs) bc [] 0 [] := hR877
            show am_E _ _ _ _ [some (.ref 39), some (.int (f 4)), some (.int (f 20)), some (.int m3869), some (.int c4870), x5879, x6880, x7881] [] _ _
            refine am_e2 (v := 39) hi_238_300 rfl ?_
            refine am_e32n (as := [.ref 39]) (la := [some (.ref 39)]) (rest := []) hi_238_301 (am_hd0 (M := 238) (by decide) 301) (Nat.le_of_ble_eq_true rfl) (Nat.le_of_ble_eq_true rfl) (show 1 ≤ am_P0.2.2.1 183 from by decide +kernel) rfl (am_recv_ok hS876.fs) rfl rfl (ct_next (d := (d + 3)) hS876   (by show (0 : Int) ≤ z873.toInt; omega) (by show (f 0).toInt ≤ (16384 : Int); omega)) ?_
            rintro v889 S890 (⟨r891, hv892, hS893, h894⟩)
            subst hv892
            have h894_ : z873.toInt < (f 0).toInt ∨ r891.toInt = (-1 : Int) := h894
            show am_E _ _ _ _ [some (.ref 39), some (.int (f 4)), some (.int (f 20)), some (.int m3869), some (.int c4870), x5879, x6880, x7881] [.int r891] _ _
            refine am_e0 hi_238_304 ?_
            by_cases c896 : ¬ r891.toInt = (59 : Int)
            · refine am_e13t hi_238_306 (am_cT (m := r891.toInt) (n := (59 : Int)) rfl (by decide) c896) ?_
              refine am_e2 (v := 39) hi_238_335 rfl ?_
              refine am_e2 (v := 39) hi_238_336 rfl ?_
              refine mm_20 (v := .int q874) hS893 hi_238_337 rfl ?_
              refine am_e1 (v := f 20) hi_238_340 rfl ?_
              obtain ⟨z897, hz897, tz897⟩ := am_subI (x := q874) (y := f 20) (m := q874.toInt) (n := (f 20).toInt) rfl rfl (by omega) (by omega)
              refine am_e10 (z := z897) hi_238_341 hz897 ?_
              refine am_e32n (as := [.ref 39, .int z897]) (la := [some (.ref 39), some (.int z897), none]) (rest := []) hi_238_342 (am_hd0 (M := 238) (by decide) 342) (Nat.le_of_ble_eq_true rfl) (Nat.le_of_ble_eq_true rfl) (show 2 ≤ am_P0.2.2.1 240 from by decide +kernel) rfl (am_recv_ok hS893.fs) rfl rfl (ct_nils (d := (d + 3)) hS893 hR877_  (by show (0 : Int) ≤ (f 32).toInt; omega) (by show (f 32).toInt ≤ (63 : Int); omega) (by show (f 53).toInt ≤ (4096 : Int); omega) (by show (0 : Int) ≤ (f 68).toInt; omega) (by show (f 68).toInt ≤ (65534 : Int); omega) (by show (f 68).toInt + z897.toInt ≤ 65534; omega)) ?_
              rintro v898 S899 (⟨s900, g'901, hv902, hS903, hR907, h904, h905, h906⟩)
              subst hv902
              have h904_ : (f 68).toInt ≤ s900.toInt := h904
              have h905_ : s900.toInt ≤ (f 68).toInt + z897.toInt ∨ s900.toInt ≤ (f 68).toInt := h905
              have h906_ : ∀ j, j ∉ [60, 69, 70, 71, 72, 73] → g'901 j = gx878 j := h906
              have hR907_ : RJ (upd (upd (upd (upd (upd (upd f 4 z873) 8 a871) 9 b872) 10 z19) 20 q874) 68 s900) g'901 (((1 : Int), (0 : Int), (0 : Int), (0 : Int), []) :: gs) bc [] 0 [] := hR907
              show am_E _ _ _ _ [some (.ref 39), some (.int (f 4)), some (.int (f 20)), some (.int m3869), some (.int c4870), x5879, x6880, x7881] [] _ _
              refine am_e2 (v := 39) hi_238_345 rfl ?_
              refine am_e1 (v := f 4) hi_238_346 rfl ?_
              refine am_e1 (v := f 20) hi_238_347 rfl ?_
              refine am_e32n (as := [.ref 39, .int (f 4), .int (f 20)]) (la := [some (.ref 39), some (.int (f 4)), some (.int (f 20)), none, none, none]) (rest := []) hi_238_348 (am_hd0 (M := 238) (by decide) 348) (Nat.le_of_ble_eq_true rfl) (Nat.le_of_ble_eq_true rfl) (show 3 ≤ am_P0.2.2.1 241 from by decide +kernel) rfl (am_recv_ok hS903.fs) rfl rfl (ct_localEnd (d := (d + 2)) hS903 hR907_ (by intro i h1 h2; show 0 ≤ (g'901 23 i).toInt ∧ (g'901 23 i).toInt < 16384; rw [show g'901 23 = gx878 23 from h906_ 23 (by decide)]; exact hg884 i (by omega) (by have h3 : (i : Int) < q874.toInt := h2; omega)) (by show (0 : Int) ≤ (f 32).toInt; omega) (by show (f 32).toInt ≤ (63 : Int); omega) (by show (f 53).toInt ≤ (4096 : Int); omega) (by show (0 : Int) ≤ (f 24).toInt; omega) (by show (f 24).toInt + q874.toInt ≤ 16000; omega) (by show (0 : Int) ≤ (f 20).toInt; omega) (by show (f 20).toInt ≤ q874.toInt; omega) (by show (0 : Int) ≤ s900.toInt; omega) (by show s900.toInt + q874.toInt ≤ 65530; omega)) ?_
              rintro v908 S909 (⟨a910, b911, q912, l913, y914, s915, g'916, hv917, hS918, hR924, h919, h920, h921, h922, h923⟩)
              subst hv917
              have h919_ : q912.toInt = (f 20).toInt := h919
              have h920_ : l913.toInt = (f 24).toInt + q874.toInt - (f 20).toInt := h920
              have h921_ : s900.toInt ≤ s915.toInt := h921
              have h922_ : s915.toInt + (f 20).toInt ≤ s900.toInt + q874.toInt + 1 := h922
              have h923_ : ∀ j, j ∉ [25, 26, 27, 28, 29, 30, 58, 60, 69, 70, 71, 72, 73] → g'916 j = g'901 j := h923
              replace hS918 : MS S0 S909 (upd (upd (upd (upd (upd (upd (upd (upd f 4 z873) 8 a910) 9 b911) 10 z19) 20 q912) 24 l913) 31 y914) 68 s915) g'916 := hS918
              have hR924_ : RJ (upd (upd (upd (upd (upd (upd (upd (upd f 4 z873) 8 a910) 9 b911) 10 z19) 20 q912) 24 l913) 31 y914) 68 s915) g'916 (((1 : Int), (0 : Int), (0 : Int), (0 : Int), []) :: gs) bc [] 0 [] := hR924
              show am_E _ _ _ _ [some (.ref 39), some (.int (f 4)), some (.int (f 20)), some (.int m3869), some (.int c4870), x5879, x6880, x7881] [] _ _
              refine am_e35 hi_238_351 ?_
              show am_E _ _ _ _ [some (.ref 39), some (.int r2), some (.int (f 4))] [] _ _
              refine am_e18 hi_228_394 ?_
              refine am_e35 hi_228_422 ?_
              show am_E _ _ _ _ [some (.ref 39), some (.int r2)] [] _ _
              refine am_e35 hi_225_33 ?_
              show am_E _ _ _ _ [some (.ref 39), some (.int 1), some (.int on), some (.int tw), some (.int th)] [] _ _
              refine am_e18 hi_180_116 ?_
              refine am_e35 hi_180_371 ?_
              have q1 : mg_p1 (((1 : Int), (0 : Int), (0 : Int), (0 : Int), []) :: gs) = 0 + (mg_p1 gs) := rfl
              have q2 : mg_p2 (((1 : Int), (0 : Int), (0 : Int), (0 : Int), []) :: gs) = 0 + (mg_p2 gs) := rfl
              have q3 : mg_p3 (((1 : Int), (0 : Int), (0 : Int), (0 : Int), []) :: gs) = 1 + (mg_p3 gs) := rfl
              have q4 : mg_p4 (((1 : Int), (0 : Int), (0 : Int), (0 : Int), []) :: gs) = 0 + (mg_p4 gs) := rfl
              refine ⟨_, _, _, bc, rfl, hS918, Or.inl ⟨⟨hR924_, ?_, ?_⟩, rfl, ?_⟩⟩
              · exact (⟨⟨(show mg_k 1 from by decide), (show (0 : Int) ≤ (f 15).toInt from by omega), (show 0 ≤ q912.toInt from by omega), (show 1 ≤ (f 37).toInt from by omega), (show 0 ≤ (f 32).toInt from by omega), (show (f 32).toInt ≤ (f 5).toInt from by omega), (show (f 5).toInt ≤ 48 from by omega), (show (f 37).toInt ≤ 2 * ((f 5).toInt) + 1 from by omega), trivial⟩, mg_cast (mg_good_ext _ _ _ _ _ _ (fun i _ => by show g'916 34 i = g 34 i; rw [show g'916 34 = g'901 34 from h923_ 34 (by decide), show g'901 34 = gx878 34 from h906_ 34 (by decide), show gx878 34 = g'20 34 from hg882 34 (by decide), show g'20 34 = g 34 from h24_ 34 (by decide)]) (fun i _ => by show g'916 38 i = g 38 i; rw [show g'916 38 = g'901 38 from h923_ 38 (by decide), show g'901 38 = gx878 38 from h906_ 38 (by decide), show gx878 38 = g'20 38 from hg882 38 (by decide), show g'20 38 = g 38 from h24_ 38 (by decide)]) (fun i hi => by show g'916 23 i = g 23 i; rw [show g'916 23 = g'901 23 from h923_ 23 (by decide), show g'901 23 = gx878 23 from h906_ 23 (by decide)]; rw [hg883 i (by have h3 : (i : Int) < (f 20).toInt := hi; omega)]; show g'20 23 i = g 23 i; rw [show g'20 23 = g 23 from h24_ 23 (by decide)]) hrest) (by show (f 15).toInt + 0 = (f 15).toInt + 0; omega) (by show (f 20).toInt = q912.toInt; omega) (by show (f 37).toInt + 0 = (f 37).toInt + 0; omega) (by show (f 32).toInt + 0 = (f 32).toInt + 0; omega) (by show (f 5).toInt + 0 = (f 5).toInt + 0; omega)⟩ : mg_good (g'916 34) (g'916 38) (g'916 23) (((1 : Int), (0 : Int), (0 : Int), (0 : Int), []) :: gs) ((f 15).toInt) (q912.toInt) ((f 37).toInt) ((f 32).toInt) ((f 5).toInt))
              · exact ⟨(by show 0 ≤ z873.toInt; omega), (by show z873.toInt ≤ (f 0).toInt; omega), (by show (f 0).toInt ≤ 512; omega), (by show 0 ≤ l913.toInt; omega), (by show l913.toInt + q912.toInt + mg_p1 (((1 : Int), (0 : Int), (0 : Int), (0 : Int), []) :: gs) ≤ 4 * z873.toInt; omega), (by show q912.toInt ≤ z873.toInt; omega), (by show (f 15).toInt + mg_p2 (((1 : Int), (0 : Int), (0 : Int), (0 : Int), []) :: gs) ≤ z873.toInt; omega), (by show mg_p3 (((1 : Int), (0 : Int), (0 : Int), (0 : Int), []) :: gs) ≤ 20 * z873.toInt + 20; omega), (by show 0 ≤ s915.toInt; omega), (by show s915.toInt + 3 * q912.toInt + mg_p4 (((1 : Int), (0 : Int), (0 : Int), (0 : Int), []) :: gs) ≤ 60 * z873.toInt + 60; omega), (by show 0 ≤ (f 62).toInt; omega), (by show (f 62).toInt + 64 * mj_n (g'916 16) (f 15).toNatClampNeg 3 ≤ 64 * z873.toInt; rw [show g'916 16 = g'901 16 from h923_ 16 (by decide), show g'901 16 = gx878 16 from h906_ 16 (by decide), show gx878 16 = g'20 16 from hg882 16 (by decide), show g'20 16 = g 16 from h24_ 16 (by decide)]; omega), (by show 0 ≤ (f 44).toInt; omega), (by show (f 44).toInt ≤ z873.toInt; omega), (by show 0 ≤ (f 48).toInt; omega), (by show (f 48).toInt ≤ z873.toInt; omega), (by show 1 ≤ (f 53).toInt; omega), (by show (f 53).toInt ≤ z873.toInt + 1; omega), (by show 0 ≤ (f 19).toInt; omega), (by show (f 19).toInt ≤ 600; omega)⟩
              · show 100 * ((f 0).toInt - z873.toInt) + mg_p3 (((1 : Int), (0 : Int), (0 : Int), (0 : Int), []) :: gs) < 100 * ((f 0).toInt - (f 4).toInt) + (1 + mg_p3 gs); omega
            · refine am_e13f hi_238_306 (am_cF (m := r891.toInt) (n := (59 : Int)) rfl (by decide) c896) ?_
              refine am_e2 (v := 39) hi_238_309 rfl ?_
              refine am_e7 hi_238_310 ?_
              refine mm_20 (v := .int z873) hS893 hi_238_311 rfl ?_
              refine am_e0 hi_238_314 ?_
              obtain ⟨z925, hz925, tz925⟩ := am_addI (x := z873) (y := 1) (m := z873.toInt) (n := (1 : Int)) rfl (by decide) (by omega) (by omega)
              refine am_e10 (z := z925) hi_238_315 hz925 ?_
              refine mm_21 (v := z925) hS893 hi_238_316 rfl (Nat.le_of_ble_eq_true rfl) ms_4 ?_
              intro S926 hS927
              replace hS927 : MS S0 S926 (upd (upd (upd (upd (upd f 4 z925) 8 a871) 9 b872) 10 z19) 20 q874) gx878 := hS927
              have hR928 : RJ (upd (upd (upd (upd (upd f 4 z925) 8 a871) 9 b872) 10 z19) 20 q874) gx878 (((1 : Int), (0 : Int), (0 : Int), (0 : Int), []) :: gs) bc [] 0 [] := RJ.at hR877_ (by show z873.toInt ≤ z925.toInt; omega)
              refine am_e2 (v := 39) hi_238_319 rfl ?_
              refine am_e0 hi_238_320 ?_
              refine am_e1 (v := f 4) hi_238_322 rfl ?_
              refine am_e1 (v := f 20) hi_238_323 rfl ?_
              refine am_e0 hi_238_324 ?_
              refine am_e32n (as := [.ref 39, .int 18, .int (f 4), .int (f 20), .int 0]) (la := [some (.ref 39), some (.int 18), some (.int (f 4)), some (.int (f 20)), some (.int 0)]) (rest := []) hi_238_325 (am_hd0 (M := 238) (by decide) 325) (Nat.le_of_ble_eq_true rfl) (Nat.le_of_ble_eq_true rfl) (show 5 ≤ am_P0.2.2.1 179 from by decide +kernel) rfl (am_recv_ok hS927.fs) rfl rfl (ct_pile (d := (d + 4)) hS927 hR928 (mj_e_plain (by decide)) (by show (0 : Int) ≤ z19.toInt; omega) (by show z19.toInt ≤ (65535 : Int); omega)) ?_
              rintro v929 S930 (⟨z931, g'932, hv933, hS934, hR937, h935, h936⟩)
              subst hv933
              have h935_ : z931.toInt = z19.toInt + 1 := h935
              have h936_ : ∀ j, j ∉ [11, 12, 13, 14] → g'932 j = gx878 j := h936
              replace hS934 : MS S0 S930 (upd (upd (upd (upd (upd f 4 z925) 8 a871) 9 b872) 10 z931) 20 q874) g'932 := hS934
              have hR937_ : RJ (upd (upd (upd (upd (upd f 4 z925) 8 a871) 9 b872) 10 z931) 20 q874) g'932 (((18 : Int), (f 4).toInt, (f 20).toInt, (0 : Int), []) :: (((1 : Int), (0 : Int), (0 : Int), (0 : Int), []) :: gs)) bc [] 0 [] := hR937
              show am_E _ _ _ _ [some (.ref 39), some (.int (f 4)), some (.int (f 20)), some (.int m3869), some (.int c4870), x5879, x6880, x7881] [] _ _
              refine am_e2 (v := 39) hi_238_328 rfl ?_
              refine am_e32w (as := [.ref 39]) (la := [some (.ref 39)]) (rest := []) hi_238_329 (am_hd0 (M := 238) (by decide) 329) (Nat.le_of_ble_eq_true rfl) (Nat.le_of_ble_eq_true rfl) (show 1 ≤ am_P0.2.2.1 214 from by decide +kernel) rfl (am_recv_ok hS934.fs) rfl rfl ?_
              refine am_e2 (v := 39) hi_214_0 rfl ?_
              refine am_e0 hi_214_1 ?_
              refine am_e0 hi_214_3 ?_
              refine am_e0 hi_214_4 ?_
              refine am_e0 hi_214_5 ?_
              refine am_e32n (as := [.ref 39, .int 34, .int 1, .int 0, .int 0]) (la := [some (.ref 39), some (.int 34), some (.int 1), some (.int 0), some (.int 0)]) (rest := []) hi_214_6 (am_hd0 (M := 214) (by decide) 6) (Nat.le_of_ble_eq_true rfl) (Nat.le_of_ble_eq_true rfl) (show 5 ≤ am_P0.2.2.1 179 from by decide +kernel) rfl (am_recv_ok hS934.fs) rfl rfl (ct_pile (d := (d + 3)) hS934 hR937_ (mj_e_plain (by decide)) (by show (0 : Int) ≤ z931.toInt; omega) (by show z931.toInt ≤ (65535 : Int); omega)) ?_
              rintro v938 S939 (⟨z940, g'941, hv942, hS943, hR946, h944, h945⟩)
              subst hv942
              have h944_ : z940.toInt = z931.toInt + 1 := h944
              have h945_ : ∀ j, j ∉ [11, 12, 13, 14] → g'941 j = g'932 j := h945
              replace hS943 : MS S0 S939 (upd (upd (upd (upd (upd f 4 z925) 8 a871) 9 b872) 10 z940) 20 q874) g'941 := hS943
              have hR946_ : RJ (upd (upd (upd (upd (upd f 4 z925) 8 a871) 9 b872) 10 z940) 20 q874) g'941 (((34 : Int), (1 : Int), (0 : Int), (0 : Int), []) :: (((18 : Int), (f 4).toInt, (f 20).toInt, (0 : Int), []) :: (((1 : Int), (0 : Int), (0 : Int), (0 : Int), []) :: gs))) bc [] 0 [] := hR946
              show am_E _ _ _ _ [some (.ref 39)] [] _ _
              refine am_e2 (v := 39) hi_214_9 rfl ?_
              refine am_e0 hi_214_10 ?_
              refine am_e32w (as := [.ref 39, .int 0]) (la := [some (.ref 39), some (.int 0)]) (rest := []) hi_214_11 (am_hd0 (M := 214) (by decide) 11) (Nat.le_of_ble_eq_true rfl) (Nat.le_of_ble_eq_true rfl) (show 2 ≤ am_P0.2.2.1 186 from by decide +kernel) rfl (am_recv_ok hS943.fs) rfl rfl ?_
              refine am_e2 (v := 39) hi_186_0 rfl ?_
              refine am_e0 hi_186_1 ?_
              refine am_e1 (v := 0) hi_186_3 rfl ?_
              refine am_e0 hi_186_4 ?_
              refine am_e0 hi_186_5 ?_
              refine am_e32n (as := [.ref 39, .int 23, .int 0, .int 0, .int 0]) (la := [some (.ref 39), some (.int 23), some (.int 0), some (.int 0), some (.int 0)]) (rest := []) hi_186_6 (am_hd0 (M := 186) (by decide) 6) (Nat.le_of_ble_eq_true rfl) (Nat.le_of_ble_eq_true rfl) (show 5 ≤ am_P0.2.2.1 179 from by decide +kernel) rfl (am_recv_ok hS943.fs) rfl rfl (ct_pile (d := (d + 2)) hS943 hR946_ (mj_e_plain (by decide)) (by show (0 : Int) ≤ z940.toInt; omega) (by show z940.toInt ≤ (65535 : Int); omega)) ?_
              rintro v947 S948 (⟨z949, g'950, hv951, hS952, hR955, h953, h954⟩)
              subst hv951
              have h953_ : z949.toInt = z940.toInt + 1 := h953
              have h954_ : ∀ j, j ∉ [11, 12, 13, 14] → g'950 j = g'941 j := h954
              replace hS952 : MS S0 S948 (upd (upd (upd (upd (upd f 4 z925) 8 a871) 9 b872) 10 z949) 20 q874) g'950 := hS952
              have hR955_ : RJ (upd (upd (upd (upd (upd f 4 z925) 8 a871) 9 b872) 10 z949) 20 q874) g'950 (((23 : Int), (0 : Int), (0 : Int), (0 : Int), []) :: (((34 : Int), (1 : Int), (0 : Int), (0 : Int), []) :: (((18 : Int), (f 4).toInt, (f 20).toInt, (0 : Int), []) :: (((1 : Int), (0 : Int), (0 : Int), (0 : Int), []) :: gs)))) bc [] 0 [] := hR955
              show am_E _ _ _ _ [some (.ref 39), some (.int 0)] [] _ _
              refine am_e35 hi_186_9 ?_
              show am_E _ _ _ _ [some (.ref 39)] [] _ _
              refine am_e35 hi_214_14 ?_
              show am_E _ _ _ _ [some (.ref 39), some (.int (f 4)), some (.int (f 20)), some (.int m3869), some (.int c4870), x5879, x6880, x7881] [] _ _
              refine am_e18 hi_238_332 ?_
              refine am_e35 hi_238_351 ?_
              show am_E _ _ _ _ [some (.ref 39), some (.int r2), some (.int (f 4))] [] _ _
              refine am_e18 hi_228_394 ?_
              refine am_e35 hi_228_422 ?_
              show am_E _ _ _ _ [some (.ref 39), some (.int r2)] [] _ _
              refine am_e35 hi_225_33 ?_
              show am_E _ _ _ _ [some (.ref 39), some (.int 1), some (.int on), some (.int tw), some (.int th)] [] _ _
              refine am_e18 hi_180_116 ?_
              refine am_e35 hi_180_371 ?_
              have q1 : mg_p1 (((23 : Int), (0 : Int), (0 : Int), (0 : Int), []) :: (((34 : Int), (1 : Int), (0 : Int), (0 : Int), []) :: (((18 : Int), (f 4).toInt, (f 20).toInt, (0 : Int), []) :: (((1 : Int), (0 : Int), (0 : Int), (0 : Int), []) :: gs)))) = 0 + (0 + (0 + (0 + (mg_p1 gs)))) := rfl
              have q2 : mg_p2 (((23 : Int), (0 : Int), (0 : Int), (0 : Int), []) :: (((34 : Int), (1 : Int), (0 : Int), (0 : Int), []) :: (((18 : Int), (f 4).toInt, (f 20).toInt, (0 : Int), []) :: (((1 : Int), (0 : Int), (0 : Int), (0 : Int), []) :: gs)))) = 0 + (((1 : Int) - 1) + (0 + (0 + (mg_p2 gs)))) := rfl
              have q3 : mg_p3 (((23 : Int), (0 : Int), (0 : Int), (0 : Int), []) :: (((34 : Int), (1 : Int), (0 : Int), (0 : Int), []) :: (((18 : Int), (f 4).toInt, (f 20).toInt, (0 : Int), []) :: (((1 : Int), (0 : Int), (0 : Int), (0 : Int), []) :: gs)))) = 1 + (1 + (1 + (1 + (mg_p3 gs)))) := rfl
              have q4 : mg_p4 (((23 : Int), (0 : Int), (0 : Int), (0 : Int), []) :: (((34 : Int), (1 : Int), (0 : Int), (0 : Int), []) :: (((18 : Int), (f 4).toInt, (f 20).toInt, (0 : Int), []) :: (((1 : Int), (0 : Int), (0 : Int), (0 : Int), []) :: gs)))) = 0 + (0 + (5 + (0 + (mg_p4 gs)))) := rfl
              refine ⟨_, _, _, bc, rfl, hS952, Or.inl ⟨⟨hR955_, ?_, ?_⟩, rfl, ?_⟩⟩
              · exact (⟨⟨(show mg_k 23 from by decide), (show (0 : Int) ≤ (f 15).toInt from by omega), (show 0 ≤ q874.toInt from by omega), (show 1 ≤ (f 37).toInt from by omega), (show 0 ≤ (f 32).toInt from by omega), (show (f 32).toInt ≤ (f 5).toInt from by omega), (show (f 5).toInt ≤ 48 from by omega), (show (f 37).toInt ≤ 2 * ((f 5).toInt) + 2 from by omega), (show 0 ≤ (0 : Int) from by omega)⟩, ⟨⟨(show mg_k 34 from by decide), (show (1 : Int) ≤ (f 15).toInt + 1 from by omega), (show 0 ≤ q874.toInt from by omega), (show 1 ≤ (f 37).toInt + 0 from by omega), (show 0 ≤ (f 32).toInt + 0 from by omega), (show (f 32).toInt + 0 ≤ (f 5).toInt + 0 from by omega), (show (f 5).toInt + 0 ≤ 48 from by omega), (show (f 37).toInt + 0 ≤ 2 * ((f 5).toInt + 0) + 2 from by omega), (show 1 ≤ (1 : Int) from by omega)⟩, ⟨⟨(show mg_k 18 from by decide), (show (1 : Int) ≤ (f 15).toInt + 1 + 0 from by omega), (show 0 ≤ q874.toInt from by omega), (show 1 ≤ (f 37).toInt + 0 + 0 from by omega), (show 0 ≤ (f 32).toInt + 0 + 0 from by omega), (show (f 32).toInt + 0 + 0 ≤ (f 5).toInt + 0 + 0 from by omega), (show (f 5).toInt + 0 + 0 ≤ 48 from by omega), (show (f 37).toInt + 0 + 0 ≤ 2 * ((f 5).toInt + 0 + 0) + 1 from by omega), ⟨(show 0 ≤ (f 20).toInt from by omega), (show (f 20).toInt ≤ q874.toInt from by omega), (by intro i h1 h2; show 0 ≤ (g'950 23 i).toInt ∧ (g'950 23 i).toInt < 16384; rw [show g'950 23 = g'941 23 from h954_ 23 (by decide), show g'941 23 = g'932 23 from h945_ 23 (by decide), show g'932 23 = gx878 23 from h936_ 23 (by decide)]; exact hg884 i (by have h3 : (f 20).toInt ≤ (i : Int) := h1; omega) (by have h3 : (i : Int) < q874.toInt := h2; omega))⟩⟩, ⟨⟨(show mg_k 1 from by decide), (show (0 : Int) ≤ (f 15).toInt + 1 + 0 + -1 from by omega), (show 0 ≤ (f 20).toInt from by omega), (show 1 ≤ (f 37).toInt + 0 + 0 + 0 from by omega), (show 0 ≤ (f 32).toInt + 0 + 0 + 0 from by omega), (show (f 32).toInt + 0 + 0 + 0 ≤ (f 5).toInt + 0 + 0 + 0 from by omega), (show (f 5).toInt + 0 + 0 + 0 ≤ 48 from by omega), (show (f 37).toInt + 0 + 0 + 0 ≤ 2 * ((f 5).toInt + 0 + 0 + 0) + 1 from by omega), trivial⟩, mg_cast (mg_good_ext _ _ _ _ _ _ (fun i _ => by show g'950 34 i = g 34 i; rw [show g'950 34 = g'941 34 from h954_ 34 (by decide), show g'941 34 = g'932 34 from h945_ 34 (by decide), show g'932 34 = gx878 34 from h936_ 34 (by decide), show gx878 34 = g'20 34 from hg882 34 (by decide), show g'20 34 = g 34 from h24_ 34 (by decide)]) (fun i _ => by show g'950 38 i = g 38 i; rw [show g'950 38 = g'941 38 from h954_ 38 (by decide), show g'941 38 = g'932 38 from h945_ 38 (by decide), show g'932 38 = gx878 38 from h936_ 38 (by decide), show gx878 38 = g'20 38 from hg882 38 (by decide), show g'20 38 = g 38 from h24_ 38 (by decide)]) (fun i hi => by show g'950 23 i = g 23 i; rw [show g'950 23 = g'941 23 from h954_ 23 (by decide), show g'941 23 = g'932 23 from h945_ 23 (by decide), show g'932 23 = gx878 23 from h936_ 23 (by decide)]; rw [hg883 i (by have h3 : (i : Int) < (f 20).toInt := hi; omega)]; show g'20 23 i = g 23 i; rw [show g'20 23 = g 23 from h24_ 23 (by decide)]) hrest) (by show (f 15).toInt + 0 = (f 15).toInt + 1 + 0 + -1 + 0; omega) (by show (f 20).toInt = (f 20).toInt; omega) (by show (f 37).toInt + 0 = (f 37).toInt + 0 + 0 + 0 + 0; omega) (by show (f 32).toInt + 0 = (f 32).toInt + 0 + 0 + 0 + 0; omega) (by show (f 5).toInt + 0 = (f 5).toInt + 0 + 0 + 0 + 0; omega)⟩⟩⟩⟩ : mg_good (g'950 34) (g'950 38) (g'950 23) (((23 : Int), (0 : Int), (0 : Int), (0 : Int), []) :: (((34 : Int), (1 : Int), (0 : Int), (0 : Int), []) :: (((18 : Int), (f 4).toInt, (f 20).toInt, (0 : Int), []) :: (((1 : Int), (0 : Int), (0 : Int), (0 : Int), []) :: gs)))) ((f 15).toInt) (q874.toInt) ((f 37).toInt) ((f 32).toInt) ((f 5).toInt))
              · exact ⟨(by show 0 ≤ z925.toInt; omega), (by show z925.toInt ≤ (f 0).toInt; omega), (by show (f 0).toInt ≤ 512; omega), (by show 0 ≤ (f 24).toInt; omega), (by show (f 24).toInt + q874.toInt + mg_p1 (((23 : Int), (0 : Int), (0 : Int), (0 : Int), []) :: (((34 : Int), (1 : Int), (0 : Int), (0 : Int), []) :: (((18 : Int), (f 4).toInt, (f 20).toInt, (0 : Int), []) :: (((1 : Int), (0 : Int), (0 : Int), (0 : Int), []) :: gs)))) ≤ 4 * z925.toInt; omega), (by show q874.toInt ≤ z925.toInt; omega), (by show (f 15).toInt + mg_p2 (((23 : Int), (0 : Int), (0 : Int), (0 : Int), []) :: (((34 : Int), (1 : Int), (0 : Int), (0 : Int), []) :: (((18 : Int), (f 4).toInt, (f 20).toInt, (0 : Int), []) :: (((1 : Int), (0 : Int), (0 : Int), (0 : Int), []) :: gs)))) ≤ z925.toInt; omega), (by show mg_p3 (((23 : Int), (0 : Int), (0 : Int), (0 : Int), []) :: (((34 : Int), (1 : Int), (0 : Int), (0 : Int), []) :: (((18 : Int), (f 4).toInt, (f 20).toInt, (0 : Int), []) :: (((1 : Int), (0 : Int), (0 : Int), (0 : Int), []) :: gs)))) ≤ 20 * z925.toInt + 20; omega), (by show 0 ≤ (f 68).toInt; omega), (by show (f 68).toInt + 3 * q874.toInt + mg_p4 (((23 : Int), (0 : Int), (0 : Int), (0 : Int), []) :: (((34 : Int), (1 : Int), (0 : Int), (0 : Int), []) :: (((18 : Int), (f 4).toInt, (f 20).toInt, (0 : Int), []) :: (((1 : Int), (0 : Int), (0 : Int), (0 : Int), []) :: gs)))) ≤ 60 * z925.toInt + 60; omega), (by show 0 ≤ (f 62).toInt; omega), (by show (f 62).toInt + 64 * mj_n (g'950 16) (f 15).toNatClampNeg 3 ≤ 64 * z925.toInt; rw [show g'950 16 = g'941 16 from h954_ 16 (by decide), show g'941 16 = g'932 16 from h945_ 16 (by decide), show g'932 16 = gx878 16 from h936_ 16 (by decide), show gx878 16 = g'20 16 from hg882 16 (by decide), show g'20 16 = g 16 from h24_ 16 (by decide)]; omega), (by show 0 ≤ (f 44).toInt; omega), (by show (f 44).toInt ≤ z925.toInt; omega), (by show 0 ≤ (f 48).toInt; omega), (by show (f 48).toInt ≤ z925.toInt; omega), (by show 1 ≤ (f 53).toInt; omega), (by show (f 53).toInt ≤ z925.toInt + 1; omega), (by show 0 ≤ (f 19).toInt; omega), (by show (f 19).toInt ≤ 600; omega)⟩
              · show 100 * ((f 0).toInt - z925.toInt) + mg_p3 (((23 : Int), (0 : Int), (0 : Int), (0 : Int), []) :: (((34 : Int), (1 : Int), (0 : Int), (0 : Int), []) :: (((18 : Int), (f 4).toInt, (f 20).toInt, (0 : Int), []) :: (((1 : Int), (0 : Int), (0 : Int), (0 : Int), []) :: gs)))) < 100 * ((f 0).toInt - (f 4).toInt) + (1 + mg_p3 gs); omega
          · intro S962 x3966 x4967 x5968 x6969 x7970 a956 b957 z958 q959 u_960 v_961 gx965 hS963 hR964 hg971 h972 h973 h974 h975
            replace hS963 : MS S0 S962 (upd (upd (upd (upd (upd (upd (upd f 4 z958) 6 u_960) 7 v_961) 8 a956) 9 b957) 10 0) 20 q959) gx965 := hS963
            have h972_ : z857.toInt ≤ z958.toInt := h972
            have h973_ : z958.toInt ≤ (f 0).toInt := h973
            have h974_ : (f 20).toInt ≤ q959.toInt := h974
            have h975_ : q959.toInt + z857.toInt ≤ (f 20).toInt + z958.toInt := h975
            have hR964_ : RJ (upd (upd (upd (upd (upd (upd (upd f 4 z958) 6 u_960) 7 v_961) 8 a956) 9 b957) 10 0) 20 q959) gx965 [] bc [] 0 [] := hR964
            show am_E _ _ _ _ [some (.ref 39), some (.int (f 4)), some (.int (f 20)), x3966, x4967, x5968, x6969, x7970] [] _ _
            refine am_e35 hi_238_131 ?_
            show am_E _ _ _ _ [some (.ref 39), some (.int r2), some (.int (f 4))] [] _ _
            refine am_e18 hi_228_394 ?_
            refine am_e35 hi_228_422 ?_
            show am_E _ _ _ _ [some (.ref 39), some (.int r2)] [] _ _
            refine am_e35 hi_225_33 ?_
            show am_E _ _ _ _ [some (.ref 39), some (.int 1), some (.int on), some (.int tw), some (.int th)] [] _ _
            refine am_e18 hi_180_116 ?_
            refine am_e35 hi_180_371 ?_
            have hRc := rj_clear0 hR964_
            refine ⟨_, _, [], _, rfl, hS963, Or.inr ⟨hRc, rfl, (by show 0 ≤ z958.toInt; omega), (by show z958.toInt ≤ (f 0).toInt; omega), (by show 0 ≤ (f 32).toInt; omega), (by show (f 32).toInt ≤ 63; omega), (by show 1 ≤ (f 53).toInt; omega), (by show (f 53).toInt ≤ 600; omega), (by show 0 ≤ (f 68).toInt; omega), (by show (f 68).toInt ≤ 60000; omega), (by show 0 ≤ (f 48).toInt; omega), (by show (f 48).toInt ≤ 8000; omega), (by show 0 ≤ (f 37).toInt; omega), (by show (f 37).toInt ≤ 128; omega), (by show 0 ≤ (f 62).toInt; omega), (by show (f 62).toInt ≤ 65000; omega), (by show 0 ≤ (f 19).toInt; omega), (by show (f 19).toInt ≤ 600; omega)⟩⟩
          · intro S982 x3986 x4987 x5988 x6989 x7990 a976 b977 z978 q979 u_980 v_981 gx985 hS983 hR984 hg991 h992 h993 h994 h995
            replace hS983 : MS S0 S982 (upd (upd (upd (upd (upd (upd (upd f 4 z978) 6 u_980) 7 v_981) 8 a976) 9 b977) 10 0) 20 q979) gx985 := hS983
            have h992_ : z857.toInt ≤ z978.toInt := h992
            have h993_ : z978.toInt ≤ (f 0).toInt := h993
            have h994_ : (f 20).toInt ≤ q979.toInt := h994
            have h995_ : q979.toInt + z857.toInt ≤ (f 20).toInt + z978.toInt := h995
            have hR984_ : RJ (upd (upd (upd (upd (upd (upd (upd f 4 z978) 6 u_980) 7 v_981) 8 a976) 9 b977) 10 0) 20 q979) gx985 [] bc [] 0 [] := hR984
            show am_E _ _ _ _ [some (.ref 39), some (.int (f 4)), some (.int (f 20)), x3986, x4987, x5988, x6989, x7990] [] _ _
            refine am_e35 hi_238_177 ?_
            show am_E _ _ _ _ [some (.ref 39), some (.int r2), some (.int (f 4))] [] _ _
            refine am_e18 hi_228_394 ?_
            refine am_e35 hi_228_422 ?_
            show am_E _ _ _ _ [some (.ref 39), some (.int r2)] [] _ _
            refine am_e35 hi_225_33 ?_
            show am_E _ _ _ _ [some (.ref 39), some (.int 1), some (.int on), some (.int tw), some (.int th)] [] _ _
            refine am_e18 hi_180_116 ?_
            refine am_e35 hi_180_371 ?_
            have hRc := rj_clear0 hR984_
            refine ⟨_, _, [], _, rfl, hS983, Or.inr ⟨hRc, rfl, (by show 0 ≤ z978.toInt; omega), (by show z978.toInt ≤ (f 0).toInt; omega), (by show 0 ≤ (f 32).toInt; omega), (by show (f 32).toInt ≤ 63; omega), (by show 1 ≤ (f 53).toInt; omega), (by show (f 53).toInt ≤ 600; omega), (by show 0 ≤ (f 68).toInt; omega), (by show (f 68).toInt ≤ 60000; omega), (by show 0 ≤ (f 48).toInt; omega), (by show (f 48).toInt ≤ 8000; omega), (by show 0 ≤ (f 37).toInt; omega), (by show (f 37).toInt ≤ 128; omega), (by show 0 ≤ (f 62).toInt; omega), (by show (f 62).toInt ≤ 65000; omega), (by show 0 ≤ (f 19).toInt; omega), (by show (f 19).toInt ≤ 600; omega)⟩⟩
        · refine am_e13f hi_238_6 (am_cF (m := r863.toInt) (n := (18 : Int)) rfl (by decide) c868) ?_
          refine am_e2 (v := 39) hi_238_9 rfl ?_
          refine mm_20 (v := .int z857) hS865 hi_238_10 rfl ?_
          refine am_e3 (ls' := [some (.ref 39), some (.int (f 4)), some (.int z857), none, none, none, none, none]) hi_238_13 (Nat.le_of_ble_eq_true rfl) rfl ?_
          refine am_e2 (v := 39) hi_238_14 rfl ?_
          refine am_e0 hi_238_15 ?_
          refine am_e32n (as := [.ref 39, .int 18]) (la := [some (.ref 39), some (.int 18)]) (rest := []) hi_238_17 (am_hd0 (M := 238) (by decide) 17) (Nat.le_of_ble_eq_true rfl) (Nat.le_of_ble_eq_true rfl) (show 2 ≤ am_P0.2.2.1 193 from by decide +kernel) rfl (am_recv_ok hS865.fs) rfl rfl (ct_enter (d := (d + 2)) hS865   (by show (0 : Int) ≤ z857.toInt; omega) (by show (f 0).toInt ≤ (16384 : Int); omega) (by show (0 : Int) ≤ (18 : Int); omega) (by show (0 : Int) ≤ (f 5).toInt; omega) (by show (f 5).toInt ≤ (48 : Int); omega)) ?_
          rintro v996 S997 (⟨z998, y999, hv1000, hS1001, h1002, h1003, h1004, h1005⟩ | ⟨a1007, b1008, hv1009, hS1010⟩)
          · subst hv1000
            have h1002_ : z998.toInt = z857.toInt + 1 := h1002
            have h1003_ : z857.toInt < (f 0).toInt := h1003
            have h1004_ : y999.toInt = (f 5).toInt + 1 := h1004
            have h1005_ : y999.toInt ≤ (48 : Int) := h1005
            replace hS1001 : MS S0 S997 (upd (upd (upd f 4 z998) 5 y999) 10 z19) g'20 := hS1001
            have hR1012 : RJ (upd (upd (upd f 4 z998) 5 y999) 10 z19) g'20 (((1 : Int), (0 : Int), (0 : Int), (0 : Int), []) :: gs) bc [] 0 [] := RJ.at hR860 (by show z857.toInt ≤ z998.toInt; omega)
            show am_E _ _ _ _ [some (.ref 39), some (.int (f 4)), some (.int z857), none, none, none, none, none] [.int 1] _ _
            refine am_e12t hi_238_20 (by decide) ?_
            refine am_e2 (v := 39) hi_238_24 rfl ?_
            refine mm_20 (v := .int z998) hS1001 hi_238_25 rfl ?_
            refine am_e3 (ls' := [some (.ref 39), some (.int (f 4)), some (.int z857), some (.int z998), none, none, none, none]) hi_238_28 (Nat.le_of_ble_eq_true rfl) rfl ?_
            refine am_e2 (v := 39) hi_238_29 rfl ?_
            refine am_e0 hi_238_30 ?_
            refine am_e32n (as := [.ref 39, .int 1]) (la := [some (.ref 39), some (.int 1)]) (rest := []) hi_238_31 (am_hd0 (M := 238) (by decide) 31) (Nat.le_of_ble_eq_true rfl) (Nat.le_of_ble_eq_true rfl) (show 2 ≤ am_P0.2.2.1 200 from by decide +kernel) rfl (am_recv_ok hS1001.fs) rfl rfl (ct_take (d := (d + 2)) hS1001   (by show (0 : Int) ≤ z998.toInt; omega) (by show (f 0).toInt ≤ (16384 : Int); omega) (by show (0 : Int) ≤ (1 : Int); omega)) ?_
            rintro v1013 S1014 (⟨z1015, hv1016, hS1017, h1018, h1019⟩ | ⟨a1021, b1022, hv1023, hS1024⟩)
            · subst hv1016
              have h1018_ : z1015.toInt = z998.toInt + 1 := h1018
              have h1019_ : z998.toInt < (f 0).toInt := h1019
              replace hS1017 : MS S0 S1014 (upd (upd (upd f 4 z1015) 5 y999) 10 z19) g'20 := hS1017
              have hR1026 : RJ (upd (upd (upd f 4 z1015) 5 y999) 10 z19) g'20 (((1 : Int), (0 : Int), (0 : Int), (0 : Int), []) :: gs) bc [] 0 [] := RJ.at hR1012 (by show z998.toInt ≤ z1015.toInt; omega)
              show am_E _ _ _ _ [some (.ref 39), some (.int (f 4)), some (.int z857), some (.int z998), none, none, none, none] [.int 1] _ _
              refine am_e12t hi_238_34 (by decide) ?_
              refine am_e2 (v := 39) hi_238_38 rfl ?_
              refine am_e0 hi_238_39 ?_
              refine am_e0 hi_238_40 ?_
              refine am_e0 hi_238_41 ?_
              refine am_e0 hi_238_42 ?_
              refine am_e32n (as := [.ref 39, .int 1, .int 0, .int 0, .int 0]) (la := [some (.ref 39), some (.int 1), some (.int 0), some (.int 0), some (.int 0)]) (rest := []) hi_238_43 (am_hd0 (M := 238) (by decide) 43) (Nat.le_of_ble_eq_true rfl) (Nat.le_of_ble_eq_true rfl) (show 5 ≤ am_P0.2.2.1 189 from by decide +kernel) rfl (am_recv_ok hS1017.fs) rfl rfl (ct_put (d := (d + 4)) hS1017 hR1026  (by show (0 : Int) ≤ (f 32).toInt; omega) (by show (f 32).toInt ≤ (63 : Int); omega) (by show (f 53).toInt ≤ (4096 : Int); omega) (by show (0 : Int) ≤ (f 68).toInt; omega) (by show (f 68).toInt ≤ (65534 : Int); omega)) ?_
              rintro v1027 S1028 (⟨z1029, r1030, g'1031, hv1032, hS1033, hR1037, h1034, h1035, h1036⟩)
              subst hv1032
              have h1034_ : z1029.toInt = (f 68).toInt + 1 := h1034
              have h1035_ : r1030.toInt = (f 68).toInt := h1035
              have h1036_ : ∀ j, j ∉ [60, 69, 70, 71, 72, 73] → g'1031 j = g'20 j := h1036
              have hR1037_ : RJ (upd (upd (upd (upd f 4 z1015) 5 y999) 10 z19) 68 z1029) g'1031 (((1 : Int), (0 : Int), (0 : Int), (0 : Int), []) :: gs) bc [] 0 ((f 68).toNatClampNeg :: []) := hR1037
              show am_E _ _ _ _ [some (.ref 39), some (.int (f 4)), some (.int z857), some (.int z998), none, none, none, none] [.int r1030] _ _
              refine am_e6i hi_238_46 ?_
              refine am_e2 (v := 39) hi_238_47 rfl ?_
              refine am_e32n (as := [.ref 39]) (la := [some (.ref 39)]) (rest := []) hi_238_48 (am_hd0 (M := 238) (by decide) 48) (Nat.le_of_ble_eq_true rfl) (Nat.le_of_ble_eq_true rfl) (show 1 ≤ am_P0.2.2.1 197 from by decide +kernel) rfl (am_recv_ok hS1033.fs) rfl rfl (ct_count (d := (d + 4)) hS1033   (by show (0 : Int) ≤ (f 32).toInt; omega) (by show (f 32).toInt ≤ (63 : Int); omega)) ?_
              rintro v1038 S1039 (⟨r1040, hv1041, hS1042⟩)
              subst hv1041
              show am_E _ _ _ _ [some (.ref 39), some (.int (f 4)), some (.int z857), some (.int z998), none, none, none, none] [.int r1040] _ _
              refine am_e3 (ls' := [some (.ref 39), some (.int (f 4)), some (.int z857), some (.int z998), some (.int r1040), none, none, none]) hi_238_51 (Nat.le_of_ble_eq_true rfl) rfl ?_
              refine am_e2 (v := 39) hi_238_53 rfl ?_
              refine am_e2 (v := 39) hi_238_54 rfl ?_
              refine mm_20 (v := .ref 41) hS1042 hi_238_55 rfl ?_
              refine am_e1 (v := z998) hi_238_58 rfl ?_
              refine mm_25 hS1042 ma_2 hi_238_59 (by decide) (by omega) (by omega) ?_
              show am_E _ _ _ _ _ (.int (g'1031 2 z998.toNatClampNeg) :: _) _ _
              rw [show g'1031 2 = g'20 2 from h1036_ 2 (by decide), show g'20 2 = g 2 from h24_ 2 (by decide)]
              show am_E _ _ _ _ [some (.ref 39), some (.int (f 4)), some (.int z857), some (.int z998), some (.int r1040), none, none, none] [.int (g 2 z998.toNatClampNeg), .ref 39] _ _
              refine am_e0 hi_238_60 ?_
              refine am_e0 hi_238_61 ?_
              refine am_e1 (v := z998) hi_238_62 rfl ?_
              refine am_e32n (as := [.ref 39, .int (g 2 z998.toNatClampNeg), .int 0, .int 0, .int z998]) (la := [some (.ref 39), some (.int (g 2 z998.toNatClampNeg)), some (.int 0), some (.int 0), some (.int z998), none]) (rest := []) hi_238_63 (am_hd0 (M := 238) (by decide) 63) (Nat.le_of_ble_eq_true rfl) (Nat.le_of_ble_eq_true rfl) (show 5 ≤ am_P0.2.2.1 196 from by decide +kernel) rfl (am_recv_ok hS1042.fs) rfl rfl (ct_declare (d := (d + 3)) hS1042 hR1037_ (by decide) (by decide)  (by show (0 : Int) ≤ (f 32).toInt; omega) (by show (f 32).toInt ≤ (63 : Int); omega) (by show (f 53).toInt ≤ (4096 : Int); omega) (by show (0 : Int) ≤ (f 24).toInt; omega) (by show (f 24).toInt ≤ (16383 : Int); omega)) ?_
              rintro v1044 S1045 (⟨a1046, b1047, z1048, y1049, g'1050, hv1051, hS1052, hR1055, h1053, h1054⟩)
              subst hv1051
              have h1053_ : z1048.toInt = (f 24).toInt + 1 := h1053
              have h1054_ : ∀ j, j ∉ [25, 26, 27, 28, 29, 30, 58] → g'1050 j = g'1031 j := h1054
              replace hS1052 : MS S0 S1045 (upd (upd (upd (upd (upd (upd (upd (upd f 4 z1015) 5 y999) 8 a1046) 9 b1047) 10 z19) 24 z1048) 31 y1049) 68 z1029) g'1050 := hS1052
              have hR1055_ : RJ (upd (upd (upd (upd (upd (upd (upd (upd f 4 z1015) 5 y999) 8 a1046) 9 b1047) 10 z19) 24 z1048) 31 y1049) 68 z1029) g'1050 (((1 : Int), (0 : Int), (0 : Int), (0 : Int), []) :: gs) bc [] 0 ((f 68).toNatClampNeg :: []) := hR1055
              show am_E _ _ _ _ [some (.ref 39), some (.int (f 4)), some (.int z857), some (.int z998), some (.int r1040), none, none, none] [] _ _
              refine am_e2 (v := 39) hi_238_66 rfl ?_
              refine am_e0 hi_238_67 ?_
              refine am_e1 (v := r1040) hi_238_69 rfl ?_
              refine am_e0 hi_238_71 ?_
              refine am_e1 (v := f 4) hi_238_72 rfl ?_
              refine am_e32n (as := [.ref 39, .int 27, .int r1040, .int 1, .int (f 4)]) (la := [some (.ref 39), some (.int 27), some (.int r1040), some (.int 1), some (.int (f 4))]) (rest := []) hi_238_73 (am_hd0 (M := 238) (by decide) 73) (Nat.le_of_ble_eq_true rfl) (Nat.le_of_ble_eq_true rfl) (show 5 ≤ am_P0.2.2.1 189 from by decide +kernel) rfl (am_recv_ok hS1052.fs) rfl rfl (ct_put (d := (d + 4)) hS1052 hR1055_  (by show (0 : Int) ≤ (f 32).toInt; omega) (by show (f 32).toInt ≤ (63 : Int); omega) (by show (f 53).toInt ≤ (4096 : Int); omega) (by show (0 : Int) ≤ z1029.toInt; omega) (by show z1029.toInt ≤ (65534 : Int); omega)) ?_
              rintro v1056 S1057 (⟨z1058, r1059, g'1060, hv1061, hS1062, hR1066, h1063, h1064, h1065⟩)
              subst hv1061
              have h1063_ : z1058.toInt = z1029.toInt + 1 := h1063
              have h1064_ : r1059.toInt = z1029.toInt := h1064
              have h1065_ : ∀ j, j ∉ [60, 69, 70, 71, 72, 73] → g'1060 j = g'1050 j := h1065
              replace hS1062 : MS S0 S1057 (upd (upd (upd (upd (upd (upd (upd (upd f 4 z1015) 5 y999) 8 a1046) 9 b1047) 10 z19) 24 z1048) 31 y1049) 68 z1058) g'1060 := hS1062
              have hR1066_ : RJ (upd (upd (upd (upd (upd (upd (upd (upd f 4 z1015) 5 y999) 8 a1046) 9 b1047) 10 z19) 24 z1048) 31 y1049) 68 z1058) g'1060 (((1 : Int), (0 : Int), (0 : Int), (0 : Int), []) :: gs) bc [] 0 (z1029.toNatClampNeg :: ((f 68).toNatClampNeg :: [])) := hR1066
              show am_E _ _ _ _ [some (.ref 39), some (.int (f 4)), some (.int z857), some (.int z998), some (.int r1040), none, none, none] [.int r1059] _ _
              refine am_e6i hi_238_76 ?_
              refine am_e2 (v := 39) hi_238_77 rfl ?_
              refine am_e0 hi_238_78 ?_
              refine am_e1 (v := r1040) hi_238_80 rfl ?_
              refine am_e1 (v := z998) hi_238_82 rfl ?_
              refine am_e0 hi_238_83 ?_
              refine am_e32n (as := [.ref 39, .int 17, .int r1040, .int z998, .int 0]) (la := [some (.ref 39), some (.int 17), some (.int r1040), some (.int z998), some (.int 0)]) (rest := []) hi_238_84 (am_hd0 (M := 238) (by decide) 84) (Nat.le_of_ble_eq_true rfl) (Nat.le_of_ble_eq_true rfl) (show 5 ≤ am_P0.2.2.1 179 from by decide +kernel) rfl (am_recv_ok hS1062.fs) rfl rfl (ct_pile (d := (d + 4)) hS1062 hR1066_ (mj_e_plain (by decide)) (by show (0 : Int) ≤ z19.toInt; omega) (by show z19.toInt ≤ (65535 : Int); omega)) ?_
              rintro v1067 S1068 (⟨z1069, g'1070, hv1071, hS1072, hR1075, h1073, h1074⟩)
              subst hv1071
              have h1073_ : z1069.toInt = z19.toInt + 1 := h1073
              have h1074_ : ∀ j, j ∉ [11, 12, 13, 14] → g'1070 j = g'1060 j := h1074
              replace hS1072 : MS S0 S1068 (upd (upd (upd (upd (upd (upd (upd (upd f 4 z1015) 5 y999) 8 a1046) 9 b1047) 10 z1069) 24 z1048) 31 y1049) 68 z1058) g'1070 := hS1072
              have hR1075_ : RJ (upd (upd (upd (upd (upd (upd (upd (upd f 4 z1015) 5 y999) 8 a1046) 9 b1047) 10 z1069) 24 z1048) 31 y1049) 68 z1058) g'1070 (((17 : Int), r1040.toInt, z998.toInt, (0 : Int), []) :: (((1 : Int), (0 : Int), (0 : Int), (0 : Int), []) :: gs)) bc [] 0 (z1029.toNatClampNeg :: ((f 68).toNatClampNeg :: [])) := hR1075
              show am_E _ _ _ _ [some (.ref 39), some (.int (f 4)), some (.int z857), some (.int z998), some (.int r1040), none, none, none] [] _ _
              refine am_e2 (v := 39) hi_238_87 rfl ?_
              refine am_e0 hi_238_88 ?_
              refine am_e1 (v := z857) hi_238_90 rfl ?_
              refine am_e0 hi_238_91 ?_
              refine am_e0 hi_238_92 ?_
              refine am_e32n (as := [.ref 39, .int 41, .int z857, .int 0, .int 0]) (la := [some (.ref 39), some (.int 41), some (.int z857), some (.int 0), some (.int 0)]) (rest := []) hi_238_93 (am_hd0 (M := 238) (by decide) 93) (Nat.le_of_ble_eq_true rfl) (Nat.le_of_ble_eq_true rfl) (show 5 ≤ am_P0.2.2.1 179 from by decide +kernel) rfl (am_recv_ok hS1072.fs) rfl rfl (ct_pile (d := (d + 4)) hS1072 hR1075_ (mj_e_plain (by decide)) (by show (0 : Int) ≤ z1069.toInt; omega) (by show z1069.toInt ≤ (65535 : Int); omega)) ?_
              rintro v1076 S1077 (⟨z1078, g'1079, hv1080, hS1081, hR1084, h1082, h1083⟩)
              subst hv1080
              have h1082_ : z1078.toInt = z1069.toInt + 1 := h1082
              have h1083_ : ∀ j, j ∉ [11, 12, 13, 14] → g'1079 j = g'1070 j := h1083
              replace hS1081 : MS S0 S1077 (upd (upd (upd (upd (upd (upd (upd (upd f 4 z1015) 5 y999) 8 a1046) 9 b1047) 10 z1078) 24 z1048) 31 y1049) 68 z1058) g'1079 := hS1081
              have hR1084_ : RJ (upd (upd (upd (upd (upd (upd (upd (upd f 4 z1015) 5 y999) 8 a1046) 9 b1047) 10 z1078) 24 z1048) 31 y1049) 68 z1058) g'1079 (((41 : Int), z857.toInt, (0 : Int), (0 : Int), []) :: (((17 : Int), r1040.toInt, z998.toInt, (0 : Int), []) :: (((1 : Int), (0 : Int), (0 : Int), (0 : Int), []) :: gs))) bc [] 0 (z1029.toNatClampNeg :: ((f 68).toNatClampNeg :: [])) := hR1084
              show am_E _ _ _ _ [some (.ref 39), some (.int (f 4)), some (.int z857), some (.int z998), some (.int r1040), none, none, none] [] _ _
              refine am_e2 (v := 39) hi_238_96 rfl ?_
              refine am_e0 hi_238_97 ?_
              refine am_e1 (v := z857) hi_238_98 rfl ?_
              refine am_e32n (as := [.ref 39, .int 0, .int z857]) (la := [some (.ref 39), some (.int 0), some (.int z857), none, none]) (rest := []) hi_238_99 (am_hd0 (M := 238) (by decide) 99) (Nat.le_of_ble_eq_true rfl) (Nat.le_of_ble_eq_true rfl) (show 3 ≤ am_P0.2.2.1 195 from by decide +kernel) rfl (am_recv_ok hS1081.fs) rfl rfl (ct_body (d := d) hS1081 hR1084_ (by decide)  (by show (0 : Int) ≤ (f 32).toInt; omega) (by show (f 32).toInt ≤ (62 : Int); omega) (by show (1 : Int) ≤ (f 53).toInt; omega) (by show (f 53).toInt ≤ (4095 : Int); omega) (by show (0 : Int) ≤ z1015.toInt; omega) (by show (f 0).toInt ≤ (16384 : Int); omega) (by show (0 : Int) ≤ y999.toInt; omega) (by show y999.toInt ≤ (48 : Int); omega) (by show z1015.toInt ≤ (f 0).toInt; omega) (by show (f 0).toInt ≤ (512 : Int); omega) (by show (0 : Int) ≤ z1048.toInt; omega) (by show z1048.toInt ≤ (4000 : Int); omega) (by show (0 : Int) ≤ (f 44).toInt; omega) (by show (f 44).toInt ≤ z1015.toInt; omega) (by show (0 : Int) ≤ (f 48).toInt; omega) (by show (f 48).toInt ≤ z1015.toInt; omega) (by show (0 : Int) ≤ (f 37).toInt; omega) (by show (f 37).toInt ≤ (126 : Int); omega) (by show (0 : Int) ≤ z1078.toInt; omega) (by show z1078.toInt ≤ (65533 : Int); omega) (by show (0 : Int) ≤ z1058.toInt; omega)) ?_
              rintro v1085 S1086 (⟨z1087, y1088, a1089, b1090, t1091, l1092, i_1093, dd1094, bz1095, mm1096, g'1097, hv1098, hS1099, hR1112, h1100, h1101, h1102, h1103, h1104, h1105, h1106, h1107, h1108, h1109, h1110, h1111⟩ | ⟨a1113, b1114, hv1115, hS1116, hR1117⟩ | ⟨z1118, y1119, u1120, v_1121, a1122, b1123, l1124, i_1125, dd1126, bz1127, mm1128, g'1129, hv1130, hS1131, hR1138, h1132, h1133, h1134, h1135, h1136, h1137⟩)
              · subst hv1098
                have h1100_ : z1015.toInt + 2 ≤ z1087.toInt := h1100
                have h1101_ : z1087.toInt ≤ (f 0).toInt := h1101
                have h1102_ : y1088.toInt = y999.toInt := h1102
                have h1103_ : z1048.toInt ≤ l1092.toInt := h1103
                have h1104_ : l1092.toInt + z1015.toInt ≤ z1048.toInt + z1087.toInt := h1104
                have h1105_ : t1091.toInt = z1078.toInt + 2 := h1105
                have h1106_ : dd1094.toInt = (f 32).toInt + 1 := h1106
                have h1107_ : bz1095.toInt = (f 37).toInt + 1 := h1107
                have h1108_ : mm1096.toInt = (f 53).toInt + 1 := h1108
                have h1109_ : ∀ j, j ∉ [11, 12, 13, 14, 25, 26, 27, 28, 29, 30, 33, 34, 35, 36, 38, 39, 40, 41, 42, 43, 54, 55, 56, 58, 59, 60, 67] → g'1097 j = g'1079 j := h1109
                have h1110_ : g'1097 34 = upd (g'1079 34) dd1094.toNatClampNeg z1048 := h1110
                have h1111_ : g'1097 38 = upd (g'1079 38) (f 37).toNatClampNeg z1048 := h1111
                replace hS1099 : MS S0 S1086 (upd (upd (upd (upd (upd (upd (upd (upd (upd (upd (upd f 4 z1087) 5 y1088) 8 a1089) 9 b1090) 10 t1091) 24 l1092) 31 i_1093) 32 dd1094) 37 bz1095) 53 mm1096) 68 z1058) g'1097 := hS1099
                have hR1112_ : RJ (upd (upd (upd (upd (upd (upd (upd (upd (upd (upd (upd f 4 z1087) 5 y1088) 8 a1089) 9 b1090) 10 t1091) 24 l1092) 31 i_1093) 32 dd1094) 37 bz1095) 53 mm1096) 68 z1058) g'1097 (((1 : Int), (0 : Int), (0 : Int), (0 : Int), []) :: (((40 : Int), z1015.toInt, (0 : Int), (0 : Int), []) :: (((41 : Int), z857.toInt, (0 : Int), (0 : Int), []) :: (((17 : Int), r1040.toInt, z998.toInt, (0 : Int), []) :: (((1 : Int), (0 : Int), (0 : Int), (0 : Int), []) :: gs))))) ([] :: bc) [] 0 (z1029.toNatClampNeg :: ((f 68).toNatClampNeg :: [])) := hR1112
                show am_E _ _ _ _ [some (.ref 39), some (.int (f 4)), some (.int z857), some (.int z998), some (.int r1040), none, none, none] [] _ _
                refine am_e35 hi_238_102 ?_
                show am_E _ _ _ _ [some (.ref 39), some (.int r2), some (.int (f 4))] [] _ _
                refine am_e18 hi_228_394 ?_
                refine am_e35 hi_228_422 ?_
                show am_E _ _ _ _ [some (.ref 39), some (.int r2)] [] _ _
                refine am_e35 hi_225_33 ?_
                show am_E _ _ _ _ [some (.ref 39), some (.int 1), some (.int on), some (.int tw), some (.int th)] [] _ _
                refine am_e18 hi_180_116 ?_
                refine am_e35 hi_180_371 ?_
                have q1 : mg_p1 (((1 : Int), (0 : Int), (0 : Int), (0 : Int), []) :: (((40 : Int), z1015.toInt, (0 : Int), (0 : Int), []) :: (((41 : Int), z857.toInt, (0 : Int), (0 : Int), []) :: (((17 : Int), r1040.toInt, z998.toInt, (0 : Int), []) :: (((1 : Int), (0 : Int), (0 : Int), (0 : Int), []) :: gs))))) = 0 + (0 + (0 + (0 + (0 + (mg_p1 gs))))) := rfl
                have q2 : mg_p2 (((1 : Int), (0 : Int), (0 : Int), (0 : Int), []) :: (((40 : Int), z1015.toInt, (0 : Int), (0 : Int), []) :: (((41 : Int), z857.toInt, (0 : Int), (0 : Int), []) :: (((17 : Int), r1040.toInt, z998.toInt, (0 : Int), []) :: (((1 : Int), (0 : Int), (0 : Int), (0 : Int), []) :: gs))))) = 0 + (0 + (1 + (0 + (0 + (mg_p2 gs))))) := rfl
                have q3 : mg_p3 (((1 : Int), (0 : Int), (0 : Int), (0 : Int), []) :: (((40 : Int), z1015.toInt, (0 : Int), (0 : Int), []) :: (((41 : Int), z857.toInt, (0 : Int), (0 : Int), []) :: (((17 : Int), r1040.toInt, z998.toInt, (0 : Int), []) :: (((1 : Int), (0 : Int), (0 : Int), (0 : Int), []) :: gs))))) = 1 + (1 + (1 + (1 + (1 + (mg_p3 gs))))) := rfl
                have q4 : mg_p4 (((1 : Int), (0 : Int), (0 : Int), (0 : Int), []) :: (((40 : Int), z1015.toInt, (0 : Int), (0 : Int), []) :: (((41 : Int), z857.toInt, (0 : Int), (0 : Int), []) :: (((17 : Int), r1040.toInt, z998.toInt, (0 : Int), []) :: (((1 : Int), (0 : Int), (0 : Int), (0 : Int), []) :: gs))))) = 0 + (0 + (2 + (2 + (0 + (mg_p4 gs))))) := rfl
                refine ⟨_, _, _, ([] :: bc), rfl, hS1099, Or.inl ⟨⟨(RJ.fewer (pj' := []) hR1112_ (fun _ h => nomatch h)), ?_, ?_⟩, rfl, ?_⟩⟩
                · exact (⟨⟨(show mg_k 1 from by decide), (show (0 : Int) ≤ (f 15).toInt from by omega), (show 0 ≤ (f 20).toInt from by omega), (show 1 ≤ bz1095.toInt from by omega), (show 0 ≤ dd1094.toInt from by omega), (show dd1094.toInt ≤ y1088.toInt from by omega), (show y1088.toInt ≤ 48 from by omega), (show bz1095.toInt ≤ 2 * (y1088.toInt) + 1 from by omega), trivial⟩, ⟨⟨(show mg_k 40 from by decide), (show (0 : Int) ≤ (f 15).toInt + 0 from by omega), (show 0 ≤ (f 20).toInt from by omega), (show 1 ≤ bz1095.toInt + 0 from by omega), (show 0 ≤ dd1094.toInt + 0 from by omega), (show dd1094.toInt + 0 ≤ y1088.toInt + 0 from by omega), (show y1088.toInt + 0 ≤ 48 from by omega), (show bz1095.toInt + 0 ≤ 2 * (y1088.toInt + 0) + 1 from by omega), trivial⟩, ⟨⟨(show mg_k 41 from by decide), (show (0 : Int) ≤ (f 15).toInt + 0 + 0 from by omega), (show 0 ≤ (f 20).toInt from by omega), (show 1 ≤ bz1095.toInt + 0 + -1 from by omega), (show 0 ≤ dd1094.toInt + 0 + -1 from by omega), (show dd1094.toInt + 0 + -1 ≤ y1088.toInt + 0 + -1 from by omega), (show y1088.toInt + 0 + -1 ≤ 48 from by omega), (show bz1095.toInt + 0 + -1 ≤ 2 * (y1088.toInt + 0 + -1) + 2 from by omega), trivial⟩, ⟨⟨(show mg_k 17 from by decide), (show (1 : Int) ≤ (f 15).toInt + 0 + 0 + 1 from by omega), (show 0 ≤ (f 20).toInt from by omega), (show 1 ≤ bz1095.toInt + 0 + -1 + 0 from by omega), (show 0 ≤ dd1094.toInt + 0 + -1 + 0 from by omega), (show dd1094.toInt + 0 + -1 + 0 ≤ y1088.toInt + 0 + -1 + 0 from by omega), (show y1088.toInt + 0 + -1 + 0 ≤ 48 from by omega), (show bz1095.toInt + 0 + -1 + 0 ≤ 2 * (y1088.toInt + 0 + -1 + 0) + 1 from by omega), trivial⟩, ⟨⟨(show mg_k 1 from by decide), (show (0 : Int) ≤ (f 15).toInt + 0 + 0 + 1 + -1 from by omega), (show 0 ≤ (f 20).toInt from by omega), (show 1 ≤ bz1095.toInt + 0 + -1 + 0 + 0 from by omega), (show 0 ≤ dd1094.toInt + 0 + -1 + 0 + 0 from by omega), (show dd1094.toInt + 0 + -1 + 0 + 0 ≤ y1088.toInt + 0 + -1 + 0 + 0 from by omega), (show y1088.toInt + 0 + -1 + 0 + 0 ≤ 48 from by omega), (show bz1095.toInt + 0 + -1 + 0 + 0 ≤ 2 * (y1088.toInt + 0 + -1 + 0 + 0) + 1 from by omega), trivial⟩, mg_cast (mg_good_ext _ _ _ _ _ _ (fun i hi => by show g'1097 34 i = g 34 i; rw [h1110_, show g'1079 34 = g'1070 34 from h1083_ 34 (by decide), show g'1070 34 = g'1060 34 from h1074_ 34 (by decide), show g'1060 34 = g'1050 34 from h1065_ 34 (by decide), show g'1050 34 = g'1031 34 from h1054_ 34 (by decide), show g'1031 34 = g'20 34 from h1036_ 34 (by decide), show g'20 34 = g 34 from h24_ 34 (by decide)]; exact upd_ne (by rw [cl_toNat]; omega)) (fun i hi => by show g'1097 38 i = g 38 i; rw [h1111_, show g'1079 38 = g'1070 38 from h1083_ 38 (by decide), show g'1070 38 = g'1060 38 from h1074_ 38 (by decide), show g'1060 38 = g'1050 38 from h1065_ 38 (by decide), show g'1050 38 = g'1031 38 from h1054_ 38 (by decide), show g'1031 38 = g'20 38 from h1036_ 38 (by decide), show g'20 38 = g 38 from h24_ 38 (by decide)]; exact upd_ne (by rw [cl_toNat]; omega)) (fun i _ => by show g'1097 23 i = g 23 i; rw [show g'1097 23 = g'1079 23 from h1109_ 23 (by decide), show g'1079 23 = g'1070 23 from h1083_ 23 (by decide), show g'1070 23 = g'1060 23 from h1074_ 23 (by decide), show g'1060 23 = g'1050 23 from h1065_ 23 (by decide), show g'1050 23 = g'1031 23 from h1054_ 23 (by decide), show g'1031 23 = g'20 23 from h1036_ 23 (by decide), show g'20 23 = g 23 from h24_ 23 (by decide)]) hrest) (by show (f 15).toInt + 0 = (f 15).toInt + 0 + 0 + 1 + -1 + 0; omega) (by show (f 20).toInt = (f 20).toInt; omega) (by show (f 37).toInt + 0 = bz1095.toInt + 0 + -1 + 0 + 0 + 0; omega) (by show (f 32).toInt + 0 = dd1094.toInt + 0 + -1 + 0 + 0 + 0; omega) (by show (f 5).toInt + 0 = y1088.toInt + 0 + -1 + 0 + 0 + 0; omega)⟩⟩⟩⟩⟩ : mg_good (g'1097 34) (g'1097 38) (g'1097 23) (((1 : Int), (0 : Int), (0 : Int), (0 : Int), []) :: (((40 : Int), z1015.toInt, (0 : Int), (0 : Int), []) :: (((41 : Int), z857.toInt, (0 : Int), (0 : Int), []) :: (((17 : Int), r1040.toInt, z998.toInt, (0 : Int), []) :: (((1 : Int), (0 : Int), (0 : Int), (0 : Int), []) :: gs))))) ((f 15).toInt) ((f 20).toInt) (bz1095.toInt) (dd1094.toInt) (y1088.toInt))
                · exact ⟨(by show 0 ≤ z1087.toInt; omega), (by show z1087.toInt ≤ (f 0).toInt; omega), (by show (f 0).toInt ≤ 512; omega), (by show 0 ≤ l1092.toInt; omega), (by show l1092.toInt + (f 20).toInt + mg_p1 (((1 : Int), (0 : Int), (0 : Int), (0 : Int), []) :: (((40 : Int), z1015.toInt, (0 : Int), (0 : Int), []) :: (((41 : Int), z857.toInt, (0 : Int), (0 : Int), []) :: (((17 : Int), r1040.toInt, z998.toInt, (0 : Int), []) :: (((1 : Int), (0 : Int), (0 : Int), (0 : Int), []) :: gs))))) ≤ 4 * z1087.toInt; omega), (by show (f 20).toInt ≤ z1087.toInt; omega), (by show (f 15).toInt + mg_p2 (((1 : Int), (0 : Int), (0 : Int), (0 : Int), []) :: (((40 : Int), z1015.toInt, (0 : Int), (0 : Int), []) :: (((41 : Int), z857.toInt, (0 : Int), (0 : Int), []) :: (((17 : Int), r1040.toInt, z998.toInt, (0 : Int), []) :: (((1 : Int), (0 : Int), (0 : Int), (0 : Int), []) :: gs))))) ≤ z1087.toInt; omega), (by show mg_p3 (((1 : Int), (0 : Int), (0 : Int), (0 : Int), []) :: (((40 : Int), z1015.toInt, (0 : Int), (0 : Int), []) :: (((41 : Int), z857.toInt, (0 : Int), (0 : Int), []) :: (((17 : Int), r1040.toInt, z998.toInt, (0 : Int), []) :: (((1 : Int), (0 : Int), (0 : Int), (0 : Int), []) :: gs))))) ≤ 20 * z1087.toInt + 20; omega), (by show 0 ≤ z1058.toInt; omega), (by show z1058.toInt + 3 * (f 20).toInt + mg_p4 (((1 : Int), (0 : Int), (0 : Int), (0 : Int), []) :: (((40 : Int), z1015.toInt, (0 : Int), (0 : Int), []) :: (((41 : Int), z857.toInt, (0 : Int), (0 : Int), []) :: (((17 : Int), r1040.toInt, z998.toInt, (0 : Int), []) :: (((1 : Int), (0 : Int), (0 : Int), (0 : Int), []) :: gs))))) ≤ 60 * z1087.toInt + 60; omega), (by show 0 ≤ (f 62).toInt; omega), (by show (f 62).toInt + 64 * mj_n (g'1097 16) (f 15).toNatClampNeg 3 ≤ 64 * z1087.toInt; rw [show g'1097 16 = g'1079 16 from h1109_ 16 (by decide), show g'1079 16 = g'1070 16 from h1083_ 16 (by decide), show g'1070 16 = g'1060 16 from h1074_ 16 (by decide), show g'1060 16 = g'1050 16 from h1065_ 16 (by decide), show g'1050 16 = g'1031 16 from h1054_ 16 (by decide), show g'1031 16 = g'20 16 from h1036_ 16 (by decide), show g'20 16 = g 16 from h24_ 16 (by decide)]; omega), (by show 0 ≤ (f 44).toInt; omega), (by show (f 44).toInt ≤ z1087.toInt; omega), (by show 0 ≤ (f 48).toInt; omega), (by show (f 48).toInt ≤ z1087.toInt; omega), (by show 1 ≤ mm1096.toInt; omega), (by show mm1096.toInt ≤ z1087.toInt + 1; omega), (by show 0 ≤ (f 19).toInt; omega), (by show (f 19).toInt ≤ 600; omega)⟩
                · show 100 * ((f 0).toInt - z1087.toInt) + mg_p3 (((1 : Int), (0 : Int), (0 : Int), (0 : Int), []) :: (((40 : Int), z1015.toInt, (0 : Int), (0 : Int), []) :: (((41 : Int), z857.toInt, (0 : Int), (0 : Int), []) :: (((17 : Int), r1040.toInt, z998.toInt, (0 : Int), []) :: (((1 : Int), (0 : Int), (0 : Int), (0 : Int), []) :: gs))))) < 100 * ((f 0).toInt - (f 4).toInt) + (1 + mg_p3 gs); omega
              · subst hv1115
                replace hS1116 : MS S0 S1086 (upd (upd (upd (upd (upd (upd (upd (upd (upd (upd f 4 z1015) 5 y999) 6 a1113) 7 b1114) 8 a1046) 9 b1047) 10 0) 24 z1048) 31 y1049) 68 z1058) g'1079 := hS1116
                have hR1117_ : RJ (upd (upd (upd (upd (upd (upd (upd (upd (upd (upd f 4 z1015) 5 y999) 6 a1113) 7 b1114) 8 a1046) 9 b1047) 10 0) 24 z1048) 31 y1049) 68 z1058) g'1079 [] bc [] 0 [] := hR1117
                show am_E _ _ _ _ [some (.ref 39), some (.int (f 4)), some (.int z857), some (.int z998), some (.int r1040), none, none, none] [] _ _
                refine am_e35 hi_238_102 ?_
                show am_E _ _ _ _ [some (.ref 39), some (.int r2), some (.int (f 4))] [] _ _
                refine am_e18 hi_228_394 ?_
                refine am_e35 hi_228_422 ?_
                show am_E _ _ _ _ [some (.ref 39), some (.int r2)] [] _ _
                refine am_e35 hi_225_33 ?_
                show am_E _ _ _ _ [some (.ref 39), some (.int 1), some (.int on), some (.int tw), some (.int th)] [] _ _
                refine am_e18 hi_180_116 ?_
                refine am_e35 hi_180_371 ?_
                have hRc := rj_clear0 hR1117_
                refine ⟨_, _, [], _, rfl, hS1116, Or.inr ⟨hRc, rfl, (by show 0 ≤ z1015.toInt; omega), (by show z1015.toInt ≤ (f 0).toInt; omega), (by show 0 ≤ (f 32).toInt; omega), (by show (f 32).toInt ≤ 63; omega), (by show 1 ≤ (f 53).toInt; omega), (by show (f 53).toInt ≤ 600; omega), (by show 0 ≤ z1058.toInt; omega), (by show z1058.toInt ≤ 60000; omega), (by show 0 ≤ (f 48).toInt; omega), (by show (f 48).toInt ≤ 8000; omega), (by show 0 ≤ (f 37).toInt; omega), (by show (f 37).toInt ≤ 128; omega), (by show 0 ≤ (f 62).toInt; omega), (by show (f 62).toInt ≤ 65000; omega), (by show 0 ≤ (f 19).toInt; omega), (by show (f 19).toInt ≤ 600; omega)⟩⟩
              · subst hv1130
                have h1132_ : z1015.toInt ≤ z1118.toInt := h1132
                have h1133_ : z1118.toInt ≤ (f 0).toInt := h1133
                have h1134_ : dd1126.toInt = (f 32).toInt + 1 := h1134
                have h1135_ : bz1127.toInt = (f 37).toInt + 1 := h1135
                have h1136_ : mm1128.toInt = (f 53).toInt + 1 := h1136
                have h1137_ : ∀ j, j ∉ [11, 12, 13, 14, 25, 26, 27, 28, 29, 30, 33, 34, 35, 36, 38, 39, 40, 41, 42, 43, 54, 55, 56, 58, 59, 60, 67] → g'1129 j = g'1079 j := h1137
                replace hS1131 : MS S0 S1086 (upd (upd (upd (upd (upd (upd (upd (upd (upd (upd (upd (upd (upd f 4 z1118) 5 y1119) 6 u1120) 7 v_1121) 8 a1122) 9 b1123) 10 0) 24 l1124) 31 i_1125) 32 dd1126) 37 bz1127) 53 mm1128) 68 z1058) g'1129 := hS1131
                have hR1138_ : RJ (upd (upd (upd (upd (upd (upd (upd (upd (upd (upd (upd (upd (upd f 4 z1118) 5 y1119) 6 u1120) 7 v_1121) 8 a1122) 9 b1123) 10 0) 24 l1124) 31 i_1125) 32 dd1126) 37 bz1127) 53 mm1128) 68 z1058) g'1129 [] ([] :: bc) [] 0 [] := hR1138
                show am_E _ _ _ _ [some (.ref 39), some (.int (f 4)), some (.int z857), some (.int z998), some (.int r1040), none, none, none] [] _ _
                refine am_e35 hi_238_102 ?_
                show am_E _ _ _ _ [some (.ref 39), some (.int r2), some (.int (f 4))] [] _ _
                refine am_e18 hi_228_394 ?_
                refine am_e35 hi_228_422 ?_
                show am_E _ _ _ _ [some (.ref 39), some (.int r2)] [] _ _
                refine am_e35 hi_225_33 ?_
                show am_E _ _ _ _ [some (.ref 39), some (.int 1), some (.int on), some (.int tw), some (.int th)] [] _ _
                refine am_e18 hi_180_116 ?_
                refine am_e35 hi_180_371 ?_
                have hRc := rj_clear0 hR1138_
                refine ⟨_, _, [], _, rfl, hS1131, Or.inr ⟨hRc, rfl, (by show 0 ≤ z1118.toInt; omega), (by show z1118.toInt ≤ (f 0).toInt; omega), (by show 0 ≤ dd1126.toInt; omega), (by show dd1126.toInt ≤ 63; omega), (by show 1 ≤ mm1128.toInt; omega), (by show mm1128.toInt ≤ 600; omega), (by show 0 ≤ z1058.toInt; omega), (by show z1058.toInt ≤ 60000; omega), (by show 0 ≤ (f 48).toInt; omega), (by show (f 48).toInt ≤ 8000; omega), (by show 0 ≤ bz1127.toInt; omega), (by show bz1127.toInt ≤ 128; omega), (by show 0 ≤ (f 62).toInt; omega), (by show (f 62).toInt ≤ 65000; omega), (by show 0 ≤ (f 19).toInt; omega), (by show (f 19).toInt ≤ 600; omega)⟩⟩
            · subst hv1023
              replace hS1024 : MS S0 S1014 (upd (upd (upd (upd (upd f 4 z998) 5 y999) 6 a1021) 7 b1022) 10 0) g'20 := hS1024
              have hR1139 := rj_clear0 hR1012
              have hR1140 : RJ (upd (upd (upd (upd (upd f 4 z998) 5 y999) 6 a1021) 7 b1022) 10 0) g'20 [] bc [] 0 [] := hR1139
              show am_E _ _ _ _ [some (.ref 39), some (.int (f 4)), some (.int z857), some (.int z998), none, none, none, none] [.int 0] _ _
              refine am_e12f hi_238_34 (by decide) ?_
              refine am_e35 hi_238_37 ?_
              show am_E _ _ _ _ [some (.ref 39), some (.int r2), some (.int (f 4))] [] _ _
              refine am_e18 hi_228_394 ?_
              refine am_e35 hi_228_422 ?_
              show am_E _ _ _ _ [some (.ref 39), some (.int r2)] [] _ _
              refine am_e35 hi_225_33 ?_
              show am_E _ _ _ _ [some (.ref 39), some (.int 1), some (.int on), some (.int tw), some (.int th)] [] _ _
              refine am_e18 hi_180_116 ?_
              refine am_e35 hi_180_371 ?_
              have hRc := rj_clear0 hR1140
              refine ⟨_, _, [], _, rfl, hS1024, Or.inr ⟨hRc, rfl, (by show 0 ≤ z998.toInt; omega), (by show z998.toInt ≤ (f 0).toInt; omega), (by show 0 ≤ (f 32).toInt; omega), (by show (f 32).toInt ≤ 63; omega), (by show 1 ≤ (f 53).toInt; omega), (by show (f 53).toInt ≤ 600; omega), (by show 0 ≤ (f 68).toInt; omega), (by show (f 68).toInt ≤ 60000; omega), (by show 0 ≤ (f 48).toInt; omega), (by show (f 48).toInt ≤ 8000; omega), (by show 0 ≤ (f 37).toInt; omega), (by show (f 37).toInt ≤ 128; omega), (by show 0 ≤ (f 62).toInt; omega), (by show (f 62).toInt ≤ 65000; omega), (by show 0 ≤ (f 19).toInt; omega), (by show (f 19).toInt ≤ 600; omega)⟩⟩
          · subst hv1009
            replace hS1010 : MS S0 S997 (upd (upd (upd (upd f 4 z857) 6 a1007) 7 b1008) 10 0) g'20 := hS1010
            have hR1141 := rj_clear0 hR860
            have hR1142 : RJ (upd (upd (upd (upd f 4 z857) 6 a1007) 7 b1008) 10 0) g'20 [] bc [] 0 [] := hR1141
            show am_E _ _ _ _ [some (.ref 39), some (.int (f 4)), some (.int z857), none, none, none, none, none] [.int 0] _ _
            refine am_e12f hi_238_20 (by decide) ?_
            refine am_e35 hi_238_23 ?_
            show am_E _ _ _ _ [some (.ref 39), some (.int r2), some (.int (f 4))] [] _ _
            refine am_e18 hi_228_394 ?_
            refine am_e35 hi_228_422 ?_
            show am_E _ _ _ _ [some (.ref 39), some (.int r2)] [] _ _
            refine am_e35 hi_225_33 ?_
            show am_E _ _ _ _ [some (.ref 39), some (.int 1), some (.int on), some (.int tw), some (.int th)] [] _ _
            refine am_e18 hi_180_116 ?_
            refine am_e35 hi_180_371 ?_
            have hRc := rj_clear0 hR1142
            refine ⟨_, _, [], _, rfl, hS1010, Or.inr ⟨hRc, rfl, (by show 0 ≤ z857.toInt; omega), (by show z857.toInt ≤ (f 0).toInt; omega), (by show 0 ≤ (f 32).toInt; omega), (by show (f 32).toInt ≤ 63; omega), (by show 1 ≤ (f 53).toInt; omega), (by show (f 53).toInt ≤ 600; omega), (by show 0 ≤ (f 68).toInt; omega), (by show (f 68).toInt ≤ 60000; omega), (by show 0 ≤ (f 48).toInt; omega), (by show (f 48).toInt ≤ 8000; omega), (by show 0 ≤ (f 37).toInt; omega), (by show (f 37).toInt ≤ 128; omega), (by show 0 ≤ (f 62).toInt; omega), (by show (f 62).toInt ≤ 65000; omega), (by show 0 ≤ (f 19).toInt; omega), (by show (f 19).toInt ≤ 600; omega)⟩⟩
      by_cases c1143 : r2.toInt = 26
      · refine am_e19 (t := 272) hi_228_6 (am_swI (v := r2) (w := 26) (by decide) (by decide) c1143) ?_
        refine am_e2 (v := 39) hi_228_272 rfl ?_
        refine am_e0 hi_228_273 ?_
        refine am_e32n (as := [.ref 39, .int 26]) (la := [some (.ref 39), some (.int 26)]) (rest := []) hi_228_275 (am_hd0 (M := 228) (by decide) 275) (Nat.le_of_ble_eq_true rfl) (Nat.le_of_ble_eq_true rfl) (show 2 ≤ am_P0.2.2.1 193 from by decide +kernel) rfl (am_recv_ok hS22.fs) rfl rfl (ct_enter (d := (d + 3)) hS22   (by show (0 : Int) ≤ (f 4).toInt; omega) (by show (f 0).toInt ≤ (16384 : Int); omega) (by show (0 : Int) ≤ (26 : Int); omega) (by show (0 : Int) ≤ (f 5).toInt; omega) (by show (f 5).toInt ≤ (48 : Int); omega)) ?_
        rintro v1144 S1145 (⟨z1146, y1147, hv1148, hS1149, h1150, h1151, h1152, h1153⟩ | ⟨a1155, b1156, hv1157, hS1158⟩)
        · subst hv1148
          have h1150_ : z1146.toInt = (f 4).toInt + 1 := h1150
          have h1151_ : (f 4).toInt < (f 0).toInt := h1151
          have h1152_ : y1147.toInt = (f 5).toInt + 1 := h1152
          have h1153_ : y1147.toInt ≤ (48 : Int) := h1153
          replace hS1149 : MS S0 S1145 (upd (upd (upd f 4 z1146) 5 y1147) 10 z19) g'20 := hS1149
          have hR1160 : RJ (upd (upd (upd f 4 z1146) 5 y1147) 10 z19) g'20 (((1 : Int), (0 : Int), (0 : Int), (0 : Int), []) :: gs) bc [] 0 [] := RJ.at hR25_ (by show (f 4).toInt ≤ z1146.toInt; omega)
          show am_E _ _ _ _ [some (.ref 39), some (.int r2), some (.int (f 4))] [.int 1] _ _
          refine am_e12t hi_228_278 (by decide) ?_
          refine am_e2 (v := 39) hi_228_284 rfl ?_
          refine am_e0 hi_228_285 ?_
          refine am_e2 (v := 39) hi_228_286 rfl ?_
          refine am_e32n (as := [.ref 39]) (la := [some (.ref 39)]) (rest := [.int 5, .ref 39]) hi_228_287 (am_hd0 (M := 228) (by decide) 287) (Nat.le_of_ble_eq_true rfl) (Nat.le_of_ble_eq_true rfl) (show 1 ≤ am_P0.2.2.1 210 from by decide +kernel) rfl (am_recv_ok hS1149.fs) rfl rfl (ct_here (d := (d + 5)) hS1149 hR1160  (by show (0 : Int) ≤ (f 32).toInt; omega) (by show (f 32).toInt ≤ (63 : Int); omega) (by show (f 53).toInt ≤ (4096 : Int); omega) (by show (0 : Int) ≤ (f 68).toInt; omega) (by show (f 68).toInt ≤ (65534 : Int); omega)) ?_
          rintro v1161 S1162 (⟨r1163, hv1164, hS1165, h1166, h1167⟩)
          subst hv1164
          have h1166_ : (0 : Int) ≤ r1163.toInt := h1166
          have h1167_ : r1163.toInt ≤ (f 68).toInt := h1167
          show am_E _ _ _ _ [some (.ref 39), some (.int r2), some (.int (f 4))] [.int r1163, .int 5, .ref 39] _ _
          refine am_e0 hi_228_290 ?_
          refine am_e0 hi_228_291 ?_
          refine am_e32n (as := [.ref 39, .int 5, .int r1163, .int 0, .int 0]) (la := [some (.ref 39), some (.int 5), some (.int r1163), some (.int 0), some (.int 0)]) (rest := []) hi_228_292 (am_hd0 (M := 228) (by decide) 292) (Nat.le_of_ble_eq_true rfl) (Nat.le_of_ble_eq_true rfl) (show 5 ≤ am_P0.2.2.1 179 from by decide +kernel) rfl (am_recv_ok hS1165.fs) rfl rfl (ct_pile (d := (d + 5)) hS1165 hR1160 (mj_e_plain (by decide)) (by show (0 : Int) ≤ z19.toInt; omega) (by show z19.toInt ≤ (65535 : Int); omega)) ?_
          rintro v1169 S1170 (⟨z1171, g'1172, hv1173, hS1174, hR1177, h1175, h1176⟩)
          subst hv1173
          have h1175_ : z1171.toInt = z19.toInt + 1 := h1175
          have h1176_ : ∀ j, j ∉ [11, 12, 13, 14] → g'1172 j = g'20 j := h1176
          replace hS1174 : MS S0 S1170 (upd (upd (upd f 4 z1146) 5 y1147) 10 z1171) g'1172 := hS1174
          have hR1177_ : RJ (upd (upd (upd f 4 z1146) 5 y1147) 10 z1171) g'1172 (((5 : Int), r1163.toInt, (0 : Int), (0 : Int), []) :: (((1 : Int), (0 : Int), (0 : Int), (0 : Int), []) :: gs)) bc [] 0 [] := hR1177
          show am_E _ _ _ _ [some (.ref 39), some (.int r2), some (.int (f 4))] [] _ _
          refine am_e2 (v := 39) hi_228_295 rfl ?_
          refine am_e0 hi_228_296 ?_
          refine am_e0 hi_228_298 ?_
          refine am_e0 hi_228_299 ?_
          refine am_e1 (v := f 4) hi_228_300 rfl ?_
          refine am_e32n (as := [.ref 39, .int 34, .int 0, .int 0, .int (f 4)]) (la := [some (.ref 39), some (.int 34), some (.int 0), some (.int 0), some (.int (f 4))]) (rest := []) hi_228_301 (am_hd0 (M := 228) (by decide) 301) (Nat.le_of_ble_eq_true rfl) (Nat.le_of_ble_eq_true rfl) (show 5 ≤ am_P0.2.2.1 189 from by decide +kernel) rfl (am_recv_ok hS1174.fs) rfl rfl (ct_put (d := (d + 5)) hS1174 hR1177_  (by show (0 : Int) ≤ (f 32).toInt; omega) (by show (f 32).toInt ≤ (63 : Int); omega) (by show (f 53).toInt ≤ (4096 : Int); omega) (by show (0 : Int) ≤ (f 68).toInt; omega) (by show (f 68).toInt ≤ (65534 : Int); omega)) ?_
          rintro v1178 S1179 (⟨z1180, r1181, g'1182, hv1183, hS1184, hR1188, h1185, h1186, h1187⟩)
          subst hv1183
          have h1185_ : z1180.toInt = (f 68).toInt + 1 := h1185
          have h1186_ : r1181.toInt = (f 68).toInt := h1186
          have h1187_ : ∀ j, j ∉ [60, 69, 70, 71, 72, 73] → g'1182 j = g'1172 j := h1187
          have hR1188_ : RJ (upd (upd (upd (upd f 4 z1146) 5 y1147) 10 z1171) 68 z1180) g'1182 (((5 : Int), r1163.toInt, (0 : Int), (0 : Int), []) :: (((1 : Int), (0 : Int), (0 : Int), (0 : Int), []) :: gs)) bc [] 0 ((f 68).toNatClampNeg :: []) := hR1188
          show am_E _ _ _ _ [some (.ref 39), some (.int r2), some (.int (f 4))] [.int r1181] _ _
          refine am_e6i hi_228_304 ?_
          refine am_e2 (v := 39) hi_228_305 rfl ?_
          refine am_e0 hi_228_306 ?_
          refine am_e32n (as := [.ref 39, .int 1]) (la := [some (.ref 39), some (.int 1)]) (rest := []) hi_228_307 (am_hd0 (M := 228) (by decide) 307) (Nat.le_of_ble_eq_true rfl) (Nat.le_of_ble_eq_true rfl) (show 2 ≤ am_P0.2.2.1 177 from by decide +kernel) rfl (am_recv_ok hS1184.fs) rfl rfl (ct_beginBlock2 (d := (d + 5)) hS1184 hR1188_ (by decide)  (by show (0 : Int) ≤ (f 37).toInt; omega) (by show (f 37).toInt ≤ (127 : Int); omega) (by show (0 : Int) ≤ (f 24).toInt; omega) (by show (0 : Int) ≤ (f 44).toInt; omega) (by show (f 44).toInt ≤ z1146.toInt; omega) (by show (0 : Int) ≤ (f 48).toInt; omega)) ?_
          rintro v1189 S1190 (⟨z1191, g'1192, hv1193, hS1194, hR1198, h1195, h1196, h1197⟩)
          subst hv1193
          have h1195_ : z1191.toInt = (f 37).toInt + 1 := h1195
          have h1196_ : ∀ j, j ∉ [38, 39, 40, 41, 42, 43] → g'1192 j = g'1182 j := h1196
          have h1197_ : g'1192 38 = upd (g'1182 38) (f 37).toNatClampNeg (f 24) := h1197
          replace hS1194 : MS S0 S1190 (upd (upd (upd (upd (upd f 4 z1146) 5 y1147) 10 z1171) 37 z1191) 68 z1180) g'1192 := hS1194
          have hR1198_ : RJ (upd (upd (upd (upd (upd f 4 z1146) 5 y1147) 10 z1171) 37 z1191) 68 z1180) g'1192 (((5 : Int), r1163.toInt, (0 : Int), (0 : Int), []) :: (((1 : Int), (0 : Int), (0 : Int), (0 : Int), []) :: gs)) ([] :: bc) [] 0 ((f 68).toNatClampNeg :: []) := hR1198
          show am_E _ _ _ _ [some (.ref 39), some (.int r2), some (.int (f 4))] [] _ _
          refine am_e2 (v := 39) hi_228_310 rfl ?_
          refine am_e32w (as := [.ref 39]) (la := [some (.ref 39)]) (rest := []) hi_228_311 (am_hd0 (M := 228) (by decide) 311) (Nat.le_of_ble_eq_true rfl) (Nat.le_of_ble_eq_true rfl) (show 1 ≤ am_P0.2.2.1 178 from by decide +kernel) rfl (am_recv_ok hS1194.fs) rfl rfl ?_
          refine am_e2 (v := 39) hi_178_0 rfl ?_
          refine am_e0 hi_178_1 ?_
          refine am_e0 hi_178_2 ?_
          refine am_e0 hi_178_3 ?_
          refine am_e0 hi_178_4 ?_
          refine am_e32n (as := [.ref 39, .int 1, .int 0, .int 0, .int 0]) (la := [some (.ref 39), some (.int 1), some (.int 0), some (.int 0), some (.int 0)]) (rest := []) hi_178_5 (am_hd0 (M := 178) (by decide) 5) (Nat.le_of_ble_eq_true rfl) (Nat.le_of_ble_eq_true rfl) (show 5 ≤ am_P0.2.2.1 179 from by decide +kernel) rfl (am_recv_ok hS1194.fs) rfl rfl (ct_pile (d := (d + 4)) hS1194 hR1198_ (mj_e_plain (by decide)) (by show (0 : Int) ≤ z1171.toInt; omega) (by show z1171.toInt ≤ (65535 : Int); omega)) ?_
          rintro v1199 S1200 (⟨z1201, g'1202, hv1203, hS1204, hR1207, h1205, h1206⟩)
          subst hv1203
          have h1205_ : z1201.toInt = z1171.toInt + 1 := h1205
          have h1206_ : ∀ j, j ∉ [11, 12, 13, 14] → g'1202 j = g'1192 j := h1206
          replace hS1204 : MS S0 S1200 (upd (upd (upd (upd (upd f 4 z1146) 5 y1147) 10 z1201) 37 z1191) 68 z1180) g'1202 := hS1204
          have hR1207_ : RJ (upd (upd (upd (upd (upd f 4 z1146) 5 y1147) 10 z1201) 37 z1191) 68 z1180) g'1202 (((1 : Int), (0 : Int), (0 : Int), (0 : Int), []) :: (((5 : Int), r1163.toInt, (0 : Int), (0 : Int), []) :: (((1 : Int), (0 : Int), (0 : Int), (0 : Int), []) :: gs))) ([] :: bc) [] 0 ((f 68).toNatClampNeg :: []) := hR1207
          show am_E _ _ _ _ [some (.ref 39)] [] _ _
          refine am_e35 hi_178_8 ?_
          show am_E _ _ _ _ [some (.ref 39), some (.int r2), some (.int (f 4))] [] _ _
          refine am_e18 hi_228_314 ?_
          refine am_e35 hi_228_422 ?_
          show am_E _ _ _ _ [some (.ref 39), some (.int r2)] [] _ _
          refine am_e35 hi_225_33 ?_
          show am_E _ _ _ _ [some (.ref 39), some (.int 1), some (.int on), some (.int tw), some (.int th)] [] _ _
          refine am_e18 hi_180_116 ?_
          refine am_e35 hi_180_371 ?_
          have q1 : mg_p1 (((1 : Int), (0 : Int), (0 : Int), (0 : Int), []) :: (((5 : Int), r1163.toInt, (0 : Int), (0 : Int), []) :: (((1 : Int), (0 : Int), (0 : Int), (0 : Int), []) :: gs))) = 0 + (0 + (0 + (mg_p1 gs))) := rfl
          have q2 : mg_p2 (((1 : Int), (0 : Int), (0 : Int), (0 : Int), []) :: (((5 : Int), r1163.toInt, (0 : Int), (0 : Int), []) :: (((1 : Int), (0 : Int), (0 : Int), (0 : Int), []) :: gs))) = 0 + (0 + (0 + (mg_p2 gs))) := rfl
          have q3 : mg_p3 (((1 : Int), (0 : Int), (0 : Int), (0 : Int), []) :: (((5 : Int), r1163.toInt, (0 : Int), (0 : Int), []) :: (((1 : Int), (0 : Int), (0 : Int), (0 : Int), []) :: gs))) = 1 + (1 + (1 + (mg_p3 gs))) := rfl
          have q4 : mg_p4 (((1 : Int), (0 : Int), (0 : Int), (0 : Int), []) :: (((5 : Int), r1163.toInt, (0 : Int), (0 : Int), []) :: (((1 : Int), (0 : Int), (0 : Int), (0 : Int), []) :: gs))) = 0 + (0 + (0 + (mg_p4 gs))) := rfl
          refine ⟨_, _, _, ([] :: bc), rfl, hS1204, Or.inl ⟨⟨(RJ.fewer (pj' := []) hR1207_ (fun _ h => nomatch h)), ?_, ?_⟩, rfl, ?_⟩⟩
          · exact (⟨⟨(show mg_k 1 from by decide), (show (0 : Int) ≤ (f 15).toInt from by omega), (show 0 ≤ (f 20).toInt from by omega), (show 1 ≤ z1191.toInt from by omega), (show 0 ≤ (f 32).toInt from by omega), (show (f 32).toInt ≤ y1147.toInt from by omega), (show y1147.toInt ≤ 48 from by omega), (show z1191.toInt ≤ 2 * (y1147.toInt) + 1 from by omega), trivial⟩, ⟨⟨(show mg_k 5 from by decide), (show (0 : Int) ≤ (f 15).toInt + 0 from by omega), (show 0 ≤ (f 20).toInt from by omega), (show 1 ≤ z1191.toInt + 0 from by omega), (show 0 ≤ (f 32).toInt + 0 from by omega), (show (f 32).toInt + 0 ≤ y1147.toInt + 0 from by omega), (show y1147.toInt + 0 ≤ 48 from by omega), (show z1191.toInt + 0 ≤ 2 * (y1147.toInt + 0) + 0 from by omega), trivial⟩, ⟨⟨(show mg_k 1 from by decide), (show (0 : Int) ≤ (f 15).toInt + 0 + 0 from by omega), (show 0 ≤ (f 20).toInt from by omega), (show 1 ≤ z1191.toInt + 0 + -1 from by omega), (show 0 ≤ (f 32).toInt + 0 + 0 from by omega), (show (f 32).toInt + 0 + 0 ≤ y1147.toInt + 0 + -1 from by omega), (show y1147.toInt + 0 + -1 ≤ 48 from by omega), (show z1191.toInt + 0 + -1 ≤ 2 * (y1147.toInt + 0 + -1) + 1 from by omega), trivial⟩, mg_cast (mg_good_ext _ _ _ _ _ _ (fun i _ => by show g'1202 34 i = g 34 i; rw [show g'1202 34 = g'1192 34 from h1206_ 34 (by decide), show g'1192 34 = g'1182 34 from h1196_ 34 (by decide), show g'1182 34 = g'1172 34 from h1187_ 34 (by decide), show g'1172 34 = g'20 34 from h1176_ 34 (by decide), show g'20 34 = g 34 from h24_ 34 (by decide)]) (fun i hi => by show g'1202 38 i = g 38 i; rw [show g'1202 38 = g'1192 38 from h1206_ 38 (by decide), h1197_, show g'1182 38 = g'1172 38 from h1187_ 38 (by decide), show g'1172 38 = g'20 38 from h1176_ 38 (by decide), show g'20 38 = g 38 from h24_ 38 (by decide)]; exact upd_ne (by rw [cl_toNat]; omega)) (fun i _ => by show g'1202 23 i = g 23 i; rw [show g'1202 23 = g'1192 23 from h1206_ 23 (by decide), show g'1192 23 = g'1182 23 from h1196_ 23 (by decide), show g'1182 23 = g'1172 23 from h1187_ 23 (by decide), show g'1172 23 = g'20 23 from h1176_ 23 (by decide), show g'20 23 = g 23 from h24_ 23 (by decide)]) hrest) (by show (f 15).toInt + 0 = (f 15).toInt + 0 + 0 + 0; omega) (by show (f 20).toInt = (f 20).toInt; omega) (by show (f 37).toInt + 0 = z1191.toInt + 0 + -1 + 0; omega) (by show (f 32).toInt + 0 = (f 32).toInt + 0 + 0 + 0; omega) (by show (f 5).toInt + 0 = y1147.toInt + 0 + -1 + 0; omega)⟩⟩⟩ : mg_good (g'1202 34) (g'1202 38) (g'1202 23) (((1 : Int), (0 : Int), (0 : Int), (0 : Int), []) :: (((5 : Int), r1163.toInt, (0 : Int), (0 : Int), []) :: (((1 : Int), (0 : Int), (0 : Int), (0 : Int), []) :: gs))) ((f 15).toInt) ((f 20).toInt) (z1191.toInt) ((f 32).toInt) (y1147.toInt))
          · exact ⟨(by show 0 ≤ z1146.toInt; omega), (by show z1146.toInt ≤ (f 0).toInt; omega), (by show (f 0).toInt ≤ 512; omega), (by show 0 ≤ (f 24).toInt; omega), (by show (f 24).toInt + (f 20).toInt + mg_p1 (((1 : Int), (0 : Int), (0 : Int), (0 : Int), []) :: (((5 : Int), r1163.toInt, (0 : Int), (0 : Int), []) :: (((1 : Int), (0 : Int), (0 : Int), (0 : Int), []) :: gs))) ≤ 4 * z1146.toInt; omega), (by show (f 20).toInt ≤ z1146.toInt; omega), (by show (f 15).toInt + mg_p2 (((1 : Int), (0 : Int), (0 : Int), (0 : Int), []) :: (((5 : Int), r1163.toInt, (0 : Int), (0 : Int), []) :: (((1 : Int), (0 : Int), (0 : Int), (0 : Int), []) :: gs))) ≤ z1146.toInt; omega), (by show mg_p3 (((1 : Int), (0 : Int), (0 : Int), (0 : Int), []) :: (((5 : Int), r1163.toInt, (0 : Int), (0 : Int), []) :: (((1 : Int), (0 : Int), (0 : Int), (0 : Int), []) :: gs))) ≤ 20 * z1146.toInt + 20; omega), (by show 0 ≤ z1180.toInt; omega), (by show z1180.toInt + 3 * (f 20).toInt + mg_p4 (((1 : Int), (0 : Int), (0 : Int), (0 : Int), []) :: (((5 : Int), r1163.toInt, (0 : Int), (0 : Int), []) :: (((1 : Int), (0 : Int), (0 : Int), (0 : Int), []) :: gs))) ≤ 60 * z1146.toInt + 60; omega), (by show 0 ≤ (f 62).toInt; omega), (by show (f 62).toInt + 64 * mj_n (g'1202 16) (f 15).toNatClampNeg 3 ≤ 64 * z1146.toInt; rw [show g'1202 16 = g'1192 16 from h1206_ 16 (by decide), show g'1192 16 = g'1182 16 from h1196_ 16 (by decide), show g'1182 16 = g'1172 16 from h1187_ 16 (by decide), show g'1172 16 = g'20 16 from h1176_ 16 (by decide), show g'20 16 = g 16 from h24_ 16 (by decide)]; omega), (by show 0 ≤ (f 44).toInt; omega), (by show (f 44).toInt ≤ z1146.toInt; omega), (by show 0 ≤ (f 48).toInt; omega), (by show (f 48).toInt ≤ z1146.toInt; omega), (by show 1 ≤ (f 53).toInt; omega), (by show (f 53).toInt ≤ z1146.toInt + 1; omega), (by show 0 ≤ (f 19).toInt; omega), (by show (f 19).toInt ≤ 600; omega)⟩
          · show 100 * ((f 0).toInt - z1146.toInt) + mg_p3 (((1 : Int), (0 : Int), (0 : Int), (0 : Int), []) :: (((5 : Int), r1163.toInt, (0 : Int), (0 : Int), []) :: (((1 : Int), (0 : Int), (0 : Int), (0 : Int), []) :: gs))) < 100 * ((f 0).toInt - (f 4).toInt) + (1 + mg_p3 gs); omega
        · subst hv1157
          replace hS1158 : MS S0 S1145 (upd (upd (upd f 6 a1155) 7 b1156) 10 0) g'20 := hS1158
          have hR1208 := rj_clear0 hR25_
          have hR1209 : RJ (upd (upd (upd f 6 a1155) 7 b1156) 10 0) g'20 [] bc [] 0 [] := hR1208
          show am_E _ _ _ _ [some (.ref 39), some (.int r2), some (.int (f 4))] [.int 0] _ _
          refine am_e12f hi_228_278 (by decide) ?_
          refine am_e18 hi_228_281 ?_
          refine am_e35 hi_228_422 ?_
          show am_E _ _ _ _ [some (.ref 39), some (.int r2)] [] _ _
          refine am_e35 hi_225_33 ?_
          show am_E _ _ _ _ [some (.ref 39), some (.int 1), some (.int on), some (.int tw), some (.int th)] [] _ _
          refine am_e18 hi_180_116 ?_
          refine am_e35 hi_180_371 ?_
          have hRc := rj_clear0 hR1209
          refine ⟨_, _, [], _, rfl, hS1158, Or.inr ⟨hRc, rfl, (by show 0 ≤ (f 4).toInt; omega), (by show (f 4).toInt ≤ (f 0).toInt; omega), (by show 0 ≤ (f 32).toInt; omega), (by show (f 32).toInt ≤ 63; omega), (by show 1 ≤ (f 53).toInt; omega), (by show (f 53).toInt ≤ 600; omega), (by show 0 ≤ (f 68).toInt; omega), (by show (f 68).toInt ≤ 60000; omega), (by show 0 ≤ (f 48).toInt; omega), (by show (f 48).toInt ≤ 8000; omega), (by show 0 ≤ (f 37).toInt; omega), (by show (f 37).toInt ≤ 128; omega), (by show 0 ≤ (f 62).toInt; omega), (by show (f 62).toInt ≤ 65000; omega), (by show 0 ≤ (f 19).toInt; omega), (by show (f 19).toInt ≤ 600; omega)⟩⟩
      by_cases c1210 : r2.toInt = 31
      · refine am_e19 (t := 233) hi_228_6 (am_swI (v := r2) (w := 31) (by decide) (by decide) c1210) ?_
        refine am_e2 (v := 39) hi_228_233 rfl ?_
        refine am_e7 hi_228_234 ?_
        refine mm_20 (v := .int (f 4)) hS22 hi_228_235 rfl ?_
        refine am_e0 hi_228_238 ?_
        obtain ⟨z1211, hz1211, tz1211⟩ := am_addI (x := f 4) (y := 1) (m := (f 4).toInt) (n := (1 : Int)) rfl (by decide) (by omega) (by omega)
        refine am_e10 (z := z1211) hi_228_239 hz1211 ?_
        refine mm_21 (v := z1211) hS22 hi_228_240 rfl (Nat.le_of_ble_eq_true rfl) ms_4 ?_
        intro S1212 hS1213
        replace hS1213 : MS S0 S1212 (upd (upd f 4 z1211) 10 z19) g'20 := hS1213
        have hR1214 : RJ (upd (upd f 4 z1211) 10 z19) g'20 (((1 : Int), (0 : Int), (0 : Int), (0 : Int), []) :: gs) bc [] 0 [] := RJ.at hR25_ (by show (f 4).toInt ≤ z1211.toInt; omega)
        refine am_e2 (v := 39) hi_228_243 rfl ?_
        refine am_e0 hi_228_244 ?_
        refine am_e2 (v := 39) hi_228_245 rfl ?_
        refine am_e32n (as := [.ref 39]) (la := [some (.ref 39)]) (rest := [.int 3, .ref 39]) hi_228_246 (am_hd0 (M := 228) (by decide) 246) (Nat.le_of_ble_eq_true rfl) (Nat.le_of_ble_eq_true rfl) (show 1 ≤ am_P0.2.2.1 210 from by decide +kernel) rfl (am_recv_ok hS1213.fs) rfl rfl (ct_here (d := (d + 5)) hS1213 hR1214  (by show (0 : Int) ≤ (f 32).toInt; omega) (by show (f 32).toInt ≤ (63 : Int); omega) (by show (f 53).toInt ≤ (4096 : Int); omega) (by show (0 : Int) ≤ (f 68).toInt; omega) (by show (f 68).toInt ≤ (65534 : Int); omega)) ?_
        rintro v1215 S1216 (⟨r1217, hv1218, hS1219, h1220, h1221⟩)
        subst hv1218
        have h1220_ : (0 : Int) ≤ r1217.toInt := h1220
        have h1221_ : r1217.toInt ≤ (f 68).toInt := h1221
        show am_E _ _ _ _ [some (.ref 39), some (.int r2), some (.int (f 4))] [.int r1217, .int 3, .ref 39] _ _
        refine am_e0 hi_228_249 ?_
        refine am_e0 hi_228_250 ?_
        refine am_e32n (as := [.ref 39, .int 3, .int r1217, .int 0, .int 0]) (la := [some (.ref 39), some (.int 3), some (.int r1217), some (.int 0), some (.int 0)]) (rest := []) hi_228_251 (am_hd0 (M := 228) (by decide) 251) (Nat.le_of_ble_eq_true rfl) (Nat.le_of_ble_eq_true rfl) (show 5 ≤ am_P0.2.2.1 179 from by decide +kernel) rfl (am_recv_ok hS1219.fs) rfl rfl (ct_pile (d := (d + 5)) hS1219 hR1214 (mj_e_plain (by decide)) (by show (0 : Int) ≤ z19.toInt; omega) (by show z19.toInt ≤ (65535 : Int); omega)) ?_
        rintro v1223 S1224 (⟨z1225, g'1226, hv1227, hS1228, hR1231, h1229, h1230⟩)
        subst hv1227
        have h1229_ : z1225.toInt = z19.toInt + 1 := h1229
        have h1230_ : ∀ j, j ∉ [11, 12, 13, 14] → g'1226 j = g'20 j := h1230
        replace hS1228 : MS S0 S1224 (upd (upd f 4 z1211) 10 z1225) g'1226 := hS1228
        have hR1231_ : RJ (upd (upd f 4 z1211) 10 z1225) g'1226 (((3 : Int), r1217.toInt, (0 : Int), (0 : Int), []) :: (((1 : Int), (0 : Int), (0 : Int), (0 : Int), []) :: gs)) bc [] 0 [] := hR1231
        show am_E _ _ _ _ [some (.ref 39), some (.int r2), some (.int (f 4))] [] _ _
        refine am_e2 (v := 39) hi_228_254 rfl ?_
        refine am_e0 hi_228_255 ?_
        refine am_e0 hi_228_257 ?_
        refine am_e0 hi_228_258 ?_
        refine am_e1 (v := f 4) hi_228_259 rfl ?_
        refine am_e32n (as := [.ref 39, .int 34, .int 0, .int 0, .int (f 4)]) (la := [some (.ref 39), some (.int 34), some (.int 0), some (.int 0), some (.int (f 4))]) (rest := []) hi_228_260 (am_hd0 (M := 228) (by decide) 260) (Nat.le_of_ble_eq_true rfl) (Nat.le_of_ble_eq_true rfl) (show 5 ≤ am_P0.2.2.1 189 from by decide +kernel) rfl (am_recv_ok hS1228.fs) rfl rfl (ct_put (d := (d + 5)) hS1228 hR1231_  (by show (0 : Int) ≤ (f 32).toInt; omega) (by show (f 32).toInt ≤ (63 : Int); omega) (by show (f 53).toInt ≤ (4096 : Int); omega) (by show (0 : Int) ≤ (f 68).toInt; omega) (by show (f 68).toInt ≤ (65534 : Int); omega)) ?_
        rintro v1232 S1233 (⟨z1234, r1235, g'1236, hv1237, hS1238, hR1242, h1239, h1240, h1241⟩)
        subst hv1237
        have h1239_ : z1234.toInt = (f 68).toInt + 1 := h1239
        have h1240_ : r1235.toInt = (f 68).toInt := h1240
        have h1241_ : ∀ j, j ∉ [60, 69, 70, 71, 72, 73] → g'1236 j = g'1226 j := h1241
        have hR1242_ : RJ (upd (upd (upd f 4 z1211) 10 z1225) 68 z1234) g'1236 (((3 : Int), r1217.toInt, (0 : Int), (0 : Int), []) :: (((1 : Int), (0 : Int), (0 : Int), (0 : Int), []) :: gs)) bc [] 0 ((f 68).toNatClampNeg :: []) := hR1242
        show am_E _ _ _ _ [some (.ref 39), some (.int r2), some (.int (f 4))] [.int r1235] _ _
        refine am_e6i hi_228_263 ?_
        refine am_e2 (v := 39) hi_228_264 rfl ?_
        refine am_e0 hi_228_265 ?_
        refine am_e32w (as := [.ref 39, .int 0]) (la := [some (.ref 39), some (.int 0)]) (rest := []) hi_228_266 (am_hd0 (M := 228) (by decide) 266) (Nat.le_of_ble_eq_true rfl) (Nat.le_of_ble_eq_true rfl) (show 2 ≤ am_P0.2.2.1 186 from by decide +kernel) rfl (am_recv_ok hS1238.fs) rfl rfl ?_
        refine am_e2 (v := 39) hi_186_0 rfl ?_
        refine am_e0 hi_186_1 ?_
        refine am_e1 (v := 0) hi_186_3 rfl ?_
        refine am_e0 hi_186_4 ?_
        refine am_e0 hi_186_5 ?_
        refine am_e32n (as := [.ref 39, .int 23, .int 0, .int 0, .int 0]) (la := [some (.ref 39), some (.int 23), some (.int 0), some (.int 0), some (.int 0)]) (rest := []) hi_186_6 (am_hd0 (M := 186) (by decide) 6) (Nat.le_of_ble_eq_true rfl) (Nat.le_of_ble_eq_true rfl) (show 5 ≤ am_P0.2.2.1 179 from by decide +kernel) rfl (am_recv_ok hS1238.fs) rfl rfl (ct_pile (d := (d + 4)) hS1238 hR1242_ (mj_e_plain (by decide)) (by show (0 : Int) ≤ z1225.toInt; omega) (by show z1225.toInt ≤ (65535 : Int); omega)) ?_
        rintro v1243 S1244 (⟨z1245, g'1246, hv1247, hS1248, hR1251, h1249, h1250⟩)
        subst hv1247
        have h1249_ : z1245.toInt = z1225.toInt + 1 := h1249
        have h1250_ : ∀ j, j ∉ [11, 12, 13, 14] → g'1246 j = g'1236 j := h1250
        replace hS1248 : MS S0 S1244 (upd (upd (upd f 4 z1211) 10 z1245) 68 z1234) g'1246 := hS1248
        have hR1251_ : RJ (upd (upd (upd f 4 z1211) 10 z1245) 68 z1234) g'1246 (((23 : Int), (0 : Int), (0 : Int), (0 : Int), []) :: (((3 : Int), r1217.toInt, (0 : Int), (0 : Int), []) :: (((1 : Int), (0 : Int), (0 : Int), (0 : Int), []) :: gs))) bc [] 0 ((f 68).toNatClampNeg :: []) := hR1251
        show am_E _ _ _ _ [some (.ref 39), some (.int 0)] [] _ _
        refine am_e35 hi_186_9 ?_
        show am_E _ _ _ _ [some (.ref 39), some (.int r2), some (.int (f 4))] [] _ _
        refine am_e18 hi_228_269 ?_
        refine am_e35 hi_228_422 ?_
        show am_E _ _ _ _ [some (.ref 39), some (.int r2)] [] _ _
        refine am_e35 hi_225_33 ?_
        show am_E _ _ _ _ [some (.ref 39), some (.int 1), some (.int on), some (.int tw), some (.int th)] [] _ _
        refine am_e18 hi_180_116 ?_
        refine am_e35 hi_180_371 ?_
        have q1 : mg_p1 (((23 : Int), (0 : Int), (0 : Int), (0 : Int), []) :: (((3 : Int), r1217.toInt, (0 : Int), (0 : Int), []) :: (((1 : Int), (0 : Int), (0 : Int), (0 : Int), []) :: gs))) = 0 + (0 + (0 + (mg_p1 gs))) := rfl
        have q2 : mg_p2 (((23 : Int), (0 : Int), (0 : Int), (0 : Int), []) :: (((3 : Int), r1217.toInt, (0 : Int), (0 : Int), []) :: (((1 : Int), (0 : Int), (0 : Int), (0 : Int), []) :: gs))) = 0 + (0 + (0 + (mg_p2 gs))) := rfl
        have q3 : mg_p3 (((23 : Int), (0 : Int), (0 : Int), (0 : Int), []) :: (((3 : Int), r1217.toInt, (0 : Int), (0 : Int), []) :: (((1 : Int), (0 : Int), (0 : Int), (0 : Int), []) :: gs))) = 1 + (1 + (1 + (mg_p3 gs))) := rfl
        have q4 : mg_p4 (((23 : Int), (0 : Int), (0 : Int), (0 : Int), []) :: (((3 : Int), r1217.toInt, (0 : Int), (0 : Int), []) :: (((1 : Int), (0 : Int), (0 : Int), (0 : Int), []) :: gs))) = 0 + (0 + (0 + (mg_p4 gs))) := rfl
        refine ⟨_, _, _, bc, rfl, hS1248, Or.inl ⟨⟨(RJ.fewer (pj' := []) hR1251_ (fun _ h => nomatch h)), ?_, ?_⟩, rfl, ?_⟩⟩
        · exact (⟨⟨(show mg_k 23 from by decide), (show (0 : Int) ≤ (f 15).toInt from by omega), (show 0 ≤ (f 20).toInt from by omega), (show 1 ≤ (f 37).toInt from by omega), (show 0 ≤ (f 32).toInt from by omega), (show (f 32).toInt ≤ (f 5).toInt from by omega), (show (f 5).toInt ≤ 48 from by omega), (show (f 37).toInt ≤ 2 * ((f 5).toInt) + 2 from by omega), (show 0 ≤ (0 : Int) from by omega)⟩, ⟨⟨(show mg_k 3 from by decide), (show (1 : Int) ≤ (f 15).toInt + 1 from by omega), (show 0 ≤ (f 20).toInt from by omega), (show 1 ≤ (f 37).toInt + 0 from by omega), (show 0 ≤ (f 32).toInt + 0 from by omega), (show (f 32).toInt + 0 ≤ (f 5).toInt + 0 from by omega), (show (f 5).toInt + 0 ≤ 48 from by omega), (show (f 37).toInt + 0 ≤ 2 * ((f 5).toInt + 0) + 1 from by omega), trivial⟩, ⟨⟨(show mg_k 1 from by decide), (show (0 : Int) ≤ (f 15).toInt + 1 + -1 from by omega), (show 0 ≤ (f 20).toInt from by omega), (show 1 ≤ (f 37).toInt + 0 + 0 from by omega), (show 0 ≤ (f 32).toInt + 0 + 0 from by omega), (show (f 32).toInt + 0 + 0 ≤ (f 5).toInt + 0 + 0 from by omega), (show (f 5).toInt + 0 + 0 ≤ 48 from by omega), (show (f 37).toInt + 0 + 0 ≤ 2 * ((f 5).toInt + 0 + 0) + 1 from by omega), trivial⟩, mg_cast (mg_good_ext _ _ _ _ _ _ (fun i _ => by show g'1246 34 i = g 34 i; rw [show g'1246 34 = g'1236 34 from h1250_ 34 (by decide), show g'1236 34 = g'1226 34 from h1241_ 34 (by decide), show g'1226 34 = g'20 34 from h1230_ 34 (by decide), show g'20 34 = g 34 from h24_ 34 (by decide)]) (fun i _ => by show g'1246 38 i = g 38 i; rw [show g'1246 38 = g'1236 38 from h1250_ 38 (by decide), show g'1236 38 = g'1226 38 from h1241_ 38 (by decide), show g'1226 38 = g'20 38 from h1230_ 38 (by decide), show g'20 38 = g 38 from h24_ 38 (by decide)]) (fun i _ => by show g'1246 23 i = g 23 i; rw [show g'1246 23 = g'1236 23 from h1250_ 23 (by decide), show g'1236 23 = g'1226 23 from h1241_ 23 (by decide), show g'1226 23 = g'20 23 from h1230_ 23 (by decide), show g'20 23 = g 23 from h24_ 23 (by decide)]) hrest) (by show (f 15).toInt + 0 = (f 15).toInt + 1 + -1 + 0; omega) (by show (f 20).toInt = (f 20).toInt; omega) (by show (f 37).toInt + 0 = (f 37).toInt + 0 + 0 + 0; omega) (by show (f 32).toInt + 0 = (f 32).toInt + 0 + 0 + 0; omega) (by show (f 5).toInt + 0 = (f 5).toInt + 0 + 0 + 0; omega)⟩⟩⟩ : mg_good (g'1246 34) (g'1246 38) (g'1246 23) (((23 : Int), (0 : Int), (0 : Int), (0 : Int), []) :: (((3 : Int), r1217.toInt, (0 : Int), (0 : Int), []) :: (((1 : Int), (0 : Int), (0 : Int), (0 : Int), []) :: gs))) ((f 15).toInt) ((f 20).toInt) ((f 37).toInt) ((f 32).toInt) ((f 5).toInt))
        · exact ⟨(by show 0 ≤ z1211.toInt; omega), (by show z1211.toInt ≤ (f 0).toInt; omega), (by show (f 0).toInt ≤ 512; omega), (by show 0 ≤ (f 24).toInt; omega), (by show (f 24).toInt + (f 20).toInt + mg_p1 (((23 : Int), (0 : Int), (0 : Int), (0 : Int), []) :: (((3 : Int), r1217.toInt, (0 : Int), (0 : Int), []) :: (((1 : Int), (0 : Int), (0 : Int), (0 : Int), []) :: gs))) ≤ 4 * z1211.toInt; omega), (by show (f 20).toInt ≤ z1211.toInt; omega), (by show (f 15).toInt + mg_p2 (((23 : Int), (0 : Int), (0 : Int), (0 : Int), []) :: (((3 : Int), r1217.toInt, (0 : Int), (0 : Int), []) :: (((1 : Int), (0 : Int), (0 : Int), (0 : Int), []) :: gs))) ≤ z1211.toInt; omega), (by show mg_p3 (((23 : Int), (0 : Int), (0 : Int), (0 : Int), []) :: (((3 : Int), r1217.toInt, (0 : Int), (0 : Int), []) :: (((1 : Int), (0 : Int), (0 : Int), (0 : Int), []) :: gs))) ≤ 20 * z1211.toInt + 20; omega), (by show 0 ≤ z1234.toInt; omega), (by show z1234.toInt + 3 * (f 20).toInt + mg_p4 (((23 : Int), (0 : Int), (0 : Int), (0 : Int), []) :: (((3 : Int), r1217.toInt, (0 : Int), (0 : Int), []) :: (((1 : Int), (0 : Int), (0 : Int), (0 : Int), []) :: gs))) ≤ 60 * z1211.toInt + 60; omega), (by show 0 ≤ (f 62).toInt; omega), (by show (f 62).toInt + 64 * mj_n (g'1246 16) (f 15).toNatClampNeg 3 ≤ 64 * z1211.toInt; rw [show g'1246 16 = g'1236 16 from h1250_ 16 (by decide), show g'1236 16 = g'1226 16 from h1241_ 16 (by decide), show g'1226 16 = g'20 16 from h1230_ 16 (by decide), show g'20 16 = g 16 from h24_ 16 (by decide)]; omega), (by show 0 ≤ (f 44).toInt; omega), (by show (f 44).toInt ≤ z1211.toInt; omega), (by show 0 ≤ (f 48).toInt; omega), (by show (f 48).toInt ≤ z1211.toInt; omega), (by show 1 ≤ (f 53).toInt; omega), (by show (f 53).toInt ≤ z1211.toInt + 1; omega), (by show 0 ≤ (f 19).toInt; omega), (by show (f 19).toInt ≤ 600; omega)⟩
        · show 100 * ((f 0).toInt - z1211.toInt) + mg_p3 (((23 : Int), (0 : Int), (0 : Int), (0 : Int), []) :: (((3 : Int), r1217.toInt, (0 : Int), (0 : Int), []) :: (((1 : Int), (0 : Int), (0 : Int), (0 : Int), []) :: gs))) < 100 * ((f 0).toInt - (f 4).toInt) + (1 + mg_p3 gs); omega
      by_cases c1252 : r2.toInt = 66
      · refine am_e19 (t := 117) hi_228_6 (am_swI (v := r2) (w := 66) (by decide) (by decide) c1252) ?_
        refine am_e2 (v := 39) hi_228_117 rfl ?_
        refine am_e7 hi_228_118 ?_
        refine mm_20 (v := .int (f 4)) hS22 hi_228_119 rfl ?_
        refine am_e0 hi_228_122 ?_
        obtain ⟨z1253, hz1253, tz1253⟩ := am_addI (x := f 4) (y := 1) (m := (f 4).toInt) (n := (1 : Int)) rfl (by decide) (by omega) (by omega)
        refine am_e10 (z := z1253) hi_228_123 hz1253 ?_
        refine mm_21 (v := z1253) hS22 hi_228_124 rfl (Nat.le_of_ble_eq_true rfl) ms_4 ?_
        intro S1254 hS1255
        replace hS1255 : MS S0 S1254 (upd (upd f 4 z1253) 10 z19) g'20 := hS1255
        have hR1256 : RJ (upd (upd f 4 z1253) 10 z19) g'20 (((1 : Int), (0 : Int), (0 : Int), (0 : Int), []) :: gs) bc [] 0 [] := RJ.at hR25_ (by show (f 4).toInt ≤ z1253.toInt; omega)
        refine am_e2 (v := 39) hi_228_127 rfl ?_
        refine am_e0 hi_228_128 ?_
        refine am_e32n (as := [.ref 39, .int 1]) (la := [some (.ref 39), some (.int 1)]) (rest := []) hi_228_129 (am_hd0 (M := 228) (by decide) 129) (Nat.le_of_ble_eq_true rfl) (Nat.le_of_ble_eq_true rfl) (show 2 ≤ am_P0.2.2.1 200 from by decide +kernel) rfl (am_recv_ok hS1255.fs) rfl rfl (ct_take (d := (d + 3)) hS1255   (by show (0 : Int) ≤ z1253.toInt; omega) (by show (f 0).toInt ≤ (16384 : Int); omega) (by show (0 : Int) ≤ (1 : Int); omega)) ?_
        rintro v1257 S1258 (⟨z1259, hv1260, hS1261, h1262, h1263⟩ | ⟨a1265, b1266, hv1267, hS1268⟩)
        · subst hv1260
          have h1262_ : z1259.toInt = z1253.toInt + 1 := h1262
          have h1263_ : z1253.toInt < (f 0).toInt := h1263
          replace hS1261 : MS S0 S1258 (upd (upd f 4 z1259) 10 z19) g'20 := hS1261
          have hR1270 : RJ (upd (upd f 4 z1259) 10 z19) g'20 (((1 : Int), (0 : Int), (0 : Int), (0 : Int), []) :: gs) bc [] 0 [] := RJ.at hR1256 (by show z1253.toInt ≤ z1259.toInt; omega)
          show am_E _ _ _ _ [some (.ref 39), some (.int r2), some (.int (f 4))] [.int 1] _ _
          refine am_e12f hi_228_132 (by decide) ?_
          refine am_e2 (v := 39) hi_228_135 rfl ?_
          refine am_e0 hi_228_136 ?_
          refine am_e32n (as := [.ref 39, .int 66]) (la := [some (.ref 39), some (.int 66)]) (rest := []) hi_228_138 (am_hd0 (M := 228) (by decide) 138) (Nat.le_of_ble_eq_true rfl) (Nat.le_of_ble_eq_true rfl) (show 2 ≤ am_P0.2.2.1 200 from by decide +kernel) rfl (am_recv_ok hS1261.fs) rfl rfl (ct_take (d := (d + 3)) hS1261   (by show (0 : Int) ≤ z1259.toInt; omega) (by show (f 0).toInt ≤ (16384 : Int); omega) (by show (0 : Int) ≤ (66 : Int); omega)) ?_
          rintro v1271 S1272 (⟨z1273, hv1274, hS1275, h1276, h1277⟩ | ⟨a1279, b1280, hv1281, hS1282⟩)
          · subst hv1274
            have h1276_ : z1273.toInt = z1259.toInt + 1 := h1276
            have h1277_ : z1259.toInt < (f 0).toInt := h1277
            replace hS1275 : MS S0 S1272 (upd (upd f 4 z1273) 10 z19) g'20 := hS1275
            have hR1284 : RJ (upd (upd f 4 z1273) 10 z19) g'20 (((1 : Int), (0 : Int), (0 : Int), (0 : Int), []) :: gs) bc [] 0 [] := RJ.at hR1270 (by show z1259.toInt ≤ z1273.toInt; omega)
            show am_E _ _ _ _ [some (.ref 39), some (.int r2), some (.int (f 4))] [.int 1] _ _
            refine am_e12f hi_228_141 (by decide) ?_
            refine am_e2 (v := 39) hi_228_144 rfl ?_
            refine am_e1 (v := f 4) hi_228_145 rfl ?_
            refine am_e0 hi_228_146 ?_
            refine am_e10 (z := z1253) hi_228_147 hz1253 ?_
            refine am_e32n (as := [.ref 39, .int z1253]) (la := [some (.ref 39), some (.int z1253), none, none, none, none]) (rest := []) hi_228_148 (am_hd0 (M := 228) (by decide) 148) (Nat.le_of_ble_eq_true rfl) (Nat.le_of_ble_eq_true rfl) (show 2 ≤ am_P0.2.2.1 229 from by decide +kernel) rfl (am_recv_ok hS1275.fs) rfl rfl (ct_label (d := (d + 3)) hS1275 hR1284  (by show (0 : Int) ≤ (f 32).toInt; omega) (by show (f 32).toInt ≤ (63 : Int); omega) (by show (f 53).toInt ≤ (4096 : Int); omega) (by show (0 : Int) ≤ (f 68).toInt; omega) (by show (f 68).toInt ≤ (65534 : Int); omega) (by show (0 : Int) ≤ z1273.toInt; omega) (by show (f 0).toInt ≤ (16384 : Int); omega) (by show (0 : Int) ≤ (f 48).toInt; omega) (by show (f 48).toInt ≤ (8192 : Int); omega) (by show z1273.toInt ≤ (f 0).toInt; omega) (by show z1273.toInt ≤ (8192 : Int); omega) (by show (f 48).toInt ≤ z1273.toInt; omega) (by show (0 : Int) ≤ (f 44).toInt; omega) (by show (f 44).toInt ≤ (8191 : Int); omega) (by show (1 : Int) ≤ (f 37).toInt; omega) (by show (f 37).toInt ≤ (128 : Int); omega) (by show (0 : Int) ≤ z1253.toInt; omega) (by show z1253.toInt ≤ (16383 : Int); omega)) ?_
            rintro v1285 S1286 (⟨a1287, b1288, y1289, z1290, g'1291, hv1292, hS1293, hR1298, h1294, h1295, h1296, h1297⟩)
            subst hv1292
            have h1294_ : y1289.toInt = (f 44).toInt + 1 := h1294
            have h1295_ : (0 : Int) ≤ z1290.toInt := h1295
            have h1296_ : z1290.toInt ≤ z1273.toInt := h1296
            have h1297_ : ∀ j, j ∉ [45, 46, 47, 49, 50, 51, 52, 71] → g'1291 j = g'20 j := h1297
            replace hS1293 : MS S0 S1286 (upd (upd (upd (upd (upd (upd f 4 z1273) 8 a1287) 9 b1288) 10 z19) 44 y1289) 48 z1290) g'1291 := hS1293
            have hR1298_ : RJ (upd (upd (upd (upd (upd (upd f 4 z1273) 8 a1287) 9 b1288) 10 z19) 44 y1289) 48 z1290) g'1291 (((1 : Int), (0 : Int), (0 : Int), (0 : Int), []) :: gs) bc [] 0 [] := hR1298
            show am_E _ _ _ _ [some (.ref 39), some (.int r2), some (.int (f 4))] [] _ _
            refine am_e18 hi_228_151 ?_
            refine am_e35 hi_228_422 ?_
            show am_E _ _ _ _ [some (.ref 39), some (.int r2)] [] _ _
            refine am_e35 hi_225_33 ?_
            show am_E _ _ _ _ [some (.ref 39), some (.int 1), some (.int on), some (.int tw), some (.int th)] [] _ _
            refine am_e18 hi_180_116 ?_
            refine am_e35 hi_180_371 ?_
            have q1 : mg_p1 (((1 : Int), (0 : Int), (0 : Int), (0 : Int), []) :: gs) = 0 + (mg_p1 gs) := rfl
            have q2 : mg_p2 (((1 : Int), (0 : Int), (0 : Int), (0 : Int), []) :: gs) = 0 + (mg_p2 gs) := rfl
            have q3 : mg_p3 (((1 : Int), (0 : Int), (0 : Int), (0 : Int), []) :: gs) = 1 + (mg_p3 gs) := rfl
            have q4 : mg_p4 (((1 : Int), (0 : Int), (0 : Int), (0 : Int), []) :: gs) = 0 + (mg_p4 gs) := rfl
            refine ⟨_, _, _, bc, rfl, hS1293, Or.inl ⟨⟨hR1298_, ?_, ?_⟩, rfl, ?_⟩⟩
            · exact (⟨⟨(show mg_k 1 from by decide), (show (0 : Int) ≤ (f 15).toInt from by omega), (show 0 ≤ (f 20).toInt from by omega), (show 1 ≤ (f 37).toInt from by omega), (show 0 ≤ (f 32).toInt from by omega), (show (f 32).toInt ≤ (f 5).toInt from by omega), (show (f 5).toInt ≤ 48 from by omega), (show (f 37).toInt ≤ 2 * ((f 5).toInt) + 1 from by omega), trivial⟩, mg_cast (mg_good_ext _ _ _ _ _ _ (fun i _ => by show g'1291 34 i = g 34 i; rw [show g'1291 34 = g'20 34 from h1297_ 34 (by decide), show g'20 34 = g 34 from h24_ 34 (by decide)]) (fun i _ => by show g'1291 38 i = g 38 i; rw [show g'1291 38 = g'20 38 from h1297_ 38 (by decide), show g'20 38 = g 38 from h24_ 38 (by decide)]) (fun i _ => by show g'1291 23 i = g 23 i; rw [show g'1291 23 = g'20 23 from h1297_ 23 (by decide), show g'20 23 = g 23 from h24_ 23 (by decide)]) hrest) (by show (f 15).toInt + 0 = (f 15).toInt + 0; omega) (by show (f 20).toInt = (f 20).toInt; omega) (by show (f 37).toInt + 0 = (f 37).toInt + 0; omega) (by show (f 32).toInt + 0 = (f 32).toInt + 0; omega) (by show (f 5).toInt + 0 = (f 5).toInt + 0; omega)⟩ : mg_good (g'1291 34) (g'1291 38) (g'1291 23) (((1 : Int), (0 : Int), (0 : Int), (0 : Int), []) :: gs) ((f 15).toInt) ((f 20).toInt) ((f 37).toInt) ((f 32).toInt) ((f 5).toInt))
            · exact ⟨(by show 0 ≤ z1273.toInt; omega), (by show z1273.toInt ≤ (f 0).toInt; omega), (by show (f 0).toInt ≤ 512; omega), (by show 0 ≤ (f 24).toInt; omega), (by show (f 24).toInt + (f 20).toInt + mg_p1 (((1 : Int), (0 : Int), (0 : Int), (0 : Int), []) :: gs) ≤ 4 * z1273.toInt; omega), (by show (f 20).toInt ≤ z1273.toInt; omega), (by show (f 15).toInt + mg_p2 (((1 : Int), (0 : Int), (0 : Int), (0 : Int), []) :: gs) ≤ z1273.toInt; omega), (by show mg_p3 (((1 : Int), (0 : Int), (0 : Int), (0 : Int), []) :: gs) ≤ 20 * z1273.toInt + 20; omega), (by show 0 ≤ (f 68).toInt; omega), (by show (f 68).toInt + 3 * (f 20).toInt + mg_p4 (((1 : Int), (0 : Int), (0 : Int), (0 : Int), []) :: gs) ≤ 60 * z1273.toInt + 60; omega), (by show 0 ≤ (f 62).toInt; omega), (by show (f 62).toInt + 64 * mj_n (g'1291 16) (f 15).toNatClampNeg 3 ≤ 64 * z1273.toInt; rw [show g'1291 16 = g'20 16 from h1297_ 16 (by decide), show g'20 16 = g 16 from h24_ 16 (by decide)]; omega), (by show 0 ≤ y1289.toInt; omega), (by show y1289.toInt ≤ z1273.toInt; omega), (by show 0 ≤ z1290.toInt; omega), (by show z1290.toInt ≤ z1273.toInt; omega), (by show 1 ≤ (f 53).toInt; omega), (by show (f 53).toInt ≤ z1273.toInt + 1; omega), (by show 0 ≤ (f 19).toInt; omega), (by show (f 19).toInt ≤ 600; omega)⟩
            · show 100 * ((f 0).toInt - z1273.toInt) + mg_p3 (((1 : Int), (0 : Int), (0 : Int), (0 : Int), []) :: gs) < 100 * ((f 0).toInt - (f 4).toInt) + (1 + mg_p3 gs); omega
          · subst hv1281
            replace hS1282 : MS S0 S1272 (upd (upd (upd (upd f 4 z1259) 6 a1279) 7 b1280) 10 0) g'20 := hS1282
            have hR1299 := rj_clear0 hR1270
            have hR1300 : RJ (upd (upd (upd (upd f 4 z1259) 6 a1279) 7 b1280) 10 0) g'20 [] bc [] 0 [] := hR1299
            show am_E _ _ _ _ [some (.ref 39), some (.int r2), some (.int (f 4))] [.int 0] _ _
            refine am_e12t hi_228_141 (by decide) ?_
            refine am_e35 hi_228_422 ?_
            show am_E _ _ _ _ [some (.ref 39), some (.int r2)] [] _ _
            refine am_e35 hi_225_33 ?_
            show am_E _ _ _ _ [some (.ref 39), some (.int 1), some (.int on), some (.int tw), some (.int th)] [] _ _
            refine am_e18 hi_180_116 ?_
            refine am_e35 hi_180_371 ?_
            have hRc := rj_clear0 hR1300
            refine ⟨_, _, [], _, rfl, hS1282, Or.inr ⟨hRc, rfl, (by show 0 ≤ z1259.toInt; omega), (by show z1259.toInt ≤ (f 0).toInt; omega), (by show 0 ≤ (f 32).toInt; omega), (by show (f 32).toInt ≤ 63; omega), (by show 1 ≤ (f 53).toInt; omega), (by show (f 53).toInt ≤ 600; omega), (by show 0 ≤ (f 68).toInt; omega), (by show (f 68).toInt ≤ 60000; omega), (by show 0 ≤ (f 48).toInt; omega), (by show (f 48).toInt ≤ 8000; omega), (by show 0 ≤ (f 37).toInt; omega), (by show (f 37).toInt ≤ 128; omega), (by show 0 ≤ (f 62).toInt; omega), (by show (f 62).toInt ≤ 65000; omega), (by show 0 ≤ (f 19).toInt; omega), (by show (f 19).toInt ≤ 600; omega)⟩⟩
        · subst hv1267
          replace hS1268 : MS S0 S1258 (upd (upd (upd (upd f 4 z1253) 6 a1265) 7 b1266) 10 0) g'20 := hS1268
          have hR1301 := rj_clear0 hR1256
          have hR1302 : RJ (upd (upd (upd (upd f 4 z1253) 6 a1265) 7 b1266) 10 0) g'20 [] bc [] 0 [] := hR1301
          show am_E _ _ _ _ [some (.ref 39), some (.int r2), some (.int (f 4))] [.int 0] _ _
          refine am_e12t hi_228_132 (by decide) ?_
          refine am_e35 hi_228_422 ?_
          show am_E _ _ _ _ [some (.ref 39), some (.int r2)] [] _ _
          refine am_e35 hi_225_33 ?_
          show am_E _ _ _ _ [some (.ref 39), some (.int 1), some (.int on), some (.int tw), some (.int th)] [] _ _
          refine am_e18 hi_180_116 ?_
          refine am_e35 hi_180_371 ?_
          have hRc := rj_clear0 hR1302
          refine ⟨_, _, [], _, rfl, hS1268, Or.inr ⟨hRc, rfl, (by show 0 ≤ z1253.toInt; omega), (by show z1253.toInt ≤ (f 0).toInt; omega), (by show 0 ≤ (f 32).toInt; omega), (by show (f 32).toInt ≤ 63; omega), (by show 1 ≤ (f 53).toInt; omega), (by show (f 53).toInt ≤ 600; omega), (by show 0 ≤ (f 68).toInt; omega), (by show (f 68).toInt ≤ 60000; omega), (by show 0 ≤ (f 48).toInt; omega), (by show (f 48).toInt ≤ 8000; omega), (by show 0 ≤ (f 37).toInt; omega), (by show (f 37).toInt ≤ 128; omega), (by show 0 ≤ (f 62).toInt; omega), (by show (f 62).toInt ≤ 65000; omega), (by show 0 ≤ (f 19).toInt; omega), (by show (f 19).toInt ≤ 600; omega)⟩⟩
      by_cases c1303 : r2.toInt = 67
      · refine am_e19 (t := 104) hi_228_6 (am_swI (v := r2) (w := 67) (by decide) (by decide) c1303) ?_
        refine am_e2 (v := 39) hi_228_104 rfl ?_
        refine am_e7 hi_228_105 ?_
        refine mm_20 (v := .int (f 4)) hS22 hi_228_106 rfl ?_
        refine am_e0 hi_228_109 ?_
        obtain ⟨z1304, hz1304, tz1304⟩ := am_addI (x := f 4) (y := 1) (m := (f 4).toInt) (n := (1 : Int)) rfl (by decide) (by omega) (by omega)
        refine am_e10 (z := z1304) hi_228_110 hz1304 ?_
        refine mm_21 (v := z1304) hS22 hi_228_111 rfl (Nat.le_of_ble_eq_true rfl) ms_4 ?_
        intro S1305 hS1306
        replace hS1306 : MS S0 S1305 (upd (upd f 4 z1304) 10 z19) g'20 := hS1306
        have hR1307 : RJ (upd (upd f 4 z1304) 10 z19) g'20 (((1 : Int), (0 : Int), (0 : Int), (0 : Int), []) :: gs) bc [] 0 [] := RJ.at hR25_ (by show (f 4).toInt ≤ z1304.toInt; omega)
        refine am_e18 hi_228_114 ?_
        refine am_e35 hi_228_422 ?_
        show am_E _ _ _ _ [some (.ref 39), some (.int r2)] [] _ _
        refine am_e35 hi_225_33 ?_
        show am_E _ _ _ _ [some (.ref 39), some (.int 1), some (.int on), some (.int tw), some (.int th)] [] _ _
        refine am_e18 hi_180_116 ?_
        refine am_e35 hi_180_371 ?_
        have q1 : mg_p1 (((1 : Int), (0 : Int), (0 : Int), (0 : Int), []) :: gs) = 0 + (mg_p1 gs) := rfl
        have q2 : mg_p2 (((1 : Int), (0 : Int), (0 : Int), (0 : Int), []) :: gs) = 0 + (mg_p2 gs) := rfl
        have q3 : mg_p3 (((1 : Int), (0 : Int), (0 : Int), (0 : Int), []) :: gs) = 1 + (mg_p3 gs) := rfl
        have q4 : mg_p4 (((1 : Int), (0 : Int), (0 : Int), (0 : Int), []) :: gs) = 0 + (mg_p4 gs) := rfl
        refine ⟨_, _, _, bc, rfl, hS1306, Or.inl ⟨⟨hR1307, ?_, ?_⟩, rfl, ?_⟩⟩
        · exact (⟨⟨(show mg_k 1 from by decide), (show (0 : Int) ≤ (f 15).toInt from by omega), (show 0 ≤ (f 20).toInt from by omega), (show 1 ≤ (f 37).toInt from by omega), (show 0 ≤ (f 32).toInt from by omega), (show (f 32).toInt ≤ (f 5).toInt from by omega), (show (f 5).toInt ≤ 48 from by omega), (show (f 37).toInt ≤ 2 * ((f 5).toInt) + 1 from by omega), trivial⟩, mg_cast (mg_good_ext _ _ _ _ _ _ (fun i _ => by show g'20 34 i = g 34 i; rw [show g'20 34 = g 34 from h24_ 34 (by decide)]) (fun i _ => by show g'20 38 i = g 38 i; rw [show g'20 38 = g 38 from h24_ 38 (by decide)]) (fun i _ => by show g'20 23 i = g 23 i; rw [show g'20 23 = g 23 from h24_ 23 (by decide)]) hrest) (by show (f 15).toInt + 0 = (f 15).toInt + 0; omega) (by show (f 20).toInt = (f 20).toInt; omega) (by show (f 37).toInt + 0 = (f 37).toInt + 0; omega) (by show (f 32).toInt + 0 = (f 32).toInt + 0; omega) (by show (f 5).toInt + 0 = (f 5).toInt + 0; omega)⟩ : mg_good (g'20 34) (g'20 38) (g'20 23) (((1 : Int), (0 : Int), (0 : Int), (0 : Int), []) :: gs) ((f 15).toInt) ((f 20).toInt) ((f 37).toInt) ((f 32).toInt) ((f 5).toInt))
        · exact ⟨(by show 0 ≤ z1304.toInt; omega), (by show z1304.toInt ≤ (f 0).toInt; omega), (by show (f 0).toInt ≤ 512; omega), (by show 0 ≤ (f 24).toInt; omega), (by show (f 24).toInt + (f 20).toInt + mg_p1 (((1 : Int), (0 : Int), (0 : Int), (0 : Int), []) :: gs) ≤ 4 * z1304.toInt; omega), (by show (f 20).toInt ≤ z1304.toInt; omega), (by show (f 15).toInt + mg_p2 (((1 : Int), (0 : Int), (0 : Int), (0 : Int), []) :: gs) ≤ z1304.toInt; omega), (by show mg_p3 (((1 : Int), (0 : Int), (0 : Int), (0 : Int), []) :: gs) ≤ 20 * z1304.toInt + 20; omega), (by show 0 ≤ (f 68).toInt; omega), (by show (f 68).toInt + 3 * (f 20).toInt + mg_p4 (((1 : Int), (0 : Int), (0 : Int), (0 : Int), []) :: gs) ≤ 60 * z1304.toInt + 60; omega), (by show 0 ≤ (f 62).toInt; omega), (by show (f 62).toInt + 64 * mj_n (g'20 16) (f 15).toNatClampNeg 3 ≤ 64 * z1304.toInt; rw [show g'20 16 = g 16 from h24_ 16 (by decide)]; omega), (by show 0 ≤ (f 44).toInt; omega), (by show (f 44).toInt ≤ z1304.toInt; omega), (by show 0 ≤ (f 48).toInt; omega), (by show (f 48).toInt ≤ z1304.toInt; omega), (by show 1 ≤ (f 53).toInt; omega), (by show (f 53).toInt ≤ z1304.toInt + 1; omega), (by show 0 ≤ (f 19).toInt; omega), (by show (f 19).toInt ≤ 600; omega)⟩
        · show 100 * ((f 0).toInt - z1304.toInt) + mg_p3 (((1 : Int), (0 : Int), (0 : Int), (0 : Int), []) :: gs) < 100 * ((f 0).toInt - (f 4).toInt) + (1 + mg_p3 gs); omega
      refine am_e19 (t := 397) hi_228_6 (am_swK (v := r2) (ks := [11, 12, 17, 18, 19, 20, 22, 26, 31, 66, 67]) (by decide) (by intro k hk; simp only [List.mem_cons, List.not_mem_nil, or_false] at hk; rcases hk with rfl | rfl | rfl | rfl | rfl | rfl | rfl | rfl | rfl | rfl | rfl <;> omega)) ?_
      refine am_e2 (v := 39) hi_228_397 rfl ?_
      refine am_e0 hi_228_398 ?_
      refine am_e0 hi_228_400 ?_
      refine am_e2 (v := 39) hi_228_401 rfl ?_
      refine mm_20 (v := .int (f 20)) hS22 hi_228_402 rfl ?_
      refine am_e0 hi_228_405 ?_
      refine am_e32n (as := [.ref 39, .int 21, .int 0, .int (f 20), .int 0]) (la := [some (.ref 39), some (.int 21), some (.int 0), some (.int (f 20)), some (.int 0)]) (rest := []) hi_228_406 (am_hd0 (M := 228) (by decide) 406) (Nat.le_of_ble_eq_true rfl) (Nat.le_of_ble_eq_true rfl) (show 5 ≤ am_P0.2.2.1 179 from by decide +kernel) rfl (am_recv_ok hS22.fs) rfl rfl (ct_pile (d := (d + 5)) hS22 hR25_ (mj_e_plain (by decide)) (by show (0 : Int) ≤ z19.toInt; omega) (by show z19.toInt ≤ (65535 : Int); omega)) ?_
      rintro v1308 S1309 (⟨z1310, g'1311, hv1312, hS1313, hR1316, h1314, h1315⟩)
      subst hv1312
      have h1314_ : z1310.toInt = z19.toInt + 1 := h1314
      have h1315_ : ∀ j, j ∉ [11, 12, 13, 14] → g'1311 j = g'20 j := h1315
      replace hS1313 : MS S0 S1309 (upd f 10 z1310) g'1311 := hS1313
      have hR1316_ : RJ (upd f 10 z1310) g'1311 (((21 : Int), (0 : Int), (f 20).toInt, (0 : Int), []) :: (((1 : Int), (0 : Int), (0 : Int), (0 : Int), []) :: gs)) bc [] 0 [] := hR1316
      show am_E _ _ _ _ [some (.ref 39), some (.int r2), some (.int (f 4))] [] _ _
      refine am_e2 (v := 39) hi_228_409 rfl ?_
      refine am_e0 hi_228_410 ?_
      refine am_e0 hi_228_412 ?_
      refine am_e0 hi_228_413 ?_
      refine am_e0 hi_228_414 ?_
      refine am_e32n (as := [.ref 39, .int 28, .int 0, .int 0, .int 0]) (la := [some (.ref 39), some (.int 28), some (.int 0), some (.int 0), some (.int 0)]) (rest := []) hi_228_415 (am_hd0 (M := 228) (by decide) 415) (Nat.le_of_ble_eq_true rfl) (Nat.le_of_ble_eq_true rfl) (show 5 ≤ am_P0.2.2.1 179 from by decide +kernel) rfl (am_recv_ok hS1313.fs) rfl rfl (ct_pile (d := (d + 5)) hS1313 hR1316_ (mj_e_plain (by decide)) (by show (0 : Int) ≤ z1310.toInt; omega) (by show z1310.toInt ≤ (65535 : Int); omega)) ?_
      rintro v1317 S1318 (⟨z1319, g'1320, hv1321, hS1322, hR1325, h1323, h1324⟩)
      subst hv1321
      have h1323_ : z1319.toInt = z1310.toInt + 1 := h1323
      have h1324_ : ∀ j, j ∉ [11, 12, 13, 14] → g'1320 j = g'1311 j := h1324
      replace hS1322 : MS S0 S1318 (upd f 10 z1319) g'1320 := hS1322
      have hR1325_ : RJ (upd f 10 z1319) g'1320 (((28 : Int), (0 : Int), (0 : Int), (0 : Int), []) :: (((21 : Int), (0 : Int), (f 20).toInt, (0 : Int), []) :: (((1 : Int), (0 : Int), (0 : Int), (0 : Int), []) :: gs))) bc [] 0 [] := hR1325
      show am_E _ _ _ _ [some (.ref 39), some (.int r2), some (.int (f 4))] [] _ _
      refine am_e2 (v := 39) hi_228_418 rfl ?_
      refine am_e32w (as := [.ref 39]) (la := [some (.ref 39)]) (rest := []) hi_228_419 (am_hd0 (M := 228) (by decide) 419) (Nat.le_of_ble_eq_true rfl) (Nat.le_of_ble_eq_true rfl) (show 1 ≤ am_P0.2.2.1 201 from by decide +kernel) rfl (am_recv_ok hS1322.fs) rfl rfl ?_
      refine am_e2 (v := 39) hi_201_0 rfl ?_
      refine am_e32n (as := [.ref 39]) (la := [some (.ref 39)]) (rest := []) hi_201_1 (am_hd0 (M := 201) (by decide) 1) (Nat.le_of_ble_eq_true rfl) (Nat.le_of_ble_eq_true rfl) (show 1 ≤ am_P0.2.2.1 183 from by decide +kernel) rfl (am_recv_ok hS1322.fs) rfl rfl (ct_next (d := (d + 3)) hS1322   (by show (0 : Int) ≤ (f 4).toInt; omega) (by show (f 0).toInt ≤ (16384 : Int); omega)) ?_
      rintro v1326 S1327 (⟨r1328, hv1329, hS1330, h1331⟩)
      subst hv1329
      have h1331_ : (f 4).toInt < (f 0).toInt ∨ r1328.toInt = (-1 : Int) := h1331
      show am_E _ _ _ _ [some (.ref 39)] [.int r1328] _ _
      refine am_e0 hi_201_4 ?_
      by_cases c1333 : ¬ r1328.toInt = (1 : Int)
      · refine am_e13t hi_201_5 (am_cT (m := r1328.toInt) (n := (1 : Int)) rfl (by decide) c1333) ?_
        refine am_e2 (v := 39) hi_201_31 rfl ?_
        refine am_e0 hi_201_32 ?_
        refine am_e32n (as := [.ref 39, .int 60]) (la := [some (.ref 39), some (.int 60)]) (rest := []) hi_201_34 (am_hd0 (M := 201) (by decide) 34) (Nat.le_of_ble_eq_true rfl) (Nat.le_of_ble_eq_true rfl) (show 2 ≤ am_P0.2.2.1 193 from by decide +kernel) rfl (am_recv_ok hS1330.fs) rfl rfl (ct_enter (d := (d + 2)) hS1330   (by show (0 : Int) ≤ (f 4).toInt; omega) (by show (f 0).toInt ≤ (16384 : Int); omega) (by show (0 : Int) ≤ (60 : Int); omega) (by show (0 : Int) ≤ (f 5).toInt; omega) (by show (f 5).toInt ≤ (48 : Int); omega)) ?_
        rintro v1334 S1335 (⟨z1336, y1337, hv1338, hS1339, h1340, h1341, h1342, h1343⟩ | ⟨a1345, b1346, hv1347, hS1348⟩)
        · subst hv1338
          have h1340_ : z1336.toInt = (f 4).toInt + 1 := h1340
          have h1341_ : (f 4).toInt < (f 0).toInt := h1341
          have h1342_ : y1337.toInt = (f 5).toInt + 1 := h1342
          have h1343_ : y1337.toInt ≤ (48 : Int) := h1343
          replace hS1339 : MS S0 S1335 (upd (upd (upd f 4 z1336) 5 y1337) 10 z1319) g'1320 := hS1339
          have hR1350 : RJ (upd (upd (upd f 4 z1336) 5 y1337) 10 z1319) g'1320 (((28 : Int), (0 : Int), (0 : Int), (0 : Int), []) :: (((21 : Int), (0 : Int), (f 20).toInt, (0 : Int), []) :: (((1 : Int), (0 : Int), (0 : Int), (0 : Int), []) :: gs))) bc [] 0 [] := RJ.at hR1325_ (by show (f 4).toInt ≤ z1336.toInt; omega)
          show am_E _ _ _ _ [some (.ref 39)] [.int 1] _ _
          refine am_e12f hi_201_37 (by decide) ?_
          refine am_e2 (v := 39) hi_201_40 rfl ?_
          refine am_e0 hi_201_41 ?_
          refine am_e0 hi_201_43 ?_
          refine am_e0 hi_201_44 ?_
          refine am_e0 hi_201_45 ?_
          refine am_e32n (as := [.ref 39, .int 29, .int 0, .int 0, .int 0]) (la := [some (.ref 39), some (.int 29), some (.int 0), some (.int 0), some (.int 0)]) (rest := []) hi_201_46 (am_hd0 (M := 201) (by decide) 46) (Nat.le_of_ble_eq_true rfl) (Nat.le_of_ble_eq_true rfl) (show 5 ≤ am_P0.2.2.1 179 from by decide +kernel) rfl (am_recv_ok hS1339.fs) rfl rfl (ct_pile (d := (d + 4)) hS1339 hR1350 (mj_e_plain (by decide)) (by show (0 : Int) ≤ z1319.toInt; omega) (by show z1319.toInt ≤ (65535 : Int); omega)) ?_
          rintro v1351 S1352 (⟨z1353, g'1354, hv1355, hS1356, hR1359, h1357, h1358⟩)
          subst hv1355
          have h1357_ : z1353.toInt = z1319.toInt + 1 := h1357
          have h1358_ : ∀ j, j ∉ [11, 12, 13, 14] → g'1354 j = g'1320 j := h1358
          replace hS1356 : MS S0 S1352 (upd (upd (upd f 4 z1336) 5 y1337) 10 z1353) g'1354 := hS1356
          have hR1359_ : RJ (upd (upd (upd f 4 z1336) 5 y1337) 10 z1353) g'1354 (((29 : Int), (0 : Int), (0 : Int), (0 : Int), []) :: (((28 : Int), (0 : Int), (0 : Int), (0 : Int), []) :: (((21 : Int), (0 : Int), (f 20).toInt, (0 : Int), []) :: (((1 : Int), (0 : Int), (0 : Int), (0 : Int), []) :: gs)))) bc [] 0 [] := hR1359
          show am_E _ _ _ _ [some (.ref 39)] [] _ _
          refine am_e2 (v := 39) hi_201_49 rfl ?_
          refine am_e0 hi_201_50 ?_
          refine am_e32w (as := [.ref 39, .int 0]) (la := [some (.ref 39), some (.int 0)]) (rest := []) hi_201_51 (am_hd0 (M := 201) (by decide) 51) (Nat.le_of_ble_eq_true rfl) (Nat.le_of_ble_eq_true rfl) (show 2 ≤ am_P0.2.2.1 186 from by decide +kernel) rfl (am_recv_ok hS1356.fs) rfl rfl ?_
          refine am_e2 (v := 39) hi_186_0 rfl ?_
          refine am_e0 hi_186_1 ?_
          refine am_e1 (v := 0) hi_186_3 rfl ?_
          refine am_e0 hi_186_4 ?_
          refine am_e0 hi_186_5 ?_
          refine am_e32n (as := [.ref 39, .int 23, .int 0, .int 0, .int 0]) (la := [some (.ref 39), some (.int 23), some (.int 0), some (.int 0), some (.int 0)]) (rest := []) hi_186_6 (am_hd0 (M := 186) (by decide) 6) (Nat.le_of_ble_eq_true rfl) (Nat.le_of_ble_eq_true rfl) (show 5 ≤ am_P0.2.2.1 179 from by decide +kernel) rfl (am_recv_ok hS1356.fs) rfl rfl (ct_pile (d := (d + 3)) hS1356 hR1359_ (mj_e_plain (by decide)) (by show (0 : Int) ≤ z1353.toInt; omega) (by show z1353.toInt ≤ (65535 : Int); omega)) ?_
          rintro v1360 S1361 (⟨z1362, g'1363, hv1364, hS1365, hR1368, h1366, h1367⟩)
          subst hv1364
          have h1366_ : z1362.toInt = z1353.toInt + 1 := h1366
          have h1367_ : ∀ j, j ∉ [11, 12, 13, 14] → g'1363 j = g'1354 j := h1367
          replace hS1365 : MS S0 S1361 (upd (upd (upd f 4 z1336) 5 y1337) 10 z1362) g'1363 := hS1365
          have hR1368_ : RJ (upd (upd (upd f 4 z1336) 5 y1337) 10 z1362) g'1363 (((23 : Int), (0 : Int), (0 : Int), (0 : Int), []) :: (((29 : Int), (0 : Int), (0 : Int), (0 : Int), []) :: (((28 : Int), (0 : Int), (0 : Int), (0 : Int), []) :: (((21 : Int), (0 : Int), (f 20).toInt, (0 : Int), []) :: (((1 : Int), (0 : Int), (0 : Int), (0 : Int), []) :: gs))))) bc [] 0 [] := hR1368
          show am_E _ _ _ _ [some (.ref 39), some (.int 0)] [] _ _
          refine am_e35 hi_186_9 ?_
          show am_E _ _ _ _ [some (.ref 39)] [] _ _
          refine am_e35 hi_201_54 ?_
          show am_E _ _ _ _ [some (.ref 39), some (.int r2), some (.int (f 4))] [] _ _
          refine am_e35 hi_228_422 ?_
          show am_E _ _ _ _ [some (.ref 39), some (.int r2)] [] _ _
          refine am_e35 hi_225_33 ?_
          show am_E _ _ _ _ [some (.ref 39), some (.int 1), some (.int on), some (.int tw), some (.int th)] [] _ _
          refine am_e18 hi_180_116 ?_
          refine am_e35 hi_180_371 ?_
          have q1 : mg_p1 (((23 : Int), (0 : Int), (0 : Int), (0 : Int), []) :: (((29 : Int), (0 : Int), (0 : Int), (0 : Int), []) :: (((28 : Int), (0 : Int), (0 : Int), (0 : Int), []) :: (((21 : Int), (0 : Int), (f 20).toInt, (0 : Int), []) :: (((1 : Int), (0 : Int), (0 : Int), (0 : Int), []) :: gs))))) = 0 + (0 + (0 + (0 + (0 + (mg_p1 gs))))) := rfl
          have q2 : mg_p2 (((23 : Int), (0 : Int), (0 : Int), (0 : Int), []) :: (((29 : Int), (0 : Int), (0 : Int), (0 : Int), []) :: (((28 : Int), (0 : Int), (0 : Int), (0 : Int), []) :: (((21 : Int), (0 : Int), (f 20).toInt, (0 : Int), []) :: (((1 : Int), (0 : Int), (0 : Int), (0 : Int), []) :: gs))))) = 0 + (0 + (0 + (0 + (0 + (mg_p2 gs))))) := rfl
          have q3 : mg_p3 (((23 : Int), (0 : Int), (0 : Int), (0 : Int), []) :: (((29 : Int), (0 : Int), (0 : Int), (0 : Int), []) :: (((28 : Int), (0 : Int), (0 : Int), (0 : Int), []) :: (((21 : Int), (0 : Int), (f 20).toInt, (0 : Int), []) :: (((1 : Int), (0 : Int), (0 : Int), (0 : Int), []) :: gs))))) = 1 + (1 + (1 + (1 + (1 + (mg_p3 gs))))) := rfl
          have q4 : mg_p4 (((23 : Int), (0 : Int), (0 : Int), (0 : Int), []) :: (((29 : Int), (0 : Int), (0 : Int), (0 : Int), []) :: (((28 : Int), (0 : Int), (0 : Int), (0 : Int), []) :: (((21 : Int), (0 : Int), (f 20).toInt, (0 : Int), []) :: (((1 : Int), (0 : Int), (0 : Int), (0 : Int), []) :: gs))))) = 0 + (0 + (0 + (0 + (0 + (mg_p4 gs))))) := rfl
          refine ⟨_, _, _, bc, rfl, hS1365, Or.inl ⟨⟨hR1368_, ?_, ?_⟩, rfl, ?_⟩⟩
          · exact (⟨⟨(show mg_k 23 from by decide), (show (0 : Int) ≤ (f 15).toInt from by omega), (show 0 ≤ (f 20).toInt from by omega), (show 1 ≤ (f 37).toInt from by omega), (show 0 ≤ (f 32).toInt from by omega), (show (f 32).toInt ≤ y1337.toInt from by omega), (show y1337.toInt ≤ 48 from by omega), (show (f 37).toInt ≤ 2 * (y1337.toInt) + 2 from by omega), (show 0 ≤ (0 : Int) from by omega)⟩, ⟨⟨(show mg_k 29 from by decide), (show (1 : Int) ≤ (f 15).toInt + 1 from by omega), (show 0 ≤ (f 20).toInt from by omega), (show 1 ≤ (f 37).toInt + 0 from by omega), (show 0 ≤ (f 32).toInt + 0 from by omega), (show (f 32).toInt + 0 ≤ y1337.toInt + 0 from by omega), (show y1337.toInt + 0 ≤ 48 from by omega), (show (f 37).toInt + 0 ≤ 2 * (y1337.toInt + 0) + 2 from by omega), trivial⟩, ⟨⟨(show mg_k 28 from by decide), (show (1 : Int) ≤ (f 15).toInt + 1 + 0 from by omega), (show 0 ≤ (f 20).toInt from by omega), (show 1 ≤ (f 37).toInt + 0 + 0 from by omega), (show 0 ≤ (f 32).toInt + 0 + 0 from by omega), (show (f 32).toInt + 0 + 0 ≤ y1337.toInt + 0 + -1 from by omega), (show y1337.toInt + 0 + -1 ≤ 48 from by omega), (show (f 37).toInt + 0 + 0 ≤ 2 * (y1337.toInt + 0 + -1) + 2 from by omega), trivial⟩, ⟨⟨(show mg_k 21 from by decide), (show (1 : Int) ≤ (f 15).toInt + 1 + 0 + 0 from by omega), (show 0 ≤ (f 20).toInt from by omega), (show 1 ≤ (f 37).toInt + 0 + 0 + 0 from by omega), (show 0 ≤ (f 32).toInt + 0 + 0 + 0 from by omega), (show (f 32).toInt + 0 + 0 + 0 ≤ y1337.toInt + 0 + -1 + 0 from by omega), (show y1337.toInt + 0 + -1 + 0 ≤ 48 from by omega), (show (f 37).toInt + 0 + 0 + 0 ≤ 2 * (y1337.toInt + 0 + -1 + 0) + 1 from by omega), ⟨(show 0 ≤ (0 : Int) from by omega), (show 0 ≤ (f 20).toInt from by omega), (show (f 20).toInt = (f 20).toInt + (0 : Int) from by omega)⟩⟩, ⟨⟨(show mg_k 1 from by decide), (show (0 : Int) ≤ (f 15).toInt + 1 + 0 + 0 + -1 from by omega), (show 0 ≤ (f 20).toInt from by omega), (show 1 ≤ (f 37).toInt + 0 + 0 + 0 + 0 from by omega), (show 0 ≤ (f 32).toInt + 0 + 0 + 0 + 0 from by omega), (show (f 32).toInt + 0 + 0 + 0 + 0 ≤ y1337.toInt + 0 + -1 + 0 + 0 from by omega), (show y1337.toInt + 0 + -1 + 0 + 0 ≤ 48 from by omega), (show (f 37).toInt + 0 + 0 + 0 + 0 ≤ 2 * (y1337.toInt + 0 + -1 + 0 + 0) + 1 from by omega), trivial⟩, mg_cast (mg_good_ext _ _ _ _ _ _ (fun i _ => by show g'1363 34 i = g 34 i; rw [show g'1363 34 = g'1354 34 from h1367_ 34 (by decide), show g'1354 34 = g'1320 34 from h1358_ 34 (by decide), show g'1320 34 = g'1311 34 from h1324_ 34 (by decide), show g'1311 34 = g'20 34 from h1315_ 34 (by decide), show g'20 34 = g 34 from h24_ 34 (by decide)]) (fun i _ => by show g'1363 38 i = g 38 i; rw [show g'1363 38 = g'1354 38 from h1367_ 38 (by decide), show g'1354 38 = g'1320 38 from h1358_ 38 (by decide), show g'1320 38 = g'1311 38 from h1324_ 38 (by decide), show g'1311 38 = g'20 38 from h1315_ 38 (by decide), show g'20 38 = g 38 from h24_ 38 (by decide)]) (fun i _ => by show g'1363 23 i = g 23 i; rw [show g'1363 23 = g'1354 23 from h1367_ 23 (by decide), show g'1354 23 = g'1320 23 from h1358_ 23 (by decide), show g'1320 23 = g'1311 23 from h1324_ 23 (by decide), show g'1311 23 = g'20 23 from h1315_ 23 (by decide), show g'20 23 = g 23 from h24_ 23 (by decide)]) hrest) (by show (f 15).toInt + 0 = (f 15).toInt + 1 + 0 + 0 + -1 + 0; omega) (by show (f 20).toInt = (f 20).toInt; omega) (by show (f 37).toInt + 0 = (f 37).toInt + 0 + 0 + 0 + 0 + 0; omega) (by show (f 32).toInt + 0 = (f 32).toInt + 0 + 0 + 0 + 0 + 0; omega) (by show (f 5).toInt + 0 = y1337.toInt + 0 + -1 + 0 + 0 + 0; omega)⟩⟩⟩⟩⟩ : mg_good (g'1363 34) (g'1363 38) (g'1363 23) (((23 : Int), (0 : Int), (0 : Int), (0 : Int), []) :: (((29 : Int), (0 : Int), (0 : Int), (0 : Int), []) :: (((28 : Int), (0 : Int), (0 : Int), (0 : Int), []) :: (((21 : Int), (0 : Int), (f 20).toInt, (0 : Int), []) :: (((1 : Int), (0 : Int), (0 : Int), (0 : Int), []) :: gs))))) ((f 15).toInt) ((f 20).toInt) ((f 37).toInt) ((f 32).toInt) (y1337.toInt))
          · exact ⟨(by show 0 ≤ z1336.toInt; omega), (by show z1336.toInt ≤ (f 0).toInt; omega), (by show (f 0).toInt ≤ 512; omega), (by show 0 ≤ (f 24).toInt; omega), (by show (f 24).toInt + (f 20).toInt + mg_p1 (((23 : Int), (0 : Int), (0 : Int), (0 : Int), []) :: (((29 : Int), (0 : Int), (0 : Int), (0 : Int), []) :: (((28 : Int), (0 : Int), (0 : Int), (0 : Int), []) :: (((21 : Int), (0 : Int), (f 20).toInt, (0 : Int), []) :: (((1 : Int), (0 : Int), (0 : Int), (0 : Int), []) :: gs))))) ≤ 4 * z1336.toInt; omega), (by show (f 20).toInt ≤ z1336.toInt; omega), (by show (f 15).toInt + mg_p2 (((23 : Int), (0 : Int), (0 : Int), (0 : Int), []) :: (((29 : Int), (0 : Int), (0 : Int), (0 : Int), []) :: (((28 : Int), (0 : Int), (0 : Int), (0 : Int), []) :: (((21 : Int), (0 : Int), (f 20).toInt, (0 : Int), []) :: (((1 : Int), (0 : Int), (0 : Int), (0 : Int), []) :: gs))))) ≤ z1336.toInt; omega), (by show mg_p3 (((23 : Int), (0 : Int), (0 : Int), (0 : Int), []) :: (((29 : Int), (0 : Int), (0 : Int), (0 : Int), []) :: (((28 : Int), (0 : Int), (0 : Int), (0 : Int), []) :: (((21 : Int), (0 : Int), (f 20).toInt, (0 : Int), []) :: (((1 : Int), (0 : Int), (0 : Int), (0 : Int), []) :: gs))))) ≤ 20 * z1336.toInt + 20; omega), (by show 0 ≤ (f 68).toInt; omega), (by show (f 68).toInt + 3 * (f 20).toInt + mg_p4 (((23 : Int), (0 : Int), (0 : Int), (0 : Int), []) :: (((29 : Int), (0 : Int), (0 : Int), (0 : Int), []) :: (((28 : Int), (0 : Int), (0 : Int), (0 : Int), []) :: (((21 : Int), (0 : Int), (f 20).toInt, (0 : Int), []) :: (((1 : Int), (0 : Int), (0 : Int), (0 : Int), []) :: gs))))) ≤ 60 * z1336.toInt + 60; omega), (by show 0 ≤ (f 62).toInt; omega), (by show (f 62).toInt + 64 * mj_n (g'1363 16) (f 15).toNatClampNeg 3 ≤ 64 * z1336.toInt; rw [show g'1363 16 = g'1354 16 from h1367_ 16 (by decide), show g'1354 16 = g'1320 16 from h1358_ 16 (by decide), show g'1320 16 = g'1311 16 from h1324_ 16 (by decide), show g'1311 16 = g'20 16 from h1315_ 16 (by decide), show g'20 16 = g 16 from h24_ 16 (by decide)]; omega), (by show 0 ≤ (f 44).toInt; omega), (by show (f 44).toInt ≤ z1336.toInt; omega), (by show 0 ≤ (f 48).toInt; omega), (by show (f 48).toInt ≤ z1336.toInt; omega), (by show 1 ≤ (f 53).toInt; omega), (by show (f 53).toInt ≤ z1336.toInt + 1; omega), (by show 0 ≤ (f 19).toInt; omega), (by show (f 19).toInt ≤ 600; omega)⟩
          · show 100 * ((f 0).toInt - z1336.toInt) + mg_p3 (((23 : Int), (0 : Int), (0 : Int), (0 : Int), []) :: (((29 : Int), (0 : Int), (0 : Int), (0 : Int), []) :: (((28 : Int), (0 : Int), (0 : Int), (0 : Int), []) :: (((21 : Int), (0 : Int), (f 20).toInt, (0 : Int), []) :: (((1 : Int), (0 : Int), (0 : Int), (0 : Int), []) :: gs))))) < 100 * ((f 0).toInt - (f 4).toInt) + (1 + mg_p3 gs); omega
        · subst hv1347
          replace hS1348 : MS S0 S1335 (upd (upd (upd f 6 a1345) 7 b1346) 10 0) g'1320 := hS1348
          have hR1369 := rj_clear0 hR1325_
          have hR1370 : RJ (upd (upd (upd f 6 a1345) 7 b1346) 10 0) g'1320 [] bc [] 0 [] := hR1369
          show am_E _ _ _ _ [some (.ref 39)] [.int 0] _ _
          refine am_e12t hi_201_37 (by decide) ?_
          refine am_e35 hi_201_54 ?_
          show am_E _ _ _ _ [some (.ref 39), some (.int r2), some (.int (f 4))] [] _ _
          refine am_e35 hi_228_422 ?_
          show am_E _ _ _ _ [some (.ref 39), some (.int r2)] [] _ _
          refine am_e35 hi_225_33 ?_
          show am_E _ _ _ _ [some (.ref 39), some (.int 1), some (.int on), some (.int tw), some (.int th)] [] _ _
          refine am_e18 hi_180_116 ?_
          refine am_e35 hi_180_371 ?_
          have hRc := rj_clear0 hR1370
          refine ⟨_, _, [], _, rfl, hS1348, Or.inr ⟨hRc, rfl, (by show 0 ≤ (f 4).toInt; omega), (by show (f 4).toInt ≤ (f 0).toInt; omega), (by show 0 ≤ (f 32).toInt; omega), (by show (f 32).toInt ≤ 63; omega), (by show 1 ≤ (f 53).toInt; omega), (by show (f 53).toInt ≤ 600; omega), (by show 0 ≤ (f 68).toInt; omega), (by show (f 68).toInt ≤ 60000; omega), (by show 0 ≤ (f 48).toInt; omega), (by show (f 48).toInt ≤ 8000; omega), (by show 0 ≤ (f 37).toInt; omega), (by show (f 37).toInt ≤ 128; omega), (by show 0 ≤ (f 62).toInt; omega), (by show (f 62).toInt ≤ 65000; omega), (by show 0 ≤ (f 19).toInt; omega), (by show (f 19).toInt ≤ 600; omega)⟩⟩
      · refine am_e13f hi_201_5 (am_cF (m := r1328.toInt) (n := (1 : Int)) rfl (by decide) c1333) ?_
        refine am_e2 (v := 39) hi_201_8 rfl ?_
        refine am_e0 hi_201_9 ?_
        refine am_e0 hi_201_10 ?_
        refine am_e2 (v := 39) hi_201_11 rfl ?_
        refine mm_20 (v := .int (f 4)) hS1330 hi_201_12 rfl ?_
        refine am_e32n (as := [.ref 39, .int 3, .int 0, .int (f 4)]) (la := [some (.ref 39), some (.int 3), some (.int 0), some (.int (f 4))]) (rest := []) hi_201_15 (am_hd0 (M := 201) (by decide) 15) (Nat.le_of_ble_eq_true rfl) (Nat.le_of_ble_eq_true rfl) (show 4 ≤ am_P0.2.2.1 190 from by decide +kernel) rfl (am_recv_ok hS1330.fs) rfl rfl (ct_value (d := (d + 4)) hS1330 hR1325_ (fun _ => ⟨by omega, by omega⟩) (fun h => absurd h (by decide)) (by show (0 : Int) ≤ (f 15).toInt; omega) (by show (f 15).toInt ≤ (32767 : Int); omega)) ?_
        rintro v1371 S1372 (⟨z1373, g'1374, hv1375, hS1376, hR1381, h1377, h1378, h1379, h1380⟩)
        subst hv1375
        have h1377_ : z1373.toInt = (f 15).toInt + 1 := h1377
        have h1378_ : ∀ j, j ∉ [16, 17, 18] → g'1374 j = g'1320 j := h1378
        have h1379_ : mj_n (g'1374 16) z1373.toNatClampNeg 3 ≤ mj_n (g 16) (f 15).toNatClampNeg 3 + 1 := by rw [show g'1320 16 = g'1311 16 from h1324_ 16 (by decide), show g'1311 16 = g'20 16 from h1315_ 16 (by decide), show g'20 16 = g 16 from h24_ 16 (by decide)] at h1379; exact h1379
        have h1380_ : (3 : Int) = 3 ∨ mj_n (g'1374 16) z1373.toNatClampNeg 3 ≤ mj_n (g 16) (f 15).toNatClampNeg 3 := by rw [show g'1320 16 = g'1311 16 from h1324_ 16 (by decide), show g'1311 16 = g'20 16 from h1315_ 16 (by decide), show g'20 16 = g 16 from h24_ 16 (by decide)] at h1380; exact h1380
        have hR1381_ : RJ (upd (upd f 10 z1319) 15 z1373) g'1374 (((28 : Int), (0 : Int), (0 : Int), (0 : Int), []) :: (((21 : Int), (0 : Int), (f 20).toInt, (0 : Int), []) :: (((1 : Int), (0 : Int), (0 : Int), (0 : Int), []) :: gs))) bc [] 0 [] := hR1381
        show am_E _ _ _ _ [some (.ref 39)] [] _ _
        refine am_e2 (v := 39) hi_201_18 rfl ?_
        refine am_e7 hi_201_19 ?_
        refine mm_20 (v := .int (f 4)) hS1376 hi_201_20 rfl ?_
        refine am_e0 hi_201_23 ?_
        obtain ⟨z1382, hz1382, tz1382⟩ := am_addI (x := f 4) (y := 1) (m := (f 4).toInt) (n := (1 : Int)) rfl (by decide) (by omega) (by omega)
        refine am_e10 (z := z1382) hi_201_24 hz1382 ?_
        refine mm_21 (v := z1382) hS1376 hi_201_25 rfl (Nat.le_of_ble_eq_true rfl) ms_4 ?_
        intro S1383 hS1384
        replace hS1384 : MS S0 S1383 (upd (upd (upd f 4 z1382) 10 z1319) 15 z1373) g'1374 := hS1384
        have hR1385 : RJ (upd (upd (upd f 4 z1382) 10 z1319) 15 z1373) g'1374 (((28 : Int), (0 : Int), (0 : Int), (0 : Int), []) :: (((21 : Int), (0 : Int), (f 20).toInt, (0 : Int), []) :: (((1 : Int), (0 : Int), (0 : Int), (0 : Int), []) :: gs))) bc [] 0 [] := RJ.at hR1381_ (by show (f 4).toInt ≤ z1382.toInt; omega)
        refine am_e18 hi_201_28 ?_
        refine am_e35 hi_201_54 ?_
        show am_E _ _ _ _ [some (.ref 39), some (.int r2), some (.int (f 4))] [] _ _
        refine am_e35 hi_228_422 ?_
        show am_E _ _ _ _ [some (.ref 39), some (.int r2)] [] _ _
        refine am_e35 hi_225_33 ?_
        show am_E _ _ _ _ [some (.ref 39), some (.int 1), some (.int on), some (.int tw), some (.int th)] [] _ _
        refine am_e18 hi_180_116 ?_
        refine am_e35 hi_180_371 ?_
        have q1 : mg_p1 (((28 : Int), (0 : Int), (0 : Int), (0 : Int), []) :: (((21 : Int), (0 : Int), (f 20).toInt, (0 : Int), []) :: (((1 : Int), (0 : Int), (0 : Int), (0 : Int), []) :: gs))) = 0 + (0 + (0 + (mg_p1 gs))) := rfl
        have q2 : mg_p2 (((28 : Int), (0 : Int), (0 : Int), (0 : Int), []) :: (((21 : Int), (0 : Int), (f 20).toInt, (0 : Int), []) :: (((1 : Int), (0 : Int), (0 : Int), (0 : Int), []) :: gs))) = 0 + (0 + (0 + (mg_p2 gs))) := rfl
        have q3 : mg_p3 (((28 : Int), (0 : Int), (0 : Int), (0 : Int), []) :: (((21 : Int), (0 : Int), (f 20).toInt, (0 : Int), []) :: (((1 : Int), (0 : Int), (0 : Int), (0 : Int), []) :: gs))) = 1 + (1 + (1 + (mg_p3 gs))) := rfl
        have q4 : mg_p4 (((28 : Int), (0 : Int), (0 : Int), (0 : Int), []) :: (((21 : Int), (0 : Int), (f 20).toInt, (0 : Int), []) :: (((1 : Int), (0 : Int), (0 : Int), (0 : Int), []) :: gs))) = 0 + (0 + (0 + (mg_p4 gs))) := rfl
        refine ⟨_, _, _, bc, rfl, hS1384, Or.inl ⟨⟨hR1385, ?_, ?_⟩, rfl, ?_⟩⟩
        · exact (⟨⟨(show mg_k 28 from by decide), (show (1 : Int) ≤ z1373.toInt from by omega), (show 0 ≤ (f 20).toInt from by omega), (show 1 ≤ (f 37).toInt from by omega), (show 0 ≤ (f 32).toInt from by omega), (show (f 32).toInt ≤ (f 5).toInt from by omega), (show (f 5).toInt ≤ 48 from by omega), (show (f 37).toInt ≤ 2 * ((f 5).toInt) + 2 from by omega), trivial⟩, ⟨⟨(show mg_k 21 from by decide), (show (1 : Int) ≤ z1373.toInt + 0 from by omega), (show 0 ≤ (f 20).toInt from by omega), (show 1 ≤ (f 37).toInt + 0 from by omega), (show 0 ≤ (f 32).toInt + 0 from by omega), (show (f 32).toInt + 0 ≤ (f 5).toInt + 0 from by omega), (show (f 5).toInt + 0 ≤ 48 from by omega), (show (f 37).toInt + 0 ≤ 2 * ((f 5).toInt + 0) + 1 from by omega), ⟨(show 0 ≤ (0 : Int) from by omega), (show 0 ≤ (f 20).toInt from by omega), (show (f 20).toInt = (f 20).toInt + (0 : Int) from by omega)⟩⟩, ⟨⟨(show mg_k 1 from by decide), (show (0 : Int) ≤ z1373.toInt + 0 + -1 from by omega), (show 0 ≤ (f 20).toInt from by omega), (show 1 ≤ (f 37).toInt + 0 + 0 from by omega), (show 0 ≤ (f 32).toInt + 0 + 0 from by omega), (show (f 32).toInt + 0 + 0 ≤ (f 5).toInt + 0 + 0 from by omega), (show (f 5).toInt + 0 + 0 ≤ 48 from by omega), (show (f 37).toInt + 0 + 0 ≤ 2 * ((f 5).toInt + 0 + 0) + 1 from by omega), trivial⟩, mg_cast (mg_good_ext _ _ _ _ _ _ (fun i _ => by show g'1374 34 i = g 34 i; rw [show g'1374 34 = g'1320 34 from h1378_ 34 (by decide), show g'1320 34 = g'1311 34 from h1324_ 34 (by decide), show g'1311 34 = g'20 34 from h1315_ 34 (by decide), show g'20 34 = g 34 from h24_ 34 (by decide)]) (fun i _ => by show g'1374 38 i = g 38 i; rw [show g'1374 38 = g'1320 38 from h1378_ 38 (by decide), show g'1320 38 = g'1311 38 from h1324_ 38 (by decide), show g'1311 38 = g'20 38 from h1315_ 38 (by decide), show g'20 38 = g 38 from h24_ 38 (by decide)]) (fun i _ => by show g'1374 23 i = g 23 i; rw [show g'1374 23 = g'1320 23 from h1378_ 23 (by decide), show g'1320 23 = g'1311 23 from h1324_ 23 (by decide), show g'1311 23 = g'20 23 from h1315_ 23 (by decide), show g'20 23 = g 23 from h24_ 23 (by decide)]) hrest) (by show (f 15).toInt + 0 = z1373.toInt + 0 + -1 + 0; omega) (by show (f 20).toInt = (f 20).toInt; omega) (by show (f 37).toInt + 0 = (f 37).toInt + 0 + 0 + 0; omega) (by show (f 32).toInt + 0 = (f 32).toInt + 0 + 0 + 0; omega) (by show (f 5).toInt + 0 = (f 5).toInt + 0 + 0 + 0; omega)⟩⟩⟩ : mg_good (g'1374 34) (g'1374 38) (g'1374 23) (((28 : Int), (0 : Int), (0 : Int), (0 : Int), []) :: (((21 : Int), (0 : Int), (f 20).toInt, (0 : Int), []) :: (((1 : Int), (0 : Int), (0 : Int), (0 : Int), []) :: gs))) (z1373.toInt) ((f 20).toInt) ((f 37).toInt) ((f 32).toInt) ((f 5).toInt))
        · exact ⟨(by show 0 ≤ z1382.toInt; omega), (by show z1382.toInt ≤ (f 0).toInt; omega), (by show (f 0).toInt ≤ 512; omega), (by show 0 ≤ (f 24).toInt; omega), (by show (f 24).toInt + (f 20).toInt + mg_p1 (((28 : Int), (0 : Int), (0 : Int), (0 : Int), []) :: (((21 : Int), (0 : Int), (f 20).toInt, (0 : Int), []) :: (((1 : Int), (0 : Int), (0 : Int), (0 : Int), []) :: gs))) ≤ 4 * z1382.toInt; omega), (by show (f 20).toInt ≤ z1382.toInt; omega), (by show z1373.toInt + mg_p2 (((28 : Int), (0 : Int), (0 : Int), (0 : Int), []) :: (((21 : Int), (0 : Int), (f 20).toInt, (0 : Int), []) :: (((1 : Int), (0 : Int), (0 : Int), (0 : Int), []) :: gs))) ≤ z1382.toInt; omega), (by show mg_p3 (((28 : Int), (0 : Int), (0 : Int), (0 : Int), []) :: (((21 : Int), (0 : Int), (f 20).toInt, (0 : Int), []) :: (((1 : Int), (0 : Int), (0 : Int), (0 : Int), []) :: gs))) ≤ 20 * z1382.toInt + 20; omega), (by show 0 ≤ (f 68).toInt; omega), (by show (f 68).toInt + 3 * (f 20).toInt + mg_p4 (((28 : Int), (0 : Int), (0 : Int), (0 : Int), []) :: (((21 : Int), (0 : Int), (f 20).toInt, (0 : Int), []) :: (((1 : Int), (0 : Int), (0 : Int), (0 : Int), []) :: gs))) ≤ 60 * z1382.toInt + 60; omega), (by show 0 ≤ (f 62).toInt; omega), (by show (f 62).toInt + 64 * mj_n (g'1374 16) z1373.toNatClampNeg 3 ≤ 64 * z1382.toInt; omega), (by show 0 ≤ (f 44).toInt; omega), (by show (f 44).toInt ≤ z1382.toInt; omega), (by show 0 ≤ (f 48).toInt; omega), (by show (f 48).toInt ≤ z1382.toInt; omega), (by show 1 ≤ (f 53).toInt; omega), (by show (f 53).toInt ≤ z1382.toInt + 1; omega), (by show 0 ≤ (f 19).toInt; omega), (by show (f 19).toInt ≤ 600; omega)⟩
        · show 100 * ((f 0).toInt - z1382.toInt) + mg_p3 (((28 : Int), (0 : Int), (0 : Int), (0 : Int), []) :: (((21 : Int), (0 : Int), (f 20).toInt, (0 : Int), []) :: (((1 : Int), (0 : Int), (0 : Int), (0 : Int), []) :: gs))) < 100 * ((f 0).toInt - (f 4).toInt) + (1 + mg_p3 gs); omega
    · refine am_e13f hi_225_16 (am_cF (m := r2.toInt) (n := (27 : Int)) rfl (by decide) c16) ?_
      refine am_e2 (v := 39) hi_225_19 rfl ?_
      refine am_e32w (as := [.ref 39]) (la := [some (.ref 39), none]) (rest := []) hi_225_20 (am_hd0 (M := 225) (by decide) 20) (Nat.le_of_ble_eq_true rfl) (Nat.le_of_ble_eq_true rfl) (show 1 ≤ am_P0.2.2.1 227 from by decide +kernel) rfl (am_recv_ok hS11.fs) rfl rfl ?_
      refine am_e2 (v := 39) hi_227_0 rfl ?_
      refine mm_20 (v := .int (f 4)) hS11 hi_227_1 rfl ?_
      refine am_e3 (ls' := [some (.ref 39), some (.int (f 4))]) hi_227_4 (Nat.le_of_ble_eq_true rfl) rfl ?_
      refine am_e2 (v := 39) hi_227_5 rfl ?_
      refine am_e7 hi_227_6 ?_
      refine mm_20 (v := .int (f 4)) hS11 hi_227_7 rfl ?_
      refine am_e0 hi_227_10 ?_
      obtain ⟨z1386, hz1386, tz1386⟩ := am_addI (x := f 4) (y := 1) (m := (f 4).toInt) (n := (1 : Int)) rfl (by decide) (by omega) (by omega)
      refine am_e10 (z := z1386) hi_227_11 hz1386 ?_
      refine mm_21 (v := z1386) hS11 hi_227_12 rfl (Nat.le_of_ble_eq_true rfl) ms_4 ?_
      intro S1387 hS1388
      have hR1389 : RJ (upd f 4 z1386) g gs bc [] 0 [] := RJ.at hR (by show (f 4).toInt ≤ z1386.toInt; omega)
      refine am_e2 (v := 39) hi_227_15 rfl ?_
      refine am_e0 hi_227_16 ?_
      refine am_e0 hi_227_18 ?_
      refine am_e0 hi_227_19 ?_
      refine am_e0 hi_227_20 ?_
      refine am_e32n (as := [.ref 39, .int 20, .int 0, .int 0, .int 0]) (la := [some (.ref 39), some (.int 20), some (.int 0), some (.int 0), some (.int 0)]) (rest := []) hi_227_21 (am_hd0 (M := 227) (by decide) 21) (Nat.le_of_ble_eq_true rfl) (Nat.le_of_ble_eq_true rfl) (show 5 ≤ am_P0.2.2.1 179 from by decide +kernel) rfl (am_recv_ok hS1388.fs) rfl rfl (ct_pile (d := (d + 5)) hS1388 hR1389 (mj_e_plain (by decide)) (by show (0 : Int) ≤ (f 10).toInt; omega) (by show (f 10).toInt ≤ (65535 : Int); omega)) ?_
      rintro v1390 S1391 (⟨z1392, g'1393, hv1394, hS1395, hR1398, h1396, h1397⟩)
      subst hv1394
      have h1396_ : z1392.toInt = (f 10).toInt + 1 := h1396
      have h1397_ : ∀ j, j ∉ [11, 12, 13, 14] → g'1393 j = g j := h1397
      have hR1398_ : RJ (upd (upd f 4 z1386) 10 z1392) g'1393 (((20 : Int), (0 : Int), (0 : Int), (0 : Int), []) :: gs) bc [] 0 [] := hR1398
      show am_E _ _ _ _ [some (.ref 39), some (.int (f 4))] [] _ _
      refine am_e2 (v := 39) hi_227_24 rfl ?_
      refine am_e32n (as := [.ref 39]) (la := [some (.ref 39)]) (rest := []) hi_227_25 (am_hd0 (M := 227) (by decide) 25) (Nat.le_of_ble_eq_true rfl) (Nat.le_of_ble_eq_true rfl) (show 1 ≤ am_P0.2.2.1 183 from by decide +kernel) rfl (am_recv_ok hS1395.fs) rfl rfl (ct_next (d := (d + 4)) hS1395   (by show (0 : Int) ≤ z1386.toInt; omega) (by show (f 0).toInt ≤ (16384 : Int); omega)) ?_
      rintro v1399 S1400 (⟨r1401, hv1402, hS1403, h1404⟩)
      subst hv1402
      have h1404_ : z1386.toInt < (f 0).toInt ∨ r1401.toInt = (-1 : Int) := h1404
      show am_E _ _ _ _ [some (.ref 39), some (.int (f 4))] [.int r1401] _ _
      refine am_e32n (as := [.int r1401]) (la := [some (.int r1401)]) (rest := []) hi_227_28 (am_hd0 (M := 227) (by decide) 28) (Nat.le_of_ble_eq_true rfl) (Nat.le_of_ble_eq_true rfl) (show 1 ≤ am_P0.2.2.1 226 from by decide +kernel) rfl rfl rfl rfl (ct_isFollower (d := (d + 5)) hS1403   ) ?_
      rintro v1406 S1407 (⟨r1408, hv1409, hS1410, h1411, h1412⟩)
      subst hv1409
      have h1411_ : r1408 = 0 ∨ r1408 = 1 := h1411
      have h1412_ : r1408.toInt = (1 : Int) ∨ ¬ r1401.toInt = -1 := h1412
      show am_E _ _ _ _ [some (.ref 39), some (.int (f 4))] [.int r1408] _ _
      by_cases c1414 : ¬ r1408.toInt = (0 : Int)
      · refine am_e12t hi_227_31 (am_cT (m := r1408.toInt) (n := (0 : Int)) rfl (by decide) c1414) ?_
        refine am_e2 (v := 39) hi_227_43 rfl ?_
        refine am_e0 hi_227_44 ?_
        refine am_e0 hi_227_46 ?_
        refine am_e0 hi_227_47 ?_
        refine am_e1 (v := f 4) hi_227_48 rfl ?_
        refine am_e32n (as := [.ref 39, .int 45, .int 0, .int 0, .int (f 4)]) (la := [some (.ref 39), some (.int 45), some (.int 0), some (.int 0), some (.int (f 4))]) (rest := []) hi_227_49 (am_hd0 (M := 227) (by decide) 49) (Nat.le_of_ble_eq_true rfl) (Nat.le_of_ble_eq_true rfl) (show 5 ≤ am_P0.2.2.1 189 from by decide +kernel) rfl (am_recv_ok hS1410.fs) rfl rfl (ct_put (d := (d + 5)) hS1410 hR1398_  (by show (0 : Int) ≤ (f 32).toInt; omega) (by show (f 32).toInt ≤ (63 : Int); omega) (by show (f 53).toInt ≤ (4096 : Int); omega) (by show (0 : Int) ≤ (f 68).toInt; omega) (by show (f 68).toInt ≤ (65534 : Int); omega)) ?_
        rintro v1415 S1416 (⟨z1417, r1418, g'1419, hv1420, hS1421, hR1425, h1422, h1423, h1424⟩)
        subst hv1420
        have h1422_ : z1417.toInt = (f 68).toInt + 1 := h1422
        have h1423_ : r1418.toInt = (f 68).toInt := h1423
        have h1424_ : ∀ j, j ∉ [60, 69, 70, 71, 72, 73] → g'1419 j = g'1393 j := h1424
        have hR1425_ : RJ (upd (upd (upd f 4 z1386) 10 z1392) 68 z1417) g'1419 (((20 : Int), (0 : Int), (0 : Int), (0 : Int), []) :: gs) bc [] 0 ((f 68).toNatClampNeg :: []) := hR1425
        show am_E _ _ _ _ [some (.ref 39), some (.int (f 4))] [.int r1418] _ _
        refine am_e6i hi_227_52 ?_
        refine am_e18 hi_227_53 ?_
        refine am_e35 hi_227_69 ?_
        show am_E _ _ _ _ [some (.ref 39), some (.int r2)] [] _ _
        refine am_e35 hi_225_23 ?_
        show am_E _ _ _ _ [some (.ref 39), some (.int 1), some (.int on), some (.int tw), some (.int th)] [] _ _
        refine am_e18 hi_180_116 ?_
        refine am_e35 hi_180_371 ?_
        have q1 : mg_p1 (((20 : Int), (0 : Int), (0 : Int), (0 : Int), []) :: gs) = 0 + (mg_p1 gs) := rfl
        have q2 : mg_p2 (((20 : Int), (0 : Int), (0 : Int), (0 : Int), []) :: gs) = 0 + (mg_p2 gs) := rfl
        have q3 : mg_p3 (((20 : Int), (0 : Int), (0 : Int), (0 : Int), []) :: gs) = 1 + (mg_p3 gs) := rfl
        have q4 : mg_p4 (((20 : Int), (0 : Int), (0 : Int), (0 : Int), []) :: gs) = 0 + (mg_p4 gs) := rfl
        refine ⟨_, _, _, bc, rfl, hS1421, Or.inl ⟨⟨(RJ.fewer (pj' := []) hR1425_ (fun _ h => nomatch h)), ?_, ?_⟩, rfl, ?_⟩⟩
        · exact (⟨⟨(show mg_k 20 from by decide), (show (0 : Int) ≤ (f 15).toInt from by omega), (show 0 ≤ (f 20).toInt from by omega), (show 1 ≤ (f 37).toInt from by omega), (show 0 ≤ (f 32).toInt from by omega), (show (f 32).toInt ≤ (f 5).toInt from by omega), (show (f 5).toInt ≤ 48 from by omega), (show (f 37).toInt ≤ 2 * ((f 5).toInt) + 1 from by omega), trivial⟩, mg_cast (mg_good_ext _ _ _ _ _ _ (fun i _ => by show g'1419 34 i = g 34 i; rw [show g'1419 34 = g'1393 34 from h1424_ 34 (by decide), show g'1393 34 = g 34 from h1397_ 34 (by decide)]) (fun i _ => by show g'1419 38 i = g 38 i; rw [show g'1419 38 = g'1393 38 from h1424_ 38 (by decide), show g'1393 38 = g 38 from h1397_ 38 (by decide)]) (fun i _ => by show g'1419 23 i = g 23 i; rw [show g'1419 23 = g'1393 23 from h1424_ 23 (by decide), show g'1393 23 = g 23 from h1397_ 23 (by decide)]) hrest) (by show (f 15).toInt + 0 = (f 15).toInt + 0; omega) (by show (f 20).toInt = (f 20).toInt; omega) (by show (f 37).toInt + 0 = (f 37).toInt + 0; omega) (by show (f 32).toInt + 0 = (f 32).toInt + 0; omega) (by show (f 5).toInt + 0 = (f 5).toInt + 0; omega)⟩ : mg_good (g'1419 34) (g'1419 38) (g'1419 23) (((20 : Int), (0 : Int), (0 : Int), (0 : Int), []) :: gs) ((f 15).toInt) ((f 20).toInt) ((f 37).toInt) ((f 32).toInt) ((f 5).toInt))
        · exact ⟨(by show 0 ≤ z1386.toInt; omega), (by show z1386.toInt ≤ (f 0).toInt; omega), (by show (f 0).toInt ≤ 512; omega), (by show 0 ≤ (f 24).toInt; omega), (by show (f 24).toInt + (f 20).toInt + mg_p1 (((20 : Int), (0 : Int), (0 : Int), (0 : Int), []) :: gs) ≤ 4 * z1386.toInt; omega), (by show (f 20).toInt ≤ z1386.toInt; omega), (by show (f 15).toInt + mg_p2 (((20 : Int), (0 : Int), (0 : Int), (0 : Int), []) :: gs) ≤ z1386.toInt; omega), (by show mg_p3 (((20 : Int), (0 : Int), (0 : Int), (0 : Int), []) :: gs) ≤ 20 * z1386.toInt + 20; omega), (by show 0 ≤ z1417.toInt; omega), (by show z1417.toInt + 3 * (f 20).toInt + mg_p4 (((20 : Int), (0 : Int), (0 : Int), (0 : Int), []) :: gs) ≤ 60 * z1386.toInt + 60; omega), (by show 0 ≤ (f 62).toInt; omega), (by show (f 62).toInt + 64 * mj_n (g'1419 16) (f 15).toNatClampNeg 3 ≤ 64 * z1386.toInt; rw [show g'1419 16 = g'1393 16 from h1424_ 16 (by decide), show g'1393 16 = g 16 from h1397_ 16 (by decide)]; omega), (by show 0 ≤ (f 44).toInt; omega), (by show (f 44).toInt ≤ z1386.toInt; omega), (by show 0 ≤ (f 48).toInt; omega), (by show (f 48).toInt ≤ z1386.toInt; omega), (by show 1 ≤ (f 53).toInt; omega), (by show (f 53).toInt ≤ z1386.toInt + 1; omega), (by show 0 ≤ (f 19).toInt; omega), (by show (f 19).toInt ≤ 600; omega)⟩
        · show 100 * ((f 0).toInt - z1386.toInt) + mg_p3 (((20 : Int), (0 : Int), (0 : Int), (0 : Int), []) :: gs) < 100 * ((f 0).toInt - (f 4).toInt) + (1 + mg_p3 gs); omega
      · refine am_e12f hi_227_31 (am_cF (m := r1408.toInt) (n := (0 : Int)) rfl (by decide) c1414) ?_
        refine am_e2 (v := 39) hi_227_34 rfl ?_
        refine am_e32n (as := [.ref 39]) (la := [some (.ref 39)]) (rest := []) hi_227_35 (am_hd0 (M := 227) (by decide) 35) (Nat.le_of_ble_eq_true rfl) (Nat.le_of_ble_eq_true rfl) (show 1 ≤ am_P0.2.2.1 183 from by decide +kernel) rfl (am_recv_ok hS1410.fs) rfl rfl (ct_next (d := (d + 4)) hS1410   (by show (0 : Int) ≤ z1386.toInt; omega) (by show (f 0).toInt ≤ (16384 : Int); omega)) ?_
        rintro v1426 S1427 (⟨r1428, hv1429, hS1430, h1431⟩)
        subst hv1429
        have h1431_ : z1386.toInt < (f 0).toInt ∨ r1428.toInt = (-1 : Int) := h1431
        show am_E _ _ _ _ [some (.ref 39), some (.int (f 4))] [.int r1428] _ _
        refine am_e0 hi_227_38 ?_
        by_cases c1433 : ¬ r1428.toInt = (67 : Int)
        · refine am_e13t hi_227_40 (am_cT (m := r1428.toInt) (n := (67 : Int)) rfl (by decide) c1433) ?_
          refine am_e2 (v := 39) hi_227_56 rfl ?_
          refine am_e0 hi_227_57 ?_
          refine am_e1 (v := f 4) hi_227_59 rfl ?_
          refine am_e0 hi_227_60 ?_
          refine am_e0 hi_227_61 ?_
          refine am_e32n (as := [.ref 39, .int 19, .int (f 4), .int 0, .int 0]) (la := [some (.ref 39), some (.int 19), some (.int (f 4)), some (.int 0), some (.int 0)]) (rest := []) hi_227_62 (am_hd0 (M := 227) (by decide) 62) (Nat.le_of_ble_eq_true rfl) (Nat.le_of_ble_eq_true rfl) (show 5 ≤ am_P0.2.2.1 179 from by decide +kernel) rfl (am_recv_ok hS1430.fs) rfl rfl (ct_pile (d := (d + 5)) hS1430 hR1398_ (mj_e_plain (by decide)) (by show (0 : Int) ≤ z1392.toInt; omega) (by show z1392.toInt ≤ (65535 : Int); omega)) ?_
          rintro v1434 S1435 (⟨z1436, g'1437, hv1438, hS1439, hR1442, h1440, h1441⟩)
          subst hv1438
          have h1440_ : z1436.toInt = z1392.toInt + 1 := h1440
          have h1441_ : ∀ j, j ∉ [11, 12, 13, 14] → g'1437 j = g'1393 j := h1441
          replace hS1439 : MS S0 S1435 (upd (upd f 4 z1386) 10 z1436) g'1437 := hS1439
          have hR1442_ : RJ (upd (upd f 4 z1386) 10 z1436) g'1437 (((19 : Int), (f 4).toInt, (0 : Int), (0 : Int), []) :: (((20 : Int), (0 : Int), (0 : Int), (0 : Int), []) :: gs)) bc [] 0 [] := hR1442
          show am_E _ _ _ _ [some (.ref 39), some (.int (f 4))] [] _ _
          refine am_e2 (v := 39) hi_227_65 rfl ?_
          refine am_e32w (as := [.ref 39]) (la := [some (.ref 39)]) (rest := []) hi_227_66 (am_hd0 (M := 227) (by decide) 66) (Nat.le_of_ble_eq_true rfl) (Nat.le_of_ble_eq_true rfl) (show 1 ≤ am_P0.2.2.1 214 from by decide +kernel) rfl (am_recv_ok hS1439.fs) rfl rfl ?_
          refine am_e2 (v := 39) hi_214_0 rfl ?_
          refine am_e0 hi_214_1 ?_
          refine am_e0 hi_214_3 ?_
          refine am_e0 hi_214_4 ?_
          refine am_e0 hi_214_5 ?_
          refine am_e32n (as := [.ref 39, .int 34, .int 1, .int 0, .int 0]) (la := [some (.ref 39), some (.int 34), some (.int 1), some (.int 0), some (.int 0)]) (rest := []) hi_214_6 (am_hd0 (M := 214) (by decide) 6) (Nat.le_of_ble_eq_true rfl) (Nat.le_of_ble_eq_true rfl) (show 5 ≤ am_P0.2.2.1 179 from by decide +kernel) rfl (am_recv_ok hS1439.fs) rfl rfl (ct_pile (d := (d + 4)) hS1439 hR1442_ (mj_e_plain (by decide)) (by show (0 : Int) ≤ z1436.toInt; omega) (by show z1436.toInt ≤ (65535 : Int); omega)) ?_
          rintro v1443 S1444 (⟨z1445, g'1446, hv1447, hS1448, hR1451, h1449, h1450⟩)
          subst hv1447
          have h1449_ : z1445.toInt = z1436.toInt + 1 := h1449
          have h1450_ : ∀ j, j ∉ [11, 12, 13, 14] → g'1446 j = g'1437 j := h1450
          replace hS1448 : MS S0 S1444 (upd (upd f 4 z1386) 10 z1445) g'1446 := hS1448
          have hR1451_ : RJ (upd (upd f 4 z1386) 10 z1445) g'1446 (((34 : Int), (1 : Int), (0 : Int), (0 : Int), []) :: (((19 : Int), (f 4).toInt, (0 : Int), (0 : Int), []) :: (((20 : Int), (0 : Int), (0 : Int), (0 : Int), []) :: gs))) bc [] 0 [] := hR1451
          show am_E _ _ _ _ [some (.ref 39)] [] _ _
          refine am_e2 (v := 39) hi_214_9 rfl ?_
          refine am_e0 hi_214_10 ?_
          refine am_e32w (as := [.ref 39, .int 0]) (la := [some (.ref 39), some (.int 0)]) (rest := []) hi_214_11 (am_hd0 (M := 214) (by decide) 11) (Nat.le_of_ble_eq_true rfl) (Nat.le_of_ble_eq_true rfl) (show 2 ≤ am_P0.2.2.1 186 from by decide +kernel) rfl (am_recv_ok hS1448.fs) rfl rfl ?_
          refine am_e2 (v := 39) hi_186_0 rfl ?_
          refine am_e0 hi_186_1 ?_
          refine am_e1 (v := 0) hi_186_3 rfl ?_
          refine am_e0 hi_186_4 ?_
          refine am_e0 hi_186_5 ?_
          refine am_e32n (as := [.ref 39, .int 23, .int 0, .int 0, .int 0]) (la := [some (.ref 39), some (.int 23), some (.int 0), some (.int 0), some (.int 0)]) (rest := []) hi_186_6 (am_hd0 (M := 186) (by decide) 6) (Nat.le_of_ble_eq_true rfl) (Nat.le_of_ble_eq_true rfl) (show 5 ≤ am_P0.2.2.1 179 from by decide +kernel) rfl (am_recv_ok hS1448.fs) rfl rfl (ct_pile (d := (d + 3)) hS1448 hR1451_ (mj_e_plain (by decide)) (by show (0 : Int) ≤ z1445.toInt; omega) (by show z1445.toInt ≤ (65535 : Int); omega)) ?_
          rintro v1452 S1453 (⟨z1454, g'1455, hv1456, hS1457, hR1460, h1458, h1459⟩)
          subst hv1456
          have h1458_ : z1454.toInt = z1445.toInt + 1 := h1458
          have h1459_ : ∀ j, j ∉ [11, 12, 13, 14] → g'1455 j = g'1446 j := h1459
          replace hS1457 : MS S0 S1453 (upd (upd f 4 z1386) 10 z1454) g'1455 := hS1457
          have hR1460_ : RJ (upd (upd f 4 z1386) 10 z1454) g'1455 (((23 : Int), (0 : Int), (0 : Int), (0 : Int), []) :: (((34 : Int), (1 : Int), (0 : Int), (0 : Int), []) :: (((19 : Int), (f 4).toInt, (0 : Int), (0 : Int), []) :: (((20 : Int), (0 : Int), (0 : Int), (0 : Int), []) :: gs)))) bc [] 0 [] := hR1460
          show am_E _ _ _ _ [some (.ref 39), some (.int 0)] [] _ _
          refine am_e35 hi_186_9 ?_
          show am_E _ _ _ _ [some (.ref 39)] [] _ _
          refine am_e35 hi_214_14 ?_
          show am_E _ _ _ _ [some (.ref 39), some (.int (f 4))] [] _ _
          refine am_e35 hi_227_69 ?_
          show am_E _ _ _ _ [some (.ref 39), some (.int r2)] [] _ _
          refine am_e35 hi_225_23 ?_
          show am_E _ _ _ _ [some (.ref 39), some (.int 1), some (.int on), some (.int tw), some (.int th)] [] _ _
          refine am_e18 hi_180_116 ?_
          refine am_e35 hi_180_371 ?_
          have q1 : mg_p1 (((23 : Int), (0 : Int), (0 : Int), (0 : Int), []) :: (((34 : Int), (1 : Int), (0 : Int), (0 : Int), []) :: (((19 : Int), (f 4).toInt, (0 : Int), (0 : Int), []) :: (((20 : Int), (0 : Int), (0 : Int), (0 : Int), []) :: gs)))) = 0 + (0 + (0 + (0 + (mg_p1 gs)))) := rfl
          have q2 : mg_p2 (((23 : Int), (0 : Int), (0 : Int), (0 : Int), []) :: (((34 : Int), (1 : Int), (0 : Int), (0 : Int), []) :: (((19 : Int), (f 4).toInt, (0 : Int), (0 : Int), []) :: (((20 : Int), (0 : Int), (0 : Int), (0 : Int), []) :: gs)))) = 0 + (((1 : Int) - 1) + (0 + (0 + (mg_p2 gs)))) := rfl
          have q3 : mg_p3 (((23 : Int), (0 : Int), (0 : Int), (0 : Int), []) :: (((34 : Int), (1 : Int), (0 : Int), (0 : Int), []) :: (((19 : Int), (f 4).toInt, (0 : Int), (0 : Int), []) :: (((20 : Int), (0 : Int), (0 : Int), (0 : Int), []) :: gs)))) = 1 + (1 + (1 + (1 + (mg_p3 gs)))) := rfl
          have q4 : mg_p4 (((23 : Int), (0 : Int), (0 : Int), (0 : Int), []) :: (((34 : Int), (1 : Int), (0 : Int), (0 : Int), []) :: (((19 : Int), (f 4).toInt, (0 : Int), (0 : Int), []) :: (((20 : Int), (0 : Int), (0 : Int), (0 : Int), []) :: gs)))) = 0 + (0 + (3 + (0 + (mg_p4 gs)))) := rfl
          refine ⟨_, _, _, bc, rfl, hS1457, Or.inl ⟨⟨hR1460_, ?_, ?_⟩, rfl, ?_⟩⟩
          · exact (⟨⟨(show mg_k 23 from by decide), (show (0 : Int) ≤ (f 15).toInt from by omega), (show 0 ≤ (f 20).toInt from by omega), (show 1 ≤ (f 37).toInt from by omega), (show 0 ≤ (f 32).toInt from by omega), (show (f 32).toInt ≤ (f 5).toInt from by omega), (show (f 5).toInt ≤ 48 from by omega), (show (f 37).toInt ≤ 2 * ((f 5).toInt) + 2 from by omega), (show 0 ≤ (0 : Int) from by omega)⟩, ⟨⟨(show mg_k 34 from by decide), (show (1 : Int) ≤ (f 15).toInt + 1 from by omega), (show 0 ≤ (f 20).toInt from by omega), (show 1 ≤ (f 37).toInt + 0 from by omega), (show 0 ≤ (f 32).toInt + 0 from by omega), (show (f 32).toInt + 0 ≤ (f 5).toInt + 0 from by omega), (show (f 5).toInt + 0 ≤ 48 from by omega), (show (f 37).toInt + 0 ≤ 2 * ((f 5).toInt + 0) + 2 from by omega), (show 1 ≤ (1 : Int) from by omega)⟩, ⟨⟨(show mg_k 19 from by decide), (show (1 : Int) ≤ (f 15).toInt + 1 + 0 from by omega), (show 0 ≤ (f 20).toInt from by omega), (show 1 ≤ (f 37).toInt + 0 + 0 from by omega), (show 0 ≤ (f 32).toInt + 0 + 0 from by omega), (show (f 32).toInt + 0 + 0 ≤ (f 5).toInt + 0 + 0 from by omega), (show (f 5).toInt + 0 + 0 ≤ 48 from by omega), (show (f 37).toInt + 0 + 0 ≤ 2 * ((f 5).toInt + 0 + 0) + 1 from by omega), trivial⟩, ⟨⟨(show mg_k 20 from by decide), (show (0 : Int) ≤ (f 15).toInt + 1 + 0 + -1 from by omega), (show 0 ≤ (f 20).toInt from by omega), (show 1 ≤ (f 37).toInt + 0 + 0 + 0 from by omega), (show 0 ≤ (f 32).toInt + 0 + 0 + 0 from by omega), (show (f 32).toInt + 0 + 0 + 0 ≤ (f 5).toInt + 0 + 0 + 0 from by omega), (show (f 5).toInt + 0 + 0 + 0 ≤ 48 from by omega), (show (f 37).toInt + 0 + 0 + 0 ≤ 2 * ((f 5).toInt + 0 + 0 + 0) + 1 from by omega), trivial⟩, mg_cast (mg_good_ext _ _ _ _ _ _ (fun i _ => by show g'1455 34 i = g 34 i; rw [show g'1455 34 = g'1446 34 from h1459_ 34 (by decide), show g'1446 34 = g'1437 34 from h1450_ 34 (by decide), show g'1437 34 = g'1393 34 from h1441_ 34 (by decide), show g'1393 34 = g 34 from h1397_ 34 (by decide)]) (fun i _ => by show g'1455 38 i = g 38 i; rw [show g'1455 38 = g'1446 38 from h1459_ 38 (by decide), show g'1446 38 = g'1437 38 from h1450_ 38 (by decide), show g'1437 38 = g'1393 38 from h1441_ 38 (by decide), show g'1393 38 = g 38 from h1397_ 38 (by decide)]) (fun i _ => by show g'1455 23 i = g 23 i; rw [show g'1455 23 = g'1446 23 from h1459_ 23 (by decide), show g'1446 23 = g'1437 23 from h1450_ 23 (by decide), show g'1437 23 = g'1393 23 from h1441_ 23 (by decide), show g'1393 23 = g 23 from h1397_ 23 (by decide)]) hrest) (by show (f 15).toInt + 0 = (f 15).toInt + 1 + 0 + -1 + 0; omega) (by show (f 20).toInt = (f 20).toInt; omega) (by show (f 37).toInt + 0 = (f 37).toInt + 0 + 0 + 0 + 0; omega) (by show (f 32).toInt + 0 = (f 32).toInt + 0 + 0 + 0 + 0; omega) (by show (f 5).toInt + 0 = (f 5).toInt + 0 + 0 + 0 + 0; omega)⟩⟩⟩⟩ : mg_good (g'1455 34) (g'1455 38) (g'1455 23) (((23 : Int), (0 : Int), (0 : Int), (0 : Int), []) :: (((34 : Int), (1 : Int), (0 : Int), (0 : Int), []) :: (((19 : Int), (f 4).toInt, (0 : Int), (0 : Int), []) :: (((20 : Int), (0 : Int), (0 : Int), (0 : Int), []) :: gs)))) ((f 15).toInt) ((f 20).toInt) ((f 37).toInt) ((f 32).toInt) ((f 5).toInt))
          · exact ⟨(by show 0 ≤ z1386.toInt; omega), (by show z1386.toInt ≤ (f 0).toInt; omega), (by show (f 0).toInt ≤ 512; omega), (by show 0 ≤ (f 24).toInt; omega), (by show (f 24).toInt + (f 20).toInt + mg_p1 (((23 : Int), (0 : Int), (0 : Int), (0 : Int), []) :: (((34 : Int), (1 : Int), (0 : Int), (0 : Int), []) :: (((19 : Int), (f 4).toInt, (0 : Int), (0 : Int), []) :: (((20 : Int), (0 : Int), (0 : Int), (0 : Int), []) :: gs)))) ≤ 4 * z1386.toInt; omega), (by show (f 20).toInt ≤ z1386.toInt; omega), (by show (f 15).toInt + mg_p2 (((23 : Int), (0 : Int), (0 : Int), (0 : Int), []) :: (((34 : Int), (1 : Int), (0 : Int), (0 : Int), []) :: (((19 : Int), (f 4).toInt, (0 : Int), (0 : Int), []) :: (((20 : Int), (0 : Int), (0 : Int), (0 : Int), []) :: gs)))) ≤ z1386.toInt; omega), (by show mg_p3 (((23 : Int), (0 : Int), (0 : Int), (0 : Int), []) :: (((34 : Int), (1 : Int), (0 : Int), (0 : Int), []) :: (((19 : Int), (f 4).toInt, (0 : Int), (0 : Int), []) :: (((20 : Int), (0 : Int), (0 : Int), (0 : Int), []) :: gs)))) ≤ 20 * z1386.toInt + 20; omega), (by show 0 ≤ (f 68).toInt; omega), (by show (f 68).toInt + 3 * (f 20).toInt + mg_p4 (((23 : Int), (0 : Int), (0 : Int), (0 : Int), []) :: (((34 : Int), (1 : Int), (0 : Int), (0 : Int), []) :: (((19 : Int), (f 4).toInt, (0 : Int), (0 : Int), []) :: (((20 : Int), (0 : Int), (0 : Int), (0 : Int), []) :: gs)))) ≤ 60 * z1386.toInt + 60; omega), (by show 0 ≤ (f 62).toInt; omega), (by show (f 62).toInt + 64 * mj_n (g'1455 16) (f 15).toNatClampNeg 3 ≤ 64 * z1386.toInt; rw [show g'1455 16 = g'1446 16 from h1459_ 16 (by decide), show g'1446 16 = g'1437 16 from h1450_ 16 (by decide), show g'1437 16 = g'1393 16 from h1441_ 16 (by decide), show g'1393 16 = g 16 from h1397_ 16 (by decide)]; omega), (by show 0 ≤ (f 44).toInt; omega), (by show (f 44).toInt ≤ z1386.toInt; omega), (by show 0 ≤ (f 48).toInt; omega), (by show (f 48).toInt ≤ z1386.toInt; omega), (by show 1 ≤ (f 53).toInt; omega), (by show (f 53).toInt ≤ z1386.toInt + 1; omega), (by show 0 ≤ (f 19).toInt; omega), (by show (f 19).toInt ≤ 600; omega)⟩
          · show 100 * ((f 0).toInt - z1386.toInt) + mg_p3 (((23 : Int), (0 : Int), (0 : Int), (0 : Int), []) :: (((34 : Int), (1 : Int), (0 : Int), (0 : Int), []) :: (((19 : Int), (f 4).toInt, (0 : Int), (0 : Int), []) :: (((20 : Int), (0 : Int), (0 : Int), (0 : Int), []) :: gs)))) < 100 * ((f 0).toInt - (f 4).toInt) + (1 + mg_p3 gs); omega
        · refine am_e13f hi_227_40 (am_cF (m := r1428.toInt) (n := (67 : Int)) rfl (by decide) c1433) ?_
          refine am_e2 (v := 39) hi_227_43 rfl ?_
          refine am_e0 hi_227_44 ?_
          refine am_e0 hi_227_46 ?_
          refine am_e0 hi_227_47 ?_
          refine am_e1 (v := f 4) hi_227_48 rfl ?_
          refine am_e32n (as := [.ref 39, .int 45, .int 0, .int 0, .int (f 4)]) (la := [some (.ref 39), some (.int 45), some (.int 0), some (.int 0), some (.int (f 4))]) (rest := []) hi_227_49 (am_hd0 (M := 227) (by decide) 49) (Nat.le_of_ble_eq_true rfl) (Nat.le_of_ble_eq_true rfl) (show 5 ≤ am_P0.2.2.1 189 from by decide +kernel) rfl (am_recv_ok hS1430.fs) rfl rfl (ct_put (d := (d + 5)) hS1430 hR1398_  (by show (0 : Int) ≤ (f 32).toInt; omega) (by show (f 32).toInt ≤ (63 : Int); omega) (by show (f 53).toInt ≤ (4096 : Int); omega) (by show (0 : Int) ≤ (f 68).toInt; omega) (by show (f 68).toInt ≤ (65534 : Int); omega)) ?_
          rintro v1461 S1462 (⟨z1463, r1464, g'1465, hv1466, hS1467, hR1471, h1468, h1469, h1470⟩)
          subst hv1466
          have h1468_ : z1463.toInt = (f 68).toInt + 1 := h1468
          have h1469_ : r1464.toInt = (f 68).toInt := h1469
          have h1470_ : ∀ j, j ∉ [60, 69, 70, 71, 72, 73] → g'1465 j = g'1393 j := h1470
          have hR1471_ : RJ (upd (upd (upd f 4 z1386) 10 z1392) 68 z1463) g'1465 (((20 : Int), (0 : Int), (0 : Int), (0 : Int), []) :: gs) bc [] 0 ((f 68).toNatClampNeg :: []) := hR1471
          show am_E _ _ _ _ [some (.ref 39), some (.int (f 4))] [.int r1464] _ _
          refine am_e6i hi_227_52 ?_
          refine am_e18 hi_227_53 ?_
          refine am_e35 hi_227_69 ?_
          show am_E _ _ _ _ [some (.ref 39), some (.int r2)] [] _ _
          refine am_e35 hi_225_23 ?_
          show am_E _ _ _ _ [some (.ref 39), some (.int 1), some (.int on), some (.int tw), some (.int th)] [] _ _
          refine am_e18 hi_180_116 ?_
          refine am_e35 hi_180_371 ?_
          have q1 : mg_p1 (((20 : Int), (0 : Int), (0 : Int), (0 : Int), []) :: gs) = 0 + (mg_p1 gs) := rfl
          have q2 : mg_p2 (((20 : Int), (0 : Int), (0 : Int), (0 : Int), []) :: gs) = 0 + (mg_p2 gs) := rfl
          have q3 : mg_p3 (((20 : Int), (0 : Int), (0 : Int), (0 : Int), []) :: gs) = 1 + (mg_p3 gs) := rfl
          have q4 : mg_p4 (((20 : Int), (0 : Int), (0 : Int), (0 : Int), []) :: gs) = 0 + (mg_p4 gs) := rfl
          refine ⟨_, _, _, bc, rfl, hS1467, Or.inl ⟨⟨(RJ.fewer (pj' := []) hR1471_ (fun _ h => nomatch h)), ?_, ?_⟩, rfl, ?_⟩⟩
          · exact (⟨⟨(show mg_k 20 from by decide), (show (0 : Int) ≤ (f 15).toInt from by omega), (show 0 ≤ (f 20).toInt from by omega), (show 1 ≤ (f 37).toInt from by omega), (show 0 ≤ (f 32).toInt from by omega), (show (f 32).toInt ≤ (f 5).toInt from by omega), (show (f 5).toInt ≤ 48 from by omega), (show (f 37).toInt ≤ 2 * ((f 5).toInt) + 1 from by omega), trivial⟩, mg_cast (mg_good_ext _ _ _ _ _ _ (fun i _ => by show g'1465 34 i = g 34 i; rw [show g'1465 34 = g'1393 34 from h1470_ 34 (by decide), show g'1393 34 = g 34 from h1397_ 34 (by decide)]) (fun i _ => by show g'1465 38 i = g 38 i; rw [show g'1465 38 = g'1393 38 from h1470_ 38 (by decide), show g'1393 38 = g 38 from h1397_ 38 (by decide)]) (fun i _ => by show g'1465 23 i = g 23 i; rw [show g'1465 23 = g'1393 23 from h1470_ 23 (by decide), show g'1393 23 = g 23 from h1397_ 23 (by decide)]) hrest) (by show (f 15).toInt + 0 = (f 15).toInt + 0; omega) (by show (f 20).toInt = (f 20).toInt; omega) (by show (f 37).toInt + 0 = (f 37).toInt + 0; omega) (by show (f 32).toInt + 0 = (f 32).toInt + 0; omega) (by show (f 5).toInt + 0 = (f 5).toInt + 0; omega)⟩ : mg_good (g'1465 34) (g'1465 38) (g'1465 23) (((20 : Int), (0 : Int), (0 : Int), (0 : Int), []) :: gs) ((f 15).toInt) ((f 20).toInt) ((f 37).toInt) ((f 32).toInt) ((f 5).toInt))
          · exact ⟨(by show 0 ≤ z1386.toInt; omega), (by show z1386.toInt ≤ (f 0).toInt; omega), (by show (f 0).toInt ≤ 512; omega), (by show 0 ≤ (f 24).toInt; omega), (by show (f 24).toInt + (f 20).toInt + mg_p1 (((20 : Int), (0 : Int), (0 : Int), (0 : Int), []) :: gs) ≤ 4 * z1386.toInt; omega), (by show (f 20).toInt ≤ z1386.toInt; omega), (by show (f 15).toInt + mg_p2 (((20 : Int), (0 : Int), (0 : Int), (0 : Int), []) :: gs) ≤ z1386.toInt; omega), (by show mg_p3 (((20 : Int), (0 : Int), (0 : Int), (0 : Int), []) :: gs) ≤ 20 * z1386.toInt + 20; omega), (by show 0 ≤ z1463.toInt; omega), (by show z1463.toInt + 3 * (f 20).toInt + mg_p4 (((20 : Int), (0 : Int), (0 : Int), (0 : Int), []) :: gs) ≤ 60 * z1386.toInt + 60; omega), (by show 0 ≤ (f 62).toInt; omega), (by show (f 62).toInt + 64 * mj_n (g'1465 16) (f 15).toNatClampNeg 3 ≤ 64 * z1386.toInt; rw [show g'1465 16 = g'1393 16 from h1470_ 16 (by decide), show g'1393 16 = g 16 from h1397_ 16 (by decide)]; omega), (by show 0 ≤ (f 44).toInt; omega), (by show (f 44).toInt ≤ z1386.toInt; omega), (by show 0 ≤ (f 48).toInt; omega), (by show (f 48).toInt ≤ z1386.toInt; omega), (by show 1 ≤ (f 53).toInt; omega), (by show (f 53).toInt ≤ z1386.toInt + 1; omega), (by show 0 ≤ (f 19).toInt; omega), (by show (f 19).toInt ≤ 600; omega)⟩
          · show 100 * ((f 0).toInt - z1386.toInt) + mg_p3 (((20 : Int), (0 : Int), (0 : Int), (0 : Int), []) :: gs) < 100 * ((f 0).toInt - (f 4).toInt) + (1 + mg_p3 gs); omega
  · refine am_e12f hi_225_9 (am_cF (m := r9.toInt) (n := (0 : Int)) rfl (by decide) c15) ?_
    refine am_e35 hi_225_12 ?_
    show am_E _ _ _ _ [some (.ref 39), some (.int 1), some (.int on), some (.int tw), some (.int th)] [] _ _
    refine am_e18 hi_180_116 ?_
    refine am_e35 hi_180_371 ?_
    have q1 : mg_p1 gs = mg_p1 gs := rfl
    have q2 : mg_p2 gs = mg_p2 gs := rfl
    have q3 : mg_p3 gs = mg_p3 gs := rfl
    have q4 : mg_p4 gs = mg_p4 gs := rfl
    refine ⟨_, _, _, bc, rfl, hS11, Or.inl ⟨⟨hR, ?_, ?_⟩, rfl, ?_⟩⟩
    · exact (mg_cast (mg_good_ext _ _ _ _ _ _ (fun _ _ => rfl) (fun _ _ => rfl) (fun _ _ => rfl) hrest) (by show (f 15).toInt + 0 = (f 15).toInt; omega) (by show (f 20).toInt = (f 20).toInt; omega) (by show (f 37).toInt + 0 = (f 37).toInt; omega) (by show (f 32).toInt + 0 = (f 32).toInt; omega) (by show (f 5).toInt + 0 = (f 5).toInt; omega) : mg_good (g 34) (g 38) (g 23) gs ((f 15).toInt) ((f 20).toInt) ((f 37).toInt) ((f 32).toInt) ((f 5).toInt))
    · exact ⟨(by show 0 ≤ (f 4).toInt; omega), (by show (f 4).toInt ≤ (f 0).toInt; omega), (by show (f 0).toInt ≤ 512; omega), (by show 0 ≤ (f 24).toInt; omega), (by show (f 24).toInt + (f 20).toInt + mg_p1 gs ≤ 4 * (f 4).toInt; omega), (by show (f 20).toInt ≤ (f 4).toInt; omega), (by show (f 15).toInt + mg_p2 gs ≤ (f 4).toInt; omega), (by show mg_p3 gs ≤ 20 * (f 4).toInt + 20; omega), (by show 0 ≤ (f 68).toInt; omega), (by show (f 68).toInt + 3 * (f 20).toInt + mg_p4 gs ≤ 60 * (f 4).toInt + 60; omega), (by show 0 ≤ (f 62).toInt; omega), (by show (f 62).toInt + 64 * mj_n (g 16) (f 15).toNatClampNeg 3 ≤ 64 * (f 4).toInt; omega), (by show 0 ≤ (f 44).toInt; omega), (by show (f 44).toInt ≤ (f 4).toInt; omega), (by show 0 ≤ (f 48).toInt; omega), (by show (f 48).toInt ≤ (f 4).toInt; omega), (by show 1 ≤ (f 53).toInt; omega), (by show (f 53).toInt ≤ (f 4).toInt + 1; omega), (by show 0 ≤ (f 19).toInt; omega), (by show (f 19).toInt ≤ 600; omega)⟩
    · show 100 * ((f 0).toInt - (f 4).toInt) + mg_p3 gs < 100 * ((f 0).toInt - (f 4).toInt) + (1 + mg_p3 gs); omega
