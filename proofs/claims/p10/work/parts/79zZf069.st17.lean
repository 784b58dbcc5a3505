/-! STEPS: statements (printed by wip/p2/st2.py) -/
set_option maxHeartbeats 16000000 in
theorem st_1 {sc : Nat × (Nat → Int32)} {d : Nat} {S0 S : am_S} {f : Nat → Int32} {g : Nat → Nat → Int32} {on : Int32} {tw : Int32} {th : Int32} {gs : List mg_E} {bc : List (List Nat)} (hS : MS S0 S f g) (hR : RJ f g gs bc [] 0 []) (hrest : mg_good (g 34) (g 38) (g 23) gs ((f 15).toInt + 0) ((f 20).toInt) ((f 37).toInt + 0) ((f 32).toInt + 0) ((f 5).toInt + 0)) (p0 : 0 ≤ (f 4).toInt) (p1 : (f 4).toInt ≤ (f 0).toInt) (p2 : (f 0).toInt ≤ 512) (p3 : 0 ≤ (f 24).toInt) (p4 : (f 24).toInt + (f 20).toInt + mg_p1 gs ≤ 4 * (f 4).toInt) (p5 : (f 20).toInt ≤ (f 4).toInt) (p6 : (f 15).toInt + 0 + mg_p2 gs ≤ (f 4).toInt) (p7 : 1 + mg_p3 gs ≤ 20 * (f 4).toInt + 20) (p8 : 0 ≤ (f 68).toInt) (p9 : (f 68).toInt + 3 * (f 20).toInt + 0 + mg_p4 gs ≤ 60 * (f 4).toInt + 60) (p10 : 0 ≤ (f 62).toInt) (p11 : (f 62).toInt + 64 * mj_n (g 16) (f 15).toNatClampNeg 3 ≤ 64 * (f 4).toInt) (p12 : 0 ≤ (f 44).toInt) (p13 : (f 44).toInt ≤ (f 4).toInt) (p14 : 0 ≤ (f 48).toInt) (p15 : (f 48).toInt ≤ (f 4).toInt) (p16 : 1 ≤ (f 53).toInt) (p17 : (f 53).toInt ≤ (f 4).toInt + 1) (p18 : 0 ≤ (f 19).toInt) (p19 : (f 19).toInt ≤ 600) (p20 : 0 ≤ (f 6).toInt) (p21 : 0 ≤ (f 8).toInt) (p22 : 0 ≤ mg_p1 gs) (p23 : 0 ≤ mg_p2 gs) (p24 : 0 ≤ mg_p4 gs) (p25 : 0 ≤ (f 10).toInt) (p26 : (f 10).toInt ≤ mg_p3 gs) (p27 : 0 ≤ mj_n (g 16) (f 15).toNatClampNeg 3) (p28 : 0 ≤ (f 15).toInt) (p29 : 0 ≤ (f 20).toInt) (p30 : 1 ≤ (f 37).toInt) (p31 : 0 ≤ (f 32).toInt) (p32 : (f 32).toInt ≤ (f 5).toInt) (p33 : (f 5).toInt ≤ 48) (p34 : (f 37).toInt ≤ 2 * (f 5).toInt + 1) : am_E (am_PP sc) (d + 8) 180 0 [some (.ref 39), some (.int 1), some (.int on), some (.int tw), some (.int th)] [] S (am_N fun v S1 => ∃ (f' : Nat → Int32) (g' : Nat → Nat → Int32) (gs' : List mg_E) (bc' : List (List Nat)), v = none ∧ MS S0 S1 f' g' ∧ (mg_on f (100 * ((f 0).toInt - (f 4).toInt) + (1 + mg_p3 gs)) f' g' gs' bc' ∨ mg_off f f' g' bc')) := by
  have hbs := mg_basic hrest
  refine am_e1 (v := 1) hi_180_0 rfl ?_
  refine am_e0 hi_180_1 ?_
  refine am_e13t hi_180_3 (by decide) ?_
  refine am_e1 (v := 1) hi_180_14 rfl ?_
  refine am_e19 (t := 112) hi_180_15 (by decide) ?_
  refine am_e2 (v := 39) hi_180_112 rfl ?_
  refine am_e32w (as := [.ref 39]) (la := [some (.ref 39), none]) (rest := []) hi_180_113 (am_hd0 (M := 180) (by decide) 113) (Nat.le_of_ble_eq_true rfl) (Nat.le_of_ble_eq_true rfl) (show 1 ≤ am_P0.2.2.1 225 from by decide +kernel) rfl (am_recv_ok hS.fs) rfl rfl ?_
  refine am_e2 (v := 39) hi_225_0 rfl ?_
  refine am_e32n (as := [.ref 39]) (la := [some (.ref 39)]) (rest := []) hi_225_1 (am_hd0 (M := 225) (by decide) 1) (Nat.le_of_ble_eq_true rfl) (Nat.le_of_ble_eq_true rfl) (show 1 ≤ am_P0.2.2.1 183 from by decide +kernel) rfl (am_recv_ok hS.fs) rfl rfl (ct_next (d := (d + 5)) hS   (by show (0 : Int) ≤ (f 4).toInt; omega) (by show (f 0).toInt ≤ (16384 : Int); omega)) ?_
  rintro v0 S1 (⟨r2, hv3, hS4, h5⟩)
  subst hv3
  have h5_ : (f 4).toInt < (f 0).toInt ∨ r2.toInt = (-1 : Int) := h5
  show am_E _ _ _ _ [some (.ref 39), none] [.int r2] _ _
  refine am_e3 (ls' := [some (.ref 39), some (.int r2)]) hi_225_4 (Nat.le_of_ble_eq_true rfl) rfl ?_
  refine am_e1 (v := r2) hi_225_5 rfl ?_
  refine am_e32n (as := [.int r2]) (la := [some (.int r2)]) (rest := []) hi_225_6 (am_hd0 (M := 225) (by decide) 6) (Nat.le_of_ble_eq_true rfl) (Nat.le_of_ble_eq_true rfl) (show 1 ≤ am_P0.2.2.1 226 from by decide +kernel) rfl rfl rfl rfl (ct_isFollower (d := (d + 6)) hS4   ) ?_
  rintro v7 S8 (⟨r9, hv10, hS11, h12, h13⟩)
  subst hv10
  have h12_ : r9 = 0 ∨ r9 = 1 := h12
  have h13_ : r9.toInt = (1 : Int) ∨ ¬ r2.toInt = -1 := h13
  show am_E _ _ _ _ [some (.ref 39), some (.int r2)] [.int r9] _ _
  by_cases c15 : r9.toInt = (0 : Int)
  · refine am_e12t hi_225_9 (am_cT (m := r9.toInt) (n := (0 : Int)) rfl (by decide) c15) ?_
    refine am_e1 (v := r2) hi_225_13 rfl ?_
    refine am_e0 hi_225_14 ?_
    by_cases c16 : ¬ r2.toInt = (27 : Int)
    · refine am_e13t hi_225_16 (am_cT (m := r2.toInt) (n := (27 : Int)) rfl (by decide) c16) ?_
      refine am_e2 (v := 39) hi_225_24 rfl ?_
      refine am_e32w (as := [.ref 39]) (la := [some (.ref 39)]) (rest := []) hi_225_25 (am_hd0 (M := 225) (by decide) 25) (Nat.le_of_ble_eq_true rfl) (Nat.le_of_ble_eq_true rfl) (show 1 ≤ am_P0.2.2.1 178 from by decide +kernel) rfl (am_recv_ok hS11.fs) rfl rfl ?_
      refine am_e2 (v := 39) hi_178_0 rfl ?_
      refine am_e0 hi_178_1 ?_
      refine am_e0 hi_178_2 ?_
      refine am_e0 hi_178_3 ?_
      refine am_e0 hi_178_4 ?_
      refine am_e32n (as := [.ref 39, .int 1, .int 0, .int 0, .int 0]) (la := [some (.ref 39), some (.int 1), some (.int 0), some (.int 0), some (.int 0)]) (rest := []) hi_178_5 (am_hd0 (M := 178) (by decide) 5) (Nat.le_of_ble_eq_true rfl) (Nat.le_of_ble_eq_true rfl) (show 5 ≤ am_P0.2.2.1 179 from by decide +kernel) rfl (am_recv_ok hS11.fs) rfl rfl (ct_pile (d := (d + 5)) hS11 hR (mj_e_plain (by decide)) (by show (0 : Int) ≤ (f 10).toInt; omega) (by show (f 10).toInt ≤ (65535 : Int); omega)) ?_
      rintro v17 S18 (⟨z19, g'20, hv21, hS22, hR25, h23, h24⟩)
      subst hv21
      have h23_ : z19.toInt = (f 10).toInt + 1 := h23
      have h24_ : ∀ j, j ∉ [11, 12, 13, 14] → g'20 j = g j := h24
      have hR25_ : RJ (upd f 10 z19) g'20 (((1 : Int), (0 : Int), (0 : Int), (0 : Int), []) :: gs) bc [] 0 [] := hR25
      show am_E _ _ _ _ [some (.ref 39)] [] _ _
      refine am_e35 hi_178_8 ?_
      show am_E _ _ _ _ [some (.ref 39), some (.int r2)] [] _ _
      refine am_e2 (v := 39) hi_225_28 rfl ?_
      refine am_e1 (v := r2) hi_225_29 rfl ?_
      refine am_e32w (as := [.ref 39, .int r2]) (la := [some (.ref 39), some (.int r2), none]) (rest := []) hi_225_30 (am_hd0 (M := 225) (by decide) 30) (Nat.le_of_ble_eq_true rfl) (Nat.le_of_ble_eq_true rfl) (show 2 ≤ am_P0.2.2.1 228 from by decide +kernel) rfl (am_recv_ok hS22.fs) rfl rfl ?_
      refine am_e2 (v := 39) hi_228_0 rfl ?_
      refine mm_20 (v := .int (f 4)) hS22 hi_228_1 rfl ?_
      refine am_e3 (ls' := [some (.ref 39), some (.int r2), some (.int (f 4))]) hi_228_4 (Nat.le_of_ble_eq_true rfl) rfl ?_
      refine am_e1 (v := r2) hi_228_5 rfl ?_
      by_cases c26 : r2.toInt = 11
      · refine am_e19 (t := 154) hi_228_6 (am_swI (v := r2) (w := 11) (by decide) (by decide) c26) ?_
        refine am_e2 (v := 39) hi_228_154 rfl ?_
        refine am_e7 hi_228_155 ?_
        refine mm_20 (v := .int (f 4)) hS22 hi_228_156 rfl ?_
        refine am_e0 hi_228_159 ?_
        obtain ⟨z27, hz27, tz27⟩ := am_addI (x := f 4) (y := 1) (m := (f 4).toInt) (n := (1 : Int)) rfl (by decide) (by omega) (by omega)
        refine am_e10 (z := z27) hi_228_160 hz27 ?_
        refine mm_21 (v := z27) hS22 hi_228_161 rfl (Nat.le_of_ble_eq_true rfl) ms_4 ?_
        intro S28 hS29
        replace hS29 : MS S0 S28 (upd (upd f 4 z27) 10 z19) g'20 := hS29
        have hR30 : RJ (upd (upd f 4 z27) 10 z19) g'20 (((1 : Int), (0 : Int), (0 : Int), (0 : Int), []) :: gs) bc [] 0 [] := RJ.at hR25_ (by show (f 4).toInt ≤ z27.toInt; omega)
        refine am_e2 (v := 39) hi_228_164 rfl ?_
        refine am_e1 (v := f 4) hi_228_165 rfl ?_
        refine am_e32n (as := [.ref 39, .int (f 4)]) (la := [some (.ref 39), some (.int (f 4)), none]) (rest := []) hi_228_166 (am_hd0 (M := 228) (by decide) 166) (Nat.le_of_ble_eq_true rfl) (Nat.le_of_ble_eq_true rfl) (show 2 ≤ am_P0.2.2.1 233 from by decide +kernel) rfl (am_recv_ok hS29.fs) rfl rfl (ct_leaveLoop (d := (d + 4)) hS29 hR30  (by show (0 : Int) ≤ (f 32).toInt; omega) (by show (f 32).toInt ≤ (63 : Int); omega) (by show (f 53).toInt ≤ (4096 : Int); omega) (by show (0 : Int) ≤ (f 68).toInt; omega) (by show (f 68).toInt ≤ (65532 : Int); omega) (by show (0 : Int) ≤ (f 37).toInt; omega) (by show (f 37).toInt ≤ (128 : Int); omega) (by show (0 : Int) ≤ (f 8).toInt; omega)) ?_
        rintro v31 S32 (⟨a33, b34, s35, g'36, bc237, hv38, hS39, hR45, h40, h41, h42, h43, h44⟩)
        subst hv38
        have h40_ : (f 68).toInt ≤ s35.toInt := h40
        have h41_ : s35.toInt ≤ (f 68).toInt + 2 := h41
        have h42_ : ∀ j, j ∉ [43, 60, 69, 70, 71, 72, 73] → g'36 j = g'20 j := h42
        have h43_ : bc237.length = bc.length := h43
        have h44_ : (0 : Int) ≤ a33.toInt := h44
        replace hS39 : MS S0 S32 (upd (upd (upd (upd (upd f 4 z27) 8 a33) 9 b34) 10 z19) 68 s35) g'36 := hS39
        have hR45_ : RJ (upd (upd (upd (upd (upd f 4 z27) 8 a33) 9 b34) 10 z19) 68 s35) g'36 (((1 : Int), (0 : Int), (0 : Int), (0 : Int), []) :: gs) bc237 [] 0 [] := hR45
        show am_E _ _ _ _ [some (.ref 39), some (.int r2), some (.int (f 4))] [] _ _
        refine am_e18 hi_228_169 ?_
        refine am_e35 hi_228_422 ?_
        show am_E _ _ _ _ [some (.ref 39), some (.int r2)] [] _ _
        refine am_e35 hi_225_33 ?_
        show am_E _ _ _ _ [some (.ref 39), some (.int 1), some (.int on), some (.int tw), some (.int th)] [] _ _
        refine am_e18 hi_180_116 ?_
        refine am_e35 hi_180_371 ?_
        have q1 : mg_p1 (((1 : Int), (0 : Int), (0 : Int), (0 : Int), []) :: gs) = 0 + (mg_p1 gs) := rfl
        have q2 : mg_p2 (((1 : Int), (0 : Int), (0 : Int), (0 : Int), []) :: gs) = 0 + (mg_p2 gs) := rfl
        have q3 : mg_p3 (((1 : Int), (0 : Int), (0 : Int), (0 : Int), []) :: gs) = 1 + (mg_p3 gs) := rfl
        have q4 : mg_p4 (((1 : Int), (0 : Int), (0 : Int), (0 : Int), []) :: gs) = 0 + (mg_p4 gs) := rfl
        refine ⟨_, _, _, bc237, rfl, hS39, Or.inl ⟨⟨hR45_, ?_, ?_⟩, rfl, ?_⟩⟩
        · exact (⟨⟨(show mg_k 1 from by decide), (show (0 : Int) ≤ (f 15).toInt from by omega), (show 0 ≤ (f 20).toInt from by omega), (show 1 ≤ (f 37).toInt from by omega), (show 0 ≤ (f 32).toInt from by omega), (show (f 32).toInt ≤ (f 5).toInt from by omega), (show (f 5).toInt ≤ 48 from by omega), (show (f 37).toInt ≤ 2 * ((f 5).toInt) + 1 from by omega), trivial⟩, mg_cast (mg_good_ext _ _ _ _ _ _ (fun i _ => by show g'36 34 i = g 34 i; rw [show g'36 34 = g'20 34 from h42_ 34 (by decide), show g'20 34 = g 34 from h24_ 34 (by decide)]) (fun i _ => by show g'36 38 i = g 38 i; rw [show g'36 38 = g'20 38 from h42_ 38 (by decide), show g'20 38 = g 38 from h24_ 38 (by decide)]) (fun i _ => by show g'36 23 i = g 23 i; rw [show g'36 23 = g'20 23 from h42_ 23 (by decide), show g'20 23 = g 23 from h24_ 23 (by decide)]) hrest) (by show (f 15).toInt + 0 = (f 15).toInt + 0; omega) (by show (f 20).toInt = (f 20).toInt; omega) (by show (f 37).toInt + 0 = (f 37).toInt + 0; omega) (by show (f 32).toInt + 0 = (f 32).toInt + 0; omega) (by show (f 5).toInt + 0 = (f 5).toInt + 0; omega)⟩ : mg_good (g'36 34) (g'36 38) (g'36 23) (((1 : Int), (0 : Int), (0 : Int), (0 : Int), []) :: gs) ((f 15).toInt) ((f 20).toInt) ((f 37).toInt) ((f 32).toInt) ((f 5).toInt))
        · exact ⟨(by show 0 ≤ z27.toInt; omega), (by show z27.toInt ≤ (f 0).toInt; omega), (by show (f 0).toInt ≤ 512; omega), (by show 0 ≤ (f 24).toInt; omega), (by show (f 24).toInt + (f 20).toInt + mg_p1 (((1 : Int), (0 : Int), (0 : Int), (0 : Int), []) :: gs) ≤ 4 * z27.toInt; omega), (by show (f 20).toInt ≤ z27.toInt; omega), (by show (f 15).toInt + mg_p2 (((1 : Int), (0 : Int), (0 : Int), (0 : Int), []) :: gs) ≤ z27.toInt; omega), (by show mg_p3 (((1 : Int), (0 : Int), (0 : Int), (0 : Int), []) :: gs) ≤ 20 * z27.toInt + 20; omega), (by show 0 ≤ s35.toInt; omega), (by show s35.toInt + 3 * (f 20).toInt + mg_p4 (((1 : Int), (0 : Int), (0 : Int), (0 : Int), []) :: gs) ≤ 60 * z27.toInt + 60; omega), (by show 0 ≤ (f 62).toInt; omega), (by show (f 62).toInt + 64 * mj_n (g'36 16) (f 15).toNatClampNeg 3 ≤ 64 * z27.toInt; rw [show g'36 16 = g'20 16 from h42_ 16 (by decide), show g'20 16 = g 16 from h24_ 16 (by decide)]; omega), (by show 0 ≤ (f 44).toInt; omega), (by show (f 44).toInt ≤ z27.toInt; omega), (by show 0 ≤ (f 48).toInt; omega), (by show (f 48).toInt ≤ z27.toInt; omega), (by show 1 ≤ (f 53).toInt; omega), (by show (f 53).toInt ≤ z27.toInt + 1; omega), (by show 0 ≤ (f 19).toInt; omega), (by show (f 19).toInt ≤ 600; omega), (by show 0 ≤ (f 6).toInt; omega), (by show 0 ≤ a33.toInt; omega)⟩
        · show 100 * ((f 0).toInt - z27.toInt) + mg_p3 (((1 : Int), (0 : Int), (0 : Int), (0 : Int), []) :: gs) < 100 * ((f 0).toInt - (f 4).toInt) + (1 + mg_p3 gs); omega
      by_cases c46 : r2.toInt = 12
      · refine am_e19 (t := 201) hi_228_6 (am_swI (v := r2) (w := 12) (by decide) (by decide) c46) ?_
        refine am_e2 (v := 39) hi_228_201 rfl ?_
        refine am_e0 hi_228_202 ?_
        refine am_e32n (as := [.ref 39, .int 12]) (la := [some (.ref 39), some (.int 12)]) (rest := []) hi_228_204 (am_hd0 (M := 228) (by decide) 204) (Nat.le_of_ble_eq_true rfl) (Nat.le_of_ble_eq_true rfl) (show 2 ≤ am_P0.2.2.1 193 from by decide +kernel) rfl (am_recv_ok hS22.fs) rfl rfl (ct_enter (d := (d + 3)) hS22   (by show (0 : Int) ≤ (f 4).toInt; omega) (by show (f 0).toInt ≤ (16384 : Int); omega) (by show (0 : Int) ≤ (12 : Int); omega) (by show (0 : Int) ≤ (f 5).toInt; omega) (by show (f 5).toInt ≤ (48 : Int); omega) (by show (0 : Int) ≤ (f 6).toInt; omega)) ?_
        rintro v47 S48 (⟨z49, y50, hv51, hS52, h53, h54, h55, h56⟩ | ⟨a58, b59, hv60, hS61, h62⟩)
        · subst hv51
          have h53_ : z49.toInt = (f 4).toInt + 1 := h53
          have h54_ : (f 4).toInt < (f 0).toInt := h54
          have h55_ : y50.toInt = (f 5).toInt + 1 := h55
          have h56_ : y50.toInt ≤ (48 : Int) := h56
          replace hS52 : MS S0 S48 (upd (upd (upd f 4 z49) 5 y50) 10 z19) g'20 := hS52
          have hR64 : RJ (upd (upd (upd f 4 z49) 5 y50) 10 z19) g'20 (((1 : Int), (0 : Int), (0 : Int), (0 : Int), []) :: gs) bc [] 0 [] := RJ.at hR25_ (by show (f 4).toInt ≤ z49.toInt; omega)
          show am_E _ _ _ _ [some (.ref 39), some (.int r2), some (.int (f 4))] [.int 1] _ _
          refine am_e12t hi_228_207 (by decide) ?_
          refine am_e2 (v := 39) hi_228_213 rfl ?_
          refine am_e0 hi_228_214 ?_
          refine am_e32n (as := [.ref 39, .int 0]) (la := [some (.ref 39), some (.int 0)]) (rest := []) hi_228_215 (am_hd0 (M := 228) (by decide) 215) (Nat.le_of_ble_eq_true rfl) (Nat.le_of_ble_eq_true rfl) (show 2 ≤ am_P0.2.2.1 177 from by decide +kernel) rfl (am_recv_ok hS52.fs) rfl rfl (ct_beginBlock2 (d := (d + 5)) hS52 hR64 (by decide)  (by show (0 : Int) ≤ (f 37).toInt; omega) (by show (f 37).toInt ≤ (127 : Int); omega) (by show (0 : Int) ≤ (f 24).toInt; omega) (by show (0 : Int) ≤ (f 44).toInt; omega) (by show (f 44).toInt ≤ z49.toInt; omega) (by show (0 : Int) ≤ (f 48).toInt; omega)) ?_
          rintro v65 S66 (⟨z67, g'68, hv69, hS70, hR74, h71, h72, h73⟩)
          subst hv69
          have h71_ : z67.toInt = (f 37).toInt + 1 := h71
          have h72_ : ∀ j, j ∉ [38, 39, 40, 41, 42, 43] → g'68 j = g'20 j := h72
          have h73_ : g'68 38 = upd (g'20 38) (f 37).toNatClampNeg (f 24) := h73
          have hR74_ : RJ (upd (upd (upd (upd f 4 z49) 5 y50) 10 z19) 37 z67) g'68 (((1 : Int), (0 : Int), (0 : Int), (0 : Int), []) :: gs) ([] :: bc) [] 0 [] := hR74
          show am_E _ _ _ _ [some (.ref 39), some (.int r2), some (.int (f 4))] [] _ _
          refine am_e2 (v := 39) hi_228_218 rfl ?_
          refine am_e0 hi_228_219 ?_
          refine am_e0 hi_228_220 ?_
          refine am_e0 hi_228_221 ?_
          refine am_e0 hi_228_222 ?_
          refine am_e32n (as := [.ref 39, .int 2, .int 0, .int 0, .int 0]) (la := [some (.ref 39), some (.int 2), some (.int 0), some (.int 0), some (.int 0)]) (rest := []) hi_228_223 (am_hd0 (M := 228) (by decide) 223) (Nat.le_of_ble_eq_true rfl) (Nat.le_of_ble_eq_true rfl) (show 5 ≤ am_P0.2.2.1 179 from by decide +kernel) rfl (am_recv_ok hS70.fs) rfl rfl (ct_pile (d := (d + 5)) hS70 hR74_ (mj_e_plain (by decide)) (by show (0 : Int) ≤ z19.toInt; omega) (by show z19.toInt ≤ (65535 : Int); omega)) ?_
          rintro v75 S76 (⟨z77, g'78, hv79, hS80, hR83, h81, h82⟩)
          subst hv79
          have h81_ : z77.toInt = z19.toInt + 1 := h81
          have h82_ : ∀ j, j ∉ [11, 12, 13, 14] → g'78 j = g'68 j := h82
          replace hS80 : MS S0 S76 (upd (upd (upd (upd f 4 z49) 5 y50) 10 z77) 37 z67) g'78 := hS80
          have hR83_ : RJ (upd (upd (upd (upd f 4 z49) 5 y50) 10 z77) 37 z67) g'78 (((2 : Int), (0 : Int), (0 : Int), (0 : Int), []) :: (((1 : Int), (0 : Int), (0 : Int), (0 : Int), []) :: gs)) ([] :: bc) [] 0 [] := hR83
          show am_E _ _ _ _ [some (.ref 39), some (.int r2), some (.int (f 4))] [] _ _
          refine am_e2 (v := 39) hi_228_226 rfl ?_
          refine am_e32w (as := [.ref 39]) (la := [some (.ref 39)]) (rest := []) hi_228_227 (am_hd0 (M := 228) (by decide) 227) (Nat.le_of_ble_eq_true rfl) (Nat.le_of_ble_eq_true rfl) (show 1 ≤ am_P0.2.2.1 178 from by decide +kernel) rfl (am_recv_ok hS80.fs) rfl rfl ?_
          refine am_e2 (v := 39) hi_178_0 rfl ?_
          refine am_e0 hi_178_1 ?_
          refine am_e0 hi_178_2 ?_
          refine am_e0 hi_178_3 ?_
          refine am_e0 hi_178_4 ?_
          refine am_e32n (as := [.ref 39, .int 1, .int 0, .int 0, .int 0]) (la := [some (.ref 39), some (.int 1), some (.int 0), some (.int 0), some (.int 0)]) (rest := []) hi_178_5 (am_hd0 (M := 178) (by decide) 5) (Nat.le_of_ble_eq_true rfl) (Nat.le_of_ble_eq_true rfl) (show 5 ≤ am_P0.2.2.1 179 from by decide +kernel) rfl (am_recv_ok hS80.fs) rfl rfl (ct_pile (d := (d + 4)) hS80 hR83_ (mj_e_plain (by decide)) (by show (0 : Int) ≤ z77.toInt; omega) (by show z77.toInt ≤ (65535 : Int); omega)) ?_
          rintro v84 S85 (⟨z86, g'87, hv88, hS89, hR92, h90, h91⟩)
          subst hv88
          have h90_ : z86.toInt = z77.toInt + 1 := h90
          have h91_ : ∀ j, j ∉ [11, 12, 13, 14] → g'87 j = g'78 j := h91
          replace hS89 : MS S0 S85 (upd (upd (upd (upd f 4 z49) 5 y50) 10 z86) 37 z67) g'87 := hS89
          have hR92_ : RJ (upd (upd (upd (upd f 4 z49) 5 y50) 10 z86) 37 z67) g'87 (((1 : Int), (0 : Int), (0 : Int), (0 : Int), []) :: (((2 : Int), (0 : Int), (0 : Int), (0 : Int), []) :: (((1 : Int), (0 : Int), (0 : Int), (0 : Int), []) :: gs))) ([] :: bc) [] 0 [] := hR92
          show am_E _ _ _ _ [some (.ref 39)] [] _ _
          refine am_e35 hi_178_8 ?_
          show am_E _ _ _ _ [some (.ref 39), some (.int r2), some (.int (f 4))] [] _ _
          refine am_e18 hi_228_230 ?_
          refine am_e35 hi_228_422 ?_
          show am_E _ _ _ _ [some (.ref 39), some (.int r2)] [] _ _
          refine am_e35 hi_225_33 ?_
          show am_E _ _ _ _ [some (.ref 39), some (.int 1), some (.int on), some (.int tw), some (.int th)] [] _ _
          refine am_e18 hi_180_116 ?_
          refine am_e35 hi_180_371 ?_
          have q1 : mg_p1 (((1 : Int), (0 : Int), (0 : Int), (0 : Int), []) :: (((2 : Int), (0 : Int), (0 : Int), (0 : Int), []) :: (((1 : Int), (0 : Int), (0 : Int), (0 : Int), []) :: gs))) = 0 + (0 + (0 + (mg_p1 gs))) := rfl
          have q2 : mg_p2 (((1 : Int), (0 : Int), (0 : Int), (0 : Int), []) :: (((2 : Int), (0 : Int), (0 : Int), (0 : Int), []) :: (((1 : Int), (0 : Int), (0 : Int), (0 : Int), []) :: gs))) = 0 + (0 + (0 + (mg_p2 gs))) := rfl
          have q3 : mg_p3 (((1 : Int), (0 : Int), (0 : Int), (0 : Int), []) :: (((2 : Int), (0 : Int), (0 : Int), (0 : Int), []) :: (((1 : Int), (0 : Int), (0 : Int), (0 : Int), []) :: gs))) = 1 + (1 + (1 + (mg_p3 gs))) := rfl
          have q4 : mg_p4 (((1 : Int), (0 : Int), (0 : Int), (0 : Int), []) :: (((2 : Int), (0 : Int), (0 : Int), (0 : Int), []) :: (((1 : Int), (0 : Int), (0 : Int), (0 : Int), []) :: gs))) = 0 + (0 + (0 + (mg_p4 gs))) := rfl
          refine ⟨_, _, _, ([] :: bc), rfl, hS89, Or.inl ⟨⟨hR92_, ?_, ?_⟩, rfl, ?_⟩⟩
          · exact (⟨⟨(show mg_k 1 from by decide), (show (0 : Int) ≤ (f 15).toInt from by omega), (show 0 ≤ (f 20).toInt from by omega), (show 1 ≤ z67.toInt from by omega), (show 0 ≤ (f 32).toInt from by omega), (show (f 32).toInt ≤ y50.toInt from by omega), (show y50.toInt ≤ 48 from by omega), (show z67.toInt ≤ 2 * (y50.toInt) + 1 from by omega), trivial⟩, ⟨⟨(show mg_k 2 from by decide), (show (0 : Int) ≤ (f 15).toInt + 0 from by omega), (show 0 ≤ (f 20).toInt from by omega), (show 1 ≤ z67.toInt + 0 from by omega), (show 0 ≤ (f 32).toInt + 0 from by omega), (show (f 32).toInt + 0 ≤ y50.toInt + 0 from by omega), (show y50.toInt + 0 ≤ 48 from by omega), (show z67.toInt + 0 ≤ 2 * (y50.toInt + 0) + 0 from by omega), trivial⟩, ⟨⟨(show mg_k 1 from by decide), (show (0 : Int) ≤ (f 15).toInt + 0 + 0 from by omega), (show 0 ≤ (f 20).toInt from by omega), (show 1 ≤ z67.toInt + 0 + -1 from by omega), (show 0 ≤ (f 32).toInt + 0 + 0 from by omega), (show (f 32).toInt + 0 + 0 ≤ y50.toInt + 0 + -1 from by omega), (show y50.toInt + 0 + -1 ≤ 48 from by omega), (show z67.toInt + 0 + -1 ≤ 2 * (y50.toInt + 0 + -1) + 1 from by omega), trivial⟩, mg_cast (mg_good_ext _ _ _ _ _ _ (fun i _ => by show g'87 34 i = g 34 i; rw [show g'87 34 = g'78 34 from h91_ 34 (by decide), show g'78 34 = g'68 34 from h82_ 34 (by decide), show g'68 34 = g'20 34 from h72_ 34 (by decide), show g'20 34 = g 34 from h24_ 34 (by decide)]) (fun i hi => by show g'87 38 i = g 38 i; rw [show g'87 38 = g'78 38 from h91_ 38 (by decide), show g'78 38 = g'68 38 from h82_ 38 (by decide), h73_, show g'20 38 = g 38 from h24_ 38 (by decide)]; exact upd_ne (by rw [cl_toNat]; omega)) (fun i _ => by show g'87 23 i = g 23 i; rw [show g'87 23 = g'78 23 from h91_ 23 (by decide), show g'78 23 = g'68 23 from h82_ 23 (by decide), show g'68 23 = g'20 23 from h72_ 23 (by decide), show g'20 23 = g 23 from h24_ 23 (by decide)]) hrest) (by show (f 15).toInt + 0 = (f 15).toInt + 0 + 0 + 0; omega) (by show (f 20).toInt = (f 20).toInt; omega) (by show (f 37).toInt + 0 = z67.toInt + 0 + -1 + 0; omega) (by show (f 32).toInt + 0 = (f 32).toInt + 0 + 0 + 0; omega) (by show (f 5).toInt + 0 = y50.toInt + 0 + -1 + 0; omega)⟩⟩⟩ : mg_good (g'87 34) (g'87 38) (g'87 23) (((1 : Int), (0 : Int), (0 : Int), (0 : Int), []) :: (((2 : Int), (0 : Int), (0 : Int), (0 : Int), []) :: (((1 : Int), (0 : Int), (0 : Int), (0 : Int), []) :: gs))) ((f 15).toInt) ((f 20).toInt) (z67.toInt) ((f 32).toInt) (y50.toInt))
          · exact ⟨(by show 0 ≤ z49.toInt; omega), (by show z49.toInt ≤ (f 0).toInt; omega), (by show (f 0).toInt ≤ 512; omega), (by show 0 ≤ (f 24).toInt; omega), (by show (f 24).toInt + (f 20).toInt + mg_p1 (((1 : Int), (0 : Int), (0 : Int), (0 : Int), []) :: (((2 : Int), (0 : Int), (0 : Int), (0 : Int), []) :: (((1 : Int), (0 : Int), (0 : Int), (0 : Int), []) :: gs))) ≤ 4 * z49.toInt; omega), (by show (f 20).toInt ≤ z49.toInt; omega), (by show (f 15).toInt + mg_p2 (((1 : Int), (0 : Int), (0 : Int), (0 : Int), []) :: (((2 : Int), (0 : Int), (0 : Int), (0 : Int), []) :: (((1 : Int), (0 : Int), (0 : Int), (0 : Int), []) :: gs))) ≤ z49.toInt; omega), (by show mg_p3 (((1 : Int), (0 : Int), (0 : Int), (0 : Int), []) :: (((2 : Int), (0 : Int), (0 : Int), (0 : Int), []) :: (((1 : Int), (0 : Int), (0 : Int), (0 : Int), []) :: gs))) ≤ 20 * z49.toInt + 20; omega), (by show 0 ≤ (f 68).toInt; omega), (by show (f 68).toInt + 3 * (f 20).toInt + mg_p4 (((1 : Int), (0 : Int), (0 : Int), (0 : Int), []) :: (((2 : Int), (0 : Int), (0 : Int), (0 : Int), []) :: (((1 : Int), (0 : Int), (0 : Int), (0 : Int), []) :: gs))) ≤ 60 * z49.toInt + 60; omega), (by show 0 ≤ (f 62).toInt; omega), (by show (f 62).toInt + 64 * mj_n (g'87 16) (f 15).toNatClampNeg 3 ≤ 64 * z49.toInt; rw [show g'87 16 = g'78 16 from h91_ 16 (by decide), show g'78 16 = g'68 16 from h82_ 16 (by decide), show g'68 16 = g'20 16 from h72_ 16 (by decide), show g'20 16 = g 16 from h24_ 16 (by decide)]; omega), (by show 0 ≤ (f 44).toInt; omega), (by show (f 44).toInt ≤ z49.toInt; omega), (by show 0 ≤ (f 48).toInt; omega), (by show (f 48).toInt ≤ z49.toInt; omega), (by show 1 ≤ (f 53).toInt; omega), (by show (f 53).toInt ≤ z49.toInt + 1; omega), (by show 0 ≤ (f 19).toInt; omega), (by show (f 19).toInt ≤ 600; omega), (by show 0 ≤ (f 6).toInt; omega), (by show 0 ≤ (f 8).toInt; omega)⟩
          · show 100 * ((f 0).toInt - z49.toInt) + mg_p3 (((1 : Int), (0 : Int), (0 : Int), (0 : Int), []) :: (((2 : Int), (0 : Int), (0 : Int), (0 : Int), []) :: (((1 : Int), (0 : Int), (0 : Int), (0 : Int), []) :: gs))) < 100 * ((f 0).toInt - (f 4).toInt) + (1 + mg_p3 gs); omega
        · subst hv60
          have h62_ : (0 : Int) ≤ a58.toInt := h62
          replace hS61 : MS S0 S48 (upd (upd (upd f 6 a58) 7 b59) 10 0) g'20 := hS61
          have hR93 := rj_clear0 hR25_
          have hR94 : RJ (upd (upd (upd f 6 a58) 7 b59) 10 0) g'20 [] bc [] 0 [] := hR93
          show am_E _ _ _ _ [some (.ref 39), some (.int r2), some (.int (f 4))] [.int 0] _ _
          refine am_e12f hi_228_207 (by decide) ?_
          refine am_e18 hi_228_210 ?_
          refine am_e35 hi_228_422 ?_
          show am_E _ _ _ _ [some (.ref 39), some (.int r2)] [] _ _
          refine am_e35 hi_225_33 ?_
          show am_E _ _ _ _ [some (.ref 39), some (.int 1), some (.int on), some (.int tw), some (.int th)] [] _ _
          refine am_e18 hi_180_116 ?_
          refine am_e35 hi_180_371 ?_
          have hRc := rj_clear0 hR94
          refine ⟨_, _, [], _, rfl, hS61, Or.inr ⟨hRc, rfl, (by show 0 ≤ (f 4).toInt; omega), (by show (f 4).toInt ≤ (f 0).toInt; omega), (by show 0 ≤ (f 32).toInt; omega), (by show (f 32).toInt ≤ 63; omega), (by show 1 ≤ (f 53).toInt; omega), (by show (f 53).toInt ≤ 600; omega), (by show 0 ≤ (f 68).toInt; omega), (by show (f 68).toInt ≤ 60000; omega), (by show 0 ≤ (f 48).toInt; omega), (by show (f 48).toInt ≤ 8000; omega), (by show 0 ≤ (f 37).toInt; omega), (by show (f 37).toInt ≤ 128; omega), (by show 0 ≤ (f 62).toInt; omega), (by show (f 62).toInt ≤ 65000; omega), (by show 0 ≤ (f 19).toInt; omega), (by show (f 19).toInt ≤ 600; omega), (by show 0 ≤ a58.toInt; omega), (by show 0 ≤ (f 8).toInt; omega)⟩⟩
      by_cases c95 : r2.toInt = 17
      · refine am_e19 (t := 344) hi_228_6 (am_swI (v := r2) (w := 17) (by decide) (by decide) c95) ?_
        refine am_e2 (v := 39) hi_228_344 rfl ?_
        refine am_e7 hi_228_345 ?_
        refine mm_20 (v := .int (f 4)) hS22 hi_228_346 rfl ?_
        refine am_e0 hi_228_349 ?_
        obtain ⟨z96, hz96, tz96⟩ := am_addI (x := f 4) (y := 1) (m := (f 4).toInt) (n := (1 : Int)) rfl (by decide) (by omega) (by omega)
        refine am_e10 (z := z96) hi_228_350 hz96 ?_
        refine mm_21 (v := z96) hS22 hi_228_351 rfl (Nat.le_of_ble_eq_true rfl) ms_4 ?_
        intro S97 hS98
        replace hS98 : MS S0 S97 (upd (upd f 4 z96) 10 z19) g'20 := hS98
        have hR99 : RJ (upd (upd f 4 z96) 10 z19) g'20 (((1 : Int), (0 : Int), (0 : Int), (0 : Int), []) :: gs) bc [] 0 [] := RJ.at hR25_ (by show (f 4).toInt ≤ z96.toInt; omega)
        refine am_e2 (v := 39) hi_228_354 rfl ?_
        refine am_e1 (v := f 4) hi_228_355 rfl ?_
        refine am_e32w (as := [.ref 39, .int (f 4)]) (la := [some (.ref 39), some (.int (f 4)), none, none]) (rest := []) hi_228_356 (am_hd0 (M := 228) (by decide) 356) (Nat.le_of_ble_eq_true rfl) (Nat.le_of_ble_eq_true rfl) (show 2 ≤ am_P0.2.2.1 235 from by decide +kernel) rfl (am_recv_ok hS98.fs) rfl rfl ?_
        refine am_e2 (v := 39) hi_235_0 rfl ?_
        refine am_e0 hi_235_1 ?_
        refine am_e32n (as := [.ref 39, .int 1]) (la := [some (.ref 39), some (.int 1)]) (rest := []) hi_235_2 (am_hd0 (M := 235) (by decide) 2) (Nat.le_of_ble_eq_true rfl) (Nat.le_of_ble_eq_true rfl) (show 2 ≤ am_P0.2.2.1 200 from by decide +kernel) rfl (am_recv_ok hS98.fs) rfl rfl (ct_take (d := (d + 2)) hS98   (by show (0 : Int) ≤ z96.toInt; omega) (by show (f 0).toInt ≤ (16384 : Int); omega) (by show (0 : Int) ≤ (1 : Int); omega) (by show (0 : Int) ≤ (f 6).toInt; omega)) ?_
        rintro v100 S101 (⟨z102, hv103, hS104, h105, h106⟩ | ⟨a108, b109, hv110, hS111, h112⟩)
        · subst hv103
          have h105_ : z102.toInt = z96.toInt + 1 := h105
          have h106_ : z96.toInt < (f 0).toInt := h106
          replace hS104 : MS S0 S101 (upd (upd f 4 z102) 10 z19) g'20 := hS104
          have hR114 : RJ (upd (upd f 4 z102) 10 z19) g'20 (((1 : Int), (0 : Int), (0 : Int), (0 : Int), []) :: gs) bc [] 0 [] := RJ.at hR99 (by show z96.toInt ≤ z102.toInt; omega)
          show am_E _ _ _ _ [some (.ref 39), some (.int (f 4)), none, none] [.int 1] _ _
          refine am_e12t hi_235_5 (by decide) ?_
          refine am_e2 (v := 39) hi_235_9 rfl ?_
          refine am_e32n (as := [.ref 39]) (la := [some (.ref 39)]) (rest := []) hi_235_10 (am_hd0 (M := 235) (by decide) 10) (Nat.le_of_ble_eq_true rfl) (Nat.le_of_ble_eq_true rfl) (show 1 ≤ am_P0.2.2.1 183 from by decide +kernel) rfl (am_recv_ok hS104.fs) rfl rfl (ct_next (d := (d + 3)) hS104   (by show (0 : Int) ≤ z102.toInt; omega) (by show (f 0).toInt ≤ (16384 : Int); omega)) ?_
          rintro v115 S116 (⟨r117, hv118, hS119, h120⟩)
          subst hv118
          have h120_ : z102.toInt < (f 0).toInt ∨ r117.toInt = (-1 : Int) := h120
          show am_E _ _ _ _ [some (.ref 39), some (.int (f 4)), none, none] [.int r117] _ _
          refine am_e0 hi_235_13 ?_
          by_cases c122 : ¬ r117.toInt = (59 : Int)
          · refine am_e13t hi_235_15 (am_cT (m := r117.toInt) (n := (59 : Int)) rfl (by decide) c122) ?_
            refine am_e0 hi_235_43 ?_
            refine am_e3 (ls' := [some (.ref 39), some (.int (f 4)), some (.int 1), none]) hi_235_44 (Nat.le_of_ble_eq_true rfl) rfl ?_
            refine fr_loop (d := (d + 2)) (f := (upd (upd f 4 z102) 10 z19)) (g := g'20) (w := (f 4))  (by show (0 : Int) ≤ z102.toInt; omega) (by show (f 0).toInt ≤ (16384 : Int); omega) (by show z102.toInt ≤ (f 0).toInt; omega) (by show (f 0).toInt ≤ (512 : Int); omega) (by show (0 : Int) ≤ (f 6).toInt; omega) ?_ ?_ (((f 0).toInt - z102.toInt).toNat + 1) _ none 1 z102 hS119 hR114 (by show (1 : Int) ≤ (1 : Int); omega) (by show 2 * (1 : Int) = z102.toInt - z102.toInt + 2; omega) (by show z102.toInt ≤ z102.toInt; omega) (by show z102.toInt ≤ (f 0).toInt; omega) (by show (f 0).toInt - z102.toInt < _; omega)
            · intro S125 x3128 c123 z124 hS126 hR127 h129 h130 h131 h132
              replace hS126 : MS S0 S125 (upd (upd f 4 z124) 10 z19) g'20 := hS126
              have h129_ : (1 : Int) ≤ c123.toInt := h129
              have h130_ : 2 * c123.toInt = z124.toInt - z102.toInt + 2 := h130
              have h131_ : z102.toInt ≤ z124.toInt := h131
              have h132_ : z124.toInt ≤ (f 0).toInt := h132
              have hR127_ : RJ (upd (upd f 4 z124) 10 z19) g'20 (((1 : Int), (0 : Int), (0 : Int), (0 : Int), []) :: gs) bc [] 0 [] := hR127
              show am_E _ _ _ _ [some (.ref 39), some (.int (f 4)), some (.int c123), x3128] [] _ _
              refine am_e2 (v := 39) hi_235_79 rfl ?_
              refine mm_20 (v := .int z124) hS126 hi_235_80 rfl ?_
              refine am_e3 (ls' := [some (.ref 39), some (.int (f 4)), some (.int c123), some (.int z124)]) hi_235_83 (Nat.le_of_ble_eq_true rfl) rfl ?_
              refine am_e2 (v := 39) hi_235_84 rfl ?_
              refine am_e0 hi_235_85 ?_
              refine am_e32n (as := [.ref 39, .int 21]) (la := [some (.ref 39), some (.int 21)]) (rest := []) hi_235_87 (am_hd0 (M := 235) (by decide) 87) (Nat.le_of_ble_eq_true rfl) (Nat.le_of_ble_eq_true rfl) (show 2 ≤ am_P0.2.2.1 200 from by decide +kernel) rfl (am_recv_ok hS126.fs) rfl rfl (ct_take (d := (d + 2)) hS126   (by show (0 : Int) ≤ z124.toInt; omega) (by show (f 0).toInt ≤ (16384 : Int); omega) (by show (0 : Int) ≤ (21 : Int); omega) (by show (0 : Int) ≤ (f 6).toInt; omega)) ?_
              rintro v133 S134 (⟨z135, hv136, hS137, h138, h139⟩ | ⟨a141, b142, hv143, hS144, h145⟩)
              · subst hv136
                have h138_ : z135.toInt = z124.toInt + 1 := h138
                have h139_ : z124.toInt < (f 0).toInt := h139
                replace hS137 : MS S0 S134 (upd (upd f 4 z135) 10 z19) g'20 := hS137
                have hR147 : RJ (upd (upd f 4 z135) 10 z19) g'20 (((1 : Int), (0 : Int), (0 : Int), (0 : Int), []) :: gs) bc [] 0 [] := RJ.at hR127_ (by show z124.toInt ≤ z135.toInt; omega)
                show am_E _ _ _ _ [some (.ref 39), some (.int (f 4)), some (.int c123), some (.int z124)] [.int 1] _ _
                refine am_e12t hi_235_90 (by decide) ?_
                refine am_e2 (v := 39) hi_235_94 rfl ?_
                refine am_e0 hi_235_95 ?_
                refine am_e1 (v := f 4) hi_235_97 rfl ?_
                refine am_e1 (v := c123) hi_235_98 rfl ?_
                refine am_e1 (v := z124) hi_235_99 rfl ?_
                refine am_e32n (as := [.ref 39, .int 14, .int (f 4), .int c123, .int z124]) (la := [some (.ref 39), some (.int 14), some (.int (f 4)), some (.int c123), some (.int z124)]) (rest := []) hi_235_100 (am_hd0 (M := 235) (by decide) 100) (Nat.le_of_ble_eq_true rfl) (Nat.le_of_ble_eq_true rfl) (show 5 ≤ am_P0.2.2.1 179 from by decide +kernel) rfl (am_recv_ok hS137.fs) rfl rfl (ct_pile (d := (d + 4)) hS137 hR147 (mj_e_plain (by decide)) (by show (0 : Int) ≤ z19.toInt; omega) (by show z19.toInt ≤ (65535 : Int); omega)) ?_
                rintro v148 S149 (⟨z150, g'151, hv152, hS153, hR156, h154, h155⟩)
                subst hv152
                have h154_ : z150.toInt = z19.toInt + 1 := h154
                have h155_ : ∀ j, j ∉ [11, 12, 13, 14] → g'151 j = g'20 j := h155
                replace hS153 : MS S0 S149 (upd (upd f 4 z135) 10 z150) g'151 := hS153
                have hR156_ : RJ (upd (upd f 4 z135) 10 z150) g'151 (((14 : Int), (f 4).toInt, c123.toInt, z124.toInt, []) :: (((1 : Int), (0 : Int), (0 : Int), (0 : Int), []) :: gs)) bc [] 0 [] := hR156
                show am_E _ _ _ _ [some (.ref 39), some (.int (f 4)), some (.int c123), some (.int z124)] [] _ _
                refine am_e2 (v := 39) hi_235_103 rfl ?_
                refine am_e32w (as := [.ref 39]) (la := [some (.ref 39)]) (rest := []) hi_235_104 (am_hd0 (M := 235) (by decide) 104) (Nat.le_of_ble_eq_true rfl) (Nat.le_of_ble_eq_true rfl) (show 1 ≤ am_P0.2.2.1 214 from by decide +kernel) rfl (am_recv_ok hS153.fs) rfl rfl ?_
                refine am_e2 (v := 39) hi_214_0 rfl ?_
                refine am_e0 hi_214_1 ?_
                refine am_e0 hi_214_3 ?_
                refine am_e0 hi_214_4 ?_
                refine am_e0 hi_214_5 ?_
                refine am_e32n (as := [.ref 39, .int 34, .int 1, .int 0, .int 0]) (la := [some (.ref 39), some (.int 34), some (.int 1), some (.int 0), some (.int 0)]) (rest := []) hi_214_6 (am_hd0 (M := 214) (by decide) 6) (Nat.le_of_ble_eq_true rfl) (Nat.le_of_ble_eq_true rfl) (show 5 ≤ am_P0.2.2.1 179 from by decide +kernel) rfl (am_recv_ok hS153.fs) rfl rfl (ct_pile (d := (d + 3)) hS153 hR156_ (mj_e_plain (by decide)) (by show (0 : Int) ≤ z150.toInt; omega) (by show z150.toInt ≤ (65535 : Int); omega)) ?_
                rintro v157 S158 (⟨z159, g'160, hv161, hS162, hR165, h163, h164⟩)
                subst hv161
                have h163_ : z159.toInt = z150.toInt + 1 := h163
                have h164_ : ∀ j, j ∉ [11, 12, 13, 14] → g'160 j = g'151 j := h164
                replace hS162 : MS S0 S158 (upd (upd f 4 z135) 10 z159) g'160 := hS162
                have hR165_ : RJ (upd (upd f 4 z135) 10 z159) g'160 (((34 : Int), (1 : Int), (0 : Int), (0 : Int), []) :: (((14 : Int), (f 4).toInt, c123.toInt, z124.toInt, []) :: (((1 : Int), (0 : Int), (0 : Int), (0 : Int), []) :: gs))) bc [] 0 [] := hR165
                show am_E _ _ _ _ [some (.ref 39)] [] _ _
                refine am_e2 (v := 39) hi_214_9 rfl ?_
                refine am_e0 hi_214_10 ?_
                refine am_e32w (as := [.ref 39, .int 0]) (la := [some (.ref 39), some (.int 0)]) (rest := []) hi_214_11 (am_hd0 (M := 214) (by decide) 11) (Nat.le_of_ble_eq_true rfl) (Nat.le_of_ble_eq_true rfl) (show 2 ≤ am_P0.2.2.1 186 from by decide +kernel) rfl (am_recv_ok hS162.fs) rfl rfl ?_
                refine am_e2 (v := 39) hi_186_0 rfl ?_
                refine am_e0 hi_186_1 ?_
                refine am_e1 (v := 0) hi_186_3 rfl ?_
                refine am_e0 hi_186_4 ?_
                refine am_e0 hi_186_5 ?_
                refine am_e32n (as := [.ref 39, .int 23, .int 0, .int 0, .int 0]) (la := [some (.ref 39), some (.int 23), some (.int 0), some (.int 0), some (.int 0)]) (rest := []) hi_186_6 (am_hd0 (M := 186) (by decide) 6) (Nat.le_of_ble_eq_true rfl) (Nat.le_of_ble_eq_true rfl) (show 5 ≤ am_P0.2.2.1 179 from by decide +kernel) rfl (am_recv_ok hS162.fs) rfl rfl (ct_pile (d := (d + 2)) hS162 hR165_ (mj_e_plain (by decide)) (by show (0 : Int) ≤ z159.toInt; omega) (by show z159.toInt ≤ (65535 : Int); omega)) ?_
                rintro v166 S167 (⟨z168, g'169, hv170, hS171, hR174, h172, h173⟩)
                subst hv170
                have h172_ : z168.toInt = z159.toInt + 1 := h172
                have h173_ : ∀ j, j ∉ [11, 12, 13, 14] → g'169 j = g'160 j := h173
                replace hS171 : MS S0 S167 (upd (upd f 4 z135) 10 z168) g'169 := hS171
                have hR174_ : RJ (upd (upd f 4 z135) 10 z168) g'169 (((23 : Int), (0 : Int), (0 : Int), (0 : Int), []) :: (((34 : Int), (1 : Int), (0 : Int), (0 : Int), []) :: (((14 : Int), (f 4).toInt, c123.toInt, z124.toInt, []) :: (((1 : Int), (0 : Int), (0 : Int), (0 : Int), []) :: gs)))) bc [] 0 [] := hR174
                show am_E _ _ _ _ [some (.ref 39), some (.int 0)] [] _ _
                refine am_e35 hi_186_9 ?_
                show am_E _ _ _ _ [some (.ref 39)] [] _ _
                refine am_e35 hi_214_14 ?_
                show am_E _ _ _ _ [some (.ref 39), some (.int (f 4)), some (.int c123), some (.int z124)] [] _ _
                refine am_e35 hi_235_107 ?_
                show am_E _ _ _ _ [some (.ref 39), some (.int r2), some (.int (f 4))] [] _ _
                refine am_e18 hi_228_359 ?_
                refine am_e35 hi_228_422 ?_
                show am_E _ _ _ _ [some (.ref 39), some (.int r2)] [] _ _
                refine am_e35 hi_225_33 ?_
                show am_E _ _ _ _ [some (.ref 39), some (.int 1), some (.int on), some (.int tw), some (.int th)] [] _ _
                refine am_e18 hi_180_116 ?_
                refine am_e35 hi_180_371 ?_
                have q1 : mg_p1 (((23 : Int), (0 : Int), (0 : Int), (0 : Int), []) :: (((34 : Int), (1 : Int), (0 : Int), (0 : Int), []) :: (((14 : Int), (f 4).toInt, c123.toInt, z124.toInt, []) :: (((1 : Int), (0 : Int), (0 : Int), (0 : Int), []) :: gs)))) = 0 + (0 + (c123.toInt + (0 + (mg_p1 gs)))) := rfl
                have q2 : mg_p2 (((23 : Int), (0 : Int), (0 : Int), (0 : Int), []) :: (((34 : Int), (1 : Int), (0 : Int), (0 : Int), []) :: (((14 : Int), (f 4).toInt, c123.toInt, z124.toInt, []) :: (((1 : Int), (0 : Int), (0 : Int), (0 : Int), []) :: gs)))) = 0 + (((1 : Int) - 1) + (0 + (0 + (mg_p2 gs)))) := rfl
                have q3 : mg_p3 (((23 : Int), (0 : Int), (0 : Int), (0 : Int), []) :: (((34 : Int), (1 : Int), (0 : Int), (0 : Int), []) :: (((14 : Int), (f 4).toInt, c123.toInt, z124.toInt, []) :: (((1 : Int), (0 : Int), (0 : Int), (0 : Int), []) :: gs)))) = 1 + (1 + (1 + (1 + (mg_p3 gs)))) := rfl
                have q4 : mg_p4 (((23 : Int), (0 : Int), (0 : Int), (0 : Int), []) :: (((34 : Int), (1 : Int), (0 : Int), (0 : Int), []) :: (((14 : Int), (f 4).toInt, c123.toInt, z124.toInt, []) :: (((1 : Int), (0 : Int), (0 : Int), (0 : Int), []) :: gs)))) = 0 + (0 + (0 + (0 + (mg_p4 gs)))) := rfl
                refine ⟨_, _, _, bc, rfl, hS171, Or.inl ⟨⟨hR174_, ?_, ?_⟩, rfl, ?_⟩⟩
                · exact (⟨⟨(show mg_k 23 from by decide), (show (0 : Int) ≤ (f 15).toInt from by omega), (show 0 ≤ (f 20).toInt from by omega), (show 1 ≤ (f 37).toInt from by omega), (show 0 ≤ (f 32).toInt from by omega), (show (f 32).toInt ≤ (f 5).toInt from by omega), (show (f 5).toInt ≤ 48 from by omega), (show (f 37).toInt ≤ 2 * ((f 5).toInt) + 2 from by omega), (show 0 ≤ (0 : Int) from by omega)⟩, ⟨⟨(show mg_k 34 from by decide), (show (1 : Int) ≤ (f 15).toInt + 1 from by omega), (show 0 ≤ (f 20).toInt from by omega), (show 1 ≤ (f 37).toInt + 0 from by omega), (show 0 ≤ (f 32).toInt + 0 from by omega), (show (f 32).toInt + 0 ≤ (f 5).toInt + 0 from by omega), (show (f 5).toInt + 0 ≤ 48 from by omega), (show (f 37).toInt + 0 ≤ 2 * ((f 5).toInt + 0) + 2 from by omega), (show 1 ≤ (1 : Int) from by omega)⟩, ⟨⟨(show mg_k 14 from by decide), (show (1 : Int) ≤ (f 15).toInt + 1 + 0 from by omega), (show 0 ≤ (f 20).toInt from by omega), (show 1 ≤ (f 37).toInt + 0 + 0 from by omega), (show 0 ≤ (f 32).toInt + 0 + 0 from by omega), (show (f 32).toInt + 0 + 0 ≤ (f 5).toInt + 0 + 0 from by omega), (show (f 5).toInt + 0 + 0 ≤ 48 from by omega), (show (f 37).toInt + 0 + 0 ≤ 2 * ((f 5).toInt + 0 + 0) + 1 from by omega), ⟨(show 0 ≤ (f 4).toInt from by omega), (show 1 ≤ c123.toInt from by omega), (show (f 4).toInt + 2 * c123.toInt ≤ 16000 from by omega)⟩⟩, ⟨⟨(show mg_k 1 from by decide), (show (0 : Int) ≤ (f 15).toInt + 1 + 0 + -1 from by omega), (show 0 ≤ (f 20).toInt from by omega), (show 1 ≤ (f 37).toInt + 0 + 0 + 0 from by omega), (show 0 ≤ (f 32).toInt + 0 + 0 + 0 from by omega), (show (f 32).toInt + 0 + 0 + 0 ≤ (f 5).toInt + 0 + 0 + 0 from by omega), (show (f 5).toInt + 0 + 0 + 0 ≤ 48 from by omega), (show (f 37).toInt + 0 + 0 + 0 ≤ 2 * ((f 5).toInt + 0 + 0 + 0) + 1 from by omega), trivial⟩, mg_cast (mg_good_ext _ _ _ _ _ _ (fun i _ => by show g'169 34 i = g 34 i; rw [show g'169 34 = g'160 34 from h173_ 34 (by decide), show g'160 34 = g'151 34 from h164_ 34 (by decide), show g'151 34 = g'20 34 from h155_ 34 (by decide), show g'20 34 = g 34 from h24_ 34 (by decide)]) (fun i _ => by show g'169 38 i = g 38 i; rw [show g'169 38 = g'160 38 from h173_ 38 (by decide), show g'160 38 = g'151 38 from h164_ 38 (by decide), show g'151 38 = g'20 38 from h155_ 38 (by decide), show g'20 38 = g 38 from h24_ 38 (by decide)]) (fun i _ => by show g'169 23 i = g 23 i; rw [show g'169 23 = g'160 23 from h173_ 23 (by decide), show g'160 23 = g'151 23 from h164_ 23 (by decide), show g'151 23 = g'20 23 from h155_ 23 (by decide), show g'20 23 = g 23 from h24_ 23 (by decide)]) hrest) (by show (f 15).toInt + 0 = (f 15).toInt + 1 + 0 + -1 + 0; omega) (by show (f 20).toInt = (f 20).toInt; omega) (by show (f 37).toInt + 0 = (f 37).toInt + 0 + 0 + 0 + 0; omega) (by show (f 32).toInt + 0 = (f 32).toInt + 0 + 0 + 0 + 0; omega) (by show (f 5).toInt + 0 = (f 5).toInt + 0 + 0 + 0 + 0; omega)⟩⟩⟩⟩ : mg_good (g'169 34) (g'169 38) (g'169 23) (((23 : Int), (0 : Int), (0 : Int), (0 : Int), []) :: (((34 : Int), (1 : Int), (0 : Int), (0 : Int), []) :: (((14 : Int), (f 4).toInt, c123.toInt, z124.toInt, []) :: (((1 : Int), (0 : Int), (0 : Int), (0 : Int), []) :: gs)))) ((f 15).toInt) ((f 20).toInt) ((f 37).toInt) ((f 32).toInt) ((f 5).toInt))
                · exact ⟨(by show 0 ≤ z135.toInt; omega), (by show z135.toInt ≤ (f 0).toInt; omega), (by show (f 0).toInt ≤ 512; omega), (by show 0 ≤ (f 24).toInt; omega), (by show (f 24).toInt + (f 20).toInt + mg_p1 (((23 : Int), (0 : Int), (0 : Int), (0 : Int), []) :: (((34 : Int), (1 : Int), (0 : Int), (0 : Int), []) :: (((14 : Int), (f 4).toInt, c123.toInt, z124.toInt, []) :: (((1 : Int), (0 : Int), (0 : Int), (0 : Int), []) :: gs)))) ≤ 4 * z135.toInt; omega), (by show (f 20).toInt ≤ z135.toInt; omega), (by show (f 15).toInt + mg_p2 (((23 : Int), (0 : Int), (0 : Int), (0 : Int), []) :: (((34 : Int), (1 : Int), (0 : Int), (0 : Int), []) :: (((14 : Int), (f 4).toInt, c123.toInt, z124.toInt, []) :: (((1 : Int), (0 : Int), (0 : Int), (0 : Int), []) :: gs)))) ≤ z135.toInt; omega), (by show mg_p3 (((23 : Int), (0 : Int), (0 : Int), (0 : Int), []) :: (((34 : Int), (1 : Int), (0 : Int), (0 : Int), []) :: (((14 : Int), (f 4).toInt, c123.toInt, z124.toInt, []) :: (((1 : Int), (0 : Int), (0 : Int), (0 : Int), []) :: gs)))) ≤ 20 * z135.toInt + 20; omega), (by show 0 ≤ (f 68).toInt; omega), (by show (f 68).toInt + 3 * (f 20).toInt + mg_p4 (((23 : Int), (0 : Int), (0 : Int), (0 : Int), []) :: (((34 : Int), (1 : Int), (0 : Int), (0 : Int), []) :: (((14 : Int), (f 4).toInt, c123.toInt, z124.toInt, []) :: (((1 : Int), (0 : Int), (0 : Int), (0 : Int), []) :: gs)))) ≤ 60 * z135.toInt + 60; omega), (by show 0 ≤ (f 62).toInt; omega), (by show (f 62).toInt + 64 * mj_n (g'169 16) (f 15).toNatClampNeg 3 ≤ 64 * z135.toInt; rw [show g'169 16 = g'160 16 from h173_ 16 (by decide), show g'160 16 = g'151 16 from h164_ 16 (by decide), show g'151 16 = g'20 16 from h155_ 16 (by decide), show g'20 16 = g 16 from h24_ 16 (by decide)]; omega), (by show 0 ≤ (f 44).toInt; omega), (by show (f 44).toInt ≤ z135.toInt; omega), (by show 0 ≤ (f 48).toInt; omega), (by show (f 48).toInt ≤ z135.toInt; omega), (by show 1 ≤ (f 53).toInt; omega), (by show (f 53).toInt ≤ z135.toInt + 1; omega), (by show 0 ≤ (f 19).toInt; omega), (by show (f 19).toInt ≤ 600; omega), (by show 0 ≤ (f 6).toInt; omega), (by show 0 ≤ (f 8).toInt; omega)⟩
                · show 100 * ((f 0).toInt - z135.toInt) + mg_p3 (((23 : Int), (0 : Int), (0 : Int), (0 : Int), []) :: (((34 : Int), (1 : Int), (0 : Int), (0 : Int), []) :: (((14 : Int), (f 4).toInt, c123.toInt, z124.toInt, []) :: (((1 : Int), (0 : Int), (0 : Int), (0 : Int), []) :: gs)))) < 100 * ((f 0).toInt - (f 4).toInt) + (1 + mg_p3 gs); omega
              · subst hv143
                have h145_ : (0 : Int) ≤ a141.toInt := h145
                replace hS144 : MS S0 S134 (upd (upd (upd (upd f 4 z124) 6 a141) 7 b142) 10 0) g'20 := hS144
                have hR175 := rj_clear0 hR127_
                have hR176 : RJ (upd (upd (upd (upd f 4 z124) 6 a141) 7 b142) 10 0) g'20 [] bc [] 0 [] := hR175
                show am_E _ _ _ _ [some (.ref 39), some (.int (f 4)), some (.int c123), some (.int z124)] [.int 0] _ _
                refine am_e12f hi_235_90 (by decide) ?_
                refine am_e35 hi_235_93 ?_
                show am_E _ _ _ _ [some (.ref 39), some (.int r2), some (.int (f 4))] [] _ _
                refine am_e18 hi_228_359 ?_
                refine am_e35 hi_228_422 ?_
                show am_E _ _ _ _ [some (.ref 39), some (.int r2)] [] _ _
                refine am_e35 hi_225_33 ?_
                show am_E _ _ _ _ [some (.ref 39), some (.int 1), some (.int on), some (.int tw), some (.int th)] [] _ _
                refine am_e18 hi_180_116 ?_
                refine am_e35 hi_180_371 ?_
                have hRc := rj_clear0 hR176
                refine ⟨_, _, [], _, rfl, hS144, Or.inr ⟨hRc, rfl, (by show 0 ≤ z124.toInt; omega), (by show z124.toInt ≤ (f 0).toInt; omega), (by show 0 ≤ (f 32).toInt; omega), (by show (f 32).toInt ≤ 63; omega), (by show 1 ≤ (f 53).toInt; omega), (by show (f 53).toInt ≤ 600; omega), (by show 0 ≤ (f 68).toInt; omega), (by show (f 68).toInt ≤ 60000; omega), (by show 0 ≤ (f 48).toInt; omega), (by show (f 48).toInt ≤ 8000; omega), (by show 0 ≤ (f 37).toInt; omega), (by show (f 37).toInt ≤ 128; omega), (by show 0 ≤ (f 62).toInt; omega), (by show (f 62).toInt ≤ 65000; omega), (by show 0 ≤ (f 19).toInt; omega), (by show (f 19).toInt ≤ 600; omega), (by show 0 ≤ a141.toInt; omega), (by show 0 ≤ (f 8).toInt; omega)⟩⟩
            · intro S180 x2183 x3184 z177 u_178 v_179 hS181 hR182 h185 h186 h187
              replace hS181 : MS S0 S180 (upd (upd (upd (upd f 4 z177) 6 u_178) 7 v_179) 10 0) g'20 := hS181
              have h185_ : z102.toInt ≤ z177.toInt := h185
              have h186_ : z177.toInt ≤ (f 0).toInt := h186
              have h187_ : (0 : Int) ≤ u_178.toInt := h187
              have hR182_ : RJ (upd (upd (upd (upd f 4 z177) 6 u_178) 7 v_179) 10 0) g'20 [] bc [] 0 [] := hR182
              show am_E _ _ _ _ [some (.ref 39), some (.int (f 4)), x2183, x3184] [] _ _
              refine am_e35 hi_235_72 ?_
              show am_E _ _ _ _ [some (.ref 39), some (.int r2), some (.int (f 4))] [] _ _
              refine am_e18 hi_228_359 ?_
              refine am_e35 hi_228_422 ?_
              show am_E _ _ _ _ [some (.ref 39), some (.int r2)] [] _ _
              refine am_e35 hi_225_33 ?_
              show am_E _ _ _ _ [some (.ref 39), some (.int 1), some (.int on), some (.int tw), some (.int th)] [] _ _
              refine am_e18 hi_180_116 ?_
              refine am_e35 hi_180_371 ?_
              have hRc := rj_clear0 hR182_
              refine ⟨_, _, [], _, rfl, hS181, Or.inr ⟨hRc, rfl, (by show 0 ≤ z177.toInt; omega), (by show z177.toInt ≤ (f 0).toInt; omega), (by show 0 ≤ (f 32).toInt; omega), (by show (f 32).toInt ≤ 63; omega), (by show 1 ≤ (f 53).toInt; omega), (by show (f 53).toInt ≤ 600; omega), (by show 0 ≤ (f 68).toInt; omega), (by show (f 68).toInt ≤ 60000; omega), (by show 0 ≤ (f 48).toInt; omega), (by show (f 48).toInt ≤ 8000; omega), (by show 0 ≤ (f 37).toInt; omega), (by show (f 37).toInt ≤ 128; omega), (by show 0 ≤ (f 62).toInt; omega), (by show (f 62).toInt ≤ 65000; omega), (by show 0 ≤ (f 19).toInt; omega), (by show (f 19).toInt ≤ 600; omega), (by show 0 ≤ u_178.toInt; omega), (by show 0 ≤ (f 8).toInt; omega)⟩⟩
          · refine am_e13f hi_235_15 (am_cF (m := r117.toInt) (n := (59 : Int)) rfl (by decide) c122) ?_
            refine am_e2 (v := 39) hi_235_18 rfl ?_
            refine am_e7 hi_235_19 ?_
            refine mm_20 (v := .int z102) hS119 hi_235_20 rfl ?_
            refine am_e0 hi_235_23 ?_
            obtain ⟨z188, hz188, tz188⟩ := am_addI (x := z102) (y := 1) (m := z102.toInt) (n := (1 : Int)) rfl (by decide) (by omega) (by omega)
            refine am_e10 (z := z188) hi_235_24 hz188 ?_
            refine mm_21 (v := z188) hS119 hi_235_25 rfl (Nat.le_of_ble_eq_true rfl) ms_4 ?_
            intro S189 hS190
            replace hS190 : MS S0 S189 (upd (upd f 4 z188) 10 z19) g'20 := hS190
            have hR191 : RJ (upd (upd f 4 z188) 10 z19) g'20 (((1 : Int), (0 : Int), (0 : Int), (0 : Int), []) :: gs) bc [] 0 [] := RJ.at hR114 (by show z102.toInt ≤ z188.toInt; omega)
            refine am_e2 (v := 39) hi_235_28 rfl ?_
            refine am_e0 hi_235_29 ?_
            refine am_e1 (v := f 4) hi_235_31 rfl ?_
            refine am_e0 hi_235_32 ?_
            refine am_e0 hi_235_33 ?_
            refine am_e32n (as := [.ref 39, .int 10, .int (f 4), .int 0, .int 0]) (la := [some (.ref 39), some (.int 10), some (.int (f 4)), some (.int 0), some (.int 0)]) (rest := []) hi_235_34 (am_hd0 (M := 235) (by decide) 34) (Nat.le_of_ble_eq_true rfl) (Nat.le_of_ble_eq_true rfl) (show 5 ≤ am_P0.2.2.1 179 from by decide +kernel) rfl (am_recv_ok hS190.fs) rfl rfl (ct_pile (d := (d + 4)) hS190 hR191 (mj_e_plain (by decide)) (by show (0 : Int) ≤ z19.toInt; omega) (by show z19.toInt ≤ (65535 : Int); omega)) ?_
            rintro v192 S193 (⟨z194, g'195, hv196, hS197, hR200, h198, h199⟩)
            subst hv196
            have h198_ : z194.toInt = z19.toInt + 1 := h198
            have h199_ : ∀ j, j ∉ [11, 12, 13, 14] → g'195 j = g'20 j := h199
            replace hS197 : MS S0 S193 (upd (upd f 4 z188) 10 z194) g'195 := hS197
            have hR200_ : RJ (upd (upd f 4 z188) 10 z194) g'195 (((10 : Int), (f 4).toInt, (0 : Int), (0 : Int), []) :: (((1 : Int), (0 : Int), (0 : Int), (0 : Int), []) :: gs)) bc [] 0 [] := hR200
            show am_E _ _ _ _ [some (.ref 39), some (.int (f 4)), none, none] [] _ _
            refine am_e2 (v := 39) hi_235_37 rfl ?_
            refine am_e0 hi_235_38 ?_
            refine am_e32w (as := [.ref 39, .int 0]) (la := [some (.ref 39), some (.int 0)]) (rest := []) hi_235_39 (am_hd0 (M := 235) (by decide) 39) (Nat.le_of_ble_eq_true rfl) (Nat.le_of_ble_eq_true rfl) (show 2 ≤ am_P0.2.2.1 186 from by decide +kernel) rfl (am_recv_ok hS197.fs) rfl rfl ?_
            refine am_e2 (v := 39) hi_186_0 rfl ?_
            refine am_e0 hi_186_1 ?_
            refine am_e1 (v := 0) hi_186_3 rfl ?_
            refine am_e0 hi_186_4 ?_
            refine am_e0 hi_186_5 ?_
            refine am_e32n (as := [.ref 39, .int 23, .int 0, .int 0, .int 0]) (la := [some (.ref 39), some (.int 23), some (.int 0), some (.int 0), some (.int 0)]) (rest := []) hi_186_6 (am_hd0 (M := 186) (by decide) 6) (Nat.le_of_ble_eq_true rfl) (Nat.le_of_ble_eq_true rfl) (show 5 ≤ am_P0.2.2.1 179 from by decide +kernel) rfl (am_recv_ok hS197.fs) rfl rfl (ct_pile (d := (d + 3)) hS197 hR200_ (mj_e_plain (by decide)) (by show (0 : Int) ≤ z194.toInt; omega) (by show z194.toInt ≤ (65535 : Int); omega)) ?_
            rintro v201 S202 (⟨z203, g'204, hv205, hS206, hR209, h207, h208⟩)
            subst hv205
            have h207_ : z203.toInt = z194.toInt + 1 := h207
            have h208_ : ∀ j, j ∉ [11, 12, 13, 14] → g'204 j = g'195 j := h208
            replace hS206 : MS S0 S202 (upd (upd f 4 z188) 10 z203) g'204 := hS206
            have hR209_ : RJ (upd (upd f 4 z188) 10 z203) g'204 (((23 : Int), (0 : Int), (0 : Int), (0 : Int), []) :: (((10 : Int), (f 4).toInt, (0 : Int), (0 : Int), []) :: (((1 : Int), (0 : Int), (0 : Int), (0 : Int), []) :: gs))) bc [] 0 [] := hR209
            show am_E _ _ _ _ [some (.ref 39), some (.int 0)] [] _ _
            refine am_e35 hi_186_9 ?_
            show am_E _ _ _ _ [some (.ref 39), some (.int (f 4)), none, none] [] _ _
            refine am_e35 hi_235_42 ?_
            show am_E _ _ _ _ [some (.ref 39), some (.int r2), some (.int (f 4))] [] _ _
            refine am_e18 hi_228_359 ?_
            refine am_e35 hi_228_422 ?_
            show am_E _ _ _ _ [some (.ref 39), some (.int r2)] [] _ _
            refine am_e35 hi_225_33 ?_
            show am_E _ _ _ _ [some (.ref 39), some (.int 1), some (.int on), some (.int tw), some (.int th)] [] _ _
            refine am_e18 hi_180_116 ?_
            refine am_e35 hi_180_371 ?_
            have q1 : mg_p1 (((23 : Int), (0 : Int), (0 : Int), (0 : Int), []) :: (((10 : Int), (f 4).toInt, (0 : Int), (0 : Int), []) :: (((1 : Int), (0 : Int), (0 : Int), (0 : Int), []) :: gs))) = 0 + (0 + (0 + (mg_p1 gs))) := rfl
            have q2 : mg_p2 (((23 : Int), (0 : Int), (0 : Int), (0 : Int), []) :: (((10 : Int), (f 4).toInt, (0 : Int), (0 : Int), []) :: (((1 : Int), (0 : Int), (0 : Int), (0 : Int), []) :: gs))) = 0 + (0 + (0 + (mg_p2 gs))) := rfl
            have q3 : mg_p3 (((23 : Int), (0 : Int), (0 : Int), (0 : Int), []) :: (((10 : Int), (f 4).toInt, (0 : Int), (0 : Int), []) :: (((1 : Int), (0 : Int), (0 : Int), (0 : Int), []) :: gs))) = 1 + (1 + (1 + (mg_p3 gs))) := rfl
            have q4 : mg_p4 (((23 : Int), (0 : Int), (0 : Int), (0 : Int), []) :: (((10 : Int), (f 4).toInt, (0 : Int), (0 : Int), []) :: (((1 : Int), (0 : Int), (0 : Int), (0 : Int), []) :: gs))) = 0 + (0 + (0 + (mg_p4 gs))) := rfl
            refine ⟨_, _, _, bc, rfl, hS206, Or.inl ⟨⟨hR209_, ?_, ?_⟩, rfl, ?_⟩⟩
            · exact (⟨⟨(show mg_k 23 from by decide), (show (0 : Int) ≤ (f 15).toInt from by omega), (show 0 ≤ (f 20).toInt from by omega), (show 1 ≤ (f 37).toInt from by omega), (show 0 ≤ (f 32).toInt from by omega), (show (f 32).toInt ≤ (f 5).toInt from by omega), (show (f 5).toInt ≤ 48 from by omega), (show (f 37).toInt ≤ 2 * ((f 5).toInt) + 2 from by omega), (show 0 ≤ (0 : Int) from by omega)⟩, ⟨⟨(show mg_k 10 from by decide), (show (1 : Int) ≤ (f 15).toInt + 1 from by omega), (show 0 ≤ (f 20).toInt from by omega), (show 1 ≤ (f 37).toInt + 0 from by omega), (show 0 ≤ (f 32).toInt + 0 from by omega), (show (f 32).toInt + 0 ≤ (f 5).toInt + 0 from by omega), (show (f 5).toInt + 0 ≤ 48 from by omega), (show (f 37).toInt + 0 ≤ 2 * ((f 5).toInt + 0) + 1 from by omega), ⟨(show 0 ≤ (f 4).toInt from by omega), (show (f 4).toInt ≤ 16000 from by omega)⟩⟩, ⟨⟨(show mg_k 1 from by decide), (show (0 : Int) ≤ (f 15).toInt + 1 + -1 from by omega), (show 0 ≤ (f 20).toInt from by omega), (show 1 ≤ (f 37).toInt + 0 + 0 from by omega), (show 0 ≤ (f 32).toInt + 0 + 0 from by omega), (show (f 32).toInt + 0 + 0 ≤ (f 5).toInt + 0 + 0 from by omega), (show (f 5).toInt + 0 + 0 ≤ 48 from by omega), (show (f 37).toInt + 0 + 0 ≤ 2 * ((f 5).toInt + 0 + 0) + 1 from by omega), trivial⟩, mg_cast (mg_good_ext _ _ _ _ _ _ (fun i _ => by show g'204 34 i = g 34 i; rw [show g'204 34 = g'195 34 from h208_ 34 (by decide), show g'195 34 = g'20 34 from h199_ 34 (by decide), show g'20 34 = g 34 from h24_ 34 (by decide)]) (fun i _ => by show g'204 38 i = g 38 i; rw [show g'204 38 = g'195 38 from h208_ 38 (by decide), show g'195 38 = g'20 38 from h199_ 38 (by decide), show g'20 38 = g 38 from h24_ 38 (by decide)]) (fun i _ => by show g'204 23 i = g 23 i; rw [show g'204 23 = g'195 23 from h208_ 23 (by decide), show g'195 23 = g'20 23 from h199_ 23 (by decide), show g'20 23 = g 23 from h24_ 23 (by decide)]) hrest) (by show (f 15).toInt + 0 = (f 15).toInt + 1 + -1 + 0; omega) (by show (f 20).toInt = (f 20).toInt; omega) (by show (f 37).toInt + 0 = (f 37).toInt + 0 + 0 + 0; omega) (by show (f 32).toInt + 0 = (f 32).toInt + 0 + 0 + 0; omega) (by show (f 5).toInt + 0 = (f 5).toInt + 0 + 0 + 0; omega)⟩⟩⟩ : mg_good (g'204 34) (g'204 38) (g'204 23) (((23 : Int), (0 : Int), (0 : Int), (0 : Int), []) :: (((10 : Int), (f 4).toInt, (0 : Int), (0 : Int), []) :: (((1 : Int), (0 : Int), (0 : Int), (0 : Int), []) :: gs))) ((f 15).toInt) ((f 20).toInt) ((f 37).toInt) ((f 32).toInt) ((f 5).toInt))
            · exact ⟨(by show 0 ≤ z188.toInt; omega), (by show z188.toInt ≤ (f 0).toInt; omega), (by show (f 0).toInt ≤ 512; omega), (by show 0 ≤ (f 24).toInt; omega), (by show (f 24).toInt + (f 20).toInt + mg_p1 (((23 : Int), (0 : Int), (0 : Int), (0 : Int), []) :: (((10 : Int), (f 4).toInt, (0 : Int), (0 : Int), []) :: (((1 : Int), (0 : Int), (0 : Int), (0 : Int), []) :: gs))) ≤ 4 * z188.toInt; omega), (by show (f 20).toInt ≤ z188.toInt; omega), (by show (f 15).toInt + mg_p2 (((23 : Int), (0 : Int), (0 : Int), (0 : Int), []) :: (((10 : Int), (f 4).toInt, (0 : Int), (0 : Int), []) :: (((1 : Int), (0 : Int), (0 : Int), (0 : Int), []) :: gs))) ≤ z188.toInt; omega), (by show mg_p3 (((23 : Int), (0 : Int), (0 : Int), (0 : Int), []) :: (((10 : Int), (f 4).toInt, (0 : Int), (0 : Int), []) :: (((1 : Int), (0 : Int), (0 : Int), (0 : Int), []) :: gs))) ≤ 20 * z188.toInt + 20; omega), (by show 0 ≤ (f 68).toInt; omega), (by show (f 68).toInt + 3 * (f 20).toInt + mg_p4 (((23 : Int), (0 : Int), (0 : Int), (0 : Int), []) :: (((10 : Int), (f 4).toInt, (0 : Int), (0 : Int), []) :: (((1 : Int), (0 : Int), (0 : Int), (0 : Int), []) :: gs))) ≤ 60 * z188.toInt + 60; omega), (by show 0 ≤ (f 62).toInt; omega), (by show (f 62).toInt + 64 * mj_n (g'204 16) (f 15).toNatClampNeg 3 ≤ 64 * z188.toInt; rw [show g'204 16 = g'195 16 from h208_ 16 (by decide), show g'195 16 = g'20 16 from h199_ 16 (by decide), show g'20 16 = g 16 from h24_ 16 (by decide)]; omega), (by show 0 ≤ (f 44).toInt; omega), (by show (f 44).toInt ≤ z188.toInt; omega), (by show 0 ≤ (f 48).toInt; omega), (by show (f 48).toInt ≤ z188.toInt; omega), (by show 1 ≤ (f 53).toInt; omega), (by show (f 53).toInt ≤ z188.toInt + 1; omega), (by show 0 ≤ (f 19).toInt; omega), (by show (f 19).toInt ≤ 600; omega), (by show 0 ≤ (f 6).toInt; omega), (by show 0 ≤ (f 8).toInt; omega)⟩
            · show 100 * ((f 0).toInt - z188.toInt) + mg_p3 (((23 : Int), (0 : Int), (0 : Int), (0 : Int), []) :: (((10 : Int), (f 4).toInt, (0 : Int), (0 : Int), []) :: (((1 : Int), (0 : Int), (0 : Int), (0 : Int), []) :: gs))) < 100 * ((f 0).toInt - (f 4).toInt) + (1 + mg_p3 gs); omega
        · subst hv110
          have h112_ : (0 : Int) ≤ a108.toInt := h112
          replace hS111 : MS S0 S101 (upd (upd (upd (upd f 4 z96) 6 a108) 7 b109) 10 0) g'20 := hS111
          have hR210 := rj_clear0 hR99
          have hR211 : RJ (upd (upd (upd (upd f 4 z96) 6 a108) 7 b109) 10 0) g'20 [] bc [] 0 [] := hR210
          show am_E _ _ _ _ [some (.ref 39), some (.int (f 4)), none, none] [.int 0] _ _
          refine am_e12f hi_235_5 (by decide) ?_
          refine am_e35 hi_235_8 ?_
          show am_E _ _ _ _ [some (.ref 39), some (.int r2), some (.int (f 4))] [] _ _
          refine am_e18 hi_228_359 ?_
          refine am_e35 hi_228_422 ?_
          show am_E _ _ _ _ [some (.ref 39), some (.int r2)] [] _ _
          refine am_e35 hi_225_33 ?_
          show am_E _ _ _ _ [some (.ref 39), some (.int 1), some (.int on), some (.int tw), some (.int th)] [] _ _
          refine am_e18 hi_180_116 ?_
          refine am_e35 hi_180_371 ?_
          have hRc := rj_clear0 hR211
          refine ⟨_, _, [], _, rfl, hS111, Or.inr ⟨hRc, rfl, (by show 0 ≤ z96.toInt; omega), (by show z96.toInt ≤ (f 0).toInt; omega), (by show 0 ≤ (f 32).toInt; omega), (by show (f 32).toInt ≤ 63; omega), (by show 1 ≤ (f 53).toInt; omega), (by show (f 53).toInt ≤ 600; omega), (by show 0 ≤ (f 68).toInt; omega), (by show (f 68).toInt ≤ 60000; omega), (by show 0 ≤ (f 48).toInt; omega), (by show (f 48).toInt ≤ 8000; omega), (by show 0 ≤ (f 37).toInt; omega), (by show (f 37).toInt ≤ 128; omega), (by show 0 ≤ (f 62).toInt; omega), (by show (f 62).toInt ≤ 65000; omega), (by show 0 ≤ (f 19).toInt; omega), (by show (f 19).toInt ≤ 600; omega), (by show 0 ≤ a108.toInt; omega), (by show 0 ≤ (f 8).toInt; omega)⟩⟩
      by_cases c212 : r2.toInt = 18
      · refine am_e19 (t := 362) hi_228_6 (am_swI (v := r2) (w := 18) (by decide) (by decide) c212) ?_
        refine am_e2 (v := 39) hi_228_362 rfl ?_
        refine am_e0 hi_228_363 ?_
        refine am_e32n (as := [.ref 39, .int 18]) (la := [some (.ref 39), some (.int 18)]) (rest := []) hi_228_365 (am_hd0 (M := 228) (by decide) 365) (Nat.le_of_ble_eq_true rfl) (Nat.le_of_ble_eq_true rfl) (show 2 ≤ am_P0.2.2.1 193 from by decide +kernel) rfl (am_recv_ok hS22.fs) rfl rfl (ct_enter (d := (d + 3)) hS22   (by show (0 : Int) ≤ (f 4).toInt; omega) (by show (f 0).toInt ≤ (16384 : Int); omega) (by show (0 : Int) ≤ (18 : Int); omega) (by show (0 : Int) ≤ (f 5).toInt; omega) (by show (f 5).toInt ≤ (48 : Int); omega) (by show (0 : Int) ≤ (f 6).toInt; omega)) ?_
        rintro v213 S214 (⟨z215, y216, hv217, hS218, h219, h220, h221, h222⟩ | ⟨a224, b225, hv226, hS227, h228⟩)
        · subst hv217
          have h219_ : z215.toInt = (f 4).toInt + 1 := h219
          have h220_ : (f 4).toInt < (f 0).toInt := h220
          have h221_ : y216.toInt = (f 5).toInt + 1 := h221
          have h222_ : y216.toInt ≤ (48 : Int) := h222
          replace hS218 : MS S0 S214 (upd (upd (upd f 4 z215) 5 y216) 10 z19) g'20 := hS218
          have hR230 : RJ (upd (upd (upd f 4 z215) 5 y216) 10 z19) g'20 (((1 : Int), (0 : Int), (0 : Int), (0 : Int), []) :: gs) bc [] 0 [] := RJ.at hR25_ (by show (f 4).toInt ≤ z215.toInt; omega)
          show am_E _ _ _ _ [some (.ref 39), some (.int r2), some (.int (f 4))] [.int 1] _ _
          refine am_e12f hi_228_368 (by decide) ?_
          refine am_e2 (v := 39) hi_228_371 rfl ?_
          refine am_e1 (v := f 4) hi_228_372 rfl ?_
          refine am_e32w (as := [.ref 39, .int (f 4)]) (la := [some (.ref 39), some (.int (f 4)), none, none, none, none]) (rest := []) hi_228_373 (am_hd0 (M := 228) (by decide) 373) (Nat.le_of_ble_eq_true rfl) (Nat.le_of_ble_eq_true rfl) (show 2 ≤ am_P0.2.2.1 236 from by decide +kernel) rfl (am_recv_ok hS218.fs) rfl rfl ?_
          refine am_e2 (v := 39) hi_236_0 rfl ?_
          refine mm_20 (v := .int z215) hS218 hi_236_1 rfl ?_
          refine am_e3 (ls' := [some (.ref 39), some (.int (f 4)), some (.int z215), none, none, none]) hi_236_4 (Nat.le_of_ble_eq_true rfl) rfl ?_
          refine am_e2 (v := 39) hi_236_5 rfl ?_
          refine am_e0 hi_236_6 ?_
          refine am_e32n (as := [.ref 39, .int 1]) (la := [some (.ref 39), some (.int 1)]) (rest := []) hi_236_7 (am_hd0 (M := 236) (by decide) 7) (Nat.le_of_ble_eq_true rfl) (Nat.le_of_ble_eq_true rfl) (show 2 ≤ am_P0.2.2.1 200 from by decide +kernel) rfl (am_recv_ok hS218.fs) rfl rfl (ct_take (d := (d + 2)) hS218   (by show (0 : Int) ≤ z215.toInt; omega) (by show (f 0).toInt ≤ (16384 : Int); omega) (by show (0 : Int) ≤ (1 : Int); omega) (by show (0 : Int) ≤ (f 6).toInt; omega)) ?_
          rintro v231 S232 (⟨z233, hv234, hS235, h236, h237⟩ | ⟨a239, b240, hv241, hS242, h243⟩)
          · subst hv234
            have h236_ : z233.toInt = z215.toInt + 1 := h236
            have h237_ : z215.toInt < (f 0).toInt := h237
            replace hS235 : MS S0 S232 (upd (upd (upd f 4 z233) 5 y216) 10 z19) g'20 := hS235
            have hR245 : RJ (upd (upd (upd f 4 z233) 5 y216) 10 z19) g'20 (((1 : Int), (0 : Int), (0 : Int), (0 : Int), []) :: gs) bc [] 0 [] := RJ.at hR230 (by show z215.toInt ≤ z233.toInt; omega)
            show am_E _ _ _ _ [some (.ref 39), some (.int (f 4)), some (.int z215), none, none, none] [.int 1] _ _
            refine am_e12t hi_236_10 (by decide) ?_
            refine am_e2 (v := 39) hi_236_14 rfl ?_
            refine am_e32n (as := [.ref 39]) (la := [some (.ref 39)]) (rest := []) hi_236_15 (am_hd0 (M := 236) (by decide) 15) (Nat.le_of_ble_eq_true rfl) (Nat.le_of_ble_eq_true rfl) (show 1 ≤ am_P0.2.2.1 183 from by decide +kernel) rfl (am_recv_ok hS235.fs) rfl rfl (ct_next (d := (d + 3)) hS235   (by show (0 : Int) ≤ z233.toInt; omega) (by show (f 0).toInt ≤ (16384 : Int); omega)) ?_
            rintro v246 S247 (⟨r248, hv249, hS250, h251⟩)
            subst hv249
            have h251_ : z233.toInt < (f 0).toInt ∨ r248.toInt = (-1 : Int) := h251
            show am_E _ _ _ _ [some (.ref 39), some (.int (f 4)), some (.int z215), none, none, none] [.int r248] _ _
            refine am_e0 hi_236_18 ?_
            by_cases c253 : r248.toInt = (70 : Int)
            · refine am_e13t hi_236_20 (am_cT (m := r248.toInt) (n := (70 : Int)) rfl (by decide) c253) ?_
              refine am_e2 (v := 39) hi_236_66 rfl ?_
              refine am_e0 hi_236_67 ?_
              refine am_e0 hi_236_68 ?_
              refine am_e1 (v := z215) hi_236_69 rfl ?_
              refine am_e32n (as := [.ref 39, .int 3, .int 0, .int z215]) (la := [some (.ref 39), some (.int 3), some (.int 0), some (.int z215)]) (rest := []) hi_236_70 (am_hd0 (M := 236) (by decide) 70) (Nat.le_of_ble_eq_true rfl) (Nat.le_of_ble_eq_true rfl) (show 4 ≤ am_P0.2.2.1 190 from by decide +kernel) rfl (am_recv_ok hS250.fs) rfl rfl (ct_value (d := (d + 4)) hS250 hR245 (fun _ => ⟨by omega, by omega⟩) (fun h => absurd h (by decide)) (by show (0 : Int) ≤ (f 15).toInt; omega) (by show (f 15).toInt ≤ (32767 : Int); omega)) ?_
              rintro v254 S255 (⟨z256, g'257, hv258, hS259, hR264, h260, h261, h262, h263⟩)
              subst hv258
              have h260_ : z256.toInt = (f 15).toInt + 1 := h260
              have h261_ : ∀ j, j ∉ [16, 17, 18] → g'257 j = g'20 j := h261
              have h262_ : mj_n (g'257 16) z256.toNatClampNeg 3 ≤ mj_n (g 16) (f 15).toNatClampNeg 3 + 1 := by rw [show g'20 16 = g 16 from h24_ 16 (by decide)] at h262; exact h262
              have h263_ : (3 : Int) = 3 ∨ mj_n (g'257 16) z256.toNatClampNeg 3 ≤ mj_n (g 16) (f 15).toNatClampNeg 3 := by rw [show g'20 16 = g 16 from h24_ 16 (by decide)] at h263; exact h263
              have hR264_ : RJ (upd (upd (upd (upd f 4 z233) 5 y216) 10 z19) 15 z256) g'257 (((1 : Int), (0 : Int), (0 : Int), (0 : Int), []) :: gs) bc [] 0 [] := hR264
              show am_E _ _ _ _ [some (.ref 39), some (.int (f 4)), some (.int z215), none, none, none] [] _ _
              refine am_e2 (v := 39) hi_236_73 rfl ?_
              refine am_e32w (as := [.ref 39]) (la := [some (.ref 39)]) (rest := []) hi_236_74 (am_hd0 (M := 236) (by decide) 74) (Nat.le_of_ble_eq_true rfl) (Nat.le_of_ble_eq_true rfl) (show 1 ≤ am_P0.2.2.1 209 from by decide +kernel) rfl (am_recv_ok hS259.fs) rfl rfl ?_
              refine am_e2 (v := 39) hi_209_0 rfl ?_
              refine am_e32n (as := [.ref 39]) (la := [some (.ref 39), none, none, none]) (rest := []) hi_209_1 (am_hd0 (M := 209) (by decide) 1) (Nat.le_of_ble_eq_true rfl) (Nat.le_of_ble_eq_true rfl) (show 1 ≤ am_P0.2.2.1 204 from by decide +kernel) rfl (am_recv_ok hS259.fs) rfl rfl (ct_load (d := (d + 1)) hS259 hR264_  (by show (0 : Int) ≤ (f 32).toInt; omega) (by show (f 32).toInt ≤ (63 : Int); omega) (by show (f 53).toInt ≤ (4096 : Int); omega) (by show (0 : Int) ≤ (f 68).toInt; omega) (by show (f 68).toInt ≤ (65534 : Int); omega) (by show (1 : Int) ≤ z256.toInt; omega) (by show z256.toInt ≤ (32767 : Int); omega) (by show (0 : Int) ≤ (f 24).toInt; omega) (by show (f 24).toInt ≤ (16384 : Int); omega) (by show (0 : Int) ≤ (f 62).toInt; omega) (by show (f 62).toInt ≤ (65000 : Int); omega)) ?_
              rintro v265 S266 (⟨o267, s268, m269, g'270, hv271, hS272, hR279, h273, h274, h275, h276, h277, h278⟩)
              subst hv271
              have h273_ : (f 62).toInt ≤ o267.toInt := h273
              have h274_ : o267.toInt ≤ (f 62).toInt + 64 := h274
              have h275_ : (f 68).toInt ≤ s268.toInt := h275
              have h276_ : s268.toInt ≤ (f 68).toInt + 1 := h276
              have h277_ : o267.toInt + 64 * mj_n (g'270 16) z256.toNatClampNeg 3 ≤ (f 62).toInt + 64 * mj_n (g'257 16) z256.toNatClampNeg 3 := h277
              have h278_ : ∀ j, j ∉ [16, 60, 63, 64, 65, 66, 67, 69, 70, 71, 72, 73] → g'270 j = g'257 j := h278
              have hR279_ : RJ (upd (upd (upd (upd (upd (upd (upd f 4 z233) 5 y216) 10 z19) 15 z256) 62 o267) 68 s268) 75 m269) g'270 (((1 : Int), (0 : Int), (0 : Int), (0 : Int), []) :: gs) bc [] 0 [] := hR279
              show am_E _ _ _ _ [some (.ref 39)] [] _ _
              refine am_e2 (v := 39) hi_209_4 rfl ?_
              refine am_e7 hi_209_5 ?_
              refine mm_20 (v := .int z256) hS272 hi_209_6 rfl ?_
              refine am_e0 hi_209_9 ?_
              obtain ⟨z280, hz280, tz280⟩ := am_subI (x := z256) (y := 1) (m := z256.toInt) (n := (1 : Int)) rfl (by decide) (by omega) (by omega)
              refine am_e10 (z := z280) hi_209_10 hz280 ?_
              refine mm_21 (v := z280) hS272 hi_209_11 rfl (Nat.le_of_ble_eq_true rfl) ms_15 ?_
              intro S281 hS282
              replace hS282 : MS S0 S281 (upd (upd (upd (upd (upd (upd (upd f 4 z233) 5 y216) 10 z19) 15 z280) 62 o267) 68 s268) 75 m269) g'270 := hS282
              have hp283 : mj_n (g'270 16) z256.toNatClampNeg 3 = mj_n (g'270 16) z280.toNatClampNeg 3 + if (g'270 16 z280.toNatClampNeg).toInt = 3 then 1 else 0 := mj_pop (by rw [cl_toNat, cl_toNat]; omega)
              have hp2831 : mj_n (g'270 16) z280.toNatClampNeg 3 ≤ mj_n (g'270 16) z256.toNatClampNeg 3 := by rw [hp283]; split <;> omega
              have hp2832 : (g'270 16 z280.toNatClampNeg).toInt = 3 → mj_n (g'270 16) z280.toNatClampNeg 3 + 1 ≤ mj_n (g'270 16) z256.toNatClampNeg 3 := fun q => by rw [hp283, if_pos q]; exact Int.le_refl _
              refine am_e35 hi_209_14 ?_
              show am_E _ _ _ _ [some (.ref 39), some (.int (f 4)), some (.int z215), none, none, none] [] _ _
              refine am_e0 hi_236_77 ?_
              refine am_e3 (ls' := [some (.ref 39), some (.int (f 4)), some (.int z215), some (.int 0), none, none]) hi_236_78 (Nat.le_of_ble_eq_true rfl) rfl ?_
              refine am_e2 (v := 39) hi_236_79 rfl ?_
              refine mm_20 (v := .int z233) hS282 hi_236_80 rfl ?_
              refine am_e3 (ls' := [some (.ref 39), some (.int (f 4)), some (.int z215), some (.int 0), some (.int z233), none]) hi_236_83 (Nat.le_of_ble_eq_true rfl) rfl ?_
              refine fr_fs (d := d) (f := (upd (upd (upd (upd (upd (upd (upd f 4 z233) 5 y216) 10 z19) 15 z280) 62 o267) 68 s268) 75 m269)) (g := g'270) (w := (f 4)) (x2 := z215)  (by show (0 : Int) ≤ (f 32).toInt; omega) (by show (f 32).toInt ≤ (63 : Int); omega) (by show (f 53).toInt ≤ (4096 : Int); omega) (by show (0 : Int) ≤ z233.toInt; omega) (by show (f 0).toInt ≤ (16384 : Int); omega) (by show z233.toInt ≤ (f 0).toInt; omega) (by show (f 0).toInt ≤ (512 : Int); omega) (by show (0 : Int) ≤ s268.toInt; omega) (by show s268.toInt ≤ (60000 : Int); omega) (by show (0 : Int) ≤ (f 6).toInt; omega) ?_ ?_ (((f 0).toInt - z233.toInt).toNat + 1) _ none 0 z233 z233 s268 _ hS282 hR279_ (fun _ _ => rfl) (by decide) (by show z233.toInt ≤ z233.toInt; omega) (by show z233.toInt ≤ (f 0).toInt; omega) (by show s268.toInt ≤ s268.toInt; omega) (by show s268.toInt + z233.toInt ≤ s268.toInt + z233.toInt; omega) (by show (0 : Int) ≤ (0 : Int); omega) (by show (0 : Int) ≤ (1 : Int); omega) (by show (f 0).toInt - z233.toInt < _; omega)
              · intro S288 x5292 m3284 p4285 z286 s287 gx291 hS289 hR290 hg293 hg294 h295 h296 h297 h298
                replace hS289 : MS S0 S288 (upd (upd (upd (upd (upd (upd (upd f 4 z286) 5 y216) 10 z19) 15 z280) 62 o267) 68 s287) 75 m269) gx291 := hS289
                have h295_ : z233.toInt ≤ z286.toInt := h295
                have h296_ : z286.toInt ≤ (f 0).toInt := h296
                have h297_ : s268.toInt ≤ s287.toInt := h297
                have h298_ : s287.toInt + z233.toInt ≤ s268.toInt + z286.toInt := h298
                have hR290_ : RJ (upd (upd (upd (upd (upd (upd (upd f 4 z286) 5 y216) 10 z19) 15 z280) 62 o267) 68 s287) 75 m269) gx291 (((1 : Int), (0 : Int), (0 : Int), (0 : Int), []) :: gs) bc [] 0 [] := hR290
                show am_E _ _ _ _ [some (.ref 39), some (.int (f 4)), some (.int z215), some (.int m3284), some (.int p4285), x5292] [] _ _
                refine am_e2 (v := 39) hi_236_218 rfl ?_
                refine am_e0 hi_236_219 ?_
                refine am_e0 hi_236_221 ?_
                refine am_e0 hi_236_222 ?_
                refine am_e1 (v := p4285) hi_236_223 rfl ?_
                refine am_e32n (as := [.ref 39, .int 16, .int 3, .int 0, .int p4285]) (la := [some (.ref 39), some (.int 16), some (.int 3), some (.int 0), some (.int p4285)]) (rest := []) hi_236_225 (am_hd0 (M := 236) (by decide) 225) (Nat.le_of_ble_eq_true rfl) (Nat.le_of_ble_eq_true rfl) (show 5 ≤ am_P0.2.2.1 179 from by decide +kernel) rfl (am_recv_ok hS289.fs) rfl rfl (ct_pile (d := (d + 4)) hS289 hR290_ (mj_e_plain (by decide)) (by show (0 : Int) ≤ z19.toInt; omega) (by show z19.toInt ≤ (65535 : Int); omega)) ?_
                rintro v299 S300 (⟨z301, g'302, hv303, hS304, hR307, h305, h306⟩)
                subst hv303
                have h305_ : z301.toInt = z19.toInt + 1 := h305
                have h306_ : ∀ j, j ∉ [11, 12, 13, 14] → g'302 j = gx291 j := h306
                replace hS304 : MS S0 S300 (upd (upd (upd (upd (upd (upd (upd f 4 z286) 5 y216) 10 z301) 15 z280) 62 o267) 68 s287) 75 m269) g'302 := hS304
                have hR307_ : RJ (upd (upd (upd (upd (upd (upd (upd f 4 z286) 5 y216) 10 z301) 15 z280) 62 o267) 68 s287) 75 m269) g'302 (((16 : Int), (3 : Int), (0 : Int), p4285.toInt, []) :: (((1 : Int), (0 : Int), (0 : Int), (0 : Int), []) :: gs)) bc [] 0 [] := hR307
                show am_E _ _ _ _ [some (.ref 39), some (.int (f 4)), some (.int z215), some (.int m3284), some (.int p4285), x5292] [] _ _
                refine am_e2 (v := 39) hi_236_228 rfl ?_
                refine am_e0 hi_236_229 ?_
                refine am_e1 (v := f 4) hi_236_231 rfl ?_
                refine am_e0 hi_236_232 ?_
                refine am_e0 hi_236_233 ?_
                refine am_e32n (as := [.ref 39, .int 41, .int (f 4), .int 0, .int 0]) (la := [some (.ref 39), some (.int 41), some (.int (f 4)), some (.int 0), some (.int 0)]) (rest := []) hi_236_234 (am_hd0 (M := 236) (by decide) 234) (Nat.le_of_ble_eq_true rfl) (Nat.le_of_ble_eq_true rfl) (show 5 ≤ am_P0.2.2.1 179 from by decide +kernel) rfl (am_recv_ok hS304.fs) rfl rfl (ct_pile (d := (d + 4)) hS304 hR307_ (mj_e_plain (by decide)) (by show (0 : Int) ≤ z301.toInt; omega) (by show z301.toInt ≤ (65535 : Int); omega)) ?_
                rintro v308 S309 (⟨z310, g'311, hv312, hS313, hR316, h314, h315⟩)
                subst hv312
                have h314_ : z310.toInt = z301.toInt + 1 := h314
                have h315_ : ∀ j, j ∉ [11, 12, 13, 14] → g'311 j = g'302 j := h315
                replace hS313 : MS S0 S309 (upd (upd (upd (upd (upd (upd (upd f 4 z286) 5 y216) 10 z310) 15 z280) 62 o267) 68 s287) 75 m269) g'311 := hS313
                have hR316_ : RJ (upd (upd (upd (upd (upd (upd (upd f 4 z286) 5 y216) 10 z310) 15 z280) 62 o267) 68 s287) 75 m269) g'311 (((41 : Int), (f 4).toInt, (0 : Int), (0 : Int), []) :: (((16 : Int), (3 : Int), (0 : Int), p4285.toInt, []) :: (((1 : Int), (0 : Int), (0 : Int), (0 : Int), []) :: gs))) bc [] 0 [] := hR316
                show am_E _ _ _ _ [some (.ref 39), some (.int (f 4)), some (.int z215), some (.int m3284), some (.int p4285), x5292] [] _ _
                refine am_e2 (v := 39) hi_236_237 rfl ?_
                refine am_e1 (v := m3284) hi_236_238 rfl ?_
                refine am_e1 (v := f 4) hi_236_239 rfl ?_
                refine am_e32n (as := [.ref 39, .int m3284, .int (f 4)]) (la := [some (.ref 39), some (.int m3284), some (.int (f 4)), none, none]) (rest := []) hi_236_240 (am_hd0 (M := 236) (by decide) 240) (Nat.le_of_ble_eq_true rfl) (Nat.le_of_ble_eq_true rfl) (show 3 ≤ am_P0.2.2.1 195 from by decide +kernel) rfl (am_recv_ok hS313.fs) rfl rfl (ct_body (d := d) hS313 hR316_ hg294  (by show (0 : Int) ≤ (f 32).toInt; omega) (by show (f 32).toInt ≤ (62 : Int); omega) (by show (1 : Int) ≤ (f 53).toInt; omega) (by show (f 53).toInt ≤ (4095 : Int); omega) (by show (0 : Int) ≤ z286.toInt; omega) (by show (f 0).toInt ≤ (16384 : Int); omega) (by show (0 : Int) ≤ y216.toInt; omega) (by show y216.toInt ≤ (48 : Int); omega) (by show z286.toInt ≤ (f 0).toInt; omega) (by show (f 0).toInt ≤ (512 : Int); omega) (by show (0 : Int) ≤ (f 24).toInt; omega) (by show (f 24).toInt ≤ (4000 : Int); omega) (by show (0 : Int) ≤ (f 44).toInt; omega) (by show (f 44).toInt ≤ z286.toInt; omega) (by show (0 : Int) ≤ (f 48).toInt; omega) (by show (f 48).toInt ≤ z286.toInt; omega) (by show (0 : Int) ≤ (f 37).toInt; omega) (by show (f 37).toInt ≤ (126 : Int); omega) (by show (0 : Int) ≤ z310.toInt; omega) (by show z310.toInt ≤ (65533 : Int); omega) (by show (0 : Int) ≤ s287.toInt; omega) (by show (0 : Int) ≤ (f 6).toInt; omega) (by show (0 : Int) ≤ (f 8).toInt; omega)) ?_
                rintro v317 S318 (⟨z319, y320, a321, b322, t323, l324, i_325, dd326, bz327, mm328, g'329, hv330, hS331, hR345, h332, h333, h334, h335, h336, h337, h338, h339, h340, h341, h342, h343, h344⟩ | ⟨a346, b347, hv348, hS349, hR351, h350⟩ | ⟨z352, y353, u354, v_355, a356, b357, l358, i_359, dd360, bz361, mm362, g'363, hv364, hS365, hR374, h366, h367, h368, h369, h370, h371, h372, h373⟩)
                · subst hv330
                  have h332_ : z286.toInt + 2 ≤ z319.toInt := h332
                  have h333_ : z319.toInt ≤ (f 0).toInt := h333
                  have h334_ : y320.toInt = y216.toInt := h334
                  have h335_ : (f 24).toInt ≤ l324.toInt := h335
                  have h336_ : l324.toInt + z286.toInt ≤ (f 24).toInt + z319.toInt := h336
                  have h337_ : t323.toInt = z310.toInt + 2 := h337
                  have h338_ : dd326.toInt = (f 32).toInt + 1 := h338
                  have h339_ : bz327.toInt = (f 37).toInt + 1 := h339
                  have h340_ : mm328.toInt = (f 53).toInt + 1 := h340
                  have h341_ : ∀ j, j ∉ [11, 12, 13, 14, 25, 26, 27, 28, 29, 30, 33, 34, 35, 36, 38, 39, 40, 41, 42, 43, 54, 55, 56, 58, 59, 60, 67] → g'329 j = g'311 j := h341
                  have h342_ : g'329 34 = upd (g'311 34) dd326.toNatClampNeg (f 24) := h342
                  have h343_ : g'329 38 = upd (g'311 38) (f 37).toNatClampNeg (f 24) := h343
                  have h344_ : (0 : Int) ≤ a321.toInt := h344
                  replace hS331 : MS S0 S318 (upd (upd (upd (upd (upd (upd (upd (upd (upd (upd (upd (upd (upd (upd f 4 z319) 5 y320) 8 a321) 9 b322) 10 t323) 15 z280) 24 l324) 31 i_325) 32 dd326) 37 bz327) 53 mm328) 62 o267) 68 s287) 75 m269) g'329 := hS331
                  have hR345_ : RJ (upd (upd (upd (upd (upd (upd (upd (upd (upd (upd (upd (upd (upd (upd f 4 z319) 5 y320) 8 a321) 9 b322) 10 t323) 15 z280) 24 l324) 31 i_325) 32 dd326) 37 bz327) 53 mm328) 62 o267) 68 s287) 75 m269) g'329 (((1 : Int), (0 : Int), (0 : Int), (0 : Int), []) :: (((40 : Int), z286.toInt, (0 : Int), (0 : Int), []) :: (((41 : Int), (f 4).toInt, (0 : Int), (0 : Int), []) :: (((16 : Int), (3 : Int), (0 : Int), p4285.toInt, []) :: (((1 : Int), (0 : Int), (0 : Int), (0 : Int), []) :: gs))))) ([] :: bc) [] 0 [] := hR345
                  show am_E _ _ _ _ [some (.ref 39), some (.int (f 4)), some (.int z215), some (.int m3284), some (.int p4285), x5292] [] _ _
                  refine am_e35 hi_236_243 ?_
                  show am_E _ _ _ _ [some (.ref 39), some (.int r2), some (.int (f 4))] [] _ _
                  refine am_e18 hi_228_376 ?_
                  refine am_e35 hi_228_422 ?_
                  show am_E _ _ _ _ [some (.ref 39), some (.int r2)] [] _ _
                  refine am_e35 hi_225_33 ?_
                  show am_E _ _ _ _ [some (.ref 39), some (.int 1), some (.int on), some (.int tw), some (.int th)] [] _ _
                  refine am_e18 hi_180_116 ?_
                  refine am_e35 hi_180_371 ?_
                  have q1 : mg_p1 (((1 : Int), (0 : Int), (0 : Int), (0 : Int), []) :: (((40 : Int), z286.toInt, (0 : Int), (0 : Int), []) :: (((41 : Int), (f 4).toInt, (0 : Int), (0 : Int), []) :: (((16 : Int), (3 : Int), (0 : Int), p4285.toInt, []) :: (((1 : Int), (0 : Int), (0 : Int), (0 : Int), []) :: gs))))) = 0 + (0 + (0 + (0 + (0 + (mg_p1 gs))))) := rfl
                  have q2 : mg_p2 (((1 : Int), (0 : Int), (0 : Int), (0 : Int), []) :: (((40 : Int), z286.toInt, (0 : Int), (0 : Int), []) :: (((41 : Int), (f 4).toInt, (0 : Int), (0 : Int), []) :: (((16 : Int), (3 : Int), (0 : Int), p4285.toInt, []) :: (((1 : Int), (0 : Int), (0 : Int), (0 : Int), []) :: gs))))) = 0 + (0 + (1 + (0 + (0 + (mg_p2 gs))))) := rfl
                  have q3 : mg_p3 (((1 : Int), (0 : Int), (0 : Int), (0 : Int), []) :: (((40 : Int), z286.toInt, (0 : Int), (0 : Int), []) :: (((41 : Int), (f 4).toInt, (0 : Int), (0 : Int), []) :: (((16 : Int), (3 : Int), (0 : Int), p4285.toInt, []) :: (((1 : Int), (0 : Int), (0 : Int), (0 : Int), []) :: gs))))) = 1 + (1 + (1 + (1 + (1 + (mg_p3 gs))))) := rfl
                  have q4 : mg_p4 (((1 : Int), (0 : Int), (0 : Int), (0 : Int), []) :: (((40 : Int), z286.toInt, (0 : Int), (0 : Int), []) :: (((41 : Int), (f 4).toInt, (0 : Int), (0 : Int), []) :: (((16 : Int), (3 : Int), (0 : Int), p4285.toInt, []) :: (((1 : Int), (0 : Int), (0 : Int), (0 : Int), []) :: gs))))) = 0 + (0 + (2 + (3 + (0 + (mg_p4 gs))))) := rfl
                  refine ⟨_, _, _, ([] :: bc), rfl, hS331, Or.inl ⟨⟨hR345_, ?_, ?_⟩, rfl, ?_⟩⟩
                  · exact (⟨⟨(show mg_k 1 from by decide), (show (0 : Int) ≤ z280.toInt from by omega), (show 0 ≤ (f 20).toInt from by omega), (show 1 ≤ bz327.toInt from by omega), (show 0 ≤ dd326.toInt from by omega), (show dd326.toInt ≤ y320.toInt from by omega), (show y320.toInt ≤ 48 from by omega), (show bz327.toInt ≤ 2 * (y320.toInt) + 1 from by omega), trivial⟩, ⟨⟨(show mg_k 40 from by decide), (show (0 : Int) ≤ z280.toInt + 0 from by omega), (show 0 ≤ (f 20).toInt from by omega), (show 1 ≤ bz327.toInt + 0 from by omega), (show 0 ≤ dd326.toInt + 0 from by omega), (show dd326.toInt + 0 ≤ y320.toInt + 0 from by omega), (show y320.toInt + 0 ≤ 48 from by omega), (show bz327.toInt + 0 ≤ 2 * (y320.toInt + 0) + 1 from by omega), trivial⟩, ⟨⟨(show mg_k 41 from by decide), (show (0 : Int) ≤ z280.toInt + 0 + 0 from by omega), (show 0 ≤ (f 20).toInt from by omega), (show 1 ≤ bz327.toInt + 0 + -1 from by omega), (show 0 ≤ dd326.toInt + 0 + -1 from by omega), (show dd326.toInt + 0 + -1 ≤ y320.toInt + 0 + -1 from by omega), (show y320.toInt + 0 + -1 ≤ 48 from by omega), (show bz327.toInt + 0 + -1 ≤ 2 * (y320.toInt + 0 + -1) + 2 from by omega), trivial⟩, ⟨⟨(show mg_k 16 from by decide), (show (1 : Int) ≤ z280.toInt + 0 + 0 + 1 from by omega), (show 0 ≤ (f 20).toInt from by omega), (show 1 ≤ bz327.toInt + 0 + -1 + 0 from by omega), (show 0 ≤ dd326.toInt + 0 + -1 + 0 from by omega), (show dd326.toInt + 0 + -1 + 0 ≤ y320.toInt + 0 + -1 + 0 from by omega), (show y320.toInt + 0 + -1 + 0 ≤ 48 from by omega), (show bz327.toInt + 0 + -1 + 0 ≤ 2 * (y320.toInt + 0 + -1 + 0) + 1 from by omega), trivial⟩, ⟨⟨(show mg_k 1 from by decide), (show (0 : Int) ≤ z280.toInt + 0 + 0 + 1 + -1 from by omega), (show 0 ≤ (f 20).toInt from by omega), (show 1 ≤ bz327.toInt + 0 + -1 + 0 + 0 from by omega), (show 0 ≤ dd326.toInt + 0 + -1 + 0 + 0 from by omega), (show dd326.toInt + 0 + -1 + 0 + 0 ≤ y320.toInt + 0 + -1 + 0 + 0 from by omega), (show y320.toInt + 0 + -1 + 0 + 0 ≤ 48 from by omega), (show bz327.toInt + 0 + -1 + 0 + 0 ≤ 2 * (y320.toInt + 0 + -1 + 0 + 0) + 1 from by omega), trivial⟩, mg_cast (mg_good_ext _ _ _ _ _ _ (fun i hi => by show g'329 34 i = g 34 i; rw [h342_, show g'311 34 = g'302 34 from h315_ 34 (by decide), show g'302 34 = gx291 34 from h306_ 34 (by decide), show gx291 34 = g'270 34 from hg293 34 (by decide), show g'270 34 = g'257 34 from h278_ 34 (by decide), show g'257 34 = g'20 34 from h261_ 34 (by decide), show g'20 34 = g 34 from h24_ 34 (by decide)]; exact upd_ne (by rw [cl_toNat]; omega)) (fun i hi => by show g'329 38 i = g 38 i; rw [h343_, show g'311 38 = g'302 38 from h315_ 38 (by decide), show g'302 38 = gx291 38 from h306_ 38 (by decide), show gx291 38 = g'270 38 from hg293 38 (by decide), show g'270 38 = g'257 38 from h278_ 38 (by decide), show g'257 38 = g'20 38 from h261_ 38 (by decide), show g'20 38 = g 38 from h24_ 38 (by decide)]; exact upd_ne (by rw [cl_toNat]; omega)) (fun i _ => by show g'329 23 i = g 23 i; rw [show g'329 23 = g'311 23 from h341_ 23 (by decide), show g'311 23 = g'302 23 from h315_ 23 (by decide), show g'302 23 = gx291 23 from h306_ 23 (by decide), show gx291 23 = g'270 23 from hg293 23 (by decide), show g'270 23 = g'257 23 from h278_ 23 (by decide), show g'257 23 = g'20 23 from h261_ 23 (by decide), show g'20 23 = g 23 from h24_ 23 (by decide)]) hrest) (by show (f 15).toInt + 0 = z280.toInt + 0 + 0 + 1 + -1 + 0; omega) (by show (f 20).toInt = (f 20).toInt; omega) (by show (f 37).toInt + 0 = bz327.toInt + 0 + -1 + 0 + 0 + 0; omega) (by show (f 32).toInt + 0 = dd326.toInt + 0 + -1 + 0 + 0 + 0; omega) (by show (f 5).toInt + 0 = y320.toInt + 0 + -1 + 0 + 0 + 0; omega)⟩⟩⟩⟩⟩ : mg_good (g'329 34) (g'329 38) (g'329 23) (((1 : Int), (0 : Int), (0 : Int), (0 : Int), []) :: (((40 : Int), z286.toInt, (0 : Int), (0 : Int), []) :: (((41 : Int), (f 4).toInt, (0 : Int), (0 : Int), []) :: (((16 : Int), (3 : Int), (0 : Int), p4285.toInt, []) :: (((1 : Int), (0 : Int), (0 : Int), (0 : Int), []) :: gs))))) (z280.toInt) ((f 20).toInt) (bz327.toInt) (dd326.toInt) (y320.toInt))
                  · exact ⟨(by show 0 ≤ z319.toInt; omega), (by show z319.toInt ≤ (f 0).toInt; omega), (by show (f 0).toInt ≤ 512; omega), (by show 0 ≤ l324.toInt; omega), (by show l324.toInt + (f 20).toInt + mg_p1 (((1 : Int), (0 : Int), (0 : Int), (0 : Int), []) :: (((40 : Int), z286.toInt, (0 : Int), (0 : Int), []) :: (((41 : Int), (f 4).toInt, (0 : Int), (0 : Int), []) :: (((16 : Int), (3 : Int), (0 : Int), p4285.toInt, []) :: (((1 : Int), (0 : Int), (0 : Int), (0 : Int), []) :: gs))))) ≤ 4 * z319.toInt; omega), (by show (f 20).toInt ≤ z319.toInt; omega), (by show z280.toInt + mg_p2 (((1 : Int), (0 : Int), (0 : Int), (0 : Int), []) :: (((40 : Int), z286.toInt, (0 : Int), (0 : Int), []) :: (((41 : Int), (f 4).toInt, (0 : Int), (0 : Int), []) :: (((16 : Int), (3 : Int), (0 : Int), p4285.toInt, []) :: (((1 : Int), (0 : Int), (0 : Int), (0 : Int), []) :: gs))))) ≤ z319.toInt; omega), (by show mg_p3 (((1 : Int), (0 : Int), (0 : Int), (0 : Int), []) :: (((40 : Int), z286.toInt, (0 : Int), (0 : Int), []) :: (((41 : Int), (f 4).toInt, (0 : Int), (0 : Int), []) :: (((16 : Int), (3 : Int), (0 : Int), p4285.toInt, []) :: (((1 : Int), (0 : Int), (0 : Int), (0 : Int), []) :: gs))))) ≤ 20 * z319.toInt + 20; omega), (by show 0 ≤ s287.toInt; omega), (by show s287.toInt + 3 * (f 20).toInt + mg_p4 (((1 : Int), (0 : Int), (0 : Int), (0 : Int), []) :: (((40 : Int), z286.toInt, (0 : Int), (0 : Int), []) :: (((41 : Int), (f 4).toInt, (0 : Int), (0 : Int), []) :: (((16 : Int), (3 : Int), (0 : Int), p4285.toInt, []) :: (((1 : Int), (0 : Int), (0 : Int), (0 : Int), []) :: gs))))) ≤ 60 * z319.toInt + 60; omega), (by show 0 ≤ o267.toInt; omega), (by show o267.toInt + 64 * mj_n (g'329 16) z280.toNatClampNeg 3 ≤ 64 * z319.toInt; rw [show g'329 16 = g'311 16 from h341_ 16 (by decide), show g'311 16 = g'302 16 from h315_ 16 (by decide), show g'302 16 = gx291 16 from h306_ 16 (by decide), show gx291 16 = g'270 16 from hg293 16 (by decide)]; omega), (by show 0 ≤ (f 44).toInt; omega), (by show (f 44).toInt ≤ z319.toInt; omega), (by show 0 ≤ (f 48).toInt; omega), (by show (f 48).toInt ≤ z319.toInt; omega), (by show 1 ≤ mm328.toInt; omega), (by show mm328.toInt ≤ z319.toInt + 1; omega), (by show 0 ≤ (f 19).toInt; omega), (by show (f 19).toInt ≤ 600; omega), (by show 0 ≤ (f 6).toInt; omega), (by show 0 ≤ a321.toInt; omega)⟩
                  · show 100 * ((f 0).toInt - z319.toInt) + mg_p3 (((1 : Int), (0 : Int), (0 : Int), (0 : Int), []) :: (((40 : Int), z286.toInt, (0 : Int), (0 : Int), []) :: (((41 : Int), (f 4).toInt, (0 : Int), (0 : Int), []) :: (((16 : Int), (3 : Int), (0 : Int), p4285.toInt, []) :: (((1 : Int), (0 : Int), (0 : Int), (0 : Int), []) :: gs))))) < 100 * ((f 0).toInt - (f 4).toInt) + (1 + mg_p3 gs); omega
                · subst hv348
                  have h350_ : (0 : Int) ≤ a346.toInt := h350
                  replace hS349 : MS S0 S318 (upd (upd (upd (upd (upd (upd (upd (upd (upd f 4 z286) 5 y216) 6 a346) 7 b347) 10 0) 15 z280) 62 o267) 68 s287) 75 m269) g'311 := hS349
                  have hR351_ : RJ (upd (upd (upd (upd (upd (upd (upd (upd (upd f 4 z286) 5 y216) 6 a346) 7 b347) 10 0) 15 z280) 62 o267) 68 s287) 75 m269) g'311 [] bc [] 0 [] := hR351
                  show am_E _ _ _ _ [some (.ref 39), some (.int (f 4)), some (.int z215), some (.int m3284), some (.int p4285), x5292] [] _ _
                  refine am_e35 hi_236_243 ?_
                  show am_E _ _ _ _ [some (.ref 39), some (.int r2), some (.int (f 4))] [] _ _
                  refine am_e18 hi_228_376 ?_
                  refine am_e35 hi_228_422 ?_
                  show am_E _ _ _ _ [some (.ref 39), some (.int r2)] [] _ _
                  refine am_e35 hi_225_33 ?_
                  show am_E _ _ _ _ [some (.ref 39), some (.int 1), some (.int on), some (.int tw), some (.int th)] [] _ _
                  refine am_e18 hi_180_116 ?_
                  refine am_e35 hi_180_371 ?_
                  have hRc := rj_clear0 hR351_
                  refine ⟨_, _, [], _, rfl, hS349, Or.inr ⟨hRc, rfl, (by show 0 ≤ z286.toInt; omega), (by show z286.toInt ≤ (f 0).toInt; omega), (by show 0 ≤ (f 32).toInt; omega), (by show (f 32).toInt ≤ 63; omega), (by show 1 ≤ (f 53).toInt; omega), (by show (f 53).toInt ≤ 600; omega), (by show 0 ≤ s287.toInt; omega), (by show s287.toInt ≤ 60000; omega), (by show 0 ≤ (f 48).toInt; omega), (by show (f 48).toInt ≤ 8000; omega), (by show 0 ≤ (f 37).toInt; omega), (by show (f 37).toInt ≤ 128; omega), (by show 0 ≤ o267.toInt; omega), (by show o267.toInt ≤ 65000; omega), (by show 0 ≤ (f 19).toInt; omega), (by show (f 19).toInt ≤ 600; omega), (by show 0 ≤ a346.toInt; omega), (by show 0 ≤ (f 8).toInt; omega)⟩⟩
                · subst hv364
                  have h366_ : z286.toInt ≤ z352.toInt := h366
                  have h367_ : z352.toInt ≤ (f 0).toInt := h367
                  have h368_ : dd360.toInt = (f 32).toInt + 1 := h368
                  have h369_ : bz361.toInt = (f 37).toInt + 1 := h369
                  have h370_ : mm362.toInt = (f 53).toInt + 1 := h370
                  have h371_ : ∀ j, j ∉ [11, 12, 13, 14, 25, 26, 27, 28, 29, 30, 33, 34, 35, 36, 38, 39, 40, 41, 42, 43, 54, 55, 56, 58, 59, 60, 67] → g'363 j = g'311 j := h371
                  have h372_ : (0 : Int) ≤ u354.toInt := h372
                  have h373_ : (0 : Int) ≤ a356.toInt := h373
                  replace hS365 : MS S0 S318 (upd (upd (upd (upd (upd (upd (upd (upd (upd (upd (upd (upd (upd (upd (upd (upd f 4 z352) 5 y353) 6 u354) 7 v_355) 8 a356) 9 b357) 10 0) 15 z280) 24 l358) 31 i_359) 32 dd360) 37 bz361) 53 mm362) 62 o267) 68 s287) 75 m269) g'363 := hS365
                  have hR374_ : RJ (upd (upd (upd (upd (upd (upd (upd (upd (upd (upd (upd (upd (upd (upd (upd (upd f 4 z352) 5 y353) 6 u354) 7 v_355) 8 a356) 9 b357) 10 0) 15 z280) 24 l358) 31 i_359) 32 dd360) 37 bz361) 53 mm362) 62 o267) 68 s287) 75 m269) g'363 [] ([] :: bc) [] 0 [] := hR374
                  show am_E _ _ _ _ [some (.ref 39), some (.int (f 4)), some (.int z215), some (.int m3284), some (.int p4285), x5292] [] _ _
                  refine am_e35 hi_236_243 ?_
                  show am_E _ _ _ _ [some (.ref 39), some (.int r2), some (.int (f 4))] [] _ _
                  refine am_e18 hi_228_376 ?_
                  refine am_e35 hi_228_422 ?_
                  show am_E _ _ _ _ [some (.ref 39), some (.int r2)] [] _ _
                  refine am_e35 hi_225_33 ?_
                  show am_E _ _ _ _ [some (.ref 39), some (.int 1), some (.int on), some (.int tw), some (.int th)] [] _ _
                  refine am_e18 hi_180_116 ?_
                  refine am_e35 hi_180_371 ?_
                  have hRc := rj_clear0 hR374_
                  refine ⟨_, _, [], _, rfl, hS365, Or.inr ⟨hRc, rfl, (by show 0 ≤ z352.toInt; omega), (by show z352.toInt ≤ (f 0).toInt; omega), (by show 0 ≤ dd360.toInt; omega), (by show dd360.toInt ≤ 63; omega), (by show 1 ≤ mm362.toInt; omega), (by show mm362.toInt ≤ 600; omega), (by show 0 ≤ s287.toInt; omega), (by show s287.toInt ≤ 60000; omega), (by show 0 ≤ (f 48).toInt; omega), (by show (f 48).toInt ≤ 8000; omega), (by show 0 ≤ bz361.toInt; omega), (by show bz361.toInt ≤ 128; omega), (by show 0 ≤ o267.toInt; omega), (by show o267.toInt ≤ 65000; omega), (by show 0 ≤ (f 19).toInt; omega), (by show (f 19).toInt ≤ 600; omega), (by show 0 ≤ u354.toInt; omega), (by show 0 ≤ a356.toInt; omega)⟩⟩
              · intro S379 x3383 x4384 x5385 z375 s376 u_377 v_378 gx382 hS380 hR381 hg386 h387 h388 h389 h390 h391
                replace hS380 : MS S0 S379 (upd (upd (upd (upd (upd (upd (upd (upd (upd f 4 z375) 5 y216) 6 u_377) 7 v_378) 10 0) 15 z280) 62 o267) 68 s376) 75 m269) gx382 := hS380
                have h387_ : z233.toInt ≤ z375.toInt := h387
                have h388_ : z375.toInt ≤ (f 0).toInt := h388
                have h389_ : s268.toInt ≤ s376.toInt := h389
                have h390_ : s376.toInt + z233.toInt ≤ s268.toInt + z375.toInt := h390
                have h391_ : (0 : Int) ≤ u_377.toInt := h391
                have hR381_ : RJ (upd (upd (upd (upd (upd (upd (upd (upd (upd f 4 z375) 5 y216) 6 u_377) 7 v_378) 10 0) 15 z280) 62 o267) 68 s376) 75 m269) gx382 [] bc [] 0 [] := hR381
                show am_E _ _ _ _ [some (.ref 39), some (.int (f 4)), some (.int z215), x3383, x4384, x5385] [] _ _
                refine am_e35 hi_236_146 ?_
                show am_E _ _ _ _ [some (.ref 39), some (.int r2), some (.int (f 4))] [] _ _
                refine am_e18 hi_228_376 ?_
                refine am_e35 hi_228_422 ?_
                show am_E _ _ _ _ [some (.ref 39), some (.int r2)] [] _ _
                refine am_e35 hi_225_33 ?_
                show am_E _ _ _ _ [some (.ref 39), some (.int 1), some (.int on), some (.int tw), some (.int th)] [] _ _
                refine am_e18 hi_180_116 ?_
                refine am_e35 hi_180_371 ?_
                have hRc := rj_clear0 hR381_
                refine ⟨_, _, [], _, rfl, hS380, Or.inr ⟨hRc, rfl, (by show 0 ≤ z375.toInt; omega), (by show z375.toInt ≤ (f 0).toInt; omega), (by show 0 ≤ (f 32).toInt; omega), (by show (f 32).toInt ≤ 63; omega), (by show 1 ≤ (f 53).toInt; omega), (by show (f 53).toInt ≤ 600; omega), (by show 0 ≤ s376.toInt; omega), (by show s376.toInt ≤ 60000; omega), (by show 0 ≤ (f 48).toInt; omega), (by show (f 48).toInt ≤ 8000; omega), (by show 0 ≤ (f 37).toInt; omega), (by show (f 37).toInt ≤ 128; omega), (by show 0 ≤ o267.toInt; omega), (by show o267.toInt ≤ 65000; omega), (by show 0 ≤ (f 19).toInt; omega), (by show (f 19).toInt ≤ 600; omega), (by show 0 ≤ u_377.toInt; omega), (by show 0 ≤ (f 8).toInt; omega)⟩⟩
            · refine am_e13f hi_236_20 (am_cF (m := r248.toInt) (n := (70 : Int)) rfl (by decide) c253) ?_
              refine am_e2 (v := 39) hi_236_23 rfl ?_
              refine am_e32n (as := [.ref 39]) (la := [some (.ref 39)]) (rest := []) hi_236_24 (am_hd0 (M := 236) (by decide) 24) (Nat.le_of_ble_eq_true rfl) (Nat.le_of_ble_eq_true rfl) (show 1 ≤ am_P0.2.2.1 183 from by decide +kernel) rfl (am_recv_ok hS250.fs) rfl rfl (ct_next (d := (d + 3)) hS250   (by show (0 : Int) ≤ z233.toInt; omega) (by show (f 0).toInt ≤ (16384 : Int); omega)) ?_
              rintro v392 S393 (⟨r394, hv395, hS396, h397⟩)
              subst hv395
              have h397_ : z233.toInt < (f 0).toInt ∨ r394.toInt = (-1 : Int) := h397
              show am_E _ _ _ _ [some (.ref 39), some (.int (f 4)), some (.int z215), none, none, none] [.int r394] _ _
              refine am_e0 hi_236_27 ?_
              by_cases c399 : r394.toInt = (68 : Int)
              · refine am_e13t hi_236_29 (am_cT (m := r394.toInt) (n := (68 : Int)) rfl (by decide) c399) ?_
                refine am_e2 (v := 39) hi_236_66 rfl ?_
                refine am_e0 hi_236_67 ?_
                refine am_e0 hi_236_68 ?_
                refine am_e1 (v := z215) hi_236_69 rfl ?_
                refine am_e32n (as := [.ref 39, .int 3, .int 0, .int z215]) (la := [some (.ref 39), some (.int 3), some (.int 0), some (.int z215)]) (rest := []) hi_236_70 (am_hd0 (M := 236) (by decide) 70) (Nat.le_of_ble_eq_true rfl) (Nat.le_of_ble_eq_true rfl) (show 4 ≤ am_P0.2.2.1 190 from by decide +kernel) rfl (am_recv_ok hS396.fs) rfl rfl (ct_value (d := (d + 4)) hS396 hR245 (fun _ => ⟨by omega, by omega⟩) (fun h => absurd h (by decide)) (by show (0 : Int) ≤ (f 15).toInt; omega) (by show (f 15).toInt ≤ (32767 : Int); omega)) ?_
                rintro v400 S401 (⟨z402, g'403, hv404, hS405, hR410, h406, h407, h408, h409⟩)
                subst hv404
                have h406_ : z402.toInt = (f 15).toInt + 1 := h406
                have h407_ : ∀ j, j ∉ [16, 17, 18] → g'403 j = g'20 j := h407
                have h408_ : mj_n (g'403 16) z402.toNatClampNeg 3 ≤ mj_n (g 16) (f 15).toNatClampNeg 3 + 1 := by rw [show g'20 16 = g 16 from h24_ 16 (by decide)] at h408; exact h408
                have h409_ : (3 : Int) = 3 ∨ mj_n (g'403 16) z402.toNatClampNeg 3 ≤ mj_n (g 16) (f 15).toNatClampNeg 3 := by rw [show g'20 16 = g 16 from h24_ 16 (by decide)] at h409; exact h409
                have hR410_ : RJ (upd (upd (upd (upd f 4 z233) 5 y216) 10 z19) 15 z402) g'403 (((1 : Int), (0 : Int), (0 : Int), (0 : Int), []) :: gs) bc [] 0 [] := hR410
                show am_E _ _ _ _ [some (.ref 39), some (.int (f 4)), some (.int z215), none, none, none] [] _ _
                refine am_e2 (v := 39) hi_236_73 rfl ?_
                refine am_e32w (as := [.ref 39]) (la := [some (.ref 39)]) (rest := []) hi_236_74 (am_hd0 (M := 236) (by decide) 74) (Nat.le_of_ble_eq_true rfl) (Nat.le_of_ble_eq_true rfl) (show 1 ≤ am_P0.2.2.1 209 from by decide +kernel) rfl (am_recv_ok hS405.fs) rfl rfl ?_
                refine am_e2 (v := 39) hi_209_0 rfl ?_
                refine am_e32n (as := [.ref 39]) (la := [some (.ref 39), none, none, none]) (rest := []) hi_209_1 (am_hd0 (M := 209) (by decide) 1) (Nat.le_of_ble_eq_true rfl) (Nat.le_of_ble_eq_true rfl) (show 1 ≤ am_P0.2.2.1 204 from by decide +kernel) rfl (am_recv_ok hS405.fs) rfl rfl (ct_load (d := (d + 1)) hS405 hR410_  (by show (0 : Int) ≤ (f 32).toInt; omega) (by show (f 32).toInt ≤ (63 : Int); omega) (by show (f 53).toInt ≤ (4096 : Int); omega) (by show (0 : Int) ≤ (f 68).toInt; omega) (by show (f 68).toInt ≤ (65534 : Int); omega) (by show (1 : Int) ≤ z402.toInt; omega) (by show z402.toInt ≤ (32767 : Int); omega) (by show (0 : Int) ≤ (f 24).toInt; omega) (by show (f 24).toInt ≤ (16384 : Int); omega) (by show (0 : Int) ≤ (f 62).toInt; omega) (by show (f 62).toInt ≤ (65000 : Int); omega)) ?_
                rintro v411 S412 (⟨o413, s414, m415, g'416, hv417, hS418, hR425, h419, h420, h421, h422, h423, h424⟩)
                subst hv417
                have h419_ : (f 62).toInt ≤ o413.toInt := h419
                have h420_ : o413.toInt ≤ (f 62).toInt + 64 := h420
                have h421_ : (f 68).toInt ≤ s414.toInt := h421
                have h422_ : s414.toInt ≤ (f 68).toInt + 1 := h422
                have h423_ : o413.toInt + 64 * mj_n (g'416 16) z402.toNatClampNeg 3 ≤ (f 62).toInt + 64 * mj_n (g'403 16) z402.toNatClampNeg 3 := h423
                have h424_ : ∀ j, j ∉ [16, 60, 63, 64, 65, 66, 67, 69, 70, 71, 72, 73] → g'416 j = g'403 j := h424
                have hR425_ : RJ (upd (upd (upd (upd (upd (upd (upd f 4 z233) 5 y216) 10 z19) 15 z402) 62 o413) 68 s414) 75 m415) g'416 (((1 : Int), (0 : Int), (0 : Int), (0 : Int), []) :: gs) bc [] 0 [] := hR425
                show am_E _ _ _ _ [some (.ref 39)] [] _ _
                refine am_e2 (v := 39) hi_209_4 rfl ?_
                refine am_e7 hi_209_5 ?_
                refine mm_20 (v := .int z402) hS418 hi_209_6 rfl ?_
                refine am_e0 hi_209_9 ?_
                obtain ⟨z426, hz426, tz426⟩ := am_subI (x := z402) (y := 1) (m := z402.toInt) (n := (1 : Int)) rfl (by decide) (by omega) (by omega)
                refine am_e10 (z := z426) hi_209_10 hz426 ?_
                refine mm_21 (v := z426) hS418 hi_209_11 rfl (Nat.le_of_ble_eq_true rfl) ms_15 ?_
                intro S427 hS428
                replace hS428 : MS S0 S427 (upd (upd (upd (upd (upd (upd (upd f 4 z233) 5 y216) 10 z19) 15 z426) 62 o413) 68 s414) 75 m415) g'416 := hS428
                have hp429 : mj_n (g'416 16) z402.toNatClampNeg 3 = mj_n (g'416 16) z426.toNatClampNeg 3 + if (g'416 16 z426.toNatClampNeg).toInt = 3 then 1 else 0 := mj_pop (by rw [cl_toNat, cl_toNat]; omega)
                have hp4291 : mj_n (g'416 16) z426.toNatClampNeg 3 ≤ mj_n (g'416 16) z402.toNatClampNeg 3 := by rw [hp429]; split <;> omega
                have hp4292 : (g'416 16 z426.toNatClampNeg).toInt = 3 → mj_n (g'416 16) z426.toNatClampNeg 3 + 1 ≤ mj_n (g'416 16) z402.toNatClampNeg 3 := fun q => by rw [hp429, if_pos q]; exact Int.le_refl _
                refine am_e35 hi_209_14 ?_
                show am_E _ _ _ _ [some (.ref 39), some (.int (f 4)), some (.int z215), none, none, none] [] _ _
                refine am_e0 hi_236_77 ?_
                refine am_e3 (ls' := [some (.ref 39), some (.int (f 4)), some (.int z215), some (.int 0), none, none]) hi_236_78 (Nat.le_of_ble_eq_true rfl) rfl ?_
                refine am_e2 (v := 39) hi_236_79 rfl ?_
                refine mm_20 (v := .int z233) hS428 hi_236_80 rfl ?_
                refine am_e3 (ls' := [some (.ref 39), some (.int (f 4)), some (.int z215), some (.int 0), some (.int z233), none]) hi_236_83 (Nat.le_of_ble_eq_true rfl) rfl ?_
                refine fr_fs (d := d) (f := (upd (upd (upd (upd (upd (upd (upd f 4 z233) 5 y216) 10 z19) 15 z426) 62 o413) 68 s414) 75 m415)) (g := g'416) (w := (f 4)) (x2 := z215)  (by show (0 : Int) ≤ (f 32).toInt; omega) (by show (f 32).toInt ≤ (63 : Int); omega) (by show (f 53).toInt ≤ (4096 : Int); omega) (by show (0 : Int) ≤ z233.toInt; omega) (by show (f 0).toInt ≤ (16384 : Int); omega) (by show z233.toInt ≤ (f 0).toInt; omega) (by show (f 0).toInt ≤ (512 : Int); omega) (by show (0 : Int) ≤ s414.toInt; omega) (by show s414.toInt ≤ (60000 : Int); omega) (by show (0 : Int) ≤ (f 6).toInt; omega) ?_ ?_ (((f 0).toInt - z233.toInt).toNat + 1) _ none 0 z233 z233 s414 _ hS428 hR425_ (fun _ _ => rfl) (by decide) (by show z233.toInt ≤ z233.toInt; omega) (by show z233.toInt ≤ (f 0).toInt; omega) (by show s414.toInt ≤ s414.toInt; omega) (by show s414.toInt + z233.toInt ≤ s414.toInt + z233.toInt; omega) (by show (0 : Int) ≤ (0 : Int); omega) (by show (0 : Int) ≤ (1 : Int); omega) (by show (f 0).toInt - z233.toInt < _; omega)
                · intro S434 x5438 m3430 p4431 z432 s433 gx437 hS435 hR436 hg439 hg440 h441 h442 h443 h444
                  replace hS435 : MS S0 S434 (upd (upd (upd (upd (upd (upd (upd f 4 z432) 5 y216) 10 z19) 15 z426) 62 o413) 68 s433) 75 m415) gx437 := hS435
                  have h441_ : z233.toInt ≤ z432.toInt := h441
                  have h442_ : z432.toInt ≤ (f 0).toInt := h442
                  have h443_ : s414.toInt ≤ s433.toInt := h443
                  have h444_ : s433.toInt + z233.toInt ≤ s414.toInt + z432.toInt := h444
                  have hR436_ : RJ (upd (upd (upd (upd (upd (upd (upd f 4 z432) 5 y216) 10 z19) 15 z426) 62 o413) 68 s433) 75 m415) gx437 (((1 : Int), (0 : Int), (0 : Int), (0 : Int), []) :: gs) bc [] 0 [] := hR436
                  show am_E _ _ _ _ [some (.ref 39), some (.int (f 4)), some (.int z215), some (.int m3430), some (.int p4431), x5438] [] _ _
                  refine am_e2 (v := 39) hi_236_218 rfl ?_
                  refine am_e0 hi_236_219 ?_
                  refine am_e0 hi_236_221 ?_
                  refine am_e0 hi_236_222 ?_
                  refine am_e1 (v := p4431) hi_236_223 rfl ?_
                  refine am_e32n (as := [.ref 39, .int 16, .int 3, .int 0, .int p4431]) (la := [some (.ref 39), some (.int 16), some (.int 3), some (.int 0), some (.int p4431)]) (rest := []) hi_236_225 (am_hd0 (M := 236) (by decide) 225) (Nat.le_of_ble_eq_true rfl) (Nat.le_of_ble_eq_true rfl) (show 5 ≤ am_P0.2.2.1 179 from by decide +kernel) rfl (am_recv_ok hS435.fs) rfl rfl (ct_pile (d := (d + 4)) hS435 hR436_ (mj_e_plain (by decide)) (by show (0 : Int) ≤ z19.toInt; omega) (by show z19.toInt ≤ (65535 : Int); omega)) ?_
                  rintro v445 S446 (⟨z447, g'448, hv449, hS450, hR453, h451, h452⟩)
                  subst hv449
                  have h451_ : z447.toInt = z19.toInt + 1 := h451
                  have h452_ : ∀ j, j ∉ [11, 12, 13, 14] → g'448 j = gx437 j := h452
                  replace hS450 : MS S0 S446 (upd (upd (upd (upd (upd (upd (upd f 4 z432) 5 y216) 10 z447) 15 z426) 62 o413) 68 s433) 75 m415) g'448 := hS450
                  have hR453_ : RJ (upd (upd (upd (upd (upd (upd (upd f 4 z432) 5 y216) 10 z447) 15 z426) 62 o413) 68 s433) 75 m415) g'448 (((16 : Int), (3 : Int), (0 : Int), p4431.toInt, []) :: (((1 : Int), (0 : Int), (0 : Int), (0 : Int), []) :: gs)) bc [] 0 [] := hR453
                  show am_E _ _ _ _ [some (.ref 39), some (.int (f 4)), some (.int z215), some (.int m3430), some (.int p4431), x5438] [] _ _
                  refine am_e2 (v := 39) hi_236_228 rfl ?_
                  refine am_e0 hi_236_229 ?_
                  refine am_e1 (v := f 4) hi_236_231 rfl ?_
                  refine am_e0 hi_236_232 ?_
                  refine am_e0 hi_236_233 ?_
                  refine am_e32n (as := [.ref 39, .int 41, .int (f 4), .int 0, .int 0]) (la := [some (.ref 39), some (.int 41), some (.int (f 4)), some (.int 0), some (.int 0)]) (rest := []) hi_236_234 (am_hd0 (M := 236) (by decide) 234) (Nat.le_of_ble_eq_true rfl) (Nat.le_of_ble_eq_true rfl) (show 5 ≤ am_P0.2.2.1 179 from by decide +kernel) rfl (am_recv_ok hS450.fs) rfl rfl (ct_pile (d := (d + 4)) hS450 hR453_ (mj_e_plain (by decide)) (by show (0 : Int) ≤ z447.toInt; omega) (by show z447.toInt ≤ (65535 : Int); omega)) ?_
                  rintro v454 S455 (⟨z456, g'457, hv458, hS459, hR462, h460, h461⟩)
                  subst hv458
                  have h460_ : z456.toInt = z447.toInt + 1 := h460
                  have h461_ : ∀ j, j ∉ [11, 12, 13, 14] → g'457 j = g'448 j := h461
                  replace hS459 : MS S0 S455 (upd (upd (upd (upd (upd (upd (upd f 4 z432) 5 y216) 10 z456) 15 z426) 62 o413) 68 s433) 75 m415) g'457 := hS459
                  have hR462_ : RJ (upd (upd (upd (upd (upd (upd (upd f 4 z432) 5 y216) 10 z456) 15 z426) 62 o413) 68 s433) 75 m415) g'457 (((41 : Int), (f 4).toInt, (0 : Int), (0 : Int), []) :: (((16 : Int), (3 : Int), (0 : Int), p4431.toInt, []) :: (((1 : Int), (0 : Int), (0 : Int), (0 : Int), []) :: gs))) bc [] 0 [] := hR462
                  show am_E _ _ _ _ [some (.ref 39), some (.int (f 4)), some (.int z215), some (.int m3430), some (.int p4431), x5438] [] _ _
                  refine am_e2 (v := 39) hi_236_237 rfl ?_
                  refine am_e1 (v := m3430) hi_236_238 rfl ?_
                  refine am_e1 (v := f 4) hi_236_239 rfl ?_
                  refine am_e32n (as := [.ref 39, .int m3430, .int (f 4)]) (la := [some (.ref 39), some (.int m3430), some (.int (f 4)), none, none]) (rest := []) hi_236_240 (am_hd0 (M := 236) (by decide) 240) (Nat.le_of_ble_eq_true rfl) (Nat.le_of_ble_eq_true rfl) (show 3 ≤ am_P0.2.2.1 195 from by decide +kernel) rfl (am_recv_ok hS459.fs) rfl rfl (ct_body (d := d) hS459 hR462_ hg440  (by show (0 : Int) ≤ (f 32).toInt; omega) (by show (f 32).toInt ≤ (62 : Int); omega) (by show (1 : Int) ≤ (f 53).toInt; omega) (by show (f 53).toInt ≤ (4095 : Int); omega) (by show (0 : Int) ≤ z432.toInt; omega) (by show (f 0).toInt ≤ (16384 : Int); omega) (by show (0 : Int) ≤ y216.toInt; omega) (by show y216.toInt ≤ (48 : Int); omega) (by show z432.toInt ≤ (f 0).toInt; omega) (by show (f 0).toInt ≤ (512 : Int); omega) (by show (0 : Int) ≤ (f 24).toInt; omega) (by show (f 24).toInt ≤ (4000 : Int); omega) (by show (0 : Int) ≤ (f 44).toInt; omega) (by show (f 44).toInt ≤ z432.toInt; omega) (by show (0 : Int) ≤ (f 48).toInt; omega) (by show (f 48).toInt ≤ z432.toInt; omega) (by show (0 : Int) ≤ (f 37).toInt; omega) (by show (f 37).toInt ≤ (126 : Int); omega) (by show (0 : Int) ≤ z456.toInt; omega) (by show z456.toInt ≤ (65533 : Int); omega) (by show (0 : Int) ≤ s433.toInt; omega) (by show (0 : Int) ≤ (f 6).toInt; omega) (by show (0 : Int) ≤ (f 8).toInt; omega)) ?_
                  rintro v463 S464 (⟨z465, y466, a467, b468, t469, l470, i_471, dd472, bz473, mm474, g'475, hv476, hS477, hR491, h478, h479, h480, h481, h482, h483, h484, h485, h486, h487, h488, h489, h490⟩ | ⟨a492, b493, hv494, hS495, hR497, h496⟩ | ⟨z498, y499, u500, v_501, a502, b503, l504, i_505, dd506, bz507, mm508, g'509, hv510, hS511, hR520, h512, h513, h514, h515, h516, h517, h518, h519⟩)
                  · subst hv476
                    have h478_ : z432.toInt + 2 ≤ z465.toInt := h478
                    have h479_ : z465.toInt ≤ (f 0).toInt := h479
                    have h480_ : y466.toInt = y216.toInt := h480
                    have h481_ : (f 24).toInt ≤ l470.toInt := h481
                    have h482_ : l470.toInt + z432.toInt ≤ (f 24).toInt + z465.toInt := h482
                    have h483_ : t469.toInt = z456.toInt + 2 := h483
                    have h484_ : dd472.toInt = (f 32).toInt + 1 := h484
                    have h485_ : bz473.toInt = (f 37).toInt + 1 := h485
                    have h486_ : mm474.toInt = (f 53).toInt + 1 := h486
                    have h487_ : ∀ j, j ∉ [11, 12, 13, 14, 25, 26, 27, 28, 29, 30, 33, 34, 35, 36, 38, 39, 40, 41, 42, 43, 54, 55, 56, 58, 59, 60, 67] → g'475 j = g'457 j := h487
                    have h488_ : g'475 34 = upd (g'457 34) dd472.toNatClampNeg (f 24) := h488
                    have h489_ : g'475 38 = upd (g'457 38) (f 37).toNatClampNeg (f 24) := h489
                    have h490_ : (0 : Int) ≤ a467.toInt := h490
                    replace hS477 : MS S0 S464 (upd (upd (upd (upd (upd (upd (upd (upd (upd (upd (upd (upd (upd (upd f 4 z465) 5 y466) 8 a467) 9 b468) 10 t469) 15 z426) 24 l470) 31 i_471) 32 dd472) 37 bz473) 53 mm474) 62 o413) 68 s433) 75 m415) g'475 := hS477
                    have hR491_ : RJ (upd (upd (upd (upd (upd (upd (upd (upd (upd (upd (upd (upd (upd (upd f 4 z465) 5 y466) 8 a467) 9 b468) 10 t469) 15 z426) 24 l470) 31 i_471) 32 dd472) 37 bz473) 53 mm474) 62 o413) 68 s433) 75 m415) g'475 (((1 : Int), (0 : Int), (0 : Int), (0 : Int), []) :: (((40 : Int), z432.toInt, (0 : Int), (0 : Int), []) :: (((41 : Int), (f 4).toInt, (0 : Int), (0 : Int), []) :: (((16 : Int), (3 : Int), (0 : Int), p4431.toInt, []) :: (((1 : Int), (0 : Int), (0 : Int), (0 : Int), []) :: gs))))) ([] :: bc) [] 0 [] := hR491
                    show am_E _ _ _ _ [some (.ref 39), some (.int (f 4)), some (.int z215), some (.int m3430), some (.int p4431), x5438] [] _ _
                    refine am_e35 hi_236_243 ?_
                    show am_E _ _ _ _ [some (.ref 39), some (.int r2), some (.int (f 4))] [] _ _
                    refine am_e18 hi_228_376 ?_
                    refine am_e35 hi_228_422 ?_
                    show am_E _ _ _ _ [some (.ref 39), some (.int r2)] [] _ _
                    refine am_e35 hi_225_33 ?_
                    show am_E _ _ _ _ [some (.ref 39), some (.int 1), some (.int on), some (.int tw), some (.int th)] [] _ _
                    refine am_e18 hi_180_116 ?_
                    refine am_e35 hi_180_371 ?_
                    have q1 : mg_p1 (((1 : Int), (0 : Int), (0 : Int), (0 : Int), []) :: (((40 : Int), z432.toInt, (0 : Int), (0 : Int), []) :: (((41 : Int), (f 4).toInt, (0 : Int), (0 : Int), []) :: (((16 : Int), (3 : Int), (0 : Int), p4431.toInt, []) :: (((1 : Int), (0 : Int), (0 : Int), (0 : Int), []) :: gs))))) = 0 + (0 + (0 + (0 + (0 + (mg_p1 gs))))) := rfl
                    have q2 : mg_p2 (((1 : Int), (0 : Int), (0 : Int), (0 : Int), []) :: (((40 : Int), z432.toInt, (0 : Int), (0 : Int), []) :: (((41 : Int), (f 4).toInt, (0 : Int), (0 : Int), []) :: (((16 : Int), (3 : Int), (0 : Int), p4431.toInt, []) :: (((1 : Int), (0 : Int), (0 : Int), (0 : Int), []) :: gs))))) = 0 + (0 + (1 + (0 + (0 + (mg_p2 gs))))) := rfl
                    have q3 : mg_p3 (((1 : Int), (0 : Int), (0 : Int), (0 : Int), []) :: (((40 : Int), z432.toInt, (0 : Int), (0 : Int), []) :: (((41 : Int), (f 4).toInt, (0 : Int), (0 : Int), []) :: (((16 : Int), (3 : Int), (0 : Int), p4431.toInt, []) :: (((1 : Int), (0 : Int), (0 : Int), (0 : Int), []) :: gs))))) = 1 + (1 + (1 + (1 + (1 + (mg_p3 gs))))) := rfl
                    have q4 : mg_p4 (((1 : Int), (0 : Int), (0 : Int), (0 : Int), []) :: (((40 : Int), z432.toInt, (0 : Int), (0 : Int), []) :: (((41 : Int), (f 4).toInt, (0 : Int), (0 : Int), []) :: (((16 : Int), (3 : Int), (0 : Int), p4431.toInt, []) :: (((1 : Int), (0 : Int), (0 : Int), (0 : Int), []) :: gs))))) = 0 + (0 + (2 + (3 + (0 + (mg_p4 gs))))) := rfl
                    refine ⟨_, _, _, ([] :: bc), rfl, hS477, Or.inl ⟨⟨hR491_, ?_, ?_⟩, rfl, ?_⟩⟩
                    · exact (⟨⟨(show mg_k 1 from by decide), (show (0 : Int) ≤ z426.toInt from by omega), (show 0 ≤ (f 20).toInt from by omega), (show 1 ≤ bz473.toInt from by omega), (show 0 ≤ dd472.toInt from by omega), (show dd472.toInt ≤ y466.toInt from by omega), (show y466.toInt ≤ 48 from by omega), (show bz473.toInt ≤ 2 * (y466.toInt) + 1 from by omega), trivial⟩, ⟨⟨(show mg_k 40 from by decide), (show (0 : Int) ≤ z426.toInt + 0 from by omega), (show 0 ≤ (f 20).toInt from by omega), (show 1 ≤ bz473.toInt + 0 from by omega), (show 0 ≤ dd472.toInt + 0 from by omega), (show dd472.toInt + 0 ≤ y466.toInt + 0 from by omega), (show y466.toInt + 0 ≤ 48 from by omega), (show bz473.toInt + 0 ≤ 2 * (y466.toInt + 0) + 1 from by omega), trivial⟩, ⟨⟨(show mg_k 41 from by decide), (show (0 : Int) ≤ z426.toInt + 0 + 0 from by omega), (show 0 ≤ (f 20).toInt from by omega), (show 1 ≤ bz473.toInt + 0 + -1 from by omega), (show 0 ≤ dd472.toInt + 0 + -1 from by omega), (show dd472.toInt + 0 + -1 ≤ y466.toInt + 0 + -1 from by omega), (show y466.toInt + 0 + -1 ≤ 48 from by omega), (show bz473.toInt + 0 + -1 ≤ 2 * (y466.toInt + 0 + -1) + 2 from by omega), trivial⟩, ⟨⟨(show mg_k 16 from by decide), (show (1 : Int) ≤ z426.toInt + 0 + 0 + 1 from by omega), (show 0 ≤ (f 20).toInt from by omega), (show 1 ≤ bz473.toInt + 0 + -1 + 0 from by omega), (show 0 ≤ dd472.toInt + 0 + -1 + 0 from by omega), (show dd472.toInt + 0 + -1 + 0 ≤ y466.toInt + 0 + -1 + 0 from by omega), (show y466.toInt + 0 + -1 + 0 ≤ 48 from by omega), (show bz473.toInt + 0 + -1 + 0 ≤ 2 * (y466.toInt + 0 + -1 + 0) + 1 from by omega), trivial⟩, ⟨⟨(show mg_k 1 from by decide), (show (0 : Int) ≤ z426.toInt + 0 + 0 + 1 + -1 from by omega), (show 0 ≤ (f 20).toInt from by omega), (show 1 ≤ bz473.toInt + 0 + -1 + 0 + 0 from by omega), (show 0 ≤ dd472.toInt + 0 + -1 + 0 + 0 from by omega), (show dd472.toInt + 0 + -1 + 0 + 0 ≤ y466.toInt + 0 + -1 + 0 + 0 from by omega), (show y466.toInt + 0 + -1 + 0 + 0 ≤ 48 from by omega), (show bz473.toInt + 0 + -1 + 0 + 0 ≤ 2 * (y466.toInt + 0 + -1 + 0 + 0) + 1 from by omega), trivial⟩, mg_cast (mg_good_ext _ _ _ _ _ _ (fun i hi => by show g'475 34 i = g 34 i; rw [h488_, show g'457 34 = g'448 34 from h461_ 34 (by decide), show g'448 34 = gx437 34 from h452_ 34 (by decide), show gx437 34 = g'416 34 from hg439 34 (by decide), show g'416 34 = g'403 34 from h424_ 34 (by decide), show g'403 34 = g'20 34 from h407_ 34 (by decide), show g'20 34 = g 34 from h24_ 34 (by decide)]; exact upd_ne (by rw [cl_toNat]; omega)) (fun i hi => by show g'475 38 i = g 38 i; rw [h489_, show g'457 38 = g'448 38 from h461_ 38 (by decide), show g'448 38 = gx437 38 from h452_ 38 (by decide), show gx437 38 = g'416 38 from hg439 38 (by decide), show g'416 38 = g'403 38 from h424_ 38 (by decide), show g'403 38 = g'20 38 from h407_ 38 (by decide), show g'20 38 = g 38 from h24_ 38 (by decide)]; exact upd_ne (by rw [cl_toNat]; omega)) (fun i _ => by show g'475 23 i = g 23 i; rw [show g'475 23 = g'457 23 from h487_ 23 (by decide), show g'457 23 = g'448 23 from h461_ 23 (by decide), show g'448 23 = gx437 23 from h452_ 23 (by decide), show gx437 23 = g'416 23 from hg439 23 (by decide), show g'416 23 = g'403 23 from h424_ 23 (by decide), show g'403 23 = g'20 23 from h407_ 23 (by decide), show g'20 23 = g 23 from h24_ 23 (by decide)]) hrest) (by show (f 15).toInt + 0 = z426.toInt + 0 + 0 + 1 + -1 + 0; omega) (by show (f 20).toInt = (f 20).toInt; omega) (by show (f 37).toInt + 0 = bz473.toInt + 0 + -1 + 0 + 0 + 0; omega) (by show (f 32).toInt + 0 = dd472.toInt + 0 + -1 + 0 + 0 + 0; omega) (by show (f 5).toInt + 0 = y466.toInt + 0 + -1 + 0 + 0 + 0; omega)⟩⟩⟩⟩⟩ : mg_good (g'475 34) (g'475 38) (g'475 23) (((1 : Int), (0 : Int), (0 : Int), (0 : Int), []) :: (((40 : Int), z432.toInt, (0 : Int), (0 : Int), []) :: (((41 : Int), (f 4).toInt, (0 : Int), (0 : Int), []) :: (((16 : Int), (3 : Int), (0 : Int), p4431.toInt, []) :: (((1 : Int), (0 : Int), (0 : Int), (0 : Int), []) :: gs))))) (z426.toInt) ((f 20).toInt) (bz473.toInt) (dd472.toInt) (y466.toInt))
                    · exact ⟨(by show 0 ≤ z465.toInt; omega), (by show z465.toInt ≤ (f 0).toInt; omega), (by show (f 0).toInt ≤ 512; omega), (by show 0 ≤ l470.toInt; omega), (by show l470.toInt + (f 20).toInt + mg_p1 (((1 : Int), (0 : Int), (0 : Int), (0 : Int), []) :: (((40 : Int), z432.toInt, (0 : Int), (0 : Int), []) :: (((41 : Int), (f 4).toInt, (0 : Int), (0 : Int), []) :: (((16 : Int), (3 : Int), (0 : Int), p4431.toInt, []) :: (((1 : Int), (0 : Int), (0 : Int), (0 : Int), []) :: gs))))) ≤ 4 * z465.toInt; omega), (by show (f 20).toInt ≤ z465.toInt; omega), (by show z426.toInt + mg_p2 (((1 : Int), (0 : Int), (0 : Int), (0 : Int), []) :: (((40 : Int), z432.toInt, (0 : Int), (0 : Int), []) :: (((41 : Int), (f 4).toInt, (0 : Int), (0 : Int), []) :: (((16 : Int), (3 : Int), (0 : Int), p4431.toInt, []) :: (((1 : Int), (0 : Int), (0 : Int), (0 : Int), []) :: gs))))) ≤ z465.toInt; omega), (by show mg_p3 (((1 : Int), (0 : Int), (0 : Int), (0 : Int), []) :: (((40 : Int), z432.toInt, (0 : Int), (0 : Int), []) :: (((41 : Int), (f 4).toInt, (0 : Int), (0 : Int), []) :: (((16 : Int), (3 : Int), (0 : Int), p4431.toInt, []) :: (((1 : Int), (0 : Int), (0 : Int), (0 : Int), []) :: gs))))) ≤ 20 * z465.toInt + 20; omega), (by show 0 ≤ s433.toInt; omega), (by show s433.toInt + 3 * (f 20).toInt + mg_p4 (((1 : Int), (0 : Int), (0 : Int), (0 : Int), []) :: (((40 : Int), z432.toInt, (0 : Int), (0 : Int), []) :: (((41 : Int), (f 4).toInt, (0 : Int), (0 : Int), []) :: (((16 : Int), (3 : Int), (0 : Int), p4431.toInt, []) :: (((1 : Int), (0 : Int), (0 : Int), (0 : Int), []) :: gs))))) ≤ 60 * z465.toInt + 60; omega), (by show 0 ≤ o413.toInt; omega), (by show o413.toInt + 64 * mj_n (g'475 16) z426.toNatClampNeg 3 ≤ 64 * z465.toInt; rw [show g'475 16 = g'457 16 from h487_ 16 (by decide), show g'457 16 = g'448 16 from h461_ 16 (by decide), show g'448 16 = gx437 16 from h452_ 16 (by decide), show gx437 16 = g'416 16 from hg439 16 (by decide)]; omega), (by show 0 ≤ (f 44).toInt; omega), (by show (f 44).toInt ≤ z465.toInt; omega), (by show 0 ≤ (f 48).toInt; omega), (by show (f 48).toInt ≤ z465.toInt; omega), (by show 1 ≤ mm474.toInt; omega), (by show mm474.toInt ≤ z465.toInt + 1; omega), (by show 0 ≤ (f 19).toInt; omega), (by show (f 19).toInt ≤ 600; omega), (by show 0 ≤ (f 6).toInt; omega), (by show 0 ≤ a467.toInt; omega)⟩
                    · show 100 * ((f 0).toInt - z465.toInt) + mg_p3 (((1 : Int), (0 : Int), (0 : Int), (0 : Int), []) :: (((40 : Int), z432.toInt, (0 : Int), (0 : Int), []) :: (((41 : Int), (f 4).toInt, (0 : Int), (0 : Int), []) :: (((16 : Int), (3 : Int), (0 : Int), p4431.toInt, []) :: (((1 : Int), (0 : Int), (0 : Int), (0 : Int), []) :: gs))))) < 100 * ((f 0).toInt - (f 4).toInt) + (1 + mg_p3 gs); omega
                  · subst hv494
                    have h496_ : (0 : Int) ≤ a492.toInt := h496
                    replace hS495 : MS S0 S464 (upd (upd (upd (upd (upd (upd (upd (upd (upd f 4 z432) 5 y216) 6 a492) 7 b493) 10 0) 15 z426) 62 o413) 68 s433) 75 m415) g'457 := hS495
                    have hR497_ : RJ (upd (upd (upd (upd (upd (upd (upd (upd (upd f 4 z432) 5 y216) 6 a492) 7 b493) 10 0) 15 z426) 62 o413) 68 s433) 75 m415) g'457 [] bc [] 0 [] := hR497
                    show am_E _ _ _ _ [some (.ref 39), some (.int (f 4)), some (.int z215), some (.int m3430), some (.int p4431), x5438] [] _ _
                    refine am_e35 hi_236_243 ?_
                    show am_E _ _ _ _ [some (.ref 39), some (.int r2), some (.int (f 4))] [] _ _
                    refine am_e18 hi_228_376 ?_
                    refine am_e35 hi_228_422 ?_
                    show am_E _ _ _ _ [some (.ref 39), some (.int r2)] [] _ _
                    refine am_e35 hi_225_33 ?_
                    show am_E _ _ _ _ [some (.ref 39), some (.int 1), some (.int on), some (.int tw), some (.int th)] [] _ _
                    refine am_e18 hi_180_116 ?_
                    refine am_e35 hi_180_371 ?_
                    have hRc := rj_clear0 hR497_
                    refine ⟨_, _, [], _, rfl, hS495, Or.inr ⟨hRc, rfl, (by show 0 ≤ z432.toInt; omega), (by show z432.toInt ≤ (f 0).toInt; omega), (by show 0 ≤ (f 32).toInt; omega), (by show (f 32).toInt ≤ 63; omega), (by show 1 ≤ (f 53).toInt; omega), (by show (f 53).toInt ≤ 600; omega), (by show 0 ≤ s433.toInt; omega), (by show s433.toInt ≤ 60000; omega), (by show 0 ≤ (f 48).toInt; omega), (by show (f 48).toInt ≤ 8000; omega), (by show 0 ≤ (f 37).toInt; omega), (by show (f 37).toInt ≤ 128; omega), (by show 0 ≤ o413.toInt; omega), (by show o413.toInt ≤ 65000; omega), (by show 0 ≤ (f 19).toInt; omega), (by show (f 19).toInt ≤ 600; omega), (by show 0 ≤ a492.toInt; omega), (by show 0 ≤ (f 8).toInt; omega)⟩⟩
                  · subst hv510
                    have h512_ : z432.toInt ≤ z498.toInt := h512
                    have h513_ : z498.toInt ≤ (f 0).toInt := h513
                    have h514_ : dd506.toInt = (f 32).toInt + 1 := h514
                    have h515_ : bz507.toInt = (f 37).toInt + 1 := h515
                    have h516_ : mm508.toInt = (f 53).toInt + 1 := h516
                    have h517_ : ∀ j, j ∉ [11, 12, 13, 14, 25, 26, 27, 28, 29, 30, 33, 34, 35, 36, 38, 39, 40, 41, 42, 43, 54, 55, 56, 58, 59, 60, 67] → g'509 j = g'457 j := h517
                    have h518_ : (0 : Int) ≤ u500.toInt := h518
                    have h519_ : (0 : Int) ≤ a502.toInt := h519
                    replace hS511 : MS S0 S464 (upd (upd (upd (upd (upd (upd (upd (upd (upd (upd (upd (upd (upd (upd (upd (upd f 4 z498) 5 y499) 6 u500) 7 v_501) 8 a502) 9 b503) 10 0) 15 z426) 24 l504) 31 i_505) 32 dd506) 37 bz507) 53 mm508) 62 o413) 68 s433) 75 m415) g'509 := hS511
                    have hR520_ : RJ (upd (upd (upd (upd (upd (upd (upd (upd (upd (upd (upd (upd (upd (upd (upd (upd f 4 z498) 5 y499) 6 u500) 7 v_501) 8 a502) 9 b503) 10 0) 15 z426) 24 l504) 31 i_505) 32 dd506) 37 bz507) 53 mm508) 62 o413) 68 s433) 75 m415) g'509 [] ([] :: bc) [] 0 [] := hR520
                    show am_E _ _ _ _ [some (.ref 39), some (.int (f 4)), some (.int z215), some (.int m3430), some (.int p4431), x5438] [] _ _
                    refine am_e35 hi_236_243 ?_
                    show am_E _ _ _ _ [some (.ref 39), some (.int r2), some (.int (f 4))] [] _ _
                    refine am_e18 hi_228_376 ?_
                    refine am_e35 hi_228_422 ?_
                    show am_E _ _ _ _ [some (.ref 39), some (.int r2)] [] _ _
                    refine am_e35 hi_225_33 ?_
                    show am_E _ _ _ _ [some (.ref 39), some (.int 1), some (.int on), some (.int tw), some (.int th)] [] _ _
                    refine am_e18 hi_180_116 ?_
                    refine am_e35 hi_180_371 ?_
                    have hRc := rj_clear0 hR520_
                    refine ⟨_, _, [], _, rfl, hS511, Or.inr ⟨hRc, rfl, (by show 0 ≤ z498.toInt; omega), (by show z498.toInt ≤ (f 0).toInt; omega), (by show 0 ≤ dd506.toInt; omega), (by show dd506.toInt ≤ 63; omega), (by show 1 ≤ mm508.toInt; omega), (by show mm508.toInt ≤ 600; omega), (by show 0 ≤ s433.toInt; omega), (by show s433.toInt ≤ 60000; omega), (by show 0 ≤ (f 48).toInt; omega), (by show (f 48).toInt ≤ 8000; omega), (by show 0 ≤ bz507.toInt; omega), (by show bz507.toInt ≤ 128; omega), (by show 0 ≤ o413.toInt; omega), (by show o413.toInt ≤ 65000; omega), (by show 0 ≤ (f 19).toInt; omega), (by show (f 19).toInt ≤ 600; omega), (by show 0 ≤ u500.toInt; omega), (by show 0 ≤ a502.toInt; omega)⟩⟩
                · intro S525 x3529 x4530 x5531 z521 s522 u_523 v_524 gx528 hS526 hR527 hg532 h533 h534 h535 h536 h537
                  replace hS526 : MS S0 S525 (upd (upd (upd (upd (upd (upd (upd (upd (upd f 4 z521) 5 y216) 6 u_523) 7 v_524) 10 0) 15 z426) 62 o413) 68 s522) 75 m415) gx528 := hS526
                  have h533_ : z233.toInt ≤ z521.toInt := h533
                  have h534_ : z521.toInt ≤ (f 0).toInt := h534
                  have h535_ : s414.toInt ≤ s522.toInt := h535
                  have h536_ : s522.toInt + z233.toInt ≤ s414.toInt + z521.toInt := h536
                  have h537_ : (0 : Int) ≤ u_523.toInt := h537
                  have hR527_ : RJ (upd (upd (upd (upd (upd (upd (upd (upd (upd f 4 z521) 5 y216) 6 u_523) 7 v_524) 10 0) 15 z426) 62 o413) 68 s522) 75 m415) gx528 [] bc [] 0 [] := hR527
                  show am_E _ _ _ _ [some (.ref 39), some (.int (f 4)), some (.int z215), x3529, x4530, x5531] [] _ _
                  refine am_e35 hi_236_146 ?_
                  show am_E _ _ _ _ [some (.ref 39), some (.int r2), some (.int (f 4))] [] _ _
                  refine am_e18 hi_228_376 ?_
                  refine am_e35 hi_228_422 ?_
                  show am_E _ _ _ _ [some (.ref 39), some (.int r2)] [] _ _
                  refine am_e35 hi_225_33 ?_
                  show am_E _ _ _ _ [some (.ref 39), some (.int 1), some (.int on), some (.int tw), some (.int th)] [] _ _
                  refine am_e18 hi_180_116 ?_
                  refine am_e35 hi_180_371 ?_
                  have hRc := rj_clear0 hR527_
                  refine ⟨_, _, [], _, rfl, hS526, Or.inr ⟨hRc, rfl, (by show 0 ≤ z521.toInt; omega), (by show z521.toInt ≤ (f 0).toInt; omega), (by show 0 ≤ (f 32).toInt; omega), (by show (f 32).toInt ≤ 63; omega), (by show 1 ≤ (f 53).toInt; omega), (by show (f 53).toInt ≤ 600; omega), (by show 0 ≤ s522.toInt; omega), (by show s522.toInt ≤ 60000; omega), (by show 0 ≤ (f 48).toInt; omega), (by show (f 48).toInt ≤ 8000; omega), (by show 0 ≤ (f 37).toInt; omega), (by show (f 37).toInt ≤ 128; omega), (by show 0 ≤ o413.toInt; omega), (by show o413.toInt ≤ 65000; omega), (by show 0 ≤ (f 19).toInt; omega), (by show (f 19).toInt ≤ 600; omega), (by show 0 ≤ u_523.toInt; omega), (by show 0 ≤ (f 8).toInt; omega)⟩⟩
              · refine am_e13f hi_236_29 (am_cF (m := r394.toInt) (n := (68 : Int)) rfl (by decide) c399) ?_
                refine am_e2 (v := 39) hi_236_32 rfl ?_
                refine am_e1 (v := z215) hi_236_33 rfl ?_
                refine am_e32w (as := [.ref 39, .int z215]) (la := [some (.ref 39), some (.int z215), none]) (rest := []) hi_236_34 (am_hd0 (M := 236) (by decide) 34) (Nat.le_of_ble_eq_true rfl) (Nat.le_of_ble_eq_true rfl) (show 2 ≤ am_P0.2.2.1 237 from by decide +kernel) rfl (am_recv_ok hS396.fs) rfl rfl ?_
                refine am_e2 (v := 39) hi_237_0 rfl ?_
                refine am_e2 (v := 39) hi_237_1 rfl ?_
                refine mm_20 (v := .ref 41) hS396 hi_237_2 rfl ?_
                refine am_e1 (v := z215) hi_237_5 rfl ?_
                refine mm_25 hS396 ma_2 hi_237_6 (by decide) (by omega) (by omega) ?_
                show am_E _ _ _ _ _ (.int (g'20 2 z215.toNatClampNeg) :: _) _ _
                rw [show g'20 2 = g 2 from h24_ 2 (by decide)]
                show am_E _ _ _ _ [some (.ref 39), some (.int z215), none] [.int (g 2 z215.toNatClampNeg), .ref 39] _ _
                refine am_e32n (as := [.ref 39, .int (g 2 z215.toNatClampNeg)]) (la := [some (.ref 39), some (.int (g 2 z215.toNatClampNeg)), none]) (rest := []) hi_237_7 (am_hd0 (M := 237) (by decide) 7) (Nat.le_of_ble_eq_true rfl) (Nat.le_of_ble_eq_true rfl) (show 2 ≤ am_P0.2.2.1 206 from by decide +kernel) rfl (am_recv_ok hS396.fs) rfl rfl (ct_find (d := (d + 3)) hS396   (by show (0 : Int) ≤ (f 24).toInt; omega) (by show (f 24).toInt ≤ (16384 : Int); omega)) ?_
                rintro v538 S539 (⟨r540, hv541, hS542, h543, h544⟩)
                subst hv541
                have h543_ : (-1 : Int) ≤ r540.toInt := h543
                have h544_ : r540.toInt < (f 24).toInt := h544
                show am_E _ _ _ _ [some (.ref 39), some (.int z215), none] [.int r540] _ _
                refine am_e3 (ls' := [some (.ref 39), some (.int z215), some (.int r540)]) hi_237_10 (Nat.le_of_ble_eq_true rfl) rfl ?_
                refine am_e1 (v := r540) hi_237_11 rfl ?_
                by_cases c546 : r540.toInt < (0 : Int)
                · refine am_e12t hi_237_12 (am_cT (m := r540.toInt) (n := (0 : Int)) rfl (by decide) c546) ?_
                  refine am_e2 (v := 39) hi_237_31 rfl ?_
                  refine am_e1 (v := z215) hi_237_32 rfl ?_
                  refine am_e32n (as := [.ref 39, .int z215]) (la := [some (.ref 39), some (.int z215), none, none, none]) (rest := []) hi_237_33 (am_hd0 (M := 237) (by decide) 33) (Nat.le_of_ble_eq_true rfl) (Nat.le_of_ble_eq_true rfl) (show 2 ≤ am_P0.2.2.1 205 from by decide +kernel) rfl (am_recv_ok hS542.fs) rfl rfl (ct_resolve (d := (d + 2)) hS542 hR245  (by show (0 : Int) ≤ (f 32).toInt; omega) (by show (f 32).toInt ≤ (63 : Int); omega) (by show (f 53).toInt ≤ (4096 : Int); omega) (by show (0 : Int) ≤ (f 24).toInt; omega) (by show (f 24).toInt ≤ (16384 : Int); omega) (by show (0 : Int) ≤ (f 62).toInt; omega) (by show (f 62).toInt ≤ (65000 : Int); omega) (by show (0 : Int) ≤ z215.toInt; omega) (by show z215.toInt ≤ (16383 : Int); omega)) ?_
                  rintro v547 S548 (⟨o549, m550, g'551, r552, hv553, hS554, hR560, h555, h556, h557, h558, h559⟩)
                  subst hv553
                  have h555_ : (f 62).toInt ≤ o549.toInt := h555
                  have h556_ : o549.toInt ≤ (f 62).toInt + 64 := h556
                  have h557_ : (0 : Int) ≤ r552.toInt := h557
                  have h558_ : r552.toInt ≤ (2 : Int) := h558
                  have h559_ : ∀ j, j ∉ [63, 64, 65, 66, 67] → g'551 j = g'20 j := h559
                  have hR560_ : RJ (upd (upd (upd (upd (upd f 4 z233) 5 y216) 10 z19) 62 o549) 75 m550) g'551 (((1 : Int), (0 : Int), (0 : Int), (0 : Int), []) :: gs) bc [] 0 [] := hR560
                  show am_E _ _ _ _ [some (.ref 39), some (.int z215), some (.int r540)] [.int r552] _ _
                  refine am_e33 hi_237_36 ?_
                  show am_E _ _ _ _ [some (.ref 39), some (.int (f 4)), some (.int z215), none, none, none] [.int r552] _ _
                  refine am_e3 (ls' := [some (.ref 39), some (.int (f 4)), some (.int z215), some (.int r552), none, none]) hi_236_37 (Nat.le_of_ble_eq_true rfl) rfl ?_
                  refine am_e2 (v := 39) hi_236_38 rfl ?_
                  refine am_e0 hi_236_39 ?_
                  refine am_e1 (v := r552) hi_236_41 rfl ?_
                  refine am_e2 (v := 39) hi_236_42 rfl ?_
                  refine mm_20 (v := .int m550) hS554 hi_236_43 rfl ?_
                  refine am_e1 (v := z215) hi_236_46 rfl ?_
                  refine am_e32n (as := [.ref 39, .int 16, .int r552, .int m550, .int z215]) (la := [some (.ref 39), some (.int 16), some (.int r552), some (.int m550), some (.int z215)]) (rest := []) hi_236_47 (am_hd0 (M := 236) (by decide) 47) (Nat.le_of_ble_eq_true rfl) (Nat.le_of_ble_eq_true rfl) (show 5 ≤ am_P0.2.2.1 179 from by decide +kernel) rfl (am_recv_ok hS554.fs) rfl rfl (ct_pile (d := (d + 4)) hS554 hR560_ (mj_e_plain (by decide)) (by show (0 : Int) ≤ z19.toInt; omega) (by show z19.toInt ≤ (65535 : Int); omega)) ?_
                  rintro v561 S562 (⟨z563, g'564, hv565, hS566, hR569, h567, h568⟩)
                  subst hv565
                  have h567_ : z563.toInt = z19.toInt + 1 := h567
                  have h568_ : ∀ j, j ∉ [11, 12, 13, 14] → g'564 j = g'551 j := h568
                  replace hS566 : MS S0 S562 (upd (upd (upd (upd (upd f 4 z233) 5 y216) 10 z563) 62 o549) 75 m550) g'564 := hS566
                  have hR569_ : RJ (upd (upd (upd (upd (upd f 4 z233) 5 y216) 10 z563) 62 o549) 75 m550) g'564 (((16 : Int), r552.toInt, m550.toInt, z215.toInt, []) :: (((1 : Int), (0 : Int), (0 : Int), (0 : Int), []) :: gs)) bc [] 0 [] := hR569
                  show am_E _ _ _ _ [some (.ref 39), some (.int (f 4)), some (.int z215), some (.int r552), none, none] [] _ _
                  refine am_e2 (v := 39) hi_236_50 rfl ?_
                  refine am_e0 hi_236_51 ?_
                  refine am_e1 (v := f 4) hi_236_53 rfl ?_
                  refine am_e0 hi_236_54 ?_
                  refine am_e0 hi_236_55 ?_
                  refine am_e32n (as := [.ref 39, .int 41, .int (f 4), .int 0, .int 0]) (la := [some (.ref 39), some (.int 41), some (.int (f 4)), some (.int 0), some (.int 0)]) (rest := []) hi_236_56 (am_hd0 (M := 236) (by decide) 56) (Nat.le_of_ble_eq_true rfl) (Nat.le_of_ble_eq_true rfl) (show 5 ≤ am_P0.2.2.1 179 from by decide +kernel) rfl (am_recv_ok hS566.fs) rfl rfl (ct_pile (d := (d + 4)) hS566 hR569_ (mj_e_plain (by decide)) (by show (0 : Int) ≤ z563.toInt; omega) (by show z563.toInt ≤ (65535 : Int); omega)) ?_
                  rintro v570 S571 (⟨z572, g'573, hv574, hS575, hR578, h576, h577⟩)
                  subst hv574
                  have h576_ : z572.toInt = z563.toInt + 1 := h576
                  have h577_ : ∀ j, j ∉ [11, 12, 13, 14] → g'573 j = g'564 j := h577
                  replace hS575 : MS S0 S571 (upd (upd (upd (upd (upd f 4 z233) 5 y216) 10 z572) 62 o549) 75 m550) g'573 := hS575
                  have hR578_ : RJ (upd (upd (upd (upd (upd f 4 z233) 5 y216) 10 z572) 62 o549) 75 m550) g'573 (((41 : Int), (f 4).toInt, (0 : Int), (0 : Int), []) :: (((16 : Int), r552.toInt, m550.toInt, z215.toInt, []) :: (((1 : Int), (0 : Int), (0 : Int), (0 : Int), []) :: gs))) bc [] 0 [] := hR578
                  show am_E _ _ _ _ [some (.ref 39), some (.int (f 4)), some (.int z215), some (.int r552), none, none] [] _ _
                  refine am_e2 (v := 39) hi_236_59 rfl ?_
                  refine am_e0 hi_236_60 ?_
                  refine am_e1 (v := f 4) hi_236_61 rfl ?_
                  refine am_e32n (as := [.ref 39, .int 0, .int (f 4)]) (la := [some (.ref 39), some (.int 0), some (.int (f 4)), none, none]) (rest := []) hi_236_62 (am_hd0 (M := 236) (by decide) 62) (Nat.le_of_ble_eq_true rfl) (Nat.le_of_ble_eq_true rfl) (show 3 ≤ am_P0.2.2.1 195 from by decide +kernel) rfl (am_recv_ok hS575.fs) rfl rfl (ct_body (d := d) hS575 hR578_ (by decide)  (by show (0 : Int) ≤ (f 32).toInt; omega) (by show (f 32).toInt ≤ (62 : Int); omega) (by show (1 : Int) ≤ (f 53).toInt; omega) (by show (f 53).toInt ≤ (4095 : Int); omega) (by show (0 : Int) ≤ z233.toInt; omega) (by show (f 0).toInt ≤ (16384 : Int); omega) (by show (0 : Int) ≤ y216.toInt; omega) (by show y216.toInt ≤ (48 : Int); omega) (by show z233.toInt ≤ (f 0).toInt; omega) (by show (f 0).toInt ≤ (512 : Int); omega) (by show (0 : Int) ≤ (f 24).toInt; omega) (by show (f 24).toInt ≤ (4000 : Int); omega) (by show (0 : Int) ≤ (f 44).toInt; omega) (by show (f 44).toInt ≤ z233.toInt; omega) (by show (0 : Int) ≤ (f 48).toInt; omega) (by show (f 48).toInt ≤ z233.toInt; omega) (by show (0 : Int) ≤ (f 37).toInt; omega) (by show (f 37).toInt ≤ (126 : Int); omega) (by show (0 : Int) ≤ z572.toInt; omega) (by show z572.toInt ≤ (65533 : Int); omega) (by show (0 : Int) ≤ (f 68).toInt; omega) (by show (0 : Int) ≤ (f 6).toInt; omega) (by show (0 : Int) ≤ (f 8).toInt; omega)) ?_
                  rintro v579 S580 (⟨z581, y582, a583, b584, t585, l586, i_587, dd588, bz589, mm590, g'591, hv592, hS593, hR607, h594, h595, h596, h597, h598, h599, h600, h601, h602, h603, h604, h605, h606⟩ | ⟨a608, b609, hv610, hS611, hR613, h612⟩ | ⟨z614, y615, u616, v_617, a618, b619, l620, i_621, dd622, bz623, mm624, g'625, hv626, hS627, hR636, h628, h629, h630, h631, h632, h633, h634, h635⟩)
                  · subst hv592
                    have h594_ : z233.toInt + 2 ≤ z581.toInt := h594
                    have h595_ : z581.toInt ≤ (f 0).toInt := h595
                    have h596_ : y582.toInt = y216.toInt := h596
                    have h597_ : (f 24).toInt ≤ l586.toInt := h597
                    have h598_ : l586.toInt + z233.toInt ≤ (f 24).toInt + z581.toInt := h598
                    have h599_ : t585.toInt = z572.toInt + 2 := h599
                    have h600_ : dd588.toInt = (f 32).toInt + 1 := h600
                    have h601_ : bz589.toInt = (f 37).toInt + 1 := h601
                    have h602_ : mm590.toInt = (f 53).toInt + 1 := h602
                    have h603_ : ∀ j, j ∉ [11, 12, 13, 14, 25, 26, 27, 28, 29, 30, 33, 34, 35, 36, 38, 39, 40, 41, 42, 43, 54, 55, 56, 58, 59, 60, 67] → g'591 j = g'573 j := h603
                    have h604_ : g'591 34 = upd (g'573 34) dd588.toNatClampNeg (f 24) := h604
                    have h605_ : g'591 38 = upd (g'573 38) (f 37).toNatClampNeg (f 24) := h605
                    have h606_ : (0 : Int) ≤ a583.toInt := h606
                    replace hS593 : MS S0 S580 (upd (upd (upd (upd (upd (upd (upd (upd (upd (upd (upd (upd f 4 z581) 5 y582) 8 a583) 9 b584) 10 t585) 24 l586) 31 i_587) 32 dd588) 37 bz589) 53 mm590) 62 o549) 75 m550) g'591 := hS593
                    have hR607_ : RJ (upd (upd (upd (upd (upd (upd (upd (upd (upd (upd (upd (upd f 4 z581) 5 y582) 8 a583) 9 b584) 10 t585) 24 l586) 31 i_587) 32 dd588) 37 bz589) 53 mm590) 62 o549) 75 m550) g'591 (((1 : Int), (0 : Int), (0 : Int), (0 : Int), []) :: (((40 : Int), z233.toInt, (0 : Int), (0 : Int), []) :: (((41 : Int), (f 4).toInt, (0 : Int), (0 : Int), []) :: (((16 : Int), r552.toInt, m550.toInt, z215.toInt, []) :: (((1 : Int), (0 : Int), (0 : Int), (0 : Int), []) :: gs))))) ([] :: bc) [] 0 [] := hR607
                    show am_E _ _ _ _ [some (.ref 39), some (.int (f 4)), some (.int z215), some (.int r552), none, none] [] _ _
                    refine am_e35 hi_236_65 ?_
                    show am_E _ _ _ _ [some (.ref 39), some (.int r2), some (.int (f 4))] [] _ _
                    refine am_e18 hi_228_376 ?_
                    refine am_e35 hi_228_422 ?_
                    show am_E _ _ _ _ [some (.ref 39), some (.int r2)] [] _ _
                    refine am_e35 hi_225_33 ?_
                    show am_E _ _ _ _ [some (.ref 39), some (.int 1), some (.int on), some (.int tw), some (.int th)] [] _ _
                    refine am_e18 hi_180_116 ?_
                    refine am_e35 hi_180_371 ?_
                    have q1 : mg_p1 (((1 : Int), (0 : Int), (0 : Int), (0 : Int), []) :: (((40 : Int), z233.toInt, (0 : Int), (0 : Int), []) :: (((41 : Int), (f 4).toInt, (0 : Int), (0 : Int), []) :: (((16 : Int), r552.toInt, m550.toInt, z215.toInt, []) :: (((1 : Int), (0 : Int), (0 : Int), (0 : Int), []) :: gs))))) = 0 + (0 + (0 + (0 + (0 + (mg_p1 gs))))) := rfl
                    have q2 : mg_p2 (((1 : Int), (0 : Int), (0 : Int), (0 : Int), []) :: (((40 : Int), z233.toInt, (0 : Int), (0 : Int), []) :: (((41 : Int), (f 4).toInt, (0 : Int), (0 : Int), []) :: (((16 : Int), r552.toInt, m550.toInt, z215.toInt, []) :: (((1 : Int), (0 : Int), (0 : Int), (0 : Int), []) :: gs))))) = 0 + (0 + (1 + (0 + (0 + (mg_p2 gs))))) := rfl
                    have q3 : mg_p3 (((1 : Int), (0 : Int), (0 : Int), (0 : Int), []) :: (((40 : Int), z233.toInt, (0 : Int), (0 : Int), []) :: (((41 : Int), (f 4).toInt, (0 : Int), (0 : Int), []) :: (((16 : Int), r552.toInt, m550.toInt, z215.toInt, []) :: (((1 : Int), (0 : Int), (0 : Int), (0 : Int), []) :: gs))))) = 1 + (1 + (1 + (1 + (1 + (mg_p3 gs))))) := rfl
                    have q4 : mg_p4 (((1 : Int), (0 : Int), (0 : Int), (0 : Int), []) :: (((40 : Int), z233.toInt, (0 : Int), (0 : Int), []) :: (((41 : Int), (f 4).toInt, (0 : Int), (0 : Int), []) :: (((16 : Int), r552.toInt, m550.toInt, z215.toInt, []) :: (((1 : Int), (0 : Int), (0 : Int), (0 : Int), []) :: gs))))) = 0 + (0 + (2 + (3 + (0 + (mg_p4 gs))))) := rfl
                    refine ⟨_, _, _, ([] :: bc), rfl, hS593, Or.inl ⟨⟨hR607_, ?_, ?_⟩, rfl, ?_⟩⟩
                    · exact (⟨⟨(show mg_k 1 from by decide), (show (0 : Int) ≤ (f 15).toInt from by omega), (show 0 ≤ (f 20).toInt from by omega), (show 1 ≤ bz589.toInt from by omega), (show 0 ≤ dd588.toInt from by omega), (show dd588.toInt ≤ y582.toInt from by omega), (show y582.toInt ≤ 48 from by omega), (show bz589.toInt ≤ 2 * (y582.toInt) + 1 from by omega), trivial⟩, ⟨⟨(show mg_k 40 from by decide), (show (0 : Int) ≤ (f 15).toInt + 0 from by omega), (show 0 ≤ (f 20).toInt from by omega), (show 1 ≤ bz589.toInt + 0 from by omega), (show 0 ≤ dd588.toInt + 0 from by omega), (show dd588.toInt + 0 ≤ y582.toInt + 0 from by omega), (show y582.toInt + 0 ≤ 48 from by omega), (show bz589.toInt + 0 ≤ 2 * (y582.toInt + 0) + 1 from by omega), trivial⟩, ⟨⟨(show mg_k 41 from by decide), (show (0 : Int) ≤ (f 15).toInt + 0 + 0 from by omega), (show 0 ≤ (f 20).toInt from by omega), (show 1 ≤ bz589.toInt + 0 + -1 from by omega), (show 0 ≤ dd588.toInt + 0 + -1 from by omega), (show dd588.toInt + 0 + -1 ≤ y582.toInt + 0 + -1 from by omega), (show y582.toInt + 0 + -1 ≤ 48 from by omega), (show bz589.toInt + 0 + -1 ≤ 2 * (y582.toInt + 0 + -1) + 2 from by omega), trivial⟩, ⟨⟨(show mg_k 16 from by decide), (show (1 : Int) ≤ (f 15).toInt + 0 + 0 + 1 from by omega), (show 0 ≤ (f 20).toInt from by omega), (show 1 ≤ bz589.toInt + 0 + -1 + 0 from by omega), (show 0 ≤ dd588.toInt + 0 + -1 + 0 from by omega), (show dd588.toInt + 0 + -1 + 0 ≤ y582.toInt + 0 + -1 + 0 from by omega), (show y582.toInt + 0 + -1 + 0 ≤ 48 from by omega), (show bz589.toInt + 0 + -1 + 0 ≤ 2 * (y582.toInt + 0 + -1 + 0) + 1 from by omega), trivial⟩, ⟨⟨(show mg_k 1 from by decide), (show (0 : Int) ≤ (f 15).toInt + 0 + 0 + 1 + -1 from by omega), (show 0 ≤ (f 20).toInt from by omega), (show 1 ≤ bz589.toInt + 0 + -1 + 0 + 0 from by omega), (show 0 ≤ dd588.toInt + 0 + -1 + 0 + 0 from by omega), (show dd588.toInt + 0 + -1 + 0 + 0 ≤ y582.toInt + 0 + -1 + 0 + 0 from by omega), (show y582.toInt + 0 + -1 + 0 + 0 ≤ 48 from by omega), (show bz589.toInt + 0 + -1 + 0 + 0 ≤ 2 * (y582.toInt + 0 + -1 + 0 + 0) + 1 from by omega), trivial⟩, mg_cast (mg_good_ext _ _ _ _ _ _ (fun i hi => by show g'591 34 i = g 34 i; rw [h604_, show g'573 34 = g'564 34 from h577_ 34 (by decide), show g'564 34 = g'551 34 from h568_ 34 (by decide), show g'551 34 = g'20 34 from h559_ 34 (by decide), show g'20 34 = g 34 from h24_ 34 (by decide)]; exact upd_ne (by rw [cl_toNat]; omega)) (fun i hi => by show g'591 38 i = g 38 i; rw [h605_, show g'573 38 = g'564 38 from h577_ 38 (by decide), show g'564 38 = g'551 38 from h568_ 38 (by decide), show g'551 38 = g'20 38 from h559_ 38 (by decide), show g'20 38 = g 38 from h24_ 38 (by decide)]; exact upd_ne (by rw [cl_toNat]; omega)) (fun i _ => by show g'591 23 i = g 23 i; rw [show g'591 23 = g'573 23 from h603_ 23 (by decide), show g'573 23 = g'564 23 from h577_ 23 (by decide), show g'564 23 = g'551 23 from h568_ 23 (by decide), show g'551 23 = g'20 23 from h559_ 23 (by decide), show g'20 23 = g 23 from h24_ 23 (by decide)]) hrest) (by show (f 15).toInt + 0 = (f 15).toInt + 0 + 0 + 1 + -1 + 0; omega) (by show (f 20).toInt = (f 20).toInt; omega) (by show (f 37).toInt + 0 = bz589.toInt + 0 + -1 + 0 + 0 + 0; omega) (by show (f 32).toInt + 0 = dd588.toInt + 0 + -1 + 0 + 0 + 0; omega) (by show (f 5).toInt + 0 = y582.toInt + 0 + -1 + 0 + 0 + 0; omega)⟩⟩⟩⟩⟩ : mg_good (g'591 34) (g'591 38) (g'591 23) (((1 : Int), (0 : Int), (0 : Int), (0 : Int), []) :: (((40 : Int), z233.toInt, (0 : Int), (0 : Int), []) :: (((41 : Int), (f 4).toInt, (0 : Int), (0 : Int), []) :: (((16 : Int), r552.toInt, m550.toInt, z215.toInt, []) :: (((1 : Int), (0 : Int), (0 : Int), (0 : Int), []) :: gs))))) ((f 15).toInt) ((f 20).toInt) (bz589.toInt) (dd588.toInt) (y582.toInt))
                    · exact ⟨(by show 0 ≤ z581.toInt; omega), (by show z581.toInt ≤ (f 0).toInt; omega), (by show (f 0).toInt ≤ 512; omega), (by show 0 ≤ l586.toInt; omega), (by show l586.toInt + (f 20).toInt + mg_p1 (((1 : Int), (0 : Int), (0 : Int), (0 : Int), []) :: (((40 : Int), z233.toInt, (0 : Int), (0 : Int), []) :: (((41 : Int), (f 4).toInt, (0 : Int), (0 : Int), []) :: (((16 : Int), r552.toInt, m550.toInt, z215.toInt, []) :: (((1 : Int), (0 : Int), (0 : Int), (0 : Int), []) :: gs))))) ≤ 4 * z581.toInt; omega), (by show (f 20).toInt ≤ z581.toInt; omega), (by show (f 15).toInt + mg_p2 (((1 : Int), (0 : Int), (0 : Int), (0 : Int), []) :: (((40 : Int), z233.toInt, (0 : Int), (0 : Int), []) :: (((41 : Int), (f 4).toInt, (0 : Int), (0 : Int), []) :: (((16 : Int), r552.toInt, m550.toInt, z215.toInt, []) :: (((1 : Int), (0 : Int), (0 : Int), (0 : Int), []) :: gs))))) ≤ z581.toInt; omega), (by show mg_p3 (((1 : Int), (0 : Int), (0 : Int), (0 : Int), []) :: (((40 : Int), z233.toInt, (0 : Int), (0 : Int), []) :: (((41 : Int), (f 4).toInt, (0 : Int), (0 : Int), []) :: (((16 : Int), r552.toInt, m550.toInt, z215.toInt, []) :: (((1 : Int), (0 : Int), (0 : Int), (0 : Int), []) :: gs))))) ≤ 20 * z581.toInt + 20; omega), (by show 0 ≤ (f 68).toInt; omega), (by show (f 68).toInt + 3 * (f 20).toInt + mg_p4 (((1 : Int), (0 : Int), (0 : Int), (0 : Int), []) :: (((40 : Int), z233.toInt, (0 : Int), (0 : Int), []) :: (((41 : Int), (f 4).toInt, (0 : Int), (0 : Int), []) :: (((16 : Int), r552.toInt, m550.toInt, z215.toInt, []) :: (((1 : Int), (0 : Int), (0 : Int), (0 : Int), []) :: gs))))) ≤ 60 * z581.toInt + 60; omega), (by show 0 ≤ o549.toInt; omega), (by show o549.toInt + 64 * mj_n (g'591 16) (f 15).toNatClampNeg 3 ≤ 64 * z581.toInt; rw [show g'591 16 = g'573 16 from h603_ 16 (by decide), show g'573 16 = g'564 16 from h577_ 16 (by decide), show g'564 16 = g'551 16 from h568_ 16 (by decide), show g'551 16 = g'20 16 from h559_ 16 (by decide), show g'20 16 = g 16 from h24_ 16 (by decide)]; omega), (by show 0 ≤ (f 44).toInt; omega), (by show (f 44).toInt ≤ z581.toInt; omega), (by show 0 ≤ (f 48).toInt; omega), (by show (f 48).toInt ≤ z581.toInt; omega), (by show 1 ≤ mm590.toInt; omega), (by show mm590.toInt ≤ z581.toInt + 1; omega), (by show 0 ≤ (f 19).toInt; omega), (by show (f 19).toInt ≤ 600; omega), (by show 0 ≤ (f 6).toInt; omega), (by show 0 ≤ a583.toInt; omega)⟩
                    · show 100 * ((f 0).toInt - z581.toInt) + mg_p3 (((1 : Int), (0 : Int), (0 : Int), (0 : Int), []) :: (((40 : Int), z233.toInt, (0 : Int), (0 : Int), []) :: (((41 : Int), (f 4).toInt, (0 : Int), (0 : Int), []) :: (((16 : Int), r552.toInt, m550.toInt, z215.toInt, []) :: (((1 : Int), (0 : Int), (0 : Int), (0 : Int), []) :: gs))))) < 100 * ((f 0).toInt - (f 4).toInt) + (1 + mg_p3 gs); omega
                  · subst hv610
                    have h612_ : (0 : Int) ≤ a608.toInt := h612
                    replace hS611 : MS S0 S580 (upd (upd (upd (upd (upd (upd (upd f 4 z233) 5 y216) 6 a608) 7 b609) 10 0) 62 o549) 75 m550) g'573 := hS611
                    have hR613_ : RJ (upd (upd (upd (upd (upd (upd (upd f 4 z233) 5 y216) 6 a608) 7 b609) 10 0) 62 o549) 75 m550) g'573 [] bc [] 0 [] := hR613
                    show am_E _ _ _ _ [some (.ref 39), some (.int (f 4)), some (.int z215), some (.int r552), none, none] [] _ _
                    refine am_e35 hi_236_65 ?_
                    show am_E _ _ _ _ [some (.ref 39), some (.int r2), some (.int (f 4))] [] _ _
                    refine am_e18 hi_228_376 ?_
                    refine am_e35 hi_228_422 ?_
                    show am_E _ _ _ _ [some (.ref 39), some (.int r2)] [] _ _
                    refine am_e35 hi_225_33 ?_
                    show am_E _ _ _ _ [some (.ref 39), some (.int 1), some (.int on), some (.int tw), some (.int th)] [] _ _
                    refine am_e18 hi_180_116 ?_
                    refine am_e35 hi_180_371 ?_
                    have hRc := rj_clear0 hR613_
                    refine ⟨_, _, [], _, rfl, hS611, Or.inr ⟨hRc, rfl, (by show 0 ≤ z233.toInt; omega), (by show z233.toInt ≤ (f 0).toInt; omega), (by show 0 ≤ (f 32).toInt; omega), (by show (f 32).toInt ≤ 63; omega), (by show 1 ≤ (f 53).toInt; omega), (by show (f 53).toInt ≤ 600; omega), (by show 0 ≤ (f 68).toInt; omega), (by show (f 68).toInt ≤ 60000; omega), (by show 0 ≤ (f 48).toInt; omega), (by show (f 48).toInt ≤ 8000; omega), (by show 0 ≤ (f 37).toInt; omega), (by show (f 37).toInt ≤ 128; omega), (by show 0 ≤ o549.toInt; omega), (by show o549.toInt ≤ 65000; omega), (by show 0 ≤ (f 19).toInt; omega), (by show (f 19).toInt ≤ 600; omega), (by show 0 ≤ a608.toInt; omega), (by show 0 ≤ (f 8).toInt; omega)⟩⟩
                  · subst hv626
                    have h628_ : z233.toInt ≤ z614.toInt := h628
                    have h629_ : z614.toInt ≤ (f 0).toInt := h629
                    have h630_ : dd622.toInt = (f 32).toInt + 1 := h630
                    have h631_ : bz623.toInt = (f 37).toInt + 1 := h631
                    have h632_ : mm624.toInt = (f 53).toInt + 1 := h632
                    have h633_ : ∀ j, j ∉ [11, 12, 13, 14, 25, 26, 27, 28, 29, 30, 33, 34, 35, 36, 38, 39, 40, 41, 42, 43, 54, 55, 56, 58, 59, 60, 67] → g'625 j = g'573 j := h633
                    have h634_ : (0 : Int) ≤ u616.toInt := h634
                    have h635_ : (0 : Int) ≤ a618.toInt := h635
                    replace hS627 : MS S0 S580 (upd (upd (upd (upd (upd (upd (upd (upd (upd (upd (upd (upd (upd (upd f 4 z614) 5 y615) 6 u616) 7 v_617) 8 a618) 9 b619) 10 0) 24 l620) 31 i_621) 32 dd622) 37 bz623) 53 mm624) 62 o549) 75 m550) g'625 := hS627
                    have hR636_ : RJ (upd (upd (upd (upd (upd (upd (upd (upd (upd (upd (upd (upd (upd (upd f 4 z614) 5 y615) 6 u616) 7 v_617) 8 a618) 9 b619) 10 0) 24 l620) 31 i_621) 32 dd622) 37 bz623) 53 mm624) 62 o549) 75 m550) g'625 [] ([] :: bc) [] 0 [] := hR636
                    show am_E _ _ _ _ [some (.ref 39), some (.int (f 4)), some (.int z215), some (.int r552), none, none] [] _ _
                    refine am_e35 hi_236_65 ?_
                    show am_E _ _ _ _ [some (.ref 39), some (.int r2), some (.int (f 4))] [] _ _
                    refine am_e18 hi_228_376 ?_
                    refine am_e35 hi_228_422 ?_
                    show am_E _ _ _ _ [some (.ref 39), some (.int r2)] [] _ _
                    refine am_e35 hi_225_33 ?_
                    show am_E _ _ _ _ [some (.ref 39), some (.int 1), some (.int on), some (.int tw), some (.int th)] [] _ _
                    refine am_e18 hi_180_116 ?_
                    refine am_e35 hi_180_371 ?_
                    have hRc := rj_clear0 hR636_
                    refine ⟨_, _, [], _, rfl, hS627, Or.inr ⟨hRc, rfl, (by show 0 ≤ z614.toInt; omega), (by show z614.toInt ≤ (f 0).toInt; omega), (by show 0 ≤ dd622.toInt; omega), (by show dd622.toInt ≤ 63; omega), (by show 1 ≤ mm624.toInt; omega), (by show mm624.toInt ≤ 600; omega), (by show 0 ≤ (f 68).toInt; omega), (by show (f 68).toInt ≤ 60000; omega), (by show 0 ≤ (f 48).toInt; omega), (by show (f 48).toInt ≤ 8000; omega), (by show 0 ≤ bz623.toInt; omega), (by show bz623.toInt ≤ 128; omega), (by show 0 ≤ o549.toInt; omega), (by show o549.toInt ≤ 65000; omega), (by show 0 ≤ (f 19).toInt; omega), (by show (f 19).toInt ≤ 600; omega), (by show 0 ≤ u616.toInt; omega), (by show 0 ≤ a618.toInt; omega)⟩⟩
                · refine am_e12f hi_237_12 (am_cF (m := r540.toInt) (n := (0 : Int)) rfl (by decide) c546) ?_
                  refine am_e2 (v := 39) hi_237_15 rfl ?_
                  refine mm_20 (v := .ref 56) hS542 hi_237_16 rfl ?_
                  refine am_e1 (v := r540) hi_237_19 rfl ?_
                  refine mm_25 hS542 ma_29 hi_237_20 (by decide) (by omega) (by omega) ?_
                  show am_E _ _ _ _ _ (.int (g'20 29 r540.toNatClampNeg) :: _) _ _
                  rw [show g'20 29 = g 29 from h24_ 29 (by decide)]
                  show am_E _ _ _ _ [some (.ref 39), some (.int z215), some (.int r540)] [.int (g 29 r540.toNatClampNeg)] _ _
                  by_cases c637 : (g 29 r540.toNatClampNeg).toInt = (0 : Int)
                  · refine am_e12t hi_237_21 (am_cT (m := (g 29 r540.toNatClampNeg).toInt) (n := (0 : Int)) rfl (by decide) c637) ?_
                    refine am_e2 (v := 39) hi_237_31 rfl ?_
                    refine am_e1 (v := z215) hi_237_32 rfl ?_
                    refine am_e32n (as := [.ref 39, .int z215]) (la := [some (.ref 39), some (.int z215), none, none, none]) (rest := []) hi_237_33 (am_hd0 (M := 237) (by decide) 33) (Nat.le_of_ble_eq_true rfl) (Nat.le_of_ble_eq_true rfl) (show 2 ≤ am_P0.2.2.1 205 from by decide +kernel) rfl (am_recv_ok hS542.fs) rfl rfl (ct_resolve (d := (d + 2)) hS542 hR245  (by show (0 : Int) ≤ (f 32).toInt; omega) (by show (f 32).toInt ≤ (63 : Int); omega) (by show (f 53).toInt ≤ (4096 : Int); omega) (by show (0 : Int) ≤ (f 24).toInt; omega) (by show (f 24).toInt ≤ (16384 : Int); omega) (by show (0 : Int) ≤ (f 62).toInt; omega) (by show (f 62).toInt ≤ (65000 : Int); omega) (by show (0 : Int) ≤ z215.toInt; omega) (by show z215.toInt ≤ (16383 : Int); omega)) ?_
                    rintro v638 S639 (⟨o640, m641, g'642, r643, hv644, hS645, hR651, h646, h647, h648, h649, h650⟩)
                    subst hv644
                    have h646_ : (f 62).toInt ≤ o640.toInt := h646
                    have h647_ : o640.toInt ≤ (f 62).toInt + 64 := h647
                    have h648_ : (0 : Int) ≤ r643.toInt := h648
                    have h649_ : r643.toInt ≤ (2 : Int) := h649
                    have h650_ : ∀ j, j ∉ [63, 64, 65, 66, 67] → g'642 j = g'20 j := h650
                    have hR651_ : RJ (upd (upd (upd (upd (upd f 4 z233) 5 y216) 10 z19) 62 o640) 75 m641) g'642 (((1 : Int), (0 : Int), (0 : Int), (0 : Int), []) :: gs) bc [] 0 [] := hR651
                    show am_E _ _ _ _ [some (.ref 39), some (.int z215), some (.int r540)] [.int r643] _ _
                    refine am_e33 hi_237_36 ?_
                    show am_E _ _ _ _ [some (.ref 39), some (.int (f 4)), some (.int z215), none, none, none] [.int r643] _ _
                    refine am_e3 (ls' := [some (.ref 39), some (.int (f 4)), some (.int z215), some (.int r643), none, none]) hi_236_37 (Nat.le_of_ble_eq_true rfl) rfl ?_
                    refine am_e2 (v := 39) hi_236_38 rfl ?_
                    refine am_e0 hi_236_39 ?_
                    refine am_e1 (v := r643) hi_236_41 rfl ?_
                    refine am_e2 (v := 39) hi_236_42 rfl ?_
                    refine mm_20 (v := .int m641) hS645 hi_236_43 rfl ?_
                    refine am_e1 (v := z215) hi_236_46 rfl ?_
                    refine am_e32n (as := [.ref 39, .int 16, .int r643, .int m641, .int z215]) (la := [some (.ref 39), some (.int 16), some (.int r643), some (.int m641), some (.int z215)]) (rest := []) hi_236_47 (am_hd0 (M := 236) (by decide) 47) (Nat.le_of_ble_eq_true rfl) (Nat.le_of_ble_eq_true rfl) (show 5 ≤ am_P0.2.2.1 179 from by decide +kernel) rfl (am_recv_ok hS645.fs) rfl rfl (ct_pile (d := (d + 4)) hS645 hR651_ (mj_e_plain (by decide)) (by show (0 : Int) ≤ z19.toInt; omega) (by show z19.toInt ≤ (65535 : Int); omega)) ?_
                    rintro v652 S653 (⟨z654, g'655, hv656, hS657, hR660, h658, h659⟩)
                    subst hv656
                    have h658_ : z654.toInt = z19.toInt + 1 := h658
                    have h659_ : ∀ j, j ∉ [11, 12, 13, 14] → g'655 j = g'642 j := h659
                    replace hS657 : MS S0 S653 (upd (upd (upd (upd (upd f 4 z233) 5 y216) 10 z654) 62 o640) 75 m641) g'655 := hS657
                    have hR660_ : RJ (upd (upd (upd (upd (upd f 4 z233) 5 y216) 10 z654) 62 o640) 75 m641) g'655 (((16 : Int), r643.toInt, m641.toInt, z215.toInt, []) :: (((1 : Int), (0 : Int), (0 : Int), (0 : Int), []) :: gs)) bc [] 0 [] := hR660
                    show am_E _ _ _ _ [some (.ref 39), some (.int (f 4)), some (.int z215), some (.int r643), none, none] [] _ _
                    refine am_e2 (v := 39) hi_236_50 rfl ?_
                    refine am_e0 hi_236_51 ?_
                    refine am_e1 (v := f 4) hi_236_53 rfl ?_
                    refine am_e0 hi_236_54 ?_
                    refine am_e0 hi_236_55 ?_
                    refine am_e32n (as := [.ref 39, .int 41, .int (f 4), .int 0, .int 0]) (la := [some (.ref 39), some (.int 41), some (.int (f 4)), some (.int 0), some (.int 0)]) (rest := []) hi_236_56 (am_hd0 (M := 236) (by decide) 56) (Nat.le_of_ble_eq_true rfl) (Nat.le_of_ble_eq_true rfl) (show 5 ≤ am_P0.2.2.1 179 from by decide +kernel) rfl (am_recv_ok hS657.fs) rfl rfl (ct_pile (d := (d + 4)) hS657 hR660_ (mj_e_plain (by decide)) (by show (0 : Int) ≤ z654.toInt; omega) (by show z654.toInt ≤ (65535 : Int); omega)) ?_
                    rintro v661 S662 (⟨z663, g'664, hv665, hS666, hR669, h667, h668⟩)
                    subst hv665
                    have h667_ : z663.toInt = z654.toInt + 1 := h667
                    have h668_ : ∀ j, j ∉ [11, 12, 13, 14] → g'664 j = g'655 j := h668
                    replace hS666 : MS S0 S662 (upd (upd (upd (upd (upd f 4 z233) 5 y216) 10 z663) 62 o640) 75 m641) g'664 := hS666
                    have hR669_ : RJ (upd (upd (upd (upd (upd f 4 z233) 5 y216) 10 z663) 62 o640) 75 m641) g'664 (((41 : Int), (f 4).toInt, (0 : Int), (0 : Int), []) :: (((16 : Int), r643.toInt, m641.toInt, z215.toInt, []) :: (((1 : Int), (0 : Int), (0 : Int), (0 : Int), []) :: gs))) bc [] 0 [] := hR669
                    show am_E _ _ _ _ [some (.ref 39), some (.int (f 4)), some (.int z215), some (.int r643), none, none] [] _ _
                    refine am_e2 (v := 39) hi_236_59 rfl ?_
                    refine am_e0 hi_236_60 ?_
                    refine am_e1 (v := f 4) hi_236_61 rfl ?_
                    refine am_e32n (as := [.ref 39, .int 0, .int (f 4)]) (la := [some (.ref 39), some (.int 0), some (.int (f 4)), none, none]) (rest := []) hi_236_62 (am_hd0 (M := 236) (by decide) 62) (Nat.le_of_ble_eq_true rfl) (Nat.le_of_ble_eq_true rfl) (show 3 ≤ am_P0.2.2.1 195 from by decide +kernel) rfl (am_recv_ok hS666.fs) rfl rfl (ct_body (d := d) hS666 hR669_ (by decide)  (by show (0 : Int) ≤ (f 32).toInt; omega) (by show (f 32).toInt ≤ (62 : Int); omega) (by show (1 : Int) ≤ (f 53).toInt; omega) (by show (f 53).toInt ≤ (4095 : Int); omega) (by show (0 : Int) ≤ z233.toInt; omega) (by show (f 0).toInt ≤ (16384 : Int); omega) (by show (0 : Int) ≤ y216.toInt; omega) (by show y216.toInt ≤ (48 : Int); omega) (by show z233.toInt ≤ (f 0).toInt; omega) (by show (f 0).toInt ≤ (512 : Int); omega) (by show (0 : Int) ≤ (f 24).toInt; omega) (by show (f 24).toInt ≤ (4000 : Int); omega) (by show (0 : Int) ≤ (f 44).toInt; omega) (by show (f 44).toInt ≤ z233.toInt; omega) (by show (0 : Int) ≤ (f 48).toInt; omega) (by show (f 48).toInt ≤ z233.toInt; omega) (by show (0 : Int) ≤ (f 37).toInt; omega) (by show (f 37).toInt ≤ (126 : Int); omega) (by show (0 : Int) ≤ z663.toInt; omega) (by show z663.toInt ≤ (65533 : Int); omega) (by show (0 : Int) ≤ (f 68).toInt; omega) (by show (0 : Int) ≤ (f 6).toInt; omega) (by show (0 : Int) ≤ (f 8).toInt; omega)) ?_
                    rintro v670 S671 (⟨z672, y673, a674, b675, t676, l677, i_678, dd679, bz680, mm681, g'682, hv683, hS684, hR698, h685, h686, h687, h688, h689, h690, h691, h692, h693, h694, h695, h696, h697⟩ | ⟨a699, b700, hv701, hS702, hR704, h703⟩ | ⟨z705, y706, u707, v_708, a709, b710, l711, i_712, dd713, bz714, mm715, g'716, hv717, hS718, hR727, h719, h720, h721, h722, h723, h724, h725, h726⟩)
                    · subst hv683
                      have h685_ : z233.toInt + 2 ≤ z672.toInt := h685
                      have h686_ : z672.toInt ≤ (f 0).toInt := h686
                      have h687_ : y673.toInt = y216.toInt := h687
                      have h688_ : (f 24).toInt ≤ l677.toInt := h688
                      have h689_ : l677.toInt + z233.toInt ≤ (f 24).toInt + z672.toInt := h689
                      have h690_ : t676.toInt = z663.toInt + 2 := h690
                      have h691_ : dd679.toInt = (f 32).toInt + 1 := h691
                      have h692_ : bz680.toInt = (f 37).toInt + 1 := h692
                      have h693_ : mm681.toInt = (f 53).toInt + 1 := h693
                      have h694_ : ∀ j, j ∉ [11, 12, 13, 14, 25, 26, 27, 28, 29, 30, 33, 34, 35, 36, 38, 39, 40, 41, 42, 43, 54, 55, 56, 58, 59, 60, 67] → g'682 j = g'664 j := h694
                      have h695_ : g'682 34 = upd (g'664 34) dd679.toNatClampNeg (f 24) := h695
                      have h696_ : g'682 38 = upd (g'664 38) (f 37).toNatClampNeg (f 24) := h696
                      have h697_ : (0 : Int) ≤ a674.toInt := h697
                      replace hS684 : MS S0 S671 (upd (upd (upd (upd (upd (upd (upd (upd (upd (upd (upd (upd f 4 z672) 5 y673) 8 a674) 9 b675) 10 t676) 24 l677) 31 i_678) 32 dd679) 37 bz680) 53 mm681) 62 o640) 75 m641) g'682 := hS684
                      have hR698_ : RJ (upd (upd (upd (upd (upd (upd (upd (upd (upd (upd (upd (upd f 4 z672) 5 y673) 8 a674) 9 b675) 10 t676) 24 l677) 31 i_678) 32 dd679) 37 bz680) 53 mm681) 62 o640) 75 m641) g'682 (((1 : Int), (0 : Int), (0 : Int), (0 : Int), []) :: (((40 : Int), z233.toInt, (0 : Int), (0 : Int), []) :: (((41 : Int), (f 4).toInt, (0 : Int), (0 : Int), []) :: (((16 : Int), r643.toInt, m641.toInt, z215.toInt, []) :: (((1 : Int), (0 : Int), (0 : Int), (0 : Int), []) :: gs))))) ([] :: bc) [] 0 [] := hR698
                      show am_E _ _ _ _ [some (.ref 39), some (.int (f 4)), some (.int z215), some (.int r643), none, none] [] _ _
                      refine am_e35 hi_236_65 ?_
                      show am_E _ _ _ _ [some (.ref 39), some (.int r2), some (.int (f 4))] [] _ _
                      refine am_e18 hi_228_376 ?_
                      refine am_e35 hi_228_422 ?_
                      show am_E _ _ _ _ [some (.ref 39), some (.int r2)] [] _ _
                      refine am_e35 hi_225_33 ?_
                      show am_E _ _ _ _ [some (.ref 39), some (.int 1), some (.int on), some (.int tw), some (.int th)] [] _ _
                      refine am_e18 hi_180_116 ?_
                      refine am_e35 hi_180_371 ?_
                      have q1 : mg_p1 (((1 : Int), (0 : Int), (0 : Int), (0 : Int), []) :: (((40 : Int), z233.toInt, (0 : Int), (0 : Int), []) :: (((41 : Int), (f 4).toInt, (0 : Int), (0 : Int), []) :: (((16 : Int), r643.toInt, m641.toInt, z215.toInt, []) :: (((1 : Int), (0 : Int), (0 : Int), (0 : Int), []) :: gs))))) = 0 + (0 + (0 + (0 + (0 + (mg_p1 gs))))) := rfl
                      have q2 : mg_p2 (((1 : Int), (0 : Int), (0 : Int), (0 : Int), []) :: (((40 : Int), z233.toInt, (0 : Int), (0 : Int), []) :: (((41 : Int), (f 4).toInt, (0 : Int), (0 : Int), []) :: (((16 : Int), r643.toInt, m641.toInt, z215.toInt, []) :: (((1 : Int), (0 : Int), (0 : Int), (0 : Int), []) :: gs))))) = 0 + (0 + (1 + (0 + (0 + (mg_p2 gs))))) := rfl
                      have q3 : mg_p3 (((1 : Int), (0 : Int), (0 : Int), (0 : Int), []) :: (((40 : Int), z233.toInt, (0 : Int), (0 : Int), []) :: (((41 : Int), (f 4).toInt, (0 : Int), (0 : Int), []) :: (((16 : Int), r643.toInt, m641.toInt, z215.toInt, []) :: (((1 : Int), (0 : Int), (0 : Int), (0 : Int), []) :: gs))))) = 1 + (1 + (1 + (1 + (1 + (mg_p3 gs))))) := rfl
                      have q4 : mg_p4 (((1 : Int), (0 : Int), (0 : Int), (0 : Int), []) :: (((40 : Int), z233.toInt, (0 : Int), (0 : Int), []) :: (((41 : Int), (f 4).toInt, (0 : Int), (0 : Int), []) :: (((16 : Int), r643.toInt, m641.toInt, z215.toInt, []) :: (((1 : Int), (0 : Int), (0 : Int), (0 : Int), []) :: gs))))) = 0 + (0 + (2 + (3 + (0 + (mg_p4 gs))))) := rfl
                      refine ⟨_, _, _, ([] :: bc), rfl, hS684, Or.inl ⟨⟨hR698_, ?_, ?_⟩, rfl, ?_⟩⟩
                      · exact (⟨⟨(show mg_k 1 from by decide), (show (0 : Int) ≤ (f 15).toInt from by omega), (show 0 ≤ (f 20).toInt from by omega), (show 1 ≤ bz680.toInt from by omega), (show 0 ≤ dd679.toInt from by omega), (show dd679.toInt ≤ y673.toInt from by omega), (show y673.toInt ≤ 48 from by omega), (show bz680.toInt ≤ 2 * (y673.toInt) + 1 from by omega), trivial⟩, ⟨⟨(show mg_k 40 from by decide), (show (0 : Int) ≤ (f 15).toInt + 0 from by omega), (show 0 ≤ (f 20).toInt from by omega), (show 1 ≤ bz680.toInt + 0 from by omega), (show 0 ≤ dd679.toInt + 0 from by omega), (show dd679.toInt + 0 ≤ y673.toInt + 0 from by omega), (show y673.toInt + 0 ≤ 48 from by omega), (show bz680.toInt + 0 ≤ 2 * (y673.toInt + 0) + 1 from by omega), trivial⟩, ⟨⟨(show mg_k 41 from by decide), (show (0 : Int) ≤ (f 15).toInt + 0 + 0 from by omega), (show 0 ≤ (f 20).toInt from by omega), (show 1 ≤ bz680.toInt + 0 + -1 from by omega), (show 0 ≤ dd679.toInt + 0 + -1 from by omega), (show dd679.toInt + 0 + -1 ≤ y673.toInt + 0 + -1 from by omega), (show y673.toInt + 0 + -1 ≤ 48 from by omega), (show bz680.toInt + 0 + -1 ≤ 2 * (y673.toInt + 0 + -1) + 2 from by omega), trivial⟩, ⟨⟨(show mg_k 16 from by decide), (show (1 : Int) ≤ (f 15).toInt + 0 + 0 + 1 from by omega), (show 0 ≤ (f 20).toInt from by omega), (show 1 ≤ bz680.toInt + 0 + -1 + 0 from by omega), (show 0 ≤ dd679.toInt + 0 + -1 + 0 from by omega), (show dd679.toInt + 0 + -1 + 0 ≤ y673.toInt + 0 + -1 + 0 from by omega), (show y673.toInt + 0 + -1 + 0 ≤ 48 from by omega), (show bz680.toInt + 0 + -1 + 0 ≤ 2 * (y673.toInt + 0 + -1 + 0) + 1 from by omega), trivial⟩, ⟨⟨(show mg_k 1 from by decide), (show (0 : Int) ≤ (f 15).toInt + 0 + 0 + 1 + -1 from by omega), (show 0 ≤ (f 20).toInt from by omega), (show 1 ≤ bz680.toInt + 0 + -1 + 0 + 0 from by omega), (show 0 ≤ dd679.toInt + 0 + -1 + 0 + 0 from by omega), (show dd679.toInt + 0 + -1 + 0 + 0 ≤ y673.toInt + 0 + -1 + 0 + 0 from by omega), (show y673.toInt + 0 + -1 + 0 + 0 ≤ 48 from by omega), (show bz680.toInt + 0 + -1 + 0 + 0 ≤ 2 * (y673.toInt + 0 + -1 + 0 + 0) + 1 from by omega), trivial⟩, mg_cast (mg_good_ext _ _ _ _ _ _ (fun i hi => by show g'682 34 i = g 34 i; rw [h695_, show g'664 34 = g'655 34 from h668_ 34 (by decide), show g'655 34 = g'642 34 from h659_ 34 (by decide), show g'642 34 = g'20 34 from h650_ 34 (by decide), show g'20 34 = g 34 from h24_ 34 (by decide)]; exact upd_ne (by rw [cl_toNat]; omega)) (fun i hi => by show g'682 38 i = g 38 i; rw [h696_, show g'664 38 = g'655 38 from h668_ 38 (by decide), show g'655 38 = g'642 38 from h659_ 38 (by decide), show g'642 38 = g'20 38 from h650_ 38 (by decide), show g'20 38 = g 38 from h24_ 38 (by decide)]; exact upd_ne (by rw [cl_toNat]; omega)) (fun i _ => by show g'682 23 i = g 23 i; rw [show g'682 23 = g'664 23 from h694_ 23 (by decide), show g'664 23 = g'655 23 from h668_ 23 (by decide), show g'655 23 = g'642 23 from h659_ 23 (by decide), show g'642 23 = g'20 23 from h650_ 23 (by decide), show g'20 23 = g 23 from h24_ 23 (by decide)]) hrest) (by show (f 15).toInt + 0 = (f 15).toInt + 0 + 0 + 1 + -1 + 0; omega) (by show (f 20).toInt = (f 20).toInt; omega) (by show (f 37).toInt + 0 = bz680.toInt + 0 + -1 + 0 + 0 + 0; omega) (by show (f 32).toInt + 0 = dd679.toInt + 0 + -1 + 0 + 0 + 0; omega) (by show (f 5).toInt + 0 = y673.toInt + 0 + -1 + 0 + 0 + 0; omega)⟩⟩⟩⟩⟩ : mg_good (g'682 34) (g'682 38) (g'682 23) (((1 : Int), (0 : Int), (0 : Int), (0 : Int), []) :: (((40 : Int), z233.toInt, (0 : Int), (0 : Int), []) :: (((41 : Int), (f 4).toInt, (0 : Int), (0 : Int), []) :: (((16 : Int), r643.toInt, m641.toInt, z215.toInt, []) :: (((1 : Int), (0 : Int), (0 : Int), (0 : Int), []) :: gs))))) ((f 15).toInt) ((f 20).toInt) (bz680.toInt) (dd679.toInt) (y673.toInt))
                      · exact ⟨(by show 0 ≤ z672.toInt; omega), (by show z672.toInt ≤ (f 0).toInt; omega), (by show (f 0).toInt ≤ 512; omega), (by show 0 ≤ l677.toInt; omega), (by show l677.toInt + (f 20).toInt + mg_p1 (((1 : Int), (0 : Int), (0 : Int), (0 : Int), []) :: (((40 : Int), z233.toInt, (0 : Int), (0 : Int), []) :: (((41 : Int), (f 4).toInt, (0 : Int), (0 : Int), []) :: (((16 : Int), r643.toInt, m641.toInt, z215.toInt, []) :: (((1 : Int), (0 : Int), (0 : Int), (0 : Int), []) :: gs))))) ≤ 4 * z672.toInt; omega), (by show (f 20).toInt ≤ z672.toInt; omega), (by show (f 15).toInt + mg_p2 (((1 : Int), (0 : Int), (0 : Int), (0 : Int), []) :: (((40 : Int), z233.toInt, (0 : Int), (0 : Int), []) :: (((41 : Int), (f 4).toInt, (0 : Int), (0 : Int), []) :: (((16 : Int), r643.toInt, m641.toInt, z215.toInt, []) :: (((1 : Int), (0 : Int), (0 : Int), (0 : Int), []) :: gs))))) ≤ z672.toInt; omega), (by show mg_p3 (((1 : Int), (0 : Int), (0 : Int), (0 : Int), []) :: (((40 : Int), z233.toInt, (0 : Int), (0 : Int), []) :: (((41 : Int), (f 4).toInt, (0 : Int), (0 : Int), []) :: (((16 : Int), r643.toInt, m641.toInt, z215.toInt, []) :: (((1 : Int), (0 : Int), (0 : Int), (0 : Int), []) :: gs))))) ≤ 20 * z672.toInt + 20; omega), (by show 0 ≤ (f 68).toInt; omega), (by show (f 68).toInt + 3 * (f 20).toInt + mg_p4 (((1 : Int), (0 : Int), (0 : Int), (0 : Int), []) :: (((40 : Int), z233.toInt, (0 : Int), (0 : Int), []) :: (((41 : Int), (f 4).toInt, (0 : Int), (0 : Int), []) :: (((16 : Int), r643.toInt, m641.toInt, z215.toInt, []) :: (((1 : Int), (0 : Int), (0 : Int), (0 : Int), []) :: gs))))) ≤ 60 * z672.toInt + 60; omega), (by show 0 ≤ o640.toInt; omega), (by show o640.toInt + 64 * mj_n (g'682 16) (f 15).toNatClampNeg 3 ≤ 64 * z672.toInt; rw [show g'682 16 = g'664 16 from h694_ 16 (by decide), show g'664 16 = g'655 16 from h668_ 16 (by decide), show g'655 16 = g'642 16 from h659_ 16 (by decide), show g'642 16 = g'20 16 from h650_ 16 (by decide), show g'20 16 = g 16 from h24_ 16 (by decide)]; omega), (by show 0 ≤ (f 44).toInt; omega), (by show (f 44).toInt ≤ z672.toInt; omega), (by show 0 ≤ (f 48).toInt; omega), (by show (f 48).toInt ≤ z672.toInt; omega), (by show 1 ≤ mm681.toInt; omega), (by show mm681.toInt ≤ z672.toInt + 1; omega), (by show 0 ≤ (f 19).toInt; omega), (by show (f 19).toInt ≤ 600; omega), (by show 0 ≤ (f 6).toInt; omega), (by show 0 ≤ a674.toInt; omega)⟩
                      · show 100 * ((f 0).toInt - z672.toInt) + mg_p3 (((1 : Int), (0 : Int), (0 : Int), (0 : Int), []) :: (((40 : Int), z233.toInt, (0 : Int), (0 : Int), []) :: (((41 : Int), (f 4).toInt, (0 : Int), (0 : Int), []) :: (((16 : Int), r643.toInt, m641.toInt, z215.toInt, []) :: (((1 : Int), (0 : Int), (0 : Int), (0 : Int), []) :: gs))))) < 100 * ((f 0).toInt - (f 4).toInt) + (1 + mg_p3 gs); omega
                    · subst hv701
                      have h703_ : (0 : Int) ≤ a699.toInt := h703
                      replace hS702 : MS S0 S671 (upd (upd (upd (upd (upd (upd (upd f 4 z233) 5 y216) 6 a699) 7 b700) 10 0) 62 o640) 75 m641) g'664 := hS702
                      have hR704_ : RJ (upd (upd (upd (upd (upd (upd (upd f 4 z233) 5 y216) 6 a699) 7 b700) 10 0) 62 o640) 75 m641) g'664 [] bc [] 0 [] := hR704
                      show am_E _ _ _ _ [some (.ref 39), some (.int (f 4)), some (.int z215), some (.int r643), none, none] [] _ _
                      refine am_e35 hi_236_65 ?_
                      show am_E _ _ _ _ [some (.ref 39), some (.int r2), some (.int (f 4))] [] _ _
                      refine am_e18 hi_228_376 ?_
                      refine am_e35 hi_228_422 ?_
                      show am_E _ _ _ _ [some (.ref 39), some (.int r2)] [] _ _
                      refine am_e35 hi_225_33 ?_
                      show am_E _ _ _ _ [some (.ref 39), some (.int 1), some (.int on), some (.int tw), some (.int th)] [] _ _
                      refine am_e18 hi_180_116 ?_
                      refine am_e35 hi_180_371 ?_
                      have hRc := rj_clear0 hR704_
                      refine ⟨_, _, [], _, rfl, hS702, Or.inr ⟨hRc, rfl, (by show 0 ≤ z233.toInt; omega), (by show z233.toInt ≤ (f 0).toInt; omega), (by show 0 ≤ (f 32).toInt; omega), (by show (f 32).toInt ≤ 63; omega), (by show 1 ≤ (f 53).toInt; omega), (by show (f 53).toInt ≤ 600; omega), (by show 0 ≤ (f 68).toInt; omega), (by show (f 68).toInt ≤ 60000; omega), (by show 0 ≤ (f 48).toInt; omega), (by show (f 48).toInt ≤ 8000; omega), (by show 0 ≤ (f 37).toInt; omega), (by show (f 37).toInt ≤ 128; omega), (by show 0 ≤ o640.toInt; omega), (by show o640.toInt ≤ 65000; omega), (by show 0 ≤ (f 19).toInt; omega), (by show (f 19).toInt ≤ 600; omega), (by show 0 ≤ a699.toInt; omega), (by show 0 ≤ (f 8).toInt; omega)⟩⟩
                    · subst hv717
                      have h719_ : z233.toInt ≤ z705.toInt := h719
                      have h720_ : z705.toInt ≤ (f 0).toInt := h720
                      have h721_ : dd713.toInt = (f 32).toInt + 1 := h721
                      have h722_ : bz714.toInt = (f 37).toInt + 1 := h722
                      have h723_ : mm715.toInt = (f 53).toInt + 1 := h723
                      have h724_ : ∀ j, j ∉ [11, 12, 13, 14, 25, 26, 27, 28, 29, 30, 33, 34, 35, 36, 38, 39, 40, 41, 42, 43, 54, 55, 56, 58, 59, 60, 67] → g'716 j = g'664 j := h724
                      have h725_ : (0 : Int) ≤ u707.toInt := h725
                      have h726_ : (0 : Int) ≤ a709.toInt := h726
                      replace hS718 : MS S0 S671 (upd (upd (upd (upd (upd (upd (upd (upd (upd (upd (upd (upd (upd (upd f 4 z705) 5 y706) 6 u707) 7 v_708) 8 a709) 9 b710) 10 0) 24 l711) 31 i_712) 32 dd713) 37 bz714) 53 mm715) 62 o640) 75 m641) g'716 := hS718
                      have hR727_ : RJ (upd (upd (upd (upd (upd (upd (upd (upd (upd (upd (upd (upd (upd (upd f 4 z705) 5 y706) 6 u707) 7 v_708) 8 a709) 9 b710) 10 0) 24 l711) 31 i_712) 32 dd713) 37 bz714) 53 mm715) 62 o640) 75 m641) g'716 [] ([] :: bc) [] 0 [] := hR727
                      show am_E _ _ _ _ [some (.ref 39), some (.int (f 4)), some (.int z215), some (.int r643), none, none] [] _ _
                      refine am_e35 hi_236_65 ?_
                      show am_E _ _ _ _ [some (.ref 39), some (.int r2), some (.int (f 4))] [] _ _
                      refine am_e18 hi_228_376 ?_
                      refine am_e35 hi_228_422 ?_
                      show am_E _ _ _ _ [some (.ref 39), some (.int r2)] [] _ _
                      refine am_e35 hi_225_33 ?_
                      show am_E _ _ _ _ [some (.ref 39), some (.int 1), some (.int on), some (.int tw), some (.int th)] [] _ _
                      refine am_e18 hi_180_116 ?_
                      refine am_e35 hi_180_371 ?_
                      have hRc := rj_clear0 hR727_
                      refine ⟨_, _, [], _, rfl, hS718, Or.inr ⟨hRc, rfl, (by show 0 ≤ z705.toInt; omega), (by show z705.toInt ≤ (f 0).toInt; omega), (by show 0 ≤ dd713.toInt; omega), (by show dd713.toInt ≤ 63; omega), (by show 1 ≤ mm715.toInt; omega), (by show mm715.toInt ≤ 600; omega), (by show 0 ≤ (f 68).toInt; omega), (by show (f 68).toInt ≤ 60000; omega), (by show 0 ≤ (f 48).toInt; omega), (by show (f 48).toInt ≤ 8000; omega), (by show 0 ≤ bz714.toInt; omega), (by show bz714.toInt ≤ 128; omega), (by show 0 ≤ o640.toInt; omega), (by show o640.toInt ≤ 65000; omega), (by show 0 ≤ (f 19).toInt; omega), (by show (f 19).toInt ≤ 600; omega), (by show 0 ≤ u707.toInt; omega), (by show 0 ≤ a709.toInt; omega)⟩⟩
                  · refine am_e12f hi_237_21 (am_cF (m := (g 29 r540.toNatClampNeg).toInt) (n := (0 : Int)) rfl (by decide) c637) ?_
                    refine am_e2 (v := 39) hi_237_24 rfl ?_
                    refine am_e0 hi_237_25 ?_
                    refine am_e1 (v := z215) hi_237_27 rfl ?_
                    refine am_e32n (as := [.ref 39, .int 10, .int z215]) (la := [some (.ref 39), some (.int 10), some (.int z215)]) (rest := []) hi_237_28 (am_hd0 (M := 237) (by decide) 28) (Nat.le_of_ble_eq_true rfl) (Nat.le_of_ble_eq_true rfl) (show 3 ≤ am_P0.2.2.1 191 from by decide +kernel) rfl (am_recv_ok hS542.fs) rfl rfl (ct_failName (d := (d + 3)) hS542   (by show (0 : Int) ≤ (10 : Int); omega) (by show (0 : Int) ≤ (f 8).toInt; omega)) ?_
                    rintro v728 S729 (⟨a730, b731, hv732, hS733, h734⟩)
                    subst hv732
                    have h734_ : (0 : Int) ≤ a730.toInt := h734
                    replace hS733 : MS S0 S729 (upd (upd (upd (upd (upd f 4 z233) 5 y216) 8 a730) 9 b731) 10 z19) g'20 := hS733
                    show am_E _ _ _ _ [some (.ref 39), some (.int z215), some (.int r540)] [] _ _
                    refine am_e2 (v := 39) hi_237_31 rfl ?_
                    refine am_e1 (v := z215) hi_237_32 rfl ?_
                    refine am_e32n (as := [.ref 39, .int z215]) (la := [some (.ref 39), some (.int z215), none, none, none]) (rest := []) hi_237_33 (am_hd0 (M := 237) (by decide) 33) (Nat.le_of_ble_eq_true rfl) (Nat.le_of_ble_eq_true rfl) (show 2 ≤ am_P0.2.2.1 205 from by decide +kernel) rfl (am_recv_ok hS733.fs) rfl rfl (ct_resolve (d := (d + 2)) hS733 hR245  (by show (0 : Int) ≤ (f 32).toInt; omega) (by show (f 32).toInt ≤ (63 : Int); omega) (by show (f 53).toInt ≤ (4096 : Int); omega) (by show (0 : Int) ≤ (f 24).toInt; omega) (by show (f 24).toInt ≤ (16384 : Int); omega) (by show (0 : Int) ≤ (f 62).toInt; omega) (by show (f 62).toInt ≤ (65000 : Int); omega) (by show (0 : Int) ≤ z215.toInt; omega) (by show z215.toInt ≤ (16383 : Int); omega)) ?_
                    rintro v736 S737 (⟨o738, m739, g'740, r741, hv742, hS743, hR749, h744, h745, h746, h747, h748⟩)
                    subst hv742
                    have h744_ : (f 62).toInt ≤ o738.toInt := h744
                    have h745_ : o738.toInt ≤ (f 62).toInt + 64 := h745
                    have h746_ : (0 : Int) ≤ r741.toInt := h746
                    have h747_ : r741.toInt ≤ (2 : Int) := h747
                    have h748_ : ∀ j, j ∉ [63, 64, 65, 66, 67] → g'740 j = g'20 j := h748
                    have hR749_ : RJ (upd (upd (upd (upd (upd (upd (upd f 4 z233) 5 y216) 8 a730) 9 b731) 10 z19) 62 o738) 75 m739) g'740 (((1 : Int), (0 : Int), (0 : Int), (0 : Int), []) :: gs) bc [] 0 [] := hR749
                    show am_E _ _ _ _ [some (.ref 39), some (.int z215), some (.int r540)] [.int r741] _ _
                    refine am_e33 hi_237_36 ?_
                    show am_E _ _ _ _ [some (.ref 39), some (.int (f 4)), some (.int z215), none, none, none] [.int r741] _ _
                    refine am_e3 (ls' := [some (.ref 39), some (.int (f 4)), some (.int z215), some (.int r741), none, none]) hi_236_37 (Nat.le_of_ble_eq_true rfl) rfl ?_
                    refine am_e2 (v := 39) hi_236_38 rfl ?_
                    refine am_e0 hi_236_39 ?_
                    refine am_e1 (v := r741) hi_236_41 rfl ?_
                    refine am_e2 (v := 39) hi_236_42 rfl ?_
                    refine mm_20 (v := .int m739) hS743 hi_236_43 rfl ?_
                    refine am_e1 (v := z215) hi_236_46 rfl ?_
                    refine am_e32n (as := [.ref 39, .int 16, .int r741, .int m739, .int z215]) (la := [some (.ref 39), some (.int 16), some (.int r741), some (.int m739), some (.int z215)]) (rest := []) hi_236_47 (am_hd0 (M := 236) (by decide) 47) (Nat.le_of_ble_eq_true rfl) (Nat.le_of_ble_eq_true rfl) (show 5 ≤ am_P0.2.2.1 179 from by decide +kernel) rfl (am_recv_ok hS743.fs) rfl rfl (ct_pile (d := (d + 4)) hS743 hR749_ (mj_e_plain (by decide)) (by show (0 : Int) ≤ z19.toInt; omega) (by show z19.toInt ≤ (65535 : Int); omega)) ?_
                    rintro v750 S751 (⟨z752, g'753, hv754, hS755, hR758, h756, h757⟩)
                    subst hv754
                    have h756_ : z752.toInt = z19.toInt + 1 := h756
                    have h757_ : ∀ j, j ∉ [11, 12, 13, 14] → g'753 j = g'740 j := h757
                    replace hS755 : MS S0 S751 (upd (upd (upd (upd (upd (upd (upd f 4 z233) 5 y216) 8 a730) 9 b731) 10 z752) 62 o738) 75 m739) g'753 := hS755
                    have hR758_ : RJ (upd (upd (upd (upd (upd (upd (upd f 4 z233) 5 y216) 8 a730) 9 b731) 10 z752) 62 o738) 75 m739) g'753 (((16 : Int), r741.toInt, m739.toInt, z215.toInt, []) :: (((1 : Int), (0 : Int), (0 : Int), (0 : Int), []) :: gs)) bc [] 0 [] := hR758
                    show am_E _ _ _ _ [some (.ref 39), some (.int (f 4)), some (.int z215), some (.int r741), none, none] [] _ _
                    refine am_e2 (v := 39) hi_236_50 rfl ?_
                    refine am_e0 hi_236_51 ?_
                    refine am_e1 (v := f 4) hi_236_53 rfl ?_
                    refine am_e0 hi_236_54 ?_
                    refine am_e0 hi_236_55 ?_
                    refine am_e32n (as := [.ref 39, .int 41, .int (f 4), .int 0, .int 0]) (la := [some (.ref 39), some (.int 41), some (.int (f 4)), some (.int 0), some (.int 0)]) (rest := []) hi_236_56 (am_hd0 (M := 236) (by decide) 56) (Nat.le_of_ble_eq_true rfl) (Nat.le_of_ble_eq_true rfl) (show 5 ≤ am_P0.2.2.1 179 from by decide +kernel) rfl (am_recv_ok hS755.fs) rfl rfl (ct_pile (d := (d + 4)) hS755 hR758_ (mj_e_plain (by decide)) (by show (0 : Int) ≤ z752.toInt; omega) (by show z752.toInt ≤ (65535 : Int); omega)) ?_
                    rintro v759 S760 (⟨z761, g'762, hv763, hS764, hR767, h765, h766⟩)
                    subst hv763
                    have h765_ : z761.toInt = z752.toInt + 1 := h765
                    have h766_ : ∀ j, j ∉ [11, 12, 13, 14] → g'762 j = g'753 j := h766
                    replace hS764 : MS S0 S760 (upd (upd (upd (upd (upd (upd (upd f 4 z233) 5 y216) 8 a730) 9 b731) 10 z761) 62 o738) 75 m739) g'762 := hS764
                    have hR767_ : RJ (upd (upd (upd (upd (upd (upd (upd f 4 z233) 5 y216) 8 a730) 9 b731) 10 z761) 62 o738) 75 m739) g'762 (((41 : Int), (f 4).toInt, (0 : Int), (0 : Int), []) :: (((16 : Int), r741.toInt, m739.toInt, z215.toInt, []) :: (((1 : Int), (0 : Int), (0 : Int), (0 : Int), []) :: gs))) bc [] 0 [] := hR767
                    show am_E _ _ _ _ [some (.ref 39), some (.int (f 4)), some (.int z215), some (.int r741), none, none] [] _ _
                    refine am_e2 (v := 39) hi_236_59 rfl ?_
                    refine am_e0 hi_236_60 ?_
                    refine am_e1 (v := f 4) hi_236_61 rfl ?_
                    refine am_e32n (as := [.ref 39, .int 0, .int (f 4)]) (la := [some (.ref 39), some (.int 0), some (.int (f 4)), none, none]) (rest := []) hi_236_62 (am_hd0 (M := 236) (by decide) 62) (Nat.le_of_ble_eq_true rfl) (Nat.le_of_ble_eq_true rfl) (show 3 ≤ am_P0.2.2.1 195 from by decide +kernel) rfl (am_recv_ok hS764.fs) rfl rfl (ct_body (d := d) hS764 hR767_ (by decide)  (by show (0 : Int) ≤ (f 32).toInt; omega) (by show (f 32).toInt ≤ (62 : Int); omega) (by show (1 : Int) ≤ (f 53).toInt; omega) (by show (f 53).toInt ≤ (4095 : Int); omega) (by show (0 : Int) ≤ z233.toInt; omega) (by show (f 0).toInt ≤ (16384 : Int); omega) (by show (0 : Int) ≤ y216.toInt; omega) (by show y216.toInt ≤ (48 : Int); omega) (by show z233.toInt ≤ (f 0).toInt; omega) (by show (f 0).toInt ≤ (512 : Int); omega) (by show (0 : Int) ≤ (f 24).toInt; omega) (by show (f 24).toInt ≤ (4000 : Int); omega) (by show (0 : Int) ≤ (f 44).toInt; omega) (by show (f 44).toInt ≤ z233.toInt; omega) (by show (0 : Int) ≤ (f 48).toInt; omega) (by show (f 48).toInt ≤ z233.toInt; omega) (by show (0 : Int) ≤ (f 37).toInt; omega) (by show (f 37).toInt ≤ (126 : Int); omega) (by show (0 : Int) ≤ z761.toInt; omega) (by show z761.toInt ≤ (65533 : Int); omega) (by show (0 : Int) ≤ (f 68).toInt; omega) (by show (0 : Int) ≤ (f 6).toInt; omega) (by show (0 : Int) ≤ a730.toInt; omega)) ?_
                    rintro v768 S769 (⟨z770, y771, a772, b773, t774, l775, i_776, dd777, bz778, mm779, g'780, hv781, hS782, hR796, h783, h784, h785, h786, h787, h788, h789, h790, h791, h792, h793, h794, h795⟩ | ⟨a797, b798, hv799, hS800, hR802, h801⟩ | ⟨z803, y804, u805, v_806, a807, b808, l809, i_810, dd811, bz812, mm813, g'814, hv815, hS816, hR825, h817, h818, h819, h820, h821, h822, h823, h824⟩)
                    · subst hv781
                      have h783_ : z233.toInt + 2 ≤ z770.toInt := h783
                      have h784_ : z770.toInt ≤ (f 0).toInt := h784
                      have h785_ : y771.toInt = y216.toInt := h785
                      have h786_ : (f 24).toInt ≤ l775.toInt := h786
                      have h787_ : l775.toInt + z233.toInt ≤ (f 24).toInt + z770.toInt := h787
                      have h788_ : t774.toInt = z761.toInt + 2 := h788
                      have h789_ : dd777.toInt = (f 32).toInt + 1 := h789
                      have h790_ : bz778.toInt = (f 37).toInt + 1 := h790
                      have h791_ : mm779.toInt = (f 53).toInt + 1 := h791
                      have h792_ : ∀ j, j ∉ [11, 12, 13, 14, 25, 26, 27, 28, 29, 30, 33, 34, 35, 36, 38, 39, 40, 41, 42, 43, 54, 55, 56, 58, 59, 60, 67] → g'780 j = g'762 j := h792
                      have h793_ : g'780 34 = upd (g'762 34) dd777.toNatClampNeg (f 24) := h793
                      have h794_ : g'780 38 = upd (g'762 38) (f 37).toNatClampNeg (f 24) := h794
                      have h795_ : (0 : Int) ≤ a772.toInt := h795
                      replace hS782 : MS S0 S769 (upd (upd (upd (upd (upd (upd (upd (upd (upd (upd (upd (upd f 4 z770) 5 y771) 8 a772) 9 b773) 10 t774) 24 l775) 31 i_776) 32 dd777) 37 bz778) 53 mm779) 62 o738) 75 m739) g'780 := hS782
                      have hR796_ : RJ (upd (upd (upd (upd (upd (upd (upd (upd (upd (upd (upd (upd f 4 z770) 5 y771) 8 a772) 9 b773) 10 t774) 24 l775) 31 i_776) 32 dd777) 37 bz778) 53 mm779) 62 o738) 75 m739) g'780 (((1 : Int), (0 : Int), (0 : Int), (0 : Int), []) :: (((40 : Int), z233.toInt, (0 : Int), (0 : Int), []) :: (((41 : Int), (f 4).toInt, (0 : Int), (0 : Int), []) :: (((16 : Int), r741.toInt, m739.toInt, z215.toInt, []) :: (((1 : Int), (0 : Int), (0 : Int), (0 : Int), []) :: gs))))) ([] :: bc) [] 0 [] := hR796
                      show am_E _ _ _ _ [some (.ref 39), some (.int (f 4)), some (.int z215), some (.int r741), none, none] [] _ _
                      refine am_e35 hi_236_65 ?_
                      show am_E _ _ _ _ [some (.ref 39), some (.int r2), some (.int (f 4))] [] _ _
                      refine am_e18 hi_228_376 ?_
                      refine am_e35 hi_228_422 ?_
                      show am_E _ _ _ _ [some (.ref 39), some (.int r2)] [] _ _
                      refine am_e35 hi_225_33 ?_
                      show am_E _ _ _ _ [some (.ref 39), some (.int 1), some (.int on), some (.int tw), some (.int th)] [] _ _
                      refine am_e18 hi_180_116 ?_
                      refine am_e35 hi_180_371 ?_
                      have q1 : mg_p1 (((1 : Int), (0 : Int), (0 : Int), (0 : Int), []) :: (((40 : Int), z233.toInt, (0 : Int), (0 : Int), []) :: (((41 : Int), (f 4).toInt, (0 : Int), (0 : Int), []) :: (((16 : Int), r741.toInt, m739.toInt, z215.toInt, []) :: (((1 : Int), (0 : Int), (0 : Int), (0 : Int), []) :: gs))))) = 0 + (0 + (0 + (0 + (0 + (mg_p1 gs))))) := rfl
                      have q2 : mg_p2 (((1 : Int), (0 : Int), (0 : Int), (0 : Int), []) :: (((40 : Int), z233.toInt, (0 : Int), (0 : Int), []) :: (((41 : Int), (f 4).toInt, (0 : Int), (0 : Int), []) :: (((16 : Int), r741.toInt, m739.toInt, z215.toInt, []) :: (((1 : Int), (0 : Int), (0 : Int), (0 : Int), []) :: gs))))) = 0 + (0 + (1 + (0 + (0 + (mg_p2 gs))))) := rfl
                      have q3 : mg_p3 (((1 : Int), (0 : Int), (0 : Int), (0 : Int), []) :: (((40 : Int), z233.toInt, (0 : Int), (0 : Int), []) :: (((41 : Int), (f 4).toInt, (0 : Int), (0 : Int), []) :: (((16 : Int), r741.toInt, m739.toInt, z215.toInt, []) :: (((1 : Int), (0 : Int), (0 : Int), (0 : Int), []) :: gs))))) = 1 + (1 + (1 + (1 + (1 + (mg_p3 gs))))) := rfl
                      have q4 : mg_p4 (((1 : Int), (0 : Int), (0 : Int), (0 : Int), []) :: (((40 : Int), z233.toInt, (0 : Int), (0 : Int), []) :: (((41 : Int), (f 4).toInt, (0 : Int), (0 : Int), []) :: (((16 : Int), r741.toInt, m739.toInt, z215.toInt, []) :: (((1 : Int), (0 : Int), (0 : Int), (0 : Int), []) :: gs))))) = 0 + (0 + (2 + (3 + (0 + (mg_p4 gs))))) := rfl
                      refine ⟨_, _, _, ([] :: bc), rfl, hS782, Or.inl ⟨⟨hR796_, ?_, ?_⟩, rfl, ?_⟩⟩
                      · exact (⟨⟨(show mg_k 1 from by decide), (show (0 : Int) ≤ (f 15).toInt from by omega), (show 0 ≤ (f 20).toInt from by omega), (show 1 ≤ bz778.toInt from by omega), (show 0 ≤ dd777.toInt from by omega), (show dd777.toInt ≤ y771.toInt from by omega), (show y771.toInt ≤ 48 from by omega), (show bz778.toInt ≤ 2 * (y771.toInt) + 1 from by omega), trivial⟩, ⟨⟨(show mg_k 40 from by decide), (show (0 : Int) ≤ (f 15).toInt + 0 from by omega), (show 0 ≤ (f 20).toInt from by omega), (show 1 ≤ bz778.toInt + 0 from by omega), (show 0 ≤ dd777.toInt + 0 from by omega), (show dd777.toInt + 0 ≤ y771.toInt + 0 from by omega), (show y771.toInt + 0 ≤ 48 from by omega), (show bz778.toInt + 0 ≤ 2 * (y771.toInt + 0) + 1 from by omega), trivial⟩, ⟨⟨(show mg_k 41 from by decide), (show (0 : Int) ≤ (f 15).toInt + 0 + 0 from by omega), (show 0 ≤ (f 20).toInt from by omega), (show 1 ≤ bz778.toInt + 0 + -1 from by omega), (show 0 ≤ dd777.toInt + 0 + -1 from by omega), (show dd777.toInt + 0 + -1 ≤ y771.toInt + 0 + -1 from by omega), (show y771.toInt + 0 + -1 ≤ 48 from by omega), (show bz778.toInt + 0 + -1 ≤ 2 * (y771.toInt + 0 + -1) + 2 from by omega), trivial⟩, ⟨⟨(show mg_k 16 from by decide), (show (1 : Int) ≤ (f 15).toInt + 0 + 0 + 1 from by omega), (show 0 ≤ (f 20).toInt from by omega), (show 1 ≤ bz778.toInt + 0 + -1 + 0 from by omega), (show 0 ≤ dd777.toInt + 0 + -1 + 0 from by omega), (show dd777.toInt + 0 + -1 + 0 ≤ y771.toInt + 0 + -1 + 0 from by omega), (show y771.toInt + 0 + -1 + 0 ≤ 48 from by omega), (show bz778.toInt + 0 + -1 + 0 ≤ 2 * (y771.toInt + 0 + -1 + 0) + 1 from by omega), trivial⟩, ⟨⟨(show mg_k 1 from by decide), (show (0 : Int) ≤ (f 15).toInt + 0 + 0 + 1 + -1 from by omega), (show 0 ≤ (f 20).toInt from by omega), (show 1 ≤ bz778.toInt + 0 + -1 + 0 + 0 from by omega), (show 0 ≤ dd777.toInt + 0 + -1 + 0 + 0 from by omega), (show dd777.toInt + 0 + -1 + 0 + 0 ≤ y771.toInt + 0 + -1 + 0 + 0 from by omega), (show y771.toInt + 0 + -1 + 0 + 0 ≤ 48 from by omega), (show bz778.toInt + 0 + -1 + 0 + 0 ≤ 2 * (y771.toInt + 0 + -1 + 0 + 0) + 1 from by omega), trivial⟩, mg_cast (mg_good_ext _ _ _ _ _ _ (fun i hi => by show g'780 34 i = g 34 i; rw [h793_, show g'762 34 = g'753 34 from h766_ 34 (by decide), show g'753 34 = g'740 34 from h757_ 34 (by decide), show g'740 34 = g'20 34 from h748_ 34 (by decide), show g'20 34 = g 34 from h24_ 34 (by decide)]; exact upd_ne (by rw [cl_toNat]; omega)) (fun i hi => by show g'780 38 i = g 38 i; rw [h794_, show g'762 38 = g'753 38 from h766_ 38 (by decide), show g'753 38 = g'740 38 from h757_ 38 (by decide), show g'740 38 = g'20 38 from h748_ 38 (by decide), show g'20 38 = g 38 from h24_ 38 (by decide)]; exact upd_ne (by rw [cl_toNat]; omega)) (fun i _ => by show g'780 23 i = g 23 i; rw [show g'780 23 = g'762 23 from h792_ 23 (by decide), show g'762 23 = g'753 23 from h766_ 23 (by decide), show g'753 23 = g'740 23 from h757_ 23 (by decide), show g'740 23 = g'20 23 from h748_ 23 (by decide), show g'20 23 = g 23 from h24_ 23 (by decide)]) hrest) (by show (f 15).toInt + 0 = (f 15).toInt + 0 + 0 + 1 + -1 + 0; omega) (by show (f 20).toInt = (f 20).toInt; omega) (by show (f 37).toInt + 0 = bz778.toInt + 0 + -1 + 0 + 0 + 0; omega) (by show (f 32).toInt + 0 = dd777.toInt + 0 + -1 + 0 + 0 + 0; omega) (by show (f 5).toInt + 0 = y771.toInt + 0 + -1 + 0 + 0 + 0; omega)⟩⟩⟩⟩⟩ : mg_good (g'780 34) (g'780 38) (g'780 23) (((1 : Int), (0 : Int), (0 : Int), (0 : Int), []) :: (((40 : Int), z233.toInt, (0 : Int), (0 : Int), []) :: (((41 : Int), (f 4).toInt, (0 : Int), (0 : Int), []) :: (((16 : Int), r741.toInt, m739.toInt, z215.toInt, []) :: (((1 : Int), (0 : Int), (0 : Int), (0 : Int), []) :: gs))))) ((f 15).toInt) ((f 20).toInt) (bz778.toInt) (dd777.toInt) (y771.toInt))
                      · exact ⟨(by show 0 ≤ z770.toInt; omega), (by show z770.toInt ≤ (f 0).toInt; omega), (by show (f 0).toInt ≤ 512; omega), (by show 0 ≤ l775.toInt; omega), (by show l775.toInt + (f 20).toInt + mg_p1 (((1 : Int), (0 : Int), (0 : Int), (0 : Int), []) :: (((40 : Int), z233.toInt, (0 : Int), (0 : Int), []) :: (((41 : Int), (f 4).toInt, (0 : Int), (0 : Int), []) :: (((16 : Int), r741.toInt, m739.toInt, z215.toInt, []) :: (((1 : Int), (0 : Int), (0 : Int), (0 : Int), []) :: gs))))) ≤ 4 * z770.toInt; omega), (by show (f 20).toInt ≤ z770.toInt; omega), (by show (f 15).toInt + mg_p2 (((1 : Int), (0 : Int), (0 : Int), (0 : Int), []) :: (((40 : Int), z233.toInt, (0 : Int), (0 : Int), []) :: (((41 : Int), (f 4).toInt, (0 : Int), (0 : Int), []) :: (((16 : Int), r741.toInt, m739.toInt, z215.toInt, []) :: (((1 : Int), (0 : Int), (0 : Int), (0 : Int), []) :: gs))))) ≤ z770.toInt; omega), (by show mg_p3 (((1 : Int), (0 : Int), (0 : Int), (0 : Int), []) :: (((40 : Int), z233.toInt, (0 : Int), (0 : Int), []) :: (((41 : Int), (f 4).toInt, (0 : Int), (0 : Int), []) :: (((16 : Int), r741.toInt, m739.toInt, z215.toInt, []) :: (((1 : Int), (0 : Int), (0 : Int), (0 : Int), []) :: gs))))) ≤ 20 * z770.toInt + 20; omega), (by show 0 ≤ (f 68).toInt; omega), (by show (f 68).toInt + 3 * (f 20).toInt + mg_p4 (((1 : Int), (0 : Int), (0 : Int), (0 : Int), []) :: (((40 : Int), z233.toInt, (0 : Int), (0 : Int), []) :: (((41 : Int), (f 4).toInt, (0 : Int), (0 : Int), []) :: (((16 : Int), r741.toInt, m739.toInt, z215.toInt, []) :: (((1 : Int), (0 : Int), (0 : Int), (0 : Int), []) :: gs))))) ≤ 60 * z770.toInt + 60; omega), (by show 0 ≤ o738.toInt; omega), (by show o738.toInt + 64 * mj_n (g'780 16) (f 15).toNatClampNeg 3 ≤ 64 * z770.toInt; rw [show g'780 16 = g'762 16 from h792_ 16 (by decide), show g'762 16 = g'753 16 from h766_ 16 (by decide), show g'753 16 = g'740 16 from h757_ 16 (by decide), show g'740 16 = g'20 16 from h748_ 16 (by decide), show g'20 16 = g 16 from h24_ 16 (by decide)]; omega), (by show 0 ≤ (f 44).toInt; omega), (by show (f 44).toInt ≤ z770.toInt; omega), (by show 0 ≤ (f 48).toInt; omega), (by show (f 48).toInt ≤ z770.toInt; omega), (by show 1 ≤ mm779.toInt; omega), (by show mm779.toInt ≤ z770.toInt + 1; omega), (by show 0 ≤ (f 19).toInt; omega), (by show (f 19).toInt ≤ 600; omega), (by show 0 ≤ (f 6).toInt; omega), (by show 0 ≤ a772.toInt; omega)⟩
                      · show 100 * ((f 0).toInt - z770.toInt) + mg_p3 (((1 : Int), (0 : Int), (0 : Int), (0 : Int), []) :: (((40 : Int), z233.toInt, (0 : Int), (0 : Int), []) :: (((41 : Int), (f 4).toInt, (0 : Int), (0 : Int), []) :: (((16 : Int), r741.toInt, m739.toInt, z215.toInt, []) :: (((1 : Int), (0 : Int), (0 : Int), (0 : Int), []) :: gs))))) < 100 * ((f 0).toInt - (f 4).toInt) + (1 + mg_p3 gs); omega
                    · subst hv799
                      have h801_ : (0 : Int) ≤ a797.toInt := h801
                      replace hS800 : MS S0 S769 (upd (upd (upd (upd (upd (upd (upd (upd (upd f 4 z233) 5 y216) 6 a797) 7 b798) 8 a730) 9 b731) 10 0) 62 o738) 75 m739) g'762 := hS800
                      have hR802_ : RJ (upd (upd (upd (upd (upd (upd (upd (upd (upd f 4 z233) 5 y216) 6 a797) 7 b798) 8 a730) 9 b731) 10 0) 62 o738) 75 m739) g'762 [] bc [] 0 [] := hR802
                      show am_E _ _ _ _ [some (.ref 39), some (.int (f 4)), some (.int z215), some (.int r741), none, none] [] _ _
                      refine am_e35 hi_236_65 ?_
                      show am_E _ _ _ _ [some (.ref 39), some (.int r2), some (.int (f 4))] [] _ _
                      refine am_e18 hi_228_376 ?_
                      refine am_e35 hi_228_422 ?_
                      show am_E _ _ _ _ [some (.ref 39), some (.int r2)] [] _ _
                      refine am_e35 hi_225_33 ?_
                      show am_E _ _ _ _ [some (.ref 39), some (.int 1), some (.int on), some (.int tw), some (.int th)] [] _ _
                      refine am_e18 hi_180_116 ?_
                      refine am_e35 hi_180_371 ?_
                      have hRc := rj_clear0 hR802_
                      refine ⟨_, _, [], _, rfl, hS800, Or.inr ⟨hRc, rfl, (by show 0 ≤ z233.toInt; omega), (by show z233.toInt ≤ (f 0).toInt; omega), (by show 0 ≤ (f 32).toInt; omega), (by show (f 32).toInt ≤ 63; omega), (by show 1 ≤ (f 53).toInt; omega), (by show (f 53).toInt ≤ 600; omega), (by show 0 ≤ (f 68).toInt; omega), (by show (f 68).toInt ≤ 60000; omega), (by show 0 ≤ (f 48).toInt; omega), (by show (f 48).toInt ≤ 8000; omega), (by show 0 ≤ (f 37).toInt; omega), (by show (f 37).toInt ≤ 128; omega), (by show 0 ≤ o738.toInt; omega), (by show o738.toInt ≤ 65000; omega), (by show 0 ≤ (f 19).toInt; omega), (by show (f 19).toInt ≤ 600; omega), (by show 0 ≤ a797.toInt; omega), (by show 0 ≤ a730.toInt; omega)⟩⟩
                    · subst hv815
                      have h817_ : z233.toInt ≤ z803.toInt := h817
                      have h818_ : z803.toInt ≤ (f 0).toInt := h818
                      have h819_ : dd811.toInt = (f 32).toInt + 1 := h819
                      have h820_ : bz812.toInt = (f 37).toInt + 1 := h820
                      have h821_ : mm813.toInt = (f 53).toInt + 1 := h821
                      have h822_ : ∀ j, j ∉ [11, 12, 13, 14, 25, 26, 27, 28, 29, 30, 33, 34, 35, 36, 38, 39, 40, 41, 42, 43, 54, 55, 56, 58, 59, 60, 67] → g'814 j = g'762 j := h822
                      have h823_ : (0 : Int) ≤ u805.toInt := h823
                      have h824_ : (0 : Int) ≤ a807.toInt := h824
                      replace hS816 : MS S0 S769 (upd (upd (upd (upd (upd (upd (upd (upd (upd (upd (upd (upd (upd (upd f 4 z803) 5 y804) 6 u805) 7 v_806) 8 a807) 9 b808) 10 0) 24 l809) 31 i_810) 32 dd811) 37 bz812) 53 mm813) 62 o738) 75 m739) g'814 := hS816
                      have hR825_ : RJ (upd (upd (upd (upd (upd (upd (upd (upd (upd (upd (upd (upd (upd (upd f 4 z803) 5 y804) 6 u805) 7 v_806) 8 a807) 9 b808) 10 0) 24 l809) 31 i_810) 32 dd811) 37 bz812) 53 mm813) 62 o738) 75 m739) g'814 [] ([] :: bc) [] 0 [] := hR825
                      show am_E _ _ _ _ [some (.ref 39), some (.int (f 4)), some (.int z215), some (.int r741), none, none] [] _ _
                      refine am_e35 hi_236_65 ?_
                      show am_E _ _ _ _ [some (.ref 39), some (.int r2), some (.int (f 4))] [] _ _
                      refine am_e18 hi_228_376 ?_
                      refine am_e35 hi_228_422 ?_
                      show am_E _ _ _ _ [some (.ref 39), some (.int r2)] [] _ _
                      refine am_e35 hi_225_33 ?_
                      show am_E _ _ _ _ [some (.ref 39), some (.int 1), some (.int on), some (.int tw), some (.int th)] [] _ _
                      refine am_e18 hi_180_116 ?_
                      refine am_e35 hi_180_371 ?_
                      have hRc := rj_clear0 hR825_
                      refine ⟨_, _, [], _, rfl, hS816, Or.inr ⟨hRc, rfl, (by show 0 ≤ z803.toInt; omega), (by show z803.toInt ≤ (f 0).toInt; omega), (by show 0 ≤ dd811.toInt; omega), (by show dd811.toInt ≤ 63; omega), (by show 1 ≤ mm813.toInt; omega), (by show mm813.toInt ≤ 600; omega), (by show 0 ≤ (f 68).toInt; omega), (by show (f 68).toInt ≤ 60000; omega), (by show 0 ≤ (f 48).toInt; omega), (by show (f 48).toInt ≤ 8000; omega), (by show 0 ≤ bz812.toInt; omega), (by show bz812.toInt ≤ 128; omega), (by show 0 ≤ o738.toInt; omega), (by show o738.toInt ≤ 65000; omega), (by show 0 ≤ (f 19).toInt; omega), (by show (f 19).toInt ≤ 600; omega), (by show 0 ≤ u805.toInt; omega), (by show 0 ≤ a807.toInt; omega)⟩⟩
          · subst hv241
            have h243_ : (0 : Int) ≤ a239.toInt := h243
            replace hS242 : MS S0 S232 (upd (upd (upd (upd (upd f 4 z215) 5 y216) 6 a239) 7 b240) 10 0) g'20 := hS242
            have hR826 := rj_clear0 hR230
            have hR827 : RJ (upd (upd (upd (upd (upd f 4 z215) 5 y216) 6 a239) 7 b240) 10 0) g'20 [] bc [] 0 [] := hR826
            show am_E _ _ _ _ [some (.ref 39), some (.int (f 4)), some (.int z215), none, none, none] [.int 0] _ _
            refine am_e12f hi_236_10 (by decide) ?_
            refine am_e35 hi_236_13 ?_
            show am_E _ _ _ _ [some (.ref 39), some (.int r2), some (.int (f 4))] [] _ _
            refine am_e18 hi_228_376 ?_
            refine am_e35 hi_228_422 ?_
            show am_E _ _ _ _ [some (.ref 39), some (.int r2)] [] _ _
            refine am_e35 hi_225_33 ?_
            show am_E _ _ _ _ [some (.ref 39), some (.int 1), some (.int on), some (.int tw), some (.int th)] [] _ _
            refine am_e18 hi_180_116 ?_
            refine am_e35 hi_180_371 ?_
            have hRc := rj_clear0 hR827
            refine ⟨_, _, [], _, rfl, hS242, Or.inr ⟨hRc, rfl, (by show 0 ≤ z215.toInt; omega), (by show z215.toInt ≤ (f 0).toInt; omega), (by show 0 ≤ (f 32).toInt; omega), (by show (f 32).toInt ≤ 63; omega), (by show 1 ≤ (f 53).toInt; omega), (by show (f 53).toInt ≤ 600; omega), (by show 0 ≤ (f 68).toInt; omega), (by show (f 68).toInt ≤ 60000; omega), (by show 0 ≤ (f 48).toInt; omega), (by show (f 48).toInt ≤ 8000; omega), (by show 0 ≤ (f 37).toInt; omega), (by show (f 37).toInt ≤ 128; omega), (by show 0 ≤ (f 62).toInt; omega), (by show (f 62).toInt ≤ 65000; omega), (by show 0 ≤ (f 19).toInt; omega), (by show (f 19).toInt ≤ 600; omega), (by show 0 ≤ a239.toInt; omega), (by show 0 ≤ (f 8).toInt; omega)⟩⟩
        · subst hv226
          have h228_ : (0 : Int) ≤ a224.toInt := h228
          replace hS227 : MS S0 S214 (upd (upd (upd f 6 a224) 7 b225) 10 0) g'20 := hS227
          have hR828 := rj_clear0 hR25_
          have hR829 : RJ (upd (upd (upd f 6 a224) 7 b225) 10 0) g'20 [] bc [] 0 [] := hR828
          show am_E _ _ _ _ [some (.ref 39), some (.int r2), some (.int (f 4))] [.int 0] _ _
          refine am_e12t hi_228_368 (by decide) ?_
          refine am_e35 hi_228_422 ?_
          show am_E _ _ _ _ [some (.ref 39), some (.int r2)] [] _ _
          refine am_e35 hi_225_33 ?_
          show am_E _ _ _ _ [some (.ref 39), some (.int 1), some (.int on), some (.int tw), some (.int th)] [] _ _
          refine am_e18 hi_180_116 ?_
          refine am_e35 hi_180_371 ?_
          have hRc := rj_clear0 hR829
          refine ⟨_, _, [], _, rfl, hS227, Or.inr ⟨hRc, rfl, (by show 0 ≤ (f 4).toInt; omega), (by show (f 4).toInt ≤ (f 0).toInt; omega), (by show 0 ≤ (f 32).toInt; omega), (by show (f 32).toInt ≤ 63; omega), (by show 1 ≤ (f 53).toInt; omega), (by show (f 53).toInt ≤ 600; omega), (by show 0 ≤ (f 68).toInt; omega), (by show (f 68).toInt ≤ 60000; omega), (by show 0 ≤ (f 48).toInt; omega), (by show (f 48).toInt ≤ 8000; omega), (by show 0 ≤ (f 37).toInt; omega), (by show (f 37).toInt ≤ 128; omega), (by show 0 ≤ (f 62).toInt; omega), (by show (f 62).toInt ≤ 65000; omega), (by show 0 ≤ (f 19).toInt; omega), (by show (f 19).toInt ≤ 600; omega), (by show 0 ≤ a224.toInt; omega), (by show 0 ≤ (f 8).toInt; omega)⟩⟩
      by_cases c830 : r2.toInt = 19
      · refine am_e19 (t := 172) hi_228_6 (am_swI (v := r2) (w := 19) (by decide) (by decide) c830) ?_
        refine am_e2 (v := 39) hi_228_172 rfl ?_
        refine am_e7 hi_228_173 ?_
        refine mm_20 (v := .int (f 4)) hS22 hi_228_174 rfl ?_
        refine am_e0 hi_228_177 ?_
        obtain ⟨z831, hz831, tz831⟩ := am_addI (x := f 4) (y := 1) (m := (f 4).toInt) (n := (1 : Int)) rfl (by decide) (by omega) (by omega)
        refine am_e10 (z := z831) hi_228_178 hz831 ?_
        refine mm_21 (v := z831) hS22 hi_228_179 rfl (Nat.le_of_ble_eq_true rfl) ms_4 ?_
        intro S832 hS833
        replace hS833 : MS S0 S832 (upd (upd f 4 z831) 10 z19) g'20 := hS833
        have hR834 : RJ (upd (upd f 4 z831) 10 z19) g'20 (((1 : Int), (0 : Int), (0 : Int), (0 : Int), []) :: gs) bc [] 0 [] := RJ.at hR25_ (by show (f 4).toInt ≤ z831.toInt; omega)
        refine am_e2 (v := 39) hi_228_182 rfl ?_
        refine am_e0 hi_228_183 ?_
        refine am_e32n (as := [.ref 39, .int 1]) (la := [some (.ref 39), some (.int 1)]) (rest := []) hi_228_184 (am_hd0 (M := 228) (by decide) 184) (Nat.le_of_ble_eq_true rfl) (Nat.le_of_ble_eq_true rfl) (show 2 ≤ am_P0.2.2.1 200 from by decide +kernel) rfl (am_recv_ok hS833.fs) rfl rfl (ct_take (d := (d + 3)) hS833   (by show (0 : Int) ≤ z831.toInt; omega) (by show (f 0).toInt ≤ (16384 : Int); omega) (by show (0 : Int) ≤ (1 : Int); omega) (by show (0 : Int) ≤ (f 6).toInt; omega)) ?_
        rintro v835 S836 (⟨z837, hv838, hS839, h840, h841⟩ | ⟨a843, b844, hv845, hS846, h847⟩)
        · subst hv838
          have h840_ : z837.toInt = z831.toInt + 1 := h840
          have h841_ : z831.toInt < (f 0).toInt := h841
          replace hS839 : MS S0 S836 (upd (upd f 4 z837) 10 z19) g'20 := hS839
          have hR849 : RJ (upd (upd f 4 z837) 10 z19) g'20 (((1 : Int), (0 : Int), (0 : Int), (0 : Int), []) :: gs) bc [] 0 [] := RJ.at hR834 (by show z831.toInt ≤ z837.toInt; omega)
          show am_E _ _ _ _ [some (.ref 39), some (.int r2), some (.int (f 4))] [.int 1] _ _
          refine am_e12f hi_228_187 (by decide) ?_
          refine am_e2 (v := 39) hi_228_190 rfl ?_
          refine am_e1 (v := f 4) hi_228_191 rfl ?_
          refine am_e1 (v := f 4) hi_228_192 rfl ?_
          refine am_e0 hi_228_193 ?_
          refine am_e10 (z := z831) hi_228_194 hz831 ?_
          refine am_e32n (as := [.ref 39, .int (f 4), .int z831]) (la := [some (.ref 39), some (.int (f 4)), some (.int z831), none, none]) (rest := []) hi_228_195 (am_hd0 (M := 228) (by decide) 195) (Nat.le_of_ble_eq_true rfl) (Nat.le_of_ble_eq_true rfl) (show 3 ≤ am_P0.2.2.1 234 from by decide +kernel) rfl (am_recv_ok hS839.fs) rfl rfl (ct_go (d := (d + 4)) hS839 hR849  (by show (0 : Int) ≤ (f 32).toInt; omega) (by show (f 32).toInt ≤ (63 : Int); omega) (by show (f 53).toInt ≤ (4096 : Int); omega) (by show (0 : Int) ≤ (f 68).toInt; omega) (by show (f 68).toInt ≤ (65531 : Int); omega) (by show (0 : Int) ≤ (f 44).toInt; omega) (by show (f 44).toInt ≤ (8192 : Int); omega) (by show (0 : Int) ≤ z831.toInt; omega) (by show z831.toInt ≤ (16383 : Int); omega) (by show (0 : Int) ≤ (f 48).toInt; omega) (by show (f 48).toInt < z837.toInt; omega) (by show z837.toInt ≤ (8192 : Int); omega)) ?_
          rintro v850 S851 (⟨z852, s853, g'854, hv855, hS856, hR861, h857, h858, h859, h860⟩)
          subst hv855
          have h857_ : (f 48).toInt ≤ z852.toInt := h857
          have h858_ : z852.toInt ≤ (f 48).toInt + 1 := h858
          have h859_ : s853.toInt = (f 68).toInt + 3 := h859
          have h860_ : ∀ j, j ∉ [49, 50, 51, 52, 60, 69, 70, 71, 72, 73] → g'854 j = g'20 j := h860
          have hR861_ : RJ (upd (upd (upd (upd f 4 z837) 10 z19) 48 z852) 68 s853) g'854 (((1 : Int), (0 : Int), (0 : Int), (0 : Int), []) :: gs) bc [] 0 [] := hR861
          show am_E _ _ _ _ [some (.ref 39), some (.int r2), some (.int (f 4))] [] _ _
          refine am_e18 hi_228_198 ?_
          refine am_e35 hi_228_422 ?_
          show am_E _ _ _ _ [some (.ref 39), some (.int r2)] [] _ _
          refine am_e35 hi_225_33 ?_
          show am_E _ _ _ _ [some (.ref 39), some (.int 1), some (.int on), some (.int tw), some (.int th)] [] _ _
          refine am_e18 hi_180_116 ?_
          refine am_e35 hi_180_371 ?_
          have q1 : mg_p1 (((1 : Int), (0 : Int), (0 : Int), (0 : Int), []) :: gs) = 0 + (mg_p1 gs) := rfl
          have q2 : mg_p2 (((1 : Int), (0 : Int), (0 : Int), (0 : Int), []) :: gs) = 0 + (mg_p2 gs) := rfl
          have q3 : mg_p3 (((1 : Int), (0 : Int), (0 : Int), (0 : Int), []) :: gs) = 1 + (mg_p3 gs) := rfl
          have q4 : mg_p4 (((1 : Int), (0 : Int), (0 : Int), (0 : Int), []) :: gs) = 0 + (mg_p4 gs) := rfl
          refine ⟨_, _, _, bc, rfl, hS856, Or.inl ⟨⟨hR861_, ?_, ?_⟩, rfl, ?_⟩⟩
          · exact (⟨⟨(show mg_k 1 from by decide), (show (0 : Int) ≤ (f 15).toInt from by omega), (show 0 ≤ (f 20).toInt from by omega), (show 1 ≤ (f 37).toInt from by omega), (show 0 ≤ (f 32).toInt from by omega), (show (f 32).toInt ≤ (f 5).toInt from by omega), (show (f 5).toInt ≤ 48 from by omega), (show (f 37).toInt ≤ 2 * ((f 5).toInt) + 1 from by omega), trivial⟩, mg_cast (mg_good_ext _ _ _ _ _ _ (fun i _ => by show g'854 34 i = g 34 i; rw [show g'854 34 = g'20 34 from h860_ 34 (by decide), show g'20 34 = g 34 from h24_ 34 (by decide)]) (fun i _ => by show g'854 38 i = g 38 i; rw [show g'854 38 = g'20 38 from h860_ 38 (by decide), show g'20 38 = g 38 from h24_ 38 (by decide)]) (fun i _ => by show g'854 23 i = g 23 i; rw [show g'854 23 = g'20 23 from h860_ 23 (by decide), show g'20 23 = g 23 from h24_ 23 (by decide)]) hrest) (by show (f 15).toInt + 0 = (f 15).toInt + 0; omega) (by show (f 20).toInt = (f 20).toInt; omega) (by show (f 37).toInt + 0 = (f 37).toInt + 0; omega) (by show (f 32).toInt + 0 = (f 32).toInt + 0; omega) (by show (f 5).toInt + 0 = (f 5).toInt + 0; omega)⟩ : mg_good (g'854 34) (g'854 38) (g'854 23) (((1 : Int), (0 : Int), (0 : Int), (0 : Int), []) :: gs) ((f 15).toInt) ((f 20).toInt) ((f 37).toInt) ((f 32).toInt) ((f 5).toInt))
          · exact ⟨(by show 0 ≤ z837.toInt; omega), (by show z837.toInt ≤ (f 0).toInt; omega), (by show (f 0).toInt ≤ 512; omega), (by show 0 ≤ (f 24).toInt; omega), (by show (f 24).toInt + (f 20).toInt + mg_p1 (((1 : Int), (0 : Int), (0 : Int), (0 : Int), []) :: gs) ≤ 4 * z837.toInt; omega), (by show (f 20).toInt ≤ z837.toInt; omega), (by show (f 15).toInt + mg_p2 (((1 : Int), (0 : Int), (0 : Int), (0 : Int), []) :: gs) ≤ z837.toInt; omega), (by show mg_p3 (((1 : Int), (0 : Int), (0 : Int), (0 : Int), []) :: gs) ≤ 20 * z837.toInt + 20; omega), (by show 0 ≤ s853.toInt; omega), (by show s853.toInt + 3 * (f 20).toInt + mg_p4 (((1 : Int), (0 : Int), (0 : Int), (0 : Int), []) :: gs) ≤ 60 * z837.toInt + 60; omega), (by show 0 ≤ (f 62).toInt; omega), (by show (f 62).toInt + 64 * mj_n (g'854 16) (f 15).toNatClampNeg 3 ≤ 64 * z837.toInt; rw [show g'854 16 = g'20 16 from h860_ 16 (by decide), show g'20 16 = g 16 from h24_ 16 (by decide)]; omega), (by show 0 ≤ (f 44).toInt; omega), (by show (f 44).toInt ≤ z837.toInt; omega), (by show 0 ≤ z852.toInt; omega), (by show z852.toInt ≤ z837.toInt; omega), (by show 1 ≤ (f 53).toInt; omega), (by show (f 53).toInt ≤ z837.toInt + 1; omega), (by show 0 ≤ (f 19).toInt; omega), (by show (f 19).toInt ≤ 600; omega), (by show 0 ≤ (f 6).toInt; omega), (by show 0 ≤ (f 8).toInt; omega)⟩
          · show 100 * ((f 0).toInt - z837.toInt) + mg_p3 (((1 : Int), (0 : Int), (0 : Int), (0 : Int), []) :: gs) < 100 * ((f 0).toInt - (f 4).toInt) + (1 + mg_p3 gs); omega
        · subst hv845
          have h847_ : (0 : Int) ≤ a843.toInt := h847
          replace hS846 : MS S0 S836 (upd (upd (upd (upd f 4 z831) 6 a843) 7 b844) 10 0) g'20 := hS846
          have hR862 := rj_clear0 hR834
          have hR863 : RJ (upd (upd (upd (upd f 4 z831) 6 a843) 7 b844) 10 0) g'20 [] bc [] 0 [] := hR862
          show am_E _ _ _ _ [some (.ref 39), some (.int r2), some (.int (f 4))] [.int 0] _ _
          refine am_e12t hi_228_187 (by decide) ?_
          refine am_e35 hi_228_422 ?_
          show am_E _ _ _ _ [some (.ref 39), some (.int r2)] [] _ _
          refine am_e35 hi_225_33 ?_
          show am_E _ _ _ _ [some (.ref 39), some (.int 1), some (.int on), some (.int tw), some (.int th)] [] _ _
          refine am_e18 hi_180_116 ?_
          refine am_e35 hi_180_371 ?_
          have hRc := rj_clear0 hR863
          refine ⟨_, _, [], _, rfl, hS846, Or.inr ⟨hRc, rfl, (by show 0 ≤ z831.toInt; omega), (by show z831.toInt ≤ (f 0).toInt; omega), (by show 0 ≤ (f 32).toInt; omega), (by show (f 32).toInt ≤ 63; omega), (by show 1 ≤ (f 53).toInt; omega), (by show (f 53).toInt ≤ 600; omega), (by show 0 ≤ (f 68).toInt; omega), (by show (f 68).toInt ≤ 60000; omega), (by show 0 ≤ (f 48).toInt; omega), (by show (f 48).toInt ≤ 8000; omega), (by show 0 ≤ (f 37).toInt; omega), (by show (f 37).toInt ≤ 128; omega), (by show 0 ≤ (f 62).toInt; omega), (by show (f 62).toInt ≤ 65000; omega), (by show 0 ≤ (f 19).toInt; omega), (by show (f 19).toInt ≤ 600; omega), (by show 0 ≤ a843.toInt; omega), (by show 0 ≤ (f 8).toInt; omega)⟩⟩
      by_cases c864 : r2.toInt = 20
      · refine am_e19 (t := 317) hi_228_6 (am_swI (v := r2) (w := 20) (by decide) (by decide) c864) ?_
        refine am_e2 (v := 39) hi_228_317 rfl ?_
        refine am_e7 hi_228_318 ?_
        refine mm_20 (v := .int (f 4)) hS22 hi_228_319 rfl ?_
        refine am_e0 hi_228_322 ?_
        obtain ⟨z865, hz865, tz865⟩ := am_addI (x := f 4) (y := 1) (m := (f 4).toInt) (n := (1 : Int)) rfl (by decide) (by omega) (by omega)
        refine am_e10 (z := z865) hi_228_323 hz865 ?_
        refine mm_21 (v := z865) hS22 hi_228_324 rfl (Nat.le_of_ble_eq_true rfl) ms_4 ?_
        intro S866 hS867
        replace hS867 : MS S0 S866 (upd (upd f 4 z865) 10 z19) g'20 := hS867
        have hR868 : RJ (upd (upd f 4 z865) 10 z19) g'20 (((1 : Int), (0 : Int), (0 : Int), (0 : Int), []) :: gs) bc [] 0 [] := RJ.at hR25_ (by show (f 4).toInt ≤ z865.toInt; omega)
        refine am_e2 (v := 39) hi_228_327 rfl ?_
        refine am_e0 hi_228_328 ?_
        refine am_e0 hi_228_330 ?_
        refine am_e0 hi_228_331 ?_
        refine am_e0 hi_228_332 ?_
        refine am_e32n (as := [.ref 39, .int 7, .int 0, .int 0, .int 0]) (la := [some (.ref 39), some (.int 7), some (.int 0), some (.int 0), some (.int 0)]) (rest := []) hi_228_333 (am_hd0 (M := 228) (by decide) 333) (Nat.le_of_ble_eq_true rfl) (Nat.le_of_ble_eq_true rfl) (show 5 ≤ am_P0.2.2.1 179 from by decide +kernel) rfl (am_recv_ok hS867.fs) rfl rfl (ct_pile (d := (d + 5)) hS867 hR868 (mj_e_79 (by decide) (by decide)) (by show (0 : Int) ≤ z19.toInt; omega) (by show z19.toInt ≤ (65535 : Int); omega)) ?_
        rintro v869 S870 (⟨z871, g'872, hv873, hS874, hR877, h875, h876⟩)
        subst hv873
        have h875_ : z871.toInt = z19.toInt + 1 := h875
        have h876_ : ∀ j, j ∉ [11, 12, 13, 14] → g'872 j = g'20 j := h876
        replace hS874 : MS S0 S870 (upd (upd f 4 z865) 10 z871) g'872 := hS874
        have hR877_ : RJ (upd (upd f 4 z865) 10 z871) g'872 (((7 : Int), (0 : Int), (0 : Int), (0 : Int), []) :: (((1 : Int), (0 : Int), (0 : Int), (0 : Int), []) :: gs)) bc [] 0 [] := hR877
        show am_E _ _ _ _ [some (.ref 39), some (.int r2), some (.int (f 4))] [] _ _
        refine am_e2 (v := 39) hi_228_336 rfl ?_
        refine am_e0 hi_228_337 ?_
        refine am_e32w (as := [.ref 39, .int 0]) (la := [some (.ref 39), some (.int 0)]) (rest := []) hi_228_338 (am_hd0 (M := 228) (by decide) 338) (Nat.le_of_ble_eq_true rfl) (Nat.le_of_ble_eq_true rfl) (show 2 ≤ am_P0.2.2.1 186 from by decide +kernel) rfl (am_recv_ok hS874.fs) rfl rfl ?_
        refine am_e2 (v := 39) hi_186_0 rfl ?_
        refine am_e0 hi_186_1 ?_
        refine am_e1 (v := 0) hi_186_3 rfl ?_
        refine am_e0 hi_186_4 ?_
        refine am_e0 hi_186_5 ?_
        refine am_e32n (as := [.ref 39, .int 23, .int 0, .int 0, .int 0]) (la := [some (.ref 39), some (.int 23), some (.int 0), some (.int 0), some (.int 0)]) (rest := []) hi_186_6 (am_hd0 (M := 186) (by decide) 6) (Nat.le_of_ble_eq_true rfl) (Nat.le_of_ble_eq_true rfl) (show 5 ≤ am_P0.2.2.1 179 from by decide +kernel) rfl (am_recv_ok hS874.fs) rfl rfl (ct_pile (d := (d + 4)) hS874 hR877_ (mj_e_plain (by decide)) (by show (0 : Int) ≤ z871.toInt; omega) (by show z871.toInt ≤ (65535 : Int); omega)) ?_
        rintro v878 S879 (⟨z880, g'881, hv882, hS883, hR886, h884, h885⟩)
        subst hv882
        have h884_ : z880.toInt = z871.toInt + 1 := h884
        have h885_ : ∀ j, j ∉ [11, 12, 13, 14] → g'881 j = g'872 j := h885
        replace hS883 : MS S0 S879 (upd (upd f 4 z865) 10 z880) g'881 := hS883
        have hR886_ : RJ (upd (upd f 4 z865) 10 z880) g'881 (((23 : Int), (0 : Int), (0 : Int), (0 : Int), []) :: (((7 : Int), (0 : Int), (0 : Int), (0 : Int), []) :: (((1 : Int), (0 : Int), (0 : Int), (0 : Int), []) :: gs))) bc [] 0 [] := hR886
        show am_E _ _ _ _ [some (.ref 39), some (.int 0)] [] _ _
        refine am_e35 hi_186_9 ?_
        show am_E _ _ _ _ [some (.ref 39), some (.int r2), some (.int (f 4))] [] _ _
        refine am_e18 hi_228_341 ?_
        refine am_e35 hi_228_422 ?_
        show am_E _ _ _ _ [some (.ref 39), some (.int r2)] [] _ _
        refine am_e35 hi_225_33 ?_
        show am_E _ _ _ _ [some (.ref 39), some (.int 1), some (.int on), some (.int tw), some (.int th)] [] _ _
        refine am_e18 hi_180_116 ?_
        refine am_e35 hi_180_371 ?_
        have q1 : mg_p1 (((23 : Int), (0 : Int), (0 : Int), (0 : Int), []) :: (((7 : Int), (0 : Int), (0 : Int), (0 : Int), []) :: (((1 : Int), (0 : Int), (0 : Int), (0 : Int), []) :: gs))) = 0 + (0 + (0 + (mg_p1 gs))) := rfl
        have q2 : mg_p2 (((23 : Int), (0 : Int), (0 : Int), (0 : Int), []) :: (((7 : Int), (0 : Int), (0 : Int), (0 : Int), []) :: (((1 : Int), (0 : Int), (0 : Int), (0 : Int), []) :: gs))) = 0 + (0 + (0 + (mg_p2 gs))) := rfl
        have q3 : mg_p3 (((23 : Int), (0 : Int), (0 : Int), (0 : Int), []) :: (((7 : Int), (0 : Int), (0 : Int), (0 : Int), []) :: (((1 : Int), (0 : Int), (0 : Int), (0 : Int), []) :: gs))) = 1 + (1 + (1 + (mg_p3 gs))) := rfl
        have q4 : mg_p4 (((23 : Int), (0 : Int), (0 : Int), (0 : Int), []) :: (((7 : Int), (0 : Int), (0 : Int), (0 : Int), []) :: (((1 : Int), (0 : Int), (0 : Int), (0 : Int), []) :: gs))) = 0 + (0 + (0 + (mg_p4 gs))) := rfl
        refine ⟨_, _, _, bc, rfl, hS883, Or.inl ⟨⟨hR886_, ?_, ?_⟩, rfl, ?_⟩⟩
        · exact (⟨⟨(show mg_k 23 from by decide), (show (0 : Int) ≤ (f 15).toInt from by omega), (show 0 ≤ (f 20).toInt from by omega), (show 1 ≤ (f 37).toInt from by omega), (show 0 ≤ (f 32).toInt from by omega), (show (f 32).toInt ≤ (f 5).toInt from by omega), (show (f 5).toInt ≤ 48 from by omega), (show (f 37).toInt ≤ 2 * ((f 5).toInt) + 2 from by omega), (show 0 ≤ (0 : Int) from by omega)⟩, ⟨⟨(show mg_k 7 from by decide), (show (1 : Int) ≤ (f 15).toInt + 1 from by omega), (show 0 ≤ (f 20).toInt from by omega), (show 1 ≤ (f 37).toInt + 0 from by omega), (show 0 ≤ (f 32).toInt + 0 from by omega), (show (f 32).toInt + 0 ≤ (f 5).toInt + 0 from by omega), (show (f 5).toInt + 0 ≤ 48 from by omega), (show (f 37).toInt + 0 ≤ 2 * ((f 5).toInt + 0) + 1 from by omega), trivial⟩, ⟨⟨(show mg_k 1 from by decide), (show (0 : Int) ≤ (f 15).toInt + 1 + -1 from by omega), (show 0 ≤ (f 20).toInt from by omega), (show 1 ≤ (f 37).toInt + 0 + 0 from by omega), (show 0 ≤ (f 32).toInt + 0 + 0 from by omega), (show (f 32).toInt + 0 + 0 ≤ (f 5).toInt + 0 + 0 from by omega), (show (f 5).toInt + 0 + 0 ≤ 48 from by omega), (show (f 37).toInt + 0 + 0 ≤ 2 * ((f 5).toInt + 0 + 0) + 1 from by omega), trivial⟩, mg_cast (mg_good_ext _ _ _ _ _ _ (fun i _ => by show g'881 34 i = g 34 i; rw [show g'881 34 = g'872 34 from h885_ 34 (by decide), show g'872 34 = g'20 34 from h876_ 34 (by decide), show g'20 34 = g 34 from h24_ 34 (by decide)]) (fun i _ => by show g'881 38 i = g 38 i; rw [show g'881 38 = g'872 38 from h885_ 38 (by decide), show g'872 38 = g'20 38 from h876_ 38 (by decide), show g'20 38 = g 38 from h24_ 38 (by decide)]) (fun i _ => by show g'881 23 i = g 23 i; rw [show g'881 23 = g'872 23 from h885_ 23 (by decide), show g'872 23 = g'20 23 from h876_ 23 (by decide), show g'20 23 = g 23 from h24_ 23 (by decide)]) hrest) (by show (f 15).toInt + 0 = (f 15).toInt + 1 + -1 + 0; omega) (by show (f 20).toInt = (f 20).toInt; omega) (by show (f 37).toInt + 0 = (f 37).toInt + 0 + 0 + 0; omega) (by show (f 32).toInt + 0 = (f 32).toInt + 0 + 0 + 0; omega) (by show (f 5).toInt + 0 = (f 5).toInt + 0 + 0 + 0; omega)⟩⟩⟩ : mg_good (g'881 34) (g'881 38) (g'881 23) (((23 : Int), (0 : Int), (0 : Int), (0 : Int), []) :: (((7 : Int), (0 : Int), (0 : Int), (0 : Int), []) :: (((1 : Int), (0 : Int), (0 : Int), (0 : Int), []) :: gs))) ((f 15).toInt) ((f 20).toInt) ((f 37).toInt) ((f 32).toInt) ((f 5).toInt))
        · exact ⟨(by show 0 ≤ z865.toInt; omega), (by show z865.toInt ≤ (f 0).toInt; omega), (by show (f 0).toInt ≤ 512; omega), (by show 0 ≤ (f 24).toInt; omega), (by show (f 24).toInt + (f 20).toInt + mg_p1 (((23 : Int), (0 : Int), (0 : Int), (0 : Int), []) :: (((7 : Int), (0 : Int), (0 : Int), (0 : Int), []) :: (((1 : Int), (0 : Int), (0 : Int), (0 : Int), []) :: gs))) ≤ 4 * z865.toInt; omega), (by show (f 20).toInt ≤ z865.toInt; omega), (by show (f 15).toInt + mg_p2 (((23 : Int), (0 : Int), (0 : Int), (0 : Int), []) :: (((7 : Int), (0 : Int), (0 : Int), (0 : Int), []) :: (((1 : Int), (0 : Int), (0 : Int), (0 : Int), []) :: gs))) ≤ z865.toInt; omega), (by show mg_p3 (((23 : Int), (0 : Int), (0 : Int), (0 : Int), []) :: (((7 : Int), (0 : Int), (0 : Int), (0 : Int), []) :: (((1 : Int), (0 : Int), (0 : Int), (0 : Int), []) :: gs))) ≤ 20 * z865.toInt + 20; omega), (by show 0 ≤ (f 68).toInt; omega), (by show (f 68).toInt + 3 * (f 20).toInt + mg_p4 (((23 : Int), (0 : Int), (0 : Int), (0 : Int), []) :: (((7 : Int), (0 : Int), (0 : Int), (0 : Int), []) :: (((1 : Int), (0 : Int), (0 : Int), (0 : Int), []) :: gs))) ≤ 60 * z865.toInt + 60; omega), (by show 0 ≤ (f 62).toInt; omega), (by show (f 62).toInt + 64 * mj_n (g'881 16) (f 15).toNatClampNeg 3 ≤ 64 * z865.toInt; rw [show g'881 16 = g'872 16 from h885_ 16 (by decide), show g'872 16 = g'20 16 from h876_ 16 (by decide), show g'20 16 = g 16 from h24_ 16 (by decide)]; omega), (by show 0 ≤ (f 44).toInt; omega), (by show (f 44).toInt ≤ z865.toInt; omega), (by show 0 ≤ (f 48).toInt; omega), (by show (f 48).toInt ≤ z865.toInt; omega), (by show 1 ≤ (f 53).toInt; omega), (by show (f 53).toInt ≤ z865.toInt + 1; omega), (by show 0 ≤ (f 19).toInt; omega), (by show (f 19).toInt ≤ 600; omega), (by show 0 ≤ (f 6).toInt; omega), (by show 0 ≤ (f 8).toInt; omega)⟩
        · show 100 * ((f 0).toInt - z865.toInt) + mg_p3 (((23 : Int), (0 : Int), (0 : Int), (0 : Int), []) :: (((7 : Int), (0 : Int), (0 : Int), (0 : Int), []) :: (((1 : Int), (0 : Int), (0 : Int), (0 : Int), []) :: gs))) < 100 * ((f 0).toInt - (f 4).toInt) + (1 + mg_p3 gs); omega
      by_cases c887 : r2.toInt = 22
      · refine am_e19 (t := 379) hi_228_6 (am_swI (v := r2) (w := 22) (by decide) (by decide) c887) ?_
        refine am_e2 (v := 39) hi_228_379 rfl ?_
        refine am_e7 hi_228_380 ?_
        refine mm_20 (v := .int (f 4)) hS22 hi_228_381 rfl ?_
        refine am_e0 hi_228_384 ?_
        obtain ⟨z888, hz888, tz888⟩ := am_addI (x := f 4) (y := 1) (m := (f 4).toInt) (n := (1 : Int)) rfl (by decide) (by omega) (by omega)
        refine am_e10 (z := z888) hi_228_385 hz888 ?_
        refine mm_21 (v := z888) hS22 hi_228_386 rfl (Nat.le_of_ble_eq_true rfl) ms_4 ?_
        intro S889 hS890
        replace hS890 : MS S0 S889 (upd (upd f 4 z888) 10 z19) g'20 := hS890
        have hR891 : RJ (upd (upd f 4 z888) 10 z19) g'20 (((1 : Int), (0 : Int), (0 : Int), (0 : Int), []) :: gs) bc [] 0 [] := RJ.at hR25_ (by show (f 4).toInt ≤ z888.toInt; omega)
        refine am_e2 (v := 39) hi_228_389 rfl ?_
        refine am_e1 (v := f 4) hi_228_390 rfl ?_
        refine am_e32w (as := [.ref 39, .int (f 4)]) (la := [some (.ref 39), some (.int (f 4)), none, none, none, none, none, none]) (rest := []) hi_228_391 (am_hd0 (M := 228) (by decide) 391) (Nat.le_of_ble_eq_true rfl) (Nat.le_of_ble_eq_true rfl) (show 2 ≤ am_P0.2.2.1 238 from by decide +kernel) rfl (am_recv_ok hS890.fs) rfl rfl ?_
        refine am_e2 (v := 39) hi_238_0 rfl ?_
        refine am_e32n (as := [.ref 39]) (la := [some (.ref 39)]) (rest := []) hi_238_1 (am_hd0 (M := 238) (by decide) 1) (Nat.le_of_ble_eq_true rfl) (Nat.le_of_ble_eq_true rfl) (show 1 ≤ am_P0.2.2.1 183 from by decide +kernel) rfl (am_recv_ok hS890.fs) rfl rfl (ct_next (d := (d + 3)) hS890   (by show (0 : Int) ≤ z888.toInt; omega) (by show (f 0).toInt ≤ (16384 : Int); omega)) ?_
        rintro v892 S893 (⟨r894, hv895, hS896, h897⟩)
        subst hv895
        have h897_ : z888.toInt < (f 0).toInt ∨ r894.toInt = (-1 : Int) := h897
        show am_E _ _ _ _ [some (.ref 39), some (.int (f 4)), none, none, none, none, none, none] [.int r894] _ _
        refine am_e0 hi_238_4 ?_
        by_cases c899 : ¬ r894.toInt = (18 : Int)
        · refine am_e13t hi_238_6 (am_cT (m := r894.toInt) (n := (18 : Int)) rfl (by decide) c899) ?_
          refine am_e2 (v := 39) hi_238_103 rfl ?_
          refine mm_20 (v := .int (f 20)) hS896 hi_238_104 rfl ?_
          refine am_e3 (ls' := [some (.ref 39), some (.int (f 4)), some (.int (f 20)), none, none, none, none, none]) hi_238_107 (Nat.le_of_ble_eq_true rfl) rfl ?_
          refine am_e0 hi_238_108 ?_
          refine am_e3 (ls' := [some (.ref 39), some (.int (f 4)), some (.int (f 20)), some (.int 1), none, none, none, none]) hi_238_109 (Nat.le_of_ble_eq_true rfl) rfl ?_
          refine am_e0 hi_238_110 ?_
          refine am_e3 (ls' := [some (.ref 39), some (.int (f 4)), some (.int (f 20)), some (.int 1), some (.int 0), none, none, none]) hi_238_111 (Nat.le_of_ble_eq_true rfl) rfl ?_
          refine fr_local (d := d) (f := (upd (upd f 4 z888) 10 z19)) (g := g'20) (w := (f 4)) (k0 := (f 20))  (by show (0 : Int) ≤ z888.toInt; omega) (by show (f 0).toInt ≤ (16384 : Int); omega) (by show z888.toInt ≤ (f 0).toInt; omega) (by show (f 0).toInt ≤ (512 : Int); omega) (by show (0 : Int) ≤ (f 20).toInt; omega) (by show (f 20).toInt ≤ (15000 : Int); omega) (by show (0 : Int) ≤ (f 6).toInt; omega) (by show (0 : Int) ≤ (f 8).toInt; omega) ?_ ?_ ?_ ((2 * ((f 0).toInt - z888.toInt) + (1 : Int)).toNat + 1) _ none none none 1 0 (f 8) (f 9) z888 (f 20) _ hS896 hR891 (fun _ _ => rfl) (fun _ _ => rfl) (fun i h1 h2 => absurd (Int.lt_of_le_of_lt h1 h2) (Int.lt_irrefl _)) (by show z888.toInt ≤ z888.toInt; omega) (by show z888.toInt ≤ (f 0).toInt; omega) (by show (f 20).toInt ≤ (f 20).toInt; omega) (by show (f 20).toInt + z888.toInt ≤ (f 20).toInt + z888.toInt; omega) (by show (0 : Int) ≤ (1 : Int); omega) (by show (1 : Int) ≤ (1 : Int); omega) (by show (0 : Int) ≤ (f 8).toInt; omega) (by show 2 * ((f 0).toInt - z888.toInt) + (1 : Int) < _; omega)
          · intro S906 x5910 x6911 x7912 m3900 c4901 a902 b903 z904 q905 gx909 hS907 hR908 hg913 hg914 hg915 h916 h917 h918 h919 h920
            replace hS907 : MS S0 S906 (upd (upd (upd (upd (upd f 4 z904) 8 a902) 9 b903) 10 z19) 20 q905) gx909 := hS907
            have h916_ : z888.toInt ≤ z904.toInt := h916
            have h917_ : z904.toInt ≤ (f 0).toInt := h917
            have h918_ : (f 20).toInt ≤ q905.toInt := h918
            have h919_ : q905.toInt + z888.toInt ≤ (f 20).toInt + z904.toInt := h919
            have h920_ : (0 : Int) ≤ a902.toInt := h920
            have hR908_ : RJ (upd (upd (upd (upd (upd f 4 z904) 8 a902) 9 b903) 10 z19) 20 q905) gx909 (((1 : Int), (0 : Int), (0 : Int), (0 : Int), []) :: gs) bc [] 0 [] := hR908
            show am_E _ _ _ _ [some (.ref 39), some (.int (f 4)), some (.int (f 20)), some (.int m3900), some (.int c4901), x5910, x6911, x7912] [] _ _
            refine am_e2 (v := 39) hi_238_300 rfl ?_
            refine am_e32n (as := [.ref 39]) (la := [some (.ref 39)]) (rest := []) hi_238_301 (am_hd0 (M := 238) (by decide) 301) (Nat.le_of_ble_eq_true rfl) (Nat.le_of_ble_eq_true rfl) (show 1 ≤ am_P0.2.2.1 183 from by decide +kernel) rfl (am_recv_ok hS907.fs) rfl rfl (ct_next (d := (d + 3)) hS907   (by show (0 : Int) ≤ z904.toInt; omega) (by show (f 0).toInt ≤ (16384 : Int); omega)) ?_
            rintro v921 S922 (⟨r923, hv924, hS925, h926⟩)
            subst hv924
            have h926_ : z904.toInt < (f 0).toInt ∨ r923.toInt = (-1 : Int) := h926
            show am_E _ _ _ _ [some (.ref 39), some (.int (f 4)), some (.int (f 20)), some (.int m3900), some (.int c4901), x5910, x6911, x7912] [.int r923] _ _
            refine am_e0 hi_238_304 ?_
            by_cases c928 : ¬ r923.toInt = (59 : Int)
            · refine am_e13t hi_238_306 (am_cT (m := r923.toInt) (n := (59 : Int)) rfl (by decide) c928) ?_
              refine am_e2 (v := 39) hi_238_335 rfl ?_
              refine am_e2 (v := 39) hi_238_336 rfl ?_
              refine mm_20 (v := .int q905) hS925 hi_238_337 rfl ?_
              refine am_e1 (v := f 20) hi_238_340 rfl ?_
              obtain ⟨z929, hz929, tz929⟩ := am_subI (x := q905) (y := f 20) (m := q905.toInt) (n := (f 20).toInt) rfl rfl (by omega) (by omega)
              refine am_e10 (z := z929) hi_238_341 hz929 ?_
              refine am_e32n (as := [.ref 39, .int z929]) (la := [some (.ref 39), some (.int z929), none]) (rest := []) hi_238_342 (am_hd0 (M := 238) (by decide) 342) (Nat.le_of_ble_eq_true rfl) (Nat.le_of_ble_eq_true rfl) (show 2 ≤ am_P0.2.2.1 240 from by decide +kernel) rfl (am_recv_ok hS925.fs) rfl rfl (ct_nils (d := (d + 3)) hS925 hR908_  (by show (0 : Int) ≤ (f 32).toInt; omega) (by show (f 32).toInt ≤ (63 : Int); omega) (by show (f 53).toInt ≤ (4096 : Int); omega) (by show (0 : Int) ≤ (f 68).toInt; omega) (by show (f 68).toInt ≤ (65534 : Int); omega) (by show (f 68).toInt + z929.toInt ≤ 65534; omega)) ?_
              rintro v930 S931 (⟨s932, g'933, hv934, hS935, hR939, h936, h937, h938⟩)
              subst hv934
              have h936_ : (f 68).toInt ≤ s932.toInt := h936
              have h937_ : s932.toInt ≤ (f 68).toInt + z929.toInt ∨ s932.toInt ≤ (f 68).toInt := h937
              have h938_ : ∀ j, j ∉ [60, 69, 70, 71, 72, 73] → g'933 j = gx909 j := h938
              have hR939_ : RJ (upd (upd (upd (upd (upd (upd f 4 z904) 8 a902) 9 b903) 10 z19) 20 q905) 68 s932) g'933 (((1 : Int), (0 : Int), (0 : Int), (0 : Int), []) :: gs) bc [] 0 [] := hR939
              show am_E _ _ _ _ [some (.ref 39), some (.int (f 4)), some (.int (f 20)), some (.int m3900), some (.int c4901), x5910, x6911, x7912] [] _ _
              refine am_e2 (v := 39) hi_238_345 rfl ?_
              refine am_e1 (v := f 4) hi_238_346 rfl ?_
              refine am_e1 (v := f 20) hi_238_347 rfl ?_
              refine am_e32n (as := [.ref 39, .int (f 4), .int (f 20)]) (la := [some (.ref 39), some (.int (f 4)), some (.int (f 20)), none, none, none]) (rest := []) hi_238_348 (am_hd0 (M := 238) (by decide) 348) (Nat.le_of_ble_eq_true rfl) (Nat.le_of_ble_eq_true rfl) (show 3 ≤ am_P0.2.2.1 241 from by decide +kernel) rfl (am_recv_ok hS935.fs) rfl rfl (ct_localEnd (d := (d + 2)) hS935 hR939_ (by intro i h1 h2; show 0 ≤ (g'933 23 i).toInt ∧ (g'933 23 i).toInt < 16384; rw [show g'933 23 = gx909 23 from h938_ 23 (by decide)]; exact hg915 i (by show (f 20).toInt ≤ (i : Int); omega) (by have h3 : (i : Int) < q905.toInt := h2; omega)) (by show (0 : Int) ≤ (f 32).toInt; omega) (by show (f 32).toInt ≤ (63 : Int); omega) (by show (f 53).toInt ≤ (4096 : Int); omega) (by show (0 : Int) ≤ (f 24).toInt; omega) (by show (f 24).toInt + q905.toInt ≤ 16000; omega) (by show (0 : Int) ≤ (f 20).toInt; omega) (by show (f 20).toInt ≤ q905.toInt; omega) (by show (0 : Int) ≤ s932.toInt; omega) (by show s932.toInt + q905.toInt ≤ 65530; omega) (by show (0 : Int) ≤ a902.toInt; omega)) ?_
              rintro v940 S941 (⟨a942, b943, q944, l945, y946, s947, g'948, hv949, hS950, hR957, h951, h952, h953, h954, h955, h956⟩)
              subst hv949
              have h951_ : q944.toInt = (f 20).toInt := h951
              have h952_ : l945.toInt = (f 24).toInt + q905.toInt - (f 20).toInt := h952
              have h953_ : s932.toInt ≤ s947.toInt := h953
              have h954_ : s947.toInt + (f 20).toInt ≤ s932.toInt + q905.toInt + 1 := h954
              have h955_ : ∀ j, j ∉ [25, 26, 27, 28, 29, 30, 58, 60, 69, 70, 71, 72, 73] → g'948 j = g'933 j := h955
              have h956_ : (0 : Int) ≤ a942.toInt := h956
              replace hS950 : MS S0 S941 (upd (upd (upd (upd (upd (upd (upd (upd f 4 z904) 8 a942) 9 b943) 10 z19) 20 q944) 24 l945) 31 y946) 68 s947) g'948 := hS950
              have hR957_ : RJ (upd (upd (upd (upd (upd (upd (upd (upd f 4 z904) 8 a942) 9 b943) 10 z19) 20 q944) 24 l945) 31 y946) 68 s947) g'948 (((1 : Int), (0 : Int), (0 : Int), (0 : Int), []) :: gs) bc [] 0 [] := hR957
              show am_E _ _ _ _ [some (.ref 39), some (.int (f 4)), some (.int (f 20)), some (.int m3900), some (.int c4901), x5910, x6911, x7912] [] _ _
              refine am_e35 hi_238_351 ?_
              show am_E _ _ _ _ [some (.ref 39), some (.int r2), some (.int (f 4))] [] _ _
              refine am_e18 hi_228_394 ?_
              refine am_e35 hi_228_422 ?_
              show am_E _ _ _ _ [some (.ref 39), some (.int r2)] [] _ _
              refine am_e35 hi_225_33 ?_
              show am_E _ _ _ _ [some (.ref 39), some (.int 1), some (.int on), some (.int tw), some (.int th)] [] _ _
              refine am_e18 hi_180_116 ?_
              refine am_e35 hi_180_371 ?_
              have q1 : mg_p1 (((1 : Int), (0 : Int), (0 : Int), (0 : Int), []) :: gs) = 0 + (mg_p1 gs) := rfl
              have q2 : mg_p2 (((1 : Int), (0 : Int), (0 : Int), (0 : Int), []) :: gs) = 0 + (mg_p2 gs) := rfl
              have q3 : mg_p3 (((1 : Int), (0 : Int), (0 : Int), (0 : Int), []) :: gs) = 1 + (mg_p3 gs) := rfl
              have q4 : mg_p4 (((1 : Int), (0 : Int), (0 : Int), (0 : Int), []) :: gs) = 0 + (mg_p4 gs) := rfl
              refine ⟨_, _, _, bc, rfl, hS950, Or.inl ⟨⟨hR957_, ?_, ?_⟩, rfl, ?_⟩⟩
              · exact (⟨⟨(show mg_k 1 from by decide), (show (0 : Int) ≤ (f 15).toInt from by omega), (show 0 ≤ q944.toInt from by omega), (show 1 ≤ (f 37).toInt from by omega), (show 0 ≤ (f 32).toInt from by omega), (show (f 32).toInt ≤ (f 5).toInt from by omega), (show (f 5).toInt ≤ 48 from by omega), (show (f 37).toInt ≤ 2 * ((f 5).toInt) + 1 from by omega), trivial⟩, mg_cast (mg_good_ext _ _ _ _ _ _ (fun i _ => by show g'948 34 i = g 34 i; rw [show g'948 34 = g'933 34 from h955_ 34 (by decide), show g'933 34 = gx909 34 from h938_ 34 (by decide), show gx909 34 = g'20 34 from hg913 34 (by decide), show g'20 34 = g 34 from h24_ 34 (by decide)]) (fun i _ => by show g'948 38 i = g 38 i; rw [show g'948 38 = g'933 38 from h955_ 38 (by decide), show g'933 38 = gx909 38 from h938_ 38 (by decide), show gx909 38 = g'20 38 from hg913 38 (by decide), show g'20 38 = g 38 from h24_ 38 (by decide)]) (fun i hi => by show g'948 23 i = g 23 i; rw [show g'948 23 = g'933 23 from h955_ 23 (by decide), show g'933 23 = gx909 23 from h938_ 23 (by decide)]; rw [hg914 i (by have h3 : (i : Int) < (f 20).toInt := hi; show (i : Int) < (f 20).toInt; omega)]; show g'20 23 i = g 23 i; rw [show g'20 23 = g 23 from h24_ 23 (by decide)]) hrest) (by show (f 15).toInt + 0 = (f 15).toInt + 0; omega) (by show (f 20).toInt = q944.toInt; omega) (by show (f 37).toInt + 0 = (f 37).toInt + 0; omega) (by show (f 32).toInt + 0 = (f 32).toInt + 0; omega) (by show (f 5).toInt + 0 = (f 5).toInt + 0; omega)⟩ : mg_good (g'948 34) (g'948 38) (g'948 23) (((1 : Int), (0 : Int), (0 : Int), (0 : Int), []) :: gs) ((f 15).toInt) (q944.toInt) ((f 37).toInt) ((f 32).toInt) ((f 5).toInt))
              · exact ⟨(by show 0 ≤ z904.toInt; omega), (by show z904.toInt ≤ (f 0).toInt; omega), (by show (f 0).toInt ≤ 512; omega), (by show 0 ≤ l945.toInt; omega), (by show l945.toInt + q944.toInt + mg_p1 (((1 : Int), (0 : Int), (0 : Int), (0 : Int), []) :: gs) ≤ 4 * z904.toInt; omega), (by show q944.toInt ≤ z904.toInt; omega), (by show (f 15).toInt + mg_p2 (((1 : Int), (0 : Int), (0 : Int), (0 : Int), []) :: gs) ≤ z904.toInt; omega), (by show mg_p3 (((1 : Int), (0 : Int), (0 : Int), (0 : Int), []) :: gs) ≤ 20 * z904.toInt + 20; omega), (by show 0 ≤ s947.toInt; omega), (by show s947.toInt + 3 * q944.toInt + mg_p4 (((1 : Int), (0 : Int), (0 : Int), (0 : Int), []) :: gs) ≤ 60 * z904.toInt + 60; omega), (by show 0 ≤ (f 62).toInt; omega), (by show (f 62).toInt + 64 * mj_n (g'948 16) (f 15).toNatClampNeg 3 ≤ 64 * z904.toInt; rw [show g'948 16 = g'933 16 from h955_ 16 (by decide), show g'933 16 = gx909 16 from h938_ 16 (by decide), show gx909 16 = g'20 16 from hg913 16 (by decide), show g'20 16 = g 16 from h24_ 16 (by decide)]; omega), (by show 0 ≤ (f 44).toInt; omega), (by show (f 44).toInt ≤ z904.toInt; omega), (by show 0 ≤ (f 48).toInt; omega), (by show (f 48).toInt ≤ z904.toInt; omega), (by show 1 ≤ (f 53).toInt; omega), (by show (f 53).toInt ≤ z904.toInt + 1; omega), (by show 0 ≤ (f 19).toInt; omega), (by show (f 19).toInt ≤ 600; omega), (by show 0 ≤ (f 6).toInt; omega), (by show 0 ≤ a942.toInt; omega)⟩
              · show 100 * ((f 0).toInt - z904.toInt) + mg_p3 (((1 : Int), (0 : Int), (0 : Int), (0 : Int), []) :: gs) < 100 * ((f 0).toInt - (f 4).toInt) + (1 + mg_p3 gs); omega
            · refine am_e13f hi_238_306 (am_cF (m := r923.toInt) (n := (59 : Int)) rfl (by decide) c928) ?_
              refine am_e2 (v := 39) hi_238_309 rfl ?_
              refine am_e7 hi_238_310 ?_
              refine mm_20 (v := .int z904) hS925 hi_238_311 rfl ?_
              refine am_e0 hi_238_314 ?_
              obtain ⟨z958, hz958, tz958⟩ := am_addI (x := z904) (y := 1) (m := z904.toInt) (n := (1 : Int)) rfl (by decide) (by omega) (by omega)
              refine am_e10 (z := z958) hi_238_315 hz958 ?_
              refine mm_21 (v := z958) hS925 hi_238_316 rfl (Nat.le_of_ble_eq_true rfl) ms_4 ?_
              intro S959 hS960
              replace hS960 : MS S0 S959 (upd (upd (upd (upd (upd f 4 z958) 8 a902) 9 b903) 10 z19) 20 q905) gx909 := hS960
              have hR961 : RJ (upd (upd (upd (upd (upd f 4 z958) 8 a902) 9 b903) 10 z19) 20 q905) gx909 (((1 : Int), (0 : Int), (0 : Int), (0 : Int), []) :: gs) bc [] 0 [] := RJ.at hR908_ (by show z904.toInt ≤ z958.toInt; omega)
              refine am_e2 (v := 39) hi_238_319 rfl ?_
              refine am_e0 hi_238_320 ?_
              refine am_e1 (v := f 4) hi_238_322 rfl ?_
              refine am_e1 (v := f 20) hi_238_323 rfl ?_
              refine am_e0 hi_238_324 ?_
              refine am_e32n (as := [.ref 39, .int 18, .int (f 4), .int (f 20), .int 0]) (la := [some (.ref 39), some (.int 18), some (.int (f 4)), some (.int (f 20)), some (.int 0)]) (rest := []) hi_238_325 (am_hd0 (M := 238) (by decide) 325) (Nat.le_of_ble_eq_true rfl) (Nat.le_of_ble_eq_true rfl) (show 5 ≤ am_P0.2.2.1 179 from by decide +kernel) rfl (am_recv_ok hS960.fs) rfl rfl (ct_pile (d := (d + 4)) hS960 hR961 (mj_e_plain (by decide)) (by show (0 : Int) ≤ z19.toInt; omega) (by show z19.toInt ≤ (65535 : Int); omega)) ?_
              rintro v962 S963 (⟨z964, g'965, hv966, hS967, hR970, h968, h969⟩)
              subst hv966
              have h968_ : z964.toInt = z19.toInt + 1 := h968
              have h969_ : ∀ j, j ∉ [11, 12, 13, 14] → g'965 j = gx909 j := h969
              replace hS967 : MS S0 S963 (upd (upd (upd (upd (upd f 4 z958) 8 a902) 9 b903) 10 z964) 20 q905) g'965 := hS967
              have hR970_ : RJ (upd (upd (upd (upd (upd f 4 z958) 8 a902) 9 b903) 10 z964) 20 q905) g'965 (((18 : Int), (f 4).toInt, (f 20).toInt, (0 : Int), []) :: (((1 : Int), (0 : Int), (0 : Int), (0 : Int), []) :: gs)) bc [] 0 [] := hR970
              show am_E _ _ _ _ [some (.ref 39), some (.int (f 4)), some (.int (f 20)), some (.int m3900), some (.int c4901), x5910, x6911, x7912] [] _ _
              refine am_e2 (v := 39) hi_238_328 rfl ?_
              refine am_e32w (as := [.ref 39]) (la := [some (.ref 39)]) (rest := []) hi_238_329 (am_hd0 (M := 238) (by decide) 329) (Nat.le_of_ble_eq_true rfl) (Nat.le_of_ble_eq_true rfl) (show 1 ≤ am_P0.2.2.1 214 from by decide +kernel) rfl (am_recv_ok hS967.fs) rfl rfl ?_
              refine am_e2 (v := 39) hi_214_0 rfl ?_
              refine am_e0 hi_214_1 ?_
              refine am_e0 hi_214_3 ?_
              refine am_e0 hi_214_4 ?_
              refine am_e0 hi_214_5 ?_
              refine am_e32n (as := [.ref 39, .int 34, .int 1, .int 0, .int 0]) (la := [some (.ref 39), some (.int 34), some (.int 1), some (.int 0), some (.int 0)]) (rest := []) hi_214_6 (am_hd0 (M := 214) (by decide) 6) (Nat.le_of_ble_eq_true rfl) (Nat.le_of_ble_eq_true rfl) (show 5 ≤ am_P0.2.2.1 179 from by decide +kernel) rfl (am_recv_ok hS967.fs) rfl rfl (ct_pile (d := (d + 3)) hS967 hR970_ (mj_e_plain (by decide)) (by show (0 : Int) ≤ z964.toInt; omega) (by show z964.toInt ≤ (65535 : Int); omega)) ?_
              rintro v971 S972 (⟨z973, g'974, hv975, hS976, hR979, h977, h978⟩)
              subst hv975
              have h977_ : z973.toInt = z964.toInt + 1 := h977
              have h978_ : ∀ j, j ∉ [11, 12, 13, 14] → g'974 j = g'965 j := h978
              replace hS976 : MS S0 S972 (upd (upd (upd (upd (upd f 4 z958) 8 a902) 9 b903) 10 z973) 20 q905) g'974 := hS976
              have hR979_ : RJ (upd (upd (upd (upd (upd f 4 z958) 8 a902) 9 b903) 10 z973) 20 q905) g'974 (((34 : Int), (1 : Int), (0 : Int), (0 : Int), []) :: (((18 : Int), (f 4).toInt, (f 20).toInt, (0 : Int), []) :: (((1 : Int), (0 : Int), (0 : Int), (0 : Int), []) :: gs))) bc [] 0 [] := hR979
              show am_E _ _ _ _ [some (.ref 39)] [] _ _
              refine am_e2 (v := 39) hi_214_9 rfl ?_
              refine am_e0 hi_214_10 ?_
              refine am_e32w (as := [.ref 39, .int 0]) (la := [some (.ref 39), some (.int 0)]) (rest := []) hi_214_11 (am_hd0 (M := 214) (by decide) 11) (Nat.le_of_ble_eq_true rfl) (Nat.le_of_ble_eq_true rfl) (show 2 ≤ am_P0.2.2.1 186 from by decide +kernel) rfl (am_recv_ok hS976.fs) rfl rfl ?_
              refine am_e2 (v := 39) hi_186_0 rfl ?_
              refine am_e0 hi_186_1 ?_
              refine am_e1 (v := 0) hi_186_3 rfl ?_
              refine am_e0 hi_186_4 ?_
              refine am_e0 hi_186_5 ?_
              refine am_e32n (as := [.ref 39, .int 23, .int 0, .int 0, .int 0]) (la := [some (.ref 39), some (.int 23), some (.int 0), some (.int 0), some (.int 0)]) (rest := []) hi_186_6 (am_hd0 (M := 186) (by decide) 6) (Nat.le_of_ble_eq_true rfl) (Nat.le_of_ble_eq_true rfl) (show 5 ≤ am_P0.2.2.1 179 from by decide +kernel) rfl (am_recv_ok hS976.fs) rfl rfl (ct_pile (d := (d + 2)) hS976 hR979_ (mj_e_plain (by decide)) (by show (0 : Int) ≤ z973.toInt; omega) (by show z973.toInt ≤ (65535 : Int); omega)) ?_
              rintro v980 S981 (⟨z982, g'983, hv984, hS985, hR988, h986, h987⟩)
              subst hv984
              have h986_ : z982.toInt = z973.toInt + 1 := h986
              have h987_ : ∀ j, j ∉ [11, 12, 13, 14] → g'983 j = g'974 j := h987
              replace hS985 : MS S0 S981 (upd (upd (upd (upd (upd f 4 z958) 8 a902) 9 b903) 10 z982) 20 q905) g'983 := hS985
              have hR988_ : RJ (upd (upd (upd (upd (upd f 4 z958) 8 a902) 9 b903) 10 z982) 20 q905) g'983 (((23 : Int), (0 : Int), (0 : Int), (0 : Int), []) :: (((34 : Int), (1 : Int), (0 : Int), (0 : Int), []) :: (((18 : Int), (f 4).toInt, (f 20).toInt, (0 : Int), []) :: (((1 : Int), (0 : Int), (0 : Int), (0 : Int), []) :: gs)))) bc [] 0 [] := hR988
              show am_E _ _ _ _ [some (.ref 39), some (.int 0)] [] _ _
              refine am_e35 hi_186_9 ?_
              show am_E _ _ _ _ [some (.ref 39)] [] _ _
              refine am_e35 hi_214_14 ?_
              show am_E _ _ _ _ [some (.ref 39), some (.int (f 4)), some (.int (f 20)), some (.int m3900), some (.int c4901), x5910, x6911, x7912] [] _ _
              refine am_e18 hi_238_332 ?_
              refine am_e35 hi_238_351 ?_
              show am_E _ _ _ _ [some (.ref 39), some (.int r2), some (.int (f 4))] [] _ _
              refine am_e18 hi_228_394 ?_
              refine am_e35 hi_228_422 ?_
              show am_E _ _ _ _ [some (.ref 39), some (.int r2)] [] _ _
              refine am_e35 hi_225_33 ?_
              show am_E _ _ _ _ [some (.ref 39), some (.int 1), some (.int on), some (.int tw), some (.int th)] [] _ _
              refine am_e18 hi_180_116 ?_
              refine am_e35 hi_180_371 ?_
              have q1 : mg_p1 (((23 : Int), (0 : Int), (0 : Int), (0 : Int), []) :: (((34 : Int), (1 : Int), (0 : Int), (0 : Int), []) :: (((18 : Int), (f 4).toInt, (f 20).toInt, (0 : Int), []) :: (((1 : Int), (0 : Int), (0 : Int), (0 : Int), []) :: gs)))) = 0 + (0 + (0 + (0 + (mg_p1 gs)))) := rfl
              have q2 : mg_p2 (((23 : Int), (0 : Int), (0 : Int), (0 : Int), []) :: (((34 : Int), (1 : Int), (0 : Int), (0 : Int), []) :: (((18 : Int), (f 4).toInt, (f 20).toInt, (0 : Int), []) :: (((1 : Int), (0 : Int), (0 : Int), (0 : Int), []) :: gs)))) = 0 + (((1 : Int) - 1) + (0 + (0 + (mg_p2 gs)))) := rfl
              have q3 : mg_p3 (((23 : Int), (0 : Int), (0 : Int), (0 : Int), []) :: (((34 : Int), (1 : Int), (0 : Int), (0 : Int), []) :: (((18 : Int), (f 4).toInt, (f 20).toInt, (0 : Int), []) :: (((1 : Int), (0 : Int), (0 : Int), (0 : Int), []) :: gs)))) = 1 + (1 + (1 + (1 + (mg_p3 gs)))) := rfl
              have q4 : mg_p4 (((23 : Int), (0 : Int), (0 : Int), (0 : Int), []) :: (((34 : Int), (1 : Int), (0 : Int), (0 : Int), []) :: (((18 : Int), (f 4).toInt, (f 20).toInt, (0 : Int), []) :: (((1 : Int), (0 : Int), (0 : Int), (0 : Int), []) :: gs)))) = 0 + (0 + (5 + (0 + (mg_p4 gs)))) := rfl
              refine ⟨_, _, _, bc, rfl, hS985, Or.inl ⟨⟨hR988_, ?_, ?_⟩, rfl, ?_⟩⟩
              · exact (⟨⟨(show mg_k 23 from by decide), (show (0 : Int) ≤ (f 15).toInt from by omega), (show 0 ≤ q905.toInt from by omega), (show 1 ≤ (f 37).toInt from by omega), (show 0 ≤ (f 32).toInt from by omega), (show (f 32).toInt ≤ (f 5).toInt from by omega), (show (f 5).toInt ≤ 48 from by omega), (show (f 37).toInt ≤ 2 * ((f 5).toInt) + 2 from by omega), (show 0 ≤ (0 : Int) from by omega)⟩, ⟨⟨(show mg_k 34 from by decide), (show (1 : Int) ≤ (f 15).toInt + 1 from by omega), (show 0 ≤ q905.toInt from by omega), (show 1 ≤ (f 37).toInt + 0 from by omega), (show 0 ≤ (f 32).toInt + 0 from by omega), (show (f 32).toInt + 0 ≤ (f 5).toInt + 0 from by omega), (show (f 5).toInt + 0 ≤ 48 from by omega), (show (f 37).toInt + 0 ≤ 2 * ((f 5).toInt + 0) + 2 from by omega), (show 1 ≤ (1 : Int) from by omega)⟩, ⟨⟨(show mg_k 18 from by decide), (show (1 : Int) ≤ (f 15).toInt + 1 + 0 from by omega), (show 0 ≤ q905.toInt from by omega), (show 1 ≤ (f 37).toInt + 0 + 0 from by omega), (show 0 ≤ (f 32).toInt + 0 + 0 from by omega), (show (f 32).toInt + 0 + 0 ≤ (f 5).toInt + 0 + 0 from by omega), (show (f 5).toInt + 0 + 0 ≤ 48 from by omega), (show (f 37).toInt + 0 + 0 ≤ 2 * ((f 5).toInt + 0 + 0) + 1 from by omega), ⟨(show 0 ≤ (f 20).toInt from by omega), (show (f 20).toInt ≤ q905.toInt from by omega), (by intro i h1 h2; show 0 ≤ (g'983 23 i).toInt ∧ (g'983 23 i).toInt < 16384; rw [show g'983 23 = g'974 23 from h987_ 23 (by decide), show g'974 23 = g'965 23 from h978_ 23 (by decide), show g'965 23 = gx909 23 from h969_ 23 (by decide)]; exact hg915 i (by have h3 : (f 20).toInt ≤ (i : Int) := h1; show (f 20).toInt ≤ (i : Int); omega) (by have h3 : (i : Int) < q905.toInt := h2; omega))⟩⟩, ⟨⟨(show mg_k 1 from by decide), (show (0 : Int) ≤ (f 15).toInt + 1 + 0 + -1 from by omega), (show 0 ≤ (f 20).toInt from by omega), (show 1 ≤ (f 37).toInt + 0 + 0 + 0 from by omega), (show 0 ≤ (f 32).toInt + 0 + 0 + 0 from by omega), (show (f 32).toInt + 0 + 0 + 0 ≤ (f 5).toInt + 0 + 0 + 0 from by omega), (show (f 5).toInt + 0 + 0 + 0 ≤ 48 from by omega), (show (f 37).toInt + 0 + 0 + 0 ≤ 2 * ((f 5).toInt + 0 + 0 + 0) + 1 from by omega), trivial⟩, mg_cast (mg_good_ext _ _ _ _ _ _ (fun i _ => by show g'983 34 i = g 34 i; rw [show g'983 34 = g'974 34 from h987_ 34 (by decide), show g'974 34 = g'965 34 from h978_ 34 (by decide), show g'965 34 = gx909 34 from h969_ 34 (by decide), show gx909 34 = g'20 34 from hg913 34 (by decide), show g'20 34 = g 34 from h24_ 34 (by decide)]) (fun i _ => by show g'983 38 i = g 38 i; rw [show g'983 38 = g'974 38 from h987_ 38 (by decide), show g'974 38 = g'965 38 from h978_ 38 (by decide), show g'965 38 = gx909 38 from h969_ 38 (by decide), show gx909 38 = g'20 38 from hg913 38 (by decide), show g'20 38 = g 38 from h24_ 38 (by decide)]) (fun i hi => by show g'983 23 i = g 23 i; rw [show g'983 23 = g'974 23 from h987_ 23 (by decide), show g'974 23 = g'965 23 from h978_ 23 (by decide), show g'965 23 = gx909 23 from h969_ 23 (by decide)]; rw [hg914 i (by have h3 : (i : Int) < (f 20).toInt := hi; show (i : Int) < (f 20).toInt; omega)]; show g'20 23 i = g 23 i; rw [show g'20 23 = g 23 from h24_ 23 (by decide)]) hrest) (by show (f 15).toInt + 0 = (f 15).toInt + 1 + 0 + -1 + 0; omega) (by show (f 20).toInt = (f 20).toInt; omega) (by show (f 37).toInt + 0 = (f 37).toInt + 0 + 0 + 0 + 0; omega) (by show (f 32).toInt + 0 = (f 32).toInt + 0 + 0 + 0 + 0; omega) (by show (f 5).toInt + 0 = (f 5).toInt + 0 + 0 + 0 + 0; omega)⟩⟩⟩⟩ : mg_good (g'983 34) (g'983 38) (g'983 23) (((23 : Int), (0 : Int), (0 : Int), (0 : Int), []) :: (((34 : Int), (1 : Int), (0 : Int), (0 : Int), []) :: (((18 : Int), (f 4).toInt, (f 20).toInt, (0 : Int), []) :: (((1 : Int), (0 : Int), (0 : Int), (0 : Int), []) :: gs)))) ((f 15).toInt) (q905.toInt) ((f 37).toInt) ((f 32).toInt) ((f 5).toInt))
              · exact ⟨(by show 0 ≤ z958.toInt; omega), (by show z958.toInt ≤ (f 0).toInt; omega), (by show (f 0).toInt ≤ 512; omega), (by show 0 ≤ (f 24).toInt; omega), (by show (f 24).toInt + q905.toInt + mg_p1 (((23 : Int), (0 : Int), (0 : Int), (0 : Int), []) :: (((34 : Int), (1 : Int), (0 : Int), (0 : Int), []) :: (((18 : Int), (f 4).toInt, (f 20).toInt, (0 : Int), []) :: (((1 : Int), (0 : Int), (0 : Int), (0 : Int), []) :: gs)))) ≤ 4 * z958.toInt; omega), (by show q905.toInt ≤ z958.toInt; omega), (by show (f 15).toInt + mg_p2 (((23 : Int), (0 : Int), (0 : Int), (0 : Int), []) :: (((34 : Int), (1 : Int), (0 : Int), (0 : Int), []) :: (((18 : Int), (f 4).toInt, (f 20).toInt, (0 : Int), []) :: (((1 : Int), (0 : Int), (0 : Int), (0 : Int), []) :: gs)))) ≤ z958.toInt; omega), (by show mg_p3 (((23 : Int), (0 : Int), (0 : Int), (0 : Int), []) :: (((34 : Int), (1 : Int), (0 : Int), (0 : Int), []) :: (((18 : Int), (f 4).toInt, (f 20).toInt, (0 : Int), []) :: (((1 : Int), (0 : Int), (0 : Int), (0 : Int), []) :: gs)))) ≤ 20 * z958.toInt + 20; omega), (by show 0 ≤ (f 68).toInt; omega), (by show (f 68).toInt + 3 * q905.toInt + mg_p4 (((23 : Int), (0 : Int), (0 : Int), (0 : Int), []) :: (((34 : Int), (1 : Int), (0 : Int), (0 : Int), []) :: (((18 : Int), (f 4).toInt, (f 20).toInt, (0 : Int), []) :: (((1 : Int), (0 : Int), (0 : Int), (0 : Int), []) :: gs)))) ≤ 60 * z958.toInt + 60; omega), (by show 0 ≤ (f 62).toInt; omega), (by show (f 62).toInt + 64 * mj_n (g'983 16) (f 15).toNatClampNeg 3 ≤ 64 * z958.toInt; rw [show g'983 16 = g'974 16 from h987_ 16 (by decide), show g'974 16 = g'965 16 from h978_ 16 (by decide), show g'965 16 = gx909 16 from h969_ 16 (by decide), show gx909 16 = g'20 16 from hg913 16 (by decide), show g'20 16 = g 16 from h24_ 16 (by decide)]; omega), (by show 0 ≤ (f 44).toInt; omega), (by show (f 44).toInt ≤ z958.toInt; omega), (by show 0 ≤ (f 48).toInt; omega), (by show (f 48).toInt ≤ z958.toInt; omega), (by show 1 ≤ (f 53).toInt; omega), (by show (f 53).toInt ≤ z958.toInt + 1; omega), (by show 0 ≤ (f 19).toInt; omega), (by show (f 19).toInt ≤ 600; omega), (by show 0 ≤ (f 6).toInt; omega), (by show 0 ≤ a902.toInt; omega)⟩
              · show 100 * ((f 0).toInt - z958.toInt) + mg_p3 (((23 : Int), (0 : Int), (0 : Int), (0 : Int), []) :: (((34 : Int), (1 : Int), (0 : Int), (0 : Int), []) :: (((18 : Int), (f 4).toInt, (f 20).toInt, (0 : Int), []) :: (((1 : Int), (0 : Int), (0 : Int), (0 : Int), []) :: gs)))) < 100 * ((f 0).toInt - (f 4).toInt) + (1 + mg_p3 gs); omega
          · intro S995 x3999 x41000 x51001 x61002 x71003 a989 b990 z991 q992 u_993 v_994 gx998 hS996 hR997 hg1004 h1005 h1006 h1007 h1008 h1009 h1010
            replace hS996 : MS S0 S995 (upd (upd (upd (upd (upd (upd (upd f 4 z991) 6 u_993) 7 v_994) 8 a989) 9 b990) 10 0) 20 q992) gx998 := hS996
            have h1005_ : z888.toInt ≤ z991.toInt := h1005
            have h1006_ : z991.toInt ≤ (f 0).toInt := h1006
            have h1007_ : (f 20).toInt ≤ q992.toInt := h1007
            have h1008_ : q992.toInt + z888.toInt ≤ (f 20).toInt + z991.toInt := h1008
            have h1009_ : (0 : Int) ≤ u_993.toInt := h1009
            have h1010_ : (0 : Int) ≤ a989.toInt := h1010
            have hR997_ : RJ (upd (upd (upd (upd (upd (upd (upd f 4 z991) 6 u_993) 7 v_994) 8 a989) 9 b990) 10 0) 20 q992) gx998 [] bc [] 0 [] := hR997
            show am_E _ _ _ _ [some (.ref 39), some (.int (f 4)), some (.int (f 20)), x3999, x41000, x51001, x61002, x71003] [] _ _
            refine am_e35 hi_238_131 ?_
            show am_E _ _ _ _ [some (.ref 39), some (.int r2), some (.int (f 4))] [] _ _
            refine am_e18 hi_228_394 ?_
            refine am_e35 hi_228_422 ?_
            show am_E _ _ _ _ [some (.ref 39), some (.int r2)] [] _ _
            refine am_e35 hi_225_33 ?_
            show am_E _ _ _ _ [some (.ref 39), some (.int 1), some (.int on), some (.int tw), some (.int th)] [] _ _
            refine am_e18 hi_180_116 ?_
            refine am_e35 hi_180_371 ?_
            have hRc := rj_clear0 hR997_
            refine ⟨_, _, [], _, rfl, hS996, Or.inr ⟨hRc, rfl, (by show 0 ≤ z991.toInt; omega), (by show z991.toInt ≤ (f 0).toInt; omega), (by show 0 ≤ (f 32).toInt; omega), (by show (f 32).toInt ≤ 63; omega), (by show 1 ≤ (f 53).toInt; omega), (by show (f 53).toInt ≤ 600; omega), (by show 0 ≤ (f 68).toInt; omega), (by show (f 68).toInt ≤ 60000; omega), (by show 0 ≤ (f 48).toInt; omega), (by show (f 48).toInt ≤ 8000; omega), (by show 0 ≤ (f 37).toInt; omega), (by show (f 37).toInt ≤ 128; omega), (by show 0 ≤ (f 62).toInt; omega), (by show (f 62).toInt ≤ 65000; omega), (by show 0 ≤ (f 19).toInt; omega), (by show (f 19).toInt ≤ 600; omega), (by show 0 ≤ u_993.toInt; omega), (by show 0 ≤ a989.toInt; omega)⟩⟩
          · intro S1017 x31021 x41022 x51023 x61024 x71025 a1011 b1012 z1013 q1014 u_1015 v_1016 gx1020 hS1018 hR1019 hg1026 h1027 h1028 h1029 h1030 h1031 h1032
            replace hS1018 : MS S0 S1017 (upd (upd (upd (upd (upd (upd (upd f 4 z1013) 6 u_1015) 7 v_1016) 8 a1011) 9 b1012) 10 0) 20 q1014) gx1020 := hS1018
            have h1027_ : z888.toInt ≤ z1013.toInt := h1027
            have h1028_ : z1013.toInt ≤ (f 0).toInt := h1028
            have h1029_ : (f 20).toInt ≤ q1014.toInt := h1029
            have h1030_ : q1014.toInt + z888.toInt ≤ (f 20).toInt + z1013.toInt := h1030
            have h1031_ : (0 : Int) ≤ u_1015.toInt := h1031
            have h1032_ : (0 : Int) ≤ a1011.toInt := h1032
            have hR1019_ : RJ (upd (upd (upd (upd (upd (upd (upd f 4 z1013) 6 u_1015) 7 v_1016) 8 a1011) 9 b1012) 10 0) 20 q1014) gx1020 [] bc [] 0 [] := hR1019
            show am_E _ _ _ _ [some (.ref 39), some (.int (f 4)), some (.int (f 20)), x31021, x41022, x51023, x61024, x71025] [] _ _
            refine am_e35 hi_238_177 ?_
            show am_E _ _ _ _ [some (.ref 39), some (.int r2), some (.int (f 4))] [] _ _
            refine am_e18 hi_228_394 ?_
            refine am_e35 hi_228_422 ?_
            show am_E _ _ _ _ [some (.ref 39), some (.int r2)] [] _ _
            refine am_e35 hi_225_33 ?_
            show am_E _ _ _ _ [some (.ref 39), some (.int 1), some (.int on), some (.int tw), some (.int th)] [] _ _
            refine am_e18 hi_180_116 ?_
            refine am_e35 hi_180_371 ?_
            have hRc := rj_clear0 hR1019_
            refine ⟨_, _, [], _, rfl, hS1018, Or.inr ⟨hRc, rfl, (by show 0 ≤ z1013.toInt; omega), (by show z1013.toInt ≤ (f 0).toInt; omega), (by show 0 ≤ (f 32).toInt; omega), (by show (f 32).toInt ≤ 63; omega), (by show 1 ≤ (f 53).toInt; omega), (by show (f 53).toInt ≤ 600; omega), (by show 0 ≤ (f 68).toInt; omega), (by show (f 68).toInt ≤ 60000; omega), (by show 0 ≤ (f 48).toInt; omega), (by show (f 48).toInt ≤ 8000; omega), (by show 0 ≤ (f 37).toInt; omega), (by show (f 37).toInt ≤ 128; omega), (by show 0 ≤ (f 62).toInt; omega), (by show (f 62).toInt ≤ 65000; omega), (by show 0 ≤ (f 19).toInt; omega), (by show (f 19).toInt ≤ 600; omega), (by show 0 ≤ u_1015.toInt; omega), (by show 0 ≤ a1011.toInt; omega)⟩⟩
        · refine am_e13f hi_238_6 (am_cF (m := r894.toInt) (n := (18 : Int)) rfl (by decide) c899) ?_
          refine am_e2 (v := 39) hi_238_9 rfl ?_
          refine mm_20 (v := .int z888) hS896 hi_238_10 rfl ?_
          refine am_e3 (ls' := [some (.ref 39), some (.int (f 4)), some (.int z888), none, none, none, none, none]) hi_238_13 (Nat.le_of_ble_eq_true rfl) rfl ?_
          refine am_e2 (v := 39) hi_238_14 rfl ?_
          refine am_e0 hi_238_15 ?_
          refine am_e32n (as := [.ref 39, .int 18]) (la := [some (.ref 39), some (.int 18)]) (rest := []) hi_238_17 (am_hd0 (M := 238) (by decide) 17) (Nat.le_of_ble_eq_true rfl) (Nat.le_of_ble_eq_true rfl) (show 2 ≤ am_P0.2.2.1 193 from by decide +kernel) rfl (am_recv_ok hS896.fs) rfl rfl (ct_enter (d := (d + 2)) hS896   (by show (0 : Int) ≤ z888.toInt; omega) (by show (f 0).toInt ≤ (16384 : Int); omega) (by show (0 : Int) ≤ (18 : Int); omega) (by show (0 : Int) ≤ (f 5).toInt; omega) (by show (f 5).toInt ≤ (48 : Int); omega) (by show (0 : Int) ≤ (f 6).toInt; omega)) ?_
          rintro v1033 S1034 (⟨z1035, y1036, hv1037, hS1038, h1039, h1040, h1041, h1042⟩ | ⟨a1044, b1045, hv1046, hS1047, h1048⟩)
          · subst hv1037
            have h1039_ : z1035.toInt = z888.toInt + 1 := h1039
            have h1040_ : z888.toInt < (f 0).toInt := h1040
            have h1041_ : y1036.toInt = (f 5).toInt + 1 := h1041
            have h1042_ : y1036.toInt ≤ (48 : Int) := h1042
            replace hS1038 : MS S0 S1034 (upd (upd (upd f 4 z1035) 5 y1036) 10 z19) g'20 := hS1038
            have hR1050 : RJ (upd (upd (upd f 4 z1035) 5 y1036) 10 z19) g'20 (((1 : Int), (0 : Int), (0 : Int), (0 : Int), []) :: gs) bc [] 0 [] := RJ.at hR891 (by show z888.toInt ≤ z1035.toInt; omega)
            show am_E _ _ _ _ [some (.ref 39), some (.int (f 4)), some (.int z888), none, none, none, none, none] [.int 1] _ _
            refine am_e12t hi_238_20 (by decide) ?_
            refine am_e2 (v := 39) hi_238_24 rfl ?_
            refine mm_20 (v := .int z1035) hS1038 hi_238_25 rfl ?_
            refine am_e3 (ls' := [some (.ref 39), some (.int (f 4)), some (.int z888), some (.int z1035), none, none, none, none]) hi_238_28 (Nat.le_of_ble_eq_true rfl) rfl ?_
            refine am_e2 (v := 39) hi_238_29 rfl ?_
            refine am_e0 hi_238_30 ?_
            refine am_e32n (as := [.ref 39, .int 1]) (la := [some (.ref 39), some (.int 1)]) (rest := []) hi_238_31 (am_hd0 (M := 238) (by decide) 31) (Nat.le_of_ble_eq_true rfl) (Nat.le_of_ble_eq_true rfl) (show 2 ≤ am_P0.2.2.1 200 from by decide +kernel) rfl (am_recv_ok hS1038.fs) rfl rfl (ct_take (d := (d + 2)) hS1038   (by show (0 : Int) ≤ z1035.toInt; omega) (by show (f 0).toInt ≤ (16384 : Int); omega) (by show (0 : Int) ≤ (1 : Int); omega) (by show (0 : Int) ≤ (f 6).toInt; omega)) ?_
            rintro v1051 S1052 (⟨z1053, hv1054, hS1055, h1056, h1057⟩ | ⟨a1059, b1060, hv1061, hS1062, h1063⟩)
            · subst hv1054
              have h1056_ : z1053.toInt = z1035.toInt + 1 := h1056
              have h1057_ : z1035.toInt < (f 0).toInt := h1057
              replace hS1055 : MS S0 S1052 (upd (upd (upd f 4 z1053) 5 y1036) 10 z19) g'20 := hS1055
              have hR1065 : RJ (upd (upd (upd f 4 z1053) 5 y1036) 10 z19) g'20 (((1 : Int), (0 : Int), (0 : Int), (0 : Int), []) :: gs) bc [] 0 [] := RJ.at hR1050 (by show z1035.toInt ≤ z1053.toInt; omega)
              show am_E _ _ _ _ [some (.ref 39), some (.int (f 4)), some (.int z888), some (.int z1035), none, none, none, none] [.int 1] _ _
              refine am_e12t hi_238_34 (by decide) ?_
              refine am_e2 (v := 39) hi_238_38 rfl ?_
              refine am_e0 hi_238_39 ?_
              refine am_e0 hi_238_40 ?_
              refine am_e0 hi_238_41 ?_
              refine am_e0 hi_238_42 ?_
              refine am_e32n (as := [.ref 39, .int 1, .int 0, .int 0, .int 0]) (la := [some (.ref 39), some (.int 1), some (.int 0), some (.int 0), some (.int 0)]) (rest := []) hi_238_43 (am_hd0 (M := 238) (by decide) 43) (Nat.le_of_ble_eq_true rfl) (Nat.le_of_ble_eq_true rfl) (show 5 ≤ am_P0.2.2.1 189 from by decide +kernel) rfl (am_recv_ok hS1055.fs) rfl rfl (ct_put (d := (d + 4)) hS1055 hR1065  (by show (0 : Int) ≤ (f 32).toInt; omega) (by show (f 32).toInt ≤ (63 : Int); omega) (by show (f 53).toInt ≤ (4096 : Int); omega) (by show (0 : Int) ≤ (f 68).toInt; omega) (by show (f 68).toInt ≤ (65534 : Int); omega)) ?_
              rintro v1066 S1067 (⟨z1068, r1069, g'1070, hv1071, hS1072, hR1076, h1073, h1074, h1075⟩)
              subst hv1071
              have h1073_ : z1068.toInt = (f 68).toInt + 1 := h1073
              have h1074_ : r1069.toInt = (f 68).toInt := h1074
              have h1075_ : ∀ j, j ∉ [60, 69, 70, 71, 72, 73] → g'1070 j = g'20 j := h1075
              have hR1076_ : RJ (upd (upd (upd (upd f 4 z1053) 5 y1036) 10 z19) 68 z1068) g'1070 (((1 : Int), (0 : Int), (0 : Int), (0 : Int), []) :: gs) bc [] 0 ((f 68).toNatClampNeg :: []) := hR1076
              show am_E _ _ _ _ [some (.ref 39), some (.int (f 4)), some (.int z888), some (.int z1035), none, none, none, none] [.int r1069] _ _
              refine am_e6i hi_238_46 ?_
              refine am_e2 (v := 39) hi_238_47 rfl ?_
              refine am_e32n (as := [.ref 39]) (la := [some (.ref 39)]) (rest := []) hi_238_48 (am_hd0 (M := 238) (by decide) 48) (Nat.le_of_ble_eq_true rfl) (Nat.le_of_ble_eq_true rfl) (show 1 ≤ am_P0.2.2.1 197 from by decide +kernel) rfl (am_recv_ok hS1072.fs) rfl rfl (ct_count (d := (d + 4)) hS1072   (by show (0 : Int) ≤ (f 32).toInt; omega) (by show (f 32).toInt ≤ (63 : Int); omega)) ?_
              rintro v1077 S1078 (⟨r1079, hv1080, hS1081⟩)
              subst hv1080
              show am_E _ _ _ _ [some (.ref 39), some (.int (f 4)), some (.int z888), some (.int z1035), none, none, none, none] [.int r1079] _ _
              refine am_e3 (ls' := [some (.ref 39), some (.int (f 4)), some (.int z888), some (.int z1035), some (.int r1079), none, none, none]) hi_238_51 (Nat.le_of_ble_eq_true rfl) rfl ?_
              refine am_e2 (v := 39) hi_238_53 rfl ?_
              refine am_e2 (v := 39) hi_238_54 rfl ?_
              refine mm_20 (v := .ref 41) hS1081 hi_238_55 rfl ?_
              refine am_e1 (v := z1035) hi_238_58 rfl ?_
              refine mm_25 hS1081 ma_2 hi_238_59 (by decide) (by omega) (by omega) ?_
              show am_E _ _ _ _ _ (.int (g'1070 2 z1035.toNatClampNeg) :: _) _ _
              rw [show g'1070 2 = g'20 2 from h1075_ 2 (by decide), show g'20 2 = g 2 from h24_ 2 (by decide)]
              show am_E _ _ _ _ [some (.ref 39), some (.int (f 4)), some (.int z888), some (.int z1035), some (.int r1079), none, none, none] [.int (g 2 z1035.toNatClampNeg), .ref 39] _ _
              refine am_e0 hi_238_60 ?_
              refine am_e0 hi_238_61 ?_
              refine am_e1 (v := z1035) hi_238_62 rfl ?_
              refine am_e32n (as := [.ref 39, .int (g 2 z1035.toNatClampNeg), .int 0, .int 0, .int z1035]) (la := [some (.ref 39), some (.int (g 2 z1035.toNatClampNeg)), some (.int 0), some (.int 0), some (.int z1035), none]) (rest := []) hi_238_63 (am_hd0 (M := 238) (by decide) 63) (Nat.le_of_ble_eq_true rfl) (Nat.le_of_ble_eq_true rfl) (show 5 ≤ am_P0.2.2.1 196 from by decide +kernel) rfl (am_recv_ok hS1081.fs) rfl rfl (ct_declare (d := (d + 3)) hS1081 hR1076_ (by decide) (by decide)  (by show (0 : Int) ≤ (f 32).toInt; omega) (by show (f 32).toInt ≤ (63 : Int); omega) (by show (f 53).toInt ≤ (4096 : Int); omega) (by show (0 : Int) ≤ (f 24).toInt; omega) (by show (f 24).toInt ≤ (16383 : Int); omega) (by show (0 : Int) ≤ (f 8).toInt; omega)) ?_
              rintro v1083 S1084 (⟨a1085, b1086, z1087, y1088, g'1089, hv1090, hS1091, hR1095, h1092, h1093, h1094⟩)
              subst hv1090
              have h1092_ : z1087.toInt = (f 24).toInt + 1 := h1092
              have h1093_ : ∀ j, j ∉ [25, 26, 27, 28, 29, 30, 58] → g'1089 j = g'1070 j := h1093
              have h1094_ : (0 : Int) ≤ a1085.toInt := h1094
              replace hS1091 : MS S0 S1084 (upd (upd (upd (upd (upd (upd (upd (upd f 4 z1053) 5 y1036) 8 a1085) 9 b1086) 10 z19) 24 z1087) 31 y1088) 68 z1068) g'1089 := hS1091
              have hR1095_ : RJ (upd (upd (upd (upd (upd (upd (upd (upd f 4 z1053) 5 y1036) 8 a1085) 9 b1086) 10 z19) 24 z1087) 31 y1088) 68 z1068) g'1089 (((1 : Int), (0 : Int), (0 : Int), (0 : Int), []) :: gs) bc [] 0 ((f 68).toNatClampNeg :: []) := hR1095
              show am_E _ _ _ _ [some (.ref 39), some (.int (f 4)), some (.int z888), some (.int z1035), some (.int r1079), none, none, none] [] _ _
              refine am_e2 (v := 39) hi_238_66 rfl ?_
              refine am_e0 hi_238_67 ?_
              refine am_e1 (v := r1079) hi_238_69 rfl ?_
              refine am_e0 hi_238_71 ?_
              refine am_e1 (v := f 4) hi_238_72 rfl ?_
              refine am_e32n (as := [.ref 39, .int 27, .int r1079, .int 1, .int (f 4)]) (la := [some (.ref 39), some (.int 27), some (.int r1079), some (.int 1), some (.int (f 4))]) (rest := []) hi_238_73 (am_hd0 (M := 238) (by decide) 73) (Nat.le_of_ble_eq_true rfl) (Nat.le_of_ble_eq_true rfl) (show 5 ≤ am_P0.2.2.1 189 from by decide +kernel) rfl (am_recv_ok hS1091.fs) rfl rfl (ct_put (d := (d + 4)) hS1091 hR1095_  (by show (0 : Int) ≤ (f 32).toInt; omega) (by show (f 32).toInt ≤ (63 : Int); omega) (by show (f 53).toInt ≤ (4096 : Int); omega) (by show (0 : Int) ≤ z1068.toInt; omega) (by show z1068.toInt ≤ (65534 : Int); omega)) ?_
              rintro v1096 S1097 (⟨z1098, r1099, g'1100, hv1101, hS1102, hR1106, h1103, h1104, h1105⟩)
              subst hv1101
              have h1103_ : z1098.toInt = z1068.toInt + 1 := h1103
              have h1104_ : r1099.toInt = z1068.toInt := h1104
              have h1105_ : ∀ j, j ∉ [60, 69, 70, 71, 72, 73] → g'1100 j = g'1089 j := h1105
              replace hS1102 : MS S0 S1097 (upd (upd (upd (upd (upd (upd (upd (upd f 4 z1053) 5 y1036) 8 a1085) 9 b1086) 10 z19) 24 z1087) 31 y1088) 68 z1098) g'1100 := hS1102
              have hR1106_ : RJ (upd (upd (upd (upd (upd (upd (upd (upd f 4 z1053) 5 y1036) 8 a1085) 9 b1086) 10 z19) 24 z1087) 31 y1088) 68 z1098) g'1100 (((1 : Int), (0 : Int), (0 : Int), (0 : Int), []) :: gs) bc [] 0 (z1068.toNatClampNeg :: ((f 68).toNatClampNeg :: [])) := hR1106
              show am_E _ _ _ _ [some (.ref 39), some (.int (f 4)), some (.int z888), some (.int z1035), some (.int r1079), none, none, none] [.int r1099] _ _
              refine am_e6i hi_238_76 ?_
              refine am_e2 (v := 39) hi_238_77 rfl ?_
              refine am_e0 hi_238_78 ?_
              refine am_e1 (v := r1079) hi_238_80 rfl ?_
              refine am_e1 (v := z1035) hi_238_82 rfl ?_
              refine am_e0 hi_238_83 ?_
              refine am_e32n (as := [.ref 39, .int 17, .int r1079, .int z1035, .int 0]) (la := [some (.ref 39), some (.int 17), some (.int r1079), some (.int z1035), some (.int 0)]) (rest := []) hi_238_84 (am_hd0 (M := 238) (by decide) 84) (Nat.le_of_ble_eq_true rfl) (Nat.le_of_ble_eq_true rfl) (show 5 ≤ am_P0.2.2.1 179 from by decide +kernel) rfl (am_recv_ok hS1102.fs) rfl rfl (ct_pile (d := (d + 4)) hS1102 hR1106_ (mj_e_plain (by decide)) (by show (0 : Int) ≤ z19.toInt; omega) (by show z19.toInt ≤ (65535 : Int); omega)) ?_
              rintro v1107 S1108 (⟨z1109, g'1110, hv1111, hS1112, hR1115, h1113, h1114⟩)
              subst hv1111
              have h1113_ : z1109.toInt = z19.toInt + 1 := h1113
              have h1114_ : ∀ j, j ∉ [11, 12, 13, 14] → g'1110 j = g'1100 j := h1114
              replace hS1112 : MS S0 S1108 (upd (upd (upd (upd (upd (upd (upd (upd f 4 z1053) 5 y1036) 8 a1085) 9 b1086) 10 z1109) 24 z1087) 31 y1088) 68 z1098) g'1110 := hS1112
              have hR1115_ : RJ (upd (upd (upd (upd (upd (upd (upd (upd f 4 z1053) 5 y1036) 8 a1085) 9 b1086) 10 z1109) 24 z1087) 31 y1088) 68 z1098) g'1110 (((17 : Int), r1079.toInt, z1035.toInt, (0 : Int), []) :: (((1 : Int), (0 : Int), (0 : Int), (0 : Int), []) :: gs)) bc [] 0 (z1068.toNatClampNeg :: ((f 68).toNatClampNeg :: [])) := hR1115
              show am_E _ _ _ _ [some (.ref 39), some (.int (f 4)), some (.int z888), some (.int z1035), some (.int r1079), none, none, none] [] _ _
              refine am_e2 (v := 39) hi_238_87 rfl ?_
              refine am_e0 hi_238_88 ?_
              refine am_e1 (v := z888) hi_238_90 rfl ?_
              refine am_e0 hi_238_91 ?_
              refine am_e0 hi_238_92 ?_
              refine am_e32n (as := [.ref 39, .int 41, .int z888, .int 0, .int 0]) (la := [some (.ref 39), some (.int 41), some (.int z888), some (.int 0), some (.int 0)]) (rest := []) hi_238_93 (am_hd0 (M := 238) (by decide) 93) (Nat.le_of_ble_eq_true rfl) (Nat.le_of_ble_eq_true rfl) (show 5 ≤ am_P0.2.2.1 179 from by decide +kernel) rfl (am_recv_ok hS1112.fs) rfl rfl (ct_pile (d := (d + 4)) hS1112 hR1115_ (mj_e_plain (by decide)) (by show (0 : Int) ≤ z1109.toInt; omega) (by show z1109.toInt ≤ (65535 : Int); omega)) ?_
              rintro v1116 S1117 (⟨z1118, g'1119, hv1120, hS1121, hR1124, h1122, h1123⟩)
              subst hv1120
              have h1122_ : z1118.toInt = z1109.toInt + 1 := h1122
              have h1123_ : ∀ j, j ∉ [11, 12, 13, 14] → g'1119 j = g'1110 j := h1123
              replace hS1121 : MS S0 S1117 (upd (upd (upd (upd (upd (upd (upd (upd f 4 z1053) 5 y1036) 8 a1085) 9 b1086) 10 z1118) 24 z1087) 31 y1088) 68 z1098) g'1119 := hS1121
              have hR1124_ : RJ (upd (upd (upd (upd (upd (upd (upd (upd f 4 z1053) 5 y1036) 8 a1085) 9 b1086) 10 z1118) 24 z1087) 31 y1088) 68 z1098) g'1119 (((41 : Int), z888.toInt, (0 : Int), (0 : Int), []) :: (((17 : Int), r1079.toInt, z1035.toInt, (0 : Int), []) :: (((1 : Int), (0 : Int), (0 : Int), (0 : Int), []) :: gs))) bc [] 0 (z1068.toNatClampNeg :: ((f 68).toNatClampNeg :: [])) := hR1124
              show am_E _ _ _ _ [some (.ref 39), some (.int (f 4)), some (.int z888), some (.int z1035), some (.int r1079), none, none, none] [] _ _
              refine am_e2 (v := 39) hi_238_96 rfl ?_
              refine am_e0 hi_238_97 ?_
              refine am_e1 (v := z888) hi_238_98 rfl ?_
              refine am_e32n (as := [.ref 39, .int 0, .int z888]) (la := [some (.ref 39), some (.int 0), some (.int z888), none, none]) (rest := []) hi_238_99 (am_hd0 (M := 238) (by decide) 99) (Nat.le_of_ble_eq_true rfl) (Nat.le_of_ble_eq_true rfl) (show 3 ≤ am_P0.2.2.1 195 from by decide +kernel) rfl (am_recv_ok hS1121.fs) rfl rfl (ct_body (d := d) hS1121 hR1124_ (by decide)  (by show (0 : Int) ≤ (f 32).toInt; omega) (by show (f 32).toInt ≤ (62 : Int); omega) (by show (1 : Int) ≤ (f 53).toInt; omega) (by show (f 53).toInt ≤ (4095 : Int); omega) (by show (0 : Int) ≤ z1053.toInt; omega) (by show (f 0).toInt ≤ (16384 : Int); omega) (by show (0 : Int) ≤ y1036.toInt; omega) (by show y1036.toInt ≤ (48 : Int); omega) (by show z1053.toInt ≤ (f 0).toInt; omega) (by show (f 0).toInt ≤ (512 : Int); omega) (by show (0 : Int) ≤ z1087.toInt; omega) (by show z1087.toInt ≤ (4000 : Int); omega) (by show (0 : Int) ≤ (f 44).toInt; omega) (by show (f 44).toInt ≤ z1053.toInt; omega) (by show (0 : Int) ≤ (f 48).toInt; omega) (by show (f 48).toInt ≤ z1053.toInt; omega) (by show (0 : Int) ≤ (f 37).toInt; omega) (by show (f 37).toInt ≤ (126 : Int); omega) (by show (0 : Int) ≤ z1118.toInt; omega) (by show z1118.toInt ≤ (65533 : Int); omega) (by show (0 : Int) ≤ z1098.toInt; omega) (by show (0 : Int) ≤ (f 6).toInt; omega) (by show (0 : Int) ≤ a1085.toInt; omega)) ?_
              rintro v1125 S1126 (⟨z1127, y1128, a1129, b1130, t1131, l1132, i_1133, dd1134, bz1135, mm1136, g'1137, hv1138, hS1139, hR1153, h1140, h1141, h1142, h1143, h1144, h1145, h1146, h1147, h1148, h1149, h1150, h1151, h1152⟩ | ⟨a1154, b1155, hv1156, hS1157, hR1159, h1158⟩ | ⟨z1160, y1161, u1162, v_1163, a1164, b1165, l1166, i_1167, dd1168, bz1169, mm1170, g'1171, hv1172, hS1173, hR1182, h1174, h1175, h1176, h1177, h1178, h1179, h1180, h1181⟩)
              · subst hv1138
                have h1140_ : z1053.toInt + 2 ≤ z1127.toInt := h1140
                have h1141_ : z1127.toInt ≤ (f 0).toInt := h1141
                have h1142_ : y1128.toInt = y1036.toInt := h1142
                have h1143_ : z1087.toInt ≤ l1132.toInt := h1143
                have h1144_ : l1132.toInt + z1053.toInt ≤ z1087.toInt + z1127.toInt := h1144
                have h1145_ : t1131.toInt = z1118.toInt + 2 := h1145
                have h1146_ : dd1134.toInt = (f 32).toInt + 1 := h1146
                have h1147_ : bz1135.toInt = (f 37).toInt + 1 := h1147
                have h1148_ : mm1136.toInt = (f 53).toInt + 1 := h1148
                have h1149_ : ∀ j, j ∉ [11, 12, 13, 14, 25, 26, 27, 28, 29, 30, 33, 34, 35, 36, 38, 39, 40, 41, 42, 43, 54, 55, 56, 58, 59, 60, 67] → g'1137 j = g'1119 j := h1149
                have h1150_ : g'1137 34 = upd (g'1119 34) dd1134.toNatClampNeg z1087 := h1150
                have h1151_ : g'1137 38 = upd (g'1119 38) (f 37).toNatClampNeg z1087 := h1151
                have h1152_ : (0 : Int) ≤ a1129.toInt := h1152
                replace hS1139 : MS S0 S1126 (upd (upd (upd (upd (upd (upd (upd (upd (upd (upd (upd f 4 z1127) 5 y1128) 8 a1129) 9 b1130) 10 t1131) 24 l1132) 31 i_1133) 32 dd1134) 37 bz1135) 53 mm1136) 68 z1098) g'1137 := hS1139
                have hR1153_ : RJ (upd (upd (upd (upd (upd (upd (upd (upd (upd (upd (upd f 4 z1127) 5 y1128) 8 a1129) 9 b1130) 10 t1131) 24 l1132) 31 i_1133) 32 dd1134) 37 bz1135) 53 mm1136) 68 z1098) g'1137 (((1 : Int), (0 : Int), (0 : Int), (0 : Int), []) :: (((40 : Int), z1053.toInt, (0 : Int), (0 : Int), []) :: (((41 : Int), z888.toInt, (0 : Int), (0 : Int), []) :: (((17 : Int), r1079.toInt, z1035.toInt, (0 : Int), []) :: (((1 : Int), (0 : Int), (0 : Int), (0 : Int), []) :: gs))))) ([] :: bc) [] 0 (z1068.toNatClampNeg :: ((f 68).toNatClampNeg :: [])) := hR1153
                show am_E _ _ _ _ [some (.ref 39), some (.int (f 4)), some (.int z888), some (.int z1035), some (.int r1079), none, none, none] [] _ _
                refine am_e35 hi_238_102 ?_
                show am_E _ _ _ _ [some (.ref 39), some (.int r2), some (.int (f 4))] [] _ _
                refine am_e18 hi_228_394 ?_
                refine am_e35 hi_228_422 ?_
                show am_E _ _ _ _ [some (.ref 39), some (.int r2)] [] _ _
                refine am_e35 hi_225_33 ?_
                show am_E _ _ _ _ [some (.ref 39), some (.int 1), some (.int on), some (.int tw), some (.int th)] [] _ _
                refine am_e18 hi_180_116 ?_
                refine am_e35 hi_180_371 ?_
                have q1 : mg_p1 (((1 : Int), (0 : Int), (0 : Int), (0 : Int), []) :: (((40 : Int), z1053.toInt, (0 : Int), (0 : Int), []) :: (((41 : Int), z888.toInt, (0 : Int), (0 : Int), []) :: (((17 : Int), r1079.toInt, z1035.toInt, (0 : Int), []) :: (((1 : Int), (0 : Int), (0 : Int), (0 : Int), []) :: gs))))) = 0 + (0 + (0 + (0 + (0 + (mg_p1 gs))))) := rfl
                have q2 : mg_p2 (((1 : Int), (0 : Int), (0 : Int), (0 : Int), []) :: (((40 : Int), z1053.toInt, (0 : Int), (0 : Int), []) :: (((41 : Int), z888.toInt, (0 : Int), (0 : Int), []) :: (((17 : Int), r1079.toInt, z1035.toInt, (0 : Int), []) :: (((1 : Int), (0 : Int), (0 : Int), (0 : Int), []) :: gs))))) = 0 + (0 + (1 + (0 + (0 + (mg_p2 gs))))) := rfl
                have q3 : mg_p3 (((1 : Int), (0 : Int), (0 : Int), (0 : Int), []) :: (((40 : Int), z1053.toInt, (0 : Int), (0 : Int), []) :: (((41 : Int), z888.toInt, (0 : Int), (0 : Int), []) :: (((17 : Int), r1079.toInt, z1035.toInt, (0 : Int), []) :: (((1 : Int), (0 : Int), (0 : Int), (0 : Int), []) :: gs))))) = 1 + (1 + (1 + (1 + (1 + (mg_p3 gs))))) := rfl
                have q4 : mg_p4 (((1 : Int), (0 : Int), (0 : Int), (0 : Int), []) :: (((40 : Int), z1053.toInt, (0 : Int), (0 : Int), []) :: (((41 : Int), z888.toInt, (0 : Int), (0 : Int), []) :: (((17 : Int), r1079.toInt, z1035.toInt, (0 : Int), []) :: (((1 : Int), (0 : Int), (0 : Int), (0 : Int), []) :: gs))))) = 0 + (0 + (2 + (2 + (0 + (mg_p4 gs))))) := rfl
                refine ⟨_, _, _, ([] :: bc), rfl, hS1139, Or.inl ⟨⟨(RJ.fewer (pj' := []) hR1153_ (fun _ h => nomatch h)), ?_, ?_⟩, rfl, ?_⟩⟩
                · exact (⟨⟨(show mg_k 1 from by decide), (show (0 : Int) ≤ (f 15).toInt from by omega), (show 0 ≤ (f 20).toInt from by omega), (show 1 ≤ bz1135.toInt from by omega), (show 0 ≤ dd1134.toInt from by omega), (show dd1134.toInt ≤ y1128.toInt from by omega), (show y1128.toInt ≤ 48 from by omega), (show bz1135.toInt ≤ 2 * (y1128.toInt) + 1 from by omega), trivial⟩, ⟨⟨(show mg_k 40 from by decide), (show (0 : Int) ≤ (f 15).toInt + 0 from by omega), (show 0 ≤ (f 20).toInt from by omega), (show 1 ≤ bz1135.toInt + 0 from by omega), (show 0 ≤ dd1134.toInt + 0 from by omega), (show dd1134.toInt + 0 ≤ y1128.toInt + 0 from by omega), (show y1128.toInt + 0 ≤ 48 from by omega), (show bz1135.toInt + 0 ≤ 2 * (y1128.toInt + 0) + 1 from by omega), trivial⟩, ⟨⟨(show mg_k 41 from by decide), (show (0 : Int) ≤ (f 15).toInt + 0 + 0 from by omega), (show 0 ≤ (f 20).toInt from by omega), (show 1 ≤ bz1135.toInt + 0 + -1 from by omega), (show 0 ≤ dd1134.toInt + 0 + -1 from by omega), (show dd1134.toInt + 0 + -1 ≤ y1128.toInt + 0 + -1 from by omega), (show y1128.toInt + 0 + -1 ≤ 48 from by omega), (show bz1135.toInt + 0 + -1 ≤ 2 * (y1128.toInt + 0 + -1) + 2 from by omega), trivial⟩, ⟨⟨(show mg_k 17 from by decide), (show (1 : Int) ≤ (f 15).toInt + 0 + 0 + 1 from by omega), (show 0 ≤ (f 20).toInt from by omega), (show 1 ≤ bz1135.toInt + 0 + -1 + 0 from by omega), (show 0 ≤ dd1134.toInt + 0 + -1 + 0 from by omega), (show dd1134.toInt + 0 + -1 + 0 ≤ y1128.toInt + 0 + -1 + 0 from by omega), (show y1128.toInt + 0 + -1 + 0 ≤ 48 from by omega), (show bz1135.toInt + 0 + -1 + 0 ≤ 2 * (y1128.toInt + 0 + -1 + 0) + 1 from by omega), trivial⟩, ⟨⟨(show mg_k 1 from by decide), (show (0 : Int) ≤ (f 15).toInt + 0 + 0 + 1 + -1 from by omega), (show 0 ≤ (f 20).toInt from by omega), (show 1 ≤ bz1135.toInt + 0 + -1 + 0 + 0 from by omega), (show 0 ≤ dd1134.toInt + 0 + -1 + 0 + 0 from by omega), (show dd1134.toInt + 0 + -1 + 0 + 0 ≤ y1128.toInt + 0 + -1 + 0 + 0 from by omega), (show y1128.toInt + 0 + -1 + 0 + 0 ≤ 48 from by omega), (show bz1135.toInt + 0 + -1 + 0 + 0 ≤ 2 * (y1128.toInt + 0 + -1 + 0 + 0) + 1 from by omega), trivial⟩, mg_cast (mg_good_ext _ _ _ _ _ _ (fun i hi => by show g'1137 34 i = g 34 i; rw [h1150_, show g'1119 34 = g'1110 34 from h1123_ 34 (by decide), show g'1110 34 = g'1100 34 from h1114_ 34 (by decide), show g'1100 34 = g'1089 34 from h1105_ 34 (by decide), show g'1089 34 = g'1070 34 from h1093_ 34 (by decide), show g'1070 34 = g'20 34 from h1075_ 34 (by decide), show g'20 34 = g 34 from h24_ 34 (by decide)]; exact upd_ne (by rw [cl_toNat]; omega)) (fun i hi => by show g'1137 38 i = g 38 i; rw [h1151_, show g'1119 38 = g'1110 38 from h1123_ 38 (by decide), show g'1110 38 = g'1100 38 from h1114_ 38 (by decide), show g'1100 38 = g'1089 38 from h1105_ 38 (by decide), show g'1089 38 = g'1070 38 from h1093_ 38 (by decide), show g'1070 38 = g'20 38 from h1075_ 38 (by decide), show g'20 38 = g 38 from h24_ 38 (by decide)]; exact upd_ne (by rw [cl_toNat]; omega)) (fun i _ => by show g'1137 23 i = g 23 i; rw [show g'1137 23 = g'1119 23 from h1149_ 23 (by decide), show g'1119 23 = g'1110 23 from h1123_ 23 (by decide), show g'1110 23 = g'1100 23 from h1114_ 23 (by decide), show g'1100 23 = g'1089 23 from h1105_ 23 (by decide), show g'1089 23 = g'1070 23 from h1093_ 23 (by decide), show g'1070 23 = g'20 23 from h1075_ 23 (by decide), show g'20 23 = g 23 from h24_ 23 (by decide)]) hrest) (by show (f 15).toInt + 0 = (f 15).toInt + 0 + 0 + 1 + -1 + 0; omega) (by show (f 20).toInt = (f 20).toInt; omega) (by show (f 37).toInt + 0 = bz1135.toInt + 0 + -1 + 0 + 0 + 0; omega) (by show (f 32).toInt + 0 = dd1134.toInt + 0 + -1 + 0 + 0 + 0; omega) (by show (f 5).toInt + 0 = y1128.toInt + 0 + -1 + 0 + 0 + 0; omega)⟩⟩⟩⟩⟩ : mg_good (g'1137 34) (g'1137 38) (g'1137 23) (((1 : Int), (0 : Int), (0 : Int), (0 : Int), []) :: (((40 : Int), z1053.toInt, (0 : Int), (0 : Int), []) :: (((41 : Int), z888.toInt, (0 : Int), (0 : Int), []) :: (((17 : Int), r1079.toInt, z1035.toInt, (0 : Int), []) :: (((1 : Int), (0 : Int), (0 : Int), (0 : Int), []) :: gs))))) ((f 15).toInt) ((f 20).toInt) (bz1135.toInt) (dd1134.toInt) (y1128.toInt))
                · exact ⟨(by show 0 ≤ z1127.toInt; omega), (by show z1127.toInt ≤ (f 0).toInt; omega), (by show (f 0).toInt ≤ 512; omega), (by show 0 ≤ l1132.toInt; omega), (by show l1132.toInt + (f 20).toInt + mg_p1 (((1 : Int), (0 : Int), (0 : Int), (0 : Int), []) :: (((40 : Int), z1053.toInt, (0 : Int), (0 : Int), []) :: (((41 : Int), z888.toInt, (0 : Int), (0 : Int), []) :: (((17 : Int), r1079.toInt, z1035.toInt, (0 : Int), []) :: (((1 : Int), (0 : Int), (0 : Int), (0 : Int), []) :: gs))))) ≤ 4 * z1127.toInt; omega), (by show (f 20).toInt ≤ z1127.toInt; omega), (by show (f 15).toInt + mg_p2 (((1 : Int), (0 : Int), (0 : Int), (0 : Int), []) :: (((40 : Int), z1053.toInt, (0 : Int), (0 : Int), []) :: (((41 : Int), z888.toInt, (0 : Int), (0 : Int), []) :: (((17 : Int), r1079.toInt, z1035.toInt, (0 : Int), []) :: (((1 : Int), (0 : Int), (0 : Int), (0 : Int), []) :: gs))))) ≤ z1127.toInt; omega), (by show mg_p3 (((1 : Int), (0 : Int), (0 : Int), (0 : Int), []) :: (((40 : Int), z1053.toInt, (0 : Int), (0 : Int), []) :: (((41 : Int), z888.toInt, (0 : Int), (0 : Int), []) :: (((17 : Int), r1079.toInt, z1035.toInt, (0 : Int), []) :: (((1 : Int), (0 : Int), (0 : Int), (0 : Int), []) :: gs))))) ≤ 20 * z1127.toInt + 20; omega), (by show 0 ≤ z1098.toInt; omega), (by show z1098.toInt + 3 * (f 20).toInt + mg_p4 (((1 : Int), (0 : Int), (0 : Int), (0 : Int), []) :: (((40 : Int), z1053.toInt, (0 : Int), (0 : Int), []) :: (((41 : Int), z888.toInt, (0 : Int), (0 : Int), []) :: (((17 : Int), r1079.toInt, z1035.toInt, (0 : Int), []) :: (((1 : Int), (0 : Int), (0 : Int), (0 : Int), []) :: gs))))) ≤ 60 * z1127.toInt + 60; omega), (by show 0 ≤ (f 62).toInt; omega), (by show (f 62).toInt + 64 * mj_n (g'1137 16) (f 15).toNatClampNeg 3 ≤ 64 * z1127.toInt; rw [show g'1137 16 = g'1119 16 from h1149_ 16 (by decide), show g'1119 16 = g'1110 16 from h1123_ 16 (by decide), show g'1110 16 = g'1100 16 from h1114_ 16 (by decide), show g'1100 16 = g'1089 16 from h1105_ 16 (by decide), show g'1089 16 = g'1070 16 from h1093_ 16 (by decide), show g'1070 16 = g'20 16 from h1075_ 16 (by decide), show g'20 16 = g 16 from h24_ 16 (by decide)]; omega), (by show 0 ≤ (f 44).toInt; omega), (by show (f 44).toInt ≤ z1127.toInt; omega), (by show 0 ≤ (f 48).toInt; omega), (by show (f 48).toInt ≤ z1127.toInt; omega), (by show 1 ≤ mm1136.toInt; omega), (by show mm1136.toInt ≤ z1127.toInt + 1; omega), (by show 0 ≤ (f 19).toInt; omega), (by show (f 19).toInt ≤ 600; omega), (by show 0 ≤ (f 6).toInt; omega), (by show 0 ≤ a1129.toInt; omega)⟩
                · show 100 * ((f 0).toInt - z1127.toInt) + mg_p3 (((1 : Int), (0 : Int), (0 : Int), (0 : Int), []) :: (((40 : Int), z1053.toInt, (0 : Int), (0 : Int), []) :: (((41 : Int), z888.toInt, (0 : Int), (0 : Int), []) :: (((17 : Int), r1079.toInt, z1035.toInt, (0 : Int), []) :: (((1 : Int), (0 : Int), (0 : Int), (0 : Int), []) :: gs))))) < 100 * ((f 0).toInt - (f 4).toInt) + (1 + mg_p3 gs); omega
              · subst hv1156
                have h1158_ : (0 : Int) ≤ a1154.toInt := h1158
                replace hS1157 : MS S0 S1126 (upd (upd (upd (upd (upd (upd (upd (upd (upd (upd f 4 z1053) 5 y1036) 6 a1154) 7 b1155) 8 a1085) 9 b1086) 10 0) 24 z1087) 31 y1088) 68 z1098) g'1119 := hS1157
                have hR1159_ : RJ (upd (upd (upd (upd (upd (upd (upd (upd (upd (upd f 4 z1053) 5 y1036) 6 a1154) 7 b1155) 8 a1085) 9 b1086) 10 0) 24 z1087) 31 y1088) 68 z1098) g'1119 [] bc [] 0 [] := hR1159
                show am_E _ _ _ _ [some (.ref 39), some (.int (f 4)), some (.int z888), some (.int z1035), some (.int r1079), none, none, none] [] _ _
                refine am_e35 hi_238_102 ?_
                show am_E _ _ _ _ [some (.ref 39), some (.int r2), some (.int (f 4))] [] _ _
                refine am_e18 hi_228_394 ?_
                refine am_e35 hi_228_422 ?_
                show am_E _ _ _ _ [some (.ref 39), some (.int r2)] [] _ _
                refine am_e35 hi_225_33 ?_
                show am_E _ _ _ _ [some (.ref 39), some (.int 1), some (.int on), some (.int tw), some (.int th)] [] _ _
                refine am_e18 hi_180_116 ?_
                refine am_e35 hi_180_371 ?_
                have hRc := rj_clear0 hR1159_
                refine ⟨_, _, [], _, rfl, hS1157, Or.inr ⟨hRc, rfl, (by show 0 ≤ z1053.toInt; omega), (by show z1053.toInt ≤ (f 0).toInt; omega), (by show 0 ≤ (f 32).toInt; omega), (by show (f 32).toInt ≤ 63; omega), (by show 1 ≤ (f 53).toInt; omega), (by show (f 53).toInt ≤ 600; omega), (by show 0 ≤ z1098.toInt; omega), (by show z1098.toInt ≤ 60000; omega), (by show 0 ≤ (f 48).toInt; omega), (by show (f 48).toInt ≤ 8000; omega), (by show 0 ≤ (f 37).toInt; omega), (by show (f 37).toInt ≤ 128; omega), (by show 0 ≤ (f 62).toInt; omega), (by show (f 62).toInt ≤ 65000; omega), (by show 0 ≤ (f 19).toInt; omega), (by show (f 19).toInt ≤ 600; omega), (by show 0 ≤ a1154.toInt; omega), (by show 0 ≤ a1085.toInt; omega)⟩⟩
              · subst hv1172
                have h1174_ : z1053.toInt ≤ z1160.toInt := h1174
                have h1175_ : z1160.toInt ≤ (f 0).toInt := h1175
                have h1176_ : dd1168.toInt = (f 32).toInt + 1 := h1176
                have h1177_ : bz1169.toInt = (f 37).toInt + 1 := h1177
                have h1178_ : mm1170.toInt = (f 53).toInt + 1 := h1178
                have h1179_ : ∀ j, j ∉ [11, 12, 13, 14, 25, 26, 27, 28, 29, 30, 33, 34, 35, 36, 38, 39, 40, 41, 42, 43, 54, 55, 56, 58, 59, 60, 67] → g'1171 j = g'1119 j := h1179
                have h1180_ : (0 : Int) ≤ u1162.toInt := h1180
                have h1181_ : (0 : Int) ≤ a1164.toInt := h1181
                replace hS1173 : MS S0 S1126 (upd (upd (upd (upd (upd (upd (upd (upd (upd (upd (upd (upd (upd f 4 z1160) 5 y1161) 6 u1162) 7 v_1163) 8 a1164) 9 b1165) 10 0) 24 l1166) 31 i_1167) 32 dd1168) 37 bz1169) 53 mm1170) 68 z1098) g'1171 := hS1173
                have hR1182_ : RJ (upd (upd (upd (upd (upd (upd (upd (upd (upd (upd (upd (upd (upd f 4 z1160) 5 y1161) 6 u1162) 7 v_1163) 8 a1164) 9 b1165) 10 0) 24 l1166) 31 i_1167) 32 dd1168) 37 bz1169) 53 mm1170) 68 z1098) g'1171 [] ([] :: bc) [] 0 [] := hR1182
                show am_E _ _ _ _ [some (.ref 39), some (.int (f 4)), some (.int z888), some (.int z1035), some (.int r1079), none, none, none] [] _ _
                refine am_e35 hi_238_102 ?_
                show am_E _ _ _ _ [some (.ref 39), some (.int r2), some (.int (f 4))] [] _ _
                refine am_e18 hi_228_394 ?_
                refine am_e35 hi_228_422 ?_
                show am_E _ _ _ _ [some (.ref 39), some (.int r2)] [] _ _
                refine am_e35 hi_225_33 ?_
                show am_E _ _ _ _ [some (.ref 39), some (.int 1), some (.int on), some (.int tw), some (.int th)] [] _ _
                refine am_e18 hi_180_116 ?_
                refine am_e35 hi_180_371 ?_
                have hRc := rj_clear0 hR1182_
                refine ⟨_, _, [], _, rfl, hS1173, Or.inr ⟨hRc, rfl, (by show 0 ≤ z1160.toInt; omega), (by show z1160.toInt ≤ (f 0).toInt; omega), (by show 0 ≤ dd1168.toInt; omega), (by show dd1168.toInt ≤ 63; omega), (by show 1 ≤ mm1170.toInt; omega), (by show mm1170.toInt ≤ 600; omega), (by show 0 ≤ z1098.toInt; omega), (by show z1098.toInt ≤ 60000; omega), (by show 0 ≤ (f 48).toInt; omega), (by show (f 48).toInt ≤ 8000; omega), (by show 0 ≤ bz1169.toInt; omega), (by show bz1169.toInt ≤ 128; omega), (by show 0 ≤ (f 62).toInt; omega), (by show (f 62).toInt ≤ 65000; omega), (by show 0 ≤ (f 19).toInt; omega), (by show (f 19).toInt ≤ 600; omega), (by show 0 ≤ u1162.toInt; omega), (by show 0 ≤ a1164.toInt; omega)⟩⟩
            · subst hv1061
              have h1063_ : (0 : Int) ≤ a1059.toInt := h1063
              replace hS1062 : MS S0 S1052 (upd (upd (upd (upd (upd f 4 z1035) 5 y1036) 6 a1059) 7 b1060) 10 0) g'20 := hS1062
              have hR1183 := rj_clear0 hR1050
              have hR1184 : RJ (upd (upd (upd (upd (upd f 4 z1035) 5 y1036) 6 a1059) 7 b1060) 10 0) g'20 [] bc [] 0 [] := hR1183
              show am_E _ _ _ _ [some (.ref 39), some (.int (f 4)), some (.int z888), some (.int z1035), none, none, none, none] [.int 0] _ _
              refine am_e12f hi_238_34 (by decide) ?_
              refine am_e35 hi_238_37 ?_
              show am_E _ _ _ _ [some (.ref 39), some (.int r2), some (.int (f 4))] [] _ _
              refine am_e18 hi_228_394 ?_
              refine am_e35 hi_228_422 ?_
              show am_E _ _ _ _ [some (.ref 39), some (.int r2)] [] _ _
              refine am_e35 hi_225_33 ?_
              show am_E _ _ _ _ [some (.ref 39), some (.int 1), some (.int on), some (.int tw), some (.int th)] [] _ _
              refine am_e18 hi_180_116 ?_
              refine am_e35 hi_180_371 ?_
              have hRc := rj_clear0 hR1184
              refine ⟨_, _, [], _, rfl, hS1062, Or.inr ⟨hRc, rfl, (by show 0 ≤ z1035.toInt; omega), (by show z1035.toInt ≤ (f 0).toInt; omega), (by show 0 ≤ (f 32).toInt; omega), (by show (f 32).toInt ≤ 63; omega), (by show 1 ≤ (f 53).toInt; omega), (by show (f 53).toInt ≤ 600; omega), (by show 0 ≤ (f 68).toInt; omega), (by show (f 68).toInt ≤ 60000; omega), (by show 0 ≤ (f 48).toInt; omega), (by show (f 48).toInt ≤ 8000; omega), (by show 0 ≤ (f 37).toInt; omega), (by show (f 37).toInt ≤ 128; omega), (by show 0 ≤ (f 62).toInt; omega), (by show (f 62).toInt ≤ 65000; omega), (by show 0 ≤ (f 19).toInt; omega), (by show (f 19).toInt ≤ 600; omega), (by show 0 ≤ a1059.toInt; omega), (by show 0 ≤ (f 8).toInt; omega)⟩⟩
          · subst hv1046
            have h1048_ : (0 : Int) ≤ a1044.toInt := h1048
            replace hS1047 : MS S0 S1034 (upd (upd (upd (upd f 4 z888) 6 a1044) 7 b1045) 10 0) g'20 := hS1047
            have hR1185 := rj_clear0 hR891
            have hR1186 : RJ (upd (upd (upd (upd f 4 z888) 6 a1044) 7 b1045) 10 0) g'20 [] bc [] 0 [] := hR1185
            show am_E _ _ _ _ [some (.ref 39), some (.int (f 4)), some (.int z888), none, none, none, none, none] [.int 0] _ _
            refine am_e12f hi_238_20 (by decide) ?_
            refine am_e35 hi_238_23 ?_
            show am_E _ _ _ _ [some (.ref 39), some (.int r2), some (.int (f 4))] [] _ _
            refine am_e18 hi_228_394 ?_
            refine am_e35 hi_228_422 ?_
            show am_E _ _ _ _ [some (.ref 39), some (.int r2)] [] _ _
            refine am_e35 hi_225_33 ?_
            show am_E _ _ _ _ [some (.ref 39), some (.int 1), some (.int on), some (.int tw), some (.int th)] [] _ _
            refine am_e18 hi_180_116 ?_
            refine am_e35 hi_180_371 ?_
            have hRc := rj_clear0 hR1186
            refine ⟨_, _, [], _, rfl, hS1047, Or.inr ⟨hRc, rfl, (by show 0 ≤ z888.toInt; omega), (by show z888.toInt ≤ (f 0).toInt; omega), (by show 0 ≤ (f 32).toInt; omega), (by show (f 32).toInt ≤ 63; omega), (by show 1 ≤ (f 53).toInt; omega), (by show (f 53).toInt ≤ 600; omega), (by show 0 ≤ (f 68).toInt; omega), (by show (f 68).toInt ≤ 60000; omega), (by show 0 ≤ (f 48).toInt; omega), (by show (f 48).toInt ≤ 8000; omega), (by show 0 ≤ (f 37).toInt; omega), (by show (f 37).toInt ≤ 128; omega), (by show 0 ≤ (f 62).toInt; omega), (by show (f 62).toInt ≤ 65000; omega), (by show 0 ≤ (f 19).toInt; omega), (by show (f 19).toInt ≤ 600; omega), (by show 0 ≤ a1044.toInt; omega), (by show 0 ≤ (f 8).toInt; omega)⟩⟩
      by_cases c1187 : r2.toInt = 26
      · refine am_e19 (t := 272) hi_228_6 (am_swI (v := r2) (w := 26) (by decide) (by decide) c1187) ?_
        refine am_e2 (v := 39) hi_228_272 rfl ?_
        refine am_e0 hi_228_273 ?_
        refine am_e32n (as := [.ref 39, .int 26]) (la := [some (.ref 39), some (.int 26)]) (rest := []) hi_228_275 (am_hd0 (M := 228) (by decide) 275) (Nat.le_of_ble_eq_true rfl) (Nat.le_of_ble_eq_true rfl) (show 2 ≤ am_P0.2.2.1 193 from by decide +kernel) rfl (am_recv_ok hS22.fs) rfl rfl (ct_enter (d := (d + 3)) hS22   (by show (0 : Int) ≤ (f 4).toInt; omega) (by show (f 0).toInt ≤ (16384 : Int); omega) (by show (0 : Int) ≤ (26 : Int); omega) (by show (0 : Int) ≤ (f 5).toInt; omega) (by show (f 5).toInt ≤ (48 : Int); omega) (by show (0 : Int) ≤ (f 6).toInt; omega)) ?_
        rintro v1188 S1189 (⟨z1190, y1191, hv1192, hS1193, h1194, h1195, h1196, h1197⟩ | ⟨a1199, b1200, hv1201, hS1202, h1203⟩)
        · subst hv1192
          have h1194_ : z1190.toInt = (f 4).toInt + 1 := h1194
          have h1195_ : (f 4).toInt < (f 0).toInt := h1195
          have h1196_ : y1191.toInt = (f 5).toInt + 1 := h1196
          have h1197_ : y1191.toInt ≤ (48 : Int) := h1197
          replace hS1193 : MS S0 S1189 (upd (upd (upd f 4 z1190) 5 y1191) 10 z19) g'20 := hS1193
          have hR1205 : RJ (upd (upd (upd f 4 z1190) 5 y1191) 10 z19) g'20 (((1 : Int), (0 : Int), (0 : Int), (0 : Int), []) :: gs) bc [] 0 [] := RJ.at hR25_ (by show (f 4).toInt ≤ z1190.toInt; omega)
          show am_E _ _ _ _ [some (.ref 39), some (.int r2), some (.int (f 4))] [.int 1] _ _
          refine am_e12t hi_228_278 (by decide) ?_
          refine am_e2 (v := 39) hi_228_284 rfl ?_
          refine am_e0 hi_228_285 ?_
          refine am_e2 (v := 39) hi_228_286 rfl ?_
          refine am_e32n (as := [.ref 39]) (la := [some (.ref 39)]) (rest := [.int 5, .ref 39]) hi_228_287 (am_hd0 (M := 228) (by decide) 287) (Nat.le_of_ble_eq_true rfl) (Nat.le_of_ble_eq_true rfl) (show 1 ≤ am_P0.2.2.1 210 from by decide +kernel) rfl (am_recv_ok hS1193.fs) rfl rfl (ct_here (d := (d + 5)) hS1193 hR1205  (by show (0 : Int) ≤ (f 32).toInt; omega) (by show (f 32).toInt ≤ (63 : Int); omega) (by show (f 53).toInt ≤ (4096 : Int); omega) (by show (0 : Int) ≤ (f 68).toInt; omega) (by show (f 68).toInt ≤ (65534 : Int); omega)) ?_
          rintro v1206 S1207 (⟨r1208, hv1209, hS1210, h1211, h1212⟩)
          subst hv1209
          have h1211_ : (0 : Int) ≤ r1208.toInt := h1211
          have h1212_ : r1208.toInt ≤ (f 68).toInt := h1212
          show am_E _ _ _ _ [some (.ref 39), some (.int r2), some (.int (f 4))] [.int r1208, .int 5, .ref 39] _ _
          refine am_e0 hi_228_290 ?_
          refine am_e0 hi_228_291 ?_
          refine am_e32n (as := [.ref 39, .int 5, .int r1208, .int 0, .int 0]) (la := [some (.ref 39), some (.int 5), some (.int r1208), some (.int 0), some (.int 0)]) (rest := []) hi_228_292 (am_hd0 (M := 228) (by decide) 292) (Nat.le_of_ble_eq_true rfl) (Nat.le_of_ble_eq_true rfl) (show 5 ≤ am_P0.2.2.1 179 from by decide +kernel) rfl (am_recv_ok hS1210.fs) rfl rfl (ct_pile (d := (d + 5)) hS1210 hR1205 (mj_e_plain (by decide)) (by show (0 : Int) ≤ z19.toInt; omega) (by show z19.toInt ≤ (65535 : Int); omega)) ?_
          rintro v1214 S1215 (⟨z1216, g'1217, hv1218, hS1219, hR1222, h1220, h1221⟩)
          subst hv1218
          have h1220_ : z1216.toInt = z19.toInt + 1 := h1220
          have h1221_ : ∀ j, j ∉ [11, 12, 13, 14] → g'1217 j = g'20 j := h1221
          replace hS1219 : MS S0 S1215 (upd (upd (upd f 4 z1190) 5 y1191) 10 z1216) g'1217 := hS1219
          have hR1222_ : RJ (upd (upd (upd f 4 z1190) 5 y1191) 10 z1216) g'1217 (((5 : Int), r1208.toInt, (0 : Int), (0 : Int), []) :: (((1 : Int), (0 : Int), (0 : Int), (0 : Int), []) :: gs)) bc [] 0 [] := hR1222
          show am_E _ _ _ _ [some (.ref 39), some (.int r2), some (.int (f 4))] [] _ _
          refine am_e2 (v := 39) hi_228_295 rfl ?_
          refine am_e0 hi_228_296 ?_
          refine am_e0 hi_228_298 ?_
          refine am_e0 hi_228_299 ?_
          refine am_e1 (v := f 4) hi_228_300 rfl ?_
          refine am_e32n (as := [.ref 39, .int 34, .int 0, .int 0, .int (f 4)]) (la := [some (.ref 39), some (.int 34), some (.int 0), some (.int 0), some (.int (f 4))]) (rest := []) hi_228_301 (am_hd0 (M := 228) (by decide) 301) (Nat.le_of_ble_eq_true rfl) (Nat.le_of_ble_eq_true rfl) (show 5 ≤ am_P0.2.2.1 189 from by decide +kernel) rfl (am_recv_ok hS1219.fs) rfl rfl (ct_put (d := (d + 5)) hS1219 hR1222_  (by show (0 : Int) ≤ (f 32).toInt; omega) (by show (f 32).toInt ≤ (63 : Int); omega) (by show (f 53).toInt ≤ (4096 : Int); omega) (by show (0 : Int) ≤ (f 68).toInt; omega) (by show (f 68).toInt ≤ (65534 : Int); omega)) ?_
          rintro v1223 S1224 (⟨z1225, r1226, g'1227, hv1228, hS1229, hR1233, h1230, h1231, h1232⟩)
          subst hv1228
          have h1230_ : z1225.toInt = (f 68).toInt + 1 := h1230
          have h1231_ : r1226.toInt = (f 68).toInt := h1231
          have h1232_ : ∀ j, j ∉ [60, 69, 70, 71, 72, 73] → g'1227 j = g'1217 j := h1232
          have hR1233_ : RJ (upd (upd (upd (upd f 4 z1190) 5 y1191) 10 z1216) 68 z1225) g'1227 (((5 : Int), r1208.toInt, (0 : Int), (0 : Int), []) :: (((1 : Int), (0 : Int), (0 : Int), (0 : Int), []) :: gs)) bc [] 0 ((f 68).toNatClampNeg :: []) := hR1233
          show am_E _ _ _ _ [some (.ref 39), some (.int r2), some (.int (f 4))] [.int r1226] _ _
          refine am_e6i hi_228_304 ?_
          refine am_e2 (v := 39) hi_228_305 rfl ?_
          refine am_e0 hi_228_306 ?_
          refine am_e32n (as := [.ref 39, .int 1]) (la := [some (.ref 39), some (.int 1)]) (rest := []) hi_228_307 (am_hd0 (M := 228) (by decide) 307) (Nat.le_of_ble_eq_true rfl) (Nat.le_of_ble_eq_true rfl) (show 2 ≤ am_P0.2.2.1 177 from by decide +kernel) rfl (am_recv_ok hS1229.fs) rfl rfl (ct_beginBlock2 (d := (d + 5)) hS1229 hR1233_ (by decide)  (by show (0 : Int) ≤ (f 37).toInt; omega) (by show (f 37).toInt ≤ (127 : Int); omega) (by show (0 : Int) ≤ (f 24).toInt; omega) (by show (0 : Int) ≤ (f 44).toInt; omega) (by show (f 44).toInt ≤ z1190.toInt; omega) (by show (0 : Int) ≤ (f 48).toInt; omega)) ?_
          rintro v1234 S1235 (⟨z1236, g'1237, hv1238, hS1239, hR1243, h1240, h1241, h1242⟩)
          subst hv1238
          have h1240_ : z1236.toInt = (f 37).toInt + 1 := h1240
          have h1241_ : ∀ j, j ∉ [38, 39, 40, 41, 42, 43] → g'1237 j = g'1227 j := h1241
          have h1242_ : g'1237 38 = upd (g'1227 38) (f 37).toNatClampNeg (f 24) := h1242
          replace hS1239 : MS S0 S1235 (upd (upd (upd (upd (upd f 4 z1190) 5 y1191) 10 z1216) 37 z1236) 68 z1225) g'1237 := hS1239
          have hR1243_ : RJ (upd (upd (upd (upd (upd f 4 z1190) 5 y1191) 10 z1216) 37 z1236) 68 z1225) g'1237 (((5 : Int), r1208.toInt, (0 : Int), (0 : Int), []) :: (((1 : Int), (0 : Int), (0 : Int), (0 : Int), []) :: gs)) ([] :: bc) [] 0 ((f 68).toNatClampNeg :: []) := hR1243
          show am_E _ _ _ _ [some (.ref 39), some (.int r2), some (.int (f 4))] [] _ _
          refine am_e2 (v := 39) hi_228_310 rfl ?_
          refine am_e32w (as := [.ref 39]) (la := [some (.ref 39)]) (rest := []) hi_228_311 (am_hd0 (M := 228) (by decide) 311) (Nat.le_of_ble_eq_true rfl) (Nat.le_of_ble_eq_true rfl) (show 1 ≤ am_P0.2.2.1 178 from by decide +kernel) rfl (am_recv_ok hS1239.fs) rfl rfl ?_
          refine am_e2 (v := 39) hi_178_0 rfl ?_
          refine am_e0 hi_178_1 ?_
          refine am_e0 hi_178_2 ?_
          refine am_e0 hi_178_3 ?_
          refine am_e0 hi_178_4 ?_
          refine am_e32n (as := [.ref 39, .int 1, .int 0, .int 0, .int 0]) (la := [some (.ref 39), some (.int 1), some (.int 0), some (.int 0), some (.int 0)]) (rest := []) hi_178_5 (am_hd0 (M := 178) (by decide) 5) (Nat.le_of_ble_eq_true rfl) (Nat.le_of_ble_eq_true rfl) (show 5 ≤ am_P0.2.2.1 179 from by decide +kernel) rfl (am_recv_ok hS1239.fs) rfl rfl (ct_pile (d := (d + 4)) hS1239 hR1243_ (mj_e_plain (by decide)) (by show (0 : Int) ≤ z1216.toInt; omega) (by show z1216.toInt ≤ (65535 : Int); omega)) ?_
          rintro v1244 S1245 (⟨z1246, g'1247, hv1248, hS1249, hR1252, h1250, h1251⟩)
          subst hv1248
          have h1250_ : z1246.toInt = z1216.toInt + 1 := h1250
          have h1251_ : ∀ j, j ∉ [11, 12, 13, 14] → g'1247 j = g'1237 j := h1251
          replace hS1249 : MS S0 S1245 (upd (upd (upd (upd (upd f 4 z1190) 5 y1191) 10 z1246) 37 z1236) 68 z1225) g'1247 := hS1249
          have hR1252_ : RJ (upd (upd (upd (upd (upd f 4 z1190) 5 y1191) 10 z1246) 37 z1236) 68 z1225) g'1247 (((1 : Int), (0 : Int), (0 : Int), (0 : Int), []) :: (((5 : Int), r1208.toInt, (0 : Int), (0 : Int), []) :: (((1 : Int), (0 : Int), (0 : Int), (0 : Int), []) :: gs))) ([] :: bc) [] 0 ((f 68).toNatClampNeg :: []) := hR1252
          show am_E _ _ _ _ [some (.ref 39)] [] _ _
          refine am_e35 hi_178_8 ?_
          show am_E _ _ _ _ [some (.ref 39), some (.int r2), some (.int (f 4))] [] _ _
          refine am_e18 hi_228_314 ?_
          refine am_e35 hi_228_422 ?_
          show am_E _ _ _ _ [some (.ref 39), some (.int r2)] [] _ _
          refine am_e35 hi_225_33 ?_
          show am_E _ _ _ _ [some (.ref 39), some (.int 1), some (.int on), some (.int tw), some (.int th)] [] _ _
          refine am_e18 hi_180_116 ?_
          refine am_e35 hi_180_371 ?_
          have q1 : mg_p1 (((1 : Int), (0 : Int), (0 : Int), (0 : Int), []) :: (((5 : Int), r1208.toInt, (0 : Int), (0 : Int), []) :: (((1 : Int), (0 : Int), (0 : Int), (0 : Int), []) :: gs))) = 0 + (0 + (0 + (mg_p1 gs))) := rfl
          have q2 : mg_p2 (((1 : Int), (0 : Int), (0 : Int), (0 : Int), []) :: (((5 : Int), r1208.toInt, (0 : Int), (0 : Int), []) :: (((1 : Int), (0 : Int), (0 : Int), (0 : Int), []) :: gs))) = 0 + (0 + (0 + (mg_p2 gs))) := rfl
          have q3 : mg_p3 (((1 : Int), (0 : Int), (0 : Int), (0 : Int), []) :: (((5 : Int), r1208.toInt, (0 : Int), (0 : Int), []) :: (((1 : Int), (0 : Int), (0 : Int), (0 : Int), []) :: gs))) = 1 + (1 + (1 + (mg_p3 gs))) := rfl
          have q4 : mg_p4 (((1 : Int), (0 : Int), (0 : Int), (0 : Int), []) :: (((5 : Int), r1208.toInt, (0 : Int), (0 : Int), []) :: (((1 : Int), (0 : Int), (0 : Int), (0 : Int), []) :: gs))) = 0 + (0 + (0 + (mg_p4 gs))) := rfl
          refine ⟨_, _, _, ([] :: bc), rfl, hS1249, Or.inl ⟨⟨(RJ.fewer (pj' := []) hR1252_ (fun _ h => nomatch h)), ?_, ?_⟩, rfl, ?_⟩⟩
          · exact (⟨⟨(show mg_k 1 from by decide), (show (0 : Int) ≤ (f 15).toInt from by omega), (show 0 ≤ (f 20).toInt from by omega), (show 1 ≤ z1236.toInt from by omega), (show 0 ≤ (f 32).toInt from by omega), (show (f 32).toInt ≤ y1191.toInt from by omega), (show y1191.toInt ≤ 48 from by omega), (show z1236.toInt ≤ 2 * (y1191.toInt) + 1 from by omega), trivial⟩, ⟨⟨(show mg_k 5 from by decide), (show (0 : Int) ≤ (f 15).toInt + 0 from by omega), (show 0 ≤ (f 20).toInt from by omega), (show 1 ≤ z1236.toInt + 0 from by omega), (show 0 ≤ (f 32).toInt + 0 from by omega), (show (f 32).toInt + 0 ≤ y1191.toInt + 0 from by omega), (show y1191.toInt + 0 ≤ 48 from by omega), (show z1236.toInt + 0 ≤ 2 * (y1191.toInt + 0) + 0 from by omega), trivial⟩, ⟨⟨(show mg_k 1 from by decide), (show (0 : Int) ≤ (f 15).toInt + 0 + 0 from by omega), (show 0 ≤ (f 20).toInt from by omega), (show 1 ≤ z1236.toInt + 0 + -1 from by omega), (show 0 ≤ (f 32).toInt + 0 + 0 from by omega), (show (f 32).toInt + 0 + 0 ≤ y1191.toInt + 0 + -1 from by omega), (show y1191.toInt + 0 + -1 ≤ 48 from by omega), (show z1236.toInt + 0 + -1 ≤ 2 * (y1191.toInt + 0 + -1) + 1 from by omega), trivial⟩, mg_cast (mg_good_ext _ _ _ _ _ _ (fun i _ => by show g'1247 34 i = g 34 i; rw [show g'1247 34 = g'1237 34 from h1251_ 34 (by decide), show g'1237 34 = g'1227 34 from h1241_ 34 (by decide), show g'1227 34 = g'1217 34 from h1232_ 34 (by decide), show g'1217 34 = g'20 34 from h1221_ 34 (by decide), show g'20 34 = g 34 from h24_ 34 (by decide)]) (fun i hi => by show g'1247 38 i = g 38 i; rw [show g'1247 38 = g'1237 38 from h1251_ 38 (by decide), h1242_, show g'1227 38 = g'1217 38 from h1232_ 38 (by decide), show g'1217 38 = g'20 38 from h1221_ 38 (by decide), show g'20 38 = g 38 from h24_ 38 (by decide)]; exact upd_ne (by rw [cl_toNat]; omega)) (fun i _ => by show g'1247 23 i = g 23 i; rw [show g'1247 23 = g'1237 23 from h1251_ 23 (by decide), show g'1237 23 = g'1227 23 from h1241_ 23 (by decide), show g'1227 23 = g'1217 23 from h1232_ 23 (by decide), show g'1217 23 = g'20 23 from h1221_ 23 (by decide), show g'20 23 = g 23 from h24_ 23 (by decide)]) hrest) (by show (f 15).toInt + 0 = (f 15).toInt + 0 + 0 + 0; omega) (by show (f 20).toInt = (f 20).toInt; omega) (by show (f 37).toInt + 0 = z1236.toInt + 0 + -1 + 0; omega) (by show (f 32).toInt + 0 = (f 32).toInt + 0 + 0 + 0; omega) (by show (f 5).toInt + 0 = y1191.toInt + 0 + -1 + 0; omega)⟩⟩⟩ : mg_good (g'1247 34) (g'1247 38) (g'1247 23) (((1 : Int), (0 : Int), (0 : Int), (0 : Int), []) :: (((5 : Int), r1208.toInt, (0 : Int), (0 : Int), []) :: (((1 : Int), (0 : Int), (0 : Int), (0 : Int), []) :: gs))) ((f 15).toInt) ((f 20).toInt) (z1236.toInt) ((f 32).toInt) (y1191.toInt))
          · exact ⟨(by show 0 ≤ z1190.toInt; omega), (by show z1190.toInt ≤ (f 0).toInt; omega), (by show (f 0).toInt ≤ 512; omega), (by show 0 ≤ (f 24).toInt; omega), (by show (f 24).toInt + (f 20).toInt + mg_p1 (((1 : Int), (0 : Int), (0 : Int), (0 : Int), []) :: (((5 : Int), r1208.toInt, (0 : Int), (0 : Int), []) :: (((1 : Int), (0 : Int), (0 : Int), (0 : Int), []) :: gs))) ≤ 4 * z1190.toInt; omega), (by show (f 20).toInt ≤ z1190.toInt; omega), (by show (f 15).toInt + mg_p2 (((1 : Int), (0 : Int), (0 : Int), (0 : Int), []) :: (((5 : Int), r1208.toInt, (0 : Int), (0 : Int), []) :: (((1 : Int), (0 : Int), (0 : Int), (0 : Int), []) :: gs))) ≤ z1190.toInt; omega), (by show mg_p3 (((1 : Int), (0 : Int), (0 : Int), (0 : Int), []) :: (((5 : Int), r1208.toInt, (0 : Int), (0 : Int), []) :: (((1 : Int), (0 : Int), (0 : Int), (0 : Int), []) :: gs))) ≤ 20 * z1190.toInt + 20; omega), (by show 0 ≤ z1225.toInt; omega), (by show z1225.toInt + 3 * (f 20).toInt + mg_p4 (((1 : Int), (0 : Int), (0 : Int), (0 : Int), []) :: (((5 : Int), r1208.toInt, (0 : Int), (0 : Int), []) :: (((1 : Int), (0 : Int), (0 : Int), (0 : Int), []) :: gs))) ≤ 60 * z1190.toInt + 60; omega), (by show 0 ≤ (f 62).toInt; omega), (by show (f 62).toInt + 64 * mj_n (g'1247 16) (f 15).toNatClampNeg 3 ≤ 64 * z1190.toInt; rw [show g'1247 16 = g'1237 16 from h1251_ 16 (by decide), show g'1237 16 = g'1227 16 from h1241_ 16 (by decide), show g'1227 16 = g'1217 16 from h1232_ 16 (by decide), show g'1217 16 = g'20 16 from h1221_ 16 (by decide), show g'20 16 = g 16 from h24_ 16 (by decide)]; omega), (by show 0 ≤ (f 44).toInt; omega), (by show (f 44).toInt ≤ z1190.toInt; omega), (by show 0 ≤ (f 48).toInt; omega), (by show (f 48).toInt ≤ z1190.toInt; omega), (by show 1 ≤ (f 53).toInt; omega), (by show (f 53).toInt ≤ z1190.toInt + 1; omega), (by show 0 ≤ (f 19).toInt; omega), (by show (f 19).toInt ≤ 600; omega), (by show 0 ≤ (f 6).toInt; omega), (by show 0 ≤ (f 8).toInt; omega)⟩
          · show 100 * ((f 0).toInt - z1190.toInt) + mg_p3 (((1 : Int), (0 : Int), (0 : Int), (0 : Int), []) :: (((5 : Int), r1208.toInt, (0 : Int), (0 : Int), []) :: (((1 : Int), (0 : Int), (0 : Int), (0 : Int), []) :: gs))) < 100 * ((f 0).toInt - (f 4).toInt) + (1 + mg_p3 gs); omega
        · subst hv1201
          have h1203_ : (0 : Int) ≤ a1199.toInt := h1203
          replace hS1202 : MS S0 S1189 (upd (upd (upd f 6 a1199) 7 b1200) 10 0) g'20 := hS1202
          have hR1253 := rj_clear0 hR25_
          have hR1254 : RJ (upd (upd (upd f 6 a1199) 7 b1200) 10 0) g'20 [] bc [] 0 [] := hR1253
          show am_E _ _ _ _ [some (.ref 39), some (.int r2), some (.int (f 4))] [.int 0] _ _
          refine am_e12f hi_228_278 (by decide) ?_
          refine am_e18 hi_228_281 ?_
          refine am_e35 hi_228_422 ?_
          show am_E _ _ _ _ [some (.ref 39), some (.int r2)] [] _ _
          refine am_e35 hi_225_33 ?_
          show am_E _ _ _ _ [some (.ref 39), some (.int 1), some (.int on), some (.int tw), some (.int th)] [] _ _
          refine am_e18 hi_180_116 ?_
          refine am_e35 hi_180_371 ?_
          have hRc := rj_clear0 hR1254
          refine ⟨_, _, [], _, rfl, hS1202, Or.inr ⟨hRc, rfl, (by show 0 ≤ (f 4).toInt; omega), (by show (f 4).toInt ≤ (f 0).toInt; omega), (by show 0 ≤ (f 32).toInt; omega), (by show (f 32).toInt ≤ 63; omega), (by show 1 ≤ (f 53).toInt; omega), (by show (f 53).toInt ≤ 600; omega), (by show 0 ≤ (f 68).toInt; omega), (by show (f 68).toInt ≤ 60000; omega), (by show 0 ≤ (f 48).toInt; omega), (by show (f 48).toInt ≤ 8000; omega), (by show 0 ≤ (f 37).toInt; omega), (by show (f 37).toInt ≤ 128; omega), (by show 0 ≤ (f 62).toInt; omega), (by show (f 62).toInt ≤ 65000; omega), (by show 0 ≤ (f 19).toInt; omega), (by show (f 19).toInt ≤ 600; omega), (by show 0 ≤ a1199.toInt; omega), (by show 0 ≤ (f 8).toInt; omega)⟩⟩
      by_cases c1255 : r2.toInt = 31
      · refine am_e19 (t := 233) hi_228_6 (am_swI (v := r2) (w := 31) (by decide) (by decide) c1255) ?_
        refine am_e2 (v := 39) hi_228_233 rfl ?_
        refine am_e7 hi_228_234 ?_
        refine mm_20 (v := .int (f 4)) hS22 hi_228_235 rfl ?_
        refine am_e0 hi_228_238 ?_
        obtain ⟨z1256, hz1256, tz1256⟩ := am_addI (x := f 4) (y := 1) (m := (f 4).toInt) (n := (1 : Int)) rfl (by decide) (by omega) (by omega)
        refine am_e10 (z := z1256) hi_228_239 hz1256 ?_
        refine mm_21 (v := z1256) hS22 hi_228_240 rfl (Nat.le_of_ble_eq_true rfl) ms_4 ?_
        intro S1257 hS1258
        replace hS1258 : MS S0 S1257 (upd (upd f 4 z1256) 10 z19) g'20 := hS1258
        have hR1259 : RJ (upd (upd f 4 z1256) 10 z19) g'20 (((1 : Int), (0 : Int), (0 : Int), (0 : Int), []) :: gs) bc [] 0 [] := RJ.at hR25_ (by show (f 4).toInt ≤ z1256.toInt; omega)
        refine am_e2 (v := 39) hi_228_243 rfl ?_
        refine am_e0 hi_228_244 ?_
        refine am_e2 (v := 39) hi_228_245 rfl ?_
        refine am_e32n (as := [.ref 39]) (la := [some (.ref 39)]) (rest := [.int 3, .ref 39]) hi_228_246 (am_hd0 (M := 228) (by decide) 246) (Nat.le_of_ble_eq_true rfl) (Nat.le_of_ble_eq_true rfl) (show 1 ≤ am_P0.2.2.1 210 from by decide +kernel) rfl (am_recv_ok hS1258.fs) rfl rfl (ct_here (d := (d + 5)) hS1258 hR1259  (by show (0 : Int) ≤ (f 32).toInt; omega) (by show (f 32).toInt ≤ (63 : Int); omega) (by show (f 53).toInt ≤ (4096 : Int); omega) (by show (0 : Int) ≤ (f 68).toInt; omega) (by show (f 68).toInt ≤ (65534 : Int); omega)) ?_
        rintro v1260 S1261 (⟨r1262, hv1263, hS1264, h1265, h1266⟩)
        subst hv1263
        have h1265_ : (0 : Int) ≤ r1262.toInt := h1265
        have h1266_ : r1262.toInt ≤ (f 68).toInt := h1266
        show am_E _ _ _ _ [some (.ref 39), some (.int r2), some (.int (f 4))] [.int r1262, .int 3, .ref 39] _ _
        refine am_e0 hi_228_249 ?_
        refine am_e0 hi_228_250 ?_
        refine am_e32n (as := [.ref 39, .int 3, .int r1262, .int 0, .int 0]) (la := [some (.ref 39), some (.int 3), some (.int r1262), some (.int 0), some (.int 0)]) (rest := []) hi_228_251 (am_hd0 (M := 228) (by decide) 251) (Nat.le_of_ble_eq_true rfl) (Nat.le_of_ble_eq_true rfl) (show 5 ≤ am_P0.2.2.1 179 from by decide +kernel) rfl (am_recv_ok hS1264.fs) rfl rfl (ct_pile (d := (d + 5)) hS1264 hR1259 (mj_e_plain (by decide)) (by show (0 : Int) ≤ z19.toInt; omega) (by show z19.toInt ≤ (65535 : Int); omega)) ?_
        rintro v1268 S1269 (⟨z1270, g'1271, hv1272, hS1273, hR1276, h1274, h1275⟩)
        subst hv1272
        have h1274_ : z1270.toInt = z19.toInt + 1 := h1274
        have h1275_ : ∀ j, j ∉ [11, 12, 13, 14] → g'1271 j = g'20 j := h1275
        replace hS1273 : MS S0 S1269 (upd (upd f 4 z1256) 10 z1270) g'1271 := hS1273
        have hR1276_ : RJ (upd (upd f 4 z1256) 10 z1270) g'1271 (((3 : Int), r1262.toInt, (0 : Int), (0 : Int), []) :: (((1 : Int), (0 : Int), (0 : Int), (0 : Int), []) :: gs)) bc [] 0 [] := hR1276
        show am_E _ _ _ _ [some (.ref 39), some (.int r2), some (.int (f 4))] [] _ _
        refine am_e2 (v := 39) hi_228_254 rfl ?_
        refine am_e0 hi_228_255 ?_
        refine am_e0 hi_228_257 ?_
        refine am_e0 hi_228_258 ?_
        refine am_e1 (v := f 4) hi_228_259 rfl ?_
        refine am_e32n (as := [.ref 39, .int 34, .int 0, .int 0, .int (f 4)]) (la := [some (.ref 39), some (.int 34), some (.int 0), some (.int 0), some (.int (f 4))]) (rest := []) hi_228_260 (am_hd0 (M := 228) (by decide) 260) (Nat.le_of_ble_eq_true rfl) (Nat.le_of_ble_eq_true rfl) (show 5 ≤ am_P0.2.2.1 189 from by decide +kernel) rfl (am_recv_ok hS1273.fs) rfl rfl (ct_put (d := (d + 5)) hS1273 hR1276_  (by show (0 : Int) ≤ (f 32).toInt; omega) (by show (f 32).toInt ≤ (63 : Int); omega) (by show (f 53).toInt ≤ (4096 : Int); omega) (by show (0 : Int) ≤ (f 68).toInt; omega) (by show (f 68).toInt ≤ (65534 : Int); omega)) ?_
        rintro v1277 S1278 (⟨z1279, r1280, g'1281, hv1282, hS1283, hR1287, h1284, h1285, h1286⟩)
        subst hv1282
        have h1284_ : z1279.toInt = (f 68).toInt + 1 := h1284
        have h1285_ : r1280.toInt = (f 68).toInt := h1285
        have h1286_ : ∀ j, j ∉ [60, 69, 70, 71, 72, 73] → g'1281 j = g'1271 j := h1286
        have hR1287_ : RJ (upd (upd (upd f 4 z1256) 10 z1270) 68 z1279) g'1281 (((3 : Int), r1262.toInt, (0 : Int), (0 : Int), []) :: (((1 : Int), (0 : Int), (0 : Int), (0 : Int), []) :: gs)) bc [] 0 ((f 68).toNatClampNeg :: []) := hR1287
        show am_E _ _ _ _ [some (.ref 39), some (.int r2), some (.int (f 4))] [.int r1280] _ _
        refine am_e6i hi_228_263 ?_
        refine am_e2 (v := 39) hi_228_264 rfl ?_
        refine am_e0 hi_228_265 ?_
        refine am_e32w (as := [.ref 39, .int 0]) (la := [some (.ref 39), some (.int 0)]) (rest := []) hi_228_266 (am_hd0 (M := 228) (by decide) 266) (Nat.le_of_ble_eq_true rfl) (Nat.le_of_ble_eq_true rfl) (show 2 ≤ am_P0.2.2.1 186 from by decide +kernel) rfl (am_recv_ok hS1283.fs) rfl rfl ?_
        refine am_e2 (v := 39) hi_186_0 rfl ?_
        refine am_e0 hi_186_1 ?_
        refine am_e1 (v := 0) hi_186_3 rfl ?_
        refine am_e0 hi_186_4 ?_
        refine am_e0 hi_186_5 ?_
        refine am_e32n (as := [.ref 39, .int 23, .int 0, .int 0, .int 0]) (la := [some (.ref 39), some (.int 23), some (.int 0), some (.int 0), some (.int 0)]) (rest := []) hi_186_6 (am_hd0 (M := 186) (by decide) 6) (Nat.le_of_ble_eq_true rfl) (Nat.le_of_ble_eq_true rfl) (show 5 ≤ am_P0.2.2.1 179 from by decide +kernel) rfl (am_recv_ok hS1283.fs) rfl rfl (ct_pile (d := (d + 4)) hS1283 hR1287_ (mj_e_plain (by decide)) (by show (0 : Int) ≤ z1270.toInt; omega) (by show z1270.toInt ≤ (65535 : Int); omega)) ?_
        rintro v1288 S1289 (⟨z1290, g'1291, hv1292, hS1293, hR1296, h1294, h1295⟩)
        subst hv1292
        have h1294_ : z1290.toInt = z1270.toInt + 1 := h1294
        have h1295_ : ∀ j, j ∉ [11, 12, 13, 14] → g'1291 j = g'1281 j := h1295
        replace hS1293 : MS S0 S1289 (upd (upd (upd f 4 z1256) 10 z1290) 68 z1279) g'1291 := hS1293
        have hR1296_ : RJ (upd (upd (upd f 4 z1256) 10 z1290) 68 z1279) g'1291 (((23 : Int), (0 : Int), (0 : Int), (0 : Int), []) :: (((3 : Int), r1262.toInt, (0 : Int), (0 : Int), []) :: (((1 : Int), (0 : Int), (0 : Int), (0 : Int), []) :: gs))) bc [] 0 ((f 68).toNatClampNeg :: []) := hR1296
        show am_E _ _ _ _ [some (.ref 39), some (.int 0)] [] _ _
        refine am_e35 hi_186_9 ?_
        show am_E _ _ _ _ [some (.ref 39), some (.int r2), some (.int (f 4))] [] _ _
        refine am_e18 hi_228_269 ?_
        refine am_e35 hi_228_422 ?_
        show am_E _ _ _ _ [some (.ref 39), some (.int r2)] [] _ _
        refine am_e35 hi_225_33 ?_
        show am_E _ _ _ _ [some (.ref 39), some (.int 1), some (.int on), some (.int tw), some (.int th)] [] _ _
        refine am_e18 hi_180_116 ?_
        refine am_e35 hi_180_371 ?_
        have q1 : mg_p1 (((23 : Int), (0 : Int), (0 : Int), (0 : Int), []) :: (((3 : Int), r1262.toInt, (0 : Int), (0 : Int), []) :: (((1 : Int), (0 : Int), (0 : Int), (0 : Int), []) :: gs))) = 0 + (0 + (0 + (mg_p1 gs))) := rfl
        have q2 : mg_p2 (((23 : Int), (0 : Int), (0 : Int), (0 : Int), []) :: (((3 : Int), r1262.toInt, (0 : Int), (0 : Int), []) :: (((1 : Int), (0 : Int), (0 : Int), (0 : Int), []) :: gs))) = 0 + (0 + (0 + (mg_p2 gs))) := rfl
        have q3 : mg_p3 (((23 : Int), (0 : Int), (0 : Int), (0 : Int), []) :: (((3 : Int), r1262.toInt, (0 : Int), (0 : Int), []) :: (((1 : Int), (0 : Int), (0 : Int), (0 : Int), []) :: gs))) = 1 + (1 + (1 + (mg_p3 gs))) := rfl
        have q4 : mg_p4 (((23 : Int), (0 : Int), (0 : Int), (0 : Int), []) :: (((3 : Int), r1262.toInt, (0 : Int), (0 : Int), []) :: (((1 : Int), (0 : Int), (0 : Int), (0 : Int), []) :: gs))) = 0 + (0 + (0 + (mg_p4 gs))) := rfl
        refine ⟨_, _, _, bc, rfl, hS1293, Or.inl ⟨⟨(RJ.fewer (pj' := []) hR1296_ (fun _ h => nomatch h)), ?_, ?_⟩, rfl, ?_⟩⟩
        · exact (⟨⟨(show mg_k 23 from by decide), (show (0 : Int) ≤ (f 15).toInt from by omega), (show 0 ≤ (f 20).toInt from by omega), (show 1 ≤ (f 37).toInt from by omega), (show 0 ≤ (f 32).toInt from by omega), (show (f 32).toInt ≤ (f 5).toInt from by omega), (show (f 5).toInt ≤ 48 from by omega), (show (f 37).toInt ≤ 2 * ((f 5).toInt) + 2 from by omega), (show 0 ≤ (0 : Int) from by omega)⟩, ⟨⟨(show mg_k 3 from by decide), (show (1 : Int) ≤ (f 15).toInt + 1 from by omega), (show 0 ≤ (f 20).toInt from by omega), (show 1 ≤ (f 37).toInt + 0 from by omega), (show 0 ≤ (f 32).toInt + 0 from by omega), (show (f 32).toInt + 0 ≤ (f 5).toInt + 0 from by omega), (show (f 5).toInt + 0 ≤ 48 from by omega), (show (f 37).toInt + 0 ≤ 2 * ((f 5).toInt + 0) + 1 from by omega), trivial⟩, ⟨⟨(show mg_k 1 from by decide), (show (0 : Int) ≤ (f 15).toInt + 1 + -1 from by omega), (show 0 ≤ (f 20).toInt from by omega), (show 1 ≤ (f 37).toInt + 0 + 0 from by omega), (show 0 ≤ (f 32).toInt + 0 + 0 from by omega), (show (f 32).toInt + 0 + 0 ≤ (f 5).toInt + 0 + 0 from by omega), (show (f 5).toInt + 0 + 0 ≤ 48 from by omega), (show (f 37).toInt + 0 + 0 ≤ 2 * ((f 5).toInt + 0 + 0) + 1 from by omega), trivial⟩, mg_cast (mg_good_ext _ _ _ _ _ _ (fun i _ => by show g'1291 34 i = g 34 i; rw [show g'1291 34 = g'1281 34 from h1295_ 34 (by decide), show g'1281 34 = g'1271 34 from h1286_ 34 (by decide), show g'1271 34 = g'20 34 from h1275_ 34 (by decide), show g'20 34 = g 34 from h24_ 34 (by decide)]) (fun i _ => by show g'1291 38 i = g 38 i; rw [show g'1291 38 = g'1281 38 from h1295_ 38 (by decide), show g'1281 38 = g'1271 38 from h1286_ 38 (by decide), show g'1271 38 = g'20 38 from h1275_ 38 (by decide), show g'20 38 = g 38 from h24_ 38 (by decide)]) (fun i _ => by show g'1291 23 i = g 23 i; rw [show g'1291 23 = g'1281 23 from h1295_ 23 (by decide), show g'1281 23 = g'1271 23 from h1286_ 23 (by decide), show g'1271 23 = g'20 23 from h1275_ 23 (by decide), show g'20 23 = g 23 from h24_ 23 (by decide)]) hrest) (by show (f 15).toInt + 0 = (f 15).toInt + 1 + -1 + 0; omega) (by show (f 20).toInt = (f 20).toInt; omega) (by show (f 37).toInt + 0 = (f 37).toInt + 0 + 0 + 0; omega) (by show (f 32).toInt + 0 = (f 32).toInt + 0 + 0 + 0; omega) (by show (f 5).toInt + 0 = (f 5).toInt + 0 + 0 + 0; omega)⟩⟩⟩ : mg_good (g'1291 34) (g'1291 38) (g'1291 23) (((23 : Int), (0 : Int), (0 : Int), (0 : Int), []) :: (((3 : Int), r1262.toInt, (0 : Int), (0 : Int), []) :: (((1 : Int), (0 : Int), (0 : Int), (0 : Int), []) :: gs))) ((f 15).toInt) ((f 20).toInt) ((f 37).toInt) ((f 32).toInt) ((f 5).toInt))
        · exact ⟨(by show 0 ≤ z1256.toInt; omega), (by show z1256.toInt ≤ (f 0).toInt; omega), (by show (f 0).toInt ≤ 512; omega), (by show 0 ≤ (f 24).toInt; omega), (by show (f 24).toInt + (f 20).toInt + mg_p1 (((23 : Int), (0 : Int), (0 : Int), (0 : Int), []) :: (((3 : Int), r1262.toInt, (0 : Int), (0 : Int), []) :: (((1 : Int), (0 : Int), (0 : Int), (0 : Int), []) :: gs))) ≤ 4 * z1256.toInt; omega), (by show (f 20).toInt ≤ z1256.toInt; omega), (by show (f 15).toInt + mg_p2 (((23 : Int), (0 : Int), (0 : Int), (0 : Int), []) :: (((3 : Int), r1262.toInt, (0 : Int), (0 : Int), []) :: (((1 : Int), (0 : Int), (0 : Int), (0 : Int), []) :: gs))) ≤ z1256.toInt; omega), (by show mg_p3 (((23 : Int), (0 : Int), (0 : Int), (0 : Int), []) :: (((3 : Int), r1262.toInt, (0 : Int), (0 : Int), []) :: (((1 : Int), (0 : Int), (0 : Int), (0 : Int), []) :: gs))) ≤ 20 * z1256.toInt + 20; omega), (by show 0 ≤ z1279.toInt; omega), (by show z1279.toInt + 3 * (f 20).toInt + mg_p4 (((23 : Int), (0 : Int), (0 : Int), (0 : Int), []) :: (((3 : Int), r1262.toInt, (0 : Int), (0 : Int), []) :: (((1 : Int), (0 : Int), (0 : Int), (0 : Int), []) :: gs))) ≤ 60 * z1256.toInt + 60; omega), (by show 0 ≤ (f 62).toInt; omega), (by show (f 62).toInt + 64 * mj_n (g'1291 16) (f 15).toNatClampNeg 3 ≤ 64 * z1256.toInt; rw [show g'1291 16 = g'1281 16 from h1295_ 16 (by decide), show g'1281 16 = g'1271 16 from h1286_ 16 (by decide), show g'1271 16 = g'20 16 from h1275_ 16 (by decide), show g'20 16 = g 16 from h24_ 16 (by decide)]; omega), (by show 0 ≤ (f 44).toInt; omega), (by show (f 44).toInt ≤ z1256.toInt; omega), (by show 0 ≤ (f 48).toInt; omega), (by show (f 48).toInt ≤ z1256.toInt; omega), (by show 1 ≤ (f 53).toInt; omega), (by show (f 53).toInt ≤ z1256.toInt + 1; omega), (by show 0 ≤ (f 19).toInt; omega), (by show (f 19).toInt ≤ 600; omega), (by show 0 ≤ (f 6).toInt; omega), (by show 0 ≤ (f 8).toInt; omega)⟩
        · show 100 * ((f 0).toInt - z1256.toInt) + mg_p3 (((23 : Int), (0 : Int), (0 : Int), (0 : Int), []) :: (((3 : Int), r1262.toInt, (0 : Int), (0 : Int), []) :: (((1 : Int), (0 : Int), (0 : Int), (0 : Int), []) :: gs))) < 100 * ((f 0).toInt - (f 4).toInt) + (1 + mg_p3 gs); omega
      by_cases c1297 : r2.toInt = 66
      · refine am_e19 (t := 117) hi_228_6 (am_swI (v := r2) (w := 66) (by decide) (by decide) c1297) ?_
        refine am_e2 (v := 39) hi_228_117 rfl ?_
        refine am_e7 hi_228_118 ?_
        refine mm_20 (v := .int (f 4)) hS22 hi_228_119 rfl ?_
        refine am_e0 hi_228_122 ?_
        obtain ⟨z1298, hz1298, tz1298⟩ := am_addI (x := f 4) (y := 1) (m := (f 4).toInt) (n := (1 : Int)) rfl (by decide) (by omega) (by omega)
        refine am_e10 (z := z1298) hi_228_123 hz1298 ?_
        refine mm_21 (v := z1298) hS22 hi_228_124 rfl (Nat.le_of_ble_eq_true rfl) ms_4 ?_
        intro S1299 hS1300
        replace hS1300 : MS S0 S1299 (upd (upd f 4 z1298) 10 z19) g'20 := hS1300
        have hR1301 : RJ (upd (upd f 4 z1298) 10 z19) g'20 (((1 : Int), (0 : Int), (0 : Int), (0 : Int), []) :: gs) bc [] 0 [] := RJ.at hR25_ (by show (f 4).toInt ≤ z1298.toInt; omega)
        refine am_e2 (v := 39) hi_228_127 rfl ?_
        refine am_e0 hi_228_128 ?_
        refine am_e32n (as := [.ref 39, .int 1]) (la := [some (.ref 39), some (.int 1)]) (rest := []) hi_228_129 (am_hd0 (M := 228) (by decide) 129) (Nat.le_of_ble_eq_true rfl) (Nat.le_of_ble_eq_true rfl) (show 2 ≤ am_P0.2.2.1 200 from by decide +kernel) rfl (am_recv_ok hS1300.fs) rfl rfl (ct_take (d := (d + 3)) hS1300   (by show (0 : Int) ≤ z1298.toInt; omega) (by show (f 0).toInt ≤ (16384 : Int); omega) (by show (0 : Int) ≤ (1 : Int); omega) (by show (0 : Int) ≤ (f 6).toInt; omega)) ?_
        rintro v1302 S1303 (⟨z1304, hv1305, hS1306, h1307, h1308⟩ | ⟨a1310, b1311, hv1312, hS1313, h1314⟩)
        · subst hv1305
          have h1307_ : z1304.toInt = z1298.toInt + 1 := h1307
          have h1308_ : z1298.toInt < (f 0).toInt := h1308
          replace hS1306 : MS S0 S1303 (upd (upd f 4 z1304) 10 z19) g'20 := hS1306
          have hR1316 : RJ (upd (upd f 4 z1304) 10 z19) g'20 (((1 : Int), (0 : Int), (0 : Int), (0 : Int), []) :: gs) bc [] 0 [] := RJ.at hR1301 (by show z1298.toInt ≤ z1304.toInt; omega)
          show am_E _ _ _ _ [some (.ref 39), some (.int r2), some (.int (f 4))] [.int 1] _ _
          refine am_e12f hi_228_132 (by decide) ?_
          refine am_e2 (v := 39) hi_228_135 rfl ?_
          refine am_e0 hi_228_136 ?_
          refine am_e32n (as := [.ref 39, .int 66]) (la := [some (.ref 39), some (.int 66)]) (rest := []) hi_228_138 (am_hd0 (M := 228) (by decide) 138) (Nat.le_of_ble_eq_true rfl) (Nat.le_of_ble_eq_true rfl) (show 2 ≤ am_P0.2.2.1 200 from by decide +kernel) rfl (am_recv_ok hS1306.fs) rfl rfl (ct_take (d := (d + 3)) hS1306   (by show (0 : Int) ≤ z1304.toInt; omega) (by show (f 0).toInt ≤ (16384 : Int); omega) (by show (0 : Int) ≤ (66 : Int); omega) (by show (0 : Int) ≤ (f 6).toInt; omega)) ?_
          rintro v1317 S1318 (⟨z1319, hv1320, hS1321, h1322, h1323⟩ | ⟨a1325, b1326, hv1327, hS1328, h1329⟩)
          · subst hv1320
            have h1322_ : z1319.toInt = z1304.toInt + 1 := h1322
            have h1323_ : z1304.toInt < (f 0).toInt := h1323
            replace hS1321 : MS S0 S1318 (upd (upd f 4 z1319) 10 z19) g'20 := hS1321
            have hR1331 : RJ (upd (upd f 4 z1319) 10 z19) g'20 (((1 : Int), (0 : Int), (0 : Int), (0 : Int), []) :: gs) bc [] 0 [] := RJ.at hR1316 (by show z1304.toInt ≤ z1319.toInt; omega)
            show am_E _ _ _ _ [some (.ref 39), some (.int r2), some (.int (f 4))] [.int 1] _ _
            refine am_e12f hi_228_141 (by decide) ?_
            refine am_e2 (v := 39) hi_228_144 rfl ?_
            refine am_e1 (v := f 4) hi_228_145 rfl ?_
            refine am_e0 hi_228_146 ?_
            refine am_e10 (z := z1298) hi_228_147 hz1298 ?_
            refine am_e32n (as := [.ref 39, .int z1298]) (la := [some (.ref 39), some (.int z1298), none, none, none, none]) (rest := []) hi_228_148 (am_hd0 (M := 228) (by decide) 148) (Nat.le_of_ble_eq_true rfl) (Nat.le_of_ble_eq_true rfl) (show 2 ≤ am_P0.2.2.1 229 from by decide +kernel) rfl (am_recv_ok hS1321.fs) rfl rfl (ct_label (d := (d + 3)) hS1321 hR1331  (by show (0 : Int) ≤ (f 32).toInt; omega) (by show (f 32).toInt ≤ (63 : Int); omega) (by show (f 53).toInt ≤ (4096 : Int); omega) (by show (0 : Int) ≤ (f 68).toInt; omega) (by show (f 68).toInt ≤ (65534 : Int); omega) (by show (0 : Int) ≤ z1319.toInt; omega) (by show (f 0).toInt ≤ (16384 : Int); omega) (by show (0 : Int) ≤ (f 48).toInt; omega) (by show (f 48).toInt ≤ (8192 : Int); omega) (by show z1319.toInt ≤ (f 0).toInt; omega) (by show z1319.toInt ≤ (8192 : Int); omega) (by show (f 48).toInt ≤ z1319.toInt; omega) (by show (0 : Int) ≤ (f 44).toInt; omega) (by show (f 44).toInt ≤ (8191 : Int); omega) (by show (1 : Int) ≤ (f 37).toInt; omega) (by show (f 37).toInt ≤ (128 : Int); omega) (by show (0 : Int) ≤ z1298.toInt; omega) (by show z1298.toInt ≤ (16383 : Int); omega) (by show (0 : Int) ≤ (f 8).toInt; omega)) ?_
            rintro v1332 S1333 (⟨a1334, b1335, y1336, z1337, g'1338, hv1339, hS1340, hR1346, h1341, h1342, h1343, h1344, h1345⟩)
            subst hv1339
            have h1341_ : y1336.toInt = (f 44).toInt + 1 := h1341
            have h1342_ : (0 : Int) ≤ z1337.toInt := h1342
            have h1343_ : z1337.toInt ≤ z1319.toInt := h1343
            have h1344_ : ∀ j, j ∉ [45, 46, 47, 49, 50, 51, 52, 71] → g'1338 j = g'20 j := h1344
            have h1345_ : (0 : Int) ≤ a1334.toInt := h1345
            replace hS1340 : MS S0 S1333 (upd (upd (upd (upd (upd (upd f 4 z1319) 8 a1334) 9 b1335) 10 z19) 44 y1336) 48 z1337) g'1338 := hS1340
            have hR1346_ : RJ (upd (upd (upd (upd (upd (upd f 4 z1319) 8 a1334) 9 b1335) 10 z19) 44 y1336) 48 z1337) g'1338 (((1 : Int), (0 : Int), (0 : Int), (0 : Int), []) :: gs) bc [] 0 [] := hR1346
            show am_E _ _ _ _ [some (.ref 39), some (.int r2), some (.int (f 4))] [] _ _
            refine am_e18 hi_228_151 ?_
            refine am_e35 hi_228_422 ?_
            show am_E _ _ _ _ [some (.ref 39), some (.int r2)] [] _ _
            refine am_e35 hi_225_33 ?_
            show am_E _ _ _ _ [some (.ref 39), some (.int 1), some (.int on), some (.int tw), some (.int th)] [] _ _
            refine am_e18 hi_180_116 ?_
            refine am_e35 hi_180_371 ?_
            have q1 : mg_p1 (((1 : Int), (0 : Int), (0 : Int), (0 : Int), []) :: gs) = 0 + (mg_p1 gs) := rfl
            have q2 : mg_p2 (((1 : Int), (0 : Int), (0 : Int), (0 : Int), []) :: gs) = 0 + (mg_p2 gs) := rfl
            have q3 : mg_p3 (((1 : Int), (0 : Int), (0 : Int), (0 : Int), []) :: gs) = 1 + (mg_p3 gs) := rfl
            have q4 : mg_p4 (((1 : Int), (0 : Int), (0 : Int), (0 : Int), []) :: gs) = 0 + (mg_p4 gs) := rfl
            refine ⟨_, _, _, bc, rfl, hS1340, Or.inl ⟨⟨hR1346_, ?_, ?_⟩, rfl, ?_⟩⟩
            · exact (⟨⟨(show mg_k 1 from by decide), (show (0 : Int) ≤ (f 15).toInt from by omega), (show 0 ≤ (f 20).toInt from by omega), (show 1 ≤ (f 37).toInt from by omega), (show 0 ≤ (f 32).toInt from by omega), (show (f 32).toInt ≤ (f 5).toInt from by omega), (show (f 5).toInt ≤ 48 from by omega), (show (f 37).toInt ≤ 2 * ((f 5).toInt) + 1 from by omega), trivial⟩, mg_cast (mg_good_ext _ _ _ _ _ _ (fun i _ => by show g'1338 34 i = g 34 i; rw [show g'1338 34 = g'20 34 from h1344_ 34 (by decide), show g'20 34 = g 34 from h24_ 34 (by decide)]) (fun i _ => by show g'1338 38 i = g 38 i; rw [show g'1338 38 = g'20 38 from h1344_ 38 (by decide), show g'20 38 = g 38 from h24_ 38 (by decide)]) (fun i _ => by show g'1338 23 i = g 23 i; rw [show g'1338 23 = g'20 23 from h1344_ 23 (by decide), show g'20 23 = g 23 from h24_ 23 (by decide)]) hrest) (by show (f 15).toInt + 0 = (f 15).toInt + 0; omega) (by show (f 20).toInt = (f 20).toInt; omega) (by show (f 37).toInt + 0 = (f 37).toInt + 0; omega) (by show (f 32).toInt + 0 = (f 32).toInt + 0; omega) (by show (f 5).toInt + 0 = (f 5).toInt + 0; omega)⟩ : mg_good (g'1338 34) (g'1338 38) (g'1338 23) (((1 : Int), (0 : Int), (0 : Int), (0 : Int), []) :: gs) ((f 15).toInt) ((f 20).toInt) ((f 37).toInt) ((f 32).toInt) ((f 5).toInt))
            · exact ⟨(by show 0 ≤ z1319.toInt; omega), (by show z1319.toInt ≤ (f 0).toInt; omega), (by show (f 0).toInt ≤ 512; omega), (by show 0 ≤ (f 24).toInt; omega), (by show (f 24).toInt + (f 20).toInt + mg_p1 (((1 : Int), (0 : Int), (0 : Int), (0 : Int), []) :: gs) ≤ 4 * z1319.toInt; omega), (by show (f 20).toInt ≤ z1319.toInt; omega), (by show (f 15).toInt + mg_p2 (((1 : Int), (0 : Int), (0 : Int), (0 : Int), []) :: gs) ≤ z1319.toInt; omega), (by show mg_p3 (((1 : Int), (0 : Int), (0 : Int), (0 : Int), []) :: gs) ≤ 20 * z1319.toInt + 20; omega), (by show 0 ≤ (f 68).toInt; omega), (by show (f 68).toInt + 3 * (f 20).toInt + mg_p4 (((1 : Int), (0 : Int), (0 : Int), (0 : Int), []) :: gs) ≤ 60 * z1319.toInt + 60; omega), (by show 0 ≤ (f 62).toInt; omega), (by show (f 62).toInt + 64 * mj_n (g'1338 16) (f 15).toNatClampNeg 3 ≤ 64 * z1319.toInt; rw [show g'1338 16 = g'20 16 from h1344_ 16 (by decide), show g'20 16 = g 16 from h24_ 16 (by decide)]; omega), (by show 0 ≤ y1336.toInt; omega), (by show y1336.toInt ≤ z1319.toInt; omega), (by show 0 ≤ z1337.toInt; omega), (by show z1337.toInt ≤ z1319.toInt; omega), (by show 1 ≤ (f 53).toInt; omega), (by show (f 53).toInt ≤ z1319.toInt + 1; omega), (by show 0 ≤ (f 19).toInt; omega), (by show (f 19).toInt ≤ 600; omega), (by show 0 ≤ (f 6).toInt; omega), (by show 0 ≤ a1334.toInt; omega)⟩
            · show 100 * ((f 0).toInt - z1319.toInt) + mg_p3 (((1 : Int), (0 : Int), (0 : Int), (0 : Int), []) :: gs) < 100 * ((f 0).toInt - (f 4).toInt) + (1 + mg_p3 gs); omega
          · subst hv1327
            have h1329_ : (0 : Int) ≤ a1325.toInt := h1329
            replace hS1328 : MS S0 S1318 (upd (upd (upd (upd f 4 z1304) 6 a1325) 7 b1326) 10 0) g'20 := hS1328
            have hR1347 := rj_clear0 hR1316
            have hR1348 : RJ (upd (upd (upd (upd f 4 z1304) 6 a1325) 7 b1326) 10 0) g'20 [] bc [] 0 [] := hR1347
            show am_E _ _ _ _ [some (.ref 39), some (.int r2), some (.int (f 4))] [.int 0] _ _
            refine am_e12t hi_228_141 (by decide) ?_
            refine am_e35 hi_228_422 ?_
            show am_E _ _ _ _ [some (.ref 39), some (.int r2)] [] _ _
            refine am_e35 hi_225_33 ?_
            show am_E _ _ _ _ [some (.ref 39), some (.int 1), some (.int on), some (.int tw), some (.int th)] [] _ _
            refine am_e18 hi_180_116 ?_
            refine am_e35 hi_180_371 ?_
            have hRc := rj_clear0 hR1348
            refine ⟨_, _, [], _, rfl, hS1328, Or.inr ⟨hRc, rfl, (by show 0 ≤ z1304.toInt; omega), (by show z1304.toInt ≤ (f 0).toInt; omega), (by show 0 ≤ (f 32).toInt; omega), (by show (f 32).toInt ≤ 63; omega), (by show 1 ≤ (f 53).toInt; omega), (by show (f 53).toInt ≤ 600; omega), (by show 0 ≤ (f 68).toInt; omega), (by show (f 68).toInt ≤ 60000; omega), (by show 0 ≤ (f 48).toInt; omega), (by show (f 48).toInt ≤ 8000; omega), (by show 0 ≤ (f 37).toInt; omega), (by show (f 37).toInt ≤ 128; omega), (by show 0 ≤ (f 62).toInt; omega), (by show (f 62).toInt ≤ 65000; omega), (by show 0 ≤ (f 19).toInt; omega), (by show (f 19).toInt ≤ 600; omega), (by show 0 ≤ a1325.toInt; omega), (by show 0 ≤ (f 8).toInt; omega)⟩⟩
        · subst hv1312
          have h1314_ : (0 : Int) ≤ a1310.toInt := h1314
          replace hS1313 : MS S0 S1303 (upd (upd (upd (upd f 4 z1298) 6 a1310) 7 b1311) 10 0) g'20 := hS1313
          have hR1349 := rj_clear0 hR1301
          have hR1350 : RJ (upd (upd (upd (upd f 4 z1298) 6 a1310) 7 b1311) 10 0) g'20 [] bc [] 0 [] := hR1349
          show am_E _ _ _ _ [some (.ref 39), some (.int r2), some (.int (f 4))] [.int 0] _ _
          refine am_e12t hi_228_132 (by decide) ?_
          refine am_e35 hi_228_422 ?_
          show am_E _ _ _ _ [some (.ref 39), some (.int r2)] [] _ _
          refine am_e35 hi_225_33 ?_
          show am_E _ _ _ _ [some (.ref 39), some (.int 1), some (.int on), some (.int tw), some (.int th)] [] _ _
          refine am_e18 hi_180_116 ?_
          refine am_e35 hi_180_371 ?_
          have hRc := rj_clear0 hR1350
          refine ⟨_, _, [], _, rfl, hS1313, Or.inr ⟨hRc, rfl, (by show 0 ≤ z1298.toInt; omega), (by show z1298.toInt ≤ (f 0).toInt; omega), (by show 0 ≤ (f 32).toInt; omega), (by show (f 32).toInt ≤ 63; omega), (by show 1 ≤ (f 53).toInt; omega), (by show (f 53).toInt ≤ 600; omega), (by show 0 ≤ (f 68).toInt; omega), (by show (f 68).toInt ≤ 60000; omega), (by show 0 ≤ (f 48).toInt; omega), (by show (f 48).toInt ≤ 8000; omega), (by show 0 ≤ (f 37).toInt; omega), (by show (f 37).toInt ≤ 128; omega), (by show 0 ≤ (f 62).toInt; omega), (by show (f 62).toInt ≤ 65000; omega), (by show 0 ≤ (f 19).toInt; omega), (by show (f 19).toInt ≤ 600; omega), (by show 0 ≤ a1310.toInt; omega), (by show 0 ≤ (f 8).toInt; omega)⟩⟩
      by_cases c1351 : r2.toInt = 67
      · refine am_e19 (t := 104) hi_228_6 (am_swI (v := r2) (w := 67) (by decide) (by decide) c1351) ?_
        refine am_e2 (v := 39) hi_228_104 rfl ?_
        refine am_e7 hi_228_105 ?_
        refine mm_20 (v := .int (f 4)) hS22 hi_228_106 rfl ?_
        refine am_e0 hi_228_109 ?_
        obtain ⟨z1352, hz1352, tz1352⟩ := am_addI (x := f 4) (y := 1) (m := (f 4).toInt) (n := (1 : Int)) rfl (by decide) (by omega) (by omega)
        refine am_e10 (z := z1352) hi_228_110 hz1352 ?_
        refine mm_21 (v := z1352) hS22 hi_228_111 rfl (Nat.le_of_ble_eq_true rfl) ms_4 ?_
        intro S1353 hS1354
        replace hS1354 : MS S0 S1353 (upd (upd f 4 z1352) 10 z19) g'20 := hS1354
        have hR1355 : RJ (upd (upd f 4 z1352) 10 z19) g'20 (((1 : Int), (0 : Int), (0 : Int), (0 : Int), []) :: gs) bc [] 0 [] := RJ.at hR25_ (by show (f 4).toInt ≤ z1352.toInt; omega)
        refine am_e18 hi_228_114 ?_
        refine am_e35 hi_228_422 ?_
        show am_E _ _ _ _ [some (.ref 39), some (.int r2)] [] _ _
        refine am_e35 hi_225_33 ?_
        show am_E _ _ _ _ [some (.ref 39), some (.int 1), some (.int on), some (.int tw), some (.int th)] [] _ _
        refine am_e18 hi_180_116 ?_
        refine am_e35 hi_180_371 ?_
        have q1 : mg_p1 (((1 : Int), (0 : Int), (0 : Int), (0 : Int), []) :: gs) = 0 + (mg_p1 gs) := rfl
        have q2 : mg_p2 (((1 : Int), (0 : Int), (0 : Int), (0 : Int), []) :: gs) = 0 + (mg_p2 gs) := rfl
        have q3 : mg_p3 (((1 : Int), (0 : Int), (0 : Int), (0 : Int), []) :: gs) = 1 + (mg_p3 gs) := rfl
        have q4 : mg_p4 (((1 : Int), (0 : Int), (0 : Int), (0 : Int), []) :: gs) = 0 + (mg_p4 gs) := rfl
        refine ⟨_, _, _, bc, rfl, hS1354, Or.inl ⟨⟨hR1355, ?_, ?_⟩, rfl, ?_⟩⟩
        · exact (⟨⟨(show mg_k 1 from by decide), (show (0 : Int) ≤ (f 15).toInt from by omega), (show 0 ≤ (f 20).toInt from by omega), (show 1 ≤ (f 37).toInt from by omega), (show 0 ≤ (f 32).toInt from by omega), (show (f 32).toInt ≤ (f 5).toInt from by omega), (show (f 5).toInt ≤ 48 from by omega), (show (f 37).toInt ≤ 2 * ((f 5).toInt) + 1 from by omega), trivial⟩, mg_cast (mg_good_ext _ _ _ _ _ _ (fun i _ => by show g'20 34 i = g 34 i; rw [show g'20 34 = g 34 from h24_ 34 (by decide)]) (fun i _ => by show g'20 38 i = g 38 i; rw [show g'20 38 = g 38 from h24_ 38 (by decide)]) (fun i _ => by show g'20 23 i = g 23 i; rw [show g'20 23 = g 23 from h24_ 23 (by decide)]) hrest) (by show (f 15).toInt + 0 = (f 15).toInt + 0; omega) (by show (f 20).toInt = (f 20).toInt; omega) (by show (f 37).toInt + 0 = (f 37).toInt + 0; omega) (by show (f 32).toInt + 0 = (f 32).toInt + 0; omega) (by show (f 5).toInt + 0 = (f 5).toInt + 0; omega)⟩ : mg_good (g'20 34) (g'20 38) (g'20 23) (((1 : Int), (0 : Int), (0 : Int), (0 : Int), []) :: gs) ((f 15).toInt) ((f 20).toInt) ((f 37).toInt) ((f 32).toInt) ((f 5).toInt))
        · exact ⟨(by show 0 ≤ z1352.toInt; omega), (by show z1352.toInt ≤ (f 0).toInt; omega), (by show (f 0).toInt ≤ 512; omega), (by show 0 ≤ (f 24).toInt; omega), (by show (f 24).toInt + (f 20).toInt + mg_p1 (((1 : Int), (0 : Int), (0 : Int), (0 : Int), []) :: gs) ≤ 4 * z1352.toInt; omega), (by show (f 20).toInt ≤ z1352.toInt; omega), (by show (f 15).toInt + mg_p2 (((1 : Int), (0 : Int), (0 : Int), (0 : Int), []) :: gs) ≤ z1352.toInt; omega), (by show mg_p3 (((1 : Int), (0 : Int), (0 : Int), (0 : Int), []) :: gs) ≤ 20 * z1352.toInt + 20; omega), (by show 0 ≤ (f 68).toInt; omega), (by show (f 68).toInt + 3 * (f 20).toInt + mg_p4 (((1 : Int), (0 : Int), (0 : Int), (0 : Int), []) :: gs) ≤ 60 * z1352.toInt + 60; omega), (by show 0 ≤ (f 62).toInt; omega), (by show (f 62).toInt + 64 * mj_n (g'20 16) (f 15).toNatClampNeg 3 ≤ 64 * z1352.toInt; rw [show g'20 16 = g 16 from h24_ 16 (by decide)]; omega), (by show 0 ≤ (f 44).toInt; omega), (by show (f 44).toInt ≤ z1352.toInt; omega), (by show 0 ≤ (f 48).toInt; omega), (by show (f 48).toInt ≤ z1352.toInt; omega), (by show 1 ≤ (f 53).toInt; omega), (by show (f 53).toInt ≤ z1352.toInt + 1; omega), (by show 0 ≤ (f 19).toInt; omega), (by show (f 19).toInt ≤ 600; omega), (by show 0 ≤ (f 6).toInt; omega), (by show 0 ≤ (f 8).toInt; omega)⟩
        · show 100 * ((f 0).toInt - z1352.toInt) + mg_p3 (((1 : Int), (0 : Int), (0 : Int), (0 : Int), []) :: gs) < 100 * ((f 0).toInt - (f 4).toInt) + (1 + mg_p3 gs); omega
      refine am_e19 (t := 397) hi_228_6 (am_swK (v := r2) (ks := [11, 12, 17, 18, 19, 20, 22, 26, 31, 66, 67]) (by decide) (by intro k hk; simp only [List.mem_cons, List.not_mem_nil, or_false] at hk; rcases hk with rfl | rfl | rfl | rfl | rfl | rfl | rfl | rfl | rfl | rfl | rfl <;> omega)) ?_
      refine am_e2 (v := 39) hi_228_397 rfl ?_
      refine am_e0 hi_228_398 ?_
      refine am_e0 hi_228_400 ?_
      refine am_e2 (v := 39) hi_228_401 rfl ?_
      refine mm_20 (v := .int (f 20)) hS22 hi_228_402 rfl ?_
      refine am_e0 hi_228_405 ?_
      refine am_e32n (as := [.ref 39, .int 21, .int 0, .int (f 20), .int 0]) (la := [some (.ref 39), some (.int 21), some (.int 0), some (.int (f 20)), some (.int 0)]) (rest := []) hi_228_406 (am_hd0 (M := 228) (by decide) 406) (Nat.le_of_ble_eq_true rfl) (Nat.le_of_ble_eq_true rfl) (show 5 ≤ am_P0.2.2.1 179 from by decide +kernel) rfl (am_recv_ok hS22.fs) rfl rfl (ct_pile (d := (d + 5)) hS22 hR25_ (mj_e_plain (by decide)) (by show (0 : Int) ≤ z19.toInt; omega) (by show z19.toInt ≤ (65535 : Int); omega)) ?_
      rintro v1356 S1357 (⟨z1358, g'1359, hv1360, hS1361, hR1364, h1362, h1363⟩)
      subst hv1360
      have h1362_ : z1358.toInt = z19.toInt + 1 := h1362
      have h1363_ : ∀ j, j ∉ [11, 12, 13, 14] → g'1359 j = g'20 j := h1363
      replace hS1361 : MS S0 S1357 (upd f 10 z1358) g'1359 := hS1361
      have hR1364_ : RJ (upd f 10 z1358) g'1359 (((21 : Int), (0 : Int), (f 20).toInt, (0 : Int), []) :: (((1 : Int), (0 : Int), (0 : Int), (0 : Int), []) :: gs)) bc [] 0 [] := hR1364
      show am_E _ _ _ _ [some (.ref 39), some (.int r2), some (.int (f 4))] [] _ _
      refine am_e2 (v := 39) hi_228_409 rfl ?_
      refine am_e0 hi_228_410 ?_
      refine am_e0 hi_228_412 ?_
      refine am_e0 hi_228_413 ?_
      refine am_e0 hi_228_414 ?_
      refine am_e32n (as := [.ref 39, .int 28, .int 0, .int 0, .int 0]) (la := [some (.ref 39), some (.int 28), some (.int 0), some (.int 0), some (.int 0)]) (rest := []) hi_228_415 (am_hd0 (M := 228) (by decide) 415) (Nat.le_of_ble_eq_true rfl) (Nat.le_of_ble_eq_true rfl) (show 5 ≤ am_P0.2.2.1 179 from by decide +kernel) rfl (am_recv_ok hS1361.fs) rfl rfl (ct_pile (d := (d + 5)) hS1361 hR1364_ (mj_e_plain (by decide)) (by show (0 : Int) ≤ z1358.toInt; omega) (by show z1358.toInt ≤ (65535 : Int); omega)) ?_
      rintro v1365 S1366 (⟨z1367, g'1368, hv1369, hS1370, hR1373, h1371, h1372⟩)
      subst hv1369
      have h1371_ : z1367.toInt = z1358.toInt + 1 := h1371
      have h1372_ : ∀ j, j ∉ [11, 12, 13, 14] → g'1368 j = g'1359 j := h1372
      replace hS1370 : MS S0 S1366 (upd f 10 z1367) g'1368 := hS1370
      have hR1373_ : RJ (upd f 10 z1367) g'1368 (((28 : Int), (0 : Int), (0 : Int), (0 : Int), []) :: (((21 : Int), (0 : Int), (f 20).toInt, (0 : Int), []) :: (((1 : Int), (0 : Int), (0 : Int), (0 : Int), []) :: gs))) bc [] 0 [] := hR1373
      show am_E _ _ _ _ [some (.ref 39), some (.int r2), some (.int (f 4))] [] _ _
      refine am_e2 (v := 39) hi_228_418 rfl ?_
      refine am_e32w (as := [.ref 39]) (la := [some (.ref 39)]) (rest := []) hi_228_419 (am_hd0 (M := 228) (by decide) 419) (Nat.le_of_ble_eq_true rfl) (Nat.le_of_ble_eq_true rfl) (show 1 ≤ am_P0.2.2.1 201 from by decide +kernel) rfl (am_recv_ok hS1370.fs) rfl rfl ?_
      refine am_e2 (v := 39) hi_201_0 rfl ?_
      refine am_e32n (as := [.ref 39]) (la := [some (.ref 39)]) (rest := []) hi_201_1 (am_hd0 (M := 201) (by decide) 1) (Nat.le_of_ble_eq_true rfl) (Nat.le_of_ble_eq_true rfl) (show 1 ≤ am_P0.2.2.1 183 from by decide +kernel) rfl (am_recv_ok hS1370.fs) rfl rfl (ct_next (d := (d + 3)) hS1370   (by show (0 : Int) ≤ (f 4).toInt; omega) (by show (f 0).toInt ≤ (16384 : Int); omega)) ?_
      rintro v1374 S1375 (⟨r1376, hv1377, hS1378, h1379⟩)
      subst hv1377
      have h1379_ : (f 4).toInt < (f 0).toInt ∨ r1376.toInt = (-1 : Int) := h1379
      show am_E _ _ _ _ [some (.ref 39)] [.int r1376] _ _
      refine am_e0 hi_201_4 ?_
      by_cases c1381 : ¬ r1376.toInt = (1 : Int)
      · refine am_e13t hi_201_5 (am_cT (m := r1376.toInt) (n := (1 : Int)) rfl (by decide) c1381) ?_
        refine am_e2 (v := 39) hi_201_31 rfl ?_
        refine am_e0 hi_201_32 ?_
        refine am_e32n (as := [.ref 39, .int 60]) (la := [some (.ref 39), some (.int 60)]) (rest := []) hi_201_34 (am_hd0 (M := 201) (by decide) 34) (Nat.le_of_ble_eq_true rfl) (Nat.le_of_ble_eq_true rfl) (show 2 ≤ am_P0.2.2.1 193 from by decide +kernel) rfl (am_recv_ok hS1378.fs) rfl rfl (ct_enter (d := (d + 2)) hS1378   (by show (0 : Int) ≤ (f 4).toInt; omega) (by show (f 0).toInt ≤ (16384 : Int); omega) (by show (0 : Int) ≤ (60 : Int); omega) (by show (0 : Int) ≤ (f 5).toInt; omega) (by show (f 5).toInt ≤ (48 : Int); omega) (by show (0 : Int) ≤ (f 6).toInt; omega)) ?_
        rintro v1382 S1383 (⟨z1384, y1385, hv1386, hS1387, h1388, h1389, h1390, h1391⟩ | ⟨a1393, b1394, hv1395, hS1396, h1397⟩)
        · subst hv1386
          have h1388_ : z1384.toInt = (f 4).toInt + 1 := h1388
          have h1389_ : (f 4).toInt < (f 0).toInt := h1389
          have h1390_ : y1385.toInt = (f 5).toInt + 1 := h1390
          have h1391_ : y1385.toInt ≤ (48 : Int) := h1391
          replace hS1387 : MS S0 S1383 (upd (upd (upd f 4 z1384) 5 y1385) 10 z1367) g'1368 := hS1387
          have hR1399 : RJ (upd (upd (upd f 4 z1384) 5 y1385) 10 z1367) g'1368 (((28 : Int), (0 : Int), (0 : Int), (0 : Int), []) :: (((21 : Int), (0 : Int), (f 20).toInt, (0 : Int), []) :: (((1 : Int), (0 : Int), (0 : Int), (0 : Int), []) :: gs))) bc [] 0 [] := RJ.at hR1373_ (by show (f 4).toInt ≤ z1384.toInt; omega)
          show am_E _ _ _ _ [some (.ref 39)] [.int 1] _ _
          refine am_e12f hi_201_37 (by decide) ?_
          refine am_e2 (v := 39) hi_201_40 rfl ?_
          refine am_e0 hi_201_41 ?_
          refine am_e0 hi_201_43 ?_
          refine am_e0 hi_201_44 ?_
          refine am_e0 hi_201_45 ?_
          refine am_e32n (as := [.ref 39, .int 29, .int 0, .int 0, .int 0]) (la := [some (.ref 39), some (.int 29), some (.int 0), some (.int 0), some (.int 0)]) (rest := []) hi_201_46 (am_hd0 (M := 201) (by decide) 46) (Nat.le_of_ble_eq_true rfl) (Nat.le_of_ble_eq_true rfl) (show 5 ≤ am_P0.2.2.1 179 from by decide +kernel) rfl (am_recv_ok hS1387.fs) rfl rfl (ct_pile (d := (d + 4)) hS1387 hR1399 (mj_e_plain (by decide)) (by show (0 : Int) ≤ z1367.toInt; omega) (by show z1367.toInt ≤ (65535 : Int); omega)) ?_
          rintro v1400 S1401 (⟨z1402, g'1403, hv1404, hS1405, hR1408, h1406, h1407⟩)
          subst hv1404
          have h1406_ : z1402.toInt = z1367.toInt + 1 := h1406
          have h1407_ : ∀ j, j ∉ [11, 12, 13, 14] → g'1403 j = g'1368 j := h1407
          replace hS1405 : MS S0 S1401 (upd (upd (upd f 4 z1384) 5 y1385) 10 z1402) g'1403 := hS1405
          have hR1408_ : RJ (upd (upd (upd f 4 z1384) 5 y1385) 10 z1402) g'1403 (((29 : Int), (0 : Int), (0 : Int), (0 : Int), []) :: (((28 : Int), (0 : Int), (0 : Int), (0 : Int), []) :: (((21 : Int), (0 : Int), (f 20).toInt, (0 : Int), []) :: (((1 : Int), (0 : Int), (0 : Int), (0 : Int), []) :: gs)))) bc [] 0 [] := hR1408
          show am_E _ _ _ _ [some (.ref 39)] [] _ _
          refine am_e2 (v := 39) hi_201_49 rfl ?_
          refine am_e0 hi_201_50 ?_
          refine am_e32w (as := [.ref 39, .int 0]) (la := [some (.ref 39), some (.int 0)]) (rest := []) hi_201_51 (am_hd0 (M := 201) (by decide) 51) (Nat.le_of_ble_eq_true rfl) (Nat.le_of_ble_eq_true rfl) (show 2 ≤ am_P0.2.2.1 186 from by decide +kernel) rfl (am_recv_ok hS1405.fs) rfl rfl ?_
          refine am_e2 (v := 39) hi_186_0 rfl ?_
          refine am_e0 hi_186_1 ?_
          refine am_e1 (v := 0) hi_186_3 rfl ?_
          refine am_e0 hi_186_4 ?_
          refine am_e0 hi_186_5 ?_
          refine am_e32n (as := [.ref 39, .int 23, .int 0, .int 0, .int 0]) (la := [some (.ref 39), some (.int 23), some (.int 0), some (.int 0), some (.int 0)]) (rest := []) hi_186_6 (am_hd0 (M := 186) (by decide) 6) (Nat.le_of_ble_eq_true rfl) (Nat.le_of_ble_eq_true rfl) (show 5 ≤ am_P0.2.2.1 179 from by decide +kernel) rfl (am_recv_ok hS1405.fs) rfl rfl (ct_pile (d := (d + 3)) hS1405 hR1408_ (mj_e_plain (by decide)) (by show (0 : Int) ≤ z1402.toInt; omega) (by show z1402.toInt ≤ (65535 : Int); omega)) ?_
          rintro v1409 S1410 (⟨z1411, g'1412, hv1413, hS1414, hR1417, h1415, h1416⟩)
          subst hv1413
          have h1415_ : z1411.toInt = z1402.toInt + 1 := h1415
          have h1416_ : ∀ j, j ∉ [11, 12, 13, 14] → g'1412 j = g'1403 j := h1416
          replace hS1414 : MS S0 S1410 (upd (upd (upd f 4 z1384) 5 y1385) 10 z1411) g'1412 := hS1414
          have hR1417_ : RJ (upd (upd (upd f 4 z1384) 5 y1385) 10 z1411) g'1412 (((23 : Int), (0 : Int), (0 : Int), (0 : Int), []) :: (((29 : Int), (0 : Int), (0 : Int), (0 : Int), []) :: (((28 : Int), (0 : Int), (0 : Int), (0 : Int), []) :: (((21 : Int), (0 : Int), (f 20).toInt, (0 : Int), []) :: (((1 : Int), (0 : Int), (0 : Int), (0 : Int), []) :: gs))))) bc [] 0 [] := hR1417
          show am_E _ _ _ _ [some (.ref 39), some (.int 0)] [] _ _
          refine am_e35 hi_186_9 ?_
          show am_E _ _ _ _ [some (.ref 39)] [] _ _
          refine am_e35 hi_201_54 ?_
          show am_E _ _ _ _ [some (.ref 39), some (.int r2), some (.int (f 4))] [] _ _
          refine am_e35 hi_228_422 ?_
          show am_E _ _ _ _ [some (.ref 39), some (.int r2)] [] _ _
          refine am_e35 hi_225_33 ?_
          show am_E _ _ _ _ [some (.ref 39), some (.int 1), some (.int on), some (.int tw), some (.int th)] [] _ _
          refine am_e18 hi_180_116 ?_
          refine am_e35 hi_180_371 ?_
          have q1 : mg_p1 (((23 : Int), (0 : Int), (0 : Int), (0 : Int), []) :: (((29 : Int), (0 : Int), (0 : Int), (0 : Int), []) :: (((28 : Int), (0 : Int), (0 : Int), (0 : Int), []) :: (((21 : Int), (0 : Int), (f 20).toInt, (0 : Int), []) :: (((1 : Int), (0 : Int), (0 : Int), (0 : Int), []) :: gs))))) = 0 + (0 + (0 + (0 + (0 + (mg_p1 gs))))) := rfl
          have q2 : mg_p2 (((23 : Int), (0 : Int), (0 : Int), (0 : Int), []) :: (((29 : Int), (0 : Int), (0 : Int), (0 : Int), []) :: (((28 : Int), (0 : Int), (0 : Int), (0 : Int), []) :: (((21 : Int), (0 : Int), (f 20).toInt, (0 : Int), []) :: (((1 : Int), (0 : Int), (0 : Int), (0 : Int), []) :: gs))))) = 0 + (0 + (0 + (0 + (0 + (mg_p2 gs))))) := rfl
          have q3 : mg_p3 (((23 : Int), (0 : Int), (0 : Int), (0 : Int), []) :: (((29 : Int), (0 : Int), (0 : Int), (0 : Int), []) :: (((28 : Int), (0 : Int), (0 : Int), (0 : Int), []) :: (((21 : Int), (0 : Int), (f 20).toInt, (0 : Int), []) :: (((1 : Int), (0 : Int), (0 : Int), (0 : Int), []) :: gs))))) = 1 + (1 + (1 + (1 + (1 + (mg_p3 gs))))) := rfl
          have q4 : mg_p4 (((23 : Int), (0 : Int), (0 : Int), (0 : Int), []) :: (((29 : Int), (0 : Int), (0 : Int), (0 : Int), []) :: (((28 : Int), (0 : Int), (0 : Int), (0 : Int), []) :: (((21 : Int), (0 : Int), (f 20).toInt, (0 : Int), []) :: (((1 : Int), (0 : Int), (0 : Int), (0 : Int), []) :: gs))))) = 0 + (0 + (0 + (0 + (0 + (mg_p4 gs))))) := rfl
          refine ⟨_, _, _, bc, rfl, hS1414, Or.inl ⟨⟨hR1417_, ?_, ?_⟩, rfl, ?_⟩⟩
          · exact (⟨⟨(show mg_k 23 from by decide), (show (0 : Int) ≤ (f 15).toInt from by omega), (show 0 ≤ (f 20).toInt from by omega), (show 1 ≤ (f 37).toInt from by omega), (show 0 ≤ (f 32).toInt from by omega), (show (f 32).toInt ≤ y1385.toInt from by omega), (show y1385.toInt ≤ 48 from by omega), (show (f 37).toInt ≤ 2 * (y1385.toInt) + 2 from by omega), (show 0 ≤ (0 : Int) from by omega)⟩, ⟨⟨(show mg_k 29 from by decide), (show (1 : Int) ≤ (f 15).toInt + 1 from by omega), (show 0 ≤ (f 20).toInt from by omega), (show 1 ≤ (f 37).toInt + 0 from by omega), (show 0 ≤ (f 32).toInt + 0 from by omega), (show (f 32).toInt + 0 ≤ y1385.toInt + 0 from by omega), (show y1385.toInt + 0 ≤ 48 from by omega), (show (f 37).toInt + 0 ≤ 2 * (y1385.toInt + 0) + 2 from by omega), trivial⟩, ⟨⟨(show mg_k 28 from by decide), (show (1 : Int) ≤ (f 15).toInt + 1 + 0 from by omega), (show 0 ≤ (f 20).toInt from by omega), (show 1 ≤ (f 37).toInt + 0 + 0 from by omega), (show 0 ≤ (f 32).toInt + 0 + 0 from by omega), (show (f 32).toInt + 0 + 0 ≤ y1385.toInt + 0 + -1 from by omega), (show y1385.toInt + 0 + -1 ≤ 48 from by omega), (show (f 37).toInt + 0 + 0 ≤ 2 * (y1385.toInt + 0 + -1) + 2 from by omega), trivial⟩, ⟨⟨(show mg_k 21 from by decide), (show (1 : Int) ≤ (f 15).toInt + 1 + 0 + 0 from by omega), (show 0 ≤ (f 20).toInt from by omega), (show 1 ≤ (f 37).toInt + 0 + 0 + 0 from by omega), (show 0 ≤ (f 32).toInt + 0 + 0 + 0 from by omega), (show (f 32).toInt + 0 + 0 + 0 ≤ y1385.toInt + 0 + -1 + 0 from by omega), (show y1385.toInt + 0 + -1 + 0 ≤ 48 from by omega), (show (f 37).toInt + 0 + 0 + 0 ≤ 2 * (y1385.toInt + 0 + -1 + 0) + 1 from by omega), ⟨(show 0 ≤ (0 : Int) from by omega), (show 0 ≤ (f 20).toInt from by omega), (show (f 20).toInt = (f 20).toInt + (0 : Int) from by omega)⟩⟩, ⟨⟨(show mg_k 1 from by decide), (show (0 : Int) ≤ (f 15).toInt + 1 + 0 + 0 + -1 from by omega), (show 0 ≤ (f 20).toInt from by omega), (show 1 ≤ (f 37).toInt + 0 + 0 + 0 + 0 from by omega), (show 0 ≤ (f 32).toInt + 0 + 0 + 0 + 0 from by omega), (show (f 32).toInt + 0 + 0 + 0 + 0 ≤ y1385.toInt + 0 + -1 + 0 + 0 from by omega), (show y1385.toInt + 0 + -1 + 0 + 0 ≤ 48 from by omega), (show (f 37).toInt + 0 + 0 + 0 + 0 ≤ 2 * (y1385.toInt + 0 + -1 + 0 + 0) + 1 from by omega), trivial⟩, mg_cast (mg_good_ext _ _ _ _ _ _ (fun i _ => by show g'1412 34 i = g 34 i; rw [show g'1412 34 = g'1403 34 from h1416_ 34 (by decide), show g'1403 34 = g'1368 34 from h1407_ 34 (by decide), show g'1368 34 = g'1359 34 from h1372_ 34 (by decide), show g'1359 34 = g'20 34 from h1363_ 34 (by decide), show g'20 34 = g 34 from h24_ 34 (by decide)]) (fun i _ => by show g'1412 38 i = g 38 i; rw [show g'1412 38 = g'1403 38 from h1416_ 38 (by decide), show g'1403 38 = g'1368 38 from h1407_ 38 (by decide), show g'1368 38 = g'1359 38 from h1372_ 38 (by decide), show g'1359 38 = g'20 38 from h1363_ 38 (by decide), show g'20 38 = g 38 from h24_ 38 (by decide)]) (fun i _ => by show g'1412 23 i = g 23 i; rw [show g'1412 23 = g'1403 23 from h1416_ 23 (by decide), show g'1403 23 = g'1368 23 from h1407_ 23 (by decide), show g'1368 23 = g'1359 23 from h1372_ 23 (by decide), show g'1359 23 = g'20 23 from h1363_ 23 (by decide), show g'20 23 = g 23 from h24_ 23 (by decide)]) hrest) (by show (f 15).toInt + 0 = (f 15).toInt + 1 + 0 + 0 + -1 + 0; omega) (by show (f 20).toInt = (f 20).toInt; omega) (by show (f 37).toInt + 0 = (f 37).toInt + 0 + 0 + 0 + 0 + 0; omega) (by show (f 32).toInt + 0 = (f 32).toInt + 0 + 0 + 0 + 0 + 0; omega) (by show (f 5).toInt + 0 = y1385.toInt + 0 + -1 + 0 + 0 + 0; omega)⟩⟩⟩⟩⟩ : mg_good (g'1412 34) (g'1412 38) (g'1412 23) (((23 : Int), (0 : Int), (0 : Int), (0 : Int), []) :: (((29 : Int), (0 : Int), (0 : Int), (0 : Int), []) :: (((28 : Int), (0 : Int), (0 : Int), (0 : Int), []) :: (((21 : Int), (0 : Int), (f 20).toInt, (0 : Int), []) :: (((1 : Int), (0 : Int), (0 : Int), (0 : Int), []) :: gs))))) ((f 15).toInt) ((f 20).toInt) ((f 37).toInt) ((f 32).toInt) (y1385.toInt))
          · exact ⟨(by show 0 ≤ z1384.toInt; omega), (by show z1384.toInt ≤ (f 0).toInt; omega), (by show (f 0).toInt ≤ 512; omega), (by show 0 ≤ (f 24).toInt; omega), (by show (f 24).toInt + (f 20).toInt + mg_p1 (((23 : Int), (0 : Int), (0 : Int), (0 : Int), []) :: (((29 : Int), (0 : Int), (0 : Int), (0 : Int), []) :: (((28 : Int), (0 : Int), (0 : Int), (0 : Int), []) :: (((21 : Int), (0 : Int), (f 20).toInt, (0 : Int), []) :: (((1 : Int), (0 : Int), (0 : Int), (0 : Int), []) :: gs))))) ≤ 4 * z1384.toInt; omega), (by show (f 20).toInt ≤ z1384.toInt; omega), (by show (f 15).toInt + mg_p2 (((23 : Int), (0 : Int), (0 : Int), (0 : Int), []) :: (((29 : Int), (0 : Int), (0 : Int), (0 : Int), []) :: (((28 : Int), (0 : Int), (0 : Int), (0 : Int), []) :: (((21 : Int), (0 : Int), (f 20).toInt, (0 : Int), []) :: (((1 : Int), (0 : Int), (0 : Int), (0 : Int), []) :: gs))))) ≤ z1384.toInt; omega), (by show mg_p3 (((23 : Int), (0 : Int), (0 : Int), (0 : Int), []) :: (((29 : Int), (0 : Int), (0 : Int), (0 : Int), []) :: (((28 : Int), (0 : Int), (0 : Int), (0 : Int), []) :: (((21 : Int), (0 : Int), (f 20).toInt, (0 : Int), []) :: (((1 : Int), (0 : Int), (0 : Int), (0 : Int), []) :: gs))))) ≤ 20 * z1384.toInt + 20; omega), (by show 0 ≤ (f 68).toInt; omega), (by show (f 68).toInt + 3 * (f 20).toInt + mg_p4 (((23 : Int), (0 : Int), (0 : Int), (0 : Int), []) :: (((29 : Int), (0 : Int), (0 : Int), (0 : Int), []) :: (((28 : Int), (0 : Int), (0 : Int), (0 : Int), []) :: (((21 : Int), (0 : Int), (f 20).toInt, (0 : Int), []) :: (((1 : Int), (0 : Int), (0 : Int), (0 : Int), []) :: gs))))) ≤ 60 * z1384.toInt + 60; omega), (by show 0 ≤ (f 62).toInt; omega), (by show (f 62).toInt + 64 * mj_n (g'1412 16) (f 15).toNatClampNeg 3 ≤ 64 * z1384.toInt; rw [show g'1412 16 = g'1403 16 from h1416_ 16 (by decide), show g'1403 16 = g'1368 16 from h1407_ 16 (by decide), show g'1368 16 = g'1359 16 from h1372_ 16 (by decide), show g'1359 16 = g'20 16 from h1363_ 16 (by decide), show g'20 16 = g 16 from h24_ 16 (by decide)]; omega), (by show 0 ≤ (f 44).toInt; omega), (by show (f 44).toInt ≤ z1384.toInt; omega), (by show 0 ≤ (f 48).toInt; omega), (by show (f 48).toInt ≤ z1384.toInt; omega), (by show 1 ≤ (f 53).toInt; omega), (by show (f 53).toInt ≤ z1384.toInt + 1; omega), (by show 0 ≤ (f 19).toInt; omega), (by show (f 19).toInt ≤ 600; omega), (by show 0 ≤ (f 6).toInt; omega), (by show 0 ≤ (f 8).toInt; omega)⟩
          · show 100 * ((f 0).toInt - z1384.toInt) + mg_p3 (((23 : Int), (0 : Int), (0 : Int), (0 : Int), []) :: (((29 : Int), (0 : Int), (0 : Int), (0 : Int), []) :: (((28 : Int), (0 : Int), (0 : Int), (0 : Int), []) :: (((21 : Int), (0 : Int), (f 20).toInt, (0 : Int), []) :: (((1 : Int), (0 : Int), (0 : Int), (0 : Int), []) :: gs))))) < 100 * ((f 0).toInt - (f 4).toInt) + (1 + mg_p3 gs); omega
        · subst hv1395
          have h1397_ : (0 : Int) ≤ a1393.toInt := h1397
          replace hS1396 : MS S0 S1383 (upd (upd (upd f 6 a1393) 7 b1394) 10 0) g'1368 := hS1396
          have hR1418 := rj_clear0 hR1373_
          have hR1419 : RJ (upd (upd (upd f 6 a1393) 7 b1394) 10 0) g'1368 [] bc [] 0 [] := hR1418
          show am_E _ _ _ _ [some (.ref 39)] [.int 0] _ _
          refine am_e12t hi_201_37 (by decide) ?_
          refine am_e35 hi_201_54 ?_
          show am_E _ _ _ _ [some (.ref 39), some (.int r2), some (.int (f 4))] [] _ _
          refine am_e35 hi_228_422 ?_
          show am_E _ _ _ _ [some (.ref 39), some (.int r2)] [] _ _
          refine am_e35 hi_225_33 ?_
          show am_E _ _ _ _ [some (.ref 39), some (.int 1), some (.int on), some (.int tw), some (.int th)] [] _ _
          refine am_e18 hi_180_116 ?_
          refine am_e35 hi_180_371 ?_
          have hRc := rj_clear0 hR1419
          refine ⟨_, _, [], _, rfl, hS1396, Or.inr ⟨hRc, rfl, (by show 0 ≤ (f 4).toInt; omega), (by show (f 4).toInt ≤ (f 0).toInt; omega), (by show 0 ≤ (f 32).toInt; omega), (by show (f 32).toInt ≤ 63; omega), (by show 1 ≤ (f 53).toInt; omega), (by show (f 53).toInt ≤ 600; omega), (by show 0 ≤ (f 68).toInt; omega), (by show (f 68).toInt ≤ 60000; omega), (by show 0 ≤ (f 48).toInt; omega), (by show (f 48).toInt ≤ 8000; omega), (by show 0 ≤ (f 37).toInt; omega), (by show (f 37).toInt ≤ 128; omega), (by show 0 ≤ (f 62).toInt; omega), (by show (f 62).toInt ≤ 65000; omega), (by show 0 ≤ (f 19).toInt; omega), (by show (f 19).toInt ≤ 600; omega), (by show 0 ≤ a1393.toInt; omega), (by show 0 ≤ (f 8).toInt; omega)⟩⟩
      · refine am_e13f hi_201_5 (am_cF (m := r1376.toInt) (n := (1 : Int)) rfl (by decide) c1381) ?_
        refine am_e2 (v := 39) hi_201_8 rfl ?_
        refine am_e0 hi_201_9 ?_
        refine am_e0 hi_201_10 ?_
        refine am_e2 (v := 39) hi_201_11 rfl ?_
        refine mm_20 (v := .int (f 4)) hS1378 hi_201_12 rfl ?_
        refine am_e32n (as := [.ref 39, .int 3, .int 0, .int (f 4)]) (la := [some (.ref 39), some (.int 3), some (.int 0), some (.int (f 4))]) (rest := []) hi_201_15 (am_hd0 (M := 201) (by decide) 15) (Nat.le_of_ble_eq_true rfl) (Nat.le_of_ble_eq_true rfl) (show 4 ≤ am_P0.2.2.1 190 from by decide +kernel) rfl (am_recv_ok hS1378.fs) rfl rfl (ct_value (d := (d + 4)) hS1378 hR1373_ (fun _ => ⟨by omega, by omega⟩) (fun h => absurd h (by decide)) (by show (0 : Int) ≤ (f 15).toInt; omega) (by show (f 15).toInt ≤ (32767 : Int); omega)) ?_
        rintro v1420 S1421 (⟨z1422, g'1423, hv1424, hS1425, hR1430, h1426, h1427, h1428, h1429⟩)
        subst hv1424
        have h1426_ : z1422.toInt = (f 15).toInt + 1 := h1426
        have h1427_ : ∀ j, j ∉ [16, 17, 18] → g'1423 j = g'1368 j := h1427
        have h1428_ : mj_n (g'1423 16) z1422.toNatClampNeg 3 ≤ mj_n (g 16) (f 15).toNatClampNeg 3 + 1 := by rw [show g'1368 16 = g'1359 16 from h1372_ 16 (by decide), show g'1359 16 = g'20 16 from h1363_ 16 (by decide), show g'20 16 = g 16 from h24_ 16 (by decide)] at h1428; exact h1428
        have h1429_ : (3 : Int) = 3 ∨ mj_n (g'1423 16) z1422.toNatClampNeg 3 ≤ mj_n (g 16) (f 15).toNatClampNeg 3 := by rw [show g'1368 16 = g'1359 16 from h1372_ 16 (by decide), show g'1359 16 = g'20 16 from h1363_ 16 (by decide), show g'20 16 = g 16 from h24_ 16 (by decide)] at h1429; exact h1429
        have hR1430_ : RJ (upd (upd f 10 z1367) 15 z1422) g'1423 (((28 : Int), (0 : Int), (0 : Int), (0 : Int), []) :: (((21 : Int), (0 : Int), (f 20).toInt, (0 : Int), []) :: (((1 : Int), (0 : Int), (0 : Int), (0 : Int), []) :: gs))) bc [] 0 [] := hR1430
        show am_E _ _ _ _ [some (.ref 39)] [] _ _
        refine am_e2 (v := 39) hi_201_18 rfl ?_
        refine am_e7 hi_201_19 ?_
        refine mm_20 (v := .int (f 4)) hS1425 hi_201_20 rfl ?_
        refine am_e0 hi_201_23 ?_
        obtain ⟨z1431, hz1431, tz1431⟩ := am_addI (x := f 4) (y := 1) (m := (f 4).toInt) (n := (1 : Int)) rfl (by decide) (by omega) (by omega)
        refine am_e10 (z := z1431) hi_201_24 hz1431 ?_
        refine mm_21 (v := z1431) hS1425 hi_201_25 rfl (Nat.le_of_ble_eq_true rfl) ms_4 ?_
        intro S1432 hS1433
        replace hS1433 : MS S0 S1432 (upd (upd (upd f 4 z1431) 10 z1367) 15 z1422) g'1423 := hS1433
        have hR1434 : RJ (upd (upd (upd f 4 z1431) 10 z1367) 15 z1422) g'1423 (((28 : Int), (0 : Int), (0 : Int), (0 : Int), []) :: (((21 : Int), (0 : Int), (f 20).toInt, (0 : Int), []) :: (((1 : Int), (0 : Int), (0 : Int), (0 : Int), []) :: gs))) bc [] 0 [] := RJ.at hR1430_ (by show (f 4).toInt ≤ z1431.toInt; omega)
        refine am_e18 hi_201_28 ?_
        refine am_e35 hi_201_54 ?_
        show am_E _ _ _ _ [some (.ref 39), some (.int r2), some (.int (f 4))] [] _ _
        refine am_e35 hi_228_422 ?_
        show am_E _ _ _ _ [some (.ref 39), some (.int r2)] [] _ _
        refine am_e35 hi_225_33 ?_
        show am_E _ _ _ _ [some (.ref 39), some (.int 1), some (.int on), some (.int tw), some (.int th)] [] _ _
        refine am_e18 hi_180_116 ?_
        refine am_e35 hi_180_371 ?_
        have q1 : mg_p1 (((28 : Int), (0 : Int), (0 : Int), (0 : Int), []) :: (((21 : Int), (0 : Int), (f 20).toInt, (0 : Int), []) :: (((1 : Int), (0 : Int), (0 : Int), (0 : Int), []) :: gs))) = 0 + (0 + (0 + (mg_p1 gs))) := rfl
        have q2 : mg_p2 (((28 : Int), (0 : Int), (0 : Int), (0 : Int), []) :: (((21 : Int), (0 : Int), (f 20).toInt, (0 : Int), []) :: (((1 : Int), (0 : Int), (0 : Int), (0 : Int), []) :: gs))) = 0 + (0 + (0 + (mg_p2 gs))) := rfl
        have q3 : mg_p3 (((28 : Int), (0 : Int), (0 : Int), (0 : Int), []) :: (((21 : Int), (0 : Int), (f 20).toInt, (0 : Int), []) :: (((1 : Int), (0 : Int), (0 : Int), (0 : Int), []) :: gs))) = 1 + (1 + (1 + (mg_p3 gs))) := rfl
        have q4 : mg_p4 (((28 : Int), (0 : Int), (0 : Int), (0 : Int), []) :: (((21 : Int), (0 : Int), (f 20).toInt, (0 : Int), []) :: (((1 : Int), (0 : Int), (0 : Int), (0 : Int), []) :: gs))) = 0 + (0 + (0 + (mg_p4 gs))) := rfl
        refine ⟨_, _, _, bc, rfl, hS1433, Or.inl ⟨⟨hR1434, ?_, ?_⟩, rfl, ?_⟩⟩
        · exact (⟨⟨(show mg_k 28 from by decide), (show (1 : Int) ≤ z1422.toInt from by omega), (show 0 ≤ (f 20).toInt from by omega), (show 1 ≤ (f 37).toInt from by omega), (show 0 ≤ (f 32).toInt from by omega), (show (f 32).toInt ≤ (f 5).toInt from by omega), (show (f 5).toInt ≤ 48 from by omega), (show (f 37).toInt ≤ 2 * ((f 5).toInt) + 2 from by omega), trivial⟩, ⟨⟨(show mg_k 21 from by decide), (show (1 : Int) ≤ z1422.toInt + 0 from by omega), (show 0 ≤ (f 20).toInt from by omega), (show 1 ≤ (f 37).toInt + 0 from by omega), (show 0 ≤ (f 32).toInt + 0 from by omega), (show (f 32).toInt + 0 ≤ (f 5).toInt + 0 from by omega), (show (f 5).toInt + 0 ≤ 48 from by omega), (show (f 37).toInt + 0 ≤ 2 * ((f 5).toInt + 0) + 1 from by omega), ⟨(show 0 ≤ (0 : Int) from by omega), (show 0 ≤ (f 20).toInt from by omega), (show (f 20).toInt = (f 20).toInt + (0 : Int) from by omega)⟩⟩, ⟨⟨(show mg_k 1 from by decide), (show (0 : Int) ≤ z1422.toInt + 0 + -1 from by omega), (show 0 ≤ (f 20).toInt from by omega), (show 1 ≤ (f 37).toInt + 0 + 0 from by omega), (show 0 ≤ (f 32).toInt + 0 + 0 from by omega), (show (f 32).toInt + 0 + 0 ≤ (f 5).toInt + 0 + 0 from by omega), (show (f 5).toInt + 0 + 0 ≤ 48 from by omega), (show (f 37).toInt + 0 + 0 ≤ 2 * ((f 5).toInt + 0 + 0) + 1 from by omega), trivial⟩, mg_cast (mg_good_ext _ _ _ _ _ _ (fun i _ => by show g'1423 34 i = g 34 i; rw [show g'1423 34 = g'1368 34 from h1427_ 34 (by decide), show g'1368 34 = g'1359 34 from h1372_ 34 (by decide), show g'1359 34 = g'20 34 from h1363_ 34 (by decide), show g'20 34 = g 34 from h24_ 34 (by decide)]) (fun i _ => by show g'1423 38 i = g 38 i; rw [show g'1423 38 = g'1368 38 from h1427_ 38 (by decide), show g'1368 38 = g'1359 38 from h1372_ 38 (by decide), show g'1359 38 = g'20 38 from h1363_ 38 (by decide), show g'20 38 = g 38 from h24_ 38 (by decide)]) (fun i _ => by show g'1423 23 i = g 23 i; rw [show g'1423 23 = g'1368 23 from h1427_ 23 (by decide), show g'1368 23 = g'1359 23 from h1372_ 23 (by decide), show g'1359 23 = g'20 23 from h1363_ 23 (by decide), show g'20 23 = g 23 from h24_ 23 (by decide)]) hrest) (by show (f 15).toInt + 0 = z1422.toInt + 0 + -1 + 0; omega) (by show (f 20).toInt = (f 20).toInt; omega) (by show (f 37).toInt + 0 = (f 37).toInt + 0 + 0 + 0; omega) (by show (f 32).toInt + 0 = (f 32).toInt + 0 + 0 + 0; omega) (by show (f 5).toInt + 0 = (f 5).toInt + 0 + 0 + 0; omega)⟩⟩⟩ : mg_good (g'1423 34) (g'1423 38) (g'1423 23) (((28 : Int), (0 : Int), (0 : Int), (0 : Int), []) :: (((21 : Int), (0 : Int), (f 20).toInt, (0 : Int), []) :: (((1 : Int), (0 : Int), (0 : Int), (0 : Int), []) :: gs))) (z1422.toInt) ((f 20).toInt) ((f 37).toInt) ((f 32).toInt) ((f 5).toInt))
        · exact ⟨(by show 0 ≤ z1431.toInt; omega), (by show z1431.toInt ≤ (f 0).toInt; omega), (by show (f 0).toInt ≤ 512; omega), (by show 0 ≤ (f 24).toInt; omega), (by show (f 24).toInt + (f 20).toInt + mg_p1 (((28 : Int), (0 : Int), (0 : Int), (0 : Int), []) :: (((21 : Int), (0 : Int), (f 20).toInt, (0 : Int), []) :: (((1 : Int), (0 : Int), (0 : Int), (0 : Int), []) :: gs))) ≤ 4 * z1431.toInt; omega), (by show (f 20).toInt ≤ z1431.toInt; omega), (by show z1422.toInt + mg_p2 (((28 : Int), (0 : Int), (0 : Int), (0 : Int), []) :: (((21 : Int), (0 : Int), (f 20).toInt, (0 : Int), []) :: (((1 : Int), (0 : Int), (0 : Int), (0 : Int), []) :: gs))) ≤ z1431.toInt; omega), (by show mg_p3 (((28 : Int), (0 : Int), (0 : Int), (0 : Int), []) :: (((21 : Int), (0 : Int), (f 20).toInt, (0 : Int), []) :: (((1 : Int), (0 : Int), (0 : Int), (0 : Int), []) :: gs))) ≤ 20 * z1431.toInt + 20; omega), (by show 0 ≤ (f 68).toInt; omega), (by show (f 68).toInt + 3 * (f 20).toInt + mg_p4 (((28 : Int), (0 : Int), (0 : Int), (0 : Int), []) :: (((21 : Int), (0 : Int), (f 20).toInt, (0 : Int), []) :: (((1 : Int), (0 : Int), (0 : Int), (0 : Int), []) :: gs))) ≤ 60 * z1431.toInt + 60; omega), (by show 0 ≤ (f 62).toInt; omega), (by show (f 62).toInt + 64 * mj_n (g'1423 16) z1422.toNatClampNeg 3 ≤ 64 * z1431.toInt; omega), (by show 0 ≤ (f 44).toInt; omega), (by show (f 44).toInt ≤ z1431.toInt; omega), (by show 0 ≤ (f 48).toInt; omega), (by show (f 48).toInt ≤ z1431.toInt; omega), (by show 1 ≤ (f 53).toInt; omega), (by show (f 53).toInt ≤ z1431.toInt + 1; omega), (by show 0 ≤ (f 19).toInt; omega), (by show (f 19).toInt ≤ 600; omega), (by show 0 ≤ (f 6).toInt; omega), (by show 0 ≤ (f 8).toInt; omega)⟩
        · show 100 * ((f 0).toInt - z1431.toInt) + mg_p3 (((28 : Int), (0 : Int), (0 : Int), (0 : Int), []) :: (((21 : Int), (0 : Int), (f 20).toInt, (0 : Int), []) :: (((1 : Int), (0 : Int), (0 : Int), (0 : Int), []) :: gs))) < 100 * ((f 0).toInt - (f 4).toInt) + (1 + mg_p3 gs); omega
    · refine am_e13f hi_225_16 (am_cF (m := r2.toInt) (n := (27 : Int)) rfl (by decide) c16) ?_
      refine am_e2 (v := 39) hi_225_19 rfl ?_
      refine am_e32w (as := [.ref 39]) (la := [some (.ref 39), none]) (rest := []) hi_225_20 (am_hd0 (M := 225) (by decide) 20) (Nat.le_of_ble_eq_true rfl) (Nat.le_of_ble_eq_true rfl) (show 1 ≤ am_P0.2.2.1 227 from by decide +kernel) rfl (am_recv_ok hS11.fs) rfl rfl ?_
      refine am_e2 (v := 39) hi_227_0 rfl ?_
      refine mm_20 (v := .int (f 4)) hS11 hi_227_1 rfl ?_
      refine am_e3 (ls' := [some (.ref 39), some (.int (f 4))]) hi_227_4 (Nat.le_of_ble_eq_true rfl) rfl ?_
      refine am_e2 (v := 39) hi_227_5 rfl ?_
      refine am_e7 hi_227_6 ?_
      refine mm_20 (v := .int (f 4)) hS11 hi_227_7 rfl ?_
      refine am_e0 hi_227_10 ?_
      obtain ⟨z1435, hz1435, tz1435⟩ := am_addI (x := f 4) (y := 1) (m := (f 4).toInt) (n := (1 : Int)) rfl (by decide) (by omega) (by omega)
      refine am_e10 (z := z1435) hi_227_11 hz1435 ?_
      refine mm_21 (v := z1435) hS11 hi_227_12 rfl (Nat.le_of_ble_eq_true rfl) ms_4 ?_
      intro S1436 hS1437
      have hR1438 : RJ (upd f 4 z1435) g gs bc [] 0 [] := RJ.at hR (by show (f 4).toInt ≤ z1435.toInt; omega)
      refine am_e2 (v := 39) hi_227_15 rfl ?_
      refine am_e0 hi_227_16 ?_
      refine am_e0 hi_227_18 ?_
      refine am_e0 hi_227_19 ?_
      refine am_e0 hi_227_20 ?_
      refine am_e32n (as := [.ref 39, .int 20, .int 0, .int 0, .int 0]) (la := [some (.ref 39), some (.int 20), some (.int 0), some (.int 0), some (.int 0)]) (rest := []) hi_227_21 (am_hd0 (M := 227) (by decide) 21) (Nat.le_of_ble_eq_true rfl) (Nat.le_of_ble_eq_true rfl) (show 5 ≤ am_P0.2.2.1 179 from by decide +kernel) rfl (am_recv_ok hS1437.fs) rfl rfl (ct_pile (d := (d + 5)) hS1437 hR1438 (mj_e_plain (by decide)) (by show (0 : Int) ≤ (f 10).toInt; omega) (by show (f 10).toInt ≤ (65535 : Int); omega)) ?_
      rintro v1439 S1440 (⟨z1441, g'1442, hv1443, hS1444, hR1447, h1445, h1446⟩)
      subst hv1443
      have h1445_ : z1441.toInt = (f 10).toInt + 1 := h1445
      have h1446_ : ∀ j, j ∉ [11, 12, 13, 14] → g'1442 j = g j := h1446
      have hR1447_ : RJ (upd (upd f 4 z1435) 10 z1441) g'1442 (((20 : Int), (0 : Int), (0 : Int), (0 : Int), []) :: gs) bc [] 0 [] := hR1447
      show am_E _ _ _ _ [some (.ref 39), some (.int (f 4))] [] _ _
      refine am_e2 (v := 39) hi_227_24 rfl ?_
      refine am_e32n (as := [.ref 39]) (la := [some (.ref 39)]) (rest := []) hi_227_25 (am_hd0 (M := 227) (by decide) 25) (Nat.le_of_ble_eq_true rfl) (Nat.le_of_ble_eq_true rfl) (show 1 ≤ am_P0.2.2.1 183 from by decide +kernel) rfl (am_recv_ok hS1444.fs) rfl rfl (ct_next (d := (d + 4)) hS1444   (by show (0 : Int) ≤ z1435.toInt; omega) (by show (f 0).toInt ≤ (16384 : Int); omega)) ?_
      rintro v1448 S1449 (⟨r1450, hv1451, hS1452, h1453⟩)
      subst hv1451
      have h1453_ : z1435.toInt < (f 0).toInt ∨ r1450.toInt = (-1 : Int) := h1453
      show am_E _ _ _ _ [some (.ref 39), some (.int (f 4))] [.int r1450] _ _
      refine am_e32n (as := [.int r1450]) (la := [some (.int r1450)]) (rest := []) hi_227_28 (am_hd0 (M := 227) (by decide) 28) (Nat.le_of_ble_eq_true rfl) (Nat.le_of_ble_eq_true rfl) (show 1 ≤ am_P0.2.2.1 226 from by decide +kernel) rfl rfl rfl rfl (ct_isFollower (d := (d + 5)) hS1452   ) ?_
      rintro v1455 S1456 (⟨r1457, hv1458, hS1459, h1460, h1461⟩)
      subst hv1458
      have h1460_ : r1457 = 0 ∨ r1457 = 1 := h1460
      have h1461_ : r1457.toInt = (1 : Int) ∨ ¬ r1450.toInt = -1 := h1461
      show am_E _ _ _ _ [some (.ref 39), some (.int (f 4))] [.int r1457] _ _
      by_cases c1463 : ¬ r1457.toInt = (0 : Int)
      · refine am_e12t hi_227_31 (am_cT (m := r1457.toInt) (n := (0 : Int)) rfl (by decide) c1463) ?_
        refine am_e2 (v := 39) hi_227_43 rfl ?_
        refine am_e0 hi_227_44 ?_
        refine am_e0 hi_227_46 ?_
        refine am_e0 hi_227_47 ?_
        refine am_e1 (v := f 4) hi_227_48 rfl ?_
        refine am_e32n (as := [.ref 39, .int 45, .int 0, .int 0, .int (f 4)]) (la := [some (.ref 39), some (.int 45), some (.int 0), some (.int 0), some (.int (f 4))]) (rest := []) hi_227_49 (am_hd0 (M := 227) (by decide) 49) (Nat.le_of_ble_eq_true rfl) (Nat.le_of_ble_eq_true rfl) (show 5 ≤ am_P0.2.2.1 189 from by decide +kernel) rfl (am_recv_ok hS1459.fs) rfl rfl (ct_put (d := (d + 5)) hS1459 hR1447_  (by show (0 : Int) ≤ (f 32).toInt; omega) (by show (f 32).toInt ≤ (63 : Int); omega) (by show (f 53).toInt ≤ (4096 : Int); omega) (by show (0 : Int) ≤ (f 68).toInt; omega) (by show (f 68).toInt ≤ (65534 : Int); omega)) ?_
        rintro v1464 S1465 (⟨z1466, r1467, g'1468, hv1469, hS1470, hR1474, h1471, h1472, h1473⟩)
        subst hv1469
        have h1471_ : z1466.toInt = (f 68).toInt + 1 := h1471
        have h1472_ : r1467.toInt = (f 68).toInt := h1472
        have h1473_ : ∀ j, j ∉ [60, 69, 70, 71, 72, 73] → g'1468 j = g'1442 j := h1473
        have hR1474_ : RJ (upd (upd (upd f 4 z1435) 10 z1441) 68 z1466) g'1468 (((20 : Int), (0 : Int), (0 : Int), (0 : Int), []) :: gs) bc [] 0 ((f 68).toNatClampNeg :: []) := hR1474
        show am_E _ _ _ _ [some (.ref 39), some (.int (f 4))] [.int r1467] _ _
        refine am_e6i hi_227_52 ?_
        refine am_e18 hi_227_53 ?_
        refine am_e35 hi_227_69 ?_
        show am_E _ _ _ _ [some (.ref 39), some (.int r2)] [] _ _
        refine am_e35 hi_225_23 ?_
        show am_E _ _ _ _ [some (.ref 39), some (.int 1), some (.int on), some (.int tw), some (.int th)] [] _ _
        refine am_e18 hi_180_116 ?_
        refine am_e35 hi_180_371 ?_
        have q1 : mg_p1 (((20 : Int), (0 : Int), (0 : Int), (0 : Int), []) :: gs) = 0 + (mg_p1 gs) := rfl
        have q2 : mg_p2 (((20 : Int), (0 : Int), (0 : Int), (0 : Int), []) :: gs) = 0 + (mg_p2 gs) := rfl
        have q3 : mg_p3 (((20 : Int), (0 : Int), (0 : Int), (0 : Int), []) :: gs) = 1 + (mg_p3 gs) := rfl
        have q4 : mg_p4 (((20 : Int), (0 : Int), (0 : Int), (0 : Int), []) :: gs) = 0 + (mg_p4 gs) := rfl
        refine ⟨_, _, _, bc, rfl, hS1470, Or.inl ⟨⟨(RJ.fewer (pj' := []) hR1474_ (fun _ h => nomatch h)), ?_, ?_⟩, rfl, ?_⟩⟩
        · exact (⟨⟨(show mg_k 20 from by decide), (show (0 : Int) ≤ (f 15).toInt from by omega), (show 0 ≤ (f 20).toInt from by omega), (show 1 ≤ (f 37).toInt from by omega), (show 0 ≤ (f 32).toInt from by omega), (show (f 32).toInt ≤ (f 5).toInt from by omega), (show (f 5).toInt ≤ 48 from by omega), (show (f 37).toInt ≤ 2 * ((f 5).toInt) + 1 from by omega), trivial⟩, mg_cast (mg_good_ext _ _ _ _ _ _ (fun i _ => by show g'1468 34 i = g 34 i; rw [show g'1468 34 = g'1442 34 from h1473_ 34 (by decide), show g'1442 34 = g 34 from h1446_ 34 (by decide)]) (fun i _ => by show g'1468 38 i = g 38 i; rw [show g'1468 38 = g'1442 38 from h1473_ 38 (by decide), show g'1442 38 = g 38 from h1446_ 38 (by decide)]) (fun i _ => by show g'1468 23 i = g 23 i; rw [show g'1468 23 = g'1442 23 from h1473_ 23 (by decide), show g'1442 23 = g 23 from h1446_ 23 (by decide)]) hrest) (by show (f 15).toInt + 0 = (f 15).toInt + 0; omega) (by show (f 20).toInt = (f 20).toInt; omega) (by show (f 37).toInt + 0 = (f 37).toInt + 0; omega) (by show (f 32).toInt + 0 = (f 32).toInt + 0; omega) (by show (f 5).toInt + 0 = (f 5).toInt + 0; omega)⟩ : mg_good (g'1468 34) (g'1468 38) (g'1468 23) (((20 : Int), (0 : Int), (0 : Int), (0 : Int), []) :: gs) ((f 15).toInt) ((f 20).toInt) ((f 37).toInt) ((f 32).toInt) ((f 5).toInt))
        · exact ⟨(by show 0 ≤ z1435.toInt; omega), (by show z1435.toInt ≤ (f 0).toInt; omega), (by show (f 0).toInt ≤ 512; omega), (by show 0 ≤ (f 24).toInt; omega), (by show (f 24).toInt + (f 20).toInt + mg_p1 (((20 : Int), (0 : Int), (0 : Int), (0 : Int), []) :: gs) ≤ 4 * z1435.toInt; omega), (by show (f 20).toInt ≤ z1435.toInt; omega), (by show (f 15).toInt + mg_p2 (((20 : Int), (0 : Int), (0 : Int), (0 : Int), []) :: gs) ≤ z1435.toInt; omega), (by show mg_p3 (((20 : Int), (0 : Int), (0 : Int), (0 : Int), []) :: gs) ≤ 20 * z1435.toInt + 20; omega), (by show 0 ≤ z1466.toInt; omega), (by show z1466.toInt + 3 * (f 20).toInt + mg_p4 (((20 : Int), (0 : Int), (0 : Int), (0 : Int), []) :: gs) ≤ 60 * z1435.toInt + 60; omega), (by show 0 ≤ (f 62).toInt; omega), (by show (f 62).toInt + 64 * mj_n (g'1468 16) (f 15).toNatClampNeg 3 ≤ 64 * z1435.toInt; rw [show g'1468 16 = g'1442 16 from h1473_ 16 (by decide), show g'1442 16 = g 16 from h1446_ 16 (by decide)]; omega), (by show 0 ≤ (f 44).toInt; omega), (by show (f 44).toInt ≤ z1435.toInt; omega), (by show 0 ≤ (f 48).toInt; omega), (by show (f 48).toInt ≤ z1435.toInt; omega), (by show 1 ≤ (f 53).toInt; omega), (by show (f 53).toInt ≤ z1435.toInt + 1; omega), (by show 0 ≤ (f 19).toInt; omega), (by show (f 19).toInt ≤ 600; omega), (by show 0 ≤ (f 6).toInt; omega), (by show 0 ≤ (f 8).toInt; omega)⟩
        · show 100 * ((f 0).toInt - z1435.toInt) + mg_p3 (((20 : Int), (0 : Int), (0 : Int), (0 : Int), []) :: gs) < 100 * ((f 0).toInt - (f 4).toInt) + (1 + mg_p3 gs); omega
      · refine am_e12f hi_227_31 (am_cF (m := r1457.toInt) (n := (0 : Int)) rfl (by decide) c1463) ?_
        refine am_e2 (v := 39) hi_227_34 rfl ?_
        refine am_e32n (as := [.ref 39]) (la := [some (.ref 39)]) (rest := []) hi_227_35 (am_hd0 (M := 227) (by decide) 35) (Nat.le_of_ble_eq_true rfl) (Nat.le_of_ble_eq_true rfl) (show 1 ≤ am_P0.2.2.1 183 from by decide +kernel) rfl (am_recv_ok hS1459.fs) rfl rfl (ct_next (d := (d + 4)) hS1459   (by show (0 : Int) ≤ z1435.toInt; omega) (by show (f 0).toInt ≤ (16384 : Int); omega)) ?_
        rintro v1475 S1476 (⟨r1477, hv1478, hS1479, h1480⟩)
        subst hv1478
        have h1480_ : z1435.toInt < (f 0).toInt ∨ r1477.toInt = (-1 : Int) := h1480
        show am_E _ _ _ _ [some (.ref 39), some (.int (f 4))] [.int r1477] _ _
        refine am_e0 hi_227_38 ?_
        by_cases c1482 : ¬ r1477.toInt = (67 : Int)
        · refine am_e13t hi_227_40 (am_cT (m := r1477.toInt) (n := (67 : Int)) rfl (by decide) c1482) ?_
          refine am_e2 (v := 39) hi_227_56 rfl ?_
          refine am_e0 hi_227_57 ?_
          refine am_e1 (v := f 4) hi_227_59 rfl ?_
          refine am_e0 hi_227_60 ?_
          refine am_e0 hi_227_61 ?_
          refine am_e32n (as := [.ref 39, .int 19, .int (f 4), .int 0, .int 0]) (la := [some (.ref 39), some (.int 19), some (.int (f 4)), some (.int 0), some (.int 0)]) (rest := []) hi_227_62 (am_hd0 (M := 227) (by decide) 62) (Nat.le_of_ble_eq_true rfl) (Nat.le_of_ble_eq_true rfl) (show 5 ≤ am_P0.2.2.1 179 from by decide +kernel) rfl (am_recv_ok hS1479.fs) rfl rfl (ct_pile (d := (d + 5)) hS1479 hR1447_ (mj_e_plain (by decide)) (by show (0 : Int) ≤ z1441.toInt; omega) (by show z1441.toInt ≤ (65535 : Int); omega)) ?_
          rintro v1483 S1484 (⟨z1485, g'1486, hv1487, hS1488, hR1491, h1489, h1490⟩)
          subst hv1487
          have h1489_ : z1485.toInt = z1441.toInt + 1 := h1489
          have h1490_ : ∀ j, j ∉ [11, 12, 13, 14] → g'1486 j = g'1442 j := h1490
          replace hS1488 : MS S0 S1484 (upd (upd f 4 z1435) 10 z1485) g'1486 := hS1488
          have hR1491_ : RJ (upd (upd f 4 z1435) 10 z1485) g'1486 (((19 : Int), (f 4).toInt, (0 : Int), (0 : Int), []) :: (((20 : Int), (0 : Int), (0 : Int), (0 : Int), []) :: gs)) bc [] 0 [] := hR1491
          show am_E _ _ _ _ [some (.ref 39), some (.int (f 4))] [] _ _
          refine am_e2 (v := 39) hi_227_65 rfl ?_
          refine am_e32w (as := [.ref 39]) (la := [some (.ref 39)]) (rest := []) hi_227_66 (am_hd0 (M := 227) (by decide) 66) (Nat.le_of_ble_eq_true rfl) (Nat.le_of_ble_eq_true rfl) (show 1 ≤ am_P0.2.2.1 214 from by decide +kernel) rfl (am_recv_ok hS1488.fs) rfl rfl ?_
          refine am_e2 (v := 39) hi_214_0 rfl ?_
          refine am_e0 hi_214_1 ?_
          refine am_e0 hi_214_3 ?_
          refine am_e0 hi_214_4 ?_
          refine am_e0 hi_214_5 ?_
          refine am_e32n (as := [.ref 39, .int 34, .int 1, .int 0, .int 0]) (la := [some (.ref 39), some (.int 34), some (.int 1), some (.int 0), some (.int 0)]) (rest := []) hi_214_6 (am_hd0 (M := 214) (by decide) 6) (Nat.le_of_ble_eq_true rfl) (Nat.le_of_ble_eq_true rfl) (show 5 ≤ am_P0.2.2.1 179 from by decide +kernel) rfl (am_recv_ok hS1488.fs) rfl rfl (ct_pile (d := (d + 4)) hS1488 hR1491_ (mj_e_plain (by decide)) (by show (0 : Int) ≤ z1485.toInt; omega) (by show z1485.toInt ≤ (65535 : Int); omega)) ?_
          rintro v1492 S1493 (⟨z1494, g'1495, hv1496, hS1497, hR1500, h1498, h1499⟩)
          subst hv1496
          have h1498_ : z1494.toInt = z1485.toInt + 1 := h1498
          have h1499_ : ∀ j, j ∉ [11, 12, 13, 14] → g'1495 j = g'1486 j := h1499
          replace hS1497 : MS S0 S1493 (upd (upd f 4 z1435) 10 z1494) g'1495 := hS1497
          have hR1500_ : RJ (upd (upd f 4 z1435) 10 z1494) g'1495 (((34 : Int), (1 : Int), (0 : Int), (0 : Int), []) :: (((19 : Int), (f 4).toInt, (0 : Int), (0 : Int), []) :: (((20 : Int), (0 : Int), (0 : Int), (0 : Int), []) :: gs))) bc [] 0 [] := hR1500
          show am_E _ _ _ _ [some (.ref 39)] [] _ _
          refine am_e2 (v := 39) hi_214_9 rfl ?_
          refine am_e0 hi_214_10 ?_
          refine am_e32w (as := [.ref 39, .int 0]) (la := [some (.ref 39), some (.int 0)]) (rest := []) hi_214_11 (am_hd0 (M := 214) (by decide) 11) (Nat.le_of_ble_eq_true rfl) (Nat.le_of_ble_eq_true rfl) (show 2 ≤ am_P0.2.2.1 186 from by decide +kernel) rfl (am_recv_ok hS1497.fs) rfl rfl ?_
          refine am_e2 (v := 39) hi_186_0 rfl ?_
          refine am_e0 hi_186_1 ?_
          refine am_e1 (v := 0) hi_186_3 rfl ?_
          refine am_e0 hi_186_4 ?_
          refine am_e0 hi_186_5 ?_
          refine am_e32n (as := [.ref 39, .int 23, .int 0, .int 0, .int 0]) (la := [some (.ref 39), some (.int 23), some (.int 0), some (.int 0), some (.int 0)]) (rest := []) hi_186_6 (am_hd0 (M := 186) (by decide) 6) (Nat.le_of_ble_eq_true rfl) (Nat.le_of_ble_eq_true rfl) (show 5 ≤ am_P0.2.2.1 179 from by decide +kernel) rfl (am_recv_ok hS1497.fs) rfl rfl (ct_pile (d := (d + 3)) hS1497 hR1500_ (mj_e_plain (by decide)) (by show (0 : Int) ≤ z1494.toInt; omega) (by show z1494.toInt ≤ (65535 : Int); omega)) ?_
          rintro v1501 S1502 (⟨z1503, g'1504, hv1505, hS1506, hR1509, h1507, h1508⟩)
          subst hv1505
          have h1507_ : z1503.toInt = z1494.toInt + 1 := h1507
          have h1508_ : ∀ j, j ∉ [11, 12, 13, 14] → g'1504 j = g'1495 j := h1508
          replace hS1506 : MS S0 S1502 (upd (upd f 4 z1435) 10 z1503) g'1504 := hS1506
          have hR1509_ : RJ (upd (upd f 4 z1435) 10 z1503) g'1504 (((23 : Int), (0 : Int), (0 : Int), (0 : Int), []) :: (((34 : Int), (1 : Int), (0 : Int), (0 : Int), []) :: (((19 : Int), (f 4).toInt, (0 : Int), (0 : Int), []) :: (((20 : Int), (0 : Int), (0 : Int), (0 : Int), []) :: gs)))) bc [] 0 [] := hR1509
          show am_E _ _ _ _ [some (.ref 39), some (.int 0)] [] _ _
          refine am_e35 hi_186_9 ?_
          show am_E _ _ _ _ [some (.ref 39)] [] _ _
          refine am_e35 hi_214_14 ?_
          show am_E _ _ _ _ [some (.ref 39), some (.int (f 4))] [] _ _
          refine am_e35 hi_227_69 ?_
          show am_E _ _ _ _ [some (.ref 39), some (.int r2)] [] _ _
          refine am_e35 hi_225_23 ?_
          show am_E _ _ _ _ [some (.ref 39), some (.int 1), some (.int on), some (.int tw), some (.int th)] [] _ _
          refine am_e18 hi_180_116 ?_
          refine am_e35 hi_180_371 ?_
          have q1 : mg_p1 (((23 : Int), (0 : Int), (0 : Int), (0 : Int), []) :: (((34 : Int), (1 : Int), (0 : Int), (0 : Int), []) :: (((19 : Int), (f 4).toInt, (0 : Int), (0 : Int), []) :: (((20 : Int), (0 : Int), (0 : Int), (0 : Int), []) :: gs)))) = 0 + (0 + (0 + (0 + (mg_p1 gs)))) := rfl
          have q2 : mg_p2 (((23 : Int), (0 : Int), (0 : Int), (0 : Int), []) :: (((34 : Int), (1 : Int), (0 : Int), (0 : Int), []) :: (((19 : Int), (f 4).toInt, (0 : Int), (0 : Int), []) :: (((20 : Int), (0 : Int), (0 : Int), (0 : Int), []) :: gs)))) = 0 + (((1 : Int) - 1) + (0 + (0 + (mg_p2 gs)))) := rfl
          have q3 : mg_p3 (((23 : Int), (0 : Int), (0 : Int), (0 : Int), []) :: (((34 : Int), (1 : Int), (0 : Int), (0 : Int), []) :: (((19 : Int), (f 4).toInt, (0 : Int), (0 : Int), []) :: (((20 : Int), (0 : Int), (0 : Int), (0 : Int), []) :: gs)))) = 1 + (1 + (1 + (1 + (mg_p3 gs)))) := rfl
          have q4 : mg_p4 (((23 : Int), (0 : Int), (0 : Int), (0 : Int), []) :: (((34 : Int), (1 : Int), (0 : Int), (0 : Int), []) :: (((19 : Int), (f 4).toInt, (0 : Int), (0 : Int), []) :: (((20 : Int), (0 : Int), (0 : Int), (0 : Int), []) :: gs)))) = 0 + (0 + (3 + (0 + (mg_p4 gs)))) := rfl
          refine ⟨_, _, _, bc, rfl, hS1506, Or.inl ⟨⟨hR1509_, ?_, ?_⟩, rfl, ?_⟩⟩
          · exact (⟨⟨(show mg_k 23 from by decide), (show (0 : Int) ≤ (f 15).toInt from by omega), (show 0 ≤ (f 20).toInt from by omega), (show 1 ≤ (f 37).toInt from by omega), (show 0 ≤ (f 32).toInt from by omega), (show (f 32).toInt ≤ (f 5).toInt from by omega), (show (f 5).toInt ≤ 48 from by omega), (show (f 37).toInt ≤ 2 * ((f 5).toInt) + 2 from by omega), (show 0 ≤ (0 : Int) from by omega)⟩, ⟨⟨(show mg_k 34 from by decide), (show (1 : Int) ≤ (f 15).toInt + 1 from by omega), (show 0 ≤ (f 20).toInt from by omega), (show 1 ≤ (f 37).toInt + 0 from by omega), (show 0 ≤ (f 32).toInt + 0 from by omega), (show (f 32).toInt + 0 ≤ (f 5).toInt + 0 from by omega), (show (f 5).toInt + 0 ≤ 48 from by omega), (show (f 37).toInt + 0 ≤ 2 * ((f 5).toInt + 0) + 2 from by omega), (show 1 ≤ (1 : Int) from by omega)⟩, ⟨⟨(show mg_k 19 from by decide), (show (1 : Int) ≤ (f 15).toInt + 1 + 0 from by omega), (show 0 ≤ (f 20).toInt from by omega), (show 1 ≤ (f 37).toInt + 0 + 0 from by omega), (show 0 ≤ (f 32).toInt + 0 + 0 from by omega), (show (f 32).toInt + 0 + 0 ≤ (f 5).toInt + 0 + 0 from by omega), (show (f 5).toInt + 0 + 0 ≤ 48 from by omega), (show (f 37).toInt + 0 + 0 ≤ 2 * ((f 5).toInt + 0 + 0) + 1 from by omega), trivial⟩, ⟨⟨(show mg_k 20 from by decide), (show (0 : Int) ≤ (f 15).toInt + 1 + 0 + -1 from by omega), (show 0 ≤ (f 20).toInt from by omega), (show 1 ≤ (f 37).toInt + 0 + 0 + 0 from by omega), (show 0 ≤ (f 32).toInt + 0 + 0 + 0 from by omega), (show (f 32).toInt + 0 + 0 + 0 ≤ (f 5).toInt + 0 + 0 + 0 from by omega), (show (f 5).toInt + 0 + 0 + 0 ≤ 48 from by omega), (show (f 37).toInt + 0 + 0 + 0 ≤ 2 * ((f 5).toInt + 0 + 0 + 0) + 1 from by omega), trivial⟩, mg_cast (mg_good_ext _ _ _ _ _ _ (fun i _ => by show g'1504 34 i = g 34 i; rw [show g'1504 34 = g'1495 34 from h1508_ 34 (by decide), show g'1495 34 = g'1486 34 from h1499_ 34 (by decide), show g'1486 34 = g'1442 34 from h1490_ 34 (by decide), show g'1442 34 = g 34 from h1446_ 34 (by decide)]) (fun i _ => by show g'1504 38 i = g 38 i; rw [show g'1504 38 = g'1495 38 from h1508_ 38 (by decide), show g'1495 38 = g'1486 38 from h1499_ 38 (by decide), show g'1486 38 = g'1442 38 from h1490_ 38 (by decide), show g'1442 38 = g 38 from h1446_ 38 (by decide)]) (fun i _ => by show g'1504 23 i = g 23 i; rw [show g'1504 23 = g'1495 23 from h1508_ 23 (by decide), show g'1495 23 = g'1486 23 from h1499_ 23 (by decide), show g'1486 23 = g'1442 23 from h1490_ 23 (by decide), show g'1442 23 = g 23 from h1446_ 23 (by decide)]) hrest) (by show (f 15).toInt + 0 = (f 15).toInt + 1 + 0 + -1 + 0; omega) (by show (f 20).toInt = (f 20).toInt; omega) (by show (f 37).toInt + 0 = (f 37).toInt + 0 + 0 + 0 + 0; omega) (by show (f 32).toInt + 0 = (f 32).toInt + 0 + 0 + 0 + 0; omega) (by show (f 5).toInt + 0 = (f 5).toInt + 0 + 0 + 0 + 0; omega)⟩⟩⟩⟩ : mg_good (g'1504 34) (g'1504 38) (g'1504 23) (((23 : Int), (0 : Int), (0 : Int), (0 : Int), []) :: (((34 : Int), (1 : Int), (0 : Int), (0 : Int), []) :: (((19 : Int), (f 4).toInt, (0 : Int), (0 : Int), []) :: (((20 : Int), (0 : Int), (0 : Int), (0 : Int), []) :: gs)))) ((f 15).toInt) ((f 20).toInt) ((f 37).toInt) ((f 32).toInt) ((f 5).toInt))
          · exact ⟨(by show 0 ≤ z1435.toInt; omega), (by show z1435.toInt ≤ (f 0).toInt; omega), (by show (f 0).toInt ≤ 512; omega), (by show 0 ≤ (f 24).toInt; omega), (by show (f 24).toInt + (f 20).toInt + mg_p1 (((23 : Int), (0 : Int), (0 : Int), (0 : Int), []) :: (((34 : Int), (1 : Int), (0 : Int), (0 : Int), []) :: (((19 : Int), (f 4).toInt, (0 : Int), (0 : Int), []) :: (((20 : Int), (0 : Int), (0 : Int), (0 : Int), []) :: gs)))) ≤ 4 * z1435.toInt; omega), (by show (f 20).toInt ≤ z1435.toInt; omega), (by show (f 15).toInt + mg_p2 (((23 : Int), (0 : Int), (0 : Int), (0 : Int), []) :: (((34 : Int), (1 : Int), (0 : Int), (0 : Int), []) :: (((19 : Int), (f 4).toInt, (0 : Int), (0 : Int), []) :: (((20 : Int), (0 : Int), (0 : Int), (0 : Int), []) :: gs)))) ≤ z1435.toInt; omega), (by show mg_p3 (((23 : Int), (0 : Int), (0 : Int), (0 : Int), []) :: (((34 : Int), (1 : Int), (0 : Int), (0 : Int), []) :: (((19 : Int), (f 4).toInt, (0 : Int), (0 : Int), []) :: (((20 : Int), (0 : Int), (0 : Int), (0 : Int), []) :: gs)))) ≤ 20 * z1435.toInt + 20; omega), (by show 0 ≤ (f 68).toInt; omega), (by show (f 68).toInt + 3 * (f 20).toInt + mg_p4 (((23 : Int), (0 : Int), (0 : Int), (0 : Int), []) :: (((34 : Int), (1 : Int), (0 : Int), (0 : Int), []) :: (((19 : Int), (f 4).toInt, (0 : Int), (0 : Int), []) :: (((20 : Int), (0 : Int), (0 : Int), (0 : Int), []) :: gs)))) ≤ 60 * z1435.toInt + 60; omega), (by show 0 ≤ (f 62).toInt; omega), (by show (f 62).toInt + 64 * mj_n (g'1504 16) (f 15).toNatClampNeg 3 ≤ 64 * z1435.toInt; rw [show g'1504 16 = g'1495 16 from h1508_ 16 (by decide), show g'1495 16 = g'1486 16 from h1499_ 16 (by decide), show g'1486 16 = g'1442 16 from h1490_ 16 (by decide), show g'1442 16 = g 16 from h1446_ 16 (by decide)]; omega), (by show 0 ≤ (f 44).toInt; omega), (by show (f 44).toInt ≤ z1435.toInt; omega), (by show 0 ≤ (f 48).toInt; omega), (by show (f 48).toInt ≤ z1435.toInt; omega), (by show 1 ≤ (f 53).toInt; omega), (by show (f 53).toInt ≤ z1435.toInt + 1; omega), (by show 0 ≤ (f 19).toInt; omega), (by show (f 19).toInt ≤ 600; omega), (by show 0 ≤ (f 6).toInt; omega), (by show 0 ≤ (f 8).toInt; omega)⟩
          · show 100 * ((f 0).toInt - z1435.toInt) + mg_p3 (((23 : Int), (0 : Int), (0 : Int), (0 : Int), []) :: (((34 : Int), (1 : Int), (0 : Int), (0 : Int), []) :: (((19 : Int), (f 4).toInt, (0 : Int), (0 : Int), []) :: (((20 : Int), (0 : Int), (0 : Int), (0 : Int), []) :: gs)))) < 100 * ((f 0).toInt - (f 4).toInt) + (1 + mg_p3 gs); omega
        · refine am_e13f hi_227_40 (am_cF (m := r1477.toInt) (n := (67 : Int)) rfl (by decide) c1482) ?_
          refine am_e2 (v := 39) hi_227_43 rfl ?_
          refine am_e0 hi_227_44 ?_
          refine am_e0 hi_227_46 ?_
          refine am_e0 hi_227_47 ?_
          refine am_e1 (v := f 4) hi_227_48 rfl ?_
          refine am_e32n (as := [.ref 39, .int 45, .int 0, .int 0, .int (f 4)]) (la := [some (.ref 39), some (.int 45), some (.int 0), some (.int 0), some (.int (f 4))]) (rest := []) hi_227_49 (am_hd0 (M := 227) (by decide) 49) (Nat.le_of_ble_eq_true rfl) (Nat.le_of_ble_eq_true rfl) (show 5 ≤ am_P0.2.2.1 189 from by decide +kernel) rfl (am_recv_ok hS1479.fs) rfl rfl (ct_put (d := (d + 5)) hS1479 hR1447_  (by show (0 : Int) ≤ (f 32).toInt; omega) (by show (f 32).toInt ≤ (63 : Int); omega) (by show (f 53).toInt ≤ (4096 : Int); omega) (by show (0 : Int) ≤ (f 68).toInt; omega) (by show (f 68).toInt ≤ (65534 : Int); omega)) ?_
          rintro v1510 S1511 (⟨z1512, r1513, g'1514, hv1515, hS1516, hR1520, h1517, h1518, h1519⟩)
          subst hv1515
          have h1517_ : z1512.toInt = (f 68).toInt + 1 := h1517
          have h1518_ : r1513.toInt = (f 68).toInt := h1518
          have h1519_ : ∀ j, j ∉ [60, 69, 70, 71, 72, 73] → g'1514 j = g'1442 j := h1519
          have hR1520_ : RJ (upd (upd (upd f 4 z1435) 10 z1441) 68 z1512) g'1514 (((20 : Int), (0 : Int), (0 : Int), (0 : Int), []) :: gs) bc [] 0 ((f 68).toNatClampNeg :: []) := hR1520
          show am_E _ _ _ _ [some (.ref 39), some (.int (f 4))] [.int r1513] _ _
          refine am_e6i hi_227_52 ?_
          refine am_e18 hi_227_53 ?_
          refine am_e35 hi_227_69 ?_
          show am_E _ _ _ _ [some (.ref 39), some (.int r2)] [] _ _
          refine am_e35 hi_225_23 ?_
          show am_E _ _ _ _ [some (.ref 39), some (.int 1), some (.int on), some (.int tw), some (.int th)] [] _ _
          refine am_e18 hi_180_116 ?_
          refine am_e35 hi_180_371 ?_
          have q1 : mg_p1 (((20 : Int), (0 : Int), (0 : Int), (0 : Int), []) :: gs) = 0 + (mg_p1 gs) := rfl
          have q2 : mg_p2 (((20 : Int), (0 : Int), (0 : Int), (0 : Int), []) :: gs) = 0 + (mg_p2 gs) := rfl
          have q3 : mg_p3 (((20 : Int), (0 : Int), (0 : Int), (0 : Int), []) :: gs) = 1 + (mg_p3 gs) := rfl
          have q4 : mg_p4 (((20 : Int), (0 : Int), (0 : Int), (0 : Int), []) :: gs) = 0 + (mg_p4 gs) := rfl
          refine ⟨_, _, _, bc, rfl, hS1516, Or.inl ⟨⟨(RJ.fewer (pj' := []) hR1520_ (fun _ h => nomatch h)), ?_, ?_⟩, rfl, ?_⟩⟩
          · exact (⟨⟨(show mg_k 20 from by decide), (show (0 : Int) ≤ (f 15).toInt from by omega), (show 0 ≤ (f 20).toInt from by omega), (show 1 ≤ (f 37).toInt from by omega), (show 0 ≤ (f 32).toInt from by omega), (show (f 32).toInt ≤ (f 5).toInt from by omega), (show (f 5).toInt ≤ 48 from by omega), (show (f 37).toInt ≤ 2 * ((f 5).toInt) + 1 from by omega), trivial⟩, mg_cast (mg_good_ext _ _ _ _ _ _ (fun i _ => by show g'1514 34 i = g 34 i; rw [show g'1514 34 = g'1442 34 from h1519_ 34 (by decide), show g'1442 34 = g 34 from h1446_ 34 (by decide)]) (fun i _ => by show g'1514 38 i = g 38 i; rw [show g'1514 38 = g'1442 38 from h1519_ 38 (by decide), show g'1442 38 = g 38 from h1446_ 38 (by decide)]) (fun i _ => by show g'1514 23 i = g 23 i; rw [show g'1514 23 = g'1442 23 from h1519_ 23 (by decide), show g'1442 23 = g 23 from h1446_ 23 (by decide)]) hrest) (by show (f 15).toInt + 0 = (f 15).toInt + 0; omega) (by show (f 20).toInt = (f 20).toInt; omega) (by show (f 37).toInt + 0 = (f 37).toInt + 0; omega) (by show (f 32).toInt + 0 = (f 32).toInt + 0; omega) (by show (f 5).toInt + 0 = (f 5).toInt + 0; omega)⟩ : mg_good (g'1514 34) (g'1514 38) (g'1514 23) (((20 : Int), (0 : Int), (0 : Int), (0 : Int), []) :: gs) ((f 15).toInt) ((f 20).toInt) ((f 37).toInt) ((f 32).toInt) ((f 5).toInt))
          · exact ⟨(by show 0 ≤ z1435.toInt; omega), (by show z1435.toInt ≤ (f 0).toInt; omega), (by show (f 0).toInt ≤ 512; omega), (by show 0 ≤ (f 24).toInt; omega), (by show (f 24).toInt + (f 20).toInt + mg_p1 (((20 : Int), (0 : Int), (0 : Int), (0 : Int), []) :: gs) ≤ 4 * z1435.toInt; omega), (by show (f 20).toInt ≤ z1435.toInt; omega), (by show (f 15).toInt + mg_p2 (((20 : Int), (0 : Int), (0 : Int), (0 : Int), []) :: gs) ≤ z1435.toInt; omega), (by show mg_p3 (((20 : Int), (0 : Int), (0 : Int), (0 : Int), []) :: gs) ≤ 20 * z1435.toInt + 20; omega), (by show 0 ≤ z1512.toInt; omega), (by show z1512.toInt + 3 * (f 20).toInt + mg_p4 (((20 : Int), (0 : Int), (0 : Int), (0 : Int), []) :: gs) ≤ 60 * z1435.toInt + 60; omega), (by show 0 ≤ (f 62).toInt; omega), (by show (f 62).toInt + 64 * mj_n (g'1514 16) (f 15).toNatClampNeg 3 ≤ 64 * z1435.toInt; rw [show g'1514 16 = g'1442 16 from h1519_ 16 (by decide), show g'1442 16 = g 16 from h1446_ 16 (by decide)]; omega), (by show 0 ≤ (f 44).toInt; omega), (by show (f 44).toInt ≤ z1435.toInt; omega), (by show 0 ≤ (f 48).toInt; omega), (by show (f 48).toInt ≤ z1435.toInt; omega), (by show 1 ≤ (f 53).toInt; omega), (by show (f 53).toInt ≤ z1435.toInt + 1; omega), (by show 0 ≤ (f 19).toInt; omega), (by show (f 19).toInt ≤ 600; omega), (by show 0 ≤ (f 6).toInt; omega), (by show 0 ≤ (f 8).toInt; omega)⟩
          · show 100 * ((f 0).toInt - z1435.toInt) + mg_p3 (((20 : Int), (0 : Int), (0 : Int), (0 : Int), []) :: gs) < 100 * ((f 0).toInt - (f 4).toInt) + (1 + mg_p3 gs); omega
  · refine am_e12f hi_225_9 (am_cF (m := r9.toInt) (n := (0 : Int)) rfl (by decide) c15) ?_
    refine am_e35 hi_225_12 ?_
    show am_E _ _ _ _ [some (.ref 39), some (.int 1), some (.int on), some (.int tw), some (.int th)] [] _ _
    refine am_e18 hi_180_116 ?_
    refine am_e35 hi_180_371 ?_
    have q1 : mg_p1 gs = mg_p1 gs := rfl
    have q2 : mg_p2 gs = mg_p2 gs := rfl
    have q3 : mg_p3 gs = mg_p3 gs := rfl
    have q4 : mg_p4 gs = mg_p4 gs := rfl
    refine ⟨_, _, _, bc, rfl, hS11, Or.inl ⟨⟨hR, ?_, ?_⟩, rfl, ?_⟩⟩
    · exact (mg_cast (mg_good_ext _ _ _ _ _ _ (fun _ _ => rfl) (fun _ _ => rfl) (fun _ _ => rfl) hrest) (by show (f 15).toInt + 0 = (f 15).toInt; omega) (by show (f 20).toInt = (f 20).toInt; omega) (by show (f 37).toInt + 0 = (f 37).toInt; omega) (by show (f 32).toInt + 0 = (f 32).toInt; omega) (by show (f 5).toInt + 0 = (f 5).toInt; omega) : mg_good (g 34) (g 38) (g 23) gs ((f 15).toInt) ((f 20).toInt) ((f 37).toInt) ((f 32).toInt) ((f 5).toInt))
    · exact ⟨(by show 0 ≤ (f 4).toInt; omega), (by show (f 4).toInt ≤ (f 0).toInt; omega), (by show (f 0).toInt ≤ 512; omega), (by show 0 ≤ (f 24).toInt; omega), (by show (f 24).toInt + (f 20).toInt + mg_p1 gs ≤ 4 * (f 4).toInt; omega), (by show (f 20).toInt ≤ (f 4).toInt; omega), (by show (f 15).toInt + mg_p2 gs ≤ (f 4).toInt; omega), (by show mg_p3 gs ≤ 20 * (f 4).toInt + 20; omega), (by show 0 ≤ (f 68).toInt; omega), (by show (f 68).toInt + 3 * (f 20).toInt + mg_p4 gs ≤ 60 * (f 4).toInt + 60; omega), (by show 0 ≤ (f 62).toInt; omega), (by show (f 62).toInt + 64 * mj_n (g 16) (f 15).toNatClampNeg 3 ≤ 64 * (f 4).toInt; omega), (by show 0 ≤ (f 44).toInt; omega), (by show (f 44).toInt ≤ (f 4).toInt; omega), (by show 0 ≤ (f 48).toInt; omega), (by show (f 48).toInt ≤ (f 4).toInt; omega), (by show 1 ≤ (f 53).toInt; omega), (by show (f 53).toInt ≤ (f 4).toInt + 1; omega), (by show 0 ≤ (f 19).toInt; omega), (by show (f 19).toInt ≤ 600; omega), (by show 0 ≤ (f 6).toInt; omega), (by show 0 ≤ (f 8).toInt; omega)⟩
    · show 100 * ((f 0).toInt - (f 4).toInt) + mg_p3 gs < 100 * ((f 0).toInt - (f 4).toInt) + (1 + mg_p3 gs); omega
