/-! THE REFERENCE: ranks and kinds (printed by wip/p2/ref12.py) -/
theorem ct_left {sc : Nat × (Nat → Int32)} {d : Nat} {S0 S : am_S} {f : Nat → Int32} {g : Nat → Nat → Int32} {k : Int32} (hS : MS S0 S f g) : am_E (am_PP sc) (d + 0) 203 0 [some (.int k)] [] S (am_N fun v S1 => (∃ r : Int32, v = some (.int r) ∧ MS S0 S1 f g ∧ ((0 : Int) ≤ r.toInt) ∧ (r.toInt ≤ (14 : Int)) ∧ (r.toInt = (0 : Int) ∨ (0 : Int) ≤ k.toInt))) := by
  refine am_e1 (v := k) hi_203_0 rfl ?_
  by_cases c0 : k.toInt = 10
  · refine am_e19 (t := 266) hi_203_1 (am_swI (v := k) (w := 10) (by decide) (by decide) c0) ?_
    refine am_e0 hi_203_266 ?_
    refine am_e33 hi_203_267 ?_
    exact ⟨2, rfl, hS, (by show (0 : Int) ≤ (2 : Int); omega), (by show (2 : Int) ≤ (14 : Int); omega), (by show (2 : Int) = (0 : Int) ∨ (0 : Int) ≤ k.toInt; omega)⟩
  by_cases c1 : k.toInt = 25
  · refine am_e19 (t := 264) hi_203_1 (am_swI (v := k) (w := 25) (by decide) (by decide) c1) ?_
    refine am_e0 hi_203_264 ?_
    refine am_e33 hi_203_265 ?_
    exact ⟨1, rfl, hS, (by show (0 : Int) ≤ (1 : Int); omega), (by show (1 : Int) ≤ (14 : Int); omega), (by show (1 : Int) = (0 : Int) ∨ (0 : Int) ≤ k.toInt; omega)⟩
  by_cases c2 : k.toInt = 40
  · refine am_e19 (t := 283) hi_203_1 (am_swI (v := k) (w := 40) (by decide) (by decide) c2) ?_
    refine am_e0 hi_203_283 ?_
    refine am_e33 hi_203_285 ?_
    exact ⟨10, rfl, hS, (by show (0 : Int) ≤ (10 : Int); omega), (by show (10 : Int) ≤ (14 : Int); omega), (by show (10 : Int) = (0 : Int) ∨ (0 : Int) ≤ k.toInt; omega)⟩
  by_cases c3 : k.toInt = 41
  · refine am_e19 (t := 283) hi_203_1 (am_swI (v := k) (w := 41) (by decide) (by decide) c3) ?_
    refine am_e0 hi_203_283 ?_
    refine am_e33 hi_203_285 ?_
    exact ⟨10, rfl, hS, (by show (0 : Int) ≤ (10 : Int); omega), (by show (10 : Int) ≤ (14 : Int); omega), (by show (10 : Int) = (0 : Int) ∨ (0 : Int) ≤ k.toInt; omega)⟩
  by_cases c4 : k.toInt = 42
  · refine am_e19 (t := 286) hi_203_1 (am_swI (v := k) (w := 42) (by decide) (by decide) c4) ?_
    refine am_e0 hi_203_286 ?_
    refine am_e33 hi_203_288 ?_
    exact ⟨11, rfl, hS, (by show (0 : Int) ≤ (11 : Int); omega), (by show (11 : Int) ≤ (14 : Int); omega), (by show (11 : Int) = (0 : Int) ∨ (0 : Int) ≤ k.toInt; omega)⟩
  by_cases c5 : k.toInt = 43
  · refine am_e19 (t := 286) hi_203_1 (am_swI (v := k) (w := 43) (by decide) (by decide) c5) ?_
    refine am_e0 hi_203_286 ?_
    refine am_e33 hi_203_288 ?_
    exact ⟨11, rfl, hS, (by show (0 : Int) ≤ (11 : Int); omega), (by show (11 : Int) ≤ (14 : Int); omega), (by show (11 : Int) = (0 : Int) ∨ (0 : Int) ≤ k.toInt; omega)⟩
  by_cases c6 : k.toInt = 44
  · refine am_e19 (t := 286) hi_203_1 (am_swI (v := k) (w := 44) (by decide) (by decide) c6) ?_
    refine am_e0 hi_203_286 ?_
    refine am_e33 hi_203_288 ?_
    exact ⟨11, rfl, hS, (by show (0 : Int) ≤ (11 : Int); omega), (by show (11 : Int) ≤ (14 : Int); omega), (by show (11 : Int) = (0 : Int) ∨ (0 : Int) ≤ k.toInt; omega)⟩
  by_cases c7 : k.toInt = 45
  · refine am_e19 (t := 289) hi_203_1 (am_swI (v := k) (w := 45) (by decide) (by decide) c7) ?_
    refine am_e0 hi_203_289 ?_
    refine am_e33 hi_203_291 ?_
    exact ⟨14, rfl, hS, (by show (0 : Int) ≤ (14 : Int); omega), (by show (14 : Int) ≤ (14 : Int); omega), (by show (14 : Int) = (0 : Int) ∨ (0 : Int) ≤ k.toInt; omega)⟩
  by_cases c8 : k.toInt = 47
  · refine am_e19 (t := 274) hi_203_1 (am_swI (v := k) (w := 47) (by decide) (by decide) c8) ?_
    refine am_e0 hi_203_274 ?_
    refine am_e33 hi_203_276 ?_
    exact ⟨6, rfl, hS, (by show (0 : Int) ≤ (6 : Int); omega), (by show (6 : Int) ≤ (14 : Int); omega), (by show (6 : Int) = (0 : Int) ∨ (0 : Int) ≤ k.toInt; omega)⟩
  by_cases c9 : k.toInt = 48
  · refine am_e19 (t := 272) hi_203_1 (am_swI (v := k) (w := 48) (by decide) (by decide) c9) ?_
    refine am_e0 hi_203_272 ?_
    refine am_e33 hi_203_273 ?_
    exact ⟨5, rfl, hS, (by show (0 : Int) ≤ (5 : Int); omega), (by show (5 : Int) ≤ (14 : Int); omega), (by show (5 : Int) = (0 : Int) ∨ (0 : Int) ≤ k.toInt; omega)⟩
  by_cases c10 : k.toInt = 49
  · refine am_e19 (t := 270) hi_203_1 (am_swI (v := k) (w := 49) (by decide) (by decide) c10) ?_
    refine am_e0 hi_203_270 ?_
    refine am_e33 hi_203_271 ?_
    exact ⟨4, rfl, hS, (by show (0 : Int) ≤ (4 : Int); omega), (by show (4 : Int) ≤ (14 : Int); omega), (by show (4 : Int) = (0 : Int) ∨ (0 : Int) ≤ k.toInt; omega)⟩
  by_cases c11 : k.toInt = 50
  · refine am_e19 (t := 277) hi_203_1 (am_swI (v := k) (w := 50) (by decide) (by decide) c11) ?_
    refine am_e0 hi_203_277 ?_
    refine am_e33 hi_203_279 ?_
    exact ⟨7, rfl, hS, (by show (0 : Int) ≤ (7 : Int); omega), (by show (7 : Int) ≤ (14 : Int); omega), (by show (7 : Int) = (0 : Int) ∨ (0 : Int) ≤ k.toInt; omega)⟩
  by_cases c12 : k.toInt = 51
  · refine am_e19 (t := 277) hi_203_1 (am_swI (v := k) (w := 51) (by decide) (by decide) c12) ?_
    refine am_e0 hi_203_277 ?_
    refine am_e33 hi_203_279 ?_
    exact ⟨7, rfl, hS, (by show (0 : Int) ≤ (7 : Int); omega), (by show (7 : Int) ≤ (14 : Int); omega), (by show (7 : Int) = (0 : Int) ∨ (0 : Int) ≤ k.toInt; omega)⟩
  by_cases c13 : k.toInt = 52
  · refine am_e19 (t := 286) hi_203_1 (am_swI (v := k) (w := 52) (by decide) (by decide) c13) ?_
    refine am_e0 hi_203_286 ?_
    refine am_e33 hi_203_288 ?_
    exact ⟨11, rfl, hS, (by show (0 : Int) ≤ (11 : Int); omega), (by show (11 : Int) ≤ (14 : Int); omega), (by show (11 : Int) = (0 : Int) ∨ (0 : Int) ≤ k.toInt; omega)⟩
  by_cases c14 : k.toInt = 53
  · refine am_e19 (t := 268) hi_203_1 (am_swI (v := k) (w := 53) (by decide) (by decide) c14) ?_
    refine am_e0 hi_203_268 ?_
    refine am_e33 hi_203_269 ?_
    exact ⟨3, rfl, hS, (by show (0 : Int) ≤ (3 : Int); omega), (by show (3 : Int) ≤ (14 : Int); omega), (by show (3 : Int) = (0 : Int) ∨ (0 : Int) ≤ k.toInt; omega)⟩
  by_cases c15 : k.toInt = 54
  · refine am_e19 (t := 268) hi_203_1 (am_swI (v := k) (w := 54) (by decide) (by decide) c15) ?_
    refine am_e0 hi_203_268 ?_
    refine am_e33 hi_203_269 ?_
    exact ⟨3, rfl, hS, (by show (0 : Int) ≤ (3 : Int); omega), (by show (3 : Int) ≤ (14 : Int); omega), (by show (3 : Int) = (0 : Int) ∨ (0 : Int) ≤ k.toInt; omega)⟩
  by_cases c16 : k.toInt = 55
  · refine am_e19 (t := 268) hi_203_1 (am_swI (v := k) (w := 55) (by decide) (by decide) c16) ?_
    refine am_e0 hi_203_268 ?_
    refine am_e33 hi_203_269 ?_
    exact ⟨3, rfl, hS, (by show (0 : Int) ≤ (3 : Int); omega), (by show (3 : Int) ≤ (14 : Int); omega), (by show (3 : Int) = (0 : Int) ∨ (0 : Int) ≤ k.toInt; omega)⟩
  by_cases c17 : k.toInt = 56
  · refine am_e19 (t := 268) hi_203_1 (am_swI (v := k) (w := 56) (by decide) (by decide) c17) ?_
    refine am_e0 hi_203_268 ?_
    refine am_e33 hi_203_269 ?_
    exact ⟨3, rfl, hS, (by show (0 : Int) ≤ (3 : Int); omega), (by show (3 : Int) ≤ (14 : Int); omega), (by show (3 : Int) = (0 : Int) ∨ (0 : Int) ≤ k.toInt; omega)⟩
  by_cases c18 : k.toInt = 57
  · refine am_e19 (t := 268) hi_203_1 (am_swI (v := k) (w := 57) (by decide) (by decide) c18) ?_
    refine am_e0 hi_203_268 ?_
    refine am_e33 hi_203_269 ?_
    exact ⟨3, rfl, hS, (by show (0 : Int) ≤ (3 : Int); omega), (by show (3 : Int) ≤ (14 : Int); omega), (by show (3 : Int) = (0 : Int) ∨ (0 : Int) ≤ k.toInt; omega)⟩
  by_cases c19 : k.toInt = 58
  · refine am_e19 (t := 268) hi_203_1 (am_swI (v := k) (w := 58) (by decide) (by decide) c19) ?_
    refine am_e0 hi_203_268 ?_
    refine am_e33 hi_203_269 ?_
    exact ⟨3, rfl, hS, (by show (0 : Int) ≤ (3 : Int); omega), (by show (3 : Int) ≤ (14 : Int); omega), (by show (3 : Int) = (0 : Int) ∨ (0 : Int) ≤ k.toInt; omega)⟩
  by_cases c20 : k.toInt = 71
  · refine am_e19 (t := 280) hi_203_1 (am_swI (v := k) (w := 71) (by decide) (by decide) c20) ?_
    refine am_e0 hi_203_280 ?_
    refine am_e33 hi_203_282 ?_
    exact ⟨9, rfl, hS, (by show (0 : Int) ≤ (9 : Int); omega), (by show (9 : Int) ≤ (14 : Int); omega), (by show (9 : Int) = (0 : Int) ∨ (0 : Int) ≤ k.toInt; omega)⟩
  refine am_e19 (t := 292) hi_203_1 (am_swD (v := k) (ks := [10, 25, 40, 41, 42, 43, 44, 45, 47, 48, 49, 50, 51, 52, 53, 54, 55, 56, 57, 58, 71]) (by decide) (by intro k hk; simp only [List.mem_cons, List.not_mem_nil, or_false] at hk; rcases hk with rfl | rfl | rfl | rfl | rfl | rfl | rfl | rfl | rfl | rfl | rfl | rfl | rfl | rfl | rfl | rfl | rfl | rfl | rfl | rfl | rfl <;> omega)) ?_
  refine am_e0 hi_203_292 ?_
  refine am_e33 hi_203_293 ?_
  exact ⟨0, rfl, hS, (by show (0 : Int) ≤ (0 : Int); omega), (by show (0 : Int) ≤ (14 : Int); omega), (by show (0 : Int) = (0 : Int) ∨ (0 : Int) ≤ k.toInt; omega)⟩
theorem ct_right {sc : Nat × (Nat → Int32)} {d : Nat} {S0 S : am_S} {f : Nat → Int32} {g : Nat → Nat → Int32} {k : Int32} (hS : MS S0 S f g) : am_E (am_PP sc) (d + 1) 208 0 [some (.int k)] [] S (am_N fun v S1 => (∃ r : Int32, v = some (.int r) ∧ MS S0 S1 f g ∧ ((0 : Int) ≤ r.toInt) ∧ (r.toInt ≤ (14 : Int)))) := by
  refine am_e1 (v := k) hi_208_0 rfl ?_
  refine am_e0 hi_208_1 ?_
  by_cases c0 : ¬ k.toInt = (71 : Int)
  · refine am_e13t hi_208_3 (am_cT (m := k.toInt) (n := (71 : Int)) rfl (by decide) c0) ?_
    refine am_e1 (v := k) hi_208_11 rfl ?_
    refine am_e0 hi_208_12 ?_
    by_cases c1 : ¬ k.toInt = (45 : Int)
    · refine am_e13t hi_208_14 (am_cT (m := k.toInt) (n := (45 : Int)) rfl (by decide) c1) ?_
      refine am_e1 (v := k) hi_208_22 rfl ?_
      refine am_e32n (as := [.int k]) (la := [some (.int k)]) (rest := []) hi_208_23 (am_hd0 (M := 208) (by decide) 23) (Nat.le_of_ble_eq_true rfl) (Nat.le_of_ble_eq_true rfl) (show 1 ≤ am_P0.2.2.1 203 from by decide +kernel) rfl rfl rfl rfl (ct_left (d := d) hS   ) ?_
      rintro v2 S3 (⟨r4, hv5, hS6, h7, h8, h9⟩)
      subst hv5
      have h7_ : (0 : Int) ≤ r4.toInt := h7
      have h8_ : r4.toInt ≤ (14 : Int) := h8
      have h9_ : r4.toInt = (0 : Int) ∨ (0 : Int) ≤ k.toInt := h9
      show am_E _ _ _ _ [some (.int k)] [.int r4] _ _
      refine am_e33 hi_208_26 ?_
      exact ⟨r4, rfl, hS6, (by show (0 : Int) ≤ r4.toInt; omega), (by show r4.toInt ≤ (14 : Int); omega)⟩
    · refine am_e13f hi_208_14 (am_cF (m := k.toInt) (n := (45 : Int)) rfl (by decide) c1) ?_
      refine am_e0 hi_208_17 ?_
      refine am_e18 hi_208_19 ?_
      refine am_e33 hi_208_26 ?_
      exact ⟨13, rfl, hS, (by show (0 : Int) ≤ (13 : Int); omega), (by show (13 : Int) ≤ (14 : Int); omega)⟩
  · refine am_e13f hi_208_3 (am_cF (m := k.toInt) (n := (71 : Int)) rfl (by decide) c0) ?_
    refine am_e0 hi_208_6 ?_
    refine am_e18 hi_208_8 ?_
    refine am_e33 hi_208_26 ?_
    exact ⟨8, rfl, hS, (by show (0 : Int) ≤ (8 : Int); omega), (by show (8 : Int) ≤ (14 : Int); omega)⟩
theorem ct_isUnary {sc : Nat × (Nat → Int32)} {d : Nat} {S0 S : am_S} {f : Nat → Int32} {g : Nat → Nat → Int32} {k : Int32} (hS : MS S0 S f g) : am_E (am_PP sc) (d + 0) 185 0 [some (.int k)] [] S (am_N fun v S1 => (∃ r : Int32, v = some (.int r) ∧ MS S0 S1 f g ∧ (r = 0 ∨ r = 1) ∧ (r.toInt = (0 : Int) ∨ (0 : Int) ≤ k.toInt))) := by
  refine am_e1 (v := k) hi_185_0 rfl ?_
  refine am_e0 hi_185_1 ?_
  by_cases c0 : k.toInt = (24 : Int)
  · refine am_e13t hi_185_3 (am_cT (m := k.toInt) (n := (24 : Int)) rfl (by decide) c0) ?_
    refine am_e0 hi_185_24 ?_
    refine am_e18 hi_185_25 ?_
    refine am_e36 hi_185_29 (by decide) ?_
    exact ⟨1, rfl, hS, (by decide), (by show (1 : Int) = (0 : Int) ∨ (0 : Int) ≤ k.toInt; omega)⟩
  · refine am_e13f hi_185_3 (am_cF (m := k.toInt) (n := (24 : Int)) rfl (by decide) c0) ?_
    refine am_e1 (v := k) hi_185_6 rfl ?_
    refine am_e0 hi_185_7 ?_
    by_cases c1 : k.toInt = (46 : Int)
    · refine am_e13t hi_185_9 (am_cT (m := k.toInt) (n := (46 : Int)) rfl (by decide) c1) ?_
      refine am_e0 hi_185_24 ?_
      refine am_e18 hi_185_25 ?_
      refine am_e36 hi_185_29 (by decide) ?_
      exact ⟨1, rfl, hS, (by decide), (by show (1 : Int) = (0 : Int) ∨ (0 : Int) ≤ k.toInt; omega)⟩
    · refine am_e13f hi_185_9 (am_cF (m := k.toInt) (n := (46 : Int)) rfl (by decide) c1) ?_
      refine am_e1 (v := k) hi_185_12 rfl ?_
      refine am_e0 hi_185_13 ?_
      by_cases c2 : k.toInt = (41 : Int)
      · refine am_e13t hi_185_15 (am_cT (m := k.toInt) (n := (41 : Int)) rfl (by decide) c2) ?_
        refine am_e0 hi_185_24 ?_
        refine am_e18 hi_185_25 ?_
        refine am_e36 hi_185_29 (by decide) ?_
        exact ⟨1, rfl, hS, (by decide), (by show (1 : Int) = (0 : Int) ∨ (0 : Int) ≤ k.toInt; omega)⟩
      · refine am_e13f hi_185_15 (am_cF (m := k.toInt) (n := (41 : Int)) rfl (by decide) c2) ?_
        refine am_e1 (v := k) hi_185_18 rfl ?_
        refine am_e0 hi_185_19 ?_
        by_cases c3 : ¬ k.toInt = (48 : Int)
        · refine am_e13t hi_185_21 (am_cT (m := k.toInt) (n := (48 : Int)) rfl (by decide) c3) ?_
          refine am_e0 hi_185_28 ?_
          refine am_e36 hi_185_29 (by decide) ?_
          exact ⟨0, rfl, hS, (by decide), (by show (0 : Int) = (0 : Int) ∨ (0 : Int) ≤ k.toInt; omega)⟩
        · refine am_e13f hi_185_21 (am_cF (m := k.toInt) (n := (48 : Int)) rfl (by decide) c3) ?_
          refine am_e0 hi_185_24 ?_
          refine am_e18 hi_185_25 ?_
          refine am_e36 hi_185_29 (by decide) ?_
          exact ⟨1, rfl, hS, (by decide), (by show (1 : Int) = (0 : Int) ∨ (0 : Int) ≤ k.toInt; omega)⟩
theorem ct_isFollower {sc : Nat × (Nat → Int32)} {d : Nat} {S0 S : am_S} {f : Nat → Int32} {g : Nat → Nat → Int32} {k : Int32} (hS : MS S0 S f g) : am_E (am_PP sc) (d + 0) 226 0 [some (.int k)] [] S (am_N fun v S1 => (∃ r : Int32, v = some (.int r) ∧ MS S0 S1 f g ∧ (r = 0 ∨ r = 1) ∧ (r.toInt = (1 : Int) ∨ ¬ k.toInt = -1))) := by
  refine am_e1 (v := k) hi_226_0 rfl ?_
  refine am_e0 hi_226_1 ?_
  by_cases c0 : k.toInt = (-1 : Int)
  · refine am_e13t hi_226_2 (am_cT (m := k.toInt) (n := (-1 : Int)) rfl (by decide) c0) ?_
    refine am_e0 hi_226_29 ?_
    refine am_e18 hi_226_30 ?_
    refine am_e36 hi_226_34 (by decide) ?_
    exact ⟨1, rfl, hS, (by decide), (by show (1 : Int) = (1 : Int) ∨ ¬ k.toInt = -1; omega)⟩
  · refine am_e13f hi_226_2 (am_cF (m := k.toInt) (n := (-1 : Int)) rfl (by decide) c0) ?_
    refine am_e1 (v := k) hi_226_5 rfl ?_
    refine am_e0 hi_226_6 ?_
    by_cases c1 : k.toInt = (15 : Int)
    · refine am_e13t hi_226_8 (am_cT (m := k.toInt) (n := (15 : Int)) rfl (by decide) c1) ?_
      refine am_e0 hi_226_29 ?_
      refine am_e18 hi_226_30 ?_
      refine am_e36 hi_226_34 (by decide) ?_
      exact ⟨1, rfl, hS, (by decide), (by show (1 : Int) = (1 : Int) ∨ ¬ k.toInt = -1; omega)⟩
    · refine am_e13f hi_226_8 (am_cF (m := k.toInt) (n := (15 : Int)) rfl (by decide) c1) ?_
      refine am_e1 (v := k) hi_226_11 rfl ?_
      refine am_e0 hi_226_12 ?_
      by_cases c2 : k.toInt = (13 : Int)
      · refine am_e13t hi_226_14 (am_cT (m := k.toInt) (n := (13 : Int)) rfl (by decide) c2) ?_
        refine am_e0 hi_226_29 ?_
        refine am_e18 hi_226_30 ?_
        refine am_e36 hi_226_34 (by decide) ?_
        exact ⟨1, rfl, hS, (by decide), (by show (1 : Int) = (1 : Int) ∨ ¬ k.toInt = -1; omega)⟩
      · refine am_e13f hi_226_14 (am_cF (m := k.toInt) (n := (13 : Int)) rfl (by decide) c2) ?_
        refine am_e1 (v := k) hi_226_17 rfl ?_
        refine am_e0 hi_226_18 ?_
        by_cases c3 : k.toInt = (14 : Int)
        · refine am_e13t hi_226_20 (am_cT (m := k.toInt) (n := (14 : Int)) rfl (by decide) c3) ?_
          refine am_e0 hi_226_29 ?_
          refine am_e18 hi_226_30 ?_
          refine am_e36 hi_226_34 (by decide) ?_
          exact ⟨1, rfl, hS, (by decide), (by show (1 : Int) = (1 : Int) ∨ ¬ k.toInt = -1; omega)⟩
        · refine am_e13f hi_226_20 (am_cF (m := k.toInt) (n := (14 : Int)) rfl (by decide) c3) ?_
          refine am_e1 (v := k) hi_226_23 rfl ?_
          refine am_e0 hi_226_24 ?_
          by_cases c4 : ¬ k.toInt = (30 : Int)
          · refine am_e13t hi_226_26 (am_cT (m := k.toInt) (n := (30 : Int)) rfl (by decide) c4) ?_
            refine am_e0 hi_226_33 ?_
            refine am_e36 hi_226_34 (by decide) ?_
            exact ⟨0, rfl, hS, (by decide), (by show (0 : Int) = (1 : Int) ∨ ¬ k.toInt = -1; omega)⟩
          · refine am_e13f hi_226_26 (am_cF (m := k.toInt) (n := (30 : Int)) rfl (by decide) c4) ?_
            refine am_e0 hi_226_29 ?_
            refine am_e18 hi_226_30 ?_
            refine am_e36 hi_226_34 (by decide) ?_
            exact ⟨1, rfl, hS, (by decide), (by show (1 : Int) = (1 : Int) ∨ ¬ k.toInt = -1; omega)⟩
