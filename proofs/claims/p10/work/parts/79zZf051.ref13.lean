/-! THE REFERENCE: names of a body (printed by wip/p2/ref13.py) -/
theorem lp_parameters {sc : Nat × (Nat → Int32)} {d : Nat} {S0 : am_S} {f : Nat → Int32} {g : Nat → Nat → Int32} {ff : Int32} {gs : List mg_E} {bc : List (List Nat)} {fl : List Nat} {fk : Int} {pj : List Nat}  (hR : RJ f g gs bc fl fk pj) (p0 : (0 : Int) ≤ (f 32).toInt) (p1 : (f 32).toInt ≤ (63 : Int)) (p2 : (f 53).toInt ≤ (4096 : Int)) (p3 : (0 : Int) ≤ (f 4).toInt) (p4 : (f 0).toInt ≤ (16384 : Int)) (p5 : (f 4).toInt ≤ (f 0).toInt) (p6 : (f 0).toInt ≤ (512 : Int)) (p7 : (0 : Int) ≤ (f 24).toInt) (p8 : (f 24).toInt ≤ (8000 : Int)) (p9 : (0 : Int) ≤ ff.toInt) (p10 : ff.toInt ≤ (4095 : Int)) (p11 : (0 : Int) ≤ (f 6).toInt) (p12 : (0 : Int) ≤ (f 8).toInt) : ∀ (N : Nat) (S : am_S) (m z a b l y : Int32) (gx : Nat → Nat → Int32), MS S0 S (upd (upd (upd (upd (upd f 4 z) 8 a) 9 b) 24 l) 31 y) gx → RJ (upd (upd (upd (upd (upd f 4 z) 8 a) 9 b) 24 l) 31 y) gx gs bc fl fk pj → (∀ j, j ∉ [25, 26, 27, 28, 29, 30, 55, 56, 58] → gx j = g j) → (0 : Int) ≤ m.toInt → m.toInt ≤ (1 : Int) → (f 4).toInt ≤ z.toInt → z.toInt ≤ (f 0).toInt → (f 24).toInt ≤ l.toInt → l.toInt + (f 4).toInt ≤ (f 24).toInt + z.toInt → (0 : Int) ≤ a.toInt → 2 * ((f 0).toInt - z.toInt) + m.toInt < (N : Int) → am_E (am_PP sc) (d + 2) 198 2 [some (.ref 39), some (.int ff), some (.int m)] [] S (am_N fun v S1 => (∃ z : Int32, ∃ a : Int32, ∃ b : Int32, ∃ l : Int32, ∃ y : Int32, ∃ g' : Nat → Nat → Int32, v = some (.int 1) ∧ MS S0 S1 (upd (upd (upd (upd (upd f 4 z) 8 a) 9 b) 24 l) 31 y) g' ∧ (RJ (upd (upd (upd (upd (upd f 4 z) 8 a) 9 b) 24 l) 31 y) g' gs bc fl fk pj) ∧ ((f 4).toInt ≤ z.toInt) ∧ (z.toInt ≤ (f 0).toInt) ∧ ((f 24).toInt ≤ l.toInt) ∧ (l.toInt + (f 4).toInt ≤ (f 24).toInt + z.toInt) ∧ (∀ j, j ∉ [25, 26, 27, 28, 29, 30, 55, 56, 58] → g' j = g j) ∧ ((0 : Int) ≤ a.toInt)) ∨ (∃ z : Int32, ∃ u : Int32, ∃ v_ : Int32, ∃ a : Int32, ∃ b : Int32, ∃ l : Int32, ∃ y : Int32, ∃ g' : Nat → Nat → Int32, v = some (.int 0) ∧ MS S0 S1 (upd (upd (upd (upd (upd (upd (upd (upd f 4 z) 6 u) 7 v_) 8 a) 9 b) 10 0) 24 l) 31 y) g' ∧ (RJ (upd (upd (upd (upd (upd (upd (upd (upd f 4 z) 6 u) 7 v_) 8 a) 9 b) 10 0) 24 l) 31 y) g' [] bc [] 0 []) ∧ ((f 4).toInt ≤ z.toInt) ∧ (z.toInt ≤ (f 0).toInt) ∧ ((f 24).toInt ≤ l.toInt) ∧ (l.toInt + (f 4).toInt ≤ (f 24).toInt + z.toInt) ∧ (∀ j, j ∉ [25, 26, 27, 28, 29, 30, 55, 56, 58] → g' j = g j) ∧ ((0 : Int) ≤ u.toInt) ∧ ((0 : Int) ≤ a.toInt))) := by
  intro N
  induction N with
  | zero =>
    intro S  m z a b l y gx  hS hRl hx i0 i1 i2 i3 i4 i5 i6 hN
    exfalso
    omega
  | succ N ih =>
    intro S  m z a b l y gx  hS hRl hx i0 i1 i2 i3 i4 i5 i6 hN
    refine am_e1 (v := m) hi_198_2 rfl ?_
    by_cases c0 : m.toInt = (0 : Int)
    · refine am_e12t hi_198_3 (am_cT (m := m.toInt) (n := (0 : Int)) rfl (by decide) c0) ?_
      refine am_e0 hi_198_124 ?_
      refine am_e36 hi_198_125 (by decide) ?_
      exact Or.inl ⟨z, a, b, l, y, _, rfl, hS, hRl, (by show (f 4).toInt ≤ z.toInt; omega), (by show z.toInt ≤ (f 0).toInt; omega), (by show (f 24).toInt ≤ l.toInt; omega), (by show l.toInt + (f 4).toInt ≤ (f 24).toInt + z.toInt; omega), hx, (by show (0 : Int) ≤ a.toInt; omega)⟩
    · refine am_e12f hi_198_3 (am_cF (m := m.toInt) (n := (0 : Int)) rfl (by decide) c0) ?_
      refine am_e2 (v := 39) hi_198_6 rfl ?_
      refine am_e32n (as := [.ref 39]) (la := [some (.ref 39)]) (rest := []) hi_198_7 (am_hd0 (M := 198) (by decide) 7) (Nat.le_of_ble_eq_true rfl) (Nat.le_of_ble_eq_true rfl) (show 1 ≤ am_P0.2.2.1 183 from by decide +kernel) rfl (am_recv_ok hS.fs) rfl rfl (ct_next (d := d) hS   (by show (0 : Int) ≤ z.toInt; omega) (by show (f 0).toInt ≤ (16384 : Int); omega)) ?_
      rintro v1 S2 (⟨r3, hv4, hS5, h6⟩)
      subst hv4
      have h6_ : z.toInt < (f 0).toInt ∨ r3.toInt = (-1 : Int) := h6
      show am_E _ _ _ _ [some (.ref 39), some (.int ff), some (.int m)] [.int r3] _ _
      refine am_e0 hi_198_10 ?_
      by_cases c8 : ¬ r3.toInt = (72 : Int)
      · refine am_e13t hi_198_12 (am_cT (m := r3.toInt) (n := (72 : Int)) rfl (by decide) c8) ?_
        refine am_e2 (v := 39) hi_198_34 rfl ?_
        refine am_e32n (as := [.ref 39]) (la := [some (.ref 39)]) (rest := []) hi_198_35 (am_hd0 (M := 198) (by decide) 35) (Nat.le_of_ble_eq_true rfl) (Nat.le_of_ble_eq_true rfl) (show 1 ≤ am_P0.2.2.1 183 from by decide +kernel) rfl (am_recv_ok hS5.fs) rfl rfl (ct_next (d := d) hS5   (by show (0 : Int) ≤ z.toInt; omega) (by show (f 0).toInt ≤ (16384 : Int); omega)) ?_
        rintro v9 S10 (⟨r11, hv12, hS13, h14⟩)
        subst hv12
        have h14_ : z.toInt < (f 0).toInt ∨ r11.toInt = (-1 : Int) := h14
        show am_E _ _ _ _ [some (.ref 39), some (.int ff), some (.int m)] [.int r11] _ _
        refine am_e0 hi_198_38 ?_
        by_cases c16 : r11.toInt = (1 : Int)
        · refine am_e13t hi_198_39 (am_cT (m := r11.toInt) (n := (1 : Int)) rfl (by decide) c16) ?_
          refine am_e2 (v := 39) hi_198_49 rfl ?_
          refine mm_20 (v := .ref 76) hS13 hi_198_50 rfl ?_
          refine am_e1 (v := ff) hi_198_53 rfl ?_
          refine am_e8 hi_198_54 ?_
          refine mm_25 hS13 ma_55 hi_198_55 (by decide) (by omega) (by omega) ?_
          show am_E _ _ _ _ [some (.ref 39), some (.int ff), some (.int m)] [.int (gx 55 ff.toNatClampNeg), .int ff, .ref 76] _ _
          refine am_e0 hi_198_56 ?_
          obtain ⟨z17, hz17⟩ : ∃ q__, am_bin 0 (gx 55 ff.toNatClampNeg) 1 = q__ := ⟨_, rfl⟩
          refine am_e10 (z := z17) hi_198_57 hz17 ?_
          refine mm_26 hS13 ma_55 hi_198_58 (by decide) (by omega) (by omega) (fun h => nomatch h) ?_
          intro S18 hS19
          refine am_e2 (v := 39) hi_198_59 rfl ?_
          refine am_e2 (v := 39) hi_198_60 rfl ?_
          refine mm_20 (v := .ref 41) hS19 hi_198_61 rfl ?_
          refine am_e2 (v := 39) hi_198_64 rfl ?_
          refine mm_20 (v := .int z) hS19 hi_198_65 rfl ?_
          refine mm_25 hS19 ma_2 hi_198_68 (by decide) (by omega) (by omega) ?_
          show am_E _ _ _ _ _ (.int (gx 2 z.toNatClampNeg) :: _) _ _
          rw [show gx 2 = g 2 from hx 2 (by decide)]
          show am_E _ _ _ _ [some (.ref 39), some (.int ff), some (.int m)] [.int (g 2 z.toNatClampNeg), .ref 39] _ _
          refine am_e0 hi_198_69 ?_
          refine am_e0 hi_198_70 ?_
          refine am_e2 (v := 39) hi_198_71 rfl ?_
          refine mm_20 (v := .int z) hS19 hi_198_72 rfl ?_
          refine am_e32n (as := [.ref 39, .int (g 2 z.toNatClampNeg), .int 0, .int 0, .int z]) (la := [some (.ref 39), some (.int (g 2 z.toNatClampNeg)), some (.int 0), some (.int 0), some (.int z), none]) (rest := []) hi_198_75 (am_hd0 (M := 198) (by decide) 75) (Nat.le_of_ble_eq_true rfl) (Nat.le_of_ble_eq_true rfl) (show 5 ≤ am_P0.2.2.1 196 from by decide +kernel) rfl (am_recv_ok hS19.fs) rfl rfl (ct_declare (d := d) hS19 hRl (by decide) (by decide)  (by show (0 : Int) ≤ (f 32).toInt; omega) (by show (f 32).toInt ≤ (63 : Int); omega) (by show (f 53).toInt ≤ (4096 : Int); omega) (by show (0 : Int) ≤ l.toInt; omega) (by show l.toInt ≤ (16383 : Int); omega) (by show (0 : Int) ≤ a.toInt; omega)) ?_
          rintro v20 S21 (⟨a22, b23, z24, y25, g'26, hv27, hS28, hR32, h29, h30, h31⟩)
          subst hv27
          have h29_ : z24.toInt = l.toInt + 1 := h29
          have h30_ : ∀ j, j ∉ [25, 26, 27, 28, 29, 30, 58] → g'26 j = (upg gx 55 ff.toNatClampNeg z17) j := h30
          have h31_ : (0 : Int) ≤ a22.toInt := h31
          replace hS28 : MS S0 S21 (upd (upd (upd (upd (upd f 4 z) 8 a22) 9 b23) 24 z24) 31 y25) g'26 := hS28
          have hR32_ : RJ (upd (upd (upd (upd (upd f 4 z) 8 a22) 9 b23) 24 z24) 31 y25) g'26 gs bc fl fk pj := hR32
          show am_E _ _ _ _ [some (.ref 39), some (.int ff), some (.int m)] [] _ _
          refine am_e2 (v := 39) hi_198_78 rfl ?_
          refine am_e7 hi_198_79 ?_
          refine mm_20 (v := .int z) hS28 hi_198_80 rfl ?_
          refine am_e0 hi_198_83 ?_
          obtain ⟨z33, hz33, tz33⟩ := am_addI (x := z) (y := 1) (m := z.toInt) (n := (1 : Int)) rfl (by decide) (by omega) (by omega)
          refine am_e10 (z := z33) hi_198_84 hz33 ?_
          refine mm_21 (v := z33) hS28 hi_198_85 rfl (Nat.le_of_ble_eq_true rfl) ms_4 ?_
          intro S34 hS35
          replace hS35 : MS S0 S34 (upd (upd (upd (upd (upd f 4 z33) 8 a22) 9 b23) 24 z24) 31 y25) g'26 := hS35
          have hR36 : RJ (upd (upd (upd (upd (upd f 4 z33) 8 a22) 9 b23) 24 z24) 31 y25) g'26 gs bc fl fk pj := RJ.at hR32_ (by show z.toInt ≤ z33.toInt; omega)
          refine am_e2 (v := 39) hi_198_88 rfl ?_
          refine am_e32n (as := [.ref 39]) (la := [some (.ref 39)]) (rest := []) hi_198_89 (am_hd0 (M := 198) (by decide) 89) (Nat.le_of_ble_eq_true rfl) (Nat.le_of_ble_eq_true rfl) (show 1 ≤ am_P0.2.2.1 183 from by decide +kernel) rfl (am_recv_ok hS35.fs) rfl rfl (ct_next (d := d) hS35   (by show (0 : Int) ≤ z33.toInt; omega) (by show (f 0).toInt ≤ (16384 : Int); omega)) ?_
          rintro v37 S38 (⟨r39, hv40, hS41, h42⟩)
          subst hv40
          have h42_ : z33.toInt < (f 0).toInt ∨ r39.toInt = (-1 : Int) := h42
          show am_E _ _ _ _ [some (.ref 39), some (.int ff), some (.int m)] [.int r39] _ _
          refine am_e0 hi_198_92 ?_
          by_cases c44 : ¬ r39.toInt = (69 : Int)
          · refine am_e13t hi_198_94 (am_cT (m := r39.toInt) (n := (69 : Int)) rfl (by decide) c44) ?_
            refine am_e0 hi_198_101 ?_
            refine am_e3 (ls' := [some (.ref 39), some (.int ff), some (.int 0)]) hi_198_102 (Nat.le_of_ble_eq_true rfl) rfl ?_
            refine am_e2 (v := 39) hi_198_103 rfl ?_
            refine am_e7 hi_198_104 ?_
            refine mm_20 (v := .int z33) hS41 hi_198_105 rfl ?_
            refine am_e1 (v := 0) hi_198_108 rfl ?_
            refine am_e12t hi_198_109 (by decide) ?_
            refine am_e0 hi_198_116 ?_
            obtain ⟨z45, hz45, tz45⟩ := am_addI (x := z33) (y := 0) (m := z33.toInt) (n := (0 : Int)) rfl (by decide) (by omega) (by omega)
            refine am_e10 (z := z45) hi_198_117 hz45 ?_
            refine mm_21 (v := z45) hS41 hi_198_118 rfl (Nat.le_of_ble_eq_true rfl) ms_4 ?_
            intro S46 hS47
            replace hS47 : MS S0 S46 (upd (upd (upd (upd (upd f 4 z45) 8 a22) 9 b23) 24 z24) 31 y25) g'26 := hS47
            have hR48 : RJ (upd (upd (upd (upd (upd f 4 z45) 8 a22) 9 b23) 24 z24) 31 y25) g'26 gs bc fl fk pj := RJ.at hR36 (by show z33.toInt ≤ z45.toInt; omega)
            refine am_e18 hi_198_121 ?_
            exact ih _ 0 z45 a22 b23 z24 y25 _ hS47 hR48 (fun j hj => ((show ∀ j, j ∉ [25, 26, 27, 28, 29, 30, 55, 56, 58] → g'26 j = (upg gx 55 ff.toNatClampNeg z17) j from fun j hj => h30_ j (fun q => hj (mem_sub (L := [25, 26, 27, 28, 29, 30, 58]) (L' := [25, 26, 27, 28, 29, 30, 55, 56, 58]) (by decide) q))) j hj).trans ((fun j hj => ((show ∀ j, j ∉ [25, 26, 27, 28, 29, 30, 55, 56, 58] → (upg gx 55 ff.toNatClampNeg z17) j = gx j from by intro j hj; simp only [List.mem_cons, List.not_mem_nil, or_false, not_or] at hj; simp only [upg, hj, if_false]) j hj).trans (hx j hj)) j hj)) (by show (0 : Int) ≤ (0 : Int); omega) (by show (0 : Int) ≤ (1 : Int); omega) (by show (f 4).toInt ≤ z45.toInt; omega) (by show z45.toInt ≤ (f 0).toInt; omega) (by show (f 24).toInt ≤ z24.toInt; omega) (by show z24.toInt + (f 4).toInt ≤ (f 24).toInt + z45.toInt; omega) (by show (0 : Int) ≤ a22.toInt; omega) (by show 2 * ((f 0).toInt - z45.toInt) + (0 : Int) < (N : Int); omega)
          · refine am_e13f hi_198_94 (am_cF (m := r39.toInt) (n := (69 : Int)) rfl (by decide) c44) ?_
            refine am_e0 hi_198_97 ?_
            refine am_e18 hi_198_98 ?_
            refine am_e3 (ls' := [some (.ref 39), some (.int ff), some (.int 1)]) hi_198_102 (Nat.le_of_ble_eq_true rfl) rfl ?_
            refine am_e2 (v := 39) hi_198_103 rfl ?_
            refine am_e7 hi_198_104 ?_
            refine mm_20 (v := .int z33) hS41 hi_198_105 rfl ?_
            refine am_e1 (v := 1) hi_198_108 rfl ?_
            refine am_e12f hi_198_109 (by decide) ?_
            refine am_e0 hi_198_112 ?_
            refine am_e18 hi_198_113 ?_
            obtain ⟨z49, hz49, tz49⟩ := am_addI (x := z33) (y := 1) (m := z33.toInt) (n := (1 : Int)) rfl (by decide) (by omega) (by omega)
            refine am_e10 (z := z49) hi_198_117 hz49 ?_
            refine mm_21 (v := z49) hS41 hi_198_118 rfl (Nat.le_of_ble_eq_true rfl) ms_4 ?_
            intro S50 hS51
            replace hS51 : MS S0 S50 (upd (upd (upd (upd (upd f 4 z49) 8 a22) 9 b23) 24 z24) 31 y25) g'26 := hS51
            have hR52 : RJ (upd (upd (upd (upd (upd f 4 z49) 8 a22) 9 b23) 24 z24) 31 y25) g'26 gs bc fl fk pj := RJ.at hR36 (by show z33.toInt ≤ z49.toInt; omega)
            refine am_e18 hi_198_121 ?_
            exact ih _ 1 z49 a22 b23 z24 y25 _ hS51 hR52 (fun j hj => ((show ∀ j, j ∉ [25, 26, 27, 28, 29, 30, 55, 56, 58] → g'26 j = (upg gx 55 ff.toNatClampNeg z17) j from fun j hj => h30_ j (fun q => hj (mem_sub (L := [25, 26, 27, 28, 29, 30, 58]) (L' := [25, 26, 27, 28, 29, 30, 55, 56, 58]) (by decide) q))) j hj).trans ((fun j hj => ((show ∀ j, j ∉ [25, 26, 27, 28, 29, 30, 55, 56, 58] → (upg gx 55 ff.toNatClampNeg z17) j = gx j from by intro j hj; simp only [List.mem_cons, List.not_mem_nil, or_false, not_or] at hj; simp only [upg, hj, if_false]) j hj).trans (hx j hj)) j hj)) (by show (0 : Int) ≤ (1 : Int); omega) (by show (1 : Int) ≤ (1 : Int); omega) (by show (f 4).toInt ≤ z49.toInt; omega) (by show z49.toInt ≤ (f 0).toInt; omega) (by show (f 24).toInt ≤ z24.toInt; omega) (by show z24.toInt + (f 4).toInt ≤ (f 24).toInt + z49.toInt; omega) (by show (0 : Int) ≤ a22.toInt; omega) (by show 2 * ((f 0).toInt - z49.toInt) + (1 : Int) < (N : Int); omega)
        · refine am_e13f hi_198_39 (am_cF (m := r11.toInt) (n := (1 : Int)) rfl (by decide) c16) ?_
          refine am_e2 (v := 39) hi_198_42 rfl ?_
          refine am_e0 hi_198_43 ?_
          refine am_e32n (as := [.ref 39, .int 7]) (la := [some (.ref 39), some (.int 7)]) (rest := []) hi_198_45 (am_hd0 (M := 198) (by decide) 45) (Nat.le_of_ble_eq_true rfl) (Nat.le_of_ble_eq_true rfl) (show 2 ≤ am_P0.2.2.1 194 from by decide +kernel) rfl (am_recv_ok hS13.fs) rfl rfl (ct_fail (d := (d + 1)) hS13   (by show (0 : Int) ≤ (7 : Int); omega) (by show (0 : Int) ≤ (f 6).toInt; omega)) ?_
          rintro v53 S54 (⟨a55, b56, hv57, hS58, h59⟩)
          subst hv57
          have h59_ : (0 : Int) ≤ a55.toInt := h59
          replace hS58 : MS S0 S54 (upd (upd (upd (upd (upd (upd (upd (upd f 4 z) 6 a55) 7 b56) 8 a) 9 b) 10 0) 24 l) 31 y) gx := hS58
          show am_E _ _ _ _ [some (.ref 39), some (.int ff), some (.int m)] [.int 0] _ _
          refine am_e36 hi_198_48 (by decide) ?_
          have hRc := rj_clear0 hRl
          exact Or.inr (⟨z, a55, b56, a, b, l, y, _, rfl, hS58, hRc, (by show (f 4).toInt ≤ z.toInt; omega), (by show z.toInt ≤ (f 0).toInt; omega), (by show (f 24).toInt ≤ l.toInt; omega), (by show l.toInt + (f 4).toInt ≤ (f 24).toInt + z.toInt; omega), hx, (by show (0 : Int) ≤ a55.toInt; omega), (by show (0 : Int) ≤ a.toInt; omega)⟩)
      · refine am_e13f hi_198_12 (am_cF (m := r3.toInt) (n := (72 : Int)) rfl (by decide) c8) ?_
        refine am_e2 (v := 39) hi_198_15 rfl ?_
        refine mm_20 (v := .ref 77) hS5 hi_198_16 rfl ?_
        refine am_e1 (v := ff) hi_198_19 rfl ?_
        refine am_e0 hi_198_20 ?_
        refine mm_26 hS5 ma_56 hi_198_21 (by decide) (by omega) (by omega) (fun h => nomatch h) ?_
        intro S61 hS62
        refine am_e2 (v := 39) hi_198_22 rfl ?_
        refine am_e7 hi_198_23 ?_
        refine mm_20 (v := .int z) hS62 hi_198_24 rfl ?_
        refine am_e0 hi_198_27 ?_
        obtain ⟨z63, hz63, tz63⟩ := am_addI (x := z) (y := 1) (m := z.toInt) (n := (1 : Int)) rfl (by decide) (by omega) (by omega)
        refine am_e10 (z := z63) hi_198_28 hz63 ?_
        refine mm_21 (v := z63) hS62 hi_198_29 rfl (Nat.le_of_ble_eq_true rfl) ms_4 ?_
        intro S64 hS65
        replace hS65 : MS S0 S64 (upd (upd (upd (upd (upd f 4 z63) 8 a) 9 b) 24 l) 31 y) (upg gx 56 ff.toNatClampNeg 1) := hS65
        have hR66 : RJ (upd (upd (upd (upd (upd f 4 z63) 8 a) 9 b) 24 l) 31 y) (upg gx 56 ff.toNatClampNeg 1) gs bc fl fk pj := RJ.at hRl (by show z.toInt ≤ z63.toInt; omega)
        refine am_e0 hi_198_32 ?_
        refine am_e36 hi_198_33 (by decide) ?_
        exact Or.inl ⟨z63, a, b, l, y, _, rfl, hS65, hR66, (by show (f 4).toInt ≤ z63.toInt; omega), (by show z63.toInt ≤ (f 0).toInt; omega), (by show (f 24).toInt ≤ l.toInt; omega), (by show l.toInt + (f 4).toInt ≤ (f 24).toInt + z63.toInt; omega), (fun j hj => ((show ∀ j, j ∉ [25, 26, 27, 28, 29, 30, 55, 56, 58] → (upg gx 56 ff.toNatClampNeg 1) j = gx j from by intro j hj; simp only [List.mem_cons, List.not_mem_nil, or_false, not_or] at hj; simp only [upg, hj, if_false]) j hj).trans (hx j hj)), (by show (0 : Int) ≤ a.toInt; omega)⟩
theorem ct_parameters {sc : Nat × (Nat → Int32)} {d : Nat} {S0 S : am_S} {f : Nat → Int32} {g : Nat → Nat → Int32} {ff : Int32} {gs : List mg_E} {bc : List (List Nat)} {fl : List Nat} {fk : Int} {pj : List Nat} (hS : MS S0 S f g) (hR : RJ f g gs bc fl fk pj) (p0 : (0 : Int) ≤ (f 32).toInt) (p1 : (f 32).toInt ≤ (63 : Int)) (p2 : (f 53).toInt ≤ (4096 : Int)) (p3 : (0 : Int) ≤ (f 4).toInt) (p4 : (f 0).toInt ≤ (16384 : Int)) (p5 : (f 4).toInt ≤ (f 0).toInt) (p6 : (f 0).toInt ≤ (512 : Int)) (p7 : (0 : Int) ≤ (f 24).toInt) (p8 : (f 24).toInt ≤ (8000 : Int)) (p9 : (0 : Int) ≤ ff.toInt) (p10 : ff.toInt ≤ (4095 : Int)) (p11 : (0 : Int) ≤ (f 6).toInt) (p12 : (0 : Int) ≤ (f 8).toInt) : am_E (am_PP sc) (d + 2) 198 0 [some (.ref 39), some (.int ff), none] [] S (am_N fun v S1 => (∃ z : Int32, ∃ a : Int32, ∃ b : Int32, ∃ l : Int32, ∃ y : Int32, ∃ g' : Nat → Nat → Int32, v = some (.int 1) ∧ MS S0 S1 (upd (upd (upd (upd (upd f 4 z) 8 a) 9 b) 24 l) 31 y) g' ∧ (RJ (upd (upd (upd (upd (upd f 4 z) 8 a) 9 b) 24 l) 31 y) g' gs bc fl fk pj) ∧ ((f 4).toInt ≤ z.toInt) ∧ (z.toInt ≤ (f 0).toInt) ∧ ((f 24).toInt ≤ l.toInt) ∧ (l.toInt + (f 4).toInt ≤ (f 24).toInt + z.toInt) ∧ (∀ j, j ∉ [25, 26, 27, 28, 29, 30, 55, 56, 58] → g' j = g j) ∧ ((0 : Int) ≤ a.toInt)) ∨ (∃ z : Int32, ∃ u : Int32, ∃ v_ : Int32, ∃ a : Int32, ∃ b : Int32, ∃ l : Int32, ∃ y : Int32, ∃ g' : Nat → Nat → Int32, v = some (.int 0) ∧ MS S0 S1 (upd (upd (upd (upd (upd (upd (upd (upd f 4 z) 6 u) 7 v_) 8 a) 9 b) 10 0) 24 l) 31 y) g' ∧ (RJ (upd (upd (upd (upd (upd (upd (upd (upd f 4 z) 6 u) 7 v_) 8 a) 9 b) 10 0) 24 l) 31 y) g' [] bc [] 0 []) ∧ ((f 4).toInt ≤ z.toInt) ∧ (z.toInt ≤ (f 0).toInt) ∧ ((f 24).toInt ≤ l.toInt) ∧ (l.toInt + (f 4).toInt ≤ (f 24).toInt + z.toInt) ∧ (∀ j, j ∉ [25, 26, 27, 28, 29, 30, 55, 56, 58] → g' j = g j) ∧ ((0 : Int) ≤ u.toInt) ∧ ((0 : Int) ≤ a.toInt))) := by
  refine am_e0 hi_198_0 ?_
  refine am_e3 (ls' := [some (.ref 39), some (.int ff), some (.int 1)]) hi_198_1 (Nat.le_of_ble_eq_true rfl) rfl ?_
  exact lp_parameters hR p0 p1 p2 p3 p4 p5 p6 p7 p8 p9 p10 p11 p12 ((2 * ((f 0).toInt - (f 4).toInt) + (1 : Int)).toNat + 1) _ 1 (f 4) (f 8) (f 9) (f 24) (f 31) _ hS hR (fun _ _ => rfl) (by show (0 : Int) ≤ (1 : Int); omega) (by show (1 : Int) ≤ (1 : Int); omega) (by show (f 4).toInt ≤ (f 4).toInt; omega) (by show (f 4).toInt ≤ (f 0).toInt; omega) (by show (f 24).toInt ≤ (f 24).toInt; omega) (by show (f 24).toInt + (f 4).toInt ≤ (f 24).toInt + (f 4).toInt; omega) (by show (0 : Int) ≤ (f 8).toInt; omega) (by show 2 * ((f 0).toInt - (f 4).toInt) + (1 : Int) < _; omega)
