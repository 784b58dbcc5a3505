/-! THE REFERENCE: gotos, breaks (printed by wip/p2/ref9.py) -/
theorem lp_isAtEnd {sc : Nat × (Nat → Int32)} {d : Nat} {S0 : am_S} {f : Nat → Int32} {g : Nat → Nat → Int32}  (p0 : (0 : Int) ≤ (f 4).toInt) (p1 : (f 0).toInt ≤ (16384 : Int)) (p2 : (f 4).toInt ≤ (f 0).toInt) : ∀ (N : Nat) (S : am_S) (x3 : Option Value) (q m : Int32), MS S0 S f g → (0 : Int) ≤ q.toInt → q.toInt ≤ (f 0).toInt → (0 : Int) ≤ m.toInt → m.toInt ≤ (1 : Int) → 2 * ((f 0).toInt - q.toInt) + m.toInt < (N : Int) → am_E (am_PP sc) (d + 1) 231 7 [some (.ref 39), some (.int q), some (.int m), x3] [] S (am_N fun v S1 => (∃ r : Int32, v = some (.int r) ∧ MS S0 S1 f g ∧ (r = 0 ∨ r = 1))) := by
  intro N
  induction N with
  | zero =>
    intro S x3 q m   hS   i0 i1 i2 i3 hN
    exfalso
    omega
  | succ N ih =>
    intro S x3 q m   hS   i0 i1 i2 i3 hN
    refine am_e1 (v := m) hi_231_7 rfl ?_
    by_cases c0 : m.toInt = (0 : Int)
    · refine am_e12t hi_231_8 (am_cT (m := m.toInt) (n := (0 : Int)) rfl (by decide) c0) ?_
      refine am_e2 (v := 39) hi_231_71 rfl ?_
      refine am_e1 (v := q) hi_231_72 rfl ?_
      refine am_e32n (as := [.ref 39, .int q]) (la := [some (.ref 39), some (.int q)]) (rest := []) hi_231_73 (am_hd0 (M := 231) (by decide) 73) (Nat.le_of_ble_eq_true rfl) (Nat.le_of_ble_eq_true rfl) (show 2 ≤ am_P0.2.2.1 184 from by decide +kernel) rfl (am_recv_ok hS.fs) rfl rfl (ct_kindAt (d := d) hS   (by show (0 : Int) ≤ q.toInt; omega) (by show (f 0).toInt ≤ (16384 : Int); omega)) ?_
      rintro v1 S2 (⟨r3, hv4, hS5, h6⟩)
      subst hv4
      have h6_ : q.toInt < (f 0).toInt ∨ r3.toInt = (-1 : Int) := h6
      show am_E _ _ _ _ [some (.ref 39), some (.int q), some (.int m), x3] [.int r3] _ _
      refine am_e3 (ls' := [some (.ref 39), some (.int q), some (.int m), some (.int r3)]) hi_231_76 (Nat.le_of_ble_eq_true rfl) rfl ?_
      refine am_e1 (v := r3) hi_231_77 rfl ?_
      refine am_e0 hi_231_78 ?_
      by_cases c8 : r3.toInt = (-1 : Int)
      · refine am_e13t hi_231_79 (am_cT (m := r3.toInt) (n := (-1 : Int)) rfl (by decide) c8) ?_
        refine am_e0 hi_231_100 ?_
        refine am_e18 hi_231_101 ?_
        refine am_e36 hi_231_105 (by decide) ?_
        exact ⟨1, rfl, hS5, (by decide)⟩
      · refine am_e13f hi_231_79 (am_cF (m := r3.toInt) (n := (-1 : Int)) rfl (by decide) c8) ?_
        refine am_e1 (v := r3) hi_231_82 rfl ?_
        refine am_e0 hi_231_83 ?_
        by_cases c9 : r3.toInt = (15 : Int)
        · refine am_e13t hi_231_85 (am_cT (m := r3.toInt) (n := (15 : Int)) rfl (by decide) c9) ?_
          refine am_e0 hi_231_100 ?_
          refine am_e18 hi_231_101 ?_
          refine am_e36 hi_231_105 (by decide) ?_
          exact ⟨1, rfl, hS5, (by decide)⟩
        · refine am_e13f hi_231_85 (am_cF (m := r3.toInt) (n := (15 : Int)) rfl (by decide) c9) ?_
          refine am_e1 (v := r3) hi_231_88 rfl ?_
          refine am_e0 hi_231_89 ?_
          by_cases c10 : r3.toInt = (13 : Int)
          · refine am_e13t hi_231_91 (am_cT (m := r3.toInt) (n := (13 : Int)) rfl (by decide) c10) ?_
            refine am_e0 hi_231_100 ?_
            refine am_e18 hi_231_101 ?_
            refine am_e36 hi_231_105 (by decide) ?_
            exact ⟨1, rfl, hS5, (by decide)⟩
          · refine am_e13f hi_231_91 (am_cF (m := r3.toInt) (n := (13 : Int)) rfl (by decide) c10) ?_
            refine am_e1 (v := r3) hi_231_94 rfl ?_
            refine am_e0 hi_231_95 ?_
            by_cases c11 : ¬ r3.toInt = (14 : Int)
            · refine am_e13t hi_231_97 (am_cT (m := r3.toInt) (n := (14 : Int)) rfl (by decide) c11) ?_
              refine am_e0 hi_231_104 ?_
              refine am_e36 hi_231_105 (by decide) ?_
              exact ⟨0, rfl, hS5, (by decide)⟩
            · refine am_e13f hi_231_97 (am_cF (m := r3.toInt) (n := (14 : Int)) rfl (by decide) c11) ?_
              refine am_e0 hi_231_100 ?_
              refine am_e18 hi_231_101 ?_
              refine am_e36 hi_231_105 (by decide) ?_
              exact ⟨1, rfl, hS5, (by decide)⟩
    · refine am_e12f hi_231_8 (am_cF (m := m.toInt) (n := (0 : Int)) rfl (by decide) c0) ?_
      refine am_e2 (v := 39) hi_231_11 rfl ?_
      refine am_e1 (v := q) hi_231_12 rfl ?_
      refine am_e32n (as := [.ref 39, .int q]) (la := [some (.ref 39), some (.int q)]) (rest := []) hi_231_13 (am_hd0 (M := 231) (by decide) 13) (Nat.le_of_ble_eq_true rfl) (Nat.le_of_ble_eq_true rfl) (show 2 ≤ am_P0.2.2.1 184 from by decide +kernel) rfl (am_recv_ok hS.fs) rfl rfl (ct_kindAt (d := d) hS   (by show (0 : Int) ≤ q.toInt; omega) (by show (f 0).toInt ≤ (16384 : Int); omega)) ?_
      rintro v12 S13 (⟨r14, hv15, hS16, h17⟩)
      subst hv15
      have h17_ : q.toInt < (f 0).toInt ∨ r14.toInt = (-1 : Int) := h17
      show am_E _ _ _ _ [some (.ref 39), some (.int q), some (.int m), x3] [.int r14] _ _
      refine am_e0 hi_231_16 ?_
      by_cases c19 : ¬ r14.toInt = (67 : Int)
      · refine am_e13t hi_231_18 (am_cT (m := r14.toInt) (n := (67 : Int)) rfl (by decide) c19) ?_
        refine am_e2 (v := 39) hi_231_27 rfl ?_
        refine am_e1 (v := q) hi_231_28 rfl ?_
        refine am_e32n (as := [.ref 39, .int q]) (la := [some (.ref 39), some (.int q)]) (rest := []) hi_231_29 (am_hd0 (M := 231) (by decide) 29) (Nat.le_of_ble_eq_true rfl) (Nat.le_of_ble_eq_true rfl) (show 2 ≤ am_P0.2.2.1 184 from by decide +kernel) rfl (am_recv_ok hS16.fs) rfl rfl (ct_kindAt (d := d) hS16   (by show (0 : Int) ≤ q.toInt; omega) (by show (f 0).toInt ≤ (16384 : Int); omega)) ?_
        rintro v20 S21 (⟨r22, hv23, hS24, h25⟩)
        subst hv23
        have h25_ : q.toInt < (f 0).toInt ∨ r22.toInt = (-1 : Int) := h25
        show am_E _ _ _ _ [some (.ref 39), some (.int q), some (.int m), x3] [.int r22] _ _
        refine am_e0 hi_231_32 ?_
        by_cases c27 : ¬ r22.toInt = (66 : Int)
        · refine am_e13t hi_231_34 (am_cT (m := r22.toInt) (n := (66 : Int)) rfl (by decide) c27) ?_
          refine am_e0 hi_231_66 ?_
          refine am_e3 (ls' := [some (.ref 39), some (.int q), some (.int 0), x3]) hi_231_67 (Nat.le_of_ble_eq_true rfl) rfl ?_
          refine am_e18 hi_231_68 ?_
          exact ih _ x3 q 0 hS24 (by show (0 : Int) ≤ q.toInt; omega) (by show q.toInt ≤ (f 0).toInt; omega) (by show (0 : Int) ≤ (0 : Int); omega) (by show (0 : Int) ≤ (1 : Int); omega) (by show 2 * ((f 0).toInt - q.toInt) + (0 : Int) < (N : Int); omega)
        · refine am_e13f hi_231_34 (am_cF (m := r22.toInt) (n := (66 : Int)) rfl (by decide) c27) ?_
          refine am_e2 (v := 39) hi_231_37 rfl ?_
          refine am_e1 (v := q) hi_231_38 rfl ?_
          refine am_e0 hi_231_39 ?_
          obtain ⟨z28, hz28, tz28⟩ := am_addI (x := q) (y := 1) (m := q.toInt) (n := (1 : Int)) rfl (by decide) (by omega) (by omega)
          refine am_e10 (z := z28) hi_231_40 hz28 ?_
          refine am_e32n (as := [.ref 39, .int z28]) (la := [some (.ref 39), some (.int z28)]) (rest := []) hi_231_41 (am_hd0 (M := 231) (by decide) 41) (Nat.le_of_ble_eq_true rfl) (Nat.le_of_ble_eq_true rfl) (show 2 ≤ am_P0.2.2.1 184 from by decide +kernel) rfl (am_recv_ok hS24.fs) rfl rfl (ct_kindAt (d := d) hS24   (by show (0 : Int) ≤ z28.toInt; omega) (by show (f 0).toInt ≤ (16384 : Int); omega)) ?_
          rintro v29 S30 (⟨r31, hv32, hS33, h34⟩)
          subst hv32
          have h34_ : z28.toInt < (f 0).toInt ∨ r31.toInt = (-1 : Int) := h34
          show am_E _ _ _ _ [some (.ref 39), some (.int q), some (.int m), x3] [.int r31] _ _
          refine am_e0 hi_231_44 ?_
          by_cases c36 : ¬ r31.toInt = (1 : Int)
          · refine am_e13t hi_231_45 (am_cT (m := r31.toInt) (n := (1 : Int)) rfl (by decide) c36) ?_
            refine am_e0 hi_231_66 ?_
            refine am_e3 (ls' := [some (.ref 39), some (.int q), some (.int 0), x3]) hi_231_67 (Nat.le_of_ble_eq_true rfl) rfl ?_
            refine am_e18 hi_231_68 ?_
            exact ih _ x3 q 0 hS33 (by show (0 : Int) ≤ q.toInt; omega) (by show q.toInt ≤ (f 0).toInt; omega) (by show (0 : Int) ≤ (0 : Int); omega) (by show (0 : Int) ≤ (1 : Int); omega) (by show 2 * ((f 0).toInt - q.toInt) + (0 : Int) < (N : Int); omega)
          · refine am_e13f hi_231_45 (am_cF (m := r31.toInt) (n := (1 : Int)) rfl (by decide) c36) ?_
            refine am_e2 (v := 39) hi_231_48 rfl ?_
            refine am_e1 (v := q) hi_231_49 rfl ?_
            refine am_e0 hi_231_50 ?_
            obtain ⟨z37, hz37, tz37⟩ := am_addI (x := q) (y := 2) (m := q.toInt) (n := (2 : Int)) rfl (by decide) (by omega) (by omega)
            refine am_e10 (z := z37) hi_231_51 hz37 ?_
            refine am_e32n (as := [.ref 39, .int z37]) (la := [some (.ref 39), some (.int z37)]) (rest := []) hi_231_52 (am_hd0 (M := 231) (by decide) 52) (Nat.le_of_ble_eq_true rfl) (Nat.le_of_ble_eq_true rfl) (show 2 ≤ am_P0.2.2.1 184 from by decide +kernel) rfl (am_recv_ok hS33.fs) rfl rfl (ct_kindAt (d := d) hS33   (by show (0 : Int) ≤ z37.toInt; omega) (by show (f 0).toInt ≤ (16384 : Int); omega)) ?_
            rintro v38 S39 (⟨r40, hv41, hS42, h43⟩)
            subst hv41
            have h43_ : z37.toInt < (f 0).toInt ∨ r40.toInt = (-1 : Int) := h43
            show am_E _ _ _ _ [some (.ref 39), some (.int q), some (.int m), x3] [.int r40] _ _
            refine am_e0 hi_231_55 ?_
            by_cases c45 : ¬ r40.toInt = (66 : Int)
            · refine am_e13t hi_231_57 (am_cT (m := r40.toInt) (n := (66 : Int)) rfl (by decide) c45) ?_
              refine am_e0 hi_231_66 ?_
              refine am_e3 (ls' := [some (.ref 39), some (.int q), some (.int 0), x3]) hi_231_67 (Nat.le_of_ble_eq_true rfl) rfl ?_
              refine am_e18 hi_231_68 ?_
              exact ih _ x3 q 0 hS42 (by show (0 : Int) ≤ q.toInt; omega) (by show q.toInt ≤ (f 0).toInt; omega) (by show (0 : Int) ≤ (0 : Int); omega) (by show (0 : Int) ≤ (1 : Int); omega) (by show 2 * ((f 0).toInt - q.toInt) + (0 : Int) < (N : Int); omega)
            · refine am_e13f hi_231_57 (am_cF (m := r40.toInt) (n := (66 : Int)) rfl (by decide) c45) ?_
              obtain ⟨z46, hz46, tz46⟩ := am_addI (x := q) (y := 3) (m := q.toInt) (n := (3 : Int)) rfl (by decide) (by omega) (by omega)
              refine am_e5 (v := q) (z := z46) (ls' := [some (.ref 39), some (.int z46), some (.int m), x3]) hi_231_60 rfl hz46 rfl ?_
              refine am_e18 hi_231_63 ?_
              exact ih _ x3 z46 m hS42 (by show (0 : Int) ≤ z46.toInt; omega) (by show z46.toInt ≤ (f 0).toInt; omega) (by show (0 : Int) ≤ m.toInt; omega) (by show m.toInt ≤ (1 : Int); omega) (by show 2 * ((f 0).toInt - z46.toInt) + m.toInt < (N : Int); omega)
      · refine am_e13f hi_231_18 (am_cF (m := r14.toInt) (n := (67 : Int)) rfl (by decide) c19) ?_
        obtain ⟨z47, hz47, tz47⟩ := am_addI (x := q) (y := 1) (m := q.toInt) (n := (1 : Int)) rfl (by decide) (by omega) (by omega)
        refine am_e5 (v := q) (z := z47) (ls' := [some (.ref 39), some (.int z47), some (.int m), x3]) hi_231_21 rfl hz47 rfl ?_
        refine am_e18 hi_231_24 ?_
        exact ih _ x3 z47 m hS16 (by show (0 : Int) ≤ z47.toInt; omega) (by show z47.toInt ≤ (f 0).toInt; omega) (by show (0 : Int) ≤ m.toInt; omega) (by show m.toInt ≤ (1 : Int); omega) (by show 2 * ((f 0).toInt - z47.toInt) + m.toInt < (N : Int); omega)
theorem ct_isAtEnd {sc : Nat × (Nat → Int32)} {d : Nat} {S0 S : am_S} {f : Nat → Int32} {g : Nat → Nat → Int32} (hS : MS S0 S f g) (p0 : (0 : Int) ≤ (f 4).toInt) (p1 : (f 0).toInt ≤ (16384 : Int)) (p2 : (f 4).toInt ≤ (f 0).toInt) : am_E (am_PP sc) (d + 1) 231 0 [some (.ref 39), none, none, none] [] S (am_N fun v S1 => (∃ r : Int32, v = some (.int r) ∧ MS S0 S1 f g ∧ (r = 0 ∨ r = 1))) := by
  refine am_e2 (v := 39) hi_231_0 rfl ?_
  refine mm_20 (v := .int (f 4)) hS hi_231_1 rfl ?_
  refine am_e3 (ls' := [some (.ref 39), some (.int (f 4)), none, none]) hi_231_4 (Nat.le_of_ble_eq_true rfl) rfl ?_
  refine am_e0 hi_231_5 ?_
  refine am_e3 (ls' := [some (.ref 39), some (.int (f 4)), some (.int 1), none]) hi_231_6 (Nat.le_of_ble_eq_true rfl) rfl ?_
  exact lp_isAtEnd p0 p1 p2 ((2 * ((f 0).toInt - (f 4).toInt) + (1 : Int)).toNat + 1) _ none (f 4) 1 hS (by show (0 : Int) ≤ (f 4).toInt; omega) (by show (f 4).toInt ≤ (f 0).toInt; omega) (by show (0 : Int) ≤ (1 : Int); omega) (by show (1 : Int) ≤ (1 : Int); omega) (by show 2 * ((f 0).toInt - (f 4).toInt) + (1 : Int) < _; omega)
theorem ct_go {sc : Nat × (Nat → Int32)} {d : Nat} {S0 S : am_S} {f : Nat → Int32} {g : Nat → Nat → Int32} {w : Int32} {nm : Int32} {gs : List mg_E} {bc : List (List Nat)} {fl : List Nat} {fk : Int} {pj : List Nat} (hS : MS S0 S f g) (hR : RJ f g gs bc fl fk pj) (p0 : (0 : Int) ≤ (f 32).toInt) (p1 : (f 32).toInt ≤ (63 : Int)) (p2 : (f 53).toInt ≤ (4096 : Int)) (p3 : (0 : Int) ≤ (f 68).toInt) (p4 : (f 68).toInt ≤ (65531 : Int)) (p5 : (0 : Int) ≤ (f 44).toInt) (p6 : (f 44).toInt ≤ (8192 : Int)) (p7 : (0 : Int) ≤ nm.toInt) (p8 : nm.toInt ≤ (16383 : Int)) (p9 : (0 : Int) ≤ (f 48).toInt) (p10 : (f 48).toInt < (f 4).toInt) (p11 : (f 4).toInt ≤ (8192 : Int)) : am_E (am_PP sc) (d + 1) 234 0 [some (.ref 39), some (.int w), some (.int nm), none, none] [] S (am_N fun v S1 => (∃ z : Int32, ∃ s : Int32, ∃ g' : Nat → Nat → Int32, v = none ∧ MS S0 S1 (upd (upd f 48 z) 68 s) g' ∧ (RJ (upd (upd f 48 z) 68 s) g' gs bc fl fk pj) ∧ ((f 48).toInt ≤ z.toInt) ∧ (z.toInt ≤ (f 48).toInt + 1) ∧ (s.toInt = (f 68).toInt + 3) ∧ (∀ j, j ∉ [49, 50, 51, 52, 60, 69, 70, 71, 72, 73] → g' j = g j))) := by
  refine am_e2 (v := 39) hi_234_0 rfl ?_
  refine am_e0 hi_234_1 ?_
  refine am_e0 hi_234_3 ?_
  refine am_e0 hi_234_4 ?_
  refine am_e1 (v := w) hi_234_5 rfl ?_
  refine am_e32n (as := [.ref 39, .int 34, .int 0, .int 0, .int w]) (la := [some (.ref 39), some (.int 34), some (.int 0), some (.int 0), some (.int w)]) (rest := []) hi_234_6 (am_hd0 (M := 234) (by decide) 6) (Nat.le_of_ble_eq_true rfl) (Nat.le_of_ble_eq_true rfl) (show 5 ≤ am_P0.2.2.1 189 from by decide +kernel) rfl (am_recv_ok hS.fs) rfl rfl (ct_put (d := d) hS hR  (by show (0 : Int) ≤ (f 32).toInt; omega) (by show (f 32).toInt ≤ (63 : Int); omega) (by show (f 53).toInt ≤ (4096 : Int); omega) (by show (0 : Int) ≤ (f 68).toInt; omega) (by show (f 68).toInt ≤ (65534 : Int); omega)) ?_
  rintro v0 S1 (⟨z2, r3, g'4, hv5, hS6, hR10, h7, h8, h9⟩)
  subst hv5
  have h7_ : z2.toInt = (f 68).toInt + 1 := h7
  have h8_ : r3.toInt = (f 68).toInt := h8
  have h9_ : ∀ j, j ∉ [60, 69, 70, 71, 72, 73] → g'4 j = g j := h9
  have hR10_ : RJ (upd f 68 z2) g'4 gs bc fl fk ((f 68).toNatClampNeg :: pj) := hR10
  show am_E _ _ _ _ [some (.ref 39), some (.int w), some (.int nm), none, none] [.int r3] _ _
  refine am_e6i hi_234_9 ?_
  refine am_e2 (v := 39) hi_234_10 rfl ?_
  refine am_e2 (v := 39) hi_234_11 rfl ?_
  refine mm_20 (v := .ref 41) hS6 hi_234_12 rfl ?_
  refine am_e1 (v := nm) hi_234_15 rfl ?_
  refine mm_25 hS6 ma_2 hi_234_16 (by decide) (by omega) (by omega) ?_
  show am_E _ _ _ _ _ (.int (g'4 2 nm.toNatClampNeg) :: _) _ _
  rw [show g'4 2 = g 2 from h9_ 2 (by decide)]
  show am_E _ _ _ _ [some (.ref 39), some (.int w), some (.int nm), none, none] [.int (g 2 nm.toNatClampNeg), .ref 39] _ _
  refine am_e32n (as := [.ref 39, .int (g 2 nm.toNatClampNeg)]) (la := [some (.ref 39), some (.int (g 2 nm.toNatClampNeg)), none]) (rest := []) hi_234_17 (am_hd0 (M := 234) (by decide) 17) (Nat.le_of_ble_eq_true rfl) (Nat.le_of_ble_eq_true rfl) (show 2 ≤ am_P0.2.2.1 230 from by decide +kernel) rfl (am_recv_ok hS6.fs) rfl rfl (ct_labelOf (d := d) hS6 hR10_  (by show (0 : Int) ≤ (f 32).toInt; omega) (by show (f 32).toInt ≤ (63 : Int); omega) (by show (0 : Int) ≤ (f 44).toInt; omega) (by show (f 44).toInt ≤ (8192 : Int); omega)) ?_
  rintro v11 S12 (⟨r13, hv14, hS15, h16, h17⟩)
  subst hv14
  have h16_ : (-1 : Int) ≤ r13.toInt := h16
  have h17_ : r13.toInt < (f 44).toInt := h17
  show am_E _ _ _ _ [some (.ref 39), some (.int w), some (.int nm), none, none] [.int r13] _ _
  refine am_e3 (ls' := [some (.ref 39), some (.int w), some (.int nm), some (.int r13), none]) hi_234_20 (Nat.le_of_ble_eq_true rfl) rfl ?_
  refine am_e2 (v := 39) hi_234_21 rfl ?_
  refine am_e0 hi_234_22 ?_
  refine am_e1 (v := r13) hi_234_24 rfl ?_
  by_cases c19 : (0 : Int) ≤ r13.toInt
  · refine am_e12t hi_234_25 (am_cT (m := r13.toInt) (n := (0 : Int)) rfl (by decide) c19) ?_
    refine am_e2 (v := 39) hi_234_32 rfl ?_
    refine mm_20 (v := .ref 70) hS15 hi_234_33 rfl ?_
    refine am_e1 (v := r13) hi_234_36 rfl ?_
    refine mm_25 hS15 ma_47 hi_234_37 (by decide) (by omega) (by omega) ?_
    show am_E _ _ _ _ _ (.int (g'4 47 r13.toNatClampNeg) :: _) _ _
    rw [show g'4 47 = g 47 from h9_ 47 (by decide)]
    show am_E _ _ _ _ [some (.ref 39), some (.int w), some (.int nm), some (.int r13), none] [.int (g 47 r13.toNatClampNeg), .int 33, .ref 39] _ _
    refine am_e0 hi_234_38 ?_
    refine am_e0 hi_234_39 ?_
    refine am_e32n (as := [.ref 39, .int 33, .int (g 47 r13.toNatClampNeg), .int 0, .int 0]) (la := [some (.ref 39), some (.int 33), some (.int (g 47 r13.toNatClampNeg)), some (.int 0), some (.int 0)]) (rest := []) hi_234_40 (am_hd0 (M := 234) (by decide) 40) (Nat.le_of_ble_eq_true rfl) (Nat.le_of_ble_eq_true rfl) (show 5 ≤ am_P0.2.2.1 189 from by decide +kernel) rfl (am_recv_ok hS15.fs) rfl rfl (ct_put (d := d) hS15 hR10_  (by show (0 : Int) ≤ (f 32).toInt; omega) (by show (f 32).toInt ≤ (63 : Int); omega) (by show (f 53).toInt ≤ (4096 : Int); omega) (by show (0 : Int) ≤ z2.toInt; omega) (by show z2.toInt ≤ (65534 : Int); omega)) ?_
    rintro v20 S21 (⟨z22, r23, g'24, hv25, hS26, hR30, h27, h28, h29⟩)
    subst hv25
    have h27_ : z22.toInt = z2.toInt + 1 := h27
    have h28_ : r23.toInt = z2.toInt := h28
    have h29_ : ∀ j, j ∉ [60, 69, 70, 71, 72, 73] → g'24 j = g'4 j := h29
    replace hS26 : MS S0 S21 (upd f 68 z22) g'24 := hS26
    have hR30_ : RJ (upd f 68 z22) g'24 gs bc fl fk (z2.toNatClampNeg :: ((f 68).toNatClampNeg :: pj)) := hR30
    show am_E _ _ _ _ [some (.ref 39), some (.int w), some (.int nm), some (.int r13), none] [.int r23] _ _
    refine am_e3 (ls' := [some (.ref 39), some (.int w), some (.int nm), some (.int r13), some (.int r23)]) hi_234_43 (Nat.le_of_ble_eq_true rfl) rfl ?_
    refine am_e2 (v := 39) hi_234_45 rfl ?_
    refine am_e0 hi_234_46 ?_
    refine am_e1 (v := r13) hi_234_48 rfl ?_
    refine am_e12t hi_234_49 (am_cT (m := r13.toInt) (n := (0 : Int)) rfl (by decide) (by simp only [am_cI]; omega)) ?_
    refine am_e2 (v := 39) hi_234_56 rfl ?_
    refine mm_20 (v := .ref 69) hS26 hi_234_57 rfl ?_
    refine am_e1 (v := r13) hi_234_60 rfl ?_
    refine mm_25 hS26 ma_46 hi_234_61 (by decide) (by omega) (by omega) ?_
    show am_E _ _ _ _ _ (.int (g'24 46 r13.toNatClampNeg) :: _) _ _
    rw [show g'24 46 = g'4 46 from h29_ 46 (by decide), show g'4 46 = g 46 from h9_ 46 (by decide)]
    show am_E _ _ _ _ [some (.ref 39), some (.int w), some (.int nm), some (.int r13), some (.int r23)] [.int (g 46 r13.toNatClampNeg), .int 36, .ref 39] _ _
    refine am_e0 hi_234_62 ?_
    refine am_e0 hi_234_63 ?_
    refine am_e32n (as := [.ref 39, .int 36, .int (g 46 r13.toNatClampNeg), .int 0, .int 0]) (la := [some (.ref 39), some (.int 36), some (.int (g 46 r13.toNatClampNeg)), some (.int 0), some (.int 0)]) (rest := []) hi_234_64 (am_hd0 (M := 234) (by decide) 64) (Nat.le_of_ble_eq_true rfl) (Nat.le_of_ble_eq_true rfl) (show 5 ≤ am_P0.2.2.1 189 from by decide +kernel) rfl (am_recv_ok hS26.fs) rfl rfl (ct_put (d := d) hS26 hR30_  (by show (0 : Int) ≤ (f 32).toInt; omega) (by show (f 32).toInt ≤ (63 : Int); omega) (by show (f 53).toInt ≤ (4096 : Int); omega) (by show (0 : Int) ≤ z22.toInt; omega) (by show z22.toInt ≤ (65534 : Int); omega)) ?_
    rintro v31 S32 (⟨z33, r34, g'35, hv36, hS37, hR41, h38, h39, h40⟩)
    subst hv36
    have h38_ : z33.toInt = z22.toInt + 1 := h38
    have h39_ : r34.toInt = z22.toInt := h39
    have h40_ : ∀ j, j ∉ [60, 69, 70, 71, 72, 73] → g'35 j = g'24 j := h40
    replace hS37 : MS S0 S32 (upd f 68 z33) g'35 := hS37
    have hR41_ : RJ (upd f 68 z33) g'35 gs bc fl fk (z22.toNatClampNeg :: (z2.toNatClampNeg :: ((f 68).toNatClampNeg :: pj))) := hR41
    show am_E _ _ _ _ [some (.ref 39), some (.int w), some (.int nm), some (.int r13), some (.int r23)] [.int r34] _ _
    refine am_e6i hi_234_67 ?_
    refine am_e1 (v := r13) hi_234_68 rfl ?_
    refine am_e12f hi_234_69 (am_cF (m := r13.toInt) (n := (0 : Int)) rfl (by decide) (by simp only [am_cI]; omega)) ?_
    refine am_e35 hi_234_72 ?_
    exact ⟨(f 48), z33, _, rfl, hS37, (RJ.fewer hR41_ (fun j hj => List.mem_cons_of_mem _ (List.mem_cons_of_mem _ (List.mem_cons_of_mem _ hj)))), (Int.le_refl _), (by show (f 48).toInt ≤ (f 48).toInt + 1; omega), (by show z33.toInt = (f 68).toInt + 3; omega), (fun j hj => ((show ∀ j, j ∉ [49, 50, 51, 52, 60, 69, 70, 71, 72, 73] → g'35 j = g'24 j from fun j hj => h40_ j (fun q => hj (mem_sub (L := [60, 69, 70, 71, 72, 73]) (L' := [49, 50, 51, 52, 60, 69, 70, 71, 72, 73]) (by decide) q))) j hj).trans ((fun j hj => ((show ∀ j, j ∉ [49, 50, 51, 52, 60, 69, 70, 71, 72, 73] → g'24 j = g'4 j from fun j hj => h29_ j (fun q => hj (mem_sub (L := [60, 69, 70, 71, 72, 73]) (L' := [49, 50, 51, 52, 60, 69, 70, 71, 72, 73]) (by decide) q))) j hj).trans ((show ∀ j, j ∉ [49, 50, 51, 52, 60, 69, 70, 71, 72, 73] → g'4 j = g j from fun j hj => h9_ j (fun q => hj (mem_sub (L := [60, 69, 70, 71, 72, 73]) (L' := [49, 50, 51, 52, 60, 69, 70, 71, 72, 73]) (by decide) q))) j hj)) j hj))⟩
  · refine am_e12f hi_234_25 (am_cF (m := r13.toInt) (n := (0 : Int)) rfl (by decide) c19) ?_
    refine am_e0 hi_234_28 ?_
    refine am_e18 hi_234_29 ?_
    refine am_e0 hi_234_38 ?_
    refine am_e0 hi_234_39 ?_
    refine am_e32n (as := [.ref 39, .int 33, .int 0, .int 0, .int 0]) (la := [some (.ref 39), some (.int 33), some (.int 0), some (.int 0), some (.int 0)]) (rest := []) hi_234_40 (am_hd0 (M := 234) (by decide) 40) (Nat.le_of_ble_eq_true rfl) (Nat.le_of_ble_eq_true rfl) (show 5 ≤ am_P0.2.2.1 189 from by decide +kernel) rfl (am_recv_ok hS15.fs) rfl rfl (ct_put (d := d) hS15 hR10_  (by show (0 : Int) ≤ (f 32).toInt; omega) (by show (f 32).toInt ≤ (63 : Int); omega) (by show (f 53).toInt ≤ (4096 : Int); omega) (by show (0 : Int) ≤ z2.toInt; omega) (by show z2.toInt ≤ (65534 : Int); omega)) ?_
    rintro v42 S43 (⟨z44, r45, g'46, hv47, hS48, hR52, h49, h50, h51⟩)
    subst hv47
    have h49_ : z44.toInt = z2.toInt + 1 := h49
    have h50_ : r45.toInt = z2.toInt := h50
    have h51_ : ∀ j, j ∉ [60, 69, 70, 71, 72, 73] → g'46 j = g'4 j := h51
    replace hS48 : MS S0 S43 (upd f 68 z44) g'46 := hS48
    have hR52_ : RJ (upd f 68 z44) g'46 gs bc fl fk (z2.toNatClampNeg :: ((f 68).toNatClampNeg :: pj)) := hR52
    show am_E _ _ _ _ [some (.ref 39), some (.int w), some (.int nm), some (.int r13), none] [.int r45] _ _
    refine am_e3 (ls' := [some (.ref 39), some (.int w), some (.int nm), some (.int r13), some (.int r45)]) hi_234_43 (Nat.le_of_ble_eq_true rfl) rfl ?_
    refine am_e2 (v := 39) hi_234_45 rfl ?_
    refine am_e0 hi_234_46 ?_
    refine am_e1 (v := r13) hi_234_48 rfl ?_
    refine am_e12f hi_234_49 (am_cF (m := r13.toInt) (n := (0 : Int)) rfl (by decide) (by simp only [am_cI]; omega)) ?_
    refine am_e0 hi_234_52 ?_
    refine am_e18 hi_234_53 ?_
    refine am_e0 hi_234_62 ?_
    refine am_e0 hi_234_63 ?_
    refine am_e32n (as := [.ref 39, .int 36, .int 0, .int 0, .int 0]) (la := [some (.ref 39), some (.int 36), some (.int 0), some (.int 0), some (.int 0)]) (rest := []) hi_234_64 (am_hd0 (M := 234) (by decide) 64) (Nat.le_of_ble_eq_true rfl) (Nat.le_of_ble_eq_true rfl) (show 5 ≤ am_P0.2.2.1 189 from by decide +kernel) rfl (am_recv_ok hS48.fs) rfl rfl (ct_put (d := d) hS48 hR52_  (by show (0 : Int) ≤ (f 32).toInt; omega) (by show (f 32).toInt ≤ (63 : Int); omega) (by show (f 53).toInt ≤ (4096 : Int); omega) (by show (0 : Int) ≤ z44.toInt; omega) (by show z44.toInt ≤ (65534 : Int); omega)) ?_
    rintro v53 S54 (⟨z55, r56, g'57, hv58, hS59, hR63, h60, h61, h62⟩)
    subst hv58
    have h60_ : z55.toInt = z44.toInt + 1 := h60
    have h61_ : r56.toInt = z44.toInt := h61
    have h62_ : ∀ j, j ∉ [60, 69, 70, 71, 72, 73] → g'57 j = g'46 j := h62
    replace hS59 : MS S0 S54 (upd f 68 z55) g'57 := hS59
    have hR63_ : RJ (upd f 68 z55) g'57 gs bc fl fk (z44.toNatClampNeg :: (z2.toNatClampNeg :: ((f 68).toNatClampNeg :: pj))) := hR63
    show am_E _ _ _ _ [some (.ref 39), some (.int w), some (.int nm), some (.int r13), some (.int r45)] [.int r56] _ _
    refine am_e6i hi_234_67 ?_
    refine am_e1 (v := r13) hi_234_68 rfl ?_
    refine am_e12t hi_234_69 (am_cT (m := r13.toInt) (n := (0 : Int)) rfl (by decide) (by simp only [am_cI]; omega)) ?_
    refine am_e2 (v := 39) hi_234_73 rfl ?_
    refine mm_20 (v := .ref 71) hS59 hi_234_74 rfl ?_
    refine am_e2 (v := 39) hi_234_77 rfl ?_
    refine mm_20 (v := .int (f 48)) hS59 hi_234_78 rfl ?_
    refine am_e2 (v := 39) hi_234_81 rfl ?_
    refine mm_20 (v := .ref 41) hS59 hi_234_82 rfl ?_
    refine am_e1 (v := nm) hi_234_85 rfl ?_
    refine mm_25 hS59 ma_2 hi_234_86 (by decide) (by omega) (by omega) ?_
    show am_E _ _ _ _ _ (.int (g'57 2 nm.toNatClampNeg) :: _) _ _
    rw [show g'57 2 = g'46 2 from h62_ 2 (by decide), show g'46 2 = g'4 2 from h51_ 2 (by decide), show g'4 2 = g 2 from h9_ 2 (by decide)]
    show am_E _ _ _ _ [some (.ref 39), some (.int w), some (.int nm), some (.int r13), some (.int r45)] [.int (g 2 nm.toNatClampNeg), .int (f 48), .ref 71] _ _
    refine mm_26 hS59 ma_49 hi_234_87 (by decide) (by omega) (by omega) (fun h => nomatch h) ?_
    intro S64 hS65
    refine am_e2 (v := 39) hi_234_88 rfl ?_
    refine mm_20 (v := .ref 72) hS65 hi_234_89 rfl ?_
    refine am_e2 (v := 39) hi_234_92 rfl ?_
    refine mm_20 (v := .int (f 48)) hS65 hi_234_93 rfl ?_
    refine am_e1 (v := w) hi_234_96 rfl ?_
    refine mm_26 hS65 ma_50 hi_234_97 (by decide) (by omega) (by omega) (fun h => nomatch h) ?_
    intro S66 hS67
    refine am_e2 (v := 39) hi_234_98 rfl ?_
    refine mm_20 (v := .ref 73) hS67 hi_234_99 rfl ?_
    refine am_e2 (v := 39) hi_234_102 rfl ?_
    refine mm_20 (v := .int (f 48)) hS67 hi_234_103 rfl ?_
    refine am_e1 (v := r45) hi_234_106 rfl ?_
    refine mm_26 hS67 ma_51 hi_234_108 (by decide) (by omega) (by omega) (fun h => nomatch h) ?_
    intro S68 hS69
    refine am_e2 (v := 39) hi_234_109 rfl ?_
    refine mm_20 (v := .ref 74) hS69 hi_234_110 rfl ?_
    refine am_e2 (v := 39) hi_234_113 rfl ?_
    refine mm_20 (v := .int (f 48)) hS69 hi_234_114 rfl ?_
    refine am_e2 (v := 39) hi_234_117 rfl ?_
    refine am_e32n (as := [.ref 39]) (la := [some (.ref 39)]) (rest := [.int (f 48), .ref 74]) hi_234_118 (am_hd0 (M := 234) (by decide) 118) (Nat.le_of_ble_eq_true rfl) (Nat.le_of_ble_eq_true rfl) (show 1 ≤ am_P0.2.2.1 197 from by decide +kernel) rfl (am_recv_ok hS69.fs) rfl rfl (ct_count (d := d) hS69   (by show (0 : Int) ≤ (f 32).toInt; omega) (by show (f 32).toInt ≤ (63 : Int); omega)) ?_
    rintro v70 S71 (⟨r72, hv73, hS74⟩)
    subst hv73
    show am_E _ _ _ _ [some (.ref 39), some (.int w), some (.int nm), some (.int r13), some (.int r45)] [.int r72, .int (f 48), .ref 74] _ _
    refine mm_26 hS74 ma_52 hi_234_121 (by decide) (by omega) (by omega) (fun h => nomatch h) ?_
    intro S76 hS77
    refine am_e2 (v := 39) hi_234_122 rfl ?_
    refine am_e7 hi_234_123 ?_
    refine mm_20 (v := .int (f 48)) hS77 hi_234_124 rfl ?_
    refine am_e0 hi_234_127 ?_
    obtain ⟨z78, hz78, tz78⟩ := am_addI (x := f 48) (y := 1) (m := (f 48).toInt) (n := (1 : Int)) rfl (by decide) (by omega) (by omega)
    refine am_e10 (z := z78) hi_234_128 hz78 ?_
    refine mm_21 (v := z78) hS77 hi_234_129 rfl (Nat.le_of_ble_eq_true rfl) ms_48 ?_
    intro S79 hS80
    replace hS80 : MS S0 S79 (upd (upd f 48 z78) 68 z55) (upg (upg (upg (upg g'57 49 (f 48).toNatClampNeg (g 2 nm.toNatClampNeg)) 50 (f 48).toNatClampNeg w) 51 (f 48).toNatClampNeg r45) 52 (f 48).toNatClampNeg r72) := hS80
    refine am_e35 hi_234_132 ?_
    exact ⟨z78, z55, _, rfl, hS80, (RJ.fewer (rj_goto (z := z78) hR63_ (by show 0 ≤ (f 48).toInt; omega) (by show z78.toInt = (f 48).toInt + 1; omega) (by show z78.toInt ≤ (f 4).toInt; omega) ⟨by omega, by omega⟩ (by rw [show r45.toInt.toNat = z2.toNatClampNeg from (by rw [cl_toNat]; omega)]; exact List.mem_cons_of_mem _ List.mem_cons_self) (by rw [show r45.toInt.toNat + 1 = z44.toNatClampNeg from (by rw [cl_toNat]; omega)]; exact List.mem_cons_self)) (fun j hj => List.mem_cons_of_mem _ (List.mem_cons_of_mem _ (List.mem_cons_of_mem _ hj)))), (by show (f 48).toInt ≤ z78.toInt; omega), (by show z78.toInt ≤ (f 48).toInt + 1; omega), (by show z55.toInt = (f 68).toInt + 3; omega), (fun j hj => ((show ∀ j, j ∉ [49, 50, 51, 52, 60, 69, 70, 71, 72, 73] → (upg (upg (upg (upg g'57 49 (f 48).toNatClampNeg (g 2 nm.toNatClampNeg)) 50 (f 48).toNatClampNeg w) 51 (f 48).toNatClampNeg r45) 52 (f 48).toNatClampNeg r72) j = g'57 j from by intro j hj; simp only [List.mem_cons, List.not_mem_nil, or_false, not_or] at hj; simp only [upg, hj, if_false]) j hj).trans ((fun j hj => ((show ∀ j, j ∉ [49, 50, 51, 52, 60, 69, 70, 71, 72, 73] → g'57 j = g'46 j from fun j hj => h62_ j (fun q => hj (mem_sub (L := [60, 69, 70, 71, 72, 73]) (L' := [49, 50, 51, 52, 60, 69, 70, 71, 72, 73]) (by decide) q))) j hj).trans ((fun j hj => ((show ∀ j, j ∉ [49, 50, 51, 52, 60, 69, 70, 71, 72, 73] → g'46 j = g'4 j from fun j hj => h51_ j (fun q => hj (mem_sub (L := [60, 69, 70, 71, 72, 73]) (L' := [49, 50, 51, 52, 60, 69, 70, 71, 72, 73]) (by decide) q))) j hj).trans ((show ∀ j, j ∉ [49, 50, 51, 52, 60, 69, 70, 71, 72, 73] → g'4 j = g j from fun j hj => h9_ j (fun q => hj (mem_sub (L := [60, 69, 70, 71, 72, 73]) (L' := [49, 50, 51, 52, 60, 69, 70, 71, 72, 73]) (by decide) q))) j hj)) j hj)) j hj))⟩
theorem lp_leaveLoop {sc : Nat × (Nat → Int32)} {d : Nat} {S0 : am_S} {f : Nat → Int32} {g : Nat → Nat → Int32} {w : Int32} {gs : List mg_E} {bc : List (List Nat)} {fl : List Nat} {fk : Int} {pj : List Nat}  (hR : RJ f g gs bc fl fk pj) (p0 : (0 : Int) ≤ (f 32).toInt) (p1 : (f 32).toInt ≤ (63 : Int)) (p2 : (f 53).toInt ≤ (4096 : Int)) (p3 : (0 : Int) ≤ (f 68).toInt) (p4 : (f 68).toInt ≤ (65532 : Int)) (p5 : (0 : Int) ≤ (f 37).toInt) (p6 : (f 37).toInt ≤ (128 : Int)) (p7 : (0 : Int) ≤ (f 8).toInt) : ∀ (N : Nat) (S : am_S) (bb : Int32), MS S0 S f g → (-1 : Int) ≤ bb.toInt → bb.toInt < (f 37).toInt → bb.toInt + 1 < (N : Int) → am_E (am_PP sc) (d + 1) 233 7 [some (.ref 39), some (.int w), some (.int bb)] [] S (am_N fun v S1 => (∃ a : Int32, ∃ b : Int32, ∃ s : Int32, ∃ g' : Nat → Nat → Int32, ∃ bc2 : List (List Nat), v = none ∧ MS S0 S1 (upd (upd (upd f 8 a) 9 b) 68 s) g' ∧ (RJ (upd (upd (upd f 8 a) 9 b) 68 s) g' gs bc2 fl fk pj) ∧ ((f 68).toInt ≤ s.toInt) ∧ (s.toInt ≤ (f 68).toInt + 2) ∧ (∀ j, j ∉ [43, 60, 69, 70, 71, 72, 73] → g' j = g j) ∧ (bc2.length = bc.length) ∧ ((0 : Int) ≤ a.toInt))) := by
  intro N
  induction N with
  | zero =>
    intro S  bb   hS   i0 i1 hN
    exfalso
    omega
  | succ N ih =>
    intro S  bb   hS   i0 i1 hN
    refine am_e1 (v := bb) hi_233_7 rfl ?_
    by_cases c0 : bb.toInt < (0 : Int)
    · refine am_e12t hi_233_8 (am_cT (m := bb.toInt) (n := (0 : Int)) rfl (by decide) c0) ?_
      refine am_e1 (v := bb) hi_233_39 rfl ?_
      refine am_e12t hi_233_40 (am_cT (m := bb.toInt) (n := (0 : Int)) rfl (by decide) (by simp only [am_cI]; omega)) ?_
      refine am_e2 (v := 39) hi_233_56 rfl ?_
      refine am_e0 hi_233_57 ?_
      refine am_e1 (v := w) hi_233_59 rfl ?_
      refine am_e32n (as := [.ref 39, .int 11, .int w]) (la := [some (.ref 39), some (.int 11), some (.int w)]) (rest := []) hi_233_60 (am_hd0 (M := 233) (by decide) 60) (Nat.le_of_ble_eq_true rfl) (Nat.le_of_ble_eq_true rfl) (show 3 ≤ am_P0.2.2.1 191 from by decide +kernel) rfl (am_recv_ok hS.fs) rfl rfl (ct_failName (d := d) hS   (by show (0 : Int) ≤ (11 : Int); omega) (by show (0 : Int) ≤ (f 8).toInt; omega)) ?_
      rintro v1 S2 (⟨a3, b4, hv5, hS6, h7⟩)
      subst hv5
      have h7_ : (0 : Int) ≤ a3.toInt := h7
      show am_E _ _ _ _ [some (.ref 39), some (.int w), some (.int bb)] [] _ _
      refine am_e35 hi_233_63 ?_
      exact ⟨a3, b4, (f 68), g, bc, rfl, hS6, hR, (Int.le_refl _), (by show (f 68).toInt ≤ (f 68).toInt + 2; omega), (fun _ _ => rfl), rfl, (by show (0 : Int) ≤ a3.toInt; omega)⟩
    · refine am_e12f hi_233_8 (am_cF (m := bb.toInt) (n := (0 : Int)) rfl (by decide) c0) ?_
      refine am_e2 (v := 39) hi_233_11 rfl ?_
      refine mm_20 (v := .ref 65) hS hi_233_12 rfl ?_
      refine am_e1 (v := bb) hi_233_15 rfl ?_
      refine mm_25 hS ma_41 hi_233_16 (by decide) (by omega) (by omega) ?_
      show am_E _ _ _ _ [some (.ref 39), some (.int w), some (.int bb)] [.int (g 41 bb.toNatClampNeg)] _ _
      refine am_e2 (v := 39) hi_233_17 rfl ?_
      refine mm_20 (v := .int (f 32)) hS hi_233_18 rfl ?_
      by_cases c9 : ¬ (g 41 bb.toNatClampNeg).toInt = (f 32).toInt
      · refine am_e13t hi_233_21 (am_cT (m := (g 41 bb.toNatClampNeg).toInt) (n := (f 32).toInt) rfl rfl c9) ?_
        refine am_e1 (v := bb) hi_233_39 rfl ?_
        refine am_e12f hi_233_40 (am_cF (m := bb.toInt) (n := (0 : Int)) rfl (by decide) (by simp only [am_cI]; omega)) ?_
        refine am_e2 (v := 39) hi_233_43 rfl ?_
        refine mm_20 (v := .ref 65) hS hi_233_44 rfl ?_
        refine am_e1 (v := bb) hi_233_47 rfl ?_
        refine mm_25 hS ma_41 hi_233_48 (by decide) (by omega) (by omega) ?_
        show am_E _ _ _ _ [some (.ref 39), some (.int w), some (.int bb)] [.int (g 41 bb.toNatClampNeg)] _ _
        refine am_e2 (v := 39) hi_233_49 rfl ?_
        refine mm_20 (v := .int (f 32)) hS hi_233_50 rfl ?_
        refine am_e13f hi_233_53 (am_cF (m := (g 41 bb.toNatClampNeg).toInt) (n := (f 32).toInt) rfl rfl (by simp only [am_cI]; omega)) ?_
        refine am_e2 (v := 39) hi_233_56 rfl ?_
        refine am_e0 hi_233_57 ?_
        refine am_e1 (v := w) hi_233_59 rfl ?_
        refine am_e32n (as := [.ref 39, .int 11, .int w]) (la := [some (.ref 39), some (.int 11), some (.int w)]) (rest := []) hi_233_60 (am_hd0 (M := 233) (by decide) 60) (Nat.le_of_ble_eq_true rfl) (Nat.le_of_ble_eq_true rfl) (show 3 ≤ am_P0.2.2.1 191 from by decide +kernel) rfl (am_recv_ok hS.fs) rfl rfl (ct_failName (d := d) hS   (by show (0 : Int) ≤ (11 : Int); omega) (by show (0 : Int) ≤ (f 8).toInt; omega)) ?_
        rintro v10 S11 (⟨a12, b13, hv14, hS15, h16⟩)
        subst hv14
        have h16_ : (0 : Int) ≤ a12.toInt := h16
        show am_E _ _ _ _ [some (.ref 39), some (.int w), some (.int bb)] [] _ _
        refine am_e35 hi_233_63 ?_
        exact ⟨a12, b13, (f 68), g, bc, rfl, hS15, hR, (Int.le_refl _), (by show (f 68).toInt ≤ (f 68).toInt + 2; omega), (fun _ _ => rfl), rfl, (by show (0 : Int) ≤ a12.toInt; omega)⟩
      · refine am_e13f hi_233_21 (am_cF (m := (g 41 bb.toNatClampNeg).toInt) (n := (f 32).toInt) rfl rfl c9) ?_
        refine am_e2 (v := 39) hi_233_24 rfl ?_
        refine mm_20 (v := .ref 66) hS hi_233_25 rfl ?_
        refine am_e1 (v := bb) hi_233_28 rfl ?_
        refine mm_25 hS ma_42 hi_233_29 (by decide) (by omega) (by omega) ?_
        show am_E _ _ _ _ [some (.ref 39), some (.int w), some (.int bb)] [.int (g 42 bb.toNatClampNeg)] _ _
        by_cases c18 : ¬ (g 42 bb.toNatClampNeg).toInt = (0 : Int)
        · refine am_e12t hi_233_30 (am_cT (m := (g 42 bb.toNatClampNeg).toInt) (n := (0 : Int)) rfl (by decide) c18) ?_
          refine am_e1 (v := bb) hi_233_39 rfl ?_
          refine am_e12f hi_233_40 (am_cF (m := bb.toInt) (n := (0 : Int)) rfl (by decide) (by simp only [am_cI]; omega)) ?_
          refine am_e2 (v := 39) hi_233_43 rfl ?_
          refine mm_20 (v := .ref 65) hS hi_233_44 rfl ?_
          refine am_e1 (v := bb) hi_233_47 rfl ?_
          refine mm_25 hS ma_41 hi_233_48 (by decide) (by omega) (by omega) ?_
          show am_E _ _ _ _ [some (.ref 39), some (.int w), some (.int bb)] [.int (g 41 bb.toNatClampNeg)] _ _
          refine am_e2 (v := 39) hi_233_49 rfl ?_
          refine mm_20 (v := .int (f 32)) hS hi_233_50 rfl ?_
          refine am_e13t hi_233_53 (am_cT (m := (g 41 bb.toNatClampNeg).toInt) (n := (f 32).toInt) rfl rfl (by simp only [am_cI]; omega)) ?_
          refine am_e2 (v := 39) hi_233_64 rfl ?_
          refine mm_20 (v := .int (f 24)) hS hi_233_65 rfl ?_
          refine am_e2 (v := 39) hi_233_68 rfl ?_
          refine mm_20 (v := .ref 62) hS hi_233_69 rfl ?_
          refine am_e1 (v := bb) hi_233_72 rfl ?_
          refine mm_25 hS ma_38 hi_233_73 (by decide) (by omega) (by omega) ?_
          show am_E _ _ _ _ [some (.ref 39), some (.int w), some (.int bb)] [.int (g 38 bb.toNatClampNeg), .int (f 24)] _ _
          have r19 : 0 ≤ (g 38 bb.toNatClampNeg).toInt ∧ (g 38 bb.toNatClampNeg).toInt ≤ (f 24).toInt := RJ.bl (i := bb) hR (by omega) (by show bb.toInt < (f 37).toInt; omega)
          by_cases c20 : (f 24).toInt ≤ (g 38 bb.toNatClampNeg).toInt
          · refine am_e13t hi_233_74 (am_cT (m := (f 24).toInt) (n := (g 38 bb.toNatClampNeg).toInt) rfl rfl c20) ?_
            refine am_e2 (v := 39) hi_233_102 rfl ?_
            refine mm_20 (v := .ref 67) hS hi_233_103 rfl ?_
            refine am_e1 (v := bb) hi_233_106 rfl ?_
            refine am_e2 (v := 39) hi_233_107 rfl ?_
            refine am_e0 hi_233_108 ?_
            refine am_e2 (v := 39) hi_233_110 rfl ?_
            refine mm_20 (v := .ref 67) hS hi_233_111 rfl ?_
            refine am_e1 (v := bb) hi_233_114 rfl ?_
            refine mm_25 hS ma_43 hi_233_115 (by decide) (by omega) (by omega) ?_
            show am_E _ _ _ _ [some (.ref 39), some (.int w), some (.int bb)] [.int (g 43 bb.toNatClampNeg), .int 36, .ref 39, .int bb, .ref 67] _ _
            refine am_e0 hi_233_116 ?_
            refine am_e0 hi_233_117 ?_
            refine am_e32w (as := [.ref 39, .int 36, .int (g 43 bb.toNatClampNeg), .int 0, .int 0]) (la := [some (.ref 39), some (.int 36), some (.int (g 43 bb.toNatClampNeg)), some (.int 0), some (.int 0)]) (rest := [.int bb, .ref 67]) hi_233_118 (am_hd0 (M := 233) (by decide) 118) (Nat.le_of_ble_eq_true rfl) (Nat.le_of_ble_eq_true rfl) (show 5 ≤ am_P0.2.2.1 189 from by decide +kernel) rfl (am_recv_ok hS.fs) rfl rfl ?_
            refine am_e2 (v := 39) hi_189_0 rfl ?_
            refine mm_20 (v := .int (f 68)) hS hi_189_1 rfl ?_
            refine am_e0 hi_189_4 ?_
            refine am_e13f hi_189_6 (am_cF (m := (f 68).toInt) (n := (65536 : Int)) rfl (by decide) (by simp only [am_cI]; omega)) ?_
            refine am_e2 (v := 39) hi_189_9 rfl ?_
            refine mm_20 (v := .ref 88) hS hi_189_10 rfl ?_
            refine am_e2 (v := 39) hi_189_13 rfl ?_
            refine mm_20 (v := .int (f 68)) hS hi_189_14 rfl ?_
            refine am_e2 (v := 39) hi_189_17 rfl ?_
            refine mm_20 (v := .ref 58) hS hi_189_18 rfl ?_
            refine am_e2 (v := 39) hi_189_21 rfl ?_
            refine mm_20 (v := .int (f 32)) hS hi_189_22 rfl ?_
            refine mm_25 hS ma_33 hi_189_25 (by decide) (by omega) (by omega) ?_
            show am_E _ _ _ _ [some (.ref 39), some (.int 36), some (.int (g 43 bb.toNatClampNeg)), some (.int 0), some (.int 0)] [.int (g 33 (f 32).toNatClampNeg), .int (f 68), .ref 88] _ _
            have r21 : 0 ≤ (g 33 (f 32).toNatClampNeg).toInt ∧ (g 33 (f 32).toNatClampNeg).toInt < (f 53).toInt := RJ.fn (i := f 32) hR (by omega) (by show (f 32).toInt ≤ (f 32).toInt; omega)
            refine mm_26 hS ma_69 hi_189_26 (by decide) (by omega) (by omega) (fun h => nomatch h) ?_
            intro S22 hS23
            refine am_e2 (v := 39) hi_189_27 rfl ?_
            refine mm_20 (v := .ref 89) hS23 hi_189_28 rfl ?_
            refine am_e2 (v := 39) hi_189_31 rfl ?_
            refine mm_20 (v := .int (f 68)) hS23 hi_189_32 rfl ?_
            refine am_e1 (v := 36) hi_189_35 rfl ?_
            refine mm_26 hS23 ma_70 hi_189_36 (by decide) (by omega) (by omega) (fun h => nomatch h) ?_
            intro S24 hS25
            refine am_e2 (v := 39) hi_189_37 rfl ?_
            refine mm_20 (v := .ref 90) hS25 hi_189_38 rfl ?_
            refine am_e2 (v := 39) hi_189_41 rfl ?_
            refine mm_20 (v := .int (f 68)) hS25 hi_189_42 rfl ?_
            refine am_e1 (v := g 43 bb.toNatClampNeg) hi_189_45 rfl ?_
            refine mm_26 hS25 ma_71 hi_189_46 (by decide) (by omega) (by omega) (fun h => nomatch h) ?_
            intro S26 hS27
            refine am_e2 (v := 39) hi_189_47 rfl ?_
            refine mm_20 (v := .ref 91) hS27 hi_189_48 rfl ?_
            refine am_e2 (v := 39) hi_189_51 rfl ?_
            refine mm_20 (v := .int (f 68)) hS27 hi_189_52 rfl ?_
            refine am_e1 (v := 0) hi_189_55 rfl ?_
            refine mm_26 hS27 ma_72 hi_189_56 (by decide) (by omega) (by omega) (fun h => nomatch h) ?_
            intro S28 hS29
            refine am_e2 (v := 39) hi_189_57 rfl ?_
            refine mm_20 (v := .ref 92) hS29 hi_189_58 rfl ?_
            refine am_e2 (v := 39) hi_189_61 rfl ?_
            refine mm_20 (v := .int (f 68)) hS29 hi_189_62 rfl ?_
            refine am_e1 (v := 0) hi_189_65 rfl ?_
            refine mm_26 hS29 ma_73 hi_189_67 (by decide) (by omega) (by omega) (fun h => nomatch h) ?_
            intro S30 hS31
            refine am_e2 (v := 39) hi_189_68 rfl ?_
            refine am_e7 hi_189_69 ?_
            refine mm_20 (v := .int (f 68)) hS31 hi_189_70 rfl ?_
            refine am_e0 hi_189_73 ?_
            obtain ⟨z32, hz32, tz32⟩ := am_addI (x := f 68) (y := 1) (m := (f 68).toInt) (n := (1 : Int)) rfl (by decide) (by omega) (by omega)
            refine am_e10 (z := z32) hi_189_74 hz32 ?_
            refine mm_21 (v := z32) hS31 hi_189_75 rfl (Nat.le_of_ble_eq_true rfl) ms_68 ?_
            intro S33 hS34
            refine am_e2 (v := 39) hi_189_78 rfl ?_
            refine mm_20 (v := .ref 81) hS34 hi_189_79 rfl ?_
            refine am_e2 (v := 39) hi_189_82 rfl ?_
            refine mm_20 (v := .ref 58) hS34 hi_189_83 rfl ?_
            refine am_e2 (v := 39) hi_189_86 rfl ?_
            refine mm_20 (v := .int (f 32)) hS34 hi_189_87 rfl ?_
            refine mm_25 hS34 ma_33 hi_189_90 (by decide) (by omega) (by omega) ?_
            show am_E _ _ _ _ [some (.ref 39), some (.int 36), some (.int (g 43 bb.toNatClampNeg)), some (.int 0), some (.int 0)] [.int (g 33 (f 32).toNatClampNeg), .ref 81] _ _
            have r35 : 0 ≤ (g 33 (f 32).toNatClampNeg).toInt ∧ (g 33 (f 32).toNatClampNeg).toInt < (f 53).toInt := RJ.fn (i := f 32) hR (by omega) (by show (f 32).toInt ≤ (f 32).toInt; omega)
            refine am_e8 hi_189_91 ?_
            refine mm_25 hS34 ma_60 hi_189_92 (by decide) (by omega) (by omega) ?_
            show am_E _ _ _ _ [some (.ref 39), some (.int 36), some (.int (g 43 bb.toNatClampNeg)), some (.int 0), some (.int 0)] [.int (g 60 (g 33 (f 32).toNatClampNeg).toNatClampNeg), .int (g 33 (f 32).toNatClampNeg), .ref 81] _ _
            have r36 : 0 ≤ (g 60 (g 33 (f 32).toNatClampNeg).toNatClampNeg).toInt ∧ (g 60 (g 33 (f 32).toNatClampNeg).toNatClampNeg).toInt ≤ (f 68).toInt := RJ.codes (i := g 33 (f 32).toNatClampNeg) hR (by show 0 ≤ (f 68).toInt; omega) (by omega) (by show (g 33 (f 32).toNatClampNeg).toInt < (f 53).toInt; omega)
            refine am_e0 hi_189_93 ?_
            obtain ⟨z37, hz37, tz37⟩ := am_addI (x := g 60 (g 33 (f 32).toNatClampNeg).toNatClampNeg) (y := 1) (m := (g 60 (g 33 (f 32).toNatClampNeg).toNatClampNeg).toInt) (n := (1 : Int)) rfl (by decide) (by omega) (by omega)
            refine am_e10 (z := z37) hi_189_94 hz37 ?_
            refine mm_26 hS34 ma_60 hi_189_95 (by decide) (by omega) (by omega) (fun h => nomatch h) ?_
            intro S38 hS39
            refine am_e2 (v := 39) hi_189_96 rfl ?_
            refine mm_20 (v := .int z32) hS39 hi_189_97 rfl ?_
            refine am_e0 hi_189_100 ?_
            obtain ⟨z40, hz40, tz40⟩ := am_subI (x := z32) (y := 1) (m := z32.toInt) (n := (1 : Int)) rfl (by decide) (by omega) (by omega)
            refine am_e10 (z := z40) hi_189_101 hz40 ?_
            refine am_e33 hi_189_102 ?_
            show am_E _ _ _ _ [some (.ref 39), some (.int w), some (.int bb)] [.int z40, .int bb, .ref 67] _ _
            refine am_e0 hi_233_121 ?_
            obtain ⟨z41, hz41, tz41⟩ := am_addI (x := z40) (y := 1) (m := z40.toInt) (n := (1 : Int)) rfl (by decide) (by omega) (by omega)
            refine am_e10 (z := z41) hi_233_122 hz41 ?_
            refine mm_26 hS39 ma_43 hi_233_123 (by decide) (by omega) (by omega) (fun h => nomatch h) ?_
            intro S42 hS43
            refine am_e35 hi_233_124 ?_
            obtain ⟨c0, hc0⟩ : ∃ c0, bc.reverse[bb.toNatClampNeg]? = some c0 := ⟨_, List.getElem?_eq_getElem (by rw [List.length_reverse]; have := hR.2.2.2.2.1.1; rw [cl_toNat]; omega)⟩
            exact ⟨(f 8), (f 9), z32, _, _, rfl, hS43, (rj_putb (k := bb.toNatClampNeg) (c := c0) (v := z41) hR hc0 rfl (by show 0 ≤ (f 68).toInt; omega) (by show _ = (f 68).toInt + 1; omega) (by show _ = (f 68).toInt + 1; omega) (show 0 ≤ (g 33 (f 32).toNatClampNeg).toInt ∧ (g 33 (f 32).toNatClampNeg).toInt < (f 53).toInt from ⟨by omega, by omega⟩) (by show z37.toInt = (g 60 (g 33 (f 32).toNatClampNeg).toNatClampNeg).toInt + 1; omega) rfl), (by show (f 68).toInt ≤ z32.toInt; omega), (by show z32.toInt ≤ (f 68).toInt + 2; omega), (show ∀ j, j ∉ [43, 60, 69, 70, 71, 72, 73] → (upg (upg (upg (upg (upg (upg (upg g 69 (f 68).toNatClampNeg (g 33 (f 32).toNatClampNeg)) 70 (f 68).toNatClampNeg 36) 71 (f 68).toNatClampNeg (g 43 bb.toNatClampNeg)) 72 (f 68).toNatClampNeg 0) 73 (f 68).toNatClampNeg 0) 60 (g 33 (f 32).toNatClampNeg).toNatClampNeg z37) 43 bb.toNatClampNeg z41) j = g j from by intro j hj; simp only [List.mem_cons, List.not_mem_nil, or_false, not_or] at hj; simp only [upg, hj, if_false]), (by simp), (by show (0 : Int) ≤ ((f 8)).toInt; omega)⟩
          · refine am_e13f hi_233_74 (am_cF (m := (f 24).toInt) (n := (g 38 bb.toNatClampNeg).toInt) rfl rfl c20) ?_
            refine am_e2 (v := 39) hi_233_77 rfl ?_
            refine am_e0 hi_233_78 ?_
            refine am_e2 (v := 39) hi_233_80 rfl ?_
            refine mm_20 (v := .ref 62) hS hi_233_81 rfl ?_
            refine am_e1 (v := bb) hi_233_84 rfl ?_
            refine mm_25 hS ma_38 hi_233_85 (by decide) (by omega) (by omega) ?_
            show am_E _ _ _ _ [some (.ref 39), some (.int w), some (.int bb)] [.int (g 38 bb.toNatClampNeg), .int 33, .ref 39] _ _
            have r44 : 0 ≤ (g 38 bb.toNatClampNeg).toInt ∧ (g 38 bb.toNatClampNeg).toInt ≤ (f 24).toInt := RJ.bl (i := bb) hR (by omega) (by show bb.toInt < (f 37).toInt; omega)
            refine am_e2 (v := 39) hi_233_86 rfl ?_
            refine mm_20 (v := .ref 59) hS hi_233_87 rfl ?_
            refine am_e2 (v := 39) hi_233_90 rfl ?_
            refine mm_20 (v := .int (f 32)) hS hi_233_91 rfl ?_
            refine mm_25 hS ma_34 hi_233_94 (by decide) (by omega) (by omega) ?_
            show am_E _ _ _ _ [some (.ref 39), some (.int w), some (.int bb)] [.int (g 34 (f 32).toNatClampNeg), .int (g 38 bb.toNatClampNeg), .int 33, .ref 39] _ _
            have r45 : 0 ≤ (g 34 (f 32).toNatClampNeg).toInt := RJ.ba hR (f 32).toNatClampNeg
            obtain ⟨z46, hz46⟩ : ∃ q__, am_bin 1 (g 38 bb.toNatClampNeg) (g 34 (f 32).toNatClampNeg) = q__ := ⟨_, rfl⟩
            refine am_e10 (z := z46) hi_233_95 hz46 ?_
            refine am_e0 hi_233_96 ?_
            refine am_e0 hi_233_97 ?_
            refine am_e32n (as := [.ref 39, .int 33, .int z46, .int 0, .int 0]) (la := [some (.ref 39), some (.int 33), some (.int z46), some (.int 0), some (.int 0)]) (rest := []) hi_233_98 (am_hd0 (M := 233) (by decide) 98) (Nat.le_of_ble_eq_true rfl) (Nat.le_of_ble_eq_true rfl) (show 5 ≤ am_P0.2.2.1 189 from by decide +kernel) rfl (am_recv_ok hS.fs) rfl rfl (ct_put (d := d) hS hR  (by show (0 : Int) ≤ (f 32).toInt; omega) (by show (f 32).toInt ≤ (63 : Int); omega) (by show (f 53).toInt ≤ (4096 : Int); omega) (by show (0 : Int) ≤ (f 68).toInt; omega) (by show (f 68).toInt ≤ (65534 : Int); omega)) ?_
            rintro v47 S48 (⟨z49, r50, g'51, hv52, hS53, hR57, h54, h55, h56⟩)
            subst hv52
            have h54_ : z49.toInt = (f 68).toInt + 1 := h54
            have h55_ : r50.toInt = (f 68).toInt := h55
            have h56_ : ∀ j, j ∉ [60, 69, 70, 71, 72, 73] → g'51 j = g j := h56
            have hR57_ : RJ (upd f 68 z49) g'51 gs bc fl fk ((f 68).toNatClampNeg :: pj) := hR57
            show am_E _ _ _ _ [some (.ref 39), some (.int w), some (.int bb)] [.int r50] _ _
            refine am_e6i hi_233_101 ?_
            refine am_e2 (v := 39) hi_233_102 rfl ?_
            refine mm_20 (v := .ref 67) hS53 hi_233_103 rfl ?_
            refine am_e1 (v := bb) hi_233_106 rfl ?_
            refine am_e2 (v := 39) hi_233_107 rfl ?_
            refine am_e0 hi_233_108 ?_
            refine am_e2 (v := 39) hi_233_110 rfl ?_
            refine mm_20 (v := .ref 67) hS53 hi_233_111 rfl ?_
            refine am_e1 (v := bb) hi_233_114 rfl ?_
            refine mm_25 hS53 ma_43 hi_233_115 (by decide) (by omega) (by omega) ?_
            show am_E _ _ _ _ _ (.int (g'51 43 bb.toNatClampNeg) :: _) _ _
            rw [show g'51 43 = g 43 from h56_ 43 (by decide)]
            show am_E _ _ _ _ [some (.ref 39), some (.int w), some (.int bb)] [.int (g 43 bb.toNatClampNeg), .int 36, .ref 39, .int bb, .ref 67] _ _
            refine am_e0 hi_233_116 ?_
            refine am_e0 hi_233_117 ?_
            refine am_e32w (as := [.ref 39, .int 36, .int (g 43 bb.toNatClampNeg), .int 0, .int 0]) (la := [some (.ref 39), some (.int 36), some (.int (g 43 bb.toNatClampNeg)), some (.int 0), some (.int 0)]) (rest := [.int bb, .ref 67]) hi_233_118 (am_hd0 (M := 233) (by decide) 118) (Nat.le_of_ble_eq_true rfl) (Nat.le_of_ble_eq_true rfl) (show 5 ≤ am_P0.2.2.1 189 from by decide +kernel) rfl (am_recv_ok hS53.fs) rfl rfl ?_
            refine am_e2 (v := 39) hi_189_0 rfl ?_
            refine mm_20 (v := .int z49) hS53 hi_189_1 rfl ?_
            refine am_e0 hi_189_4 ?_
            refine am_e13f hi_189_6 (am_cF (m := z49.toInt) (n := (65536 : Int)) rfl (by decide) (by simp only [am_cI]; omega)) ?_
            refine am_e2 (v := 39) hi_189_9 rfl ?_
            refine mm_20 (v := .ref 88) hS53 hi_189_10 rfl ?_
            refine am_e2 (v := 39) hi_189_13 rfl ?_
            refine mm_20 (v := .int z49) hS53 hi_189_14 rfl ?_
            refine am_e2 (v := 39) hi_189_17 rfl ?_
            refine mm_20 (v := .ref 58) hS53 hi_189_18 rfl ?_
            refine am_e2 (v := 39) hi_189_21 rfl ?_
            refine mm_20 (v := .int (f 32)) hS53 hi_189_22 rfl ?_
            refine mm_25 hS53 ma_33 hi_189_25 (by decide) (by omega) (by omega) ?_
            show am_E _ _ _ _ _ (.int (g'51 33 (f 32).toNatClampNeg) :: _) _ _
            rw [show g'51 33 = g 33 from h56_ 33 (by decide)]
            show am_E _ _ _ _ [some (.ref 39), some (.int 36), some (.int (g 43 bb.toNatClampNeg)), some (.int 0), some (.int 0)] [.int (g 33 (f 32).toNatClampNeg), .int z49, .ref 88] _ _
            have r58 : 0 ≤ (g 33 (f 32).toNatClampNeg).toInt ∧ (g 33 (f 32).toNatClampNeg).toInt < (f 53).toInt := by
              have h := RJ.fn (i := f 32) hR57_ (by omega) (by show (f 32).toInt ≤ (f 32).toInt; omega)
              rw [show g'51 33 = g 33 from h56_ 33 (by decide)] at h
              exact h
            refine mm_26 hS53 ma_69 hi_189_26 (by decide) (by omega) (by omega) (fun h => nomatch h) ?_
            intro S59 hS60
            refine am_e2 (v := 39) hi_189_27 rfl ?_
            refine mm_20 (v := .ref 89) hS60 hi_189_28 rfl ?_
            refine am_e2 (v := 39) hi_189_31 rfl ?_
            refine mm_20 (v := .int z49) hS60 hi_189_32 rfl ?_
            refine am_e1 (v := 36) hi_189_35 rfl ?_
            refine mm_26 hS60 ma_70 hi_189_36 (by decide) (by omega) (by omega) (fun h => nomatch h) ?_
            intro S61 hS62
            refine am_e2 (v := 39) hi_189_37 rfl ?_
            refine mm_20 (v := .ref 90) hS62 hi_189_38 rfl ?_
            refine am_e2 (v := 39) hi_189_41 rfl ?_
            refine mm_20 (v := .int z49) hS62 hi_189_42 rfl ?_
            refine am_e1 (v := g 43 bb.toNatClampNeg) hi_189_45 rfl ?_
            refine mm_26 hS62 ma_71 hi_189_46 (by decide) (by omega) (by omega) (fun h => nomatch h) ?_
            intro S63 hS64
            refine am_e2 (v := 39) hi_189_47 rfl ?_
            refine mm_20 (v := .ref 91) hS64 hi_189_48 rfl ?_
            refine am_e2 (v := 39) hi_189_51 rfl ?_
            refine mm_20 (v := .int z49) hS64 hi_189_52 rfl ?_
            refine am_e1 (v := 0) hi_189_55 rfl ?_
            refine mm_26 hS64 ma_72 hi_189_56 (by decide) (by omega) (by omega) (fun h => nomatch h) ?_
            intro S65 hS66
            refine am_e2 (v := 39) hi_189_57 rfl ?_
            refine mm_20 (v := .ref 92) hS66 hi_189_58 rfl ?_
            refine am_e2 (v := 39) hi_189_61 rfl ?_
            refine mm_20 (v := .int z49) hS66 hi_189_62 rfl ?_
            refine am_e1 (v := 0) hi_189_65 rfl ?_
            refine mm_26 hS66 ma_73 hi_189_67 (by decide) (by omega) (by omega) (fun h => nomatch h) ?_
            intro S67 hS68
            refine am_e2 (v := 39) hi_189_68 rfl ?_
            refine am_e7 hi_189_69 ?_
            refine mm_20 (v := .int z49) hS68 hi_189_70 rfl ?_
            refine am_e0 hi_189_73 ?_
            obtain ⟨z69, hz69, tz69⟩ := am_addI (x := z49) (y := 1) (m := z49.toInt) (n := (1 : Int)) rfl (by decide) (by omega) (by omega)
            refine am_e10 (z := z69) hi_189_74 hz69 ?_
            refine mm_21 (v := z69) hS68 hi_189_75 rfl (Nat.le_of_ble_eq_true rfl) ms_68 ?_
            intro S70 hS71
            replace hS71 : MS S0 S70 (upd f 68 z69) (upg (upg (upg (upg (upg g'51 69 z49.toNatClampNeg (g 33 (f 32).toNatClampNeg)) 70 z49.toNatClampNeg 36) 71 z49.toNatClampNeg (g 43 bb.toNatClampNeg)) 72 z49.toNatClampNeg 0) 73 z49.toNatClampNeg 0) := hS71
            refine am_e2 (v := 39) hi_189_78 rfl ?_
            refine mm_20 (v := .ref 81) hS71 hi_189_79 rfl ?_
            refine am_e2 (v := 39) hi_189_82 rfl ?_
            refine mm_20 (v := .ref 58) hS71 hi_189_83 rfl ?_
            refine am_e2 (v := 39) hi_189_86 rfl ?_
            refine mm_20 (v := .int (f 32)) hS71 hi_189_87 rfl ?_
            refine mm_25 hS71 ma_33 hi_189_90 (by decide) (by omega) (by omega) ?_
            show am_E _ _ _ _ _ (.int (g'51 33 (f 32).toNatClampNeg) :: _) _ _
            rw [show g'51 33 = g 33 from h56_ 33 (by decide)]
            show am_E _ _ _ _ [some (.ref 39), some (.int 36), some (.int (g 43 bb.toNatClampNeg)), some (.int 0), some (.int 0)] [.int (g 33 (f 32).toNatClampNeg), .ref 81] _ _
            have r72 : 0 ≤ (g 33 (f 32).toNatClampNeg).toInt ∧ (g 33 (f 32).toNatClampNeg).toInt < (f 53).toInt := by
              have h := RJ.fn (i := f 32) hR57_ (by omega) (by show (f 32).toInt ≤ (f 32).toInt; omega)
              rw [show g'51 33 = g 33 from h56_ 33 (by decide)] at h
              exact h
            refine am_e8 hi_189_91 ?_
            refine mm_25 hS71 ma_60 hi_189_92 (by decide) (by omega) (by omega) ?_
            show am_E _ _ _ _ [some (.ref 39), some (.int 36), some (.int (g 43 bb.toNatClampNeg)), some (.int 0), some (.int 0)] [.int (g'51 60 (g 33 (f 32).toNatClampNeg).toNatClampNeg), .int (g 33 (f 32).toNatClampNeg), .ref 81] _ _
            have r73 : 0 ≤ (g'51 60 (g 33 (f 32).toNatClampNeg).toNatClampNeg).toInt ∧ (g'51 60 (g 33 (f 32).toNatClampNeg).toNatClampNeg).toInt ≤ z49.toInt := RJ.codes (i := g 33 (f 32).toNatClampNeg) hR57_ (by show 0 ≤ z49.toInt; omega) (by omega) (by show (g 33 (f 32).toNatClampNeg).toInt < (f 53).toInt; omega)
            refine am_e0 hi_189_93 ?_
            obtain ⟨z74, hz74, tz74⟩ := am_addI (x := g'51 60 (g 33 (f 32).toNatClampNeg).toNatClampNeg) (y := 1) (m := (g'51 60 (g 33 (f 32).toNatClampNeg).toNatClampNeg).toInt) (n := (1 : Int)) rfl (by decide) (by omega) (by omega)
            refine am_e10 (z := z74) hi_189_94 hz74 ?_
            refine mm_26 hS71 ma_60 hi_189_95 (by decide) (by omega) (by omega) (fun h => nomatch h) ?_
            intro S75 hS76
            refine am_e2 (v := 39) hi_189_96 rfl ?_
            refine mm_20 (v := .int z69) hS76 hi_189_97 rfl ?_
            refine am_e0 hi_189_100 ?_
            obtain ⟨z77, hz77, tz77⟩ := am_subI (x := z69) (y := 1) (m := z69.toInt) (n := (1 : Int)) rfl (by decide) (by omega) (by omega)
            refine am_e10 (z := z77) hi_189_101 hz77 ?_
            refine am_e33 hi_189_102 ?_
            show am_E _ _ _ _ [some (.ref 39), some (.int w), some (.int bb)] [.int z77, .int bb, .ref 67] _ _
            refine am_e0 hi_233_121 ?_
            obtain ⟨z78, hz78, tz78⟩ := am_addI (x := z77) (y := 1) (m := z77.toInt) (n := (1 : Int)) rfl (by decide) (by omega) (by omega)
            refine am_e10 (z := z78) hi_233_122 hz78 ?_
            refine mm_26 hS76 ma_43 hi_233_123 (by decide) (by omega) (by omega) (fun h => nomatch h) ?_
            intro S79 hS80
            refine am_e35 hi_233_124 ?_
            obtain ⟨c0, hc0⟩ : ∃ c0, bc.reverse[bb.toNatClampNeg]? = some c0 := ⟨_, List.getElem?_eq_getElem (by rw [List.length_reverse]; have := hR.2.2.2.2.1.1; rw [cl_toNat]; omega)⟩
            exact ⟨(f 8), (f 9), z69, _, _, rfl, hS80, (RJ.fewer (rj_putb (k := bb.toNatClampNeg) (c := c0) (v := z78) hR57_ hc0 (by rw [show g'51 43 = g 43 from h56_ 43 (by decide)]) (by show 0 ≤ z49.toInt; omega) (by show _ = z49.toInt + 1; omega) (by show _ = z49.toInt + 1; omega) (show 0 ≤ (g 33 (f 32).toNatClampNeg).toInt ∧ (g 33 (f 32).toNatClampNeg).toInt < (f 53).toInt from ⟨by omega, by omega⟩) (by show z74.toInt = (g'51 60 (g 33 (f 32).toNatClampNeg).toNatClampNeg).toInt + 1; omega) rfl) (fun j hj => List.mem_cons_of_mem _ hj)), (by show (f 68).toInt ≤ z69.toInt; omega), (by show z69.toInt ≤ (f 68).toInt + 2; omega), (fun j hj => ((show ∀ j, j ∉ [43, 60, 69, 70, 71, 72, 73] → (upg (upg (upg (upg (upg (upg (upg g'51 69 z49.toNatClampNeg (g 33 (f 32).toNatClampNeg)) 70 z49.toNatClampNeg 36) 71 z49.toNatClampNeg (g 43 bb.toNatClampNeg)) 72 z49.toNatClampNeg 0) 73 z49.toNatClampNeg 0) 60 (g 33 (f 32).toNatClampNeg).toNatClampNeg z74) 43 bb.toNatClampNeg z78) j = g'51 j from by intro j hj; simp only [List.mem_cons, List.not_mem_nil, or_false, not_or] at hj; simp only [upg, hj, if_false]) j hj).trans ((show ∀ j, j ∉ [43, 60, 69, 70, 71, 72, 73] → g'51 j = g j from fun j hj => h56_ j (fun q => hj (mem_sub (L := [60, 69, 70, 71, 72, 73]) (L' := [43, 60, 69, 70, 71, 72, 73]) (by decide) q))) j hj)), (by simp), (by show (0 : Int) ≤ ((f 8)).toInt; omega)⟩
        · refine am_e12f hi_233_30 (am_cF (m := (g 42 bb.toNatClampNeg).toInt) (n := (0 : Int)) rfl (by decide) c18) ?_
          obtain ⟨z81, hz81, tz81⟩ := am_addI (x := bb) (y := (-1)) (m := bb.toInt) (n := (-1 : Int)) rfl (by decide) (by omega) (by omega)
          refine am_e5 (v := bb) (z := z81) (ls' := [some (.ref 39), some (.int w), some (.int z81)]) hi_233_33 rfl hz81 rfl ?_
          refine am_e18 hi_233_36 ?_
          exact ih _ z81 hS (by show (-1 : Int) ≤ z81.toInt; omega) (by show z81.toInt < (f 37).toInt; omega) (by show z81.toInt + 1 < (N : Int); omega)
theorem ct_leaveLoop {sc : Nat × (Nat → Int32)} {d : Nat} {S0 S : am_S} {f : Nat → Int32} {g : Nat → Nat → Int32} {w : Int32} {gs : List mg_E} {bc : List (List Nat)} {fl : List Nat} {fk : Int} {pj : List Nat} (hS : MS S0 S f g) (hR : RJ f g gs bc fl fk pj) (p0 : (0 : Int) ≤ (f 32).toInt) (p1 : (f 32).toInt ≤ (63 : Int)) (p2 : (f 53).toInt ≤ (4096 : Int)) (p3 : (0 : Int) ≤ (f 68).toInt) (p4 : (f 68).toInt ≤ (65532 : Int)) (p5 : (0 : Int) ≤ (f 37).toInt) (p6 : (f 37).toInt ≤ (128 : Int)) (p7 : (0 : Int) ≤ (f 8).toInt) : am_E (am_PP sc) (d + 1) 233 0 [some (.ref 39), some (.int w), none] [] S (am_N fun v S1 => (∃ a : Int32, ∃ b : Int32, ∃ s : Int32, ∃ g' : Nat → Nat → Int32, ∃ bc2 : List (List Nat), v = none ∧ MS S0 S1 (upd (upd (upd f 8 a) 9 b) 68 s) g' ∧ (RJ (upd (upd (upd f 8 a) 9 b) 68 s) g' gs bc2 fl fk pj) ∧ ((f 68).toInt ≤ s.toInt) ∧ (s.toInt ≤ (f 68).toInt + 2) ∧ (∀ j, j ∉ [43, 60, 69, 70, 71, 72, 73] → g' j = g j) ∧ (bc2.length = bc.length) ∧ ((0 : Int) ≤ a.toInt))) := by
  refine am_e2 (v := 39) hi_233_0 rfl ?_
  refine mm_20 (v := .int (f 37)) hS hi_233_1 rfl ?_
  refine am_e0 hi_233_4 ?_
  obtain ⟨z0, hz0, tz0⟩ := am_subI (x := f 37) (y := 1) (m := (f 37).toInt) (n := (1 : Int)) rfl (by decide) (by omega) (by omega)
  refine am_e10 (z := z0) hi_233_5 hz0 ?_
  refine am_e3 (ls' := [some (.ref 39), some (.int w), some (.int z0)]) hi_233_6 (Nat.le_of_ble_eq_true rfl) rfl ?_
  exact lp_leaveLoop hR p0 p1 p2 p3 p4 p5 p6 p7 ((z0.toInt + 1).toNat + 1) _ z0 hS (by show (-1 : Int) ≤ z0.toInt; omega) (by show z0.toInt < (f 37).toInt; omega) (by show z0.toInt + 1 < _; omega)
