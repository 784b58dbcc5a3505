/-! THE REFERENCE: loops in the midst of methods (printed by wip/p2/ref16.py) -/
theorem fr_loop {sc : Nat × (Nat → Int32)} {d : Nat} {S0 : am_S} {f : Nat → Int32} {g : Nat → Nat → Int32} {w : Int32} {gs : List mg_E} {bc : List (List Nat)} {fl : List Nat} {fk : Int} {pj : List Nat} {Q : Option (Option Value) → am_S → Prop} (p0 : (0 : Int) ≤ (f 4).toInt) (p1 : (f 0).toInt ≤ (16384 : Int)) (p2 : (f 4).toInt ≤ (f 0).toInt) (p3 : (f 0).toInt ≤ (512 : Int)) (p4 : (0 : Int) ≤ (f 6).toInt) (hx0 : ∀ (S : am_S) (x3 : Option Value) (c z : Int32), MS S0 S (upd f 4 z) g → RJ (upd f 4 z) g gs bc fl fk pj → ((1 : Int) ≤ c.toInt) → (2 * c.toInt = z.toInt - (f 4).toInt + 2) → ((f 4).toInt ≤ z.toInt) → (z.toInt ≤ (f 0).toInt) → am_E (am_PP sc) (d + 3) 235 79 [some (.ref 39), some (.int w), some (.int c), x3] [] S Q) (hx1 : ∀ (S : am_S) (x2 : Option Value) (x3 : Option Value) (z u_ v_ : Int32), MS S0 S (upd (upd (upd (upd f 4 z) 6 u_) 7 v_) 10 0) g → RJ (upd (upd (upd (upd f 4 z) 6 u_) 7 v_) 10 0) g [] bc [] 0 [] → ((f 4).toInt ≤ z.toInt) → (z.toInt ≤ (f 0).toInt) → ((0 : Int) ≤ u_.toInt) → am_E (am_PP sc) (d + 3) 235 72 [some (.ref 39), some (.int w), x2, x3] [] S Q) : ∀ (N : Nat) (S : am_S) (x3 : Option Value) (c z : Int32), MS S0 S (upd f 4 z) g → RJ (upd f 4 z) g gs bc fl fk pj → ((1 : Int) ≤ c.toInt) → (2 * c.toInt = z.toInt - (f 4).toInt + 2) → ((f 4).toInt ≤ z.toInt) → (z.toInt ≤ (f 0).toInt) → (f 0).toInt - z.toInt < (N : Int) → am_E (am_PP sc) (d + 3) 235 45 [some (.ref 39), some (.int w), some (.int c), x3] [] S Q := by
  intro N
  induction N with
  | zero =>
    intro S x3 c z  hS hRl  i0 i1 i2 i3 hN
    exfalso
    omega
  | succ N ih =>
    intro S x3 c z  hS hRl  i0 i1 i2 i3 hN
    refine am_e2 (v := 39) hi_235_45 rfl ?_
    refine am_e32n (as := [.ref 39]) (la := [some (.ref 39)]) (rest := []) hi_235_46 (am_hd0 (M := 235) (by decide) 46) (Nat.le_of_ble_eq_true rfl) (Nat.le_of_ble_eq_true rfl) (show 1 ≤ am_P0.2.2.1 183 from by decide +kernel) rfl (am_recv_ok hS.fs) rfl rfl (ct_next (d := (d + 1)) hS   (by show (0 : Int) ≤ z.toInt; omega) (by show (f 0).toInt ≤ (16384 : Int); omega)) ?_
    rintro v0 S1 (⟨r2, hv3, hS4, h5⟩)
    subst hv3
    have h5_ : z.toInt < (f 0).toInt ∨ r2.toInt = (-1 : Int) := h5
    show am_E _ _ _ _ [some (.ref 39), some (.int w), some (.int c), x3] [.int r2] _ _
    refine am_e0 hi_235_49 ?_
    by_cases c7 : ¬ r2.toInt = (69 : Int)
    · refine am_e13t hi_235_51 (am_cT (m := r2.toInt) (n := (69 : Int)) rfl (by decide) c7) ?_
      exact hx0 _ x3 c z hS4 hRl (by show (1 : Int) ≤ c.toInt; omega) (by show 2 * c.toInt = z.toInt - (f 4).toInt + 2; omega) (by show (f 4).toInt ≤ z.toInt; omega) (by show z.toInt ≤ (f 0).toInt; omega)
    · refine am_e13f hi_235_51 (am_cF (m := r2.toInt) (n := (69 : Int)) rfl (by decide) c7) ?_
      refine am_e2 (v := 39) hi_235_54 rfl ?_
      refine am_e7 hi_235_55 ?_
      refine mm_20 (v := .int z) hS4 hi_235_56 rfl ?_
      refine am_e0 hi_235_59 ?_
      obtain ⟨z8, hz8, tz8⟩ := am_addI (x := z) (y := 1) (m := z.toInt) (n := (1 : Int)) rfl (by decide) (by omega) (by omega)
      refine am_e10 (z := z8) hi_235_60 hz8 ?_
      refine mm_21 (v := z8) hS4 hi_235_61 rfl (Nat.le_of_ble_eq_true rfl) ms_4 ?_
      intro S9 hS10
      replace hS10 : MS S0 S9 (upd f 4 z8) g := hS10
      have hR11 : RJ (upd f 4 z8) g gs bc fl fk pj := RJ.at hRl (by show z.toInt ≤ z8.toInt; omega)
      refine am_e2 (v := 39) hi_235_64 rfl ?_
      refine am_e0 hi_235_65 ?_
      refine am_e32n (as := [.ref 39, .int 1]) (la := [some (.ref 39), some (.int 1)]) (rest := []) hi_235_66 (am_hd0 (M := 235) (by decide) 66) (Nat.le_of_ble_eq_true rfl) (Nat.le_of_ble_eq_true rfl) (show 2 ≤ am_P0.2.2.1 200 from by decide +kernel) rfl (am_recv_ok hS10.fs) rfl rfl (ct_take (d := d) hS10   (by show (0 : Int) ≤ z8.toInt; omega) (by show (f 0).toInt ≤ (16384 : Int); omega) (by show (0 : Int) ≤ (1 : Int); omega) (by show (0 : Int) ≤ (f 6).toInt; omega)) ?_
      rintro v12 S13 (⟨z14, hv15, hS16, h17, h18⟩ | ⟨a20, b21, hv22, hS23, h24⟩)
      · subst hv15
        have h17_ : z14.toInt = z8.toInt + 1 := h17
        have h18_ : z8.toInt < (f 0).toInt := h18
        replace hS16 : MS S0 S13 (upd f 4 z14) g := hS16
        have hR26 : RJ (upd f 4 z14) g gs bc fl fk pj := RJ.at hR11 (by show z8.toInt ≤ z14.toInt; omega)
        show am_E _ _ _ _ [some (.ref 39), some (.int w), some (.int c), x3] [.int 1] _ _
        refine am_e12t hi_235_69 (by decide) ?_
        obtain ⟨z27, hz27, tz27⟩ := am_addI (x := c) (y := 1) (m := c.toInt) (n := (1 : Int)) rfl (by decide) (by omega) (by omega)
        refine am_e5 (v := c) (z := z27) (ls' := [some (.ref 39), some (.int w), some (.int z27), x3]) hi_235_73 rfl hz27 rfl ?_
        refine am_e18 hi_235_76 ?_
        exact ih _ x3 z27 z14 hS16 hR26 (by show (1 : Int) ≤ z27.toInt; omega) (by show 2 * z27.toInt = z14.toInt - (f 4).toInt + 2; omega) (by show (f 4).toInt ≤ z14.toInt; omega) (by show z14.toInt ≤ (f 0).toInt; omega) (by show (f 0).toInt - z14.toInt < (N : Int); omega)
      · subst hv22
        have h24_ : (0 : Int) ≤ a20.toInt := h24
        have hR28 := rj_clear0 hR11
        have hR29 : RJ (upd (upd (upd (upd f 4 z8) 6 a20) 7 b21) 10 0) g [] bc [] 0 [] := hR28
        show am_E _ _ _ _ [some (.ref 39), some (.int w), some (.int c), x3] [.int 0] _ _
        refine am_e12f hi_235_69 (by decide) ?_
        exact hx1 _ (some (.int c)) x3 z8 a20 b21 hS23 hR29 (by show (f 4).toInt ≤ z8.toInt; omega) (by show z8.toInt ≤ (f 0).toInt; omega) (by show (0 : Int) ≤ a20.toInt; omega)
theorem lp_hide {sc : Nat × (Nat → Int32)} {d : Nat} {S0 : am_S} {f : Nat → Int32} {g : Nat → Nat → Int32} {nn : Int32} {cl : Int32} {w : Int32} {gs : List mg_E} {bc : List (List Nat)} {fl : List Nat} {fk : Int} {pj : List Nat}  (hR : RJ f g gs bc fl fk pj) (hb_cl : cl = 0 ∨ cl = 1) (p0 : (0 : Int) ≤ (f 32).toInt) (p1 : (f 32).toInt ≤ (63 : Int)) (p2 : (f 53).toInt ≤ (4096 : Int)) (p3 : (0 : Int) ≤ (f 24).toInt) (p4 : (f 24).toInt ≤ (16000 : Int)) (p5 : (0 : Int) ≤ nn.toInt) (p6 : nn.toInt ≤ (16 : Int)) (p7 : (0 : Int) ≤ (f 8).toInt) : ∀ (N : Nat) (S : am_S) (i a b l y : Int32) (gx : Nat → Nat → Int32), MS S0 S (upd (upd (upd (upd f 8 a) 9 b) 24 l) 31 y) gx → RJ (upd (upd (upd (upd f 8 a) 9 b) 24 l) 31 y) gx gs bc fl fk pj → (∀ j, j ∉ [25, 26, 27, 28, 29, 30, 58] → gx j = g j) → (0 : Int) ≤ i.toInt → i.toInt ≤ nn.toInt → l.toInt = (f 24).toInt + i.toInt → (0 : Int) ≤ a.toInt → nn.toInt - i.toInt < (N : Int) → am_E (am_PP sc) (d + 2) 254 3 [some (.ref 39), some (.int nn), some (.int cl), some (.int w), some (.int i)] [] S (am_N fun v S1 => (∃ a : Int32, ∃ b : Int32, ∃ l : Int32, ∃ y : Int32, ∃ g' : Nat → Nat → Int32, v = none ∧ MS S0 S1 (upd (upd (upd (upd f 8 a) 9 b) 24 l) 31 y) g' ∧ (RJ (upd (upd (upd (upd f 8 a) 9 b) 24 l) 31 y) g' gs bc fl fk pj) ∧ (l.toInt = (f 24).toInt + nn.toInt) ∧ (∀ j, j ∉ [25, 26, 27, 28, 29, 30, 58] → g' j = g j) ∧ ((0 : Int) ≤ a.toInt))) := by
  intro N
  induction N with
  | zero =>
    intro S  i a b l y gx  hS hRl hx i0 i1 i2 i3 hN
    exfalso
    omega
  | succ N ih =>
    intro S  i a b l y gx  hS hRl hx i0 i1 i2 i3 hN
    refine am_e1 (v := i) hi_254_3 rfl ?_
    refine am_e1 (v := nn) hi_254_5 rfl ?_
    by_cases c0 : nn.toInt ≤ i.toInt
    · refine am_e13t hi_254_6 (am_cT (m := i.toInt) (n := nn.toInt) rfl rfl c0) ?_
      refine am_e35 hi_254_51 ?_
      exact ⟨a, b, l, y, _, rfl, hS, hRl, (by show l.toInt = (f 24).toInt + nn.toInt; omega), hx, (by show (0 : Int) ≤ a.toInt; omega)⟩
    · refine am_e13f hi_254_6 (am_cF (m := i.toInt) (n := nn.toInt) rfl rfl c0) ?_
      refine am_e2 (v := 39) hi_254_9 rfl ?_
      refine am_e0 hi_254_10 ?_
      refine am_e0 hi_254_11 ?_
      refine am_e1 (v := cl) hi_254_12 rfl ?_
      by_cases c1 : cl.toInt = (0 : Int)
      · refine am_e12t hi_254_13 (am_cT (m := cl.toInt) (n := (0 : Int)) rfl (by decide) c1) ?_
        refine am_e0 hi_254_28 ?_
        refine am_e1 (v := w) hi_254_29 rfl ?_
        refine am_e32n (as := [.ref 39, .int 0, .int 1, .int 0, .int w]) (la := [some (.ref 39), some (.int 0), some (.int 1), some (.int 0), some (.int w), none]) (rest := []) hi_254_30 (am_hd0 (M := 254) (by decide) 30) (Nat.le_of_ble_eq_true rfl) (Nat.le_of_ble_eq_true rfl) (show 5 ≤ am_P0.2.2.1 196 from by decide +kernel) rfl (am_recv_ok hS.fs) rfl rfl (ct_declare (d := d) hS hRl (by decide) (by decide)  (by show (0 : Int) ≤ (f 32).toInt; omega) (by show (f 32).toInt ≤ (63 : Int); omega) (by show (f 53).toInt ≤ (4096 : Int); omega) (by show (0 : Int) ≤ l.toInt; omega) (by show l.toInt ≤ (16383 : Int); omega) (by show (0 : Int) ≤ a.toInt; omega)) ?_
        rintro v2 S3 (⟨a4, b5, z6, y7, g'8, hv9, hS10, hR14, h11, h12, h13⟩)
        subst hv9
        have h11_ : z6.toInt = l.toInt + 1 := h11
        have h12_ : ∀ j, j ∉ [25, 26, 27, 28, 29, 30, 58] → g'8 j = gx j := h12
        have h13_ : (0 : Int) ≤ a4.toInt := h13
        replace hS10 : MS S0 S3 (upd (upd (upd (upd f 8 a4) 9 b5) 24 z6) 31 y7) g'8 := hS10
        have hR14_ : RJ (upd (upd (upd (upd f 8 a4) 9 b5) 24 z6) 31 y7) g'8 gs bc fl fk pj := hR14
        show am_E _ _ _ _ [some (.ref 39), some (.int nn), some (.int cl), some (.int w), some (.int i)] [] _ _
        refine am_e2 (v := 39) hi_254_33 rfl ?_
        refine mm_20 (v := .ref 55) hS10 hi_254_34 rfl ?_
        refine am_e2 (v := 39) hi_254_37 rfl ?_
        refine mm_20 (v := .int z6) hS10 hi_254_38 rfl ?_
        refine am_e0 hi_254_41 ?_
        obtain ⟨z15, hz15, tz15⟩ := am_subI (x := z6) (y := 1) (m := z6.toInt) (n := (1 : Int)) rfl (by decide) (by omega) (by omega)
        refine am_e10 (z := z15) hi_254_42 hz15 ?_
        refine am_e0 hi_254_43 ?_
        refine mm_26 hS10 ma_28 hi_254_44 (by decide) (by omega) (by omega) (fun _ => by decide) ?_
        intro S16 hS17
        obtain ⟨z18, hz18, tz18⟩ := am_addI (x := i) (y := 1) (m := i.toInt) (n := (1 : Int)) rfl (by decide) (by omega) (by omega)
        refine am_e5 (v := i) (z := z18) (ls' := [some (.ref 39), some (.int nn), some (.int cl), some (.int w), some (.int z18)]) hi_254_45 rfl hz18 rfl ?_
        refine am_e18 hi_254_48 ?_
        exact ih _ z18 a4 b5 z6 y7 _ hS17 hR14_ (fun j hj => ((show ∀ j, j ∉ [25, 26, 27, 28, 29, 30, 58] → (upg g'8 28 z15.toNatClampNeg 1) j = g'8 j from by intro j hj; simp only [List.mem_cons, List.not_mem_nil, or_false, not_or] at hj; simp only [upg, hj, if_false]) j hj).trans ((fun j hj => (h12_ j hj).trans (hx j hj)) j hj)) (by show (0 : Int) ≤ z18.toInt; omega) (by show z18.toInt ≤ nn.toInt; omega) (by show z6.toInt = (f 24).toInt + z18.toInt; omega) (by show (0 : Int) ≤ a4.toInt; omega) (by show nn.toInt - z18.toInt < (N : Int); omega)
      · refine am_e12f hi_254_13 (am_cF (m := cl.toInt) (n := (0 : Int)) rfl (by decide) c1) ?_
        refine am_e1 (v := i) hi_254_16 rfl ?_
        refine am_e0 hi_254_18 ?_
        obtain ⟨z19, hz19, tz19⟩ := am_addI (x := i) (y := 1) (m := i.toInt) (n := (1 : Int)) rfl (by decide) (by omega) (by omega)
        refine am_e10 (z := z19) hi_254_19 hz19 ?_
        refine am_e1 (v := nn) hi_254_20 rfl ?_
        by_cases c20 : ¬ z19.toInt = nn.toInt
        · refine am_e13t hi_254_21 (am_cT (m := z19.toInt) (n := nn.toInt) rfl rfl c20) ?_
          refine am_e0 hi_254_28 ?_
          refine am_e1 (v := w) hi_254_29 rfl ?_
          refine am_e32n (as := [.ref 39, .int 0, .int 1, .int 0, .int w]) (la := [some (.ref 39), some (.int 0), some (.int 1), some (.int 0), some (.int w), none]) (rest := []) hi_254_30 (am_hd0 (M := 254) (by decide) 30) (Nat.le_of_ble_eq_true rfl) (Nat.le_of_ble_eq_true rfl) (show 5 ≤ am_P0.2.2.1 196 from by decide +kernel) rfl (am_recv_ok hS.fs) rfl rfl (ct_declare (d := d) hS hRl (by decide) (by decide)  (by show (0 : Int) ≤ (f 32).toInt; omega) (by show (f 32).toInt ≤ (63 : Int); omega) (by show (f 53).toInt ≤ (4096 : Int); omega) (by show (0 : Int) ≤ l.toInt; omega) (by show l.toInt ≤ (16383 : Int); omega) (by show (0 : Int) ≤ a.toInt; omega)) ?_
          rintro v21 S22 (⟨a23, b24, z25, y26, g'27, hv28, hS29, hR33, h30, h31, h32⟩)
          subst hv28
          have h30_ : z25.toInt = l.toInt + 1 := h30
          have h31_ : ∀ j, j ∉ [25, 26, 27, 28, 29, 30, 58] → g'27 j = gx j := h31
          have h32_ : (0 : Int) ≤ a23.toInt := h32
          replace hS29 : MS S0 S22 (upd (upd (upd (upd f 8 a23) 9 b24) 24 z25) 31 y26) g'27 := hS29
          have hR33_ : RJ (upd (upd (upd (upd f 8 a23) 9 b24) 24 z25) 31 y26) g'27 gs bc fl fk pj := hR33
          show am_E _ _ _ _ [some (.ref 39), some (.int nn), some (.int cl), some (.int w), some (.int i)] [] _ _
          refine am_e2 (v := 39) hi_254_33 rfl ?_
          refine mm_20 (v := .ref 55) hS29 hi_254_34 rfl ?_
          refine am_e2 (v := 39) hi_254_37 rfl ?_
          refine mm_20 (v := .int z25) hS29 hi_254_38 rfl ?_
          refine am_e0 hi_254_41 ?_
          obtain ⟨z34, hz34, tz34⟩ := am_subI (x := z25) (y := 1) (m := z25.toInt) (n := (1 : Int)) rfl (by decide) (by omega) (by omega)
          refine am_e10 (z := z34) hi_254_42 hz34 ?_
          refine am_e0 hi_254_43 ?_
          refine mm_26 hS29 ma_28 hi_254_44 (by decide) (by omega) (by omega) (fun _ => by decide) ?_
          intro S35 hS36
          refine am_e5 (v := i) (z := z19) (ls' := [some (.ref 39), some (.int nn), some (.int cl), some (.int w), some (.int z19)]) hi_254_45 rfl hz19 rfl ?_
          refine am_e18 hi_254_48 ?_
          exact ih _ z19 a23 b24 z25 y26 _ hS36 hR33_ (fun j hj => ((show ∀ j, j ∉ [25, 26, 27, 28, 29, 30, 58] → (upg g'27 28 z34.toNatClampNeg 1) j = g'27 j from by intro j hj; simp only [List.mem_cons, List.not_mem_nil, or_false, not_or] at hj; simp only [upg, hj, if_false]) j hj).trans ((fun j hj => (h31_ j hj).trans (hx j hj)) j hj)) (by show (0 : Int) ≤ z19.toInt; omega) (by show z19.toInt ≤ nn.toInt; omega) (by show z25.toInt = (f 24).toInt + z19.toInt; omega) (by show (0 : Int) ≤ a23.toInt; omega) (by show nn.toInt - z19.toInt < (N : Int); omega)
        · refine am_e13f hi_254_21 (am_cF (m := z19.toInt) (n := nn.toInt) rfl rfl c20) ?_
          refine am_e0 hi_254_24 ?_
          refine am_e18 hi_254_25 ?_
          refine am_e1 (v := w) hi_254_29 rfl ?_
          refine am_e32n (as := [.ref 39, .int 0, .int 1, .int 1, .int w]) (la := [some (.ref 39), some (.int 0), some (.int 1), some (.int 1), some (.int w), none]) (rest := []) hi_254_30 (am_hd0 (M := 254) (by decide) 30) (Nat.le_of_ble_eq_true rfl) (Nat.le_of_ble_eq_true rfl) (show 5 ≤ am_P0.2.2.1 196 from by decide +kernel) rfl (am_recv_ok hS.fs) rfl rfl (ct_declare (d := d) hS hRl (by decide) (by decide)  (by show (0 : Int) ≤ (f 32).toInt; omega) (by show (f 32).toInt ≤ (63 : Int); omega) (by show (f 53).toInt ≤ (4096 : Int); omega) (by show (0 : Int) ≤ l.toInt; omega) (by show l.toInt ≤ (16383 : Int); omega) (by show (0 : Int) ≤ a.toInt; omega)) ?_
          rintro v37 S38 (⟨a39, b40, z41, y42, g'43, hv44, hS45, hR49, h46, h47, h48⟩)
          subst hv44
          have h46_ : z41.toInt = l.toInt + 1 := h46
          have h47_ : ∀ j, j ∉ [25, 26, 27, 28, 29, 30, 58] → g'43 j = gx j := h47
          have h48_ : (0 : Int) ≤ a39.toInt := h48
          replace hS45 : MS S0 S38 (upd (upd (upd (upd f 8 a39) 9 b40) 24 z41) 31 y42) g'43 := hS45
          have hR49_ : RJ (upd (upd (upd (upd f 8 a39) 9 b40) 24 z41) 31 y42) g'43 gs bc fl fk pj := hR49
          show am_E _ _ _ _ [some (.ref 39), some (.int nn), some (.int cl), some (.int w), some (.int i)] [] _ _
          refine am_e2 (v := 39) hi_254_33 rfl ?_
          refine mm_20 (v := .ref 55) hS45 hi_254_34 rfl ?_
          refine am_e2 (v := 39) hi_254_37 rfl ?_
          refine mm_20 (v := .int z41) hS45 hi_254_38 rfl ?_
          refine am_e0 hi_254_41 ?_
          obtain ⟨z50, hz50, tz50⟩ := am_subI (x := z41) (y := 1) (m := z41.toInt) (n := (1 : Int)) rfl (by decide) (by omega) (by omega)
          refine am_e10 (z := z50) hi_254_42 hz50 ?_
          refine am_e0 hi_254_43 ?_
          refine mm_26 hS45 ma_28 hi_254_44 (by decide) (by omega) (by omega) (fun _ => by decide) ?_
          intro S51 hS52
          refine am_e5 (v := i) (z := z19) (ls' := [some (.ref 39), some (.int nn), some (.int cl), some (.int w), some (.int z19)]) hi_254_45 rfl hz19 rfl ?_
          refine am_e18 hi_254_48 ?_
          exact ih _ z19 a39 b40 z41 y42 _ hS52 hR49_ (fun j hj => ((show ∀ j, j ∉ [25, 26, 27, 28, 29, 30, 58] → (upg g'43 28 z50.toNatClampNeg 1) j = g'43 j from by intro j hj; simp only [List.mem_cons, List.not_mem_nil, or_false, not_or] at hj; simp only [upg, hj, if_false]) j hj).trans ((fun j hj => (h47_ j hj).trans (hx j hj)) j hj)) (by show (0 : Int) ≤ z19.toInt; omega) (by show z19.toInt ≤ nn.toInt; omega) (by show z41.toInt = (f 24).toInt + z19.toInt; omega) (by show (0 : Int) ≤ a39.toInt; omega) (by show nn.toInt - z19.toInt < (N : Int); omega)
theorem ct_hide {sc : Nat × (Nat → Int32)} {d : Nat} {S0 S : am_S} {f : Nat → Int32} {g : Nat → Nat → Int32} {nn : Int32} {cl : Int32} {w : Int32} {gs : List mg_E} {bc : List (List Nat)} {fl : List Nat} {fk : Int} {pj : List Nat} (hS : MS S0 S f g) (hR : RJ f g gs bc fl fk pj) (hb_cl : cl = 0 ∨ cl = 1) (p0 : (0 : Int) ≤ (f 32).toInt) (p1 : (f 32).toInt ≤ (63 : Int)) (p2 : (f 53).toInt ≤ (4096 : Int)) (p3 : (0 : Int) ≤ (f 24).toInt) (p4 : (f 24).toInt ≤ (16000 : Int)) (p5 : (0 : Int) ≤ nn.toInt) (p6 : nn.toInt ≤ (16 : Int)) (p7 : (0 : Int) ≤ (f 8).toInt) : am_E (am_PP sc) (d + 2) 254 0 [some (.ref 39), some (.int nn), some (.int cl), some (.int w), none] [] S (am_N fun v S1 => (∃ a : Int32, ∃ b : Int32, ∃ l : Int32, ∃ y : Int32, ∃ g' : Nat → Nat → Int32, v = none ∧ MS S0 S1 (upd (upd (upd (upd f 8 a) 9 b) 24 l) 31 y) g' ∧ (RJ (upd (upd (upd (upd f 8 a) 9 b) 24 l) 31 y) g' gs bc fl fk pj) ∧ (l.toInt = (f 24).toInt + nn.toInt) ∧ (∀ j, j ∉ [25, 26, 27, 28, 29, 30, 58] → g' j = g j) ∧ ((0 : Int) ≤ a.toInt))) := by
  refine am_e0 hi_254_0 ?_
  refine am_e3 (ls' := [some (.ref 39), some (.int nn), some (.int cl), some (.int w), some (.int 0)]) hi_254_1 (Nat.le_of_ble_eq_true rfl) rfl ?_
  exact lp_hide hR hb_cl p0 p1 p2 p3 p4 p5 p6 p7 ((nn.toInt - (0 : Int)).toNat + 1) _ 0 (f 8) (f 9) (f 24) (f 31) _ hS hR (fun _ _ => rfl) (by show (0 : Int) ≤ (0 : Int); omega) (by show (0 : Int) ≤ nn.toInt; omega) (by show (f 24).toInt = (f 24).toInt + (0 : Int); omega) (by show (0 : Int) ≤ (f 8).toInt; omega) (by show nn.toInt - (0 : Int) < _; omega)
