/-! THE REFERENCE: loops in the midst of methods (printed by wip/p2/ref17.py) -/
theorem fr_each {sc : Nat × (Nat → Int32)} {d : Nat} {S0 : am_S} {f : Nat → Int32} {g : Nat → Nat → Int32} {w : Int32} {m : Int32} {x3 : Int32} {c4 : Int32} {h5 : Int32} {q6 : Int32} {gs : List mg_E} {bc : List (List Nat)} {fl : List Nat} {fk : Int} {pj : List Nat} {Q : Option (Option Value) → am_S → Prop} (p0 : (0 : Int) ≤ (f 32).toInt) (p1 : (f 32).toInt ≤ (63 : Int)) (p2 : (f 53).toInt ≤ (4096 : Int)) (p3 : (0 : Int) ≤ (f 24).toInt) (p4 : (f 24).toInt + m.toInt ≤ 16383) (p5 : (0 : Int) ≤ w.toInt) (p6 : w.toInt + 2 * m.toInt ≤ 16000) (hx0 : ∀ (S : am_S) (i a b l y : Int32) (gx : Nat → Nat → Int32), MS S0 S (upd (upd (upd (upd f 8 a) 9 b) 24 l) 31 y) gx → RJ (upd (upd (upd (upd f 8 a) 9 b) 24 l) 31 y) gx gs bc fl fk pj → (∀ j, j ∉ [25, 26, 27, 28, 29, 30, 58] → gx j = g j) → (l.toInt = (f 24).toInt + m.toInt) → am_E (am_PP sc) (d + 5) 257 129 [some (.ref 39), some (.int w), some (.int m), some (.int x3), some (.int c4), some (.int h5), some (.int q6), some (.int i)] [] S Q) : ∀ (N : Nat) (S : am_S) (i a b l y : Int32) (gx : Nat → Nat → Int32), MS S0 S (upd (upd (upd (upd f 8 a) 9 b) 24 l) 31 y) gx → RJ (upd (upd (upd (upd f 8 a) 9 b) 24 l) 31 y) gx gs bc fl fk pj → (∀ j, j ∉ [25, 26, 27, 28, 29, 30, 58] → gx j = g j) → ((0 : Int) ≤ i.toInt) → (i.toInt ≤ m.toInt) → (l.toInt = (f 24).toInt + i.toInt) → m.toInt - i.toInt < (N : Int) → am_E (am_PP sc) (d + 5) 257 90 [some (.ref 39), some (.int w), some (.int m), some (.int x3), some (.int c4), some (.int h5), some (.int q6), some (.int i)] [] S Q := by
  intro N
  induction N with
  | zero =>
    intro S  i a b l y gx hS hRl hx i0 i1 i2 hN
    exfalso
    omega
  | succ N ih =>
    intro S  i a b l y gx hS hRl hx i0 i1 i2 hN
    refine am_e1 (v := i) hi_257_90 rfl ?_
    refine am_e1 (v := m) hi_257_92 rfl ?_
    by_cases c0 : m.toInt ≤ i.toInt
    · refine am_e13t hi_257_93 (am_cT (m := i.toInt) (n := m.toInt) rfl rfl c0) ?_
      exact hx0 _ i a b l y _ hS hRl hx (by show l.toInt = (f 24).toInt + m.toInt; omega)
    · refine am_e13f hi_257_93 (am_cF (m := i.toInt) (n := m.toInt) rfl rfl c0) ?_
      refine am_e2 (v := 39) hi_257_96 rfl ?_
      refine am_e2 (v := 39) hi_257_97 rfl ?_
      refine mm_20 (v := .ref 41) hS hi_257_98 rfl ?_
      refine am_e1 (v := w) hi_257_101 rfl ?_
      refine am_e0 hi_257_102 ?_
      obtain ⟨z1, hz1, tz1⟩ := am_addI (x := w) (y := 1) (m := w.toInt) (n := (1 : Int)) rfl (by decide) (by omega) (by omega)
      refine am_e10 (z := z1) hi_257_103 hz1 ?_
      refine am_e0 hi_257_104 ?_
      refine am_e1 (v := i) hi_257_105 rfl ?_
      obtain ⟨z2, hz2, tz2⟩ := am_mulI (x := 2) (y := i) (m := (2 : Int)) (n := i.toInt) (by decide) rfl (by omega) (by omega)
      refine am_e10 (z := z2) hi_257_107 hz2 ?_
      obtain ⟨z3, hz3, tz3⟩ := am_addI (x := z1) (y := z2) (m := z1.toInt) (n := z2.toInt) rfl rfl (by omega) (by omega)
      refine am_e10 (z := z3) hi_257_108 hz3 ?_
      refine mm_25 hS ma_2 hi_257_109 (by decide) (by omega) (by omega) ?_
      show am_E _ _ _ _ _ (.int (gx 2 z3.toNatClampNeg) :: _) _ _
      rw [show gx 2 = g 2 from hx 2 (by decide)]
      show am_E _ _ _ _ [some (.ref 39), some (.int w), some (.int m), some (.int x3), some (.int c4), some (.int h5), some (.int q6), some (.int i)] [.int (g 2 z3.toNatClampNeg), .ref 39] _ _
      refine am_e0 hi_257_110 ?_
      refine am_e0 hi_257_111 ?_
      refine am_e1 (v := w) hi_257_112 rfl ?_
      refine am_e0 hi_257_113 ?_
      refine am_e10 (z := z1) hi_257_114 hz1 ?_
      refine am_e0 hi_257_115 ?_
      refine am_e1 (v := i) hi_257_116 rfl ?_
      refine am_e10 (z := z2) hi_257_118 hz2 ?_
      refine am_e10 (z := z3) hi_257_119 hz3 ?_
      refine am_e32n (as := [.ref 39, .int (g 2 z3.toNatClampNeg), .int 0, .int 0, .int z3]) (la := [some (.ref 39), some (.int (g 2 z3.toNatClampNeg)), some (.int 0), some (.int 0), some (.int z3), none]) (rest := []) hi_257_120 (am_hd0 (M := 257) (by decide) 120) (Nat.le_of_ble_eq_true rfl) (Nat.le_of_ble_eq_true rfl) (show 5 ≤ am_P0.2.2.1 196 from by decide +kernel) rfl (am_recv_ok hS.fs) rfl rfl (ct_declare (d := (d + 3)) hS hRl (by decide) (by decide)  (by show (0 : Int) ≤ (f 32).toInt; omega) (by show (f 32).toInt ≤ (63 : Int); omega) (by show (f 53).toInt ≤ (4096 : Int); omega) (by show (0 : Int) ≤ l.toInt; omega) (by show l.toInt ≤ (16383 : Int); omega)) ?_
      rintro v4 S5 (⟨a6, b7, z8, y9, g'10, hv11, hS12, hR15, h13, h14⟩)
      subst hv11
      have h13_ : z8.toInt = l.toInt + 1 := h13
      have h14_ : ∀ j, j ∉ [25, 26, 27, 28, 29, 30, 58] → g'10 j = gx j := h14
      replace hS12 : MS S0 S5 (upd (upd (upd (upd f 8 a6) 9 b7) 24 z8) 31 y9) g'10 := hS12
      have hR15_ : RJ (upd (upd (upd (upd f 8 a6) 9 b7) 24 z8) 31 y9) g'10 gs bc fl fk pj := hR15
      show am_E _ _ _ _ [some (.ref 39), some (.int w), some (.int m), some (.int x3), some (.int c4), some (.int h5), some (.int q6), some (.int i)] [] _ _
      obtain ⟨z16, hz16, tz16⟩ := am_addI (x := i) (y := 1) (m := i.toInt) (n := (1 : Int)) rfl (by decide) (by omega) (by omega)
      refine am_e5 (v := i) (z := z16) (ls' := [some (.ref 39), some (.int w), some (.int m), some (.int x3), some (.int c4), some (.int h5), some (.int q6), some (.int z16)]) hi_257_123 rfl hz16 rfl ?_
      refine am_e18 hi_257_126 ?_
      exact ih _ z16 a6 b7 z8 y9 _ hS12 hR15_ (fun j hj => (h14_ j hj).trans (hx j hj)) (by show (0 : Int) ≤ z16.toInt; omega) (by show z16.toInt ≤ m.toInt; omega) (by show z8.toInt = (f 24).toInt + z16.toInt; omega) (by show m.toInt - z16.toInt < (N : Int); omega)
theorem fr_assign {sc : Nat × (Nat → Int32)} {d : Nat} {S0 : am_S} {f : Nat → Int32} {g : Nat → Nat → Int32} {m : Int32} {k : Int32} {gs : List mg_E} {bc : List (List Nat)} {fl : List Nat} {fk : Int} {pj : List Nat} {Q : Option (Option Value) → am_S → Prop} (p0 : (0 : Int) ≤ (f 32).toInt) (p1 : (f 32).toInt ≤ (63 : Int)) (p2 : (f 53).toInt ≤ (4096 : Int)) (p3 : (0 : Int) ≤ (f 68).toInt) (p4 : (f 68).toInt + m.toInt ≤ 65534) (p5 : (0 : Int) ≤ k.toInt) (p6 : (0 : Int) ≤ m.toInt) (p7 : k.toInt + m.toInt ≤ 16384) (hx0 : ∀ (S : am_S) (x5 : Option Value) (c j s : Int32) (gx : Nat → Nat → Int32), MS S0 S (upd f 68 s) gx → RJ (upd f 68 s) gx gs bc fl fk pj → (∀ j, j ∉ [60, 69, 70, 71, 72, 73] → gx j = g j) → ((0 : Int) ≤ c.toInt) → (c.toInt ≤ m.toInt) → ((f 68).toInt ≤ s.toInt) → (s.toInt ≤ (f 68).toInt + m.toInt) → am_E (am_PP sc) (d + 5) 265 102 [some (.ref 39), some (.int m), some (.int k), some (.int c), some (.int j), x5] [] S Q) : ∀ (N : Nat) (S : am_S) (x5 : Option Value) (c j s : Int32) (gx : Nat → Nat → Int32), MS S0 S (upd f 68 s) gx → RJ (upd f 68 s) gx gs bc fl fk pj → (∀ j, j ∉ [60, 69, 70, 71, 72, 73] → gx j = g j) → ((0 : Int) ≤ c.toInt) → (c.toInt + j.toInt + 1 ≤ m.toInt) → ((-1 : Int) ≤ j.toInt) → ((f 68).toInt ≤ s.toInt) → (s.toInt + j.toInt + 1 ≤ (f 68).toInt + m.toInt) → j.toInt + 1 < (N : Int) → am_E (am_PP sc) (d + 5) 265 16 [some (.ref 39), some (.int m), some (.int k), some (.int c), some (.int j), x5] [] S Q := by
  intro N
  induction N with
  | zero =>
    intro S x5 c j s gx hS hRl hx i0 i1 i2 i3 i4 hN
    exfalso
    omega
  | succ N ih =>
    intro S x5 c j s gx hS hRl hx i0 i1 i2 i3 i4 hN
    refine am_e1 (v := j) hi_265_16 rfl ?_
    by_cases c0 : j.toInt < (0 : Int)
    · refine am_e12t hi_265_18 (am_cT (m := j.toInt) (n := (0 : Int)) rfl (by decide) c0) ?_
      exact hx0 _ x5 c j s _ hS hRl hx (by show (0 : Int) ≤ c.toInt; omega) (by show c.toInt ≤ m.toInt; omega) (by show (f 68).toInt ≤ s.toInt; omega) (by show s.toInt ≤ (f 68).toInt + m.toInt; omega)
    · refine am_e12f hi_265_18 (am_cF (m := j.toInt) (n := (0 : Int)) rfl (by decide) c0) ?_
      refine am_e2 (v := 39) hi_265_21 rfl ?_
      refine mm_20 (v := .ref 49) hS hi_265_22 rfl ?_
      refine am_e1 (v := k) hi_265_25 rfl ?_
      refine am_e1 (v := j) hi_265_26 rfl ?_
      obtain ⟨z1, hz1, tz1⟩ := am_addI (x := k) (y := j) (m := k.toInt) (n := j.toInt) rfl rfl (by omega) (by omega)
      refine am_e10 (z := z1) hi_265_28 hz1 ?_
      refine mm_25 hS ma_21 hi_265_29 (by decide) (by omega) (by omega) ?_
      show am_E _ _ _ _ _ (.int (gx 21 z1.toNatClampNeg) :: _) _ _
      rw [show gx 21 = g 21 from hx 21 (by decide)]
      show am_E _ _ _ _ [some (.ref 39), some (.int m), some (.int k), some (.int c), some (.int j), x5] [.int (g 21 z1.toNatClampNeg)] _ _
      refine am_e3 (ls' := [some (.ref 39), some (.int m), some (.int k), some (.int c), some (.int j), some (.int (g 21 z1.toNatClampNeg))]) hi_265_30 (Nat.le_of_ble_eq_true rfl) rfl ?_
      refine am_e1 (v := g 21 z1.toNatClampNeg) hi_265_32 rfl ?_
      refine am_e0 hi_265_34 ?_
      by_cases c2 : (3 : Int) ≤ (g 21 z1.toNatClampNeg).toInt
      · refine am_e13t hi_265_35 (am_cT (m := (g 21 z1.toNatClampNeg).toInt) (n := (3 : Int)) rfl (by decide) c2) ?_
        refine am_e2 (v := 39) hi_265_70 rfl ?_
        refine am_e0 hi_265_71 ?_
        refine am_e0 hi_265_73 ?_
        refine am_e1 (v := c) hi_265_74 rfl ?_
        obtain ⟨z3, hz3, tz3⟩ := am_mulI (x := 2) (y := c) (m := (2 : Int)) (n := c.toInt) (by decide) rfl (by omega) (by omega)
        refine am_e10 (z := z3) hi_265_75 hz3 ?_
        refine am_e1 (v := j) hi_265_76 rfl ?_
        obtain ⟨z4, hz4, tz4⟩ := am_addI (x := z3) (y := j) (m := z3.toInt) (n := j.toInt) rfl rfl (by omega) (by omega)
        refine am_e10 (z := z4) hi_265_78 hz4 ?_
        refine am_e0 hi_265_79 ?_
        refine am_e2 (v := 39) hi_265_80 rfl ?_
        refine mm_20 (v := .ref 51) hS hi_265_81 rfl ?_
        refine am_e1 (v := k) hi_265_84 rfl ?_
        refine am_e1 (v := j) hi_265_85 rfl ?_
        refine am_e10 (z := z1) hi_265_87 hz1 ?_
        refine mm_25 hS ma_23 hi_265_88 (by decide) (by omega) (by omega) ?_
        show am_E _ _ _ _ _ (.int (gx 23 z1.toNatClampNeg) :: _) _ _
        rw [show gx 23 = g 23 from hx 23 (by decide)]
        show am_E _ _ _ _ [some (.ref 39), some (.int m), some (.int k), some (.int c), some (.int j), some (.int (g 21 z1.toNatClampNeg))] [.int (g 23 z1.toNatClampNeg), .int 0, .int z4, .int 32, .ref 39] _ _
        refine am_e32n (as := [.ref 39, .int 32, .int z4, .int 0, .int (g 23 z1.toNatClampNeg)]) (la := [some (.ref 39), some (.int 32), some (.int z4), some (.int 0), some (.int (g 23 z1.toNatClampNeg))]) (rest := []) hi_265_89 (am_hd0 (M := 265) (by decide) 89) (Nat.le_of_ble_eq_true rfl) (Nat.le_of_ble_eq_true rfl) (show 5 ≤ am_P0.2.2.1 189 from by decide +kernel) rfl (am_recv_ok hS.fs) rfl rfl (ct_put (d := (d + 4)) hS hRl  (by show (0 : Int) ≤ (f 32).toInt; omega) (by show (f 32).toInt ≤ (63 : Int); omega) (by show (f 53).toInt ≤ (4096 : Int); omega) (by show (0 : Int) ≤ s.toInt; omega) (by show s.toInt ≤ (65534 : Int); omega)) ?_
        rintro v5 S6 (⟨z7, r8, g'9, hv10, hS11, hR15, h12, h13, h14⟩)
        subst hv10
        have h12_ : z7.toInt = s.toInt + 1 := h12
        have h13_ : r8.toInt = s.toInt := h13
        have h14_ : ∀ j, j ∉ [60, 69, 70, 71, 72, 73] → g'9 j = gx j := h14
        replace hS11 : MS S0 S6 (upd f 68 z7) g'9 := hS11
        have hR15_ : RJ (upd f 68 z7) g'9 gs bc fl fk (s.toNatClampNeg :: pj) := hR15
        show am_E _ _ _ _ [some (.ref 39), some (.int m), some (.int k), some (.int c), some (.int j), some (.int (g 21 z1.toNatClampNeg))] [.int r8] _ _
        refine am_e6i hi_265_92 ?_
        obtain ⟨z16, hz16, tz16⟩ := am_addI (x := c) (y := 1) (m := c.toInt) (n := (1 : Int)) rfl (by decide) (by omega) (by omega)
        refine am_e5 (v := c) (z := z16) (ls' := [some (.ref 39), some (.int m), some (.int k), some (.int z16), some (.int j), some (.int (g 21 z1.toNatClampNeg))]) hi_265_93 rfl hz16 rfl ?_
        obtain ⟨z17, hz17, tz17⟩ := am_addI (x := j) (y := (-1)) (m := j.toInt) (n := (-1 : Int)) rfl (by decide) (by omega) (by omega)
        refine am_e5 (v := j) (z := z17) (ls' := [some (.ref 39), some (.int m), some (.int k), some (.int z16), some (.int z17), some (.int (g 21 z1.toNatClampNeg))]) hi_265_96 rfl hz17 rfl ?_
        refine am_e18 hi_265_99 ?_
        exact ih _ (some (.int (g 21 z1.toNatClampNeg))) z16 z17 z7 _ hS11 (RJ.fewer hR15_ (fun j hj => by simp only [List.mem_cons]; simp only [hj, or_true])) (fun j hj => (h14_ j hj).trans (hx j hj)) (by show (0 : Int) ≤ z16.toInt; omega) (by show z16.toInt + z17.toInt + 1 ≤ m.toInt; omega) (by show (-1 : Int) ≤ z17.toInt; omega) (by show (f 68).toInt ≤ z7.toInt; omega) (by show z7.toInt + z17.toInt + 1 ≤ (f 68).toInt + m.toInt; omega) (by show z17.toInt + 1 < (N : Int); omega)
      · refine am_e13f hi_265_35 (am_cF (m := (g 21 z1.toNatClampNeg).toInt) (n := (3 : Int)) rfl (by decide) c2) ?_
        refine am_e2 (v := 39) hi_265_38 rfl ?_
        refine am_e0 hi_265_39 ?_
        refine am_e1 (v := g 21 z1.toNatClampNeg) hi_265_41 rfl ?_
        obtain ⟨z18, hz18⟩ : ∃ q__, am_bin 0 29 (g 21 z1.toNatClampNeg) = q__ := ⟨_, rfl⟩
        refine am_e10 (z := z18) hi_265_43 hz18 ?_
        refine am_e2 (v := 39) hi_265_44 rfl ?_
        refine mm_20 (v := .ref 50) hS hi_265_45 rfl ?_
        refine am_e1 (v := k) hi_265_48 rfl ?_
        refine am_e1 (v := j) hi_265_49 rfl ?_
        refine am_e10 (z := z1) hi_265_51 hz1 ?_
        refine mm_25 hS ma_22 hi_265_52 (by decide) (by omega) (by omega) ?_
        show am_E _ _ _ _ _ (.int (gx 22 z1.toNatClampNeg) :: _) _ _
        rw [show gx 22 = g 22 from hx 22 (by decide)]
        show am_E _ _ _ _ [some (.ref 39), some (.int m), some (.int k), some (.int c), some (.int j), some (.int (g 21 z1.toNatClampNeg))] [.int (g 22 z1.toNatClampNeg), .int z18, .ref 39] _ _
        refine am_e0 hi_265_53 ?_
        refine am_e2 (v := 39) hi_265_54 rfl ?_
        refine mm_20 (v := .ref 51) hS hi_265_55 rfl ?_
        refine am_e1 (v := k) hi_265_58 rfl ?_
        refine am_e1 (v := j) hi_265_59 rfl ?_
        refine am_e10 (z := z1) hi_265_61 hz1 ?_
        refine mm_25 hS ma_23 hi_265_62 (by decide) (by omega) (by omega) ?_
        show am_E _ _ _ _ _ (.int (gx 23 z1.toNatClampNeg) :: _) _ _
        rw [show gx 23 = g 23 from hx 23 (by decide)]
        show am_E _ _ _ _ [some (.ref 39), some (.int m), some (.int k), some (.int c), some (.int j), some (.int (g 21 z1.toNatClampNeg))] [.int (g 23 z1.toNatClampNeg), .int 0, .int (g 22 z1.toNatClampNeg), .int z18, .ref 39] _ _
        refine am_e32n (as := [.ref 39, .int z18, .int (g 22 z1.toNatClampNeg), .int 0, .int (g 23 z1.toNatClampNeg)]) (la := [some (.ref 39), some (.int z18), some (.int (g 22 z1.toNatClampNeg)), some (.int 0), some (.int (g 23 z1.toNatClampNeg))]) (rest := []) hi_265_63 (am_hd0 (M := 265) (by decide) 63) (Nat.le_of_ble_eq_true rfl) (Nat.le_of_ble_eq_true rfl) (show 5 ≤ am_P0.2.2.1 189 from by decide +kernel) rfl (am_recv_ok hS.fs) rfl rfl (ct_put (d := (d + 4)) hS hRl  (by show (0 : Int) ≤ (f 32).toInt; omega) (by show (f 32).toInt ≤ (63 : Int); omega) (by show (f 53).toInt ≤ (4096 : Int); omega) (by show (0 : Int) ≤ s.toInt; omega) (by show s.toInt ≤ (65534 : Int); omega)) ?_
        rintro v19 S20 (⟨z21, r22, g'23, hv24, hS25, hR29, h26, h27, h28⟩)
        subst hv24
        have h26_ : z21.toInt = s.toInt + 1 := h26
        have h27_ : r22.toInt = s.toInt := h27
        have h28_ : ∀ j, j ∉ [60, 69, 70, 71, 72, 73] → g'23 j = gx j := h28
        replace hS25 : MS S0 S20 (upd f 68 z21) g'23 := hS25
        have hR29_ : RJ (upd f 68 z21) g'23 gs bc fl fk (s.toNatClampNeg :: pj) := hR29
        show am_E _ _ _ _ [some (.ref 39), some (.int m), some (.int k), some (.int c), some (.int j), some (.int (g 21 z1.toNatClampNeg))] [.int r22] _ _
        refine am_e6i hi_265_66 ?_
        refine am_e18 hi_265_67 ?_
        obtain ⟨z30, hz30, tz30⟩ := am_addI (x := j) (y := (-1)) (m := j.toInt) (n := (-1 : Int)) rfl (by decide) (by omega) (by omega)
        refine am_e5 (v := j) (z := z30) (ls' := [some (.ref 39), some (.int m), some (.int k), some (.int c), some (.int z30), some (.int (g 21 z1.toNatClampNeg))]) hi_265_96 rfl hz30 rfl ?_
        refine am_e18 hi_265_99 ?_
        exact ih _ (some (.int (g 21 z1.toNatClampNeg))) c z30 z21 _ hS25 (RJ.fewer hR29_ (fun j hj => by simp only [List.mem_cons]; simp only [hj, or_true])) (fun j hj => (h28_ j hj).trans (hx j hj)) (by show (0 : Int) ≤ c.toInt; omega) (by show c.toInt + z30.toInt + 1 ≤ m.toInt; omega) (by show (-1 : Int) ≤ z30.toInt; omega) (by show (f 68).toInt ≤ z21.toInt; omega) (by show z21.toInt + z30.toInt + 1 ≤ (f 68).toInt + m.toInt; omega) (by show z30.toInt + 1 < (N : Int); omega)
theorem fr_fs {sc : Nat × (Nat → Int32)} {d : Nat} {S0 : am_S} {f : Nat → Int32} {g : Nat → Nat → Int32} {w : Int32} {x2 : Int32} {gs : List mg_E} {bc : List (List Nat)} {fl : List Nat} {fk : Int} {pj : List Nat} {Q : Option (Option Value) → am_S → Prop} (p0 : (0 : Int) ≤ (f 32).toInt) (p1 : (f 32).toInt ≤ (63 : Int)) (p2 : (f 53).toInt ≤ (4096 : Int)) (p3 : (0 : Int) ≤ (f 4).toInt) (p4 : (f 0).toInt ≤ (16384 : Int)) (p5 : (f 4).toInt ≤ (f 0).toInt) (p6 : (f 0).toInt ≤ (512 : Int)) (p7 : (0 : Int) ≤ (f 68).toInt) (p8 : (f 68).toInt ≤ (60000 : Int)) (hx0 : ∀ (S : am_S) (x5 : Option Value) (m3 p4 z s : Int32) (gx : Nat → Nat → Int32), MS S0 S (upd (upd f 4 z) 68 s) gx → RJ (upd (upd f 4 z) 68 s) gx gs bc fl fk pj → (∀ j, j ∉ [60, 69, 70, 71, 72, 73] → gx j = g j) → (m3 = 0 ∨ m3 = 1) → ((f 4).toInt ≤ z.toInt) → (z.toInt ≤ (f 0).toInt) → ((f 68).toInt ≤ s.toInt) → (s.toInt + (f 4).toInt ≤ (f 68).toInt + z.toInt) → am_E (am_PP sc) (d + 5) 236 218 [some (.ref 39), some (.int w), some (.int x2), some (.int m3), some (.int p4), x5] [] S Q) (hx1 : ∀ (S : am_S) (x3 : Option Value) (x4 : Option Value) (x5 : Option Value) (z s u_ v_ : Int32) (gx : Nat → Nat → Int32), MS S0 S (upd (upd (upd (upd (upd f 4 z) 6 u_) 7 v_) 10 0) 68 s) gx → RJ (upd (upd (upd (upd (upd f 4 z) 6 u_) 7 v_) 10 0) 68 s) gx [] bc [] 0 [] → (∀ j, j ∉ [60, 69, 70, 71, 72, 73] → gx j = g j) → ((f 4).toInt ≤ z.toInt) → (z.toInt ≤ (f 0).toInt) → ((f 68).toInt ≤ s.toInt) → (s.toInt + (f 4).toInt ≤ (f 68).toInt + z.toInt) → am_E (am_PP sc) (d + 5) 236 146 [some (.ref 39), some (.int w), some (.int x2), x3, x4, x5] [] S Q) : ∀ (N : Nat) (S : am_S) (x5 : Option Value) (m3 p4 z s : Int32) (gx : Nat → Nat → Int32), MS S0 S (upd (upd f 4 z) 68 s) gx → RJ (upd (upd f 4 z) 68 s) gx gs bc fl fk pj → (∀ j, j ∉ [60, 69, 70, 71, 72, 73] → gx j = g j) → (m3 = 0 ∨ m3 = 1) → ((f 4).toInt ≤ z.toInt) → (z.toInt ≤ (f 0).toInt) → ((f 68).toInt ≤ s.toInt) → (s.toInt + (f 4).toInt ≤ (f 68).toInt + z.toInt) → ((0 : Int) ≤ m3.toInt) → (m3.toInt ≤ (1 : Int)) → (f 0).toInt - z.toInt < (N : Int) → am_E (am_PP sc) (d + 5) 236 85 [some (.ref 39), some (.int w), some (.int x2), some (.int m3), some (.int p4), x5] [] S Q := by
  intro N
  induction N with
  | zero =>
    intro S x5 m3 p4 z s gx hS hRl hx hm i0 i1 i2 i3 i4 i5 hN
    exfalso
    omega
  | succ N ih =>
    intro S x5 m3 p4 z s gx hS hRl hx hm i0 i1 i2 i3 i4 i5 hN
    refine am_e1 (v := m3) hi_236_85 rfl ?_
    by_cases c0 : ¬ m3.toInt = (0 : Int)
    · refine am_e12t hi_236_86 (am_cT (m := m3.toInt) (n := (0 : Int)) rfl (by decide) c0) ?_
      exact hx0 _ x5 m3 p4 z s _ hS hRl hx hm (by show (f 4).toInt ≤ z.toInt; omega) (by show z.toInt ≤ (f 0).toInt; omega) (by show (f 68).toInt ≤ s.toInt; omega) (by show s.toInt + (f 4).toInt ≤ (f 68).toInt + z.toInt; omega)
    · refine am_e12f hi_236_86 (am_cF (m := m3.toInt) (n := (0 : Int)) rfl (by decide) c0) ?_
      refine am_e2 (v := 39) hi_236_89 rfl ?_
      refine am_e32n (as := [.ref 39]) (la := [some (.ref 39)]) (rest := []) hi_236_90 (am_hd0 (M := 236) (by decide) 90) (Nat.le_of_ble_eq_true rfl) (Nat.le_of_ble_eq_true rfl) (show 1 ≤ am_P0.2.2.1 183 from by decide +kernel) rfl (am_recv_ok hS.fs) rfl rfl (ct_next (d := (d + 3)) hS   (by show (0 : Int) ≤ z.toInt; omega) (by show (f 0).toInt ≤ (16384 : Int); omega)) ?_
      rintro v1 S2 (⟨r3, hv4, hS5, h6⟩)
      subst hv4
      have h6_ : z.toInt < (f 0).toInt ∨ r3.toInt = (-1 : Int) := h6
      show am_E _ _ _ _ [some (.ref 39), some (.int w), some (.int x2), some (.int m3), some (.int p4), x5] [.int r3] _ _
      refine am_e0 hi_236_93 ?_
      by_cases c8 : r3.toInt = (70 : Int)
      · refine am_e13t hi_236_95 (am_cT (m := r3.toInt) (n := (70 : Int)) rfl (by decide) c8) ?_
        refine am_e2 (v := 39) hi_236_107 rfl ?_
        refine am_e32n (as := [.ref 39]) (la := [some (.ref 39)]) (rest := []) hi_236_108 (am_hd0 (M := 236) (by decide) 108) (Nat.le_of_ble_eq_true rfl) (Nat.le_of_ble_eq_true rfl) (show 1 ≤ am_P0.2.2.1 183 from by decide +kernel) rfl (am_recv_ok hS5.fs) rfl rfl (ct_next (d := (d + 3)) hS5   (by show (0 : Int) ≤ z.toInt; omega) (by show (f 0).toInt ≤ (16384 : Int); omega)) ?_
        rintro v9 S10 (⟨r11, hv12, hS13, h14⟩)
        subst hv12
        have h14_ : z.toInt < (f 0).toInt ∨ r11.toInt = (-1 : Int) := h14
        show am_E _ _ _ _ [some (.ref 39), some (.int w), some (.int x2), some (.int m3), some (.int p4), x5] [.int r11] _ _
        refine am_e0 hi_236_111 ?_
        by_cases c16 : ¬ r11.toInt = (68 : Int)
        · refine am_e13t hi_236_113 (am_cT (m := r11.toInt) (n := (68 : Int)) rfl (by decide) c16) ?_
          refine am_e0 hi_236_120 ?_
          refine am_e3 (ls' := [some (.ref 39), some (.int w), some (.int x2), some (.int 0), some (.int p4), x5]) hi_236_121 (Nat.le_of_ble_eq_true rfl) rfl ?_
          refine am_e2 (v := 39) hi_236_122 rfl ?_
          refine mm_20 (v := .int z) hS13 hi_236_123 rfl ?_
          refine am_e3 (ls' := [some (.ref 39), some (.int w), some (.int x2), some (.int 0), some (.int z), x5]) hi_236_126 (Nat.le_of_ble_eq_true rfl) rfl ?_
          refine am_e2 (v := 39) hi_236_128 rfl ?_
          refine am_e7 hi_236_129 ?_
          refine mm_20 (v := .int z) hS13 hi_236_130 rfl ?_
          refine am_e0 hi_236_133 ?_
          obtain ⟨z17, hz17, tz17⟩ := am_addI (x := z) (y := 1) (m := z.toInt) (n := (1 : Int)) rfl (by decide) (by omega) (by omega)
          refine am_e10 (z := z17) hi_236_134 hz17 ?_
          refine mm_21 (v := z17) hS13 hi_236_135 rfl (Nat.le_of_ble_eq_true rfl) ms_4 ?_
          intro S18 hS19
          replace hS19 : MS S0 S18 (upd (upd f 4 z17) 68 s) gx := hS19
          have hR20 : RJ (upd (upd f 4 z17) 68 s) gx gs bc fl fk pj := RJ.at hRl (by show z.toInt ≤ z17.toInt; omega)
          refine am_e2 (v := 39) hi_236_138 rfl ?_
          refine am_e0 hi_236_139 ?_
          refine am_e32n (as := [.ref 39, .int 1]) (la := [some (.ref 39), some (.int 1)]) (rest := []) hi_236_140 (am_hd0 (M := 236) (by decide) 140) (Nat.le_of_ble_eq_true rfl) (Nat.le_of_ble_eq_true rfl) (show 2 ≤ am_P0.2.2.1 200 from by decide +kernel) rfl (am_recv_ok hS19.fs) rfl rfl (ct_take (d := (d + 2)) hS19   (by show (0 : Int) ≤ z17.toInt; omega) (by show (f 0).toInt ≤ (16384 : Int); omega) (by show (0 : Int) ≤ (1 : Int); omega)) ?_
          rintro v21 S22 (⟨z23, hv24, hS25, h26, h27⟩ | ⟨a29, b30, hv31, hS32⟩)
          · subst hv24
            have h26_ : z23.toInt = z17.toInt + 1 := h26
            have h27_ : z17.toInt < (f 0).toInt := h27
            replace hS25 : MS S0 S22 (upd (upd f 4 z23) 68 s) gx := hS25
            have hR34 : RJ (upd (upd f 4 z23) 68 s) gx gs bc fl fk pj := RJ.at hR20 (by show z17.toInt ≤ z23.toInt; omega)
            show am_E _ _ _ _ [some (.ref 39), some (.int w), some (.int x2), some (.int 0), some (.int z), x5] [.int 1] _ _
            refine am_e12t hi_236_143 (by decide) ?_
            refine am_e1 (v := 0) hi_236_147 rfl ?_
            refine am_e12f hi_236_148 (by decide) ?_
            refine am_e2 (v := 39) hi_236_151 rfl ?_
            refine am_e32n (as := [.ref 39]) (la := [some (.ref 39)]) (rest := []) hi_236_152 (am_hd0 (M := 236) (by decide) 152) (Nat.le_of_ble_eq_true rfl) (Nat.le_of_ble_eq_true rfl) (show 1 ≤ am_P0.2.2.1 183 from by decide +kernel) rfl (am_recv_ok hS25.fs) rfl rfl (ct_next (d := (d + 3)) hS25   (by show (0 : Int) ≤ z23.toInt; omega) (by show (f 0).toInt ≤ (16384 : Int); omega)) ?_
            rintro v35 S36 (⟨r37, hv38, hS39, h40⟩)
            subst hv38
            have h40_ : z23.toInt < (f 0).toInt ∨ r37.toInt = (-1 : Int) := h40
            show am_E _ _ _ _ [some (.ref 39), some (.int w), some (.int x2), some (.int 0), some (.int z), x5] [.int r37] _ _
            refine am_e0 hi_236_155 ?_
            by_cases c42 : r37.toInt = (70 : Int)
            · refine am_e13t hi_236_157 (am_cT (m := r37.toInt) (n := (70 : Int)) rfl (by decide) c42) ?_
              refine am_e0 hi_236_173 ?_
              refine am_e3 (ls' := [some (.ref 39), some (.int w), some (.int x2), some (.int 0), some (.int z), some (.int 0)]) hi_236_174 (Nat.le_of_ble_eq_true rfl) rfl ?_
              refine am_e2 (v := 39) hi_236_176 rfl ?_
              refine am_e1 (v := 0) hi_236_177 rfl ?_
              refine am_e12t hi_236_179 (by decide) ?_
              refine am_e0 hi_236_186 ?_
              refine am_e2 (v := 39) hi_236_188 rfl ?_
              refine mm_20 (v := .ref 41) hS39 hi_236_189 rfl ?_
              refine am_e2 (v := 39) hi_236_192 rfl ?_
              refine mm_20 (v := .int z23) hS39 hi_236_193 rfl ?_
              refine am_e0 hi_236_196 ?_
              obtain ⟨z43, hz43, tz43⟩ := am_subI (x := z23) (y := 1) (m := z23.toInt) (n := (1 : Int)) rfl (by decide) (by omega) (by omega)
              refine am_e10 (z := z43) hi_236_197 hz43 ?_
              refine mm_25 hS39 ma_2 hi_236_198 (by decide) (by omega) (by omega) ?_
              show am_E _ _ _ _ _ (.int (gx 2 z43.toNatClampNeg) :: _) _ _
              rw [show gx 2 = g 2 from hx 2 (by decide)]
              show am_E _ _ _ _ [some (.ref 39), some (.int w), some (.int x2), some (.int 0), some (.int z), some (.int 0)] [.int (g 2 z43.toNatClampNeg), .int 12, .ref 39] _ _
              refine am_e0 hi_236_199 ?_
              refine am_e1 (v := 0) hi_236_200 rfl ?_
              refine am_e12t hi_236_202 (by decide) ?_
              refine am_e1 (v := z) hi_236_209 rfl ?_
              refine am_e32n (as := [.ref 39, .int 12, .int (g 2 z43.toNatClampNeg), .int 0, .int z]) (la := [some (.ref 39), some (.int 12), some (.int (g 2 z43.toNatClampNeg)), some (.int 0), some (.int z)]) (rest := []) hi_236_211 (am_hd0 (M := 236) (by decide) 211) (Nat.le_of_ble_eq_true rfl) (Nat.le_of_ble_eq_true rfl) (show 5 ≤ am_P0.2.2.1 189 from by decide +kernel) rfl (am_recv_ok hS39.fs) rfl rfl (ct_put (d := (d + 4)) hS39 hR34  (by show (0 : Int) ≤ (f 32).toInt; omega) (by show (f 32).toInt ≤ (63 : Int); omega) (by show (f 53).toInt ≤ (4096 : Int); omega) (by show (0 : Int) ≤ s.toInt; omega) (by show s.toInt ≤ (65534 : Int); omega)) ?_
              rintro v44 S45 (⟨z46, r47, g'48, hv49, hS50, hR54, h51, h52, h53⟩)
              subst hv49
              have h51_ : z46.toInt = s.toInt + 1 := h51
              have h52_ : r47.toInt = s.toInt := h52
              have h53_ : ∀ j, j ∉ [60, 69, 70, 71, 72, 73] → g'48 j = gx j := h53
              replace hS50 : MS S0 S45 (upd (upd f 4 z23) 68 z46) g'48 := hS50
              have hR54_ : RJ (upd (upd f 4 z23) 68 z46) g'48 gs bc fl fk (s.toNatClampNeg :: pj) := hR54
              show am_E _ _ _ _ [some (.ref 39), some (.int w), some (.int x2), some (.int 0), some (.int z), some (.int 0)] [.int r47] _ _
              refine am_e6i hi_236_214 ?_
              refine am_e18 hi_236_215 ?_
              exact ih _ (some (.int 0)) 0 z z23 z46 _ hS50 (RJ.fewer hR54_ (fun j hj => by simp only [List.mem_cons]; simp only [hj, or_true])) (fun j hj => (h53_ j hj).trans (hx j hj)) (by decide) (by show (f 4).toInt ≤ z23.toInt; omega) (by show z23.toInt ≤ (f 0).toInt; omega) (by show (f 68).toInt ≤ z46.toInt; omega) (by show z46.toInt + (f 4).toInt ≤ (f 68).toInt + z23.toInt; omega) (by show (0 : Int) ≤ (0 : Int); omega) (by show (0 : Int) ≤ (1 : Int); omega) (by show (f 0).toInt - z23.toInt < (N : Int); omega)
            · refine am_e13f hi_236_157 (am_cF (m := r37.toInt) (n := (70 : Int)) rfl (by decide) c42) ?_
              refine am_e2 (v := 39) hi_236_160 rfl ?_
              refine am_e32n (as := [.ref 39]) (la := [some (.ref 39)]) (rest := []) hi_236_161 (am_hd0 (M := 236) (by decide) 161) (Nat.le_of_ble_eq_true rfl) (Nat.le_of_ble_eq_true rfl) (show 1 ≤ am_P0.2.2.1 183 from by decide +kernel) rfl (am_recv_ok hS39.fs) rfl rfl (ct_next (d := (d + 3)) hS39   (by show (0 : Int) ≤ z23.toInt; omega) (by show (f 0).toInt ≤ (16384 : Int); omega)) ?_
              rintro v55 S56 (⟨r57, hv58, hS59, h60⟩)
              subst hv58
              have h60_ : z23.toInt < (f 0).toInt ∨ r57.toInt = (-1 : Int) := h60
              show am_E _ _ _ _ [some (.ref 39), some (.int w), some (.int x2), some (.int 0), some (.int z), x5] [.int r57] _ _
              refine am_e0 hi_236_164 ?_
              by_cases c62 : r57.toInt = (68 : Int)
              · refine am_e13t hi_236_166 (am_cT (m := r57.toInt) (n := (68 : Int)) rfl (by decide) c62) ?_
                refine am_e0 hi_236_173 ?_
                refine am_e3 (ls' := [some (.ref 39), some (.int w), some (.int x2), some (.int 0), some (.int z), some (.int 0)]) hi_236_174 (Nat.le_of_ble_eq_true rfl) rfl ?_
                refine am_e2 (v := 39) hi_236_176 rfl ?_
                refine am_e1 (v := 0) hi_236_177 rfl ?_
                refine am_e12t hi_236_179 (by decide) ?_
                refine am_e0 hi_236_186 ?_
                refine am_e2 (v := 39) hi_236_188 rfl ?_
                refine mm_20 (v := .ref 41) hS59 hi_236_189 rfl ?_
                refine am_e2 (v := 39) hi_236_192 rfl ?_
                refine mm_20 (v := .int z23) hS59 hi_236_193 rfl ?_
                refine am_e0 hi_236_196 ?_
                obtain ⟨z63, hz63, tz63⟩ := am_subI (x := z23) (y := 1) (m := z23.toInt) (n := (1 : Int)) rfl (by decide) (by omega) (by omega)
                refine am_e10 (z := z63) hi_236_197 hz63 ?_
                refine mm_25 hS59 ma_2 hi_236_198 (by decide) (by omega) (by omega) ?_
                show am_E _ _ _ _ _ (.int (gx 2 z63.toNatClampNeg) :: _) _ _
                rw [show gx 2 = g 2 from hx 2 (by decide)]
                show am_E _ _ _ _ [some (.ref 39), some (.int w), some (.int x2), some (.int 0), some (.int z), some (.int 0)] [.int (g 2 z63.toNatClampNeg), .int 12, .ref 39] _ _
                refine am_e0 hi_236_199 ?_
                refine am_e1 (v := 0) hi_236_200 rfl ?_
                refine am_e12t hi_236_202 (by decide) ?_
                refine am_e1 (v := z) hi_236_209 rfl ?_
                refine am_e32n (as := [.ref 39, .int 12, .int (g 2 z63.toNatClampNeg), .int 0, .int z]) (la := [some (.ref 39), some (.int 12), some (.int (g 2 z63.toNatClampNeg)), some (.int 0), some (.int z)]) (rest := []) hi_236_211 (am_hd0 (M := 236) (by decide) 211) (Nat.le_of_ble_eq_true rfl) (Nat.le_of_ble_eq_true rfl) (show 5 ≤ am_P0.2.2.1 189 from by decide +kernel) rfl (am_recv_ok hS59.fs) rfl rfl (ct_put (d := (d + 4)) hS59 hR34  (by show (0 : Int) ≤ (f 32).toInt; omega) (by show (f 32).toInt ≤ (63 : Int); omega) (by show (f 53).toInt ≤ (4096 : Int); omega) (by show (0 : Int) ≤ s.toInt; omega) (by show s.toInt ≤ (65534 : Int); omega)) ?_
                rintro v64 S65 (⟨z66, r67, g'68, hv69, hS70, hR74, h71, h72, h73⟩)
                subst hv69
                have h71_ : z66.toInt = s.toInt + 1 := h71
                have h72_ : r67.toInt = s.toInt := h72
                have h73_ : ∀ j, j ∉ [60, 69, 70, 71, 72, 73] → g'68 j = gx j := h73
                replace hS70 : MS S0 S65 (upd (upd f 4 z23) 68 z66) g'68 := hS70
                have hR74_ : RJ (upd (upd f 4 z23) 68 z66) g'68 gs bc fl fk (s.toNatClampNeg :: pj) := hR74
                show am_E _ _ _ _ [some (.ref 39), some (.int w), some (.int x2), some (.int 0), some (.int z), some (.int 0)] [.int r67] _ _
                refine am_e6i hi_236_214 ?_
                refine am_e18 hi_236_215 ?_
                exact ih _ (some (.int 0)) 0 z z23 z66 _ hS70 (RJ.fewer hR74_ (fun j hj => by simp only [List.mem_cons]; simp only [hj, or_true])) (fun j hj => (h73_ j hj).trans (hx j hj)) (by decide) (by show (f 4).toInt ≤ z23.toInt; omega) (by show z23.toInt ≤ (f 0).toInt; omega) (by show (f 68).toInt ≤ z66.toInt; omega) (by show z66.toInt + (f 4).toInt ≤ (f 68).toInt + z23.toInt; omega) (by show (0 : Int) ≤ (0 : Int); omega) (by show (0 : Int) ≤ (1 : Int); omega) (by show (f 0).toInt - z23.toInt < (N : Int); omega)
              · refine am_e13f hi_236_166 (am_cF (m := r57.toInt) (n := (68 : Int)) rfl (by decide) c62) ?_
                refine am_e0 hi_236_169 ?_
                refine am_e18 hi_236_170 ?_
                refine am_e3 (ls' := [some (.ref 39), some (.int w), some (.int x2), some (.int 0), some (.int z), some (.int 1)]) hi_236_174 (Nat.le_of_ble_eq_true rfl) rfl ?_
                refine am_e2 (v := 39) hi_236_176 rfl ?_
                refine am_e1 (v := 1) hi_236_177 rfl ?_
                refine am_e12f hi_236_179 (by decide) ?_
                refine am_e0 hi_236_182 ?_
                refine am_e18 hi_236_183 ?_
                refine am_e2 (v := 39) hi_236_188 rfl ?_
                refine mm_20 (v := .ref 41) hS59 hi_236_189 rfl ?_
                refine am_e2 (v := 39) hi_236_192 rfl ?_
                refine mm_20 (v := .int z23) hS59 hi_236_193 rfl ?_
                refine am_e0 hi_236_196 ?_
                obtain ⟨z75, hz75, tz75⟩ := am_subI (x := z23) (y := 1) (m := z23.toInt) (n := (1 : Int)) rfl (by decide) (by omega) (by omega)
                refine am_e10 (z := z75) hi_236_197 hz75 ?_
                refine mm_25 hS59 ma_2 hi_236_198 (by decide) (by omega) (by omega) ?_
                show am_E _ _ _ _ _ (.int (gx 2 z75.toNatClampNeg) :: _) _ _
                rw [show gx 2 = g 2 from hx 2 (by decide)]
                show am_E _ _ _ _ [some (.ref 39), some (.int w), some (.int x2), some (.int 0), some (.int z), some (.int 1)] [.int (g 2 z75.toNatClampNeg), .int 5, .ref 39] _ _
                refine am_e0 hi_236_199 ?_
                refine am_e1 (v := 1) hi_236_200 rfl ?_
                refine am_e12f hi_236_202 (by decide) ?_
                refine am_e0 hi_236_205 ?_
                refine am_e18 hi_236_206 ?_
                refine am_e32n (as := [.ref 39, .int 5, .int (g 2 z75.toNatClampNeg), .int 0, .int 0]) (la := [some (.ref 39), some (.int 5), some (.int (g 2 z75.toNatClampNeg)), some (.int 0), some (.int 0)]) (rest := []) hi_236_211 (am_hd0 (M := 236) (by decide) 211) (Nat.le_of_ble_eq_true rfl) (Nat.le_of_ble_eq_true rfl) (show 5 ≤ am_P0.2.2.1 189 from by decide +kernel) rfl (am_recv_ok hS59.fs) rfl rfl (ct_put (d := (d + 4)) hS59 hR34  (by show (0 : Int) ≤ (f 32).toInt; omega) (by show (f 32).toInt ≤ (63 : Int); omega) (by show (f 53).toInt ≤ (4096 : Int); omega) (by show (0 : Int) ≤ s.toInt; omega) (by show s.toInt ≤ (65534 : Int); omega)) ?_
                rintro v76 S77 (⟨z78, r79, g'80, hv81, hS82, hR86, h83, h84, h85⟩)
                subst hv81
                have h83_ : z78.toInt = s.toInt + 1 := h83
                have h84_ : r79.toInt = s.toInt := h84
                have h85_ : ∀ j, j ∉ [60, 69, 70, 71, 72, 73] → g'80 j = gx j := h85
                replace hS82 : MS S0 S77 (upd (upd f 4 z23) 68 z78) g'80 := hS82
                have hR86_ : RJ (upd (upd f 4 z23) 68 z78) g'80 gs bc fl fk (s.toNatClampNeg :: pj) := hR86
                show am_E _ _ _ _ [some (.ref 39), some (.int w), some (.int x2), some (.int 0), some (.int z), some (.int 1)] [.int r79] _ _
                refine am_e6i hi_236_214 ?_
                refine am_e18 hi_236_215 ?_
                exact ih _ (some (.int 1)) 0 z z23 z78 _ hS82 (RJ.fewer hR86_ (fun j hj => by simp only [List.mem_cons]; simp only [hj, or_true])) (fun j hj => (h85_ j hj).trans (hx j hj)) (by decide) (by show (f 4).toInt ≤ z23.toInt; omega) (by show z23.toInt ≤ (f 0).toInt; omega) (by show (f 68).toInt ≤ z78.toInt; omega) (by show z78.toInt + (f 4).toInt ≤ (f 68).toInt + z23.toInt; omega) (by show (0 : Int) ≤ (0 : Int); omega) (by show (0 : Int) ≤ (1 : Int); omega) (by show (f 0).toInt - z23.toInt < (N : Int); omega)
          · subst hv31
            replace hS32 : MS S0 S22 (upd (upd (upd (upd (upd f 4 z17) 6 a29) 7 b30) 10 0) 68 s) gx := hS32
            have hR87 := rj_clear0 hR20
            have hR88 : RJ (upd (upd (upd (upd (upd f 4 z17) 6 a29) 7 b30) 10 0) 68 s) gx [] bc [] 0 [] := hR87
            show am_E _ _ _ _ [some (.ref 39), some (.int w), some (.int x2), some (.int 0), some (.int z), x5] [.int 0] _ _
            refine am_e12f hi_236_143 (by decide) ?_
            exact hx1 _ (some (.int 0)) (some (.int z)) x5 z17 s a29 b30 _ hS32 hR88 hx (by show (f 4).toInt ≤ z17.toInt; omega) (by show z17.toInt ≤ (f 0).toInt; omega) (by show (f 68).toInt ≤ s.toInt; omega) (by show s.toInt + (f 4).toInt ≤ (f 68).toInt + z17.toInt; omega)
        · refine am_e13f hi_236_113 (am_cF (m := r11.toInt) (n := (68 : Int)) rfl (by decide) c16) ?_
          refine am_e0 hi_236_116 ?_
          refine am_e18 hi_236_117 ?_
          refine am_e3 (ls' := [some (.ref 39), some (.int w), some (.int x2), some (.int 1), some (.int p4), x5]) hi_236_121 (Nat.le_of_ble_eq_true rfl) rfl ?_
          refine am_e2 (v := 39) hi_236_122 rfl ?_
          refine mm_20 (v := .int z) hS13 hi_236_123 rfl ?_
          refine am_e3 (ls' := [some (.ref 39), some (.int w), some (.int x2), some (.int 1), some (.int z), x5]) hi_236_126 (Nat.le_of_ble_eq_true rfl) rfl ?_
          refine am_e2 (v := 39) hi_236_128 rfl ?_
          refine am_e7 hi_236_129 ?_
          refine mm_20 (v := .int z) hS13 hi_236_130 rfl ?_
          refine am_e0 hi_236_133 ?_
          obtain ⟨z89, hz89, tz89⟩ := am_addI (x := z) (y := 1) (m := z.toInt) (n := (1 : Int)) rfl (by decide) (by omega) (by omega)
          refine am_e10 (z := z89) hi_236_134 hz89 ?_
          refine mm_21 (v := z89) hS13 hi_236_135 rfl (Nat.le_of_ble_eq_true rfl) ms_4 ?_
          intro S90 hS91
          replace hS91 : MS S0 S90 (upd (upd f 4 z89) 68 s) gx := hS91
          have hR92 : RJ (upd (upd f 4 z89) 68 s) gx gs bc fl fk pj := RJ.at hRl (by show z.toInt ≤ z89.toInt; omega)
          refine am_e2 (v := 39) hi_236_138 rfl ?_
          refine am_e0 hi_236_139 ?_
          refine am_e32n (as := [.ref 39, .int 1]) (la := [some (.ref 39), some (.int 1)]) (rest := []) hi_236_140 (am_hd0 (M := 236) (by decide) 140) (Nat.le_of_ble_eq_true rfl) (Nat.le_of_ble_eq_true rfl) (show 2 ≤ am_P0.2.2.1 200 from by decide +kernel) rfl (am_recv_ok hS91.fs) rfl rfl (ct_take (d := (d + 2)) hS91   (by show (0 : Int) ≤ z89.toInt; omega) (by show (f 0).toInt ≤ (16384 : Int); omega) (by show (0 : Int) ≤ (1 : Int); omega)) ?_
          rintro v93 S94 (⟨z95, hv96, hS97, h98, h99⟩ | ⟨a101, b102, hv103, hS104⟩)
          · subst hv96
            have h98_ : z95.toInt = z89.toInt + 1 := h98
            have h99_ : z89.toInt < (f 0).toInt := h99
            replace hS97 : MS S0 S94 (upd (upd f 4 z95) 68 s) gx := hS97
            have hR106 : RJ (upd (upd f 4 z95) 68 s) gx gs bc fl fk pj := RJ.at hR92 (by show z89.toInt ≤ z95.toInt; omega)
            show am_E _ _ _ _ [some (.ref 39), some (.int w), some (.int x2), some (.int 1), some (.int z), x5] [.int 1] _ _
            refine am_e12t hi_236_143 (by decide) ?_
            refine am_e1 (v := 1) hi_236_147 rfl ?_
            refine am_e12t hi_236_148 (by decide) ?_
            refine am_e0 hi_236_169 ?_
            refine am_e18 hi_236_170 ?_
            refine am_e3 (ls' := [some (.ref 39), some (.int w), some (.int x2), some (.int 1), some (.int z), some (.int 1)]) hi_236_174 (Nat.le_of_ble_eq_true rfl) rfl ?_
            refine am_e2 (v := 39) hi_236_176 rfl ?_
            refine am_e1 (v := 1) hi_236_177 rfl ?_
            refine am_e12f hi_236_179 (by decide) ?_
            refine am_e0 hi_236_182 ?_
            refine am_e18 hi_236_183 ?_
            refine am_e2 (v := 39) hi_236_188 rfl ?_
            refine mm_20 (v := .ref 41) hS97 hi_236_189 rfl ?_
            refine am_e2 (v := 39) hi_236_192 rfl ?_
            refine mm_20 (v := .int z95) hS97 hi_236_193 rfl ?_
            refine am_e0 hi_236_196 ?_
            obtain ⟨z107, hz107, tz107⟩ := am_subI (x := z95) (y := 1) (m := z95.toInt) (n := (1 : Int)) rfl (by decide) (by omega) (by omega)
            refine am_e10 (z := z107) hi_236_197 hz107 ?_
            refine mm_25 hS97 ma_2 hi_236_198 (by decide) (by omega) (by omega) ?_
            show am_E _ _ _ _ _ (.int (gx 2 z107.toNatClampNeg) :: _) _ _
            rw [show gx 2 = g 2 from hx 2 (by decide)]
            show am_E _ _ _ _ [some (.ref 39), some (.int w), some (.int x2), some (.int 1), some (.int z), some (.int 1)] [.int (g 2 z107.toNatClampNeg), .int 5, .ref 39] _ _
            refine am_e0 hi_236_199 ?_
            refine am_e1 (v := 1) hi_236_200 rfl ?_
            refine am_e12f hi_236_202 (by decide) ?_
            refine am_e0 hi_236_205 ?_
            refine am_e18 hi_236_206 ?_
            refine am_e32n (as := [.ref 39, .int 5, .int (g 2 z107.toNatClampNeg), .int 0, .int 0]) (la := [some (.ref 39), some (.int 5), some (.int (g 2 z107.toNatClampNeg)), some (.int 0), some (.int 0)]) (rest := []) hi_236_211 (am_hd0 (M := 236) (by decide) 211) (Nat.le_of_ble_eq_true rfl) (Nat.le_of_ble_eq_true rfl) (show 5 ≤ am_P0.2.2.1 189 from by decide +kernel) rfl (am_recv_ok hS97.fs) rfl rfl (ct_put (d := (d + 4)) hS97 hR106  (by show (0 : Int) ≤ (f 32).toInt; omega) (by show (f 32).toInt ≤ (63 : Int); omega) (by show (f 53).toInt ≤ (4096 : Int); omega) (by show (0 : Int) ≤ s.toInt; omega) (by show s.toInt ≤ (65534 : Int); omega)) ?_
            rintro v108 S109 (⟨z110, r111, g'112, hv113, hS114, hR118, h115, h116, h117⟩)
            subst hv113
            have h115_ : z110.toInt = s.toInt + 1 := h115
            have h116_ : r111.toInt = s.toInt := h116
            have h117_ : ∀ j, j ∉ [60, 69, 70, 71, 72, 73] → g'112 j = gx j := h117
            replace hS114 : MS S0 S109 (upd (upd f 4 z95) 68 z110) g'112 := hS114
            have hR118_ : RJ (upd (upd f 4 z95) 68 z110) g'112 gs bc fl fk (s.toNatClampNeg :: pj) := hR118
            show am_E _ _ _ _ [some (.ref 39), some (.int w), some (.int x2), some (.int 1), some (.int z), some (.int 1)] [.int r111] _ _
            refine am_e6i hi_236_214 ?_
            refine am_e18 hi_236_215 ?_
            exact ih _ (some (.int 1)) 1 z z95 z110 _ hS114 (RJ.fewer hR118_ (fun j hj => by simp only [List.mem_cons]; simp only [hj, or_true])) (fun j hj => (h117_ j hj).trans (hx j hj)) (by decide) (by show (f 4).toInt ≤ z95.toInt; omega) (by show z95.toInt ≤ (f 0).toInt; omega) (by show (f 68).toInt ≤ z110.toInt; omega) (by show z110.toInt + (f 4).toInt ≤ (f 68).toInt + z95.toInt; omega) (by show (0 : Int) ≤ (1 : Int); omega) (by show (1 : Int) ≤ (1 : Int); omega) (by show (f 0).toInt - z95.toInt < (N : Int); omega)
          · subst hv103
            replace hS104 : MS S0 S94 (upd (upd (upd (upd (upd f 4 z89) 6 a101) 7 b102) 10 0) 68 s) gx := hS104
            have hR119 := rj_clear0 hR92
            have hR120 : RJ (upd (upd (upd (upd (upd f 4 z89) 6 a101) 7 b102) 10 0) 68 s) gx [] bc [] 0 [] := hR119
            show am_E _ _ _ _ [some (.ref 39), some (.int w), some (.int x2), some (.int 1), some (.int z), x5] [.int 0] _ _
            refine am_e12f hi_236_143 (by decide) ?_
            exact hx1 _ (some (.int 1)) (some (.int z)) x5 z89 s a101 b102 _ hS104 hR120 hx (by show (f 4).toInt ≤ z89.toInt; omega) (by show z89.toInt ≤ (f 0).toInt; omega) (by show (f 68).toInt ≤ s.toInt; omega) (by show s.toInt + (f 4).toInt ≤ (f 68).toInt + z89.toInt; omega)
      · refine am_e13f hi_236_95 (am_cF (m := r3.toInt) (n := (70 : Int)) rfl (by decide) c8) ?_
        refine am_e2 (v := 39) hi_236_98 rfl ?_
        refine am_e32n (as := [.ref 39]) (la := [some (.ref 39)]) (rest := []) hi_236_99 (am_hd0 (M := 236) (by decide) 99) (Nat.le_of_ble_eq_true rfl) (Nat.le_of_ble_eq_true rfl) (show 1 ≤ am_P0.2.2.1 183 from by decide +kernel) rfl (am_recv_ok hS5.fs) rfl rfl (ct_next (d := (d + 3)) hS5   (by show (0 : Int) ≤ z.toInt; omega) (by show (f 0).toInt ≤ (16384 : Int); omega)) ?_
        rintro v121 S122 (⟨r123, hv124, hS125, h126⟩)
        subst hv124
        have h126_ : z.toInt < (f 0).toInt ∨ r123.toInt = (-1 : Int) := h126
        show am_E _ _ _ _ [some (.ref 39), some (.int w), some (.int x2), some (.int m3), some (.int p4), x5] [.int r123] _ _
        refine am_e0 hi_236_102 ?_
        by_cases c128 : ¬ r123.toInt = (68 : Int)
        · refine am_e13t hi_236_104 (am_cT (m := r123.toInt) (n := (68 : Int)) rfl (by decide) c128) ?_
          exact hx0 _ x5 m3 p4 z s _ hS125 hRl hx hm (by show (f 4).toInt ≤ z.toInt; omega) (by show z.toInt ≤ (f 0).toInt; omega) (by show (f 68).toInt ≤ s.toInt; omega) (by show s.toInt + (f 4).toInt ≤ (f 68).toInt + z.toInt; omega)
        · refine am_e13f hi_236_104 (am_cF (m := r123.toInt) (n := (68 : Int)) rfl (by decide) c128) ?_
          refine am_e2 (v := 39) hi_236_107 rfl ?_
          refine am_e32n (as := [.ref 39]) (la := [some (.ref 39)]) (rest := []) hi_236_108 (am_hd0 (M := 236) (by decide) 108) (Nat.le_of_ble_eq_true rfl) (Nat.le_of_ble_eq_true rfl) (show 1 ≤ am_P0.2.2.1 183 from by decide +kernel) rfl (am_recv_ok hS125.fs) rfl rfl (ct_next (d := (d + 3)) hS125   (by show (0 : Int) ≤ z.toInt; omega) (by show (f 0).toInt ≤ (16384 : Int); omega)) ?_
          rintro v129 S130 (⟨r131, hv132, hS133, h134⟩)
          subst hv132
          have h134_ : z.toInt < (f 0).toInt ∨ r131.toInt = (-1 : Int) := h134
          show am_E _ _ _ _ [some (.ref 39), some (.int w), some (.int x2), some (.int m3), some (.int p4), x5] [.int r131] _ _
          refine am_e0 hi_236_111 ?_
          by_cases c136 : ¬ r131.toInt = (68 : Int)
          · refine am_e13t hi_236_113 (am_cT (m := r131.toInt) (n := (68 : Int)) rfl (by decide) c136) ?_
            refine am_e0 hi_236_120 ?_
            refine am_e3 (ls' := [some (.ref 39), some (.int w), some (.int x2), some (.int 0), some (.int p4), x5]) hi_236_121 (Nat.le_of_ble_eq_true rfl) rfl ?_
            refine am_e2 (v := 39) hi_236_122 rfl ?_
            refine mm_20 (v := .int z) hS133 hi_236_123 rfl ?_
            refine am_e3 (ls' := [some (.ref 39), some (.int w), some (.int x2), some (.int 0), some (.int z), x5]) hi_236_126 (Nat.le_of_ble_eq_true rfl) rfl ?_
            refine am_e2 (v := 39) hi_236_128 rfl ?_
            refine am_e7 hi_236_129 ?_
            refine mm_20 (v := .int z) hS133 hi_236_130 rfl ?_
            refine am_e0 hi_236_133 ?_
            obtain ⟨z137, hz137, tz137⟩ := am_addI (x := z) (y := 1) (m := z.toInt) (n := (1 : Int)) rfl (by decide) (by omega) (by omega)
            refine am_e10 (z := z137) hi_236_134 hz137 ?_
            refine mm_21 (v := z137) hS133 hi_236_135 rfl (Nat.le_of_ble_eq_true rfl) ms_4 ?_
            intro S138 hS139
            replace hS139 : MS S0 S138 (upd (upd f 4 z137) 68 s) gx := hS139
            have hR140 : RJ (upd (upd f 4 z137) 68 s) gx gs bc fl fk pj := RJ.at hRl (by show z.toInt ≤ z137.toInt; omega)
            refine am_e2 (v := 39) hi_236_138 rfl ?_
            refine am_e0 hi_236_139 ?_
            refine am_e32n (as := [.ref 39, .int 1]) (la := [some (.ref 39), some (.int 1)]) (rest := []) hi_236_140 (am_hd0 (M := 236) (by decide) 140) (Nat.le_of_ble_eq_true rfl) (Nat.le_of_ble_eq_true rfl) (show 2 ≤ am_P0.2.2.1 200 from by decide +kernel) rfl (am_recv_ok hS139.fs) rfl rfl (ct_take (d := (d + 2)) hS139   (by show (0 : Int) ≤ z137.toInt; omega) (by show (f 0).toInt ≤ (16384 : Int); omega) (by show (0 : Int) ≤ (1 : Int); omega)) ?_
            rintro v141 S142 (⟨z143, hv144, hS145, h146, h147⟩ | ⟨a149, b150, hv151, hS152⟩)
            · subst hv144
              have h146_ : z143.toInt = z137.toInt + 1 := h146
              have h147_ : z137.toInt < (f 0).toInt := h147
              replace hS145 : MS S0 S142 (upd (upd f 4 z143) 68 s) gx := hS145
              have hR154 : RJ (upd (upd f 4 z143) 68 s) gx gs bc fl fk pj := RJ.at hR140 (by show z137.toInt ≤ z143.toInt; omega)
              show am_E _ _ _ _ [some (.ref 39), some (.int w), some (.int x2), some (.int 0), some (.int z), x5] [.int 1] _ _
              refine am_e12t hi_236_143 (by decide) ?_
              refine am_e1 (v := 0) hi_236_147 rfl ?_
              refine am_e12f hi_236_148 (by decide) ?_
              refine am_e2 (v := 39) hi_236_151 rfl ?_
              refine am_e32n (as := [.ref 39]) (la := [some (.ref 39)]) (rest := []) hi_236_152 (am_hd0 (M := 236) (by decide) 152) (Nat.le_of_ble_eq_true rfl) (Nat.le_of_ble_eq_true rfl) (show 1 ≤ am_P0.2.2.1 183 from by decide +kernel) rfl (am_recv_ok hS145.fs) rfl rfl (ct_next (d := (d + 3)) hS145   (by show (0 : Int) ≤ z143.toInt; omega) (by show (f 0).toInt ≤ (16384 : Int); omega)) ?_
              rintro v155 S156 (⟨r157, hv158, hS159, h160⟩)
              subst hv158
              have h160_ : z143.toInt < (f 0).toInt ∨ r157.toInt = (-1 : Int) := h160
              show am_E _ _ _ _ [some (.ref 39), some (.int w), some (.int x2), some (.int 0), some (.int z), x5] [.int r157] _ _
              refine am_e0 hi_236_155 ?_
              by_cases c162 : r157.toInt = (70 : Int)
              · refine am_e13t hi_236_157 (am_cT (m := r157.toInt) (n := (70 : Int)) rfl (by decide) c162) ?_
                refine am_e0 hi_236_173 ?_
                refine am_e3 (ls' := [some (.ref 39), some (.int w), some (.int x2), some (.int 0), some (.int z), some (.int 0)]) hi_236_174 (Nat.le_of_ble_eq_true rfl) rfl ?_
                refine am_e2 (v := 39) hi_236_176 rfl ?_
                refine am_e1 (v := 0) hi_236_177 rfl ?_
                refine am_e12t hi_236_179 (by decide) ?_
                refine am_e0 hi_236_186 ?_
                refine am_e2 (v := 39) hi_236_188 rfl ?_
                refine mm_20 (v := .ref 41) hS159 hi_236_189 rfl ?_
                refine am_e2 (v := 39) hi_236_192 rfl ?_
                refine mm_20 (v := .int z143) hS159 hi_236_193 rfl ?_
                refine am_e0 hi_236_196 ?_
                obtain ⟨z163, hz163, tz163⟩ := am_subI (x := z143) (y := 1) (m := z143.toInt) (n := (1 : Int)) rfl (by decide) (by omega) (by omega)
                refine am_e10 (z := z163) hi_236_197 hz163 ?_
                refine mm_25 hS159 ma_2 hi_236_198 (by decide) (by omega) (by omega) ?_
                show am_E _ _ _ _ _ (.int (gx 2 z163.toNatClampNeg) :: _) _ _
                rw [show gx 2 = g 2 from hx 2 (by decide)]
                show am_E _ _ _ _ [some (.ref 39), some (.int w), some (.int x2), some (.int 0), some (.int z), some (.int 0)] [.int (g 2 z163.toNatClampNeg), .int 12, .ref 39] _ _
                refine am_e0 hi_236_199 ?_
                refine am_e1 (v := 0) hi_236_200 rfl ?_
                refine am_e12t hi_236_202 (by decide) ?_
                refine am_e1 (v := z) hi_236_209 rfl ?_
                refine am_e32n (as := [.ref 39, .int 12, .int (g 2 z163.toNatClampNeg), .int 0, .int z]) (la := [some (.ref 39), some (.int 12), some (.int (g 2 z163.toNatClampNeg)), some (.int 0), some (.int z)]) (rest := []) hi_236_211 (am_hd0 (M := 236) (by decide) 211) (Nat.le_of_ble_eq_true rfl) (Nat.le_of_ble_eq_true rfl) (show 5 ≤ am_P0.2.2.1 189 from by decide +kernel) rfl (am_recv_ok hS159.fs) rfl rfl (ct_put (d := (d + 4)) hS159 hR154  (by show (0 : Int) ≤ (f 32).toInt; omega) (by show (f 32).toInt ≤ (63 : Int); omega) (by show (f 53).toInt ≤ (4096 : Int); omega) (by show (0 : Int) ≤ s.toInt; omega) (by show s.toInt ≤ (65534 : Int); omega)) ?_
                rintro v164 S165 (⟨z166, r167, g'168, hv169, hS170, hR174, h171, h172, h173⟩)
                subst hv169
                have h171_ : z166.toInt = s.toInt + 1 := h171
                have h172_ : r167.toInt = s.toInt := h172
                have h173_ : ∀ j, j ∉ [60, 69, 70, 71, 72, 73] → g'168 j = gx j := h173
                replace hS170 : MS S0 S165 (upd (upd f 4 z143) 68 z166) g'168 := hS170
                have hR174_ : RJ (upd (upd f 4 z143) 68 z166) g'168 gs bc fl fk (s.toNatClampNeg :: pj) := hR174
                show am_E _ _ _ _ [some (.ref 39), some (.int w), some (.int x2), some (.int 0), some (.int z), some (.int 0)] [.int r167] _ _
                refine am_e6i hi_236_214 ?_
                refine am_e18 hi_236_215 ?_
                exact ih _ (some (.int 0)) 0 z z143 z166 _ hS170 (RJ.fewer hR174_ (fun j hj => by simp only [List.mem_cons]; simp only [hj, or_true])) (fun j hj => (h173_ j hj).trans (hx j hj)) (by decide) (by show (f 4).toInt ≤ z143.toInt; omega) (by show z143.toInt ≤ (f 0).toInt; omega) (by show (f 68).toInt ≤ z166.toInt; omega) (by show z166.toInt + (f 4).toInt ≤ (f 68).toInt + z143.toInt; omega) (by show (0 : Int) ≤ (0 : Int); omega) (by show (0 : Int) ≤ (1 : Int); omega) (by show (f 0).toInt - z143.toInt < (N : Int); omega)
              · refine am_e13f hi_236_157 (am_cF (m := r157.toInt) (n := (70 : Int)) rfl (by decide) c162) ?_
                refine am_e2 (v := 39) hi_236_160 rfl ?_
                refine am_e32n (as := [.ref 39]) (la := [some (.ref 39)]) (rest := []) hi_236_161 (am_hd0 (M := 236) (by decide) 161) (Nat.le_of_ble_eq_true rfl) (Nat.le_of_ble_eq_true rfl) (show 1 ≤ am_P0.2.2.1 183 from by decide +kernel) rfl (am_recv_ok hS159.fs) rfl rfl (ct_next (d := (d + 3)) hS159   (by show (0 : Int) ≤ z143.toInt; omega) (by show (f 0).toInt ≤ (16384 : Int); omega)) ?_
                rintro v175 S176 (⟨r177, hv178, hS179, h180⟩)
                subst hv178
                have h180_ : z143.toInt < (f 0).toInt ∨ r177.toInt = (-1 : Int) := h180
                show am_E _ _ _ _ [some (.ref 39), some (.int w), some (.int x2), some (.int 0), some (.int z), x5] [.int r177] _ _
                refine am_e0 hi_236_164 ?_
                by_cases c182 : r177.toInt = (68 : Int)
                · refine am_e13t hi_236_166 (am_cT (m := r177.toInt) (n := (68 : Int)) rfl (by decide) c182) ?_
                  refine am_e0 hi_236_173 ?_
                  refine am_e3 (ls' := [some (.ref 39), some (.int w), some (.int x2), some (.int 0), some (.int z), some (.int 0)]) hi_236_174 (Nat.le_of_ble_eq_true rfl) rfl ?_
                  refine am_e2 (v := 39) hi_236_176 rfl ?_
                  refine am_e1 (v := 0) hi_236_177 rfl ?_
                  refine am_e12t hi_236_179 (by decide) ?_
                  refine am_e0 hi_236_186 ?_
                  refine am_e2 (v := 39) hi_236_188 rfl ?_
                  refine mm_20 (v := .ref 41) hS179 hi_236_189 rfl ?_
                  refine am_e2 (v := 39) hi_236_192 rfl ?_
                  refine mm_20 (v := .int z143) hS179 hi_236_193 rfl ?_
                  refine am_e0 hi_236_196 ?_
                  obtain ⟨z183, hz183, tz183⟩ := am_subI (x := z143) (y := 1) (m := z143.toInt) (n := (1 : Int)) rfl (by decide) (by omega) (by omega)
                  refine am_e10 (z := z183) hi_236_197 hz183 ?_
                  refine mm_25 hS179 ma_2 hi_236_198 (by decide) (by omega) (by omega) ?_
                  show am_E _ _ _ _ _ (.int (gx 2 z183.toNatClampNeg) :: _) _ _
                  rw [show gx 2 = g 2 from hx 2 (by decide)]
                  show am_E _ _ _ _ [some (.ref 39), some (.int w), some (.int x2), some (.int 0), some (.int z), some (.int 0)] [.int (g 2 z183.toNatClampNeg), .int 12, .ref 39] _ _
                  refine am_e0 hi_236_199 ?_
                  refine am_e1 (v := 0) hi_236_200 rfl ?_
                  refine am_e12t hi_236_202 (by decide) ?_
                  refine am_e1 (v := z) hi_236_209 rfl ?_
                  refine am_e32n (as := [.ref 39, .int 12, .int (g 2 z183.toNatClampNeg), .int 0, .int z]) (la := [some (.ref 39), some (.int 12), some (.int (g 2 z183.toNatClampNeg)), some (.int 0), some (.int z)]) (rest := []) hi_236_211 (am_hd0 (M := 236) (by decide) 211) (Nat.le_of_ble_eq_true rfl) (Nat.le_of_ble_eq_true rfl) (show 5 ≤ am_P0.2.2.1 189 from by decide +kernel) rfl (am_recv_ok hS179.fs) rfl rfl (ct_put (d := (d + 4)) hS179 hR154  (by show (0 : Int) ≤ (f 32).toInt; omega) (by show (f 32).toInt ≤ (63 : Int); omega) (by show (f 53).toInt ≤ (4096 : Int); omega) (by show (0 : Int) ≤ s.toInt; omega) (by show s.toInt ≤ (65534 : Int); omega)) ?_
                  rintro v184 S185 (⟨z186, r187, g'188, hv189, hS190, hR194, h191, h192, h193⟩)
                  subst hv189
                  have h191_ : z186.toInt = s.toInt + 1 := h191
                  have h192_ : r187.toInt = s.toInt := h192
                  have h193_ : ∀ j, j ∉ [60, 69, 70, 71, 72, 73] → g'188 j = gx j := h193
                  replace hS190 : MS S0 S185 (upd (upd f 4 z143) 68 z186) g'188 := hS190
                  have hR194_ : RJ (upd (upd f 4 z143) 68 z186) g'188 gs bc fl fk (s.toNatClampNeg :: pj) := hR194
                  show am_E _ _ _ _ [some (.ref 39), some (.int w), some (.int x2), some (.int 0), some (.int z), some (.int 0)] [.int r187] _ _
                  refine am_e6i hi_236_214 ?_
                  refine am_e18 hi_236_215 ?_
                  exact ih _ (some (.int 0)) 0 z z143 z186 _ hS190 (RJ.fewer hR194_ (fun j hj => by simp only [List.mem_cons]; simp only [hj, or_true])) (fun j hj => (h193_ j hj).trans (hx j hj)) (by decide) (by show (f 4).toInt ≤ z143.toInt; omega) (by show z143.toInt ≤ (f 0).toInt; omega) (by show (f 68).toInt ≤ z186.toInt; omega) (by show z186.toInt + (f 4).toInt ≤ (f 68).toInt + z143.toInt; omega) (by show (0 : Int) ≤ (0 : Int); omega) (by show (0 : Int) ≤ (1 : Int); omega) (by show (f 0).toInt - z143.toInt < (N : Int); omega)
                · refine am_e13f hi_236_166 (am_cF (m := r177.toInt) (n := (68 : Int)) rfl (by decide) c182) ?_
                  refine am_e0 hi_236_169 ?_
                  refine am_e18 hi_236_170 ?_
                  refine am_e3 (ls' := [some (.ref 39), some (.int w), some (.int x2), some (.int 0), some (.int z), some (.int 1)]) hi_236_174 (Nat.le_of_ble_eq_true rfl) rfl ?_
                  refine am_e2 (v := 39) hi_236_176 rfl ?_
                  refine am_e1 (v := 1) hi_236_177 rfl ?_
                  refine am_e12f hi_236_179 (by decide) ?_
                  refine am_e0 hi_236_182 ?_
                  refine am_e18 hi_236_183 ?_
                  refine am_e2 (v := 39) hi_236_188 rfl ?_
                  refine mm_20 (v := .ref 41) hS179 hi_236_189 rfl ?_
                  refine am_e2 (v := 39) hi_236_192 rfl ?_
                  refine mm_20 (v := .int z143) hS179 hi_236_193 rfl ?_
                  refine am_e0 hi_236_196 ?_
                  obtain ⟨z195, hz195, tz195⟩ := am_subI (x := z143) (y := 1) (m := z143.toInt) (n := (1 : Int)) rfl (by decide) (by omega) (by omega)
                  refine am_e10 (z := z195) hi_236_197 hz195 ?_
                  refine mm_25 hS179 ma_2 hi_236_198 (by decide) (by omega) (by omega) ?_
                  show am_E _ _ _ _ _ (.int (gx 2 z195.toNatClampNeg) :: _) _ _
                  rw [show gx 2 = g 2 from hx 2 (by decide)]
                  show am_E _ _ _ _ [some (.ref 39), some (.int w), some (.int x2), some (.int 0), some (.int z), some (.int 1)] [.int (g 2 z195.toNatClampNeg), .int 5, .ref 39] _ _
                  refine am_e0 hi_236_199 ?_
                  refine am_e1 (v := 1) hi_236_200 rfl ?_
                  refine am_e12f hi_236_202 (by decide) ?_
                  refine am_e0 hi_236_205 ?_
                  refine am_e18 hi_236_206 ?_
                  refine am_e32n (as := [.ref 39, .int 5, .int (g 2 z195.toNatClampNeg), .int 0, .int 0]) (la := [some (.ref 39), some (.int 5), some (.int (g 2 z195.toNatClampNeg)), some (.int 0), some (.int 0)]) (rest := []) hi_236_211 (am_hd0 (M := 236) (by decide) 211) (Nat.le_of_ble_eq_true rfl) (Nat.le_of_ble_eq_true rfl) (show 5 ≤ am_P0.2.2.1 189 from by decide +kernel) rfl (am_recv_ok hS179.fs) rfl rfl (ct_put (d := (d + 4)) hS179 hR154  (by show (0 : Int) ≤ (f 32).toInt; omega) (by show (f 32).toInt ≤ (63 : Int); omega) (by show (f 53).toInt ≤ (4096 : Int); omega) (by show (0 : Int) ≤ s.toInt; omega) (by show s.toInt ≤ (65534 : Int); omega)) ?_
                  rintro v196 S197 (⟨z198, r199, g'200, hv201, hS202, hR206, h203, h204, h205⟩)
                  subst hv201
                  have h203_ : z198.toInt = s.toInt + 1 := h203
                  have h204_ : r199.toInt = s.toInt := h204
                  have h205_ : ∀ j, j ∉ [60, 69, 70, 71, 72, 73] → g'200 j = gx j := h205
                  replace hS202 : MS S0 S197 (upd (upd f 4 z143) 68 z198) g'200 := hS202
                  have hR206_ : RJ (upd (upd f 4 z143) 68 z198) g'200 gs bc fl fk (s.toNatClampNeg :: pj) := hR206
                  show am_E _ _ _ _ [some (.ref 39), some (.int w), some (.int x2), some (.int 0), some (.int z), some (.int 1)] [.int r199] _ _
                  refine am_e6i hi_236_214 ?_
                  refine am_e18 hi_236_215 ?_
                  exact ih _ (some (.int 1)) 0 z z143 z198 _ hS202 (RJ.fewer hR206_ (fun j hj => by simp only [List.mem_cons]; simp only [hj, or_true])) (fun j hj => (h205_ j hj).trans (hx j hj)) (by decide) (by show (f 4).toInt ≤ z143.toInt; omega) (by show z143.toInt ≤ (f 0).toInt; omega) (by show (f 68).toInt ≤ z198.toInt; omega) (by show z198.toInt + (f 4).toInt ≤ (f 68).toInt + z143.toInt; omega) (by show (0 : Int) ≤ (0 : Int); omega) (by show (0 : Int) ≤ (1 : Int); omega) (by show (f 0).toInt - z143.toInt < (N : Int); omega)
            · subst hv151
              replace hS152 : MS S0 S142 (upd (upd (upd (upd (upd f 4 z137) 6 a149) 7 b150) 10 0) 68 s) gx := hS152
              have hR207 := rj_clear0 hR140
              have hR208 : RJ (upd (upd (upd (upd (upd f 4 z137) 6 a149) 7 b150) 10 0) 68 s) gx [] bc [] 0 [] := hR207
              show am_E _ _ _ _ [some (.ref 39), some (.int w), some (.int x2), some (.int 0), some (.int z), x5] [.int 0] _ _
              refine am_e12f hi_236_143 (by decide) ?_
              exact hx1 _ (some (.int 0)) (some (.int z)) x5 z137 s a149 b150 _ hS152 hR208 hx (by show (f 4).toInt ≤ z137.toInt; omega) (by show z137.toInt ≤ (f 0).toInt; omega) (by show (f 68).toInt ≤ s.toInt; omega) (by show s.toInt + (f 4).toInt ≤ (f 68).toInt + z137.toInt; omega)
          · refine am_e13f hi_236_113 (am_cF (m := r131.toInt) (n := (68 : Int)) rfl (by decide) c136) ?_
            refine am_e0 hi_236_116 ?_
            refine am_e18 hi_236_117 ?_
            refine am_e3 (ls' := [some (.ref 39), some (.int w), some (.int x2), some (.int 1), some (.int p4), x5]) hi_236_121 (Nat.le_of_ble_eq_true rfl) rfl ?_
            refine am_e2 (v := 39) hi_236_122 rfl ?_
            refine mm_20 (v := .int z) hS133 hi_236_123 rfl ?_
            refine am_e3 (ls' := [some (.ref 39), some (.int w), some (.int x2), some (.int 1), some (.int z), x5]) hi_236_126 (Nat.le_of_ble_eq_true rfl) rfl ?_
            refine am_e2 (v := 39) hi_236_128 rfl ?_
            refine am_e7 hi_236_129 ?_
            refine mm_20 (v := .int z) hS133 hi_236_130 rfl ?_
            refine am_e0 hi_236_133 ?_
            obtain ⟨z209, hz209, tz209⟩ := am_addI (x := z) (y := 1) (m := z.toInt) (n := (1 : Int)) rfl (by decide) (by omega) (by omega)
            refine am_e10 (z := z209) hi_236_134 hz209 ?_
            refine mm_21 (v := z209) hS133 hi_236_135 rfl (Nat.le_of_ble_eq_true rfl) ms_4 ?_
            intro S210 hS211
            replace hS211 : MS S0 S210 (upd (upd f 4 z209) 68 s) gx := hS211
            have hR212 : RJ (upd (upd f 4 z209) 68 s) gx gs bc fl fk pj := RJ.at hRl (by show z.toInt ≤ z209.toInt; omega)
            refine am_e2 (v := 39) hi_236_138 rfl ?_
            refine am_e0 hi_236_139 ?_
            refine am_e32n (as := [.ref 39, .int 1]) (la := [some (.ref 39), some (.int 1)]) (rest := []) hi_236_140 (am_hd0 (M := 236) (by decide) 140) (Nat.le_of_ble_eq_true rfl) (Nat.le_of_ble_eq_true rfl) (show 2 ≤ am_P0.2.2.1 200 from by decide +kernel) rfl (am_recv_ok hS211.fs) rfl rfl (ct_take (d := (d + 2)) hS211   (by show (0 : Int) ≤ z209.toInt; omega) (by show (f 0).toInt ≤ (16384 : Int); omega) (by show (0 : Int) ≤ (1 : Int); omega)) ?_
            rintro v213 S214 (⟨z215, hv216, hS217, h218, h219⟩ | ⟨a221, b222, hv223, hS224⟩)
            · subst hv216
              have h218_ : z215.toInt = z209.toInt + 1 := h218
              have h219_ : z209.toInt < (f 0).toInt := h219
              replace hS217 : MS S0 S214 (upd (upd f 4 z215) 68 s) gx := hS217
              have hR226 : RJ (upd (upd f 4 z215) 68 s) gx gs bc fl fk pj := RJ.at hR212 (by show z209.toInt ≤ z215.toInt; omega)
              show am_E _ _ _ _ [some (.ref 39), some (.int w), some (.int x2), some (.int 1), some (.int z), x5] [.int 1] _ _
              refine am_e12t hi_236_143 (by decide) ?_
              refine am_e1 (v := 1) hi_236_147 rfl ?_
              refine am_e12t hi_236_148 (by decide) ?_
              refine am_e0 hi_236_169 ?_
              refine am_e18 hi_236_170 ?_
              refine am_e3 (ls' := [some (.ref 39), some (.int w), some (.int x2), some (.int 1), some (.int z), some (.int 1)]) hi_236_174 (Nat.le_of_ble_eq_true rfl) rfl ?_
              refine am_e2 (v := 39) hi_236_176 rfl ?_
              refine am_e1 (v := 1) hi_236_177 rfl ?_
              refine am_e12f hi_236_179 (by decide) ?_
              refine am_e0 hi_236_182 ?_
              refine am_e18 hi_236_183 ?_
              refine am_e2 (v := 39) hi_236_188 rfl ?_
              refine mm_20 (v := .ref 41) hS217 hi_236_189 rfl ?_
              refine am_e2 (v := 39) hi_236_192 rfl ?_
              refine mm_20 (v := .int z215) hS217 hi_236_193 rfl ?_
              refine am_e0 hi_236_196 ?_
              obtain ⟨z227, hz227, tz227⟩ := am_subI (x := z215) (y := 1) (m := z215.toInt) (n := (1 : Int)) rfl (by decide) (by omega) (by omega)
              refine am_e10 (z := z227) hi_236_197 hz227 ?_
              refine mm_25 hS217 ma_2 hi_236_198 (by decide) (by omega) (by omega) ?_
              show am_E _ _ _ _ _ (.int (gx 2 z227.toNatClampNeg) :: _) _ _
              rw [show gx 2 = g 2 from hx 2 (by decide)]
              show am_E _ _ _ _ [some (.ref 39), some (.int w), some (.int x2), some (.int 1), some (.int z), some (.int 1)] [.int (g 2 z227.toNatClampNeg), .int 5, .ref 39] _ _
              refine am_e0 hi_236_199 ?_
              refine am_e1 (v := 1) hi_236_200 rfl ?_
              refine am_e12f hi_236_202 (by decide) ?_
              refine am_e0 hi_236_205 ?_
              refine am_e18 hi_236_206 ?_
              refine am_e32n (as := [.ref 39, .int 5, .int (g 2 z227.toNatClampNeg), .int 0, .int 0]) (la := [some (.ref 39), some (.int 5), some (.int (g 2 z227.toNatClampNeg)), some (.int 0), some (.int 0)]) (rest := []) hi_236_211 (am_hd0 (M := 236) (by decide) 211) (Nat.le_of_ble_eq_true rfl) (Nat.le_of_ble_eq_true rfl) (show 5 ≤ am_P0.2.2.1 189 from by decide +kernel) rfl (am_recv_ok hS217.fs) rfl rfl (ct_put (d := (d + 4)) hS217 hR226  (by show (0 : Int) ≤ (f 32).toInt; omega) (by show (f 32).toInt ≤ (63 : Int); omega) (by show (f 53).toInt ≤ (4096 : Int); omega) (by show (0 : Int) ≤ s.toInt; omega) (by show s.toInt ≤ (65534 : Int); omega)) ?_
              rintro v228 S229 (⟨z230, r231, g'232, hv233, hS234, hR238, h235, h236, h237⟩)
              subst hv233
              have h235_ : z230.toInt = s.toInt + 1 := h235
              have h236_ : r231.toInt = s.toInt := h236
              have h237_ : ∀ j, j ∉ [60, 69, 70, 71, 72, 73] → g'232 j = gx j := h237
              replace hS234 : MS S0 S229 (upd (upd f 4 z215) 68 z230) g'232 := hS234
              have hR238_ : RJ (upd (upd f 4 z215) 68 z230) g'232 gs bc fl fk (s.toNatClampNeg :: pj) := hR238
              show am_E _ _ _ _ [some (.ref 39), some (.int w), some (.int x2), some (.int 1), some (.int z), some (.int 1)] [.int r231] _ _
              refine am_e6i hi_236_214 ?_
              refine am_e18 hi_236_215 ?_
              exact ih _ (some (.int 1)) 1 z z215 z230 _ hS234 (RJ.fewer hR238_ (fun j hj => by simp only [List.mem_cons]; simp only [hj, or_true])) (fun j hj => (h237_ j hj).trans (hx j hj)) (by decide) (by show (f 4).toInt ≤ z215.toInt; omega) (by show z215.toInt ≤ (f 0).toInt; omega) (by show (f 68).toInt ≤ z230.toInt; omega) (by show z230.toInt + (f 4).toInt ≤ (f 68).toInt + z215.toInt; omega) (by show (0 : Int) ≤ (1 : Int); omega) (by show (1 : Int) ≤ (1 : Int); omega) (by show (f 0).toInt - z215.toInt < (N : Int); omega)
            · subst hv223
              replace hS224 : MS S0 S214 (upd (upd (upd (upd (upd f 4 z209) 6 a221) 7 b222) 10 0) 68 s) gx := hS224
              have hR239 := rj_clear0 hR212
              have hR240 : RJ (upd (upd (upd (upd (upd f 4 z209) 6 a221) 7 b222) 10 0) 68 s) gx [] bc [] 0 [] := hR239
              show am_E _ _ _ _ [some (.ref 39), some (.int w), some (.int x2), some (.int 1), some (.int z), x5] [.int 0] _ _
              refine am_e12f hi_236_143 (by decide) ?_
              exact hx1 _ (some (.int 1)) (some (.int z)) x5 z209 s a221 b222 _ hS224 hR240 hx (by show (f 4).toInt ≤ z209.toInt; omega) (by show z209.toInt ≤ (f 0).toInt; omega) (by show (f 68).toInt ≤ s.toInt; omega) (by show s.toInt + (f 4).toInt ≤ (f 68).toInt + z209.toInt; omega)
theorem fr_local {sc : Nat × (Nat → Int32)} {d : Nat} {S0 : am_S} {f : Nat → Int32} {g : Nat → Nat → Int32} {w : Int32} {k0 : Int32} {gs : List mg_E} {bc : List (List Nat)} {fl : List Nat} {fk : Int} {pj : List Nat} {Q : Option (Option Value) → am_S → Prop} (p0 : (0 : Int) ≤ (f 4).toInt) (p1 : (f 0).toInt ≤ (16384 : Int)) (p2 : (f 4).toInt ≤ (f 0).toInt) (p3 : (f 0).toInt ≤ (512 : Int)) (p4 : (0 : Int) ≤ (f 20).toInt) (p5 : (f 20).toInt ≤ (15000 : Int)) (hx0 : ∀ (S : am_S) (x5 : Option Value) (x6 : Option Value) (x7 : Option Value) (m3 c4 a b z q : Int32) (gx : Nat → Nat → Int32), MS S0 S (upd (upd (upd (upd f 4 z) 8 a) 9 b) 20 q) gx → RJ (upd (upd (upd (upd f 4 z) 8 a) 9 b) 20 q) gx gs bc fl fk pj → (∀ j, j ∉ [21, 22, 23] → gx j = g j) → (∀ i : Nat, (i : Int) < (f 20).toInt → gx 23 i = g 23 i) → (∀ i : Nat, (f 20).toInt ≤ (i : Int) → (i : Int) < q.toInt → 0 ≤ (gx 23 i).toInt ∧ (gx 23 i).toInt < 16384) → ((f 4).toInt ≤ z.toInt) → (z.toInt ≤ (f 0).toInt) → ((f 20).toInt ≤ q.toInt) → (q.toInt + (f 4).toInt ≤ (f 20).toInt + z.toInt) → am_E (am_PP sc) (d + 5) 238 300 [some (.ref 39), some (.int w), some (.int k0), some (.int m3), some (.int c4), x5, x6, x7] [] S Q) (hx1 : ∀ (S : am_S) (x3 : Option Value) (x4 : Option Value) (x5 : Option Value) (x6 : Option Value) (x7 : Option Value) (a b z q u_ v_ : Int32) (gx : Nat → Nat → Int32), MS S0 S (upd (upd (upd (upd (upd (upd (upd f 4 z) 6 u_) 7 v_) 8 a) 9 b) 10 0) 20 q) gx → RJ (upd (upd (upd (upd (upd (upd (upd f 4 z) 6 u_) 7 v_) 8 a) 9 b) 10 0) 20 q) gx [] bc [] 0 [] → (∀ j, j ∉ [21, 22, 23] → gx j = g j) → ((f 4).toInt ≤ z.toInt) → (z.toInt ≤ (f 0).toInt) → ((f 20).toInt ≤ q.toInt) → (q.toInt + (f 4).toInt ≤ (f 20).toInt + z.toInt) → am_E (am_PP sc) (d + 5) 238 131 [some (.ref 39), some (.int w), some (.int k0), x3, x4, x5, x6, x7] [] S Q) (hx2 : ∀ (S : am_S) (x3 : Option Value) (x4 : Option Value) (x5 : Option Value) (x6 : Option Value) (x7 : Option Value) (a b z q u_ v_ : Int32) (gx : Nat → Nat → Int32), MS S0 S (upd (upd (upd (upd (upd (upd (upd f 4 z) 6 u_) 7 v_) 8 a) 9 b) 10 0) 20 q) gx → RJ (upd (upd (upd (upd (upd (upd (upd f 4 z) 6 u_) 7 v_) 8 a) 9 b) 10 0) 20 q) gx [] bc [] 0 [] → (∀ j, j ∉ [21, 22, 23] → gx j = g j) → ((f 4).toInt ≤ z.toInt) → (z.toInt ≤ (f 0).toInt) → ((f 20).toInt ≤ q.toInt) → (q.toInt + (f 4).toInt ≤ (f 20).toInt + z.toInt) → am_E (am_PP sc) (d + 5) 238 177 [some (.ref 39), some (.int w), some (.int k0), x3, x4, x5, x6, x7] [] S Q) : ∀ (N : Nat) (S : am_S) (x5 : Option Value) (x6 : Option Value) (x7 : Option Value) (m3 c4 a b z q : Int32) (gx : Nat → Nat → Int32), MS S0 S (upd (upd (upd (upd f 4 z) 8 a) 9 b) 20 q) gx → RJ (upd (upd (upd (upd f 4 z) 8 a) 9 b) 20 q) gx gs bc fl fk pj → (∀ j, j ∉ [21, 22, 23] → gx j = g j) → (∀ i : Nat, (i : Int) < (f 20).toInt → gx 23 i = g 23 i) → (∀ i : Nat, (f 20).toInt ≤ (i : Int) → (i : Int) < q.toInt → 0 ≤ (gx 23 i).toInt ∧ (gx 23 i).toInt < 16384) → ((f 4).toInt ≤ z.toInt) → (z.toInt ≤ (f 0).toInt) → ((f 20).toInt ≤ q.toInt) → (q.toInt + (f 4).toInt ≤ (f 20).toInt + z.toInt) → ((0 : Int) ≤ m3.toInt) → (m3.toInt ≤ (1 : Int)) → 2 * ((f 0).toInt - z.toInt) + m3.toInt < (N : Int) → am_E (am_PP sc) (d + 5) 238 113 [some (.ref 39), some (.int w), some (.int k0), some (.int m3), some (.int c4), x5, x6, x7] [] S Q := by
  intro N
  induction N with
  | zero =>
    intro S x5 x6 x7 m3 c4 a b z q gx hS hRl hx hA hB i0 i1 i2 i3 i4 i5 hN
    exfalso
    omega
  | succ N ih =>
    intro S x5 x6 x7 m3 c4 a b z q gx hS hRl hx hA hB i0 i1 i2 i3 i4 i5 hN
    refine am_e1 (v := m3) hi_238_113 rfl ?_
    by_cases c0 : m3.toInt = (0 : Int)
    · refine am_e12t hi_238_114 (am_cT (m := m3.toInt) (n := (0 : Int)) rfl (by decide) c0) ?_
      exact hx0 _ x5 x6 x7 m3 c4 a b z q _ hS hRl hx hA hB (by show (f 4).toInt ≤ z.toInt; omega) (by show z.toInt ≤ (f 0).toInt; omega) (by show (f 20).toInt ≤ q.toInt; omega) (by show q.toInt + (f 4).toInt ≤ (f 20).toInt + z.toInt; omega)
    · refine am_e12f hi_238_114 (am_cF (m := m3.toInt) (n := (0 : Int)) rfl (by decide) c0) ?_
      refine am_e2 (v := 39) hi_238_117 rfl ?_
      refine mm_20 (v := .int z) hS hi_238_118 rfl ?_
      refine am_e3 (ls' := [some (.ref 39), some (.int w), some (.int k0), some (.int m3), some (.int c4), some (.int z), x6, x7]) hi_238_121 (Nat.le_of_ble_eq_true rfl) rfl ?_
      refine am_e2 (v := 39) hi_238_123 rfl ?_
      refine am_e0 hi_238_124 ?_
      refine am_e32n (as := [.ref 39, .int 1]) (la := [some (.ref 39), some (.int 1)]) (rest := []) hi_238_125 (am_hd0 (M := 238) (by decide) 125) (Nat.le_of_ble_eq_true rfl) (Nat.le_of_ble_eq_true rfl) (show 2 ≤ am_P0.2.2.1 200 from by decide +kernel) rfl (am_recv_ok hS.fs) rfl rfl (ct_take (d := (d + 2)) hS   (by show (0 : Int) ≤ z.toInt; omega) (by show (f 0).toInt ≤ (16384 : Int); omega) (by show (0 : Int) ≤ (1 : Int); omega)) ?_
      rintro v1 S2 (⟨z3, hv4, hS5, h6, h7⟩ | ⟨a9, b10, hv11, hS12⟩)
      · subst hv4
        have h6_ : z3.toInt = z.toInt + 1 := h6
        have h7_ : z.toInt < (f 0).toInt := h7
        replace hS5 : MS S0 S2 (upd (upd (upd (upd f 4 z3) 8 a) 9 b) 20 q) gx := hS5
        have hR14 : RJ (upd (upd (upd (upd f 4 z3) 8 a) 9 b) 20 q) gx gs bc fl fk pj := RJ.at hRl (by show z.toInt ≤ z3.toInt; omega)
        show am_E _ _ _ _ [some (.ref 39), some (.int w), some (.int k0), some (.int m3), some (.int c4), some (.int z), x6, x7] [.int 1] _ _
        refine am_e12t hi_238_128 (by decide) ?_
        refine am_e0 hi_238_132 ?_
        refine am_e3 (ls' := [some (.ref 39), some (.int w), some (.int k0), some (.int m3), some (.int c4), some (.int z), some (.int 0), x7]) hi_238_133 (Nat.le_of_ble_eq_true rfl) rfl ?_
        refine am_e2 (v := 39) hi_238_135 rfl ?_
        refine am_e32n (as := [.ref 39]) (la := [some (.ref 39)]) (rest := []) hi_238_136 (am_hd0 (M := 238) (by decide) 136) (Nat.le_of_ble_eq_true rfl) (Nat.le_of_ble_eq_true rfl) (show 1 ≤ am_P0.2.2.1 183 from by decide +kernel) rfl (am_recv_ok hS5.fs) rfl rfl (ct_next (d := (d + 3)) hS5   (by show (0 : Int) ≤ z3.toInt; omega) (by show (f 0).toInt ≤ (16384 : Int); omega)) ?_
        rintro v15 S16 (⟨r17, hv18, hS19, h20⟩)
        subst hv18
        have h20_ : z3.toInt < (f 0).toInt ∨ r17.toInt = (-1 : Int) := h20
        show am_E _ _ _ _ [some (.ref 39), some (.int w), some (.int k0), some (.int m3), some (.int c4), some (.int z), some (.int 0), x7] [.int r17] _ _
        refine am_e0 hi_238_139 ?_
        by_cases c22 : ¬ r17.toInt = (57 : Int)
        · refine am_e13t hi_238_141 (am_cT (m := r17.toInt) (n := (57 : Int)) rfl (by decide) c22) ?_
          refine am_e2 (v := 39) hi_238_255 rfl ?_
          refine am_e1 (v := 0) hi_238_256 rfl ?_
          refine am_e0 hi_238_258 ?_
          refine am_e1 (v := z) hi_238_259 rfl ?_
          refine am_e32n (as := [.ref 39, .int 0, .int 0, .int z]) (la := [some (.ref 39), some (.int 0), some (.int 0), some (.int z)]) (rest := []) hi_238_261 (am_hd0 (M := 238) (by decide) 261) (Nat.le_of_ble_eq_true rfl) (Nat.le_of_ble_eq_true rfl) (show 4 ≤ am_P0.2.2.1 239 from by decide +kernel) rfl (am_recv_ok hS19.fs) rfl rfl (ct_keep2 (d := (d + 4)) hS19 hR14  (by show (0 : Int) ≤ q.toInt; omega) (by show q.toInt ≤ (16383 : Int); omega)) ?_
          rintro v23 S24 (⟨z25, g'26, hv27, hS28, hR32, h29, h30, h31⟩)
          subst hv27
          have h29_ : z25.toInt = q.toInt + 1 := h29
          have h30_ : ∀ j, j ∉ [21, 22, 23] → g'26 j = gx j := h30
          have h31_ : g'26 23 = upd (gx 23) q.toNatClampNeg z := h31
          replace hS28 : MS S0 S24 (upd (upd (upd (upd f 4 z3) 8 a) 9 b) 20 z25) g'26 := hS28
          have hR32_ : RJ (upd (upd (upd (upd f 4 z3) 8 a) 9 b) 20 z25) g'26 gs bc fl fk pj := hR32
          show am_E _ _ _ _ [some (.ref 39), some (.int w), some (.int k0), some (.int m3), some (.int c4), some (.int z), some (.int 0), x7] [] _ _
          refine am_e2 (v := 39) hi_238_264 rfl ?_
          refine am_e32n (as := [.ref 39]) (la := [some (.ref 39)]) (rest := []) hi_238_265 (am_hd0 (M := 238) (by decide) 265) (Nat.le_of_ble_eq_true rfl) (Nat.le_of_ble_eq_true rfl) (show 1 ≤ am_P0.2.2.1 183 from by decide +kernel) rfl (am_recv_ok hS28.fs) rfl rfl (ct_next (d := (d + 3)) hS28   (by show (0 : Int) ≤ z3.toInt; omega) (by show (f 0).toInt ≤ (16384 : Int); omega)) ?_
          rintro v33 S34 (⟨r35, hv36, hS37, h38⟩)
          subst hv36
          have h38_ : z3.toInt < (f 0).toInt ∨ r35.toInt = (-1 : Int) := h38
          show am_E _ _ _ _ [some (.ref 39), some (.int w), some (.int k0), some (.int m3), some (.int c4), some (.int z), some (.int 0), x7] [.int r35] _ _
          refine am_e0 hi_238_268 ?_
          by_cases c40 : ¬ r35.toInt = (69 : Int)
          · refine am_e13t hi_238_270 (am_cT (m := r35.toInt) (n := (69 : Int)) rfl (by decide) c40) ?_
            refine am_e0 hi_238_277 ?_
            refine am_e3 (ls' := [some (.ref 39), some (.int w), some (.int k0), some (.int 0), some (.int c4), some (.int z), some (.int 0), x7]) hi_238_278 (Nat.le_of_ble_eq_true rfl) rfl ?_
            refine am_e2 (v := 39) hi_238_279 rfl ?_
            refine am_e7 hi_238_280 ?_
            refine mm_20 (v := .int z3) hS37 hi_238_281 rfl ?_
            refine am_e1 (v := 0) hi_238_284 rfl ?_
            refine am_e12t hi_238_285 (by decide) ?_
            refine am_e0 hi_238_292 ?_
            obtain ⟨z41, hz41, tz41⟩ := am_addI (x := z3) (y := 0) (m := z3.toInt) (n := (0 : Int)) rfl (by decide) (by omega) (by omega)
            refine am_e10 (z := z41) hi_238_293 hz41 ?_
            refine mm_21 (v := z41) hS37 hi_238_294 rfl (Nat.le_of_ble_eq_true rfl) ms_4 ?_
            intro S42 hS43
            replace hS43 : MS S0 S42 (upd (upd (upd (upd f 4 z41) 8 a) 9 b) 20 z25) g'26 := hS43
            have hR44 : RJ (upd (upd (upd (upd f 4 z41) 8 a) 9 b) 20 z25) g'26 gs bc fl fk pj := RJ.at hR32_ (by show z3.toInt ≤ z41.toInt; omega)
            refine am_e18 hi_238_297 ?_
            exact ih _ (some (.int z)) (some (.int 0)) x7 0 c4 a b z41 z25 _ hS43 hR44 (fun j hj => (h30_ j hj).trans (hx j hj)) (by show ∀ i : Nat, (i : Int) < (f 20).toInt → g'26 23 i = g 23 i; rw [h31_]; exact ww_below (by omega) hA) (by show ∀ i : Nat, (f 20).toInt ≤ (i : Int) → (i : Int) < z25.toInt → 0 ≤ (g'26 23 i).toInt ∧ (g'26 23 i).toInt < 16384; rw [h31_]; exact ww_keep (by omega) ⟨by omega, by omega⟩ hB (by omega)) (by show (f 4).toInt ≤ z41.toInt; omega) (by show z41.toInt ≤ (f 0).toInt; omega) (by show (f 20).toInt ≤ z25.toInt; omega) (by show z25.toInt + (f 4).toInt ≤ (f 20).toInt + z41.toInt; omega) (by show (0 : Int) ≤ (0 : Int); omega) (by show (0 : Int) ≤ (1 : Int); omega) (by show 2 * ((f 0).toInt - z41.toInt) + (0 : Int) < (N : Int); omega)
          · refine am_e13f hi_238_270 (am_cF (m := r35.toInt) (n := (69 : Int)) rfl (by decide) c40) ?_
            refine am_e0 hi_238_273 ?_
            refine am_e18 hi_238_274 ?_
            refine am_e3 (ls' := [some (.ref 39), some (.int w), some (.int k0), some (.int 1), some (.int c4), some (.int z), some (.int 0), x7]) hi_238_278 (Nat.le_of_ble_eq_true rfl) rfl ?_
            refine am_e2 (v := 39) hi_238_279 rfl ?_
            refine am_e7 hi_238_280 ?_
            refine mm_20 (v := .int z3) hS37 hi_238_281 rfl ?_
            refine am_e1 (v := 1) hi_238_284 rfl ?_
            refine am_e12f hi_238_285 (by decide) ?_
            refine am_e0 hi_238_288 ?_
            refine am_e18 hi_238_289 ?_
            obtain ⟨z45, hz45, tz45⟩ := am_addI (x := z3) (y := 1) (m := z3.toInt) (n := (1 : Int)) rfl (by decide) (by omega) (by omega)
            refine am_e10 (z := z45) hi_238_293 hz45 ?_
            refine mm_21 (v := z45) hS37 hi_238_294 rfl (Nat.le_of_ble_eq_true rfl) ms_4 ?_
            intro S46 hS47
            replace hS47 : MS S0 S46 (upd (upd (upd (upd f 4 z45) 8 a) 9 b) 20 z25) g'26 := hS47
            have hR48 : RJ (upd (upd (upd (upd f 4 z45) 8 a) 9 b) 20 z25) g'26 gs bc fl fk pj := RJ.at hR32_ (by show z3.toInt ≤ z45.toInt; omega)
            refine am_e18 hi_238_297 ?_
            exact ih _ (some (.int z)) (some (.int 0)) x7 1 c4 a b z45 z25 _ hS47 hR48 (fun j hj => (h30_ j hj).trans (hx j hj)) (by show ∀ i : Nat, (i : Int) < (f 20).toInt → g'26 23 i = g 23 i; rw [h31_]; exact ww_below (by omega) hA) (by show ∀ i : Nat, (f 20).toInt ≤ (i : Int) → (i : Int) < z25.toInt → 0 ≤ (g'26 23 i).toInt ∧ (g'26 23 i).toInt < 16384; rw [h31_]; exact ww_keep (by omega) ⟨by omega, by omega⟩ hB (by omega)) (by show (f 4).toInt ≤ z45.toInt; omega) (by show z45.toInt ≤ (f 0).toInt; omega) (by show (f 20).toInt ≤ z25.toInt; omega) (by show z25.toInt + (f 4).toInt ≤ (f 20).toInt + z45.toInt; omega) (by show (0 : Int) ≤ (1 : Int); omega) (by show (1 : Int) ≤ (1 : Int); omega) (by show 2 * ((f 0).toInt - z45.toInt) + (1 : Int) < (N : Int); omega)
        · refine am_e13f hi_238_141 (am_cF (m := r17.toInt) (n := (57 : Int)) rfl (by decide) c22) ?_
          refine am_e2 (v := 39) hi_238_144 rfl ?_
          refine am_e7 hi_238_145 ?_
          refine mm_20 (v := .int z3) hS19 hi_238_146 rfl ?_
          refine am_e0 hi_238_149 ?_
          obtain ⟨z49, hz49, tz49⟩ := am_addI (x := z3) (y := 1) (m := z3.toInt) (n := (1 : Int)) rfl (by decide) (by omega) (by omega)
          refine am_e10 (z := z49) hi_238_150 hz49 ?_
          refine mm_21 (v := z49) hS19 hi_238_151 rfl (Nat.le_of_ble_eq_true rfl) ms_4 ?_
          intro S50 hS51
          replace hS51 : MS S0 S50 (upd (upd (upd (upd f 4 z49) 8 a) 9 b) 20 q) gx := hS51
          have hR52 : RJ (upd (upd (upd (upd f 4 z49) 8 a) 9 b) 20 q) gx gs bc fl fk pj := RJ.at hR14 (by show z3.toInt ≤ z49.toInt; omega)
          refine am_e2 (v := 39) hi_238_154 rfl ?_
          refine mm_20 (v := .int z49) hS51 hi_238_155 rfl ?_
          refine am_e3 (ls' := [some (.ref 39), some (.int w), some (.int k0), some (.int m3), some (.int c4), some (.int z), some (.int 0), some (.int z49)]) hi_238_158 (Nat.le_of_ble_eq_true rfl) rfl ?_
          refine am_e2 (v := 39) hi_238_160 rfl ?_
          refine am_e0 hi_238_161 ?_
          refine am_e32n (as := [.ref 39, .int 1]) (la := [some (.ref 39), some (.int 1)]) (rest := []) hi_238_162 (am_hd0 (M := 238) (by decide) 162) (Nat.le_of_ble_eq_true rfl) (Nat.le_of_ble_eq_true rfl) (show 2 ≤ am_P0.2.2.1 200 from by decide +kernel) rfl (am_recv_ok hS51.fs) rfl rfl (ct_take (d := (d + 2)) hS51   (by show (0 : Int) ≤ z49.toInt; omega) (by show (f 0).toInt ≤ (16384 : Int); omega) (by show (0 : Int) ≤ (1 : Int); omega)) ?_
          rintro v53 S54 (⟨z55, hv56, hS57, h58, h59⟩ | ⟨a61, b62, hv63, hS64⟩)
          · subst hv56
            have h58_ : z55.toInt = z49.toInt + 1 := h58
            have h59_ : z49.toInt < (f 0).toInt := h59
            replace hS57 : MS S0 S54 (upd (upd (upd (upd f 4 z55) 8 a) 9 b) 20 q) gx := hS57
            have hR66 : RJ (upd (upd (upd (upd f 4 z55) 8 a) 9 b) 20 q) gx gs bc fl fk pj := RJ.at hR52 (by show z49.toInt ≤ z55.toInt; omega)
            show am_E _ _ _ _ [some (.ref 39), some (.int w), some (.int k0), some (.int m3), some (.int c4), some (.int z), some (.int 0), some (.int z49)] [.int 1] _ _
            refine am_e12f hi_238_165 (by decide) ?_
            refine am_e2 (v := 39) hi_238_168 rfl ?_
            refine am_e0 hi_238_169 ?_
            refine am_e32n (as := [.ref 39, .int 58]) (la := [some (.ref 39), some (.int 58)]) (rest := []) hi_238_171 (am_hd0 (M := 238) (by decide) 171) (Nat.le_of_ble_eq_true rfl) (Nat.le_of_ble_eq_true rfl) (show 2 ≤ am_P0.2.2.1 200 from by decide +kernel) rfl (am_recv_ok hS57.fs) rfl rfl (ct_take (d := (d + 2)) hS57   (by show (0 : Int) ≤ z55.toInt; omega) (by show (f 0).toInt ≤ (16384 : Int); omega) (by show (0 : Int) ≤ (58 : Int); omega)) ?_
            rintro v67 S68 (⟨z69, hv70, hS71, h72, h73⟩ | ⟨a75, b76, hv77, hS78⟩)
            · subst hv70
              have h72_ : z69.toInt = z55.toInt + 1 := h72
              have h73_ : z55.toInt < (f 0).toInt := h73
              replace hS71 : MS S0 S68 (upd (upd (upd (upd f 4 z69) 8 a) 9 b) 20 q) gx := hS71
              have hR80 : RJ (upd (upd (upd (upd f 4 z69) 8 a) 9 b) 20 q) gx gs bc fl fk pj := RJ.at hR66 (by show z55.toInt ≤ z69.toInt; omega)
              show am_E _ _ _ _ [some (.ref 39), some (.int w), some (.int k0), some (.int m3), some (.int c4), some (.int z), some (.int 0), some (.int z49)] [.int 1] _ _
              refine am_e12t hi_238_174 (by decide) ?_
              refine am_e2 (v := 39) hi_238_178 rfl ?_
              refine mm_20 (v := .ref 41) hS71 hi_238_179 rfl ?_
              refine am_e1 (v := z49) hi_238_182 rfl ?_
              refine mm_25 hS71 ma_2 hi_238_184 (by decide) (by omega) (by omega) ?_
              show am_E _ _ _ _ _ (.int (gx 2 z49.toNatClampNeg) :: _) _ _
              rw [show gx 2 = g 2 from hx 2 (by decide)]
              show am_E _ _ _ _ [some (.ref 39), some (.int w), some (.int k0), some (.int m3), some (.int c4), some (.int z), some (.int 0), some (.int z49)] [.int (g 2 z49.toNatClampNeg)] _ _
              refine am_e0 hi_238_185 ?_
              by_cases c81 : ¬ (g 2 z49.toNatClampNeg).toInt = (-2 : Int)
              · refine am_e13t hi_238_187 (am_cT (m := (g 2 z49.toNatClampNeg).toInt) (n := (-2 : Int)) rfl (by decide) c81) ?_
                refine am_e2 (v := 39) hi_238_194 rfl ?_
                refine mm_20 (v := .ref 41) hS71 hi_238_195 rfl ?_
                refine am_e1 (v := z49) hi_238_198 rfl ?_
                refine mm_25 hS71 ma_2 hi_238_200 (by decide) (by omega) (by omega) ?_
                show am_E _ _ _ _ _ (.int (gx 2 z49.toNatClampNeg) :: _) _ _
                rw [show gx 2 = g 2 from hx 2 (by decide)]
                show am_E _ _ _ _ [some (.ref 39), some (.int w), some (.int k0), some (.int m3), some (.int c4), some (.int z), some (.int 0), some (.int z49)] [.int (g 2 z49.toNatClampNeg)] _ _
                refine am_e0 hi_238_201 ?_
                by_cases c82 : ¬ (g 2 z49.toNatClampNeg).toInt = (-3 : Int)
                · refine am_e13t hi_238_203 (am_cT (m := (g 2 z49.toNatClampNeg).toInt) (n := (-3 : Int)) rfl (by decide) c82) ?_
                  refine am_e0 hi_238_210 ?_
                  refine am_e3 (ls' := [some (.ref 39), some (.int w), some (.int k0), some (.int m3), some (.int c4), some (.int z), some (.int 0), some (.int z49)]) hi_238_211 (Nat.le_of_ble_eq_true rfl) rfl ?_
                  refine am_e1 (v := 0) hi_238_213 rfl ?_
                  refine am_e12t hi_238_215 (by decide) ?_
                  refine am_e2 (v := 39) hi_238_229 rfl ?_
                  refine am_e0 hi_238_230 ?_
                  refine am_e1 (v := z49) hi_238_232 rfl ?_
                  refine am_e32n (as := [.ref 39, .int 9, .int z49]) (la := [some (.ref 39), some (.int 9), some (.int z49)]) (rest := []) hi_238_234 (am_hd0 (M := 238) (by decide) 234) (Nat.le_of_ble_eq_true rfl) (Nat.le_of_ble_eq_true rfl) (show 3 ≤ am_P0.2.2.1 191 from by decide +kernel) rfl (am_recv_ok hS71.fs) rfl rfl (ct_failName (d := (d + 4)) hS71   ) ?_
                  rintro v83 S84 (⟨a85, b86, hv87, hS88⟩)
                  subst hv87
                  replace hS88 : MS S0 S84 (upd (upd (upd (upd f 4 z69) 8 a85) 9 b86) 20 q) gx := hS88
                  show am_E _ _ _ _ [some (.ref 39), some (.int w), some (.int k0), some (.int m3), some (.int c4), some (.int z), some (.int 0), some (.int z49)] [] _ _
                  refine am_e1 (v := c4) hi_238_237 rfl ?_
                  by_cases c90 : ¬ c4.toInt = (0 : Int)
                  · refine am_e12t hi_238_239 (am_cT (m := c4.toInt) (n := (0 : Int)) rfl (by decide) c90) ?_
                    refine am_e0 hi_238_248 ?_
                    refine am_e18 hi_238_249 ?_
                    refine am_e3 (ls' := [some (.ref 39), some (.int w), some (.int k0), some (.int m3), some (.int 1), some (.int z), some (.int 0), some (.int z49)]) hi_238_253 (Nat.le_of_ble_eq_true rfl) rfl ?_
                    refine am_e2 (v := 39) hi_238_255 rfl ?_
                    refine am_e1 (v := 0) hi_238_256 rfl ?_
                    refine am_e0 hi_238_258 ?_
                    refine am_e1 (v := z) hi_238_259 rfl ?_
                    refine am_e32n (as := [.ref 39, .int 0, .int 0, .int z]) (la := [some (.ref 39), some (.int 0), some (.int 0), some (.int z)]) (rest := []) hi_238_261 (am_hd0 (M := 238) (by decide) 261) (Nat.le_of_ble_eq_true rfl) (Nat.le_of_ble_eq_true rfl) (show 4 ≤ am_P0.2.2.1 239 from by decide +kernel) rfl (am_recv_ok hS88.fs) rfl rfl (ct_keep2 (d := (d + 4)) hS88 hR80  (by show (0 : Int) ≤ q.toInt; omega) (by show q.toInt ≤ (16383 : Int); omega)) ?_
                    rintro v91 S92 (⟨z93, g'94, hv95, hS96, hR100, h97, h98, h99⟩)
                    subst hv95
                    have h97_ : z93.toInt = q.toInt + 1 := h97
                    have h98_ : ∀ j, j ∉ [21, 22, 23] → g'94 j = gx j := h98
                    have h99_ : g'94 23 = upd (gx 23) q.toNatClampNeg z := h99
                    replace hS96 : MS S0 S92 (upd (upd (upd (upd f 4 z69) 8 a85) 9 b86) 20 z93) g'94 := hS96
                    have hR100_ : RJ (upd (upd (upd (upd f 4 z69) 8 a85) 9 b86) 20 z93) g'94 gs bc fl fk pj := hR100
                    show am_E _ _ _ _ [some (.ref 39), some (.int w), some (.int k0), some (.int m3), some (.int 1), some (.int z), some (.int 0), some (.int z49)] [] _ _
                    refine am_e2 (v := 39) hi_238_264 rfl ?_
                    refine am_e32n (as := [.ref 39]) (la := [some (.ref 39)]) (rest := []) hi_238_265 (am_hd0 (M := 238) (by decide) 265) (Nat.le_of_ble_eq_true rfl) (Nat.le_of_ble_eq_true rfl) (show 1 ≤ am_P0.2.2.1 183 from by decide +kernel) rfl (am_recv_ok hS96.fs) rfl rfl (ct_next (d := (d + 3)) hS96   (by show (0 : Int) ≤ z69.toInt; omega) (by show (f 0).toInt ≤ (16384 : Int); omega)) ?_
                    rintro v101 S102 (⟨r103, hv104, hS105, h106⟩)
                    subst hv104
                    have h106_ : z69.toInt < (f 0).toInt ∨ r103.toInt = (-1 : Int) := h106
                    show am_E _ _ _ _ [some (.ref 39), some (.int w), some (.int k0), some (.int m3), some (.int 1), some (.int z), some (.int 0), some (.int z49)] [.int r103] _ _
                    refine am_e0 hi_238_268 ?_
                    by_cases c108 : ¬ r103.toInt = (69 : Int)
                    · refine am_e13t hi_238_270 (am_cT (m := r103.toInt) (n := (69 : Int)) rfl (by decide) c108) ?_
                      refine am_e0 hi_238_277 ?_
                      refine am_e3 (ls' := [some (.ref 39), some (.int w), some (.int k0), some (.int 0), some (.int 1), some (.int z), some (.int 0), some (.int z49)]) hi_238_278 (Nat.le_of_ble_eq_true rfl) rfl ?_
                      refine am_e2 (v := 39) hi_238_279 rfl ?_
                      refine am_e7 hi_238_280 ?_
                      refine mm_20 (v := .int z69) hS105 hi_238_281 rfl ?_
                      refine am_e1 (v := 0) hi_238_284 rfl ?_
                      refine am_e12t hi_238_285 (by decide) ?_
                      refine am_e0 hi_238_292 ?_
                      obtain ⟨z109, hz109, tz109⟩ := am_addI (x := z69) (y := 0) (m := z69.toInt) (n := (0 : Int)) rfl (by decide) (by omega) (by omega)
                      refine am_e10 (z := z109) hi_238_293 hz109 ?_
                      refine mm_21 (v := z109) hS105 hi_238_294 rfl (Nat.le_of_ble_eq_true rfl) ms_4 ?_
                      intro S110 hS111
                      replace hS111 : MS S0 S110 (upd (upd (upd (upd f 4 z109) 8 a85) 9 b86) 20 z93) g'94 := hS111
                      have hR112 : RJ (upd (upd (upd (upd f 4 z109) 8 a85) 9 b86) 20 z93) g'94 gs bc fl fk pj := RJ.at hR100_ (by show z69.toInt ≤ z109.toInt; omega)
                      refine am_e18 hi_238_297 ?_
                      exact ih _ (some (.int z)) (some (.int 0)) (some (.int z49)) 0 1 a85 b86 z109 z93 _ hS111 hR112 (fun j hj => (h98_ j hj).trans (hx j hj)) (by show ∀ i : Nat, (i : Int) < (f 20).toInt → g'94 23 i = g 23 i; rw [h99_]; exact ww_below (by omega) hA) (by show ∀ i : Nat, (f 20).toInt ≤ (i : Int) → (i : Int) < z93.toInt → 0 ≤ (g'94 23 i).toInt ∧ (g'94 23 i).toInt < 16384; rw [h99_]; exact ww_keep (by omega) ⟨by omega, by omega⟩ hB (by omega)) (by show (f 4).toInt ≤ z109.toInt; omega) (by show z109.toInt ≤ (f 0).toInt; omega) (by show (f 20).toInt ≤ z93.toInt; omega) (by show z93.toInt + (f 4).toInt ≤ (f 20).toInt + z109.toInt; omega) (by show (0 : Int) ≤ (0 : Int); omega) (by show (0 : Int) ≤ (1 : Int); omega) (by show 2 * ((f 0).toInt - z109.toInt) + (0 : Int) < (N : Int); omega)
                    · refine am_e13f hi_238_270 (am_cF (m := r103.toInt) (n := (69 : Int)) rfl (by decide) c108) ?_
                      refine am_e0 hi_238_273 ?_
                      refine am_e18 hi_238_274 ?_
                      refine am_e3 (ls' := [some (.ref 39), some (.int w), some (.int k0), some (.int 1), some (.int 1), some (.int z), some (.int 0), some (.int z49)]) hi_238_278 (Nat.le_of_ble_eq_true rfl) rfl ?_
                      refine am_e2 (v := 39) hi_238_279 rfl ?_
                      refine am_e7 hi_238_280 ?_
                      refine mm_20 (v := .int z69) hS105 hi_238_281 rfl ?_
                      refine am_e1 (v := 1) hi_238_284 rfl ?_
                      refine am_e12f hi_238_285 (by decide) ?_
                      refine am_e0 hi_238_288 ?_
                      refine am_e18 hi_238_289 ?_
                      obtain ⟨z113, hz113, tz113⟩ := am_addI (x := z69) (y := 1) (m := z69.toInt) (n := (1 : Int)) rfl (by decide) (by omega) (by omega)
                      refine am_e10 (z := z113) hi_238_293 hz113 ?_
                      refine mm_21 (v := z113) hS105 hi_238_294 rfl (Nat.le_of_ble_eq_true rfl) ms_4 ?_
                      intro S114 hS115
                      replace hS115 : MS S0 S114 (upd (upd (upd (upd f 4 z113) 8 a85) 9 b86) 20 z93) g'94 := hS115
                      have hR116 : RJ (upd (upd (upd (upd f 4 z113) 8 a85) 9 b86) 20 z93) g'94 gs bc fl fk pj := RJ.at hR100_ (by show z69.toInt ≤ z113.toInt; omega)
                      refine am_e18 hi_238_297 ?_
                      exact ih _ (some (.int z)) (some (.int 0)) (some (.int z49)) 1 1 a85 b86 z113 z93 _ hS115 hR116 (fun j hj => (h98_ j hj).trans (hx j hj)) (by show ∀ i : Nat, (i : Int) < (f 20).toInt → g'94 23 i = g 23 i; rw [h99_]; exact ww_below (by omega) hA) (by show ∀ i : Nat, (f 20).toInt ≤ (i : Int) → (i : Int) < z93.toInt → 0 ≤ (g'94 23 i).toInt ∧ (g'94 23 i).toInt < 16384; rw [h99_]; exact ww_keep (by omega) ⟨by omega, by omega⟩ hB (by omega)) (by show (f 4).toInt ≤ z113.toInt; omega) (by show z113.toInt ≤ (f 0).toInt; omega) (by show (f 20).toInt ≤ z93.toInt; omega) (by show z93.toInt + (f 4).toInt ≤ (f 20).toInt + z113.toInt; omega) (by show (0 : Int) ≤ (1 : Int); omega) (by show (1 : Int) ≤ (1 : Int); omega) (by show 2 * ((f 0).toInt - z113.toInt) + (1 : Int) < (N : Int); omega)
                  · refine am_e12f hi_238_239 (am_cF (m := c4.toInt) (n := (0 : Int)) rfl (by decide) c90) ?_
                    refine am_e1 (v := 0) hi_238_242 rfl ?_
                    refine am_e0 hi_238_244 ?_
                    refine am_e13t hi_238_245 (by decide) ?_
                    refine am_e0 hi_238_252 ?_
                    refine am_e3 (ls' := [some (.ref 39), some (.int w), some (.int k0), some (.int m3), some (.int 0), some (.int z), some (.int 0), some (.int z49)]) hi_238_253 (Nat.le_of_ble_eq_true rfl) rfl ?_
                    refine am_e2 (v := 39) hi_238_255 rfl ?_
                    refine am_e1 (v := 0) hi_238_256 rfl ?_
                    refine am_e0 hi_238_258 ?_
                    refine am_e1 (v := z) hi_238_259 rfl ?_
                    refine am_e32n (as := [.ref 39, .int 0, .int 0, .int z]) (la := [some (.ref 39), some (.int 0), some (.int 0), some (.int z)]) (rest := []) hi_238_261 (am_hd0 (M := 238) (by decide) 261) (Nat.le_of_ble_eq_true rfl) (Nat.le_of_ble_eq_true rfl) (show 4 ≤ am_P0.2.2.1 239 from by decide +kernel) rfl (am_recv_ok hS88.fs) rfl rfl (ct_keep2 (d := (d + 4)) hS88 hR80  (by show (0 : Int) ≤ q.toInt; omega) (by show q.toInt ≤ (16383 : Int); omega)) ?_
                    rintro v117 S118 (⟨z119, g'120, hv121, hS122, hR126, h123, h124, h125⟩)
                    subst hv121
                    have h123_ : z119.toInt = q.toInt + 1 := h123
                    have h124_ : ∀ j, j ∉ [21, 22, 23] → g'120 j = gx j := h124
                    have h125_ : g'120 23 = upd (gx 23) q.toNatClampNeg z := h125
                    replace hS122 : MS S0 S118 (upd (upd (upd (upd f 4 z69) 8 a85) 9 b86) 20 z119) g'120 := hS122
                    have hR126_ : RJ (upd (upd (upd (upd f 4 z69) 8 a85) 9 b86) 20 z119) g'120 gs bc fl fk pj := hR126
                    show am_E _ _ _ _ [some (.ref 39), some (.int w), some (.int k0), some (.int m3), some (.int 0), some (.int z), some (.int 0), some (.int z49)] [] _ _
                    refine am_e2 (v := 39) hi_238_264 rfl ?_
                    refine am_e32n (as := [.ref 39]) (la := [some (.ref 39)]) (rest := []) hi_238_265 (am_hd0 (M := 238) (by decide) 265) (Nat.le_of_ble_eq_true rfl) (Nat.le_of_ble_eq_true rfl) (show 1 ≤ am_P0.2.2.1 183 from by decide +kernel) rfl (am_recv_ok hS122.fs) rfl rfl (ct_next (d := (d + 3)) hS122   (by show (0 : Int) ≤ z69.toInt; omega) (by show (f 0).toInt ≤ (16384 : Int); omega)) ?_
                    rintro v127 S128 (⟨r129, hv130, hS131, h132⟩)
                    subst hv130
                    have h132_ : z69.toInt < (f 0).toInt ∨ r129.toInt = (-1 : Int) := h132
                    show am_E _ _ _ _ [some (.ref 39), some (.int w), some (.int k0), some (.int m3), some (.int 0), some (.int z), some (.int 0), some (.int z49)] [.int r129] _ _
                    refine am_e0 hi_238_268 ?_
                    by_cases c134 : ¬ r129.toInt = (69 : Int)
                    · refine am_e13t hi_238_270 (am_cT (m := r129.toInt) (n := (69 : Int)) rfl (by decide) c134) ?_
                      refine am_e0 hi_238_277 ?_
                      refine am_e3 (ls' := [some (.ref 39), some (.int w), some (.int k0), some (.int 0), some (.int 0), some (.int z), some (.int 0), some (.int z49)]) hi_238_278 (Nat.le_of_ble_eq_true rfl) rfl ?_
                      refine am_e2 (v := 39) hi_238_279 rfl ?_
                      refine am_e7 hi_238_280 ?_
                      refine mm_20 (v := .int z69) hS131 hi_238_281 rfl ?_
                      refine am_e1 (v := 0) hi_238_284 rfl ?_
                      refine am_e12t hi_238_285 (by decide) ?_
                      refine am_e0 hi_238_292 ?_
                      obtain ⟨z135, hz135, tz135⟩ := am_addI (x := z69) (y := 0) (m := z69.toInt) (n := (0 : Int)) rfl (by decide) (by omega) (by omega)
                      refine am_e10 (z := z135) hi_238_293 hz135 ?_
                      refine mm_21 (v := z135) hS131 hi_238_294 rfl (Nat.le_of_ble_eq_true rfl) ms_4 ?_
                      intro S136 hS137
                      replace hS137 : MS S0 S136 (upd (upd (upd (upd f 4 z135) 8 a85) 9 b86) 20 z119) g'120 := hS137
                      have hR138 : RJ (upd (upd (upd (upd f 4 z135) 8 a85) 9 b86) 20 z119) g'120 gs bc fl fk pj := RJ.at hR126_ (by show z69.toInt ≤ z135.toInt; omega)
                      refine am_e18 hi_238_297 ?_
                      exact ih _ (some (.int z)) (some (.int 0)) (some (.int z49)) 0 0 a85 b86 z135 z119 _ hS137 hR138 (fun j hj => (h124_ j hj).trans (hx j hj)) (by show ∀ i : Nat, (i : Int) < (f 20).toInt → g'120 23 i = g 23 i; rw [h125_]; exact ww_below (by omega) hA) (by show ∀ i : Nat, (f 20).toInt ≤ (i : Int) → (i : Int) < z119.toInt → 0 ≤ (g'120 23 i).toInt ∧ (g'120 23 i).toInt < 16384; rw [h125_]; exact ww_keep (by omega) ⟨by omega, by omega⟩ hB (by omega)) (by show (f 4).toInt ≤ z135.toInt; omega) (by show z135.toInt ≤ (f 0).toInt; omega) (by show (f 20).toInt ≤ z119.toInt; omega) (by show z119.toInt + (f 4).toInt ≤ (f 20).toInt + z135.toInt; omega) (by show (0 : Int) ≤ (0 : Int); omega) (by show (0 : Int) ≤ (1 : Int); omega) (by show 2 * ((f 0).toInt - z135.toInt) + (0 : Int) < (N : Int); omega)
                    · refine am_e13f hi_238_270 (am_cF (m := r129.toInt) (n := (69 : Int)) rfl (by decide) c134) ?_
                      refine am_e0 hi_238_273 ?_
                      refine am_e18 hi_238_274 ?_
                      refine am_e3 (ls' := [some (.ref 39), some (.int w), some (.int k0), some (.int 1), some (.int 0), some (.int z), some (.int 0), some (.int z49)]) hi_238_278 (Nat.le_of_ble_eq_true rfl) rfl ?_
                      refine am_e2 (v := 39) hi_238_279 rfl ?_
                      refine am_e7 hi_238_280 ?_
                      refine mm_20 (v := .int z69) hS131 hi_238_281 rfl ?_
                      refine am_e1 (v := 1) hi_238_284 rfl ?_
                      refine am_e12f hi_238_285 (by decide) ?_
                      refine am_e0 hi_238_288 ?_
                      refine am_e18 hi_238_289 ?_
                      obtain ⟨z139, hz139, tz139⟩ := am_addI (x := z69) (y := 1) (m := z69.toInt) (n := (1 : Int)) rfl (by decide) (by omega) (by omega)
                      refine am_e10 (z := z139) hi_238_293 hz139 ?_
                      refine mm_21 (v := z139) hS131 hi_238_294 rfl (Nat.le_of_ble_eq_true rfl) ms_4 ?_
                      intro S140 hS141
                      replace hS141 : MS S0 S140 (upd (upd (upd (upd f 4 z139) 8 a85) 9 b86) 20 z119) g'120 := hS141
                      have hR142 : RJ (upd (upd (upd (upd f 4 z139) 8 a85) 9 b86) 20 z119) g'120 gs bc fl fk pj := RJ.at hR126_ (by show z69.toInt ≤ z139.toInt; omega)
                      refine am_e18 hi_238_297 ?_
                      exact ih _ (some (.int z)) (some (.int 0)) (some (.int z49)) 1 0 a85 b86 z139 z119 _ hS141 hR142 (fun j hj => (h124_ j hj).trans (hx j hj)) (by show ∀ i : Nat, (i : Int) < (f 20).toInt → g'120 23 i = g 23 i; rw [h125_]; exact ww_below (by omega) hA) (by show ∀ i : Nat, (f 20).toInt ≤ (i : Int) → (i : Int) < z119.toInt → 0 ≤ (g'120 23 i).toInt ∧ (g'120 23 i).toInt < 16384; rw [h125_]; exact ww_keep (by omega) ⟨by omega, by omega⟩ hB (by omega)) (by show (f 4).toInt ≤ z139.toInt; omega) (by show z139.toInt ≤ (f 0).toInt; omega) (by show (f 20).toInt ≤ z119.toInt; omega) (by show z119.toInt + (f 4).toInt ≤ (f 20).toInt + z139.toInt; omega) (by show (0 : Int) ≤ (1 : Int); omega) (by show (1 : Int) ≤ (1 : Int); omega) (by show 2 * ((f 0).toInt - z139.toInt) + (1 : Int) < (N : Int); omega)
                · refine am_e13f hi_238_203 (am_cF (m := (g 2 z49.toNatClampNeg).toInt) (n := (-3 : Int)) rfl (by decide) c82) ?_
                  refine am_e0 hi_238_206 ?_
                  refine am_e18 hi_238_207 ?_
                  refine am_e3 (ls' := [some (.ref 39), some (.int w), some (.int k0), some (.int m3), some (.int c4), some (.int z), some (.int 2), some (.int z49)]) hi_238_211 (Nat.le_of_ble_eq_true rfl) rfl ?_
                  refine am_e1 (v := 2) hi_238_213 rfl ?_
                  refine am_e12f hi_238_215 (by decide) ?_
                  refine am_e1 (v := 2) hi_238_218 rfl ?_
                  refine am_e0 hi_238_220 ?_
                  refine am_e13f hi_238_221 (by decide) ?_
                  refine am_e1 (v := c4) hi_238_224 rfl ?_
                  by_cases c143 : c4.toInt = (0 : Int)
                  · refine am_e12t hi_238_226 (am_cT (m := c4.toInt) (n := (0 : Int)) rfl (by decide) c143) ?_
                    refine am_e1 (v := c4) hi_238_237 rfl ?_
                    refine am_e12f hi_238_239 (am_cF (m := c4.toInt) (n := (0 : Int)) rfl (by decide) (by simp only [am_cI]; omega)) ?_
                    refine am_e1 (v := 2) hi_238_242 rfl ?_
                    refine am_e0 hi_238_244 ?_
                    refine am_e13f hi_238_245 (by decide) ?_
                    refine am_e0 hi_238_248 ?_
                    refine am_e18 hi_238_249 ?_
                    refine am_e3 (ls' := [some (.ref 39), some (.int w), some (.int k0), some (.int m3), some (.int 1), some (.int z), some (.int 2), some (.int z49)]) hi_238_253 (Nat.le_of_ble_eq_true rfl) rfl ?_
                    refine am_e2 (v := 39) hi_238_255 rfl ?_
                    refine am_e1 (v := 2) hi_238_256 rfl ?_
                    refine am_e0 hi_238_258 ?_
                    refine am_e1 (v := z) hi_238_259 rfl ?_
                    refine am_e32n (as := [.ref 39, .int 2, .int 0, .int z]) (la := [some (.ref 39), some (.int 2), some (.int 0), some (.int z)]) (rest := []) hi_238_261 (am_hd0 (M := 238) (by decide) 261) (Nat.le_of_ble_eq_true rfl) (Nat.le_of_ble_eq_true rfl) (show 4 ≤ am_P0.2.2.1 239 from by decide +kernel) rfl (am_recv_ok hS71.fs) rfl rfl (ct_keep2 (d := (d + 4)) hS71 hR80  (by show (0 : Int) ≤ q.toInt; omega) (by show q.toInt ≤ (16383 : Int); omega)) ?_
                    rintro v144 S145 (⟨z146, g'147, hv148, hS149, hR153, h150, h151, h152⟩)
                    subst hv148
                    have h150_ : z146.toInt = q.toInt + 1 := h150
                    have h151_ : ∀ j, j ∉ [21, 22, 23] → g'147 j = gx j := h151
                    have h152_ : g'147 23 = upd (gx 23) q.toNatClampNeg z := h152
                    replace hS149 : MS S0 S145 (upd (upd (upd (upd f 4 z69) 8 a) 9 b) 20 z146) g'147 := hS149
                    have hR153_ : RJ (upd (upd (upd (upd f 4 z69) 8 a) 9 b) 20 z146) g'147 gs bc fl fk pj := hR153
                    show am_E _ _ _ _ [some (.ref 39), some (.int w), some (.int k0), some (.int m3), some (.int 1), some (.int z), some (.int 2), some (.int z49)] [] _ _
                    refine am_e2 (v := 39) hi_238_264 rfl ?_
                    refine am_e32n (as := [.ref 39]) (la := [some (.ref 39)]) (rest := []) hi_238_265 (am_hd0 (M := 238) (by decide) 265) (Nat.le_of_ble_eq_true rfl) (Nat.le_of_ble_eq_true rfl) (show 1 ≤ am_P0.2.2.1 183 from by decide +kernel) rfl (am_recv_ok hS149.fs) rfl rfl (ct_next (d := (d + 3)) hS149   (by show (0 : Int) ≤ z69.toInt; omega) (by show (f 0).toInt ≤ (16384 : Int); omega)) ?_
                    rintro v154 S155 (⟨r156, hv157, hS158, h159⟩)
                    subst hv157
                    have h159_ : z69.toInt < (f 0).toInt ∨ r156.toInt = (-1 : Int) := h159
                    show am_E _ _ _ _ [some (.ref 39), some (.int w), some (.int k0), some (.int m3), some (.int 1), some (.int z), some (.int 2), some (.int z49)] [.int r156] _ _
                    refine am_e0 hi_238_268 ?_
                    by_cases c161 : ¬ r156.toInt = (69 : Int)
                    · refine am_e13t hi_238_270 (am_cT (m := r156.toInt) (n := (69 : Int)) rfl (by decide) c161) ?_
                      refine am_e0 hi_238_277 ?_
                      refine am_e3 (ls' := [some (.ref 39), some (.int w), some (.int k0), some (.int 0), some (.int 1), some (.int z), some (.int 2), some (.int z49)]) hi_238_278 (Nat.le_of_ble_eq_true rfl) rfl ?_
                      refine am_e2 (v := 39) hi_238_279 rfl ?_
                      refine am_e7 hi_238_280 ?_
                      refine mm_20 (v := .int z69) hS158 hi_238_281 rfl ?_
                      refine am_e1 (v := 0) hi_238_284 rfl ?_
                      refine am_e12t hi_238_285 (by decide) ?_
                      refine am_e0 hi_238_292 ?_
                      obtain ⟨z162, hz162, tz162⟩ := am_addI (x := z69) (y := 0) (m := z69.toInt) (n := (0 : Int)) rfl (by decide) (by omega) (by omega)
                      refine am_e10 (z := z162) hi_238_293 hz162 ?_
                      refine mm_21 (v := z162) hS158 hi_238_294 rfl (Nat.le_of_ble_eq_true rfl) ms_4 ?_
                      intro S163 hS164
                      replace hS164 : MS S0 S163 (upd (upd (upd (upd f 4 z162) 8 a) 9 b) 20 z146) g'147 := hS164
                      have hR165 : RJ (upd (upd (upd (upd f 4 z162) 8 a) 9 b) 20 z146) g'147 gs bc fl fk pj := RJ.at hR153_ (by show z69.toInt ≤ z162.toInt; omega)
                      refine am_e18 hi_238_297 ?_
                      exact ih _ (some (.int z)) (some (.int 2)) (some (.int z49)) 0 1 a b z162 z146 _ hS164 hR165 (fun j hj => (h151_ j hj).trans (hx j hj)) (by show ∀ i : Nat, (i : Int) < (f 20).toInt → g'147 23 i = g 23 i; rw [h152_]; exact ww_below (by omega) hA) (by show ∀ i : Nat, (f 20).toInt ≤ (i : Int) → (i : Int) < z146.toInt → 0 ≤ (g'147 23 i).toInt ∧ (g'147 23 i).toInt < 16384; rw [h152_]; exact ww_keep (by omega) ⟨by omega, by omega⟩ hB (by omega)) (by show (f 4).toInt ≤ z162.toInt; omega) (by show z162.toInt ≤ (f 0).toInt; omega) (by show (f 20).toInt ≤ z146.toInt; omega) (by show z146.toInt + (f 4).toInt ≤ (f 20).toInt + z162.toInt; omega) (by show (0 : Int) ≤ (0 : Int); omega) (by show (0 : Int) ≤ (1 : Int); omega) (by show 2 * ((f 0).toInt - z162.toInt) + (0 : Int) < (N : Int); omega)
                    · refine am_e13f hi_238_270 (am_cF (m := r156.toInt) (n := (69 : Int)) rfl (by decide) c161) ?_
                      refine am_e0 hi_238_273 ?_
                      refine am_e18 hi_238_274 ?_
                      refine am_e3 (ls' := [some (.ref 39), some (.int w), some (.int k0), some (.int 1), some (.int 1), some (.int z), some (.int 2), some (.int z49)]) hi_238_278 (Nat.le_of_ble_eq_true rfl) rfl ?_
                      refine am_e2 (v := 39) hi_238_279 rfl ?_
                      refine am_e7 hi_238_280 ?_
                      refine mm_20 (v := .int z69) hS158 hi_238_281 rfl ?_
                      refine am_e1 (v := 1) hi_238_284 rfl ?_
                      refine am_e12f hi_238_285 (by decide) ?_
                      refine am_e0 hi_238_288 ?_
                      refine am_e18 hi_238_289 ?_
                      obtain ⟨z166, hz166, tz166⟩ := am_addI (x := z69) (y := 1) (m := z69.toInt) (n := (1 : Int)) rfl (by decide) (by omega) (by omega)
                      refine am_e10 (z := z166) hi_238_293 hz166 ?_
                      refine mm_21 (v := z166) hS158 hi_238_294 rfl (Nat.le_of_ble_eq_true rfl) ms_4 ?_
                      intro S167 hS168
                      replace hS168 : MS S0 S167 (upd (upd (upd (upd f 4 z166) 8 a) 9 b) 20 z146) g'147 := hS168
                      have hR169 : RJ (upd (upd (upd (upd f 4 z166) 8 a) 9 b) 20 z146) g'147 gs bc fl fk pj := RJ.at hR153_ (by show z69.toInt ≤ z166.toInt; omega)
                      refine am_e18 hi_238_297 ?_
                      exact ih _ (some (.int z)) (some (.int 2)) (some (.int z49)) 1 1 a b z166 z146 _ hS168 hR169 (fun j hj => (h151_ j hj).trans (hx j hj)) (by show ∀ i : Nat, (i : Int) < (f 20).toInt → g'147 23 i = g 23 i; rw [h152_]; exact ww_below (by omega) hA) (by show ∀ i : Nat, (f 20).toInt ≤ (i : Int) → (i : Int) < z146.toInt → 0 ≤ (g'147 23 i).toInt ∧ (g'147 23 i).toInt < 16384; rw [h152_]; exact ww_keep (by omega) ⟨by omega, by omega⟩ hB (by omega)) (by show (f 4).toInt ≤ z166.toInt; omega) (by show z166.toInt ≤ (f 0).toInt; omega) (by show (f 20).toInt ≤ z146.toInt; omega) (by show z146.toInt + (f 4).toInt ≤ (f 20).toInt + z166.toInt; omega) (by show (0 : Int) ≤ (1 : Int); omega) (by show (1 : Int) ≤ (1 : Int); omega) (by show 2 * ((f 0).toInt - z166.toInt) + (1 : Int) < (N : Int); omega)
                  · refine am_e12f hi_238_226 (am_cF (m := c4.toInt) (n := (0 : Int)) rfl (by decide) c143) ?_
                    refine am_e2 (v := 39) hi_238_229 rfl ?_
                    refine am_e0 hi_238_230 ?_
                    refine am_e1 (v := z49) hi_238_232 rfl ?_
                    refine am_e32n (as := [.ref 39, .int 9, .int z49]) (la := [some (.ref 39), some (.int 9), some (.int z49)]) (rest := []) hi_238_234 (am_hd0 (M := 238) (by decide) 234) (Nat.le_of_ble_eq_true rfl) (Nat.le_of_ble_eq_true rfl) (show 3 ≤ am_P0.2.2.1 191 from by decide +kernel) rfl (am_recv_ok hS71.fs) rfl rfl (ct_failName (d := (d + 4)) hS71   ) ?_
                    rintro v170 S171 (⟨a172, b173, hv174, hS175⟩)
                    subst hv174
                    replace hS175 : MS S0 S171 (upd (upd (upd (upd f 4 z69) 8 a172) 9 b173) 20 q) gx := hS175
                    show am_E _ _ _ _ [some (.ref 39), some (.int w), some (.int k0), some (.int m3), some (.int c4), some (.int z), some (.int 2), some (.int z49)] [] _ _
                    refine am_e1 (v := c4) hi_238_237 rfl ?_
                    refine am_e12t hi_238_239 (am_cT (m := c4.toInt) (n := (0 : Int)) rfl (by decide) (by simp only [am_cI]; omega)) ?_
                    refine am_e0 hi_238_248 ?_
                    refine am_e18 hi_238_249 ?_
                    refine am_e3 (ls' := [some (.ref 39), some (.int w), some (.int k0), some (.int m3), some (.int 1), some (.int z), some (.int 2), some (.int z49)]) hi_238_253 (Nat.le_of_ble_eq_true rfl) rfl ?_
                    refine am_e2 (v := 39) hi_238_255 rfl ?_
                    refine am_e1 (v := 2) hi_238_256 rfl ?_
                    refine am_e0 hi_238_258 ?_
                    refine am_e1 (v := z) hi_238_259 rfl ?_
                    refine am_e32n (as := [.ref 39, .int 2, .int 0, .int z]) (la := [some (.ref 39), some (.int 2), some (.int 0), some (.int z)]) (rest := []) hi_238_261 (am_hd0 (M := 238) (by decide) 261) (Nat.le_of_ble_eq_true rfl) (Nat.le_of_ble_eq_true rfl) (show 4 ≤ am_P0.2.2.1 239 from by decide +kernel) rfl (am_recv_ok hS175.fs) rfl rfl (ct_keep2 (d := (d + 4)) hS175 hR80  (by show (0 : Int) ≤ q.toInt; omega) (by show q.toInt ≤ (16383 : Int); omega)) ?_
                    rintro v177 S178 (⟨z179, g'180, hv181, hS182, hR186, h183, h184, h185⟩)
                    subst hv181
                    have h183_ : z179.toInt = q.toInt + 1 := h183
                    have h184_ : ∀ j, j ∉ [21, 22, 23] → g'180 j = gx j := h184
                    have h185_ : g'180 23 = upd (gx 23) q.toNatClampNeg z := h185
                    replace hS182 : MS S0 S178 (upd (upd (upd (upd f 4 z69) 8 a172) 9 b173) 20 z179) g'180 := hS182
                    have hR186_ : RJ (upd (upd (upd (upd f 4 z69) 8 a172) 9 b173) 20 z179) g'180 gs bc fl fk pj := hR186
                    show am_E _ _ _ _ [some (.ref 39), some (.int w), some (.int k0), some (.int m3), some (.int 1), some (.int z), some (.int 2), some (.int z49)] [] _ _
                    refine am_e2 (v := 39) hi_238_264 rfl ?_
                    refine am_e32n (as := [.ref 39]) (la := [some (.ref 39)]) (rest := []) hi_238_265 (am_hd0 (M := 238) (by decide) 265) (Nat.le_of_ble_eq_true rfl) (Nat.le_of_ble_eq_true rfl) (show 1 ≤ am_P0.2.2.1 183 from by decide +kernel) rfl (am_recv_ok hS182.fs) rfl rfl (ct_next (d := (d + 3)) hS182   (by show (0 : Int) ≤ z69.toInt; omega) (by show (f 0).toInt ≤ (16384 : Int); omega)) ?_
                    rintro v187 S188 (⟨r189, hv190, hS191, h192⟩)
                    subst hv190
                    have h192_ : z69.toInt < (f 0).toInt ∨ r189.toInt = (-1 : Int) := h192
                    show am_E _ _ _ _ [some (.ref 39), some (.int w), some (.int k0), some (.int m3), some (.int 1), some (.int z), some (.int 2), some (.int z49)] [.int r189] _ _
                    refine am_e0 hi_238_268 ?_
                    by_cases c194 : ¬ r189.toInt = (69 : Int)
                    · refine am_e13t hi_238_270 (am_cT (m := r189.toInt) (n := (69 : Int)) rfl (by decide) c194) ?_
                      refine am_e0 hi_238_277 ?_
                      refine am_e3 (ls' := [some (.ref 39), some (.int w), some (.int k0), some (.int 0), some (.int 1), some (.int z), some (.int 2), some (.int z49)]) hi_238_278 (Nat.le_of_ble_eq_true rfl) rfl ?_
                      refine am_e2 (v := 39) hi_238_279 rfl ?_
                      refine am_e7 hi_238_280 ?_
                      refine mm_20 (v := .int z69) hS191 hi_238_281 rfl ?_
                      refine am_e1 (v := 0) hi_238_284 rfl ?_
                      refine am_e12t hi_238_285 (by decide) ?_
                      refine am_e0 hi_238_292 ?_
                      obtain ⟨z195, hz195, tz195⟩ := am_addI (x := z69) (y := 0) (m := z69.toInt) (n := (0 : Int)) rfl (by decide) (by omega) (by omega)
                      refine am_e10 (z := z195) hi_238_293 hz195 ?_
                      refine mm_21 (v := z195) hS191 hi_238_294 rfl (Nat.le_of_ble_eq_true rfl) ms_4 ?_
                      intro S196 hS197
                      replace hS197 : MS S0 S196 (upd (upd (upd (upd f 4 z195) 8 a172) 9 b173) 20 z179) g'180 := hS197
                      have hR198 : RJ (upd (upd (upd (upd f 4 z195) 8 a172) 9 b173) 20 z179) g'180 gs bc fl fk pj := RJ.at hR186_ (by show z69.toInt ≤ z195.toInt; omega)
                      refine am_e18 hi_238_297 ?_
                      exact ih _ (some (.int z)) (some (.int 2)) (some (.int z49)) 0 1 a172 b173 z195 z179 _ hS197 hR198 (fun j hj => (h184_ j hj).trans (hx j hj)) (by show ∀ i : Nat, (i : Int) < (f 20).toInt → g'180 23 i = g 23 i; rw [h185_]; exact ww_below (by omega) hA) (by show ∀ i : Nat, (f 20).toInt ≤ (i : Int) → (i : Int) < z179.toInt → 0 ≤ (g'180 23 i).toInt ∧ (g'180 23 i).toInt < 16384; rw [h185_]; exact ww_keep (by omega) ⟨by omega, by omega⟩ hB (by omega)) (by show (f 4).toInt ≤ z195.toInt; omega) (by show z195.toInt ≤ (f 0).toInt; omega) (by show (f 20).toInt ≤ z179.toInt; omega) (by show z179.toInt + (f 4).toInt ≤ (f 20).toInt + z195.toInt; omega) (by show (0 : Int) ≤ (0 : Int); omega) (by show (0 : Int) ≤ (1 : Int); omega) (by show 2 * ((f 0).toInt - z195.toInt) + (0 : Int) < (N : Int); omega)
                    · refine am_e13f hi_238_270 (am_cF (m := r189.toInt) (n := (69 : Int)) rfl (by decide) c194) ?_
                      refine am_e0 hi_238_273 ?_
                      refine am_e18 hi_238_274 ?_
                      refine am_e3 (ls' := [some (.ref 39), some (.int w), some (.int k0), some (.int 1), some (.int 1), some (.int z), some (.int 2), some (.int z49)]) hi_238_278 (Nat.le_of_ble_eq_true rfl) rfl ?_
                      refine am_e2 (v := 39) hi_238_279 rfl ?_
                      refine am_e7 hi_238_280 ?_
                      refine mm_20 (v := .int z69) hS191 hi_238_281 rfl ?_
                      refine am_e1 (v := 1) hi_238_284 rfl ?_
                      refine am_e12f hi_238_285 (by decide) ?_
                      refine am_e0 hi_238_288 ?_
                      refine am_e18 hi_238_289 ?_
                      obtain ⟨z199, hz199, tz199⟩ := am_addI (x := z69) (y := 1) (m := z69.toInt) (n := (1 : Int)) rfl (by decide) (by omega) (by omega)
                      refine am_e10 (z := z199) hi_238_293 hz199 ?_
                      refine mm_21 (v := z199) hS191 hi_238_294 rfl (Nat.le_of_ble_eq_true rfl) ms_4 ?_
                      intro S200 hS201
                      replace hS201 : MS S0 S200 (upd (upd (upd (upd f 4 z199) 8 a172) 9 b173) 20 z179) g'180 := hS201
                      have hR202 : RJ (upd (upd (upd (upd f 4 z199) 8 a172) 9 b173) 20 z179) g'180 gs bc fl fk pj := RJ.at hR186_ (by show z69.toInt ≤ z199.toInt; omega)
                      refine am_e18 hi_238_297 ?_
                      exact ih _ (some (.int z)) (some (.int 2)) (some (.int z49)) 1 1 a172 b173 z199 z179 _ hS201 hR202 (fun j hj => (h184_ j hj).trans (hx j hj)) (by show ∀ i : Nat, (i : Int) < (f 20).toInt → g'180 23 i = g 23 i; rw [h185_]; exact ww_below (by omega) hA) (by show ∀ i : Nat, (f 20).toInt ≤ (i : Int) → (i : Int) < z179.toInt → 0 ≤ (g'180 23 i).toInt ∧ (g'180 23 i).toInt < 16384; rw [h185_]; exact ww_keep (by omega) ⟨by omega, by omega⟩ hB (by omega)) (by show (f 4).toInt ≤ z199.toInt; omega) (by show z199.toInt ≤ (f 0).toInt; omega) (by show (f 20).toInt ≤ z179.toInt; omega) (by show z179.toInt + (f 4).toInt ≤ (f 20).toInt + z199.toInt; omega) (by show (0 : Int) ≤ (1 : Int); omega) (by show (1 : Int) ≤ (1 : Int); omega) (by show 2 * ((f 0).toInt - z199.toInt) + (1 : Int) < (N : Int); omega)
              · refine am_e13f hi_238_187 (am_cF (m := (g 2 z49.toNatClampNeg).toInt) (n := (-2 : Int)) rfl (by decide) c81) ?_
                refine am_e0 hi_238_190 ?_
                refine am_e18 hi_238_191 ?_
                refine am_e3 (ls' := [some (.ref 39), some (.int w), some (.int k0), some (.int m3), some (.int c4), some (.int z), some (.int 1), some (.int z49)]) hi_238_211 (Nat.le_of_ble_eq_true rfl) rfl ?_
                refine am_e1 (v := 1) hi_238_213 rfl ?_
                refine am_e12f hi_238_215 (by decide) ?_
                refine am_e1 (v := 1) hi_238_218 rfl ?_
                refine am_e0 hi_238_220 ?_
                refine am_e13t hi_238_221 (by decide) ?_
                refine am_e1 (v := c4) hi_238_237 rfl ?_
                by_cases c203 : ¬ c4.toInt = (0 : Int)
                · refine am_e12t hi_238_239 (am_cT (m := c4.toInt) (n := (0 : Int)) rfl (by decide) c203) ?_
                  refine am_e0 hi_238_248 ?_
                  refine am_e18 hi_238_249 ?_
                  refine am_e3 (ls' := [some (.ref 39), some (.int w), some (.int k0), some (.int m3), some (.int 1), some (.int z), some (.int 1), some (.int z49)]) hi_238_253 (Nat.le_of_ble_eq_true rfl) rfl ?_
                  refine am_e2 (v := 39) hi_238_255 rfl ?_
                  refine am_e1 (v := 1) hi_238_256 rfl ?_
                  refine am_e0 hi_238_258 ?_
                  refine am_e1 (v := z) hi_238_259 rfl ?_
                  refine am_e32n (as := [.ref 39, .int 1, .int 0, .int z]) (la := [some (.ref 39), some (.int 1), some (.int 0), some (.int z)]) (rest := []) hi_238_261 (am_hd0 (M := 238) (by decide) 261) (Nat.le_of_ble_eq_true rfl) (Nat.le_of_ble_eq_true rfl) (show 4 ≤ am_P0.2.2.1 239 from by decide +kernel) rfl (am_recv_ok hS71.fs) rfl rfl (ct_keep2 (d := (d + 4)) hS71 hR80  (by show (0 : Int) ≤ q.toInt; omega) (by show q.toInt ≤ (16383 : Int); omega)) ?_
                  rintro v204 S205 (⟨z206, g'207, hv208, hS209, hR213, h210, h211, h212⟩)
                  subst hv208
                  have h210_ : z206.toInt = q.toInt + 1 := h210
                  have h211_ : ∀ j, j ∉ [21, 22, 23] → g'207 j = gx j := h211
                  have h212_ : g'207 23 = upd (gx 23) q.toNatClampNeg z := h212
                  replace hS209 : MS S0 S205 (upd (upd (upd (upd f 4 z69) 8 a) 9 b) 20 z206) g'207 := hS209
                  have hR213_ : RJ (upd (upd (upd (upd f 4 z69) 8 a) 9 b) 20 z206) g'207 gs bc fl fk pj := hR213
                  show am_E _ _ _ _ [some (.ref 39), some (.int w), some (.int k0), some (.int m3), some (.int 1), some (.int z), some (.int 1), some (.int z49)] [] _ _
                  refine am_e2 (v := 39) hi_238_264 rfl ?_
                  refine am_e32n (as := [.ref 39]) (la := [some (.ref 39)]) (rest := []) hi_238_265 (am_hd0 (M := 238) (by decide) 265) (Nat.le_of_ble_eq_true rfl) (Nat.le_of_ble_eq_true rfl) (show 1 ≤ am_P0.2.2.1 183 from by decide +kernel) rfl (am_recv_ok hS209.fs) rfl rfl (ct_next (d := (d + 3)) hS209   (by show (0 : Int) ≤ z69.toInt; omega) (by show (f 0).toInt ≤ (16384 : Int); omega)) ?_
                  rintro v214 S215 (⟨r216, hv217, hS218, h219⟩)
                  subst hv217
                  have h219_ : z69.toInt < (f 0).toInt ∨ r216.toInt = (-1 : Int) := h219
                  show am_E _ _ _ _ [some (.ref 39), some (.int w), some (.int k0), some (.int m3), some (.int 1), some (.int z), some (.int 1), some (.int z49)] [.int r216] _ _
                  refine am_e0 hi_238_268 ?_
                  by_cases c221 : ¬ r216.toInt = (69 : Int)
                  · refine am_e13t hi_238_270 (am_cT (m := r216.toInt) (n := (69 : Int)) rfl (by decide) c221) ?_
                    refine am_e0 hi_238_277 ?_
                    refine am_e3 (ls' := [some (.ref 39), some (.int w), some (.int k0), some (.int 0), some (.int 1), some (.int z), some (.int 1), some (.int z49)]) hi_238_278 (Nat.le_of_ble_eq_true rfl) rfl ?_
                    refine am_e2 (v := 39) hi_238_279 rfl ?_
                    refine am_e7 hi_238_280 ?_
                    refine mm_20 (v := .int z69) hS218 hi_238_281 rfl ?_
                    refine am_e1 (v := 0) hi_238_284 rfl ?_
                    refine am_e12t hi_238_285 (by decide) ?_
                    refine am_e0 hi_238_292 ?_
                    obtain ⟨z222, hz222, tz222⟩ := am_addI (x := z69) (y := 0) (m := z69.toInt) (n := (0 : Int)) rfl (by decide) (by omega) (by omega)
                    refine am_e10 (z := z222) hi_238_293 hz222 ?_
                    refine mm_21 (v := z222) hS218 hi_238_294 rfl (Nat.le_of_ble_eq_true rfl) ms_4 ?_
                    intro S223 hS224
                    replace hS224 : MS S0 S223 (upd (upd (upd (upd f 4 z222) 8 a) 9 b) 20 z206) g'207 := hS224
                    have hR225 : RJ (upd (upd (upd (upd f 4 z222) 8 a) 9 b) 20 z206) g'207 gs bc fl fk pj := RJ.at hR213_ (by show z69.toInt ≤ z222.toInt; omega)
                    refine am_e18 hi_238_297 ?_
                    exact ih _ (some (.int z)) (some (.int 1)) (some (.int z49)) 0 1 a b z222 z206 _ hS224 hR225 (fun j hj => (h211_ j hj).trans (hx j hj)) (by show ∀ i : Nat, (i : Int) < (f 20).toInt → g'207 23 i = g 23 i; rw [h212_]; exact ww_below (by omega) hA) (by show ∀ i : Nat, (f 20).toInt ≤ (i : Int) → (i : Int) < z206.toInt → 0 ≤ (g'207 23 i).toInt ∧ (g'207 23 i).toInt < 16384; rw [h212_]; exact ww_keep (by omega) ⟨by omega, by omega⟩ hB (by omega)) (by show (f 4).toInt ≤ z222.toInt; omega) (by show z222.toInt ≤ (f 0).toInt; omega) (by show (f 20).toInt ≤ z206.toInt; omega) (by show z206.toInt + (f 4).toInt ≤ (f 20).toInt + z222.toInt; omega) (by show (0 : Int) ≤ (0 : Int); omega) (by show (0 : Int) ≤ (1 : Int); omega) (by show 2 * ((f 0).toInt - z222.toInt) + (0 : Int) < (N : Int); omega)
                  · refine am_e13f hi_238_270 (am_cF (m := r216.toInt) (n := (69 : Int)) rfl (by decide) c221) ?_
                    refine am_e0 hi_238_273 ?_
                    refine am_e18 hi_238_274 ?_
                    refine am_e3 (ls' := [some (.ref 39), some (.int w), some (.int k0), some (.int 1), some (.int 1), some (.int z), some (.int 1), some (.int z49)]) hi_238_278 (Nat.le_of_ble_eq_true rfl) rfl ?_
                    refine am_e2 (v := 39) hi_238_279 rfl ?_
                    refine am_e7 hi_238_280 ?_
                    refine mm_20 (v := .int z69) hS218 hi_238_281 rfl ?_
                    refine am_e1 (v := 1) hi_238_284 rfl ?_
                    refine am_e12f hi_238_285 (by decide) ?_
                    refine am_e0 hi_238_288 ?_
                    refine am_e18 hi_238_289 ?_
                    obtain ⟨z226, hz226, tz226⟩ := am_addI (x := z69) (y := 1) (m := z69.toInt) (n := (1 : Int)) rfl (by decide) (by omega) (by omega)
                    refine am_e10 (z := z226) hi_238_293 hz226 ?_
                    refine mm_21 (v := z226) hS218 hi_238_294 rfl (Nat.le_of_ble_eq_true rfl) ms_4 ?_
                    intro S227 hS228
                    replace hS228 : MS S0 S227 (upd (upd (upd (upd f 4 z226) 8 a) 9 b) 20 z206) g'207 := hS228
                    have hR229 : RJ (upd (upd (upd (upd f 4 z226) 8 a) 9 b) 20 z206) g'207 gs bc fl fk pj := RJ.at hR213_ (by show z69.toInt ≤ z226.toInt; omega)
                    refine am_e18 hi_238_297 ?_
                    exact ih _ (some (.int z)) (some (.int 1)) (some (.int z49)) 1 1 a b z226 z206 _ hS228 hR229 (fun j hj => (h211_ j hj).trans (hx j hj)) (by show ∀ i : Nat, (i : Int) < (f 20).toInt → g'207 23 i = g 23 i; rw [h212_]; exact ww_below (by omega) hA) (by show ∀ i : Nat, (f 20).toInt ≤ (i : Int) → (i : Int) < z206.toInt → 0 ≤ (g'207 23 i).toInt ∧ (g'207 23 i).toInt < 16384; rw [h212_]; exact ww_keep (by omega) ⟨by omega, by omega⟩ hB (by omega)) (by show (f 4).toInt ≤ z226.toInt; omega) (by show z226.toInt ≤ (f 0).toInt; omega) (by show (f 20).toInt ≤ z206.toInt; omega) (by show z206.toInt + (f 4).toInt ≤ (f 20).toInt + z226.toInt; omega) (by show (0 : Int) ≤ (1 : Int); omega) (by show (1 : Int) ≤ (1 : Int); omega) (by show 2 * ((f 0).toInt - z226.toInt) + (1 : Int) < (N : Int); omega)
                · refine am_e12f hi_238_239 (am_cF (m := c4.toInt) (n := (0 : Int)) rfl (by decide) c203) ?_
                  refine am_e1 (v := 1) hi_238_242 rfl ?_
                  refine am_e0 hi_238_244 ?_
                  refine am_e13t hi_238_245 (by decide) ?_
                  refine am_e0 hi_238_252 ?_
                  refine am_e3 (ls' := [some (.ref 39), some (.int w), some (.int k0), some (.int m3), some (.int 0), some (.int z), some (.int 1), some (.int z49)]) hi_238_253 (Nat.le_of_ble_eq_true rfl) rfl ?_
                  refine am_e2 (v := 39) hi_238_255 rfl ?_
                  refine am_e1 (v := 1) hi_238_256 rfl ?_
                  refine am_e0 hi_238_258 ?_
                  refine am_e1 (v := z) hi_238_259 rfl ?_
                  refine am_e32n (as := [.ref 39, .int 1, .int 0, .int z]) (la := [some (.ref 39), some (.int 1), some (.int 0), some (.int z)]) (rest := []) hi_238_261 (am_hd0 (M := 238) (by decide) 261) (Nat.le_of_ble_eq_true rfl) (Nat.le_of_ble_eq_true rfl) (show 4 ≤ am_P0.2.2.1 239 from by decide +kernel) rfl (am_recv_ok hS71.fs) rfl rfl (ct_keep2 (d := (d + 4)) hS71 hR80  (by show (0 : Int) ≤ q.toInt; omega) (by show q.toInt ≤ (16383 : Int); omega)) ?_
                  rintro v230 S231 (⟨z232, g'233, hv234, hS235, hR239, h236, h237, h238⟩)
                  subst hv234
                  have h236_ : z232.toInt = q.toInt + 1 := h236
                  have h237_ : ∀ j, j ∉ [21, 22, 23] → g'233 j = gx j := h237
                  have h238_ : g'233 23 = upd (gx 23) q.toNatClampNeg z := h238
                  replace hS235 : MS S0 S231 (upd (upd (upd (upd f 4 z69) 8 a) 9 b) 20 z232) g'233 := hS235
                  have hR239_ : RJ (upd (upd (upd (upd f 4 z69) 8 a) 9 b) 20 z232) g'233 gs bc fl fk pj := hR239
                  show am_E _ _ _ _ [some (.ref 39), some (.int w), some (.int k0), some (.int m3), some (.int 0), some (.int z), some (.int 1), some (.int z49)] [] _ _
                  refine am_e2 (v := 39) hi_238_264 rfl ?_
                  refine am_e32n (as := [.ref 39]) (la := [some (.ref 39)]) (rest := []) hi_238_265 (am_hd0 (M := 238) (by decide) 265) (Nat.le_of_ble_eq_true rfl) (Nat.le_of_ble_eq_true rfl) (show 1 ≤ am_P0.2.2.1 183 from by decide +kernel) rfl (am_recv_ok hS235.fs) rfl rfl (ct_next (d := (d + 3)) hS235   (by show (0 : Int) ≤ z69.toInt; omega) (by show (f 0).toInt ≤ (16384 : Int); omega)) ?_
                  rintro v240 S241 (⟨r242, hv243, hS244, h245⟩)
                  subst hv243
                  have h245_ : z69.toInt < (f 0).toInt ∨ r242.toInt = (-1 : Int) := h245
                  show am_E _ _ _ _ [some (.ref 39), some (.int w), some (.int k0), some (.int m3), some (.int 0), some (.int z), some (.int 1), some (.int z49)] [.int r242] _ _
                  refine am_e0 hi_238_268 ?_
                  by_cases c247 : ¬ r242.toInt = (69 : Int)
                  · refine am_e13t hi_238_270 (am_cT (m := r242.toInt) (n := (69 : Int)) rfl (by decide) c247) ?_
                    refine am_e0 hi_238_277 ?_
                    refine am_e3 (ls' := [some (.ref 39), some (.int w), some (.int k0), some (.int 0), some (.int 0), some (.int z), some (.int 1), some (.int z49)]) hi_238_278 (Nat.le_of_ble_eq_true rfl) rfl ?_
                    refine am_e2 (v := 39) hi_238_279 rfl ?_
                    refine am_e7 hi_238_280 ?_
                    refine mm_20 (v := .int z69) hS244 hi_238_281 rfl ?_
                    refine am_e1 (v := 0) hi_238_284 rfl ?_
                    refine am_e12t hi_238_285 (by decide) ?_
                    refine am_e0 hi_238_292 ?_
                    obtain ⟨z248, hz248, tz248⟩ := am_addI (x := z69) (y := 0) (m := z69.toInt) (n := (0 : Int)) rfl (by decide) (by omega) (by omega)
                    refine am_e10 (z := z248) hi_238_293 hz248 ?_
                    refine mm_21 (v := z248) hS244 hi_238_294 rfl (Nat.le_of_ble_eq_true rfl) ms_4 ?_
                    intro S249 hS250
                    replace hS250 : MS S0 S249 (upd (upd (upd (upd f 4 z248) 8 a) 9 b) 20 z232) g'233 := hS250
                    have hR251 : RJ (upd (upd (upd (upd f 4 z248) 8 a) 9 b) 20 z232) g'233 gs bc fl fk pj := RJ.at hR239_ (by show z69.toInt ≤ z248.toInt; omega)
                    refine am_e18 hi_238_297 ?_
                    exact ih _ (some (.int z)) (some (.int 1)) (some (.int z49)) 0 0 a b z248 z232 _ hS250 hR251 (fun j hj => (h237_ j hj).trans (hx j hj)) (by show ∀ i : Nat, (i : Int) < (f 20).toInt → g'233 23 i = g 23 i; rw [h238_]; exact ww_below (by omega) hA) (by show ∀ i : Nat, (f 20).toInt ≤ (i : Int) → (i : Int) < z232.toInt → 0 ≤ (g'233 23 i).toInt ∧ (g'233 23 i).toInt < 16384; rw [h238_]; exact ww_keep (by omega) ⟨by omega, by omega⟩ hB (by omega)) (by show (f 4).toInt ≤ z248.toInt; omega) (by show z248.toInt ≤ (f 0).toInt; omega) (by show (f 20).toInt ≤ z232.toInt; omega) (by show z232.toInt + (f 4).toInt ≤ (f 20).toInt + z248.toInt; omega) (by show (0 : Int) ≤ (0 : Int); omega) (by show (0 : Int) ≤ (1 : Int); omega) (by show 2 * ((f 0).toInt - z248.toInt) + (0 : Int) < (N : Int); omega)
                  · refine am_e13f hi_238_270 (am_cF (m := r242.toInt) (n := (69 : Int)) rfl (by decide) c247) ?_
                    refine am_e0 hi_238_273 ?_
                    refine am_e18 hi_238_274 ?_
                    refine am_e3 (ls' := [some (.ref 39), some (.int w), some (.int k0), some (.int 1), some (.int 0), some (.int z), some (.int 1), some (.int z49)]) hi_238_278 (Nat.le_of_ble_eq_true rfl) rfl ?_
                    refine am_e2 (v := 39) hi_238_279 rfl ?_
                    refine am_e7 hi_238_280 ?_
                    refine mm_20 (v := .int z69) hS244 hi_238_281 rfl ?_
                    refine am_e1 (v := 1) hi_238_284 rfl ?_
                    refine am_e12f hi_238_285 (by decide) ?_
                    refine am_e0 hi_238_288 ?_
                    refine am_e18 hi_238_289 ?_
                    obtain ⟨z252, hz252, tz252⟩ := am_addI (x := z69) (y := 1) (m := z69.toInt) (n := (1 : Int)) rfl (by decide) (by omega) (by omega)
                    refine am_e10 (z := z252) hi_238_293 hz252 ?_
                    refine mm_21 (v := z252) hS244 hi_238_294 rfl (Nat.le_of_ble_eq_true rfl) ms_4 ?_
                    intro S253 hS254
                    replace hS254 : MS S0 S253 (upd (upd (upd (upd f 4 z252) 8 a) 9 b) 20 z232) g'233 := hS254
                    have hR255 : RJ (upd (upd (upd (upd f 4 z252) 8 a) 9 b) 20 z232) g'233 gs bc fl fk pj := RJ.at hR239_ (by show z69.toInt ≤ z252.toInt; omega)
                    refine am_e18 hi_238_297 ?_
                    exact ih _ (some (.int z)) (some (.int 1)) (some (.int z49)) 1 0 a b z252 z232 _ hS254 hR255 (fun j hj => (h237_ j hj).trans (hx j hj)) (by show ∀ i : Nat, (i : Int) < (f 20).toInt → g'233 23 i = g 23 i; rw [h238_]; exact ww_below (by omega) hA) (by show ∀ i : Nat, (f 20).toInt ≤ (i : Int) → (i : Int) < z232.toInt → 0 ≤ (g'233 23 i).toInt ∧ (g'233 23 i).toInt < 16384; rw [h238_]; exact ww_keep (by omega) ⟨by omega, by omega⟩ hB (by omega)) (by show (f 4).toInt ≤ z252.toInt; omega) (by show z252.toInt ≤ (f 0).toInt; omega) (by show (f 20).toInt ≤ z232.toInt; omega) (by show z232.toInt + (f 4).toInt ≤ (f 20).toInt + z252.toInt; omega) (by show (0 : Int) ≤ (1 : Int); omega) (by show (1 : Int) ≤ (1 : Int); omega) (by show 2 * ((f 0).toInt - z252.toInt) + (1 : Int) < (N : Int); omega)
            · subst hv77
              replace hS78 : MS S0 S68 (upd (upd (upd (upd (upd (upd (upd f 4 z55) 6 a75) 7 b76) 8 a) 9 b) 10 0) 20 q) gx := hS78
              have hR256 := rj_clear0 hR66
              have hR257 : RJ (upd (upd (upd (upd (upd (upd (upd f 4 z55) 6 a75) 7 b76) 8 a) 9 b) 10 0) 20 q) gx [] bc [] 0 [] := hR256
              show am_E _ _ _ _ [some (.ref 39), some (.int w), some (.int k0), some (.int m3), some (.int c4), some (.int z), some (.int 0), some (.int z49)] [.int 0] _ _
              refine am_e12f hi_238_174 (by decide) ?_
              exact hx2 _ (some (.int m3)) (some (.int c4)) (some (.int z)) (some (.int 0)) (some (.int z49)) a b z55 q a75 b76 _ hS78 hR257 hx (by show (f 4).toInt ≤ z55.toInt; omega) (by show z55.toInt ≤ (f 0).toInt; omega) (by show (f 20).toInt ≤ q.toInt; omega) (by show q.toInt + (f 4).toInt ≤ (f 20).toInt + z55.toInt; omega)
          · subst hv63
            replace hS64 : MS S0 S54 (upd (upd (upd (upd (upd (upd (upd f 4 z49) 6 a61) 7 b62) 8 a) 9 b) 10 0) 20 q) gx := hS64
            have hR258 := rj_clear0 hR52
            have hR259 : RJ (upd (upd (upd (upd (upd (upd (upd f 4 z49) 6 a61) 7 b62) 8 a) 9 b) 10 0) 20 q) gx [] bc [] 0 [] := hR258
            show am_E _ _ _ _ [some (.ref 39), some (.int w), some (.int k0), some (.int m3), some (.int c4), some (.int z), some (.int 0), some (.int z49)] [.int 0] _ _
            refine am_e12t hi_238_165 (by decide) ?_
            exact hx2 _ (some (.int m3)) (some (.int c4)) (some (.int z)) (some (.int 0)) (some (.int z49)) a b z49 q a61 b62 _ hS64 hR259 hx (by show (f 4).toInt ≤ z49.toInt; omega) (by show z49.toInt ≤ (f 0).toInt; omega) (by show (f 20).toInt ≤ q.toInt; omega) (by show q.toInt + (f 4).toInt ≤ (f 20).toInt + z49.toInt; omega)
      · subst hv11
        replace hS12 : MS S0 S2 (upd (upd (upd (upd (upd (upd (upd f 4 z) 6 a9) 7 b10) 8 a) 9 b) 10 0) 20 q) gx := hS12
        have hR260 := rj_clear0 hRl
        have hR261 : RJ (upd (upd (upd (upd (upd (upd (upd f 4 z) 6 a9) 7 b10) 8 a) 9 b) 10 0) 20 q) gx [] bc [] 0 [] := hR260
        show am_E _ _ _ _ [some (.ref 39), some (.int w), some (.int k0), some (.int m3), some (.int c4), some (.int z), x6, x7] [.int 0] _ _
        refine am_e12f hi_238_128 (by decide) ?_
        exact hx1 _ (some (.int m3)) (some (.int c4)) (some (.int z)) x6 x7 a b z q a9 b10 _ hS12 hR261 hx (by show (f 4).toInt ≤ z.toInt; omega) (by show z.toInt ≤ (f 0).toInt; omega) (by show (f 20).toInt ≤ q.toInt; omega) (by show q.toInt + (f 4).toInt ≤ (f 20).toInt + z.toInt; omega)
theorem lp_localEnd2 {sc : Nat × (Nat → Int32)} {d : Nat} {S0 : am_S} {f : Nat → Int32} {g : Nat → Nat → Int32} {w : Int32} {k : Int32} {gs : List mg_E} {bc : List (List Nat)} {fl : List Nat} {fk : Int} {pj : List Nat}  (hR : RJ f g gs bc fl fk pj) (hw : ∀ i : Nat, k.toInt ≤ (i : Int) → (i : Int) < (f 20).toInt → 0 ≤ (g 23 i).toInt ∧ (g 23 i).toInt < 16384) (p0 : (0 : Int) ≤ (f 32).toInt) (p1 : (f 32).toInt ≤ (63 : Int)) (p2 : (f 53).toInt ≤ (4096 : Int)) (p3 : (0 : Int) ≤ (f 24).toInt) (p4 : (f 24).toInt + (f 20).toInt ≤ 16000) (p5 : (0 : Int) ≤ k.toInt) (p6 : k.toInt ≤ (f 20).toInt) (p7 : (0 : Int) ≤ (f 68).toInt) (p8 : (f 68).toInt + (f 20).toInt ≤ 65530) : ∀ (N : Nat) (S : am_S) (c3 m j a b l y s : Int32) (gx : Nat → Nat → Int32), MS S0 S (upd (upd (upd (upd (upd f 8 a) 9 b) 24 l) 31 y) 68 s) gx → RJ (upd (upd (upd (upd (upd f 8 a) 9 b) 24 l) 31 y) 68 s) gx gs bc fl fk pj → (∀ j, j ∉ [25, 26, 27, 28, 29, 30, 58, 60, 69, 70, 71, 72, 73] → gx j = g j) → (0 : Int) ≤ j.toInt → j.toInt ≤ m.toInt → m.toInt = (f 20).toInt - k.toInt → l.toInt = (f 24).toInt + m.toInt → (f 68).toInt ≤ s.toInt → s.toInt ≤ (f 68).toInt + j.toInt + 1 → m.toInt - j.toInt < (N : Int) → am_E (am_PP sc) (d + 2) 241 99 [some (.ref 39), some (.int w), some (.int k), some (.int c3), some (.int m), some (.int j)] [] S (am_N fun v S1 => (∃ a : Int32, ∃ b : Int32, ∃ q : Int32, ∃ l : Int32, ∃ y : Int32, ∃ s : Int32, ∃ g' : Nat → Nat → Int32, v = none ∧ MS S0 S1 (upd (upd (upd (upd (upd (upd f 8 a) 9 b) 20 q) 24 l) 31 y) 68 s) g' ∧ (RJ (upd (upd (upd (upd (upd (upd f 8 a) 9 b) 20 q) 24 l) 31 y) 68 s) g' gs bc fl fk pj) ∧ (q.toInt = k.toInt) ∧ (l.toInt = (f 24).toInt + (f 20).toInt - k.toInt) ∧ ((f 68).toInt ≤ s.toInt) ∧ (s.toInt + k.toInt ≤ (f 68).toInt + (f 20).toInt + 1) ∧ (∀ j, j ∉ [25, 26, 27, 28, 29, 30, 58, 60, 69, 70, 71, 72, 73] → g' j = g j))) := by
  intro N
  induction N with
  | zero =>
    intro S  c3 m j a b l y s gx  hS hRl hx i0 i1 i2 i3 i4 i5 hN
    exfalso
    omega
  | succ N ih =>
    intro S  c3 m j a b l y s gx  hS hRl hx i0 i1 i2 i3 i4 i5 hN
    refine am_e1 (v := j) hi_241_99 rfl ?_
    refine am_e1 (v := m) hi_241_101 rfl ?_
    by_cases c0 : m.toInt ≤ j.toInt
    · refine am_e13t hi_241_103 (am_cT (m := j.toInt) (n := m.toInt) rfl rfl c0) ?_
      refine am_e2 (v := 39) hi_241_146 rfl ?_
      refine am_e1 (v := k) hi_241_147 rfl ?_
      refine mm_21 (v := k) hS hi_241_148 rfl (Nat.le_of_ble_eq_true rfl) ms_20 ?_
      intro S1 hS2
      replace hS2 : MS S0 S1 (upd (upd (upd (upd (upd (upd f 8 a) 9 b) 20 k) 24 l) 31 y) 68 s) gx := hS2
      refine am_e35 hi_241_151 ?_
      exact ⟨a, b, k, l, y, s, _, rfl, hS2, hRl, (by show k.toInt = k.toInt; omega), (by show l.toInt = (f 24).toInt + (f 20).toInt - k.toInt; omega), (by show (f 68).toInt ≤ s.toInt; omega), (by show s.toInt + k.toInt ≤ (f 68).toInt + (f 20).toInt + 1; omega), hx⟩
    · refine am_e13f hi_241_103 (am_cF (m := j.toInt) (n := m.toInt) rfl rfl c0) ?_
      refine am_e2 (v := 39) hi_241_106 rfl ?_
      refine mm_20 (v := .ref 49) hS hi_241_107 rfl ?_
      refine am_e1 (v := k) hi_241_110 rfl ?_
      refine am_e1 (v := j) hi_241_111 rfl ?_
      obtain ⟨z3, hz3, tz3⟩ := am_addI (x := k) (y := j) (m := k.toInt) (n := j.toInt) rfl rfl (by omega) (by omega)
      refine am_e10 (z := z3) hi_241_113 hz3 ?_
      refine mm_25 hS ma_21 hi_241_114 (by decide) (by omega) (by omega) ?_
      show am_E _ _ _ _ _ (.int (gx 21 z3.toNatClampNeg) :: _) _ _
      rw [show gx 21 = g 21 from hx 21 (by decide)]
      show am_E _ _ _ _ [some (.ref 39), some (.int w), some (.int k), some (.int c3), some (.int m), some (.int j)] [.int (g 21 z3.toNatClampNeg)] _ _
      refine am_e0 hi_241_115 ?_
      by_cases c4 : ¬ (g 21 z3.toNatClampNeg).toInt = (2 : Int)
      · refine am_e13t hi_241_116 (am_cT (m := (g 21 z3.toNatClampNeg).toInt) (n := (2 : Int)) rfl (by decide) c4) ?_
        obtain ⟨z5, hz5, tz5⟩ := am_addI (x := j) (y := 1) (m := j.toInt) (n := (1 : Int)) rfl (by decide) (by omega) (by omega)
        refine am_e5 (v := j) (z := z5) (ls' := [some (.ref 39), some (.int w), some (.int k), some (.int c3), some (.int m), some (.int z5)]) hi_241_140 rfl hz5 rfl ?_
        refine am_e18 hi_241_143 ?_
        exact ih _ c3 m z5 a b l y s _ hS hRl hx (by show (0 : Int) ≤ z5.toInt; omega) (by show z5.toInt ≤ m.toInt; omega) (by show m.toInt = (f 20).toInt - k.toInt; omega) (by show l.toInt = (f 24).toInt + m.toInt; omega) (by show (f 68).toInt ≤ s.toInt; omega) (by show s.toInt ≤ (f 68).toInt + z5.toInt + 1; omega) (by show m.toInt - z5.toInt < (N : Int); omega)
      · refine am_e13f hi_241_116 (am_cF (m := (g 21 z3.toNatClampNeg).toInt) (n := (2 : Int)) rfl (by decide) c4) ?_
        refine am_e2 (v := 39) hi_241_119 rfl ?_
        refine am_e0 hi_241_120 ?_
        refine am_e1 (v := c3) hi_241_122 rfl ?_
        refine am_e1 (v := j) hi_241_123 rfl ?_
        obtain ⟨z6, hz6⟩ : ∃ q__, am_bin 0 c3 j = q__ := ⟨_, rfl⟩
        refine am_e10 (z := z6) hi_241_125 hz6 ?_
        refine am_e0 hi_241_126 ?_
        refine am_e2 (v := 39) hi_241_127 rfl ?_
        refine mm_20 (v := .ref 51) hS hi_241_128 rfl ?_
        refine am_e1 (v := k) hi_241_131 rfl ?_
        refine am_e1 (v := j) hi_241_132 rfl ?_
        refine am_e10 (z := z3) hi_241_134 hz3 ?_
        refine mm_25 hS ma_23 hi_241_135 (by decide) (by omega) (by omega) ?_
        show am_E _ _ _ _ _ (.int (gx 23 z3.toNatClampNeg) :: _) _ _
        rw [show gx 23 = g 23 from hx 23 (by decide)]
        show am_E _ _ _ _ [some (.ref 39), some (.int w), some (.int k), some (.int c3), some (.int m), some (.int j)] [.int (g 23 z3.toNatClampNeg), .int 0, .int z6, .int 28, .ref 39] _ _
        have r7 : 0 ≤ (g 23 z3.toNatClampNeg).toInt ∧ (g 23 z3.toNatClampNeg).toInt < 16384 := hw z3.toNatClampNeg (by rw [cl_toNat]; omega) (by rw [cl_toNat]; omega)
        refine am_e32n (as := [.ref 39, .int 28, .int z6, .int 0, .int (g 23 z3.toNatClampNeg)]) (la := [some (.ref 39), some (.int 28), some (.int z6), some (.int 0), some (.int (g 23 z3.toNatClampNeg))]) (rest := []) hi_241_136 (am_hd0 (M := 241) (by decide) 136) (Nat.le_of_ble_eq_true rfl) (Nat.le_of_ble_eq_true rfl) (show 5 ≤ am_P0.2.2.1 189 from by decide +kernel) rfl (am_recv_ok hS.fs) rfl rfl (ct_put (d := (d + 1)) hS hRl  (by show (0 : Int) ≤ (f 32).toInt; omega) (by show (f 32).toInt ≤ (63 : Int); omega) (by show (f 53).toInt ≤ (4096 : Int); omega) (by show (0 : Int) ≤ s.toInt; omega) (by show s.toInt ≤ (65534 : Int); omega)) ?_
        rintro v8 S9 (⟨z10, r11, g'12, hv13, hS14, hR18, h15, h16, h17⟩)
        subst hv13
        have h15_ : z10.toInt = s.toInt + 1 := h15
        have h16_ : r11.toInt = s.toInt := h16
        have h17_ : ∀ j, j ∉ [60, 69, 70, 71, 72, 73] → g'12 j = gx j := h17
        replace hS14 : MS S0 S9 (upd (upd (upd (upd (upd f 8 a) 9 b) 24 l) 31 y) 68 z10) g'12 := hS14
        have hR18_ : RJ (upd (upd (upd (upd (upd f 8 a) 9 b) 24 l) 31 y) 68 z10) g'12 gs bc fl fk (s.toNatClampNeg :: pj) := hR18
        show am_E _ _ _ _ [some (.ref 39), some (.int w), some (.int k), some (.int c3), some (.int m), some (.int j)] [.int r11] _ _
        refine am_e6i hi_241_139 ?_
        obtain ⟨z19, hz19, tz19⟩ := am_addI (x := j) (y := 1) (m := j.toInt) (n := (1 : Int)) rfl (by decide) (by omega) (by omega)
        refine am_e5 (v := j) (z := z19) (ls' := [some (.ref 39), some (.int w), some (.int k), some (.int c3), some (.int m), some (.int z19)]) hi_241_140 rfl hz19 rfl ?_
        refine am_e18 hi_241_143 ?_
        exact ih _ c3 m z19 a b l y z10 _ hS14 (RJ.fewer hR18_ (fun j hj => List.mem_cons_of_mem _ hj)) (fun j hj => ((show ∀ j, j ∉ [25, 26, 27, 28, 29, 30, 58, 60, 69, 70, 71, 72, 73] → g'12 j = gx j from fun j hj => h17_ j (fun q => hj (mem_sub (L := [60, 69, 70, 71, 72, 73]) (L' := [25, 26, 27, 28, 29, 30, 58, 60, 69, 70, 71, 72, 73]) (by decide) q))) j hj).trans (hx j hj)) (by show (0 : Int) ≤ z19.toInt; omega) (by show z19.toInt ≤ m.toInt; omega) (by show m.toInt = (f 20).toInt - k.toInt; omega) (by show l.toInt = (f 24).toInt + m.toInt; omega) (by show (f 68).toInt ≤ z10.toInt; omega) (by show z10.toInt ≤ (f 68).toInt + z19.toInt + 1; omega) (by show m.toInt - z19.toInt < (N : Int); omega)
theorem lp_localEnd1 {sc : Nat × (Nat → Int32)} {d : Nat} {S0 : am_S} {f : Nat → Int32} {g : Nat → Nat → Int32} {w : Int32} {k : Int32} {gs : List mg_E} {bc : List (List Nat)} {fl : List Nat} {fk : Int} {pj : List Nat}  (hR : RJ f g gs bc fl fk pj) (hw : ∀ i : Nat, k.toInt ≤ (i : Int) → (i : Int) < (f 20).toInt → 0 ≤ (g 23 i).toInt ∧ (g 23 i).toInt < 16384) (p0 : (0 : Int) ≤ (f 32).toInt) (p1 : (f 32).toInt ≤ (63 : Int)) (p2 : (f 53).toInt ≤ (4096 : Int)) (p3 : (0 : Int) ≤ (f 24).toInt) (p4 : (f 24).toInt + (f 20).toInt ≤ 16000) (p5 : (0 : Int) ≤ k.toInt) (p6 : k.toInt ≤ (f 20).toInt) (p7 : (0 : Int) ≤ (f 68).toInt) (p8 : (f 68).toInt + (f 20).toInt ≤ 65530) : ∀ (N : Nat) (S : am_S) (c3 m j a b l y : Int32) (gx : Nat → Nat → Int32), MS S0 S (upd (upd (upd (upd f 8 a) 9 b) 24 l) 31 y) gx → RJ (upd (upd (upd (upd f 8 a) 9 b) 24 l) 31 y) gx gs bc fl fk pj → (∀ j, j ∉ [25, 26, 27, 28, 29, 30, 58] → gx j = g j) → k.toInt ≤ j.toInt → j.toInt ≤ (f 20).toInt → m.toInt = (f 20).toInt - k.toInt → l.toInt = (f 24).toInt + j.toInt - k.toInt → (f 20).toInt - j.toInt < (N : Int) → am_E (am_PP sc) (d + 2) 241 16 [some (.ref 39), some (.int w), some (.int k), some (.int c3), some (.int m), some (.int j)] [] S (am_N fun v S1 => (∃ a : Int32, ∃ b : Int32, ∃ q : Int32, ∃ l : Int32, ∃ y : Int32, ∃ s : Int32, ∃ g' : Nat → Nat → Int32, v = none ∧ MS S0 S1 (upd (upd (upd (upd (upd (upd f 8 a) 9 b) 20 q) 24 l) 31 y) 68 s) g' ∧ (RJ (upd (upd (upd (upd (upd (upd f 8 a) 9 b) 20 q) 24 l) 31 y) 68 s) g' gs bc fl fk pj) ∧ (q.toInt = k.toInt) ∧ (l.toInt = (f 24).toInt + (f 20).toInt - k.toInt) ∧ ((f 68).toInt ≤ s.toInt) ∧ (s.toInt + k.toInt ≤ (f 68).toInt + (f 20).toInt + 1) ∧ (∀ j, j ∉ [25, 26, 27, 28, 29, 30, 58, 60, 69, 70, 71, 72, 73] → g' j = g j))) := by
  intro N
  induction N with
  | zero =>
    intro S  c3 m j a b l y gx  hS hRl hx i0 i1 i2 i3 hN
    exfalso
    omega
  | succ N ih =>
    intro S  c3 m j a b l y gx  hS hRl hx i0 i1 i2 i3 hN
    refine am_e1 (v := j) hi_241_16 rfl ?_
    refine am_e2 (v := 39) hi_241_18 rfl ?_
    refine mm_20 (v := .int (f 20)) hS hi_241_19 rfl ?_
    by_cases c0 : (f 20).toInt ≤ j.toInt
    · refine am_e13t hi_241_22 (am_cT (m := j.toInt) (n := (f 20).toInt) rfl rfl c0) ?_
      refine am_e2 (v := 39) hi_241_85 rfl ?_
      refine am_e0 hi_241_86 ?_
      refine am_e1 (v := c3) hi_241_88 rfl ?_
      refine am_e1 (v := m) hi_241_89 rfl ?_
      refine am_e1 (v := w) hi_241_91 rfl ?_
      refine am_e32n (as := [.ref 39, .int 27, .int c3, .int m, .int w]) (la := [some (.ref 39), some (.int 27), some (.int c3), some (.int m), some (.int w)]) (rest := []) hi_241_92 (am_hd0 (M := 241) (by decide) 92) (Nat.le_of_ble_eq_true rfl) (Nat.le_of_ble_eq_true rfl) (show 5 ≤ am_P0.2.2.1 189 from by decide +kernel) rfl (am_recv_ok hS.fs) rfl rfl (ct_put (d := (d + 1)) hS hRl  (by show (0 : Int) ≤ (f 32).toInt; omega) (by show (f 32).toInt ≤ (63 : Int); omega) (by show (f 53).toInt ≤ (4096 : Int); omega) (by show (0 : Int) ≤ (f 68).toInt; omega) (by show (f 68).toInt ≤ (65534 : Int); omega)) ?_
      rintro v1 S2 (⟨z3, r4, g'5, hv6, hS7, hR11, h8, h9, h10⟩)
      subst hv6
      have h8_ : z3.toInt = (f 68).toInt + 1 := h8
      have h9_ : r4.toInt = (f 68).toInt := h9
      have h10_ : ∀ j, j ∉ [60, 69, 70, 71, 72, 73] → g'5 j = gx j := h10
      have hR11_ : RJ (upd (upd (upd (upd (upd f 8 a) 9 b) 24 l) 31 y) 68 z3) g'5 gs bc fl fk ((f 68).toNatClampNeg :: pj) := hR11
      show am_E _ _ _ _ [some (.ref 39), some (.int w), some (.int k), some (.int c3), some (.int m), some (.int j)] [.int r4] _ _
      refine am_e6i hi_241_95 ?_
      refine am_e0 hi_241_96 ?_
      refine am_e3 (ls' := [some (.ref 39), some (.int w), some (.int k), some (.int c3), some (.int m), some (.int 0)]) hi_241_97 (Nat.le_of_ble_eq_true rfl) rfl ?_
      exact lp_localEnd2 hR hw p0 p1 p2 p3 p4 p5 p6 p7 p8 ((m.toInt - (0 : Int)).toNat + 1) _ c3 m 0 a b l y z3 _ hS7 (RJ.fewer hR11_ (fun j hj => List.mem_cons_of_mem _ hj)) (fun j hj => ((show ∀ j, j ∉ [25, 26, 27, 28, 29, 30, 58, 60, 69, 70, 71, 72, 73] → g'5 j = gx j from fun j hj => h10_ j (fun q => hj (mem_sub (L := [60, 69, 70, 71, 72, 73]) (L' := [25, 26, 27, 28, 29, 30, 58, 60, 69, 70, 71, 72, 73]) (by decide) q))) j hj).trans ((show ∀ j, j ∉ [25, 26, 27, 28, 29, 30, 58, 60, 69, 70, 71, 72, 73] → gx j = g j from fun j hj => hx j (fun q => hj (mem_sub (L := [25, 26, 27, 28, 29, 30, 58]) (L' := [25, 26, 27, 28, 29, 30, 58, 60, 69, 70, 71, 72, 73]) (by decide) q))) j hj)) (by show (0 : Int) ≤ (0 : Int); omega) (by show (0 : Int) ≤ m.toInt; omega) (by show m.toInt = (f 20).toInt - k.toInt; omega) (by show l.toInt = (f 24).toInt + m.toInt; omega) (by show (f 68).toInt ≤ z3.toInt; omega) (by show z3.toInt ≤ (f 68).toInt + (0 : Int) + 1; omega) (by show m.toInt - (0 : Int) < _; omega)
    · refine am_e13f hi_241_22 (am_cF (m := j.toInt) (n := (f 20).toInt) rfl rfl c0) ?_
      refine am_e2 (v := 39) hi_241_25 rfl ?_
      refine am_e2 (v := 39) hi_241_26 rfl ?_
      refine mm_20 (v := .ref 41) hS hi_241_27 rfl ?_
      refine am_e2 (v := 39) hi_241_30 rfl ?_
      refine mm_20 (v := .ref 51) hS hi_241_31 rfl ?_
      refine am_e1 (v := j) hi_241_34 rfl ?_
      refine mm_25 hS ma_23 hi_241_36 (by decide) (by omega) (by omega) ?_
      show am_E _ _ _ _ _ (.int (gx 23 j.toNatClampNeg) :: _) _ _
      rw [show gx 23 = g 23 from hx 23 (by decide)]
      show am_E _ _ _ _ [some (.ref 39), some (.int w), some (.int k), some (.int c3), some (.int m), some (.int j)] [.int (g 23 j.toNatClampNeg), .ref 41, .ref 39] _ _
      have r12 : 0 ≤ (g 23 j.toNatClampNeg).toInt ∧ (g 23 j.toNatClampNeg).toInt < 16384 := hw j.toNatClampNeg (by rw [cl_toNat]; omega) (by rw [cl_toNat]; omega)
      refine mm_25 hS ma_2 hi_241_37 (by decide) (by omega) (by omega) ?_
      show am_E _ _ _ _ _ (.int (gx 2 (g 23 j.toNatClampNeg).toNatClampNeg) :: _) _ _
      rw [show gx 2 = g 2 from hx 2 (by decide)]
      show am_E _ _ _ _ [some (.ref 39), some (.int w), some (.int k), some (.int c3), some (.int m), some (.int j)] [.int (g 2 (g 23 j.toNatClampNeg).toNatClampNeg), .ref 39] _ _
      refine am_e2 (v := 39) hi_241_38 rfl ?_
      refine mm_20 (v := .ref 49) hS hi_241_39 rfl ?_
      refine am_e1 (v := j) hi_241_42 rfl ?_
      refine mm_25 hS ma_21 hi_241_44 (by decide) (by omega) (by omega) ?_
      show am_E _ _ _ _ _ (.int (gx 21 j.toNatClampNeg) :: _) _ _
      rw [show gx 21 = g 21 from hx 21 (by decide)]
      show am_E _ _ _ _ [some (.ref 39), some (.int w), some (.int k), some (.int c3), some (.int m), some (.int j)] [.int (g 21 j.toNatClampNeg), .int (g 2 (g 23 j.toNatClampNeg).toNatClampNeg), .ref 39] _ _
      by_cases c13 : (g 21 j.toNatClampNeg).toInt ≤ (0 : Int)
      · refine am_e12t hi_241_45 (am_cT (m := (g 21 j.toNatClampNeg).toInt) (n := (0 : Int)) rfl (by decide) c13) ?_
        refine am_e0 hi_241_52 ?_
        refine am_e2 (v := 39) hi_241_53 rfl ?_
        refine mm_20 (v := .ref 49) hS hi_241_54 rfl ?_
        refine am_e1 (v := j) hi_241_57 rfl ?_
        refine mm_25 hS ma_21 hi_241_59 (by decide) (by omega) (by omega) ?_
        show am_E _ _ _ _ _ (.int (gx 21 j.toNatClampNeg) :: _) _ _
        rw [show gx 21 = g 21 from hx 21 (by decide)]
        show am_E _ _ _ _ [some (.ref 39), some (.int w), some (.int k), some (.int c3), some (.int m), some (.int j)] [.int (g 21 j.toNatClampNeg), .int 0, .int (g 2 (g 23 j.toNatClampNeg).toNatClampNeg), .ref 39] _ _
        refine am_e0 hi_241_60 ?_
        refine am_e13t hi_241_61 (am_cT (m := (g 21 j.toNatClampNeg).toInt) (n := (2 : Int)) rfl (by decide) (by simp only [am_cI]; omega)) ?_
        refine am_e0 hi_241_68 ?_
        refine am_e2 (v := 39) hi_241_69 rfl ?_
        refine mm_20 (v := .ref 51) hS hi_241_70 rfl ?_
        refine am_e1 (v := j) hi_241_73 rfl ?_
        refine mm_25 hS ma_23 hi_241_75 (by decide) (by omega) (by omega) ?_
        show am_E _ _ _ _ _ (.int (gx 23 j.toNatClampNeg) :: _) _ _
        rw [show gx 23 = g 23 from hx 23 (by decide)]
        show am_E _ _ _ _ [some (.ref 39), some (.int w), some (.int k), some (.int c3), some (.int m), some (.int j)] [.int (g 23 j.toNatClampNeg), .int 0, .int 0, .int (g 2 (g 23 j.toNatClampNeg).toNatClampNeg), .ref 39] _ _
        have r14 : 0 ≤ (g 23 j.toNatClampNeg).toInt ∧ (g 23 j.toNatClampNeg).toInt < 16384 := hw j.toNatClampNeg (by rw [cl_toNat]; omega) (by rw [cl_toNat]; omega)
        refine am_e32n (as := [.ref 39, .int (g 2 (g 23 j.toNatClampNeg).toNatClampNeg), .int 0, .int 0, .int (g 23 j.toNatClampNeg)]) (la := [some (.ref 39), some (.int (g 2 (g 23 j.toNatClampNeg).toNatClampNeg)), some (.int 0), some (.int 0), some (.int (g 23 j.toNatClampNeg)), none]) (rest := []) hi_241_76 (am_hd0 (M := 241) (by decide) 76) (Nat.le_of_ble_eq_true rfl) (Nat.le_of_ble_eq_true rfl) (show 5 ≤ am_P0.2.2.1 196 from by decide +kernel) rfl (am_recv_ok hS.fs) rfl rfl (ct_declare (d := d) hS hRl (by decide) (by decide)  (by show (0 : Int) ≤ (f 32).toInt; omega) (by show (f 32).toInt ≤ (63 : Int); omega) (by show (f 53).toInt ≤ (4096 : Int); omega) (by show (0 : Int) ≤ l.toInt; omega) (by show l.toInt ≤ (16383 : Int); omega)) ?_
        rintro v15 S16 (⟨a17, b18, z19, y20, g'21, hv22, hS23, hR26, h24, h25⟩)
        subst hv22
        have h24_ : z19.toInt = l.toInt + 1 := h24
        have h25_ : ∀ j, j ∉ [25, 26, 27, 28, 29, 30, 58] → g'21 j = gx j := h25
        replace hS23 : MS S0 S16 (upd (upd (upd (upd f 8 a17) 9 b18) 24 z19) 31 y20) g'21 := hS23
        have hR26_ : RJ (upd (upd (upd (upd f 8 a17) 9 b18) 24 z19) 31 y20) g'21 gs bc fl fk pj := hR26
        show am_E _ _ _ _ [some (.ref 39), some (.int w), some (.int k), some (.int c3), some (.int m), some (.int j)] [] _ _
        obtain ⟨z27, hz27, tz27⟩ := am_addI (x := j) (y := 1) (m := j.toInt) (n := (1 : Int)) rfl (by decide) (by omega) (by omega)
        refine am_e5 (v := j) (z := z27) (ls' := [some (.ref 39), some (.int w), some (.int k), some (.int c3), some (.int m), some (.int z27)]) hi_241_79 rfl hz27 rfl ?_
        refine am_e18 hi_241_82 ?_
        exact ih _ c3 m z27 a17 b18 z19 y20 _ hS23 hR26_ (fun j hj => (h25_ j hj).trans (hx j hj)) (by show k.toInt ≤ z27.toInt; omega) (by show z27.toInt ≤ (f 20).toInt; omega) (by show m.toInt = (f 20).toInt - k.toInt; omega) (by show z19.toInt = (f 24).toInt + z27.toInt - k.toInt; omega) (by show (f 20).toInt - z27.toInt < (N : Int); omega)
      · refine am_e12f hi_241_45 (am_cF (m := (g 21 j.toNatClampNeg).toInt) (n := (0 : Int)) rfl (by decide) c13) ?_
        refine am_e0 hi_241_48 ?_
        refine am_e18 hi_241_49 ?_
        refine am_e2 (v := 39) hi_241_53 rfl ?_
        refine mm_20 (v := .ref 49) hS hi_241_54 rfl ?_
        refine am_e1 (v := j) hi_241_57 rfl ?_
        refine mm_25 hS ma_21 hi_241_59 (by decide) (by omega) (by omega) ?_
        show am_E _ _ _ _ _ (.int (gx 21 j.toNatClampNeg) :: _) _ _
        rw [show gx 21 = g 21 from hx 21 (by decide)]
        show am_E _ _ _ _ [some (.ref 39), some (.int w), some (.int k), some (.int c3), some (.int m), some (.int j)] [.int (g 21 j.toNatClampNeg), .int 1, .int (g 2 (g 23 j.toNatClampNeg).toNatClampNeg), .ref 39] _ _
        refine am_e0 hi_241_60 ?_
        by_cases c28 : ¬ (g 21 j.toNatClampNeg).toInt = (2 : Int)
        · refine am_e13t hi_241_61 (am_cT (m := (g 21 j.toNatClampNeg).toInt) (n := (2 : Int)) rfl (by decide) c28) ?_
          refine am_e0 hi_241_68 ?_
          refine am_e2 (v := 39) hi_241_69 rfl ?_
          refine mm_20 (v := .ref 51) hS hi_241_70 rfl ?_
          refine am_e1 (v := j) hi_241_73 rfl ?_
          refine mm_25 hS ma_23 hi_241_75 (by decide) (by omega) (by omega) ?_
          show am_E _ _ _ _ _ (.int (gx 23 j.toNatClampNeg) :: _) _ _
          rw [show gx 23 = g 23 from hx 23 (by decide)]
          show am_E _ _ _ _ [some (.ref 39), some (.int w), some (.int k), some (.int c3), some (.int m), some (.int j)] [.int (g 23 j.toNatClampNeg), .int 0, .int 1, .int (g 2 (g 23 j.toNatClampNeg).toNatClampNeg), .ref 39] _ _
          have r29 : 0 ≤ (g 23 j.toNatClampNeg).toInt ∧ (g 23 j.toNatClampNeg).toInt < 16384 := hw j.toNatClampNeg (by rw [cl_toNat]; omega) (by rw [cl_toNat]; omega)
          refine am_e32n (as := [.ref 39, .int (g 2 (g 23 j.toNatClampNeg).toNatClampNeg), .int 1, .int 0, .int (g 23 j.toNatClampNeg)]) (la := [some (.ref 39), some (.int (g 2 (g 23 j.toNatClampNeg).toNatClampNeg)), some (.int 1), some (.int 0), some (.int (g 23 j.toNatClampNeg)), none]) (rest := []) hi_241_76 (am_hd0 (M := 241) (by decide) 76) (Nat.le_of_ble_eq_true rfl) (Nat.le_of_ble_eq_true rfl) (show 5 ≤ am_P0.2.2.1 196 from by decide +kernel) rfl (am_recv_ok hS.fs) rfl rfl (ct_declare (d := d) hS hRl (by decide) (by decide)  (by show (0 : Int) ≤ (f 32).toInt; omega) (by show (f 32).toInt ≤ (63 : Int); omega) (by show (f 53).toInt ≤ (4096 : Int); omega) (by show (0 : Int) ≤ l.toInt; omega) (by show l.toInt ≤ (16383 : Int); omega)) ?_
          rintro v30 S31 (⟨a32, b33, z34, y35, g'36, hv37, hS38, hR41, h39, h40⟩)
          subst hv37
          have h39_ : z34.toInt = l.toInt + 1 := h39
          have h40_ : ∀ j, j ∉ [25, 26, 27, 28, 29, 30, 58] → g'36 j = gx j := h40
          replace hS38 : MS S0 S31 (upd (upd (upd (upd f 8 a32) 9 b33) 24 z34) 31 y35) g'36 := hS38
          have hR41_ : RJ (upd (upd (upd (upd f 8 a32) 9 b33) 24 z34) 31 y35) g'36 gs bc fl fk pj := hR41
          show am_E _ _ _ _ [some (.ref 39), some (.int w), some (.int k), some (.int c3), some (.int m), some (.int j)] [] _ _
          obtain ⟨z42, hz42, tz42⟩ := am_addI (x := j) (y := 1) (m := j.toInt) (n := (1 : Int)) rfl (by decide) (by omega) (by omega)
          refine am_e5 (v := j) (z := z42) (ls' := [some (.ref 39), some (.int w), some (.int k), some (.int c3), some (.int m), some (.int z42)]) hi_241_79 rfl hz42 rfl ?_
          refine am_e18 hi_241_82 ?_
          exact ih _ c3 m z42 a32 b33 z34 y35 _ hS38 hR41_ (fun j hj => (h40_ j hj).trans (hx j hj)) (by show k.toInt ≤ z42.toInt; omega) (by show z42.toInt ≤ (f 20).toInt; omega) (by show m.toInt = (f 20).toInt - k.toInt; omega) (by show z34.toInt = (f 24).toInt + z42.toInt - k.toInt; omega) (by show (f 20).toInt - z42.toInt < (N : Int); omega)
        · refine am_e13f hi_241_61 (am_cF (m := (g 21 j.toNatClampNeg).toInt) (n := (2 : Int)) rfl (by decide) c28) ?_
          refine am_e0 hi_241_64 ?_
          refine am_e18 hi_241_65 ?_
          refine am_e2 (v := 39) hi_241_69 rfl ?_
          refine mm_20 (v := .ref 51) hS hi_241_70 rfl ?_
          refine am_e1 (v := j) hi_241_73 rfl ?_
          refine mm_25 hS ma_23 hi_241_75 (by decide) (by omega) (by omega) ?_
          show am_E _ _ _ _ _ (.int (gx 23 j.toNatClampNeg) :: _) _ _
          rw [show gx 23 = g 23 from hx 23 (by decide)]
          show am_E _ _ _ _ [some (.ref 39), some (.int w), some (.int k), some (.int c3), some (.int m), some (.int j)] [.int (g 23 j.toNatClampNeg), .int 1, .int 1, .int (g 2 (g 23 j.toNatClampNeg).toNatClampNeg), .ref 39] _ _
          have r43 : 0 ≤ (g 23 j.toNatClampNeg).toInt ∧ (g 23 j.toNatClampNeg).toInt < 16384 := hw j.toNatClampNeg (by rw [cl_toNat]; omega) (by rw [cl_toNat]; omega)
          refine am_e32n (as := [.ref 39, .int (g 2 (g 23 j.toNatClampNeg).toNatClampNeg), .int 1, .int 1, .int (g 23 j.toNatClampNeg)]) (la := [some (.ref 39), some (.int (g 2 (g 23 j.toNatClampNeg).toNatClampNeg)), some (.int 1), some (.int 1), some (.int (g 23 j.toNatClampNeg)), none]) (rest := []) hi_241_76 (am_hd0 (M := 241) (by decide) 76) (Nat.le_of_ble_eq_true rfl) (Nat.le_of_ble_eq_true rfl) (show 5 ≤ am_P0.2.2.1 196 from by decide +kernel) rfl (am_recv_ok hS.fs) rfl rfl (ct_declare (d := d) hS hRl (by decide) (by decide)  (by show (0 : Int) ≤ (f 32).toInt; omega) (by show (f 32).toInt ≤ (63 : Int); omega) (by show (f 53).toInt ≤ (4096 : Int); omega) (by show (0 : Int) ≤ l.toInt; omega) (by show l.toInt ≤ (16383 : Int); omega)) ?_
          rintro v44 S45 (⟨a46, b47, z48, y49, g'50, hv51, hS52, hR55, h53, h54⟩)
          subst hv51
          have h53_ : z48.toInt = l.toInt + 1 := h53
          have h54_ : ∀ j, j ∉ [25, 26, 27, 28, 29, 30, 58] → g'50 j = gx j := h54
          replace hS52 : MS S0 S45 (upd (upd (upd (upd f 8 a46) 9 b47) 24 z48) 31 y49) g'50 := hS52
          have hR55_ : RJ (upd (upd (upd (upd f 8 a46) 9 b47) 24 z48) 31 y49) g'50 gs bc fl fk pj := hR55
          show am_E _ _ _ _ [some (.ref 39), some (.int w), some (.int k), some (.int c3), some (.int m), some (.int j)] [] _ _
          obtain ⟨z56, hz56, tz56⟩ := am_addI (x := j) (y := 1) (m := j.toInt) (n := (1 : Int)) rfl (by decide) (by omega) (by omega)
          refine am_e5 (v := j) (z := z56) (ls' := [some (.ref 39), some (.int w), some (.int k), some (.int c3), some (.int m), some (.int z56)]) hi_241_79 rfl hz56 rfl ?_
          refine am_e18 hi_241_82 ?_
          exact ih _ c3 m z56 a46 b47 z48 y49 _ hS52 hR55_ (fun j hj => (h54_ j hj).trans (hx j hj)) (by show k.toInt ≤ z56.toInt; omega) (by show z56.toInt ≤ (f 20).toInt; omega) (by show m.toInt = (f 20).toInt - k.toInt; omega) (by show z48.toInt = (f 24).toInt + z56.toInt - k.toInt; omega) (by show (f 20).toInt - z56.toInt < (N : Int); omega)
theorem ct_localEnd {sc : Nat × (Nat → Int32)} {d : Nat} {S0 S : am_S} {f : Nat → Int32} {g : Nat → Nat → Int32} {w : Int32} {k : Int32} {gs : List mg_E} {bc : List (List Nat)} {fl : List Nat} {fk : Int} {pj : List Nat} (hS : MS S0 S f g) (hR : RJ f g gs bc fl fk pj) (hw : ∀ i : Nat, k.toInt ≤ (i : Int) → (i : Int) < (f 20).toInt → 0 ≤ (g 23 i).toInt ∧ (g 23 i).toInt < 16384) (p0 : (0 : Int) ≤ (f 32).toInt) (p1 : (f 32).toInt ≤ (63 : Int)) (p2 : (f 53).toInt ≤ (4096 : Int)) (p3 : (0 : Int) ≤ (f 24).toInt) (p4 : (f 24).toInt + (f 20).toInt ≤ 16000) (p5 : (0 : Int) ≤ k.toInt) (p6 : k.toInt ≤ (f 20).toInt) (p7 : (0 : Int) ≤ (f 68).toInt) (p8 : (f 68).toInt + (f 20).toInt ≤ 65530) : am_E (am_PP sc) (d + 2) 241 0 [some (.ref 39), some (.int w), some (.int k), none, none, none] [] S (am_N fun v S1 => (∃ a : Int32, ∃ b : Int32, ∃ q : Int32, ∃ l : Int32, ∃ y : Int32, ∃ s : Int32, ∃ g' : Nat → Nat → Int32, v = none ∧ MS S0 S1 (upd (upd (upd (upd (upd (upd f 8 a) 9 b) 20 q) 24 l) 31 y) 68 s) g' ∧ (RJ (upd (upd (upd (upd (upd (upd f 8 a) 9 b) 20 q) 24 l) 31 y) 68 s) g' gs bc fl fk pj) ∧ (q.toInt = k.toInt) ∧ (l.toInt = (f 24).toInt + (f 20).toInt - k.toInt) ∧ ((f 68).toInt ≤ s.toInt) ∧ (s.toInt + k.toInt ≤ (f 68).toInt + (f 20).toInt + 1) ∧ (∀ j, j ∉ [25, 26, 27, 28, 29, 30, 58, 60, 69, 70, 71, 72, 73] → g' j = g j))) := by
  refine am_e2 (v := 39) hi_241_0 rfl ?_
  refine am_e32n (as := [.ref 39]) (la := [some (.ref 39)]) (rest := []) hi_241_1 (am_hd0 (M := 241) (by decide) 1) (Nat.le_of_ble_eq_true rfl) (Nat.le_of_ble_eq_true rfl) (show 1 ≤ am_P0.2.2.1 197 from by decide +kernel) rfl (am_recv_ok hS.fs) rfl rfl (ct_count (d := (d + 1)) hS   (by show (0 : Int) ≤ (f 32).toInt; omega) (by show (f 32).toInt ≤ (63 : Int); omega)) ?_
  rintro v0 S1 (⟨r2, hv3, hS4⟩)
  subst hv3
  show am_E _ _ _ _ [some (.ref 39), some (.int w), some (.int k), none, none, none] [.int r2] _ _
  refine am_e3 (ls' := [some (.ref 39), some (.int w), some (.int k), some (.int r2), none, none]) hi_241_4 (Nat.le_of_ble_eq_true rfl) rfl ?_
  refine am_e2 (v := 39) hi_241_5 rfl ?_
  refine mm_20 (v := .int (f 20)) hS4 hi_241_6 rfl ?_
  refine am_e1 (v := k) hi_241_9 rfl ?_
  obtain ⟨z6, hz6, tz6⟩ := am_subI (x := f 20) (y := k) (m := (f 20).toInt) (n := k.toInt) rfl rfl (by omega) (by omega)
  refine am_e10 (z := z6) hi_241_10 hz6 ?_
  refine am_e3 (ls' := [some (.ref 39), some (.int w), some (.int k), some (.int r2), some (.int z6), none]) hi_241_11 (Nat.le_of_ble_eq_true rfl) rfl ?_
  refine am_e1 (v := k) hi_241_13 rfl ?_
  refine am_e3 (ls' := [some (.ref 39), some (.int w), some (.int k), some (.int r2), some (.int z6), some (.int k)]) hi_241_14 (Nat.le_of_ble_eq_true rfl) rfl ?_
  exact lp_localEnd1 hR hw p0 p1 p2 p3 p4 p5 p6 p7 p8 (((f 20).toInt - k.toInt).toNat + 1) _ r2 z6 k (f 8) (f 9) (f 24) (f 31) _ hS4 hR (fun _ _ => rfl) (by show k.toInt ≤ k.toInt; omega) (by show k.toInt ≤ (f 20).toInt; omega) (by show z6.toInt = (f 20).toInt - k.toInt; omega) (by show (f 24).toInt = (f 24).toInt + k.toInt - k.toInt; omega) (by show (f 20).toInt - k.toInt < _; omega)
