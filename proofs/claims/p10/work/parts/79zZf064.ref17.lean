/-! THE REFERENCE: loops in the midst of methods (printed by wip/p2/ref17.py) -/
theorem fr_each {sc : Nat × (Nat → Int32)} {d : Nat} {S0 : am_S} {f : Nat → Int32} {g : Nat → Nat → Int32} {w : Int32} {m : Int32} {x3 : Int32} {c4 : Int32} {h5 : Int32} {q6 : Int32} {gs : List mg_E} {bc : List (List Nat)} {fl : List Nat} {fk : Int} {pj : List Nat} {Q : Option (Option Value) → am_S → Prop} (p0 : (0 : Int) ≤ (f 32).toInt) (p1 : (f 32).toInt ≤ (63 : Int)) (p2 : (f 53).toInt ≤ (4096 : Int)) (p3 : (0 : Int) ≤ (f 24).toInt) (p4 : (f 24).toInt + m.toInt ≤ 16383) (p5 : (0 : Int) ≤ w.toInt) (p6 : w.toInt + 2 * m.toInt ≤ 16000) (p7 : (0 : Int) ≤ (f 8).toInt) (hx0 : ∀ (S : am_S) (i a b l y : Int32) (gx : Nat → Nat → Int32), MS S0 S (upd (upd (upd (upd f 8 a) 9 b) 24 l) 31 y) gx → RJ (upd (upd (upd (upd f 8 a) 9 b) 24 l) 31 y) gx gs bc fl fk pj → (∀ j, j ∉ [25, 26, 27, 28, 29, 30, 58] → gx j = g j) → (l.toInt = (f 24).toInt + m.toInt) → ((0 : Int) ≤ a.toInt) → am_E (am_PP sc) (d + 5) 257 129 [some (.ref 39), some (.int w), some (.int m), some (.int x3), some (.int c4), some (.int h5), some (.int q6), some (.int i)] [] S Q) : ∀ (N : Nat) (S : am_S) (i a b l y : Int32) (gx : Nat → Nat → Int32), MS S0 S (upd (upd (upd (upd f 8 a) 9 b) 24 l) 31 y) gx → RJ (upd (upd (upd (upd f 8 a) 9 b) 24 l) 31 y) gx gs bc fl fk pj → (∀ j, j ∉ [25, 26, 27, 28, 29, 30, 58] → gx j = g j) → ((0 : Int) ≤ i.toInt) → (i.toInt ≤ m.toInt) → (l.toInt = (f 24).toInt + i.toInt) → ((0 : Int) ≤ a.toInt) → m.toInt - i.toInt < (N : Int) → am_E (am_PP sc) (d + 5) 257 90 [some (.ref 39), some (.int w), some (.int m), some (.int x3), some (.int c4), some (.int h5), some (.int q6), some (.int i)] [] S Q := by
  intro N
  induction N with
  | zero =>
    intro S  i a b l y gx hS hRl hx i0 i1 i2 i3 hN
    exfalso
    omega
  | succ N ih =>
    intro S  i a b l y gx hS hRl hx i0 i1 i2 i3 hN
    refine am_e1 (v := i) hi_257_90 rfl ?_
    refine am_e1 (v := m) hi_257_92 rfl ?_
    by_cases c0 : m.toInt ≤ i.toInt
    · refine am_e13t hi_257_93 (am_cT (m := i.toInt) (n := m.toInt) rfl rfl c0) ?_
      exact hx0 _ i a b l y _ hS hRl hx (by show l.toInt = (f 24).toInt + m.toInt; omega) (by show (0 : Int) ≤ a.toInt; omega)
    · refine am_e13f hi_257_93 (am_cF (m := i.toInt) (n := m.toInt) rfl rfl c0) ?_
      refine am_e2 (v := 39) hi_257_96 rfl ?_
      refine am_e2 (v := 39) hi_257_97 rfl ?_
      refine mm_20 (v := .ref 41) hS hi_257_98 rfl ?_
      refine am_e1 (v := w) hi_257_101 rfl ?_
      refine am_e0 hi_257_102 ?_
      obtain ⟨z1, hz1, tz1⟩ := am_addI (x := w) (y := 1) (m := w.toInt) (n := (1 : Int)) rfl (by decide) (by omega) (by omega)
      refine am_e10 (z := z1) hi_257_103 hz1 ?_
      refine am_e0 hi_257_104 ?_
      refine am_e1 (v := i) hi_257_105 rfl ?_
      obtain ⟨z2, hz2, tz2⟩ := am_mulI (x := 2) (y := i) (m := (2 : Int)) (n := i.toInt) (by decide) rfl (by omega) (by omega)
      refine am_e10 (z := z2) hi_257_107 hz2 ?_
      obtain ⟨z3, hz3, tz3⟩ := am_addI (x := z1) (y := z2) (m := z1.toInt) (n := z2.toInt) rfl rfl (by omega) (by omega)
      refine am_e10 (z := z3) hi_257_108 hz3 ?_
      refine mm_25 hS ma_2 hi_257_109 (by decide) (by omega) (by omega) ?_
      show am_E _ _ _ _ _ (.int (gx 2 z3.toNatClampNeg) :: _) _ _
      rw [show gx 2 = g 2 from hx 2 (by decide)]
      show am_E _ _ _ _ [some (.ref 39), some (.int w), some (.int m), some (.int x3), some (.int c4), some (.int h5), some (.int q6), some (.int i)] [.int (g 2 z3.toNatClampNeg), .ref 39] _ _
      refine am_e0 hi_257_110 ?_
      refine am_e0 hi_257_111 ?_
      refine am_e1 (v := w) hi_257_112 rfl ?_
      refine am_e0 hi_257_113 ?_
      refine am_e10 (z := z1) hi_257_114 hz1 ?_
      refine am_e0 hi_257_115 ?_
      refine am_e1 (v := i) hi_257_116 rfl ?_
      refine am_e10 (z := z2) hi_257_118 hz2 ?_
      refine am_e10 (z := z3) hi_257_119 hz3 ?_
      refine am_e32n (as := [.ref 39, .int (g 2 z3.toNatClampNeg), .int 0, .int 0, .int z3]) (la := [some (.ref 39), some (.int (g 2 z3.toNatClampNeg)), some (.int 0), some (.int 0), some (.int z3), none]) (rest := []) hi_257_120 (am_hd0 (M := 257) (by decide) 120) (Nat.le_of_ble_eq_true rfl) (Nat.le_of_ble_eq_true rfl) (show 5 ≤ am_P0.2.2.1 196 from by decide +kernel) rfl (am_recv_ok hS.fs) rfl rfl (ct_declare (d := (d + 3)) hS hRl (by decide) (by decide)  (by show (0 : Int) ≤ (f 32).toInt; omega) (by show (f 32).toInt ≤ (63 : Int); omega) (by show (f 53).toInt ≤ (4096 : Int); omega) (by show (0 : Int) ≤ l.toInt; omega) (by show l.toInt ≤ (16383 : Int); omega) (by show (0 : Int) ≤ a.toInt; omega)) ?_
      rintro v4 S5 (⟨a6, b7, z8, y9, g'10, hv11, hS12, hR16, h13, h14, h15⟩)
      subst hv11
      have h13_ : z8.toInt = l.toInt + 1 := h13
      have h14_ : ∀ j, j ∉ [25, 26, 27, 28, 29, 30, 58] → g'10 j = gx j := h14
      have h15_ : (0 : Int) ≤ a6.toInt := h15
      replace hS12 : MS S0 S5 (upd (upd (upd (upd f 8 a6) 9 b7) 24 z8) 31 y9) g'10 := hS12
      have hR16_ : RJ (upd (upd (upd (upd f 8 a6) 9 b7) 24 z8) 31 y9) g'10 gs bc fl fk pj := hR16
      show am_E _ _ _ _ [some (.ref 39), some (.int w), some (.int m), some (.int x3), some (.int c4), some (.int h5), some (.int q6), some (.int i)] [] _ _
      obtain ⟨z17, hz17, tz17⟩ := am_addI (x := i) (y := 1) (m := i.toInt) (n := (1 : Int)) rfl (by decide) (by omega) (by omega)
      refine am_e5 (v := i) (z := z17) (ls' := [some (.ref 39), some (.int w), some (.int m), some (.int x3), some (.int c4), some (.int h5), some (.int q6), some (.int z17)]) hi_257_123 rfl hz17 rfl ?_
      refine am_e18 hi_257_126 ?_
      exact ih _ z17 a6 b7 z8 y9 _ hS12 hR16_ (fun j hj => (h14_ j hj).trans (hx j hj)) (by show (0 : Int) ≤ z17.toInt; omega) (by show z17.toInt ≤ m.toInt; omega) (by show z8.toInt = (f 24).toInt + z17.toInt; omega) (by show (0 : Int) ≤ a6.toInt; omega) (by show m.toInt - z17.toInt < (N : Int); omega)
theorem fr_assign {sc : Nat × (Nat → Int32)} {d : Nat} {S0 : am_S} {f : Nat → Int32} {g : Nat → Nat → Int32} {m : Int32} {k : Int32} {gs : List mg_E} {bc : List (List Nat)} {fl : List Nat} {fk : Int} {pj : List Nat} {Q : Option (Option Value) → am_S → Prop} (p0 : (0 : Int) ≤ (f 32).toInt) (p1 : (f 32).toInt ≤ (63 : Int)) (p2 : (f 53).toInt ≤ (4096 : Int)) (p3 : (0 : Int) ≤ (f 68).toInt) (p4 : (f 68).toInt + m.toInt ≤ 65534) (p5 : (0 : Int) ≤ k.toInt) (p6 : (0 : Int) ≤ m.toInt) (p7 : k.toInt + m.toInt ≤ 16384) (hx0 : ∀ (S : am_S) (x5 : Option Value) (c j s : Int32) (gx : Nat → Nat → Int32), MS S0 S (upd f 68 s) gx → RJ (upd f 68 s) gx gs bc fl fk pj → (∀ j, j ∉ [60, 69, 70, 71, 72, 73] → gx j = g j) → ((0 : Int) ≤ c.toInt) → (c.toInt ≤ m.toInt) → ((f 68).toInt ≤ s.toInt) → (s.toInt ≤ (f 68).toInt + m.toInt) → am_E (am_PP sc) (d + 5) 265 102 [some (.ref 39), some (.int m), some (.int k), some (.int c), some (.int j), x5] [] S Q) : ∀ (N : Nat) (S : am_S) (x5 : Option Value) (c j s : Int32) (gx : Nat → Nat → Int32), MS S0 S (upd f 68 s) gx → RJ (upd f 68 s) gx gs bc fl fk pj → (∀ j, j ∉ [60, 69, 70, 71, 72, 73] → gx j = g j) → ((0 : Int) ≤ c.toInt) → (c.toInt + j.toInt + 1 ≤ m.toInt) → ((-1 : Int) ≤ j.toInt) → ((f 68).toInt ≤ s.toInt) → (s.toInt + j.toInt + 1 ≤ (f 68).toInt + m.toInt) → j.toInt + 1 < (N : Int) → am_E (am_PP sc) (d + 5) 265 16 [some (.ref 39), some (.int m), some (.int k), some (.int c), some (.int j), x5] [] S Q := by
  intro N
  induction N with
  | zero =>
    intro S x5 c j s gx hS hRl hx i0 i1 i2 i3 i4 hN
    exfalso
    omega
  | succ N ih =>
    intro S x5 c j s gx hS hRl hx i0 i1 i2 i3 i4 hN
    refine am_e1 (v := j) hi_265_16 rfl ?_
    by_cases c0 : j.toInt < (0 : Int)
    · refine am_e12t hi_265_18 (am_cT (m := j.toInt) (n := (0 : Int)) rfl (by decide) c0) ?_
      exact hx0 _ x5 c j s _ hS hRl hx (by show (0 : Int) ≤ c.toInt; omega) (by show c.toInt ≤ m.toInt; omega) (by show (f 68).toInt ≤ s.toInt; omega) (by show s.toInt ≤ (f 68).toInt + m.toInt; omega)
    · refine am_e12f hi_265_18 (am_cF (m := j.toInt) (n := (0 : Int)) rfl (by decide) c0) ?_
      refine am_e2 (v := 39) hi_265_21 rfl ?_
      refine mm_20 (v := .ref 49) hS hi_265_22 rfl ?_
      refine am_e1 (v := k) hi_265_25 rfl ?_
      refine am_e1 (v := j) hi_265_26 rfl ?_
      obtain ⟨z1, hz1, tz1⟩ := am_addI (x := k) (y := j) (m := k.toInt) (n := j.toInt) rfl rfl (by omega) (by omega)
      refine am_e10 (z := z1) hi_265_28 hz1 ?_
      refine mm_25 hS ma_21 hi_265_29 (by decide) (by omega) (by omega) ?_
      show am_E _ _ _ _ _ (.int (gx 21 z1.toNatClampNeg) :: _) _ _
      rw [show gx 21 = g 21 from hx 21 (by decide)]
      show am_E _ _ _ _ [some (.ref 39), some (.int m), some (.int k), some (.int c), some (.int j), x5] [.int (g 21 z1.toNatClampNeg)] _ _
      refine am_e3 (ls' := [some (.ref 39), some (.int m), some (.int k), some (.int c), some (.int j), some (.int (g 21 z1.toNatClampNeg))]) hi_265_30 (Nat.le_of_ble_eq_true rfl) rfl ?_
      refine am_e1 (v := g 21 z1.toNatClampNeg) hi_265_32 rfl ?_
      refine am_e0 hi_265_34 ?_
      by_cases c2 : (3 : Int) ≤ (g 21 z1.toNatClampNeg).toInt
      · refine am_e13t hi_265_35 (am_cT (m := (g 21 z1.toNatClampNeg).toInt) (n := (3 : Int)) rfl (by decide) c2) ?_
        refine am_e2 (v := 39) hi_265_70 rfl ?_
        refine am_e0 hi_265_71 ?_
        refine am_e0 hi_265_73 ?_
        refine am_e1 (v := c) hi_265_74 rfl ?_
        obtain ⟨z3, hz3, tz3⟩ := am_mulI (x := 2) (y := c) (m := (2 : Int)) (n := c.toInt) (by decide) rfl (by omega) (by omega)
        refine am_e10 (z := z3) hi_265_75 hz3 ?_
        refine am_e1 (v := j) hi_265_76 rfl ?_
        obtain ⟨z4, hz4, tz4⟩ := am_addI (x := z3) (y := j) (m := z3.toInt) (n := j.toInt) rfl rfl (by omega) (by omega)
        refine am_e10 (z := z4) hi_265_78 hz4 ?_
        refine am_e0 hi_265_79 ?_
        refine am_e2 (v := 39) hi_265_80 rfl ?_
        refine mm_20 (v := .ref 51) hS hi_265_81 rfl ?_
        refine am_e1 (v := k) hi_265_84 rfl ?_
        refine am_e1 (v := j) hi_265_85 rfl ?_
        refine am_e10 (z := z1) hi_265_87 hz1 ?_
        refine mm_25 hS ma_23 hi_265_88 (by decide) (by omega) (by omega) ?_
        show am_E _ _ _ _ _ (.int (gx 23 z1.toNatClampNeg) :: _) _ _
        rw [show gx 23 = g 23 from hx 23 (by decide)]
        show am_E _ _ _ _ [some (.ref 39), some (.int m), some (.int k), some (.int c), some (.int j), some (.int (g 21 z1.toNatClampNeg))] [.int (g 23 z1.toNatClampNeg), .int 0, .int z4, .int 32, .ref 39] _ _
        refine am_e32n (as := [.ref 39, .int 32, .int z4, .int 0, .int (g 23 z1.toNatClampNeg)]) (la := [some (.ref 39), some (.int 32), some (.int z4), some (.int 0), some (.int (g 23 z1.toNatClampNeg))]) (rest := []) hi_265_89 (am_hd0 (M := 265) (by decide) 89) (Nat.le_of_ble_eq_true rfl) (Nat.le_of_ble_eq_true rfl) (show 5 ≤ am_P0.2.2.1 189 from by decide +kernel) rfl (am_recv_ok hS.fs) rfl rfl (ct_put (d := (d + 4)) hS hRl  (by show (0 : Int) ≤ (f 32).toInt; omega) (by show (f 32).toInt ≤ (63 : Int); omega) (by show (f 53).toInt ≤ (4096 : Int); omega) (by show (0 : Int) ≤ s.toInt; omega) (by show s.toInt ≤ (65534 : Int); omega)) ?_
        rintro v5 S6 (⟨z7, r8, g'9, hv10, hS11, hR15, h12, h13, h14⟩)
        subst hv10
        have h12_ : z7.toInt = s.toInt + 1 := h12
        have h13_ : r8.toInt = s.toInt := h13
        have h14_ : ∀ j, j ∉ [60, 69, 70, 71, 72, 73] → g'9 j = gx j := h14
        replace hS11 : MS S0 S6 (upd f 68 z7) g'9 := hS11
        have hR15_ : RJ (upd f 68 z7) g'9 gs bc fl fk (s.toNatClampNeg :: pj) := hR15
        show am_E _ _ _ _ [some (.ref 39), some (.int m), some (.int k), some (.int c), some (.int j), some (.int (g 21 z1.toNatClampNeg))] [.int r8] _ _
        refine am_e6i hi_265_92 ?_
        obtain ⟨z16, hz16, tz16⟩ := am_addI (x := c) (y := 1) (m := c.toInt) (n := (1 : Int)) rfl (by decide) (by omega) (by omega)
        refine am_e5 (v := c) (z := z16) (ls' := [some (.ref 39), some (.int m), some (.int k), some (.int z16), some (.int j), some (.int (g 21 z1.toNatClampNeg))]) hi_265_93 rfl hz16 rfl ?_
        obtain ⟨z17, hz17, tz17⟩ := am_addI (x := j) (y := (-1)) (m := j.toInt) (n := (-1 : Int)) rfl (by decide) (by omega) (by omega)
        refine am_e5 (v := j) (z := z17) (ls' := [some (.ref 39), some (.int m), some (.int k), some (.int z16), some (.int z17), some (.int (g 21 z1.toNatClampNeg))]) hi_265_96 rfl hz17 rfl ?_
        refine am_e18 hi_265_99 ?_
        exact ih _ (some (.int (g 21 z1.toNatClampNeg))) z16 z17 z7 _ hS11 (RJ.fewer hR15_ (fun j hj => by simp only [List.mem_cons]; simp only [hj, or_true])) (fun j hj => (h14_ j hj).trans (hx j hj)) (by show (0 : Int) ≤ z16.toInt; omega) (by show z16.toInt + z17.toInt + 1 ≤ m.toInt; omega) (by show (-1 : Int) ≤ z17.toInt; omega) (by show (f 68).toInt ≤ z7.toInt; omega) (by show z7.toInt + z17.toInt + 1 ≤ (f 68).toInt + m.toInt; omega) (by show z17.toInt + 1 < (N : Int); omega)
      · refine am_e13f hi_265_35 (am_cF (m := (g 21 z1.toNatClampNeg).toInt) (n := (3 : Int)) rfl (by decide) c2) ?_
        refine am_e2 (v := 39) hi_265_38 rfl ?_
        refine am_e0 hi_265_39 ?_
        refine am_e1 (v := g 21 z1.toNatClampNeg) hi_265_41 rfl ?_
        obtain ⟨z18, hz18⟩ : ∃ q__, am_bin 0 29 (g 21 z1.toNatClampNeg) = q__ := ⟨_, rfl⟩
        refine am_e10 (z := z18) hi_265_43 hz18 ?_
        refine am_e2 (v := 39) hi_265_44 rfl ?_
        refine mm_20 (v := .ref 50) hS hi_265_45 rfl ?_
        refine am_e1 (v := k) hi_265_48 rfl ?_
        refine am_e1 (v := j) hi_265_49 rfl ?_
        refine am_e10 (z := z1) hi_265_51 hz1 ?_
        refine mm_25 hS ma_22 hi_265_52 (by decide) (by omega) (by omega) ?_
        show am_E _ _ _ _ _ (.int (gx 22 z1.toNatClampNeg) :: _) _ _
        rw [show gx 22 = g 22 from hx 22 (by decide)]
        show am_E _ _ _ _ [some (.ref 39), some (.int m), some (.int k), some (.int c), some (.int j), some (.int (g 21 z1.toNatClampNeg))] [.int (g 22 z1.toNatClampNeg), .int z18, .ref 39] _ _
        refine am_e0 hi_265_53 ?_
        refine am_e2 (v := 39) hi_265_54 rfl ?_
        refine mm_20 (v := .ref 51) hS hi_265_55 rfl ?_
        refine am_e1 (v := k) hi_265_58 rfl ?_
        refine am_e1 (v := j) hi_265_59 rfl ?_
        refine am_e10 (z := z1) hi_265_61 hz1 ?_
        refine mm_25 hS ma_23 hi_265_62 (by decide) (by omega) (by omega) ?_
        show am_E _ _ _ _ _ (.int (gx 23 z1.toNatClampNeg) :: _) _ _
        rw [show gx 23 = g 23 from hx 23 (by decide)]
        show am_E _ _ _ _ [some (.ref 39), some (.int m), some (.int k), some (.int c), some (.int j), some (.int (g 21 z1.toNatClampNeg))] [.int (g 23 z1.toNatClampNeg), .int 0, .int (g 22 z1.toNatClampNeg), .int z18, .ref 39] _ _
        refine am_e32n (as := [.ref 39, .int z18, .int (g 22 z1.toNatClampNeg), .int 0, .int (g 23 z1.toNatClampNeg)]) (la := [some (.ref 39), some (.int z18), some (.int (g 22 z1.toNatClampNeg)), some (.int 0), some (.int (g 23 z1.toNatClampNeg))]) (rest := []) hi_265_63 (am_hd0 (M := 265) (by decide) 63) (Nat.le_of_ble_eq_true rfl) (Nat.le_of_ble_eq_true rfl) (show 5 ≤ am_P0.2.2.1 189 from by decide +kernel) rfl (am_recv_ok hS.fs) rfl rfl (ct_put (d := (d + 4)) hS hRl  (by show (0 : Int) ≤ (f 32).toInt; omega) (by show (f 32).toInt ≤ (63 : Int); omega) (by show (f 53).toInt ≤ (4096 : Int); omega) (by show (0 : Int) ≤ s.toInt; omega) (by show s.toInt ≤ (65534 : Int); omega)) ?_
        rintro v19 S20 (⟨z21, r22, g'23, hv24, hS25, hR29, h26, h27, h28⟩)
        subst hv24
        have h26_ : z21.toInt = s.toInt + 1 := h26
        have h27_ : r22.toInt = s.toInt := h27
        have h28_ : ∀ j, j ∉ [60, 69, 70, 71, 72, 73] → g'23 j = gx j := h28
        replace hS25 : MS S0 S20 (upd f 68 z21) g'23 := hS25
        have hR29_ : RJ (upd f 68 z21) g'23 gs bc fl fk (s.toNatClampNeg :: pj) := hR29
        show am_E _ _ _ _ [some (.ref 39), some (.int m), some (.int k), some (.int c), some (.int j), some (.int (g 21 z1.toNatClampNeg))] [.int r22] _ _
        refine am_e6i hi_265_66 ?_
        refine am_e18 hi_265_67 ?_
        obtain ⟨z30, hz30, tz30⟩ := am_addI (x := j) (y := (-1)) (m := j.toInt) (n := (-1 : Int)) rfl (by decide) (by omega) (by omega)
        refine am_e5 (v := j) (z := z30) (ls' := [some (.ref 39), some (.int m), some (.int k), some (.int c), some (.int z30), some (.int (g 21 z1.toNatClampNeg))]) hi_265_96 rfl hz30 rfl ?_
        refine am_e18 hi_265_99 ?_
        exact ih _ (some (.int (g 21 z1.toNatClampNeg))) c z30 z21 _ hS25 (RJ.fewer hR29_ (fun j hj => by simp only [List.mem_cons]; simp only [hj, or_true])) (fun j hj => (h28_ j hj).trans (hx j hj)) (by show (0 : Int) ≤ c.toInt; omega) (by show c.toInt + z30.toInt + 1 ≤ m.toInt; omega) (by show (-1 : Int) ≤ z30.toInt; omega) (by show (f 68).toInt ≤ z21.toInt; omega) (by show z21.toInt + z30.toInt + 1 ≤ (f 68).toInt + m.toInt; omega) (by show z30.toInt + 1 < (N : Int); omega)
theorem fr_fs {sc : Nat × (Nat → Int32)} {d : Nat} {S0 : am_S} {f : Nat → Int32} {g : Nat → Nat → Int32} {w : Int32} {x2 : Int32} {gs : List mg_E} {bc : List (List Nat)} {fl : List Nat} {fk : Int} {pj : List Nat} {Q : Option (Option Value) → am_S → Prop} (p0 : (0 : Int) ≤ (f 32).toInt) (p1 : (f 32).toInt ≤ (63 : Int)) (p2 : (f 53).toInt ≤ (4096 : Int)) (p3 : (0 : Int) ≤ (f 4).toInt) (p4 : (f 0).toInt ≤ (16384 : Int)) (p5 : (f 4).toInt ≤ (f 0).toInt) (p6 : (f 0).toInt ≤ (512 : Int)) (p7 : (0 : Int) ≤ (f 68).toInt) (p8 : (f 68).toInt ≤ (60000 : Int)) (p9 : (0 : Int) ≤ (f 6).toInt) (hx0 : ∀ (S : am_S) (x5 : Option Value) (m3 p4 z s : Int32) (gx : Nat → Nat → Int32), MS S0 S (upd (upd f 4 z) 68 s) gx → RJ (upd (upd f 4 z) 68 s) gx gs bc fl fk pj → (∀ j, j ∉ [60, 69, 70, 71, 72, 73] → gx j = g j) → (m3 = 0 ∨ m3 = 1) → ((f 4).toInt ≤ z.toInt) → (z.toInt ≤ (f 0).toInt) → ((f 68).toInt ≤ s.toInt) → (s.toInt + (f 4).toInt ≤ (f 68).toInt + z.toInt) → am_E (am_PP sc) (d + 5) 236 218 [some (.ref 39), some (.int w), some (.int x2), some (.int m3), some (.int p4), x5] [] S Q) (hx1 : ∀ (S : am_S) (x3 : Option Value) (x4 : Option Value) (x5 : Option Value) (z s u_ v_ : Int32) (gx : Nat → Nat → Int32), MS S0 S (upd (upd (upd (upd (upd f 4 z) 6 u_) 7 v_) 10 0) 68 s) gx → RJ (upd (upd (upd (upd (upd f 4 z) 6 u_) 7 v_) 10 0) 68 s) gx [] bc [] 0 [] → (∀ j, j ∉ [60, 69, 70, 71, 72, 73] → gx j = g j) → ((f 4).toInt ≤ z.toInt) → (z.toInt ≤ (f 0).toInt) → ((f 68).toInt ≤ s.toInt) → (s.toInt + (f 4).toInt ≤ (f 68).toInt + z.toInt) → ((0 : Int) ≤ u_.toInt) → am_E (am_PP sc) (d + 5) 236 146 [some (.ref 39), some (.int w), some (.int x2), x3, x4, x5] [] S Q) : ∀ (N : Nat) (S : am_S) (x5 : Option Value) (m3 p4 z s : Int32) (gx : Nat → Nat → Int32), MS S0 S (upd (upd f 4 z) 68 s) gx → RJ (upd (upd f 4 z) 68 s) gx gs bc fl fk pj → (∀ j, j ∉ [60, 69, 70, 71, 72, 73] → gx j = g j) → (m3 = 0 ∨ m3 = 1) → ((f 4).toInt ≤ z.toInt) → (z.toInt ≤ (f 0).toInt) → ((f 68).toInt ≤ s.toInt) → (s.toInt + (f 4).toInt ≤ (f 68).toInt + z.toInt) → ((0 : Int) ≤ m3.toInt) → (m3.toInt ≤ (1 : Int)) → (f 0).toInt - z.toInt < (N : Int) → am_E (am_PP sc) (d + 5) 236 85 [some (.ref 39), some (.int w), some (.int x2), some (.int m3), some (.int p4), x5] [] S Q := by
  intro N
  induction N with
  | zero =>
    intro S x5 m3 p4 z s gx hS hRl hx hm i0 i1 i2 i3 i4 i5 hN
    exfalso
    omega
  | succ N ih =>
    intro S x5 m3 p4 z s gx hS hRl hx hm i0 i1 i2 i3 i4 i5 hN
    refine am_e1 (v := m3) hi_236_85 rfl ?_
    by_cases c0 : ¬ m3.toInt = (0 : Int)
    · refine am_e12t hi_236_86 (am_cT (m := m3.toInt) (n := (0 : Int)) rfl (by decide) c0) ?_
      exact hx0 _ x5 m3 p4 z s _ hS hRl hx hm (by show (f 4).toInt ≤ z.toInt; omega) (by show z.toInt ≤ (f 0).toInt; omega) (by show (f 68).toInt ≤ s.toInt; omega) (by show s.toInt + (f 4).toInt ≤ (f 68).toInt + z.toInt; omega)
    · refine am_e12f hi_236_86 (am_cF (m := m3.toInt) (n := (0 : Int)) rfl (by decide) c0) ?_
      refine am_e2 (v := 39) hi_236_89 rfl ?_
      refine am_e32n (as := [.ref 39]) (la := [some (.ref 39)]) (rest := []) hi_236_90 (am_hd0 (M := 236) (by decide) 90) (Nat.le_of_ble_eq_true rfl) (Nat.le_of_ble_eq_true rfl) (show 1 ≤ am_P0.2.2.1 183 from by decide +kernel) rfl (am_recv_ok hS.fs) rfl rfl (ct_next (d := (d + 3)) hS   (by show (0 : Int) ≤ z.toInt; omega) (by show (f 0).toInt ≤ (16384 : Int); omega)) ?_
      rintro v1 S2 (⟨r3, hv4, hS5, h6⟩)
      subst hv4
      have h6_ : z.toInt < (f 0).toInt ∨ r3.toInt = (-1 : Int) := h6
      show am_E _ _ _ _ [some (.ref 39), some (.int w), some (.int x2), some (.int m3), some (.int p4), x5] [.int r3] _ _
      refine am_e0 hi_236_93 ?_
      by_cases c8 : r3.toInt = (70 : Int)
      · refine am_e13t hi_236_95 (am_cT (m := r3.toInt) (n := (70 : Int)) rfl (by decide) c8) ?_
        refine am_e2 (v := 39) hi_236_107 rfl ?_
        refine am_e32n (as := [.ref 39]) (la := [some (.ref 39)]) (rest := []) hi_236_108 (am_hd0 (M := 236) (by decide) 108) (Nat.le_of_ble_eq_true rfl) (Nat.le_of_ble_eq_true rfl) (show 1 ≤ am_P0.2.2.1 183 from by decide +kernel) rfl (am_recv_ok hS5.fs) rfl rfl (ct_next (d := (d + 3)) hS5   (by show (0 : Int) ≤ z.toInt; omega) (by show (f 0).toInt ≤ (16384 : Int); omega)) ?_
        rintro v9 S10 (⟨r11, hv12, hS13, h14⟩)
        subst hv12
        have h14_ : z.toInt < (f 0).toInt ∨ r11.toInt = (-1 : Int) := h14
        show am_E _ _ _ _ [some (.ref 39), some (.int w), some (.int x2), some (.int m3), some (.int p4), x5] [.int r11] _ _
        refine am_e0 hi_236_111 ?_
        by_cases c16 : ¬ r11.toInt = (68 : Int)
        · refine am_e13t hi_236_113 (am_cT (m := r11.toInt) (n := (68 : Int)) rfl (by decide) c16) ?_
          refine am_e0 hi_236_120 ?_
          refine am_e3 (ls' := [some (.ref 39), some (.int w), some (.int x2), some (.int 0), some (.int p4), x5]) hi_236_121 (Nat.le_of_ble_eq_true rfl) rfl ?_
          refine am_e2 (v := 39) hi_236_122 rfl ?_
          refine mm_20 (v := .int z) hS13 hi_236_123 rfl ?_
          refine am_e3 (ls' := [some (.ref 39), some (.int w), some (.int x2), some (.int 0), some (.int z), x5]) hi_236_126 (Nat.le_of_ble_eq_true rfl) rfl ?_
          refine am_e2 (v := 39) hi_236_128 rfl ?_
          refine am_e7 hi_236_129 ?_
          refine mm_20 (v := .int z) hS13 hi_236_130 rfl ?_
          refine am_e0 hi_236_133 ?_
          obtain ⟨z17, hz17, tz17⟩ := am_addI (x := z) (y := 1) (m := z.toInt) (n := (1 : Int)) rfl (by decide) (by omega) (by omega)
          refine am_e10 (z := z17) hi_236_134 hz17 ?_
          refine mm_21 (v := z17) hS13 hi_236_135 rfl (Nat.le_of_ble_eq_true rfl) ms_4 ?_
          intro S18 hS19
          replace hS19 : MS S0 S18 (upd (upd f 4 z17) 68 s) gx := hS19
          have hR20 : RJ (upd (upd f 4 z17) 68 s) gx gs bc fl fk pj := RJ.at hRl (by show z.toInt ≤ z17.toInt; omega)
          refine am_e2 (v := 39) hi_236_138 rfl ?_
          refine am_e0 hi_236_139 ?_
          refine am_e32n (as := [.ref 39, .int 1]) (la := [some (.ref 39), some (.int 1)]) (rest := []) hi_236_140 (am_hd0 (M := 236) (by decide) 140) (Nat.le_of_ble_eq_true rfl) (Nat.le_of_ble_eq_true rfl) (show 2 ≤ am_P0.2.2.1 200 from by decide +kernel) rfl (am_recv_ok hS19.fs) rfl rfl (ct_take (d := (d + 2)) hS19   (by show (0 : Int) ≤ z17.toInt; omega) (by show (f 0).toInt ≤ (16384 : Int); omega) (by show (0 : Int) ≤ (1 : Int); omega) (by show (0 : Int) ≤ (f 6).toInt; omega)) ?_
          rintro v21 S22 (⟨z23, hv24, hS25, h26, h27⟩ | ⟨a29, b30, hv31, hS32, h33⟩)
          · subst hv24
            have h26_ : z23.toInt = z17.toInt + 1 := h26
            have h27_ : z17.toInt < (f 0).toInt := h27
            replace hS25 : MS S0 S22 (upd (upd f 4 z23) 68 s) gx := hS25
            have hR35 : RJ (upd (upd f 4 z23) 68 s) gx gs bc fl fk pj := RJ.at hR20 (by show z17.toInt ≤ z23.toInt; omega)
            show am_E _ _ _ _ [some (.ref 39), some (.int w), some (.int x2), some (.int 0), some (.int z), x5] [.int 1] _ _
            refine am_e12t hi_236_143 (by decide) ?_
            refine am_e1 (v := 0) hi_236_147 rfl ?_
            refine am_e12f hi_236_148 (by decide) ?_
            refine am_e2 (v := 39) hi_236_151 rfl ?_
            refine am_e32n (as := [.ref 39]) (la := [some (.ref 39)]) (rest := []) hi_236_152 (am_hd0 (M := 236) (by decide) 152) (Nat.le_of_ble_eq_true rfl) (Nat.le_of_ble_eq_true rfl) (show 1 ≤ am_P0.2.2.1 183 from by decide +kernel) rfl (am_recv_ok hS25.fs) rfl rfl (ct_next (d := (d + 3)) hS25   (by show (0 : Int) ≤ z23.toInt; omega) (by show (f 0).toInt ≤ (16384 : Int); omega)) ?_
            rintro v36 S37 (⟨r38, hv39, hS40, h41⟩)
            subst hv39
            have h41_ : z23.toInt < (f 0).toInt ∨ r38.toInt = (-1 : Int) := h41
            show am_E _ _ _ _ [some (.ref 39), some (.int w), some (.int x2), some (.int 0), some (.int z), x5] [.int r38] _ _
            refine am_e0 hi_236_155 ?_
            by_cases c43 : r38.toInt = (70 : Int)
            · refine am_e13t hi_236_157 (am_cT (m := r38.toInt) (n := (70 : Int)) rfl (by decide) c43) ?_
              refine am_e0 hi_236_173 ?_
              refine am_e3 (ls' := [some (.ref 39), some (.int w), some (.int x2), some (.int 0), some (.int z), some (.int 0)]) hi_236_174 (Nat.le_of_ble_eq_true rfl) rfl ?_
              refine am_e2 (v := 39) hi_236_176 rfl ?_
              refine am_e1 (v := 0) hi_236_177 rfl ?_
              refine am_e12t hi_236_179 (by decide) ?_
              refine am_e0 hi_236_186 ?_
              refine am_e2 (v := 39) hi_236_188 rfl ?_
              refine mm_20 (v := .ref 41) hS40 hi_236_189 rfl ?_
              refine am_e2 (v := 39) hi_236_192 rfl ?_
              refine mm_20 (v := .int z23) hS40 hi_236_193 rfl ?_
              refine am_e0 hi_236_196 ?_
              obtain ⟨z44, hz44, tz44⟩ := am_subI (x := z23) (y := 1) (m := z23.toInt) (n := (1 : Int)) rfl (by decide) (by omega) (by omega)
              refine am_e10 (z := z44) hi_236_197 hz44 ?_
              refine mm_25 hS40 ma_2 hi_236_198 (by decide) (by omega) (by omega) ?_
              show am_E _ _ _ _ _ (.int (gx 2 z44.toNatClampNeg) :: _) _ _
              rw [show gx 2 = g 2 from hx 2 (by decide)]
              show am_E _ _ _ _ [some (.ref 39), some (.int w), some (.int x2), some (.int 0), some (.int z), some (.int 0)] [.int (g 2 z44.toNatClampNeg), .int 12, .ref 39] _ _
              refine am_e0 hi_236_199 ?_
              refine am_e1 (v := 0) hi_236_200 rfl ?_
              refine am_e12t hi_236_202 (by decide) ?_
              refine am_e1 (v := z) hi_236_209 rfl ?_
              refine am_e32n (as := [.ref 39, .int 12, .int (g 2 z44.toNatClampNeg), .int 0, .int z]) (la := [some (.ref 39), some (.int 12), some (.int (g 2 z44.toNatClampNeg)), some (.int 0), some (.int z)]) (rest := []) hi_236_211 (am_hd0 (M := 236) (by decide) 211) (Nat.le_of_ble_eq_true rfl) (Nat.le_of_ble_eq_true rfl) (show 5 ≤ am_P0.2.2.1 189 from by decide +kernel) rfl (am_recv_ok hS40.fs) rfl rfl (ct_put (d := (d + 4)) hS40 hR35  (by show (0 : Int) ≤ (f 32).toInt; omega) (by show (f 32).toInt ≤ (63 : Int); omega) (by show (f 53).toInt ≤ (4096 : Int); omega) (by show (0 : Int) ≤ s.toInt; omega) (by show s.toInt ≤ (65534 : Int); omega)) ?_
              rintro v45 S46 (⟨z47, r48, g'49, hv50, hS51, hR55, h52, h53, h54⟩)
              subst hv50
              have h52_ : z47.toInt = s.toInt + 1 := h52
              have h53_ : r48.toInt = s.toInt := h53
              have h54_ : ∀ j, j ∉ [60, 69, 70, 71, 72, 73] → g'49 j = gx j := h54
              replace hS51 : MS S0 S46 (upd (upd f 4 z23) 68 z47) g'49 := hS51
              have hR55_ : RJ (upd (upd f 4 z23) 68 z47) g'49 gs bc fl fk (s.toNatClampNeg :: pj) := hR55
              show am_E _ _ _ _ [some (.ref 39), some (.int w), some (.int x2), some (.int 0), some (.int z), some (.int 0)] [.int r48] _ _
              refine am_e6i hi_236_214 ?_
              refine am_e18 hi_236_215 ?_
              exact ih _ (some (.int 0)) 0 z z23 z47 _ hS51 (RJ.fewer hR55_ (fun j hj => by simp only [List.mem_cons]; simp only [hj, or_true])) (fun j hj => (h54_ j hj).trans (hx j hj)) (by decide) (by show (f 4).toInt ≤ z23.toInt; omega) (by show z23.toInt ≤ (f 0).toInt; omega) (by show (f 68).toInt ≤ z47.toInt; omega) (by show z47.toInt + (f 4).toInt ≤ (f 68).toInt + z23.toInt; omega) (by show (0 : Int) ≤ (0 : Int); omega) (by show (0 : Int) ≤ (1 : Int); omega) (by show (f 0).toInt - z23.toInt < (N : Int); omega)
            · refine am_e13f hi_236_157 (am_cF (m := r38.toInt) (n := (70 : Int)) rfl (by decide) c43) ?_
              refine am_e2 (v := 39) hi_236_160 rfl ?_
              refine am_e32n (as := [.ref 39]) (la := [some (.ref 39)]) (rest := []) hi_236_161 (am_hd0 (M := 236) (by decide) 161) (Nat.le_of_ble_eq_true rfl) (Nat.le_of_ble_eq_true rfl) (show 1 ≤ am_P0.2.2.1 183 from by decide +kernel) rfl (am_recv_ok hS40.fs) rfl rfl (ct_next (d := (d + 3)) hS40   (by show (0 : Int) ≤ z23.toInt; omega) (by show (f 0).toInt ≤ (16384 : Int); omega)) ?_
              rintro v56 S57 (⟨r58, hv59, hS60, h61⟩)
              subst hv59
              have h61_ : z23.toInt < (f 0).toInt ∨ r58.toInt = (-1 : Int) := h61
              show am_E _ _ _ _ [some (.ref 39), some (.int w), some (.int x2), some (.int 0), some (.int z), x5] [.int r58] _ _
              refine am_e0 hi_236_164 ?_
              by_cases c63 : r58.toInt = (68 : Int)
              · refine am_e13t hi_236_166 (am_cT (m := r58.toInt) (n := (68 : Int)) rfl (by decide) c63) ?_
                refine am_e0 hi_236_173 ?_
                refine am_e3 (ls' := [some (.ref 39), some (.int w), some (.int x2), some (.int 0), some (.int z), some (.int 0)]) hi_236_174 (Nat.le_of_ble_eq_true rfl) rfl ?_
                refine am_e2 (v := 39) hi_236_176 rfl ?_
                refine am_e1 (v := 0) hi_236_177 rfl ?_
                refine am_e12t hi_236_179 (by decide) ?_
                refine am_e0 hi_236_186 ?_
                refine am_e2 (v := 39) hi_236_188 rfl ?_
                refine mm_20 (v := .ref 41) hS60 hi_236_189 rfl ?_
                refine am_e2 (v := 39) hi_236_192 rfl ?_
                refine mm_20 (v := .int z23) hS60 hi_236_193 rfl ?_
                refine am_e0 hi_236_196 ?_
                obtain ⟨z64, hz64, tz64⟩ := am_subI (x := z23) (y := 1) (m := z23.toInt) (n := (1 : Int)) rfl (by decide) (by omega) (by omega)
                refine am_e10 (z := z64) hi_236_197 hz64 ?_
                refine mm_25 hS60 ma_2 hi_236_198 (by decide) (by omega) (by omega) ?_
                show am_E _ _ _ _ _ (.int (gx 2 z64.toNatClampNeg) :: _) _ _
                rw [show gx 2 = g 2 from hx 2 (by decide)]
                show am_E _ _ _ _ [some (.ref 39), some (.int w), some (.int x2), some (.int 0), some (.int z), some (.int 0)] [.int (g 2 z64.toNatClampNeg), .int 12, .ref 39] _ _
                refine am_e0 hi_236_199 ?_
                refine am_e1 (v := 0) hi_236_200 rfl ?_
                refine am_e12t hi_236_202 (by decide) ?_
                refine am_e1 (v := z) hi_236_209 rfl ?_
                refine am_e32n (as := [.ref 39, .int 12, .int (g 2 z64.toNatClampNeg), .int 0, .int z]) (la := [some (.ref 39), some (.int 12), some (.int (g 2 z64.toNatClampNeg)), some (.int 0), some (.int z)]) (rest := []) hi_236_211 (am_hd0 (M := 236) (by decide) 211) (Nat.le_of_ble_eq_true rfl) (Nat.le_of_ble_eq_true rfl) (show 5 ≤ am_P0.2.2.1 189 from by decide +kernel) rfl (am_recv_ok hS60.fs) rfl rfl (ct_put (d := (d + 4)) hS60 hR35  (by show (0 : Int) ≤ (f 32).toInt; omega) (by show (f 32).toInt ≤ (63 : Int); omega) (by show (f 53).toInt ≤ (4096 : Int); omega) (by show (0 : Int) ≤ s.toInt; omega) (by show s.toInt ≤ (65534 : Int); omega)) ?_
                rintro v65 S66 (⟨z67, r68, g'69, hv70, hS71, hR75, h72, h73, h74⟩)
                subst hv70
                have h72_ : z67.toInt = s.toInt + 1 := h72
                have h73_ : r68.toInt = s.toInt := h73
                have h74_ : ∀ j, j ∉ [60, 69, 70, 71, 72, 73] → g'69 j = gx j := h74
                replace hS71 : MS S0 S66 (upd (upd f 4 z23) 68 z67) g'69 := hS71
                have hR75_ : RJ (upd (upd f 4 z23) 68 z67) g'69 gs bc fl fk (s.toNatClampNeg :: pj) := hR75
                show am_E _ _ _ _ [some (.ref 39), some (.int w), some (.int x2), some (.int 0), some (.int z), some (.int 0)] [.int r68] _ _
                refine am_e6i hi_236_214 ?_
                refine am_e18 hi_236_215 ?_
                exact ih _ (some (.int 0)) 0 z z23 z67 _ hS71 (RJ.fewer hR75_ (fun j hj => by simp only [List.mem_cons]; simp only [hj, or_true])) (fun j hj => (h74_ j hj).trans (hx j hj)) (by decide) (by show (f 4).toInt ≤ z23.toInt; omega) (by show z23.toInt ≤ (f 0).toInt; omega) (by show (f 68).toInt ≤ z67.toInt; omega) (by show z67.toInt + (f 4).toInt ≤ (f 68).toInt + z23.toInt; omega) (by show (0 : Int) ≤ (0 : Int); omega) (by show (0 : Int) ≤ (1 : Int); omega) (by show (f 0).toInt - z23.toInt < (N : Int); omega)
              · refine am_e13f hi_236_166 (am_cF (m := r58.toInt) (n := (68 : Int)) rfl (by decide) c63) ?_
                refine am_e0 hi_236_169 ?_
                refine am_e18 hi_236_170 ?_
                refine am_e3 (ls' := [some (.ref 39), some (.int w), some (.int x2), some (.int 0), some (.int z), some (.int 1)]) hi_236_174 (Nat.le_of_ble_eq_true rfl) rfl ?_
                refine am_e2 (v := 39) hi_236_176 rfl ?_
                refine am_e1 (v := 1) hi_236_177 rfl ?_
                refine am_e12f hi_236_179 (by decide) ?_
                refine am_e0 hi_236_182 ?_
                refine am_e18 hi_236_183 ?_
                refine am_e2 (v := 39) hi_236_188 rfl ?_
                refine mm_20 (v := .ref 41) hS60 hi_236_189 rfl ?_
                refine am_e2 (v := 39) hi_236_192 rfl ?_
                refine mm_20 (v := .int z23) hS60 hi_236_193 rfl ?_
                refine am_e0 hi_236_196 ?_
                obtain ⟨z76, hz76, tz76⟩ := am_subI (x := z23) (y := 1) (m := z23.toInt) (n := (1 : Int)) rfl (by decide) (by omega) (by omega)
                refine am_e10 (z := z76) hi_236_197 hz76 ?_
                refine mm_25 hS60 ma_2 hi_236_198 (by decide) (by omega) (by omega) ?_
                show am_E _ _ _ _ _ (.int (gx 2 z76.toNatClampNeg) :: _) _ _
                rw [show gx 2 = g 2 from hx 2 (by decide)]
                show am_E _ _ _ _ [some (.ref 39), some (.int w), some (.int x2), some (.int 0), some (.int z), some (.int 1)] [.int (g 2 z76.toNatClampNeg), .int 5, .ref 39] _ _
                refine am_e0 hi_236_199 ?_
                refine am_e1 (v := 1) hi_236_200 rfl ?_
                refine am_e12f hi_236_202 (by decide) ?_
                refine am_e0 hi_236_205 ?_
                refine am_e18 hi_236_206 ?_
                refine am_e32n (as := [.ref 39, .int 5, .int (g 2 z76.toNatClampNeg), .int 0, .int 0]) (la := [some (.ref 39), some (.int 5), some (.int (g 2 z76.toNatClampNeg)), some (.int 0), some (.int 0)]) (rest := []) hi_236_211 (am_hd0 (M := 236) (by decide) 211) (Nat.le_of_ble_eq_true rfl) (Nat.le_of_ble_eq_true rfl) (show 5 ≤ am_P0.2.2.1 189 from by decide +kernel) rfl (am_recv_ok hS60.fs) rfl rfl (ct_put (d := (d + 4)) hS60 hR35  (by show (0 : Int) ≤ (f 32).toInt; omega) (by show (f 32).toInt ≤ (63 : Int); omega) (by show (f 53).toInt ≤ (4096 : Int); omega) (by show (0 : Int) ≤ s.toInt; omega) (by show s.toInt ≤ (65534 : Int); omega)) ?_
                rintro v77 S78 (⟨z79, r80, g'81, hv82, hS83, hR87, h84, h85, h86⟩)
                subst hv82
                have h84_ : z79.toInt = s.toInt + 1 := h84
                have h85_ : r80.toInt = s.toInt := h85
                have h86_ : ∀ j, j ∉ [60, 69, 70, 71, 72, 73] → g'81 j = gx j := h86
                replace hS83 : MS S0 S78 (upd (upd f 4 z23) 68 z79) g'81 := hS83
                have hR87_ : RJ (upd (upd f 4 z23) 68 z79) g'81 gs bc fl fk (s.toNatClampNeg :: pj) := hR87
                show am_E _ _ _ _ [some (.ref 39), some (.int w), some (.int x2), some (.int 0), some (.int z), some (.int 1)] [.int r80] _ _
                refine am_e6i hi_236_214 ?_
                refine am_e18 hi_236_215 ?_
                exact ih _ (some (.int 1)) 0 z z23 z79 _ hS83 (RJ.fewer hR87_ (fun j hj => by simp only [List.mem_cons]; simp only [hj, or_true])) (fun j hj => (h86_ j hj).trans (hx j hj)) (by decide) (by show (f 4).toInt ≤ z23.toInt; omega) (by show z23.toInt ≤ (f 0).toInt; omega) (by show (f 68).toInt ≤ z79.toInt; omega) (by show z79.toInt + (f 4).toInt ≤ (f 68).toInt + z23.toInt; omega) (by show (0 : Int) ≤ (0 : Int); omega) (by show (0 : Int) ≤ (1 : Int); omega) (by show (f 0).toInt - z23.toInt < (N : Int); omega)
          · subst hv31
            have h33_ : (0 : Int) ≤ a29.toInt := h33
            replace hS32 : MS S0 S22 (upd (upd (upd (upd (upd f 4 z17) 6 a29) 7 b30) 10 0) 68 s) gx := hS32
            have hR88 := rj_clear0 hR20
            have hR89 : RJ (upd (upd (upd (upd (upd f 4 z17) 6 a29) 7 b30) 10 0) 68 s) gx [] bc [] 0 [] := hR88
            show am_E _ _ _ _ [some (.ref 39), some (.int w), some (.int x2), some (.int 0), some (.int z), x5] [.int 0] _ _
            refine am_e12f hi_236_143 (by decide) ?_
            exact hx1 _ (some (.int 0)) (some (.int z)) x5 z17 s a29 b30 _ hS32 hR89 hx (by show (f 4).toInt ≤ z17.toInt; omega) (by show z17.toInt ≤ (f 0).toInt; omega) (by show (f 68).toInt ≤ s.toInt; omega) (by show s.toInt + (f 4).toInt ≤ (f 68).toInt + z17.toInt; omega) (by show (0 : Int) ≤ a29.toInt; omega)
        · refine am_e13f hi_236_113 (am_cF (m := r11.toInt) (n := (68 : Int)) rfl (by decide) c16) ?_
          refine am_e0 hi_236_116 ?_
          refine am_e18 hi_236_117 ?_
          refine am_e3 (ls' := [some (.ref 39), some (.int w), some (.int x2), some (.int 1), some (.int p4), x5]) hi_236_121 (Nat.le_of_ble_eq_true rfl) rfl ?_
          refine am_e2 (v := 39) hi_236_122 rfl ?_
          refine mm_20 (v := .int z) hS13 hi_236_123 rfl ?_
          refine am_e3 (ls' := [some (.ref 39), some (.int w), some (.int x2), some (.int 1), some (.int z), x5]) hi_236_126 (Nat.le_of_ble_eq_true rfl) rfl ?_
          refine am_e2 (v := 39) hi_236_128 rfl ?_
          refine am_e7 hi_236_129 ?_
          refine mm_20 (v := .int z) hS13 hi_236_130 rfl ?_
          refine am_e0 hi_236_133 ?_
          obtain ⟨z90, hz90, tz90⟩ := am_addI (x := z) (y := 1) (m := z.toInt) (n := (1 : Int)) rfl (by decide) (by omega) (by omega)
          refine am_e10 (z := z90) hi_236_134 hz90 ?_
          refine mm_21 (v := z90) hS13 hi_236_135 rfl (Nat.le_of_ble_eq_true rfl) ms_4 ?_
          intro S91 hS92
          replace hS92 : MS S0 S91 (upd (upd f 4 z90) 68 s) gx := hS92
          have hR93 : RJ (upd (upd f 4 z90) 68 s) gx gs bc fl fk pj := RJ.at hRl (by show z.toInt ≤ z90.toInt; omega)
          refine am_e2 (v := 39) hi_236_138 rfl ?_
          refine am_e0 hi_236_139 ?_
          refine am_e32n (as := [.ref 39, .int 1]) (la := [some (.ref 39), some (.int 1)]) (rest := []) hi_236_140 (am_hd0 (M := 236) (by decide) 140) (Nat.le_of_ble_eq_true rfl) (Nat.le_of_ble_eq_true rfl) (show 2 ≤ am_P0.2.2.1 200 from by decide +kernel) rfl (am_recv_ok hS92.fs) rfl rfl (ct_take (d := (d + 2)) hS92   (by show (0 : Int) ≤ z90.toInt; omega) (by show (f 0).toInt ≤ (16384 : Int); omega) (by show (0 : Int) ≤ (1 : Int); omega) (by show (0 : Int) ≤ (f 6).toInt; omega)) ?_
          rintro v94 S95 (⟨z96, hv97, hS98, h99, h100⟩ | ⟨a102, b103, hv104, hS105, h106⟩)
          · subst hv97
            have h99_ : z96.toInt = z90.toInt + 1 := h99
            have h100_ : z90.toInt < (f 0).toInt := h100
            replace hS98 : MS S0 S95 (upd (upd f 4 z96) 68 s) gx := hS98
            have hR108 : RJ (upd (upd f 4 z96) 68 s) gx gs bc fl fk pj := RJ.at hR93 (by show z90.toInt ≤ z96.toInt; omega)
            show am_E _ _ _ _ [some (.ref 39), some (.int w), some (.int x2), some (.int 1), some (.int z), x5] [.int 1] _ _
            refine am_e12t hi_236_143 (by decide) ?_
            refine am_e1 (v := 1) hi_236_147 rfl ?_
            refine am_e12t hi_236_148 (by decide) ?_
            refine am_e0 hi_236_169 ?_
            refine am_e18 hi_236_170 ?_
            refine am_e3 (ls' := [some (.ref 39), some (.int w), some (.int x2), some (.int 1), some (.int z), some (.int 1)]) hi_236_174 (Nat.le_of_ble_eq_true rfl) rfl ?_
            refine am_e2 (v := 39) hi_236_176 rfl ?_
            refine am_e1 (v := 1) hi_236_177 rfl ?_
            refine am_e12f hi_236_179 (by decide) ?_
            refine am_e0 hi_236_182 ?_
            refine am_e18 hi_236_183 ?_
            refine am_e2 (v := 39) hi_236_188 rfl ?_
            refine mm_20 (v := .ref 41) hS98 hi_236_189 rfl ?_
            refine am_e2 (v := 39) hi_236_192 rfl ?_
            refine mm_20 (v := .int z96) hS98 hi_236_193 rfl ?_
            refine am_e0 hi_236_196 ?_
            obtain ⟨z109, hz109, tz109⟩ := am_subI (x := z96) (y := 1) (m := z96.toInt) (n := (1 : Int)) rfl (by decide) (by omega) (by omega)
            refine am_e10 (z := z109) hi_236_197 hz109 ?_
            refine mm_25 hS98 ma_2 hi_236_198 (by decide) (by omega) (by omega) ?_
            show am_E _ _ _ _ _ (.int (gx 2 z109.toNatClampNeg) :: _) _ _
            rw [show gx 2 = g 2 from hx 2 (by decide)]
            show am_E _ _ _ _ [some (.ref 39), some (.int w), some (.int x2), some (.int 1), some (.int z), some (.int 1)] [.int (g 2 z109.toNatClampNeg), .int 5, .ref 39] _ _
            refine am_e0 hi_236_199 ?_
            refine am_e1 (v := 1) hi_236_200 rfl ?_
            refine am_e12f hi_236_202 (by decide) ?_
            refine am_e0 hi_236_205 ?_
            refine am_e18 hi_236_206 ?_
            refine am_e32n (as := [.ref 39, .int 5, .int (g 2 z109.toNatClampNeg), .int 0, .int 0]) (la := [some (.ref 39), some (.int 5), some (.int (g 2 z109.toNatClampNeg)), some (.int 0), some (.int 0)]) (rest := []) hi_236_211 (am_hd0 (M := 236) (by decide) 211) (Nat.le_of_ble_eq_true rfl) (Nat.le_of_ble_eq_true rfl) (show 5 ≤ am_P0.2.2.1 189 from by decide +kernel) rfl (am_recv_ok hS98.fs) rfl rfl (ct_put (d := (d + 4)) hS98 hR108  (by show (0 : Int) ≤ (f 32).toInt; omega) (by show (f 32).toInt ≤ (63 : Int); omega) (by show (f 53).toInt ≤ (4096 : Int); omega) (by show (0 : Int) ≤ s.toInt; omega) (by show s.toInt ≤ (65534 : Int); omega)) ?_
            rintro v110 S111 (⟨z112, r113, g'114, hv115, hS116, hR120, h117, h118, h119⟩)
            subst hv115
            have h117_ : z112.toInt = s.toInt + 1 := h117
            have h118_ : r113.toInt = s.toInt := h118
            have h119_ : ∀ j, j ∉ [60, 69, 70, 71, 72, 73] → g'114 j = gx j := h119
            replace hS116 : MS S0 S111 (upd (upd f 4 z96) 68 z112) g'114 := hS116
            have hR120_ : RJ (upd (upd f 4 z96) 68 z112) g'114 gs bc fl fk (s.toNatClampNeg :: pj) := hR120
            show am_E _ _ _ _ [some (.ref 39), some (.int w), some (.int x2), some (.int 1), some (.int z), some (.int 1)] [.int r113] _ _
            refine am_e6i hi_236_214 ?_
            refine am_e18 hi_236_215 ?_
            exact ih _ (some (.int 1)) 1 z z96 z112 _ hS116 (RJ.fewer hR120_ (fun j hj => by simp only [List.mem_cons]; simp only [hj, or_true])) (fun j hj => (h119_ j hj).trans (hx j hj)) (by decide) (by show (f 4).toInt ≤ z96.toInt; omega) (by show z96.toInt ≤ (f 0).toInt; omega) (by show (f 68).toInt ≤ z112.toInt; omega) (by show z112.toInt + (f 4).toInt ≤ (f 68).toInt + z96.toInt; omega) (by show (0 : Int) ≤ (1 : Int); omega) (by show (1 : Int) ≤ (1 : Int); omega) (by show (f 0).toInt - z96.toInt < (N : Int); omega)
          · subst hv104
            have h106_ : (0 : Int) ≤ a102.toInt := h106
            replace hS105 : MS S0 S95 (upd (upd (upd (upd (upd f 4 z90) 6 a102) 7 b103) 10 0) 68 s) gx := hS105
            have hR121 := rj_clear0 hR93
            have hR122 : RJ (upd (upd (upd (upd (upd f 4 z90) 6 a102) 7 b103) 10 0) 68 s) gx [] bc [] 0 [] := hR121
            show am_E _ _ _ _ [some (.ref 39), some (.int w), some (.int x2), some (.int 1), some (.int z), x5] [.int 0] _ _
            refine am_e12f hi_236_143 (by decide) ?_
            exact hx1 _ (some (.int 1)) (some (.int z)) x5 z90 s a102 b103 _ hS105 hR122 hx (by show (f 4).toInt ≤ z90.toInt; omega) (by show z90.toInt ≤ (f 0).toInt; omega) (by show (f 68).toInt ≤ s.toInt; omega) (by show s.toInt + (f 4).toInt ≤ (f 68).toInt + z90.toInt; omega) (by show (0 : Int) ≤ a102.toInt; omega)
      · refine am_e13f hi_236_95 (am_cF (m := r3.toInt) (n := (70 : Int)) rfl (by decide) c8) ?_
        refine am_e2 (v := 39) hi_236_98 rfl ?_
        refine am_e32n (as := [.ref 39]) (la := [some (.ref 39)]) (rest := []) hi_236_99 (am_hd0 (M := 236) (by decide) 99) (Nat.le_of_ble_eq_true rfl) (Nat.le_of_ble_eq_true rfl) (show 1 ≤ am_P0.2.2.1 183 from by decide +kernel) rfl (am_recv_ok hS5.fs) rfl rfl (ct_next (d := (d + 3)) hS5   (by show (0 : Int) ≤ z.toInt; omega) (by show (f 0).toInt ≤ (16384 : Int); omega)) ?_
        rintro v123 S124 (⟨r125, hv126, hS127, h128⟩)
        subst hv126
        have h128_ : z.toInt < (f 0).toInt ∨ r125.toInt = (-1 : Int) := h128
        show am_E _ _ _ _ [some (.ref 39), some (.int w), some (.int x2), some (.int m3), some (.int p4), x5] [.int r125] _ _
        refine am_e0 hi_236_102 ?_
        by_cases c130 : ¬ r125.toInt = (68 : Int)
        · refine am_e13t hi_236_104 (am_cT (m := r125.toInt) (n := (68 : Int)) rfl (by decide) c130) ?_
          exact hx0 _ x5 m3 p4 z s _ hS127 hRl hx hm (by show (f 4).toInt ≤ z.toInt; omega) (by show z.toInt ≤ (f 0).toInt; omega) (by show (f 68).toInt ≤ s.toInt; omega) (by show s.toInt + (f 4).toInt ≤ (f 68).toInt + z.toInt; omega)
        · refine am_e13f hi_236_104 (am_cF (m := r125.toInt) (n := (68 : Int)) rfl (by decide) c130) ?_
          refine am_e2 (v := 39) hi_236_107 rfl ?_
          refine am_e32n (as := [.ref 39]) (la := [some (.ref 39)]) (rest := []) hi_236_108 (am_hd0 (M := 236) (by decide) 108) (Nat.le_of_ble_eq_true rfl) (Nat.le_of_ble_eq_true rfl) (show 1 ≤ am_P0.2.2.1 183 from by decide +kernel) rfl (am_recv_ok hS127.fs) rfl rfl (ct_next (d := (d + 3)) hS127   (by show (0 : Int) ≤ z.toInt; omega) (by show (f 0).toInt ≤ (16384 : Int); omega)) ?_
          rintro v131 S132 (⟨r133, hv134, hS135, h136⟩)
          subst hv134
          have h136_ : z.toInt < (f 0).toInt ∨ r133.toInt = (-1 : Int) := h136
          show am_E _ _ _ _ [some (.ref 39), some (.int w), some (.int x2), some (.int m3), some (.int p4), x5] [.int r133] _ _
          refine am_e0 hi_236_111 ?_
          by_cases c138 : ¬ r133.toInt = (68 : Int)
          · refine am_e13t hi_236_113 (am_cT (m := r133.toInt) (n := (68 : Int)) rfl (by decide) c138) ?_
            refine am_e0 hi_236_120 ?_
            refine am_e3 (ls' := [some (.ref 39), some (.int w), some (.int x2), some (.int 0), some (.int p4), x5]) hi_236_121 (Nat.le_of_ble_eq_true rfl) rfl ?_
            refine am_e2 (v := 39) hi_236_122 rfl ?_
            refine mm_20 (v := .int z) hS135 hi_236_123 rfl ?_
            refine am_e3 (ls' := [some (.ref 39), some (.int w), some (.int x2), some (.int 0), some (.int z), x5]) hi_236_126 (Nat.le_of_ble_eq_true rfl) rfl ?_
            refine am_e2 (v := 39) hi_236_128 rfl ?_
            refine am_e7 hi_236_129 ?_
            refine mm_20 (v := .int z) hS135 hi_236_130 rfl ?_
            refine am_e0 hi_236_133 ?_
            obtain ⟨z139, hz139, tz139⟩ := am_addI (x := z) (y := 1) (m := z.toInt) (n := (1 : Int)) rfl (by decide) (by omega) (by omega)
            refine am_e10 (z := z139) hi_236_134 hz139 ?_
            refine mm_21 (v := z139) hS135 hi_236_135 rfl (Nat.le_of_ble_eq_true rfl) ms_4 ?_
            intro S140 hS141
            replace hS141 : MS S0 S140 (upd (upd f 4 z139) 68 s) gx := hS141
            have hR142 : RJ (upd (upd f 4 z139) 68 s) gx gs bc fl fk pj := RJ.at hRl (by show z.toInt ≤ z139.toInt; omega)
            refine am_e2 (v := 39) hi_236_138 rfl ?_
            refine am_e0 hi_236_139 ?_
            refine am_e32n (as := [.ref 39, .int 1]) (la := [some (.ref 39), some (.int 1)]) (rest := []) hi_236_140 (am_hd0 (M := 236) (by decide) 140) (Nat.le_of_ble_eq_true rfl) (Nat.le_of_ble_eq_true rfl) (show 2 ≤ am_P0.2.2.1 200 from by decide +kernel) rfl (am_recv_ok hS141.fs) rfl rfl (ct_take (d := (d + 2)) hS141   (by show (0 : Int) ≤ z139.toInt; omega) (by show (f 0).toInt ≤ (16384 : Int); omega) (by show (0 : Int) ≤ (1 : Int); omega) (by show (0 : Int) ≤ (f 6).toInt; omega)) ?_
            rintro v143 S144 (⟨z145, hv146, hS147, h148, h149⟩ | ⟨a151, b152, hv153, hS154, h155⟩)
            · subst hv146
              have h148_ : z145.toInt = z139.toInt + 1 := h148
              have h149_ : z139.toInt < (f 0).toInt := h149
              replace hS147 : MS S0 S144 (upd (upd f 4 z145) 68 s) gx := hS147
              have hR157 : RJ (upd (upd f 4 z145) 68 s) gx gs bc fl fk pj := RJ.at hR142 (by show z139.toInt ≤ z145.toInt; omega)
              show am_E _ _ _ _ [some (.ref 39), some (.int w), some (.int x2), some (.int 0), some (.int z), x5] [.int 1] _ _
              refine am_e12t hi_236_143 (by decide) ?_
              refine am_e1 (v := 0) hi_236_147 rfl ?_
              refine am_e12f hi_236_148 (by decide) ?_
              refine am_e2 (v := 39) hi_236_151 rfl ?_
              refine am_e32n (as := [.ref 39]) (la := [some (.ref 39)]) (rest := []) hi_236_152 (am_hd0 (M := 236) (by decide) 152) (Nat.le_of_ble_eq_true rfl) (Nat.le_of_ble_eq_true rfl) (show 1 ≤ am_P0.2.2.1 183 from by decide +kernel) rfl (am_recv_ok hS147.fs) rfl rfl (ct_next (d := (d + 3)) hS147   (by show (0 : Int) ≤ z145.toInt; omega) (by show (f 0).toInt ≤ (16384 : Int); omega)) ?_
              rintro v158 S159 (⟨r160, hv161, hS162, h163⟩)
              subst hv161
              have h163_ : z145.toInt < (f 0).toInt ∨ r160.toInt = (-1 : Int) := h163
              show am_E _ _ _ _ [some (.ref 39), some (.int w), some (.int x2), some (.int 0), some (.int z), x5] [.int r160] _ _
              refine am_e0 hi_236_155 ?_
              by_cases c165 : r160.toInt = (70 : Int)
              · refine am_e13t hi_236_157 (am_cT (m := r160.toInt) (n := (70 : Int)) rfl (by decide) c165) ?_
                refine am_e0 hi_236_173 ?_
                refine am_e3 (ls' := [some (.ref 39), some (.int w), some (.int x2), some (.int 0), some (.int z), some (.int 0)]) hi_236_174 (Nat.le_of_ble_eq_true rfl) rfl ?_
                refine am_e2 (v := 39) hi_236_176 rfl ?_
                refine am_e1 (v := 0) hi_236_177 rfl ?_
                refine am_e12t hi_236_179 (by decide) ?_
                refine am_e0 hi_236_186 ?_
                refine am_e2 (v := 39) hi_236_188 rfl ?_
                refine mm_20 (v := .ref 41) hS162 hi_236_189 rfl ?_
                refine am_e2 (v := 39) hi_236_192 rfl ?_
                refine mm_20 (v := .int z145) hS162 hi_236_193 rfl ?_
                refine am_e0 hi_236_196 ?_
                obtain ⟨z166, hz166, tz166⟩ := am_subI (x := z145) (y := 1) (m := z145.toInt) (n := (1 : Int)) rfl (by decide) (by omega) (by omega)
                refine am_e10 (z := z166) hi_236_197 hz166 ?_
                refine mm_25 hS162 ma_2 hi_236_198 (by decide) (by omega) (by omega) ?_
                show am_E _ _ _ _ _ (.int (gx 2 z166.toNatClampNeg) :: _) _ _
                rw [show gx 2 = g 2 from hx 2 (by decide)]
                show am_E _ _ _ _ [some (.ref 39), some (.int w), some (.int x2), some (.int 0), some (.int z), some (.int 0)] [.int (g 2 z166.toNatClampNeg), .int 12, .ref 39] _ _
                refine am_e0 hi_236_199 ?_
                refine am_e1 (v := 0) hi_236_200 rfl ?_
                refine am_e12t hi_236_202 (by decide) ?_
                refine am_e1 (v := z) hi_236_209 rfl ?_
                refine am_e32n (as := [.ref 39, .int 12, .int (g 2 z166.toNatClampNeg), .int 0, .int z]) (la := [some (.ref 39), some (.int 12), some (.int (g 2 z166.toNatClampNeg)), some (.int 0), some (.int z)]) (rest := []) hi_236_211 (am_hd0 (M := 236) (by decide) 211) (Nat.le_of_ble_eq_true rfl) (Nat.le_of_ble_eq_true rfl) (show 5 ≤ am_P0.2.2.1 189 from by decide +kernel) rfl (am_recv_ok hS162.fs) rfl rfl (ct_put (d := (d + 4)) hS162 hR157  (by show (0 : Int) ≤ (f 32).toInt; omega) (by show (f 32).toInt ≤ (63 : Int); omega) (by show (f 53).toInt ≤ (4096 : Int); omega) (by show (0 : Int) ≤ s.toInt; omega) (by show s.toInt ≤ (65534 : Int); omega)) ?_
                rintro v167 S168 (⟨z169, r170, g'171, hv172, hS173, hR177, h174, h175, h176⟩)
                subst hv172
                have h174_ : z169.toInt = s.toInt + 1 := h174
                have h175_ : r170.toInt = s.toInt := h175
                have h176_ : ∀ j, j ∉ [60, 69, 70, 71, 72, 73] → g'171 j = gx j := h176
                replace hS173 : MS S0 S168 (upd (upd f 4 z145) 68 z169) g'171 := hS173
                have hR177_ : RJ (upd (upd f 4 z145) 68 z169) g'171 gs bc fl fk (s.toNatClampNeg :: pj) := hR177
                show am_E _ _ _ _ [some (.ref 39), some (.int w), some (.int x2), some (.int 0), some (.int z), some (.int 0)] [.int r170] _ _
                refine am_e6i hi_236_214 ?_
                refine am_e18 hi_236_215 ?_
                exact ih _ (some (.int 0)) 0 z z145 z169 _ hS173 (RJ.fewer hR177_ (fun j hj => by simp only [List.mem_cons]; simp only [hj, or_true])) (fun j hj => (h176_ j hj).trans (hx j hj)) (by decide) (by show (f 4).toInt ≤ z145.toInt; omega) (by show z145.toInt ≤ (f 0).toInt; omega) (by show (f 68).toInt ≤ z169.toInt; omega) (by show z169.toInt + (f 4).toInt ≤ (f 68).toInt + z145.toInt; omega) (by show (0 : Int) ≤ (0 : Int); omega) (by show (0 : Int) ≤ (1 : Int); omega) (by show (f 0).toInt - z145.toInt < (N : Int); omega)
              · refine am_e13f hi_236_157 (am_cF (m := r160.toInt) (n := (70 : Int)) rfl (by decide) c165) ?_
                refine am_e2 (v := 39) hi_236_160 rfl ?_
                refine am_e32n (as := [.ref 39]) (la := [some (.ref 39)]) (rest := []) hi_236_161 (am_hd0 (M := 236) (by decide) 161) (Nat.le_of_ble_eq_true rfl) (Nat.le_of_ble_eq_true rfl) (show 1 ≤ am_P0.2.2.1 183 from by decide +kernel) rfl (am_recv_ok hS162.fs) rfl rfl (ct_next (d := (d + 3)) hS162   (by show (0 : Int) ≤ z145.toInt; omega) (by show (f 0).toInt ≤ (16384 : Int); omega)) ?_
                rintro v178 S179 (⟨r180, hv181, hS182, h183⟩)
                subst hv181
                have h183_ : z145.toInt < (f 0).toInt ∨ r180.toInt = (-1 : Int) := h183
                show am_E _ _ _ _ [some (.ref 39), some (.int w), some (.int x2), some (.int 0), some (.int z), x5] [.int r180] _ _
                refine am_e0 hi_236_164 ?_
                by_cases c185 : r180.toInt = (68 : Int)
                · refine am_e13t hi_236_166 (am_cT (m := r180.toInt) (n := (68 : Int)) rfl (by decide) c185) ?_
                  refine am_e0 hi_236_173 ?_
                  refine am_e3 (ls' := [some (.ref 39), some (.int w), some (.int x2), some (.int 0), some (.int z), some (.int 0)]) hi_236_174 (Nat.le_of_ble_eq_true rfl) rfl ?_
                  refine am_e2 (v := 39) hi_236_176 rfl ?_
                  refine am_e1 (v := 0) hi_236_177 rfl ?_
                  refine am_e12t hi_236_179 (by decide) ?_
                  refine am_e0 hi_236_186 ?_
                  refine am_e2 (v := 39) hi_236_188 rfl ?_
                  refine mm_20 (v := .ref 41) hS182 hi_236_189 rfl ?_
                  refine am_e2 (v := 39) hi_236_192 rfl ?_
                  refine mm_20 (v := .int z145) hS182 hi_236_193 rfl ?_
                  refine am_e0 hi_236_196 ?_
                  obtain ⟨z186, hz186, tz186⟩ := am_subI (x := z145) (y := 1) (m := z145.toInt) (n := (1 : Int)) rfl (by decide) (by omega) (by omega)
                  refine am_e10 (z := z186) hi_236_197 hz186 ?_
                  refine mm_25 hS182 ma_2 hi_236_198 (by decide) (by omega) (by omega) ?_
                  show am_E _ _ _ _ _ (.int (gx 2 z186.toNatClampNeg) :: _) _ _
                  rw [show gx 2 = g 2 from hx 2 (by decide)]
                  show am_E _ _ _ _ [some (.ref 39), some (.int w), some (.int x2), some (.int 0), some (.int z), some (.int 0)] [.int (g 2 z186.toNatClampNeg), .int 12, .ref 39] _ _
                  refine am_e0 hi_236_199 ?_
                  refine am_e1 (v := 0) hi_236_200 rfl ?_
                  refine am_e12t hi_236_202 (by decide) ?_
                  refine am_e1 (v := z) hi_236_209 rfl ?_
                  refine am_e32n (as := [.ref 39, .int 12, .int (g 2 z186.toNatClampNeg), .int 0, .int z]) (la := [some (.ref 39), some (.int 12), some (.int (g 2 z186.toNatClampNeg)), some (.int 0), some (.int z)]) (rest := []) hi_236_211 (am_hd0 (M := 236) (by decide) 211) (Nat.le_of_ble_eq_true rfl) (Nat.le_of_ble_eq_true rfl) (show 5 ≤ am_P0.2.2.1 189 from by decide +kernel) rfl (am_recv_ok hS182.fs) rfl rfl (ct_put (d := (d + 4)) hS182 hR157  (by show (0 : Int) ≤ (f 32).toInt; omega) (by show (f 32).toInt ≤ (63 : Int); omega) (by show (f 53).toInt ≤ (4096 : Int); omega) (by show (0 : Int) ≤ s.toInt; omega) (by show s.toInt ≤ (65534 : Int); omega)) ?_
                  rintro v187 S188 (⟨z189, r190, g'191, hv192, hS193, hR197, h194, h195, h196⟩)
                  subst hv192
                  have h194_ : z189.toInt = s.toInt + 1 := h194
                  have h195_ : r190.toInt = s.toInt := h195
                  have h196_ : ∀ j, j ∉ [60, 69, 70, 71, 72, 73] → g'191 j = gx j := h196
                  replace hS193 : MS S0 S188 (upd (upd f 4 z145) 68 z189) g'191 := hS193
                  have hR197_ : RJ (upd (upd f 4 z145) 68 z189) g'191 gs bc fl fk (s.toNatClampNeg :: pj) := hR197
                  show am_E _ _ _ _ [some (.ref 39), some (.int w), some (.int x2), some (.int 0), some (.int z), some (.int 0)] [.int r190] _ _
                  refine am_e6i hi_236_214 ?_
                  refine am_e18 hi_236_215 ?_
                  exact ih _ (some (.int 0)) 0 z z145 z189 _ hS193 (RJ.fewer hR197_ (fun j hj => by simp only [List.mem_cons]; simp only [hj, or_true])) (fun j hj => (h196_ j hj).trans (hx j hj)) (by decide) (by show (f 4).toInt ≤ z145.toInt; omega) (by show z145.toInt ≤ (f 0).toInt; omega) (by show (f 68).toInt ≤ z189.toInt; omega) (by show z189.toInt + (f 4).toInt ≤ (f 68).toInt + z145.toInt; omega) (by show (0 : Int) ≤ (0 : Int); omega) (by show (0 : Int) ≤ (1 : Int); omega) (by show (f 0).toInt - z145.toInt < (N : Int); omega)
                · refine am_e13f hi_236_166 (am_cF (m := r180.toInt) (n := (68 : Int)) rfl (by decide) c185) ?_
                  refine am_e0 hi_236_169 ?_
                  refine am_e18 hi_236_170 ?_
                  refine am_e3 (ls' := [some (.ref 39), some (.int w), some (.int x2), some (.int 0), some (.int z), some (.int 1)]) hi_236_174 (Nat.le_of_ble_eq_true rfl) rfl ?_
                  refine am_e2 (v := 39) hi_236_176 rfl ?_
                  refine am_e1 (v := 1) hi_236_177 rfl ?_
                  refine am_e12f hi_236_179 (by decide) ?_
                  refine am_e0 hi_236_182 ?_
                  refine am_e18 hi_236_183 ?_
                  refine am_e2 (v := 39) hi_236_188 rfl ?_
                  refine mm_20 (v := .ref 41) hS182 hi_236_189 rfl ?_
                  refine am_e2 (v := 39) hi_236_192 rfl ?_
                  refine mm_20 (v := .int z145) hS182 hi_236_193 rfl ?_
                  refine am_e0 hi_236_196 ?_
                  obtain ⟨z198, hz198, tz198⟩ := am_subI (x := z145) (y := 1) (m := z145.toInt) (n := (1 : Int)) rfl (by decide) (by omega) (by omega)
                  refine am_e10 (z := z198) hi_236_197 hz198 ?_
                  refine mm_25 hS182 ma_2 hi_236_198 (by decide) (by omega) (by omega) ?_
                  show am_E _ _ _ _ _ (.int (gx 2 z198.toNatClampNeg) :: _) _ _
                  rw [show gx 2 = g 2 from hx 2 (by decide)]
                  show am_E _ _ _ _ [some (.ref 39), some (.int w), some (.int x2), some (.int 0), some (.int z), some (.int 1)] [.int (g 2 z198.toNatClampNeg), .int 5, .ref 39] _ _
                  refine am_e0 hi_236_199 ?_
                  refine am_e1 (v := 1) hi_236_200 rfl ?_
                  refine am_e12f hi_236_202 (by decide) ?_
                  refine am_e0 hi_236_205 ?_
                  refine am_e18 hi_236_206 ?_
                  refine am_e32n (as := [.ref 39, .int 5, .int (g 2 z198.toNatClampNeg), .int 0, .int 0]) (la := [some (.ref 39), some (.int 5), some (.int (g 2 z198.toNatClampNeg)), some (.int 0), some (.int 0)]) (rest := []) hi_236_211 (am_hd0 (M := 236) (by decide) 211) (Nat.le_of_ble_eq_true rfl) (Nat.le_of_ble_eq_true rfl) (show 5 ≤ am_P0.2.2.1 189 from by decide +kernel) rfl (am_recv_ok hS182.fs) rfl rfl (ct_put (d := (d + 4)) hS182 hR157  (by show (0 : Int) ≤ (f 32).toInt; omega) (by show (f 32).toInt ≤ (63 : Int); omega) (by show (f 53).toInt ≤ (4096 : Int); omega) (by show (0 : Int) ≤ s.toInt; omega) (by show s.toInt ≤ (65534 : Int); omega)) ?_
                  rintro v199 S200 (⟨z201, r202, g'203, hv204, hS205, hR209, h206, h207, h208⟩)
                  subst hv204
                  have h206_ : z201.toInt = s.toInt + 1 := h206
                  have h207_ : r202.toInt = s.toInt := h207
                  have h208_ : ∀ j, j ∉ [60, 69, 70, 71, 72, 73] → g'203 j = gx j := h208
                  replace hS205 : MS S0 S200 (upd (upd f 4 z145) 68 z201) g'203 := hS205
                  have hR209_ : RJ (upd (upd f 4 z145) 68 z201) g'203 gs bc fl fk (s.toNatClampNeg :: pj) := hR209
                  show am_E _ _ _ _ [some (.ref 39), some (.int w), some (.int x2), some (.int 0), some (.int z), some (.int 1)] [.int r202] _ _
                  refine am_e6i hi_236_214 ?_
                  refine am_e18 hi_236_215 ?_
                  exact ih _ (some (.int 1)) 0 z z145 z201 _ hS205 (RJ.fewer hR209_ (fun j hj => by simp only [List.mem_cons]; simp only [hj, or_true])) (fun j hj => (h208_ j hj).trans (hx j hj)) (by decide) (by show (f 4).toInt ≤ z145.toInt; omega) (by show z145.toInt ≤ (f 0).toInt; omega) (by show (f 68).toInt ≤ z201.toInt; omega) (by show z201.toInt + (f 4).toInt ≤ (f 68).toInt + z145.toInt; omega) (by show (0 : Int) ≤ (0 : Int); omega) (by show (0 : Int) ≤ (1 : Int); omega) (by show (f 0).toInt - z145.toInt < (N : Int); omega)
            · subst hv153
              have h155_ : (0 : Int) ≤ a151.toInt := h155
              replace hS154 : MS S0 S144 (upd (upd (upd (upd (upd f 4 z139) 6 a151) 7 b152) 10 0) 68 s) gx := hS154
              have hR210 := rj_clear0 hR142
              have hR211 : RJ (upd (upd (upd (upd (upd f 4 z139) 6 a151) 7 b152) 10 0) 68 s) gx [] bc [] 0 [] := hR210
              show am_E _ _ _ _ [some (.ref 39), some (.int w), some (.int x2), some (.int 0), some (.int z), x5] [.int 0] _ _
              refine am_e12f hi_236_143 (by decide) ?_
              exact hx1 _ (some (.int 0)) (some (.int z)) x5 z139 s a151 b152 _ hS154 hR211 hx (by show (f 4).toInt ≤ z139.toInt; omega) (by show z139.toInt ≤ (f 0).toInt; omega) (by show (f 68).toInt ≤ s.toInt; omega) (by show s.toInt + (f 4).toInt ≤ (f 68).toInt + z139.toInt; omega) (by show (0 : Int) ≤ a151.toInt; omega)
          · refine am_e13f hi_236_113 (am_cF (m := r133.toInt) (n := (68 : Int)) rfl (by decide) c138) ?_
            refine am_e0 hi_236_116 ?_
            refine am_e18 hi_236_117 ?_
            refine am_e3 (ls' := [some (.ref 39), some (.int w), some (.int x2), some (.int 1), some (.int p4), x5]) hi_236_121 (Nat.le_of_ble_eq_true rfl) rfl ?_
            refine am_e2 (v := 39) hi_236_122 rfl ?_
            refine mm_20 (v := .int z) hS135 hi_236_123 rfl ?_
            refine am_e3 (ls' := [some (.ref 39), some (.int w), some (.int x2), some (.int 1), some (.int z), x5]) hi_236_126 (Nat.le_of_ble_eq_true rfl) rfl ?_
            refine am_e2 (v := 39) hi_236_128 rfl ?_
            refine am_e7 hi_236_129 ?_
            refine mm_20 (v := .int z) hS135 hi_236_130 rfl ?_
            refine am_e0 hi_236_133 ?_
            obtain ⟨z212, hz212, tz212⟩ := am_addI (x := z) (y := 1) (m := z.toInt) (n := (1 : Int)) rfl (by decide) (by omega) (by omega)
            refine am_e10 (z := z212) hi_236_134 hz212 ?_
            refine mm_21 (v := z212) hS135 hi_236_135 rfl (Nat.le_of_ble_eq_true rfl) ms_4 ?_
            intro S213 hS214
            replace hS214 : MS S0 S213 (upd (upd f 4 z212) 68 s) gx := hS214
            have hR215 : RJ (upd (upd f 4 z212) 68 s) gx gs bc fl fk pj := RJ.at hRl (by show z.toInt ≤ z212.toInt; omega)
            refine am_e2 (v := 39) hi_236_138 rfl ?_
            refine am_e0 hi_236_139 ?_
            refine am_e32n (as := [.ref 39, .int 1]) (la := [some (.ref 39), some (.int 1)]) (rest := []) hi_236_140 (am_hd0 (M := 236) (by decide) 140) (Nat.le_of_ble_eq_true rfl) (Nat.le_of_ble_eq_true rfl) (show 2 ≤ am_P0.2.2.1 200 from by decide +kernel) rfl (am_recv_ok hS214.fs) rfl rfl (ct_take (d := (d + 2)) hS214   (by show (0 : Int) ≤ z212.toInt; omega) (by show (f 0).toInt ≤ (16384 : Int); omega) (by show (0 : Int) ≤ (1 : Int); omega) (by show (0 : Int) ≤ (f 6).toInt; omega)) ?_
            rintro v216 S217 (⟨z218, hv219, hS220, h221, h222⟩ | ⟨a224, b225, hv226, hS227, h228⟩)
            · subst hv219
              have h221_ : z218.toInt = z212.toInt + 1 := h221
              have h222_ : z212.toInt < (f 0).toInt := h222
              replace hS220 : MS S0 S217 (upd (upd f 4 z218) 68 s) gx := hS220
              have hR230 : RJ (upd (upd f 4 z218) 68 s) gx gs bc fl fk pj := RJ.at hR215 (by show z212.toInt ≤ z218.toInt; omega)
              show am_E _ _ _ _ [some (.ref 39), some (.int w), some (.int x2), some (.int 1), some (.int z), x5] [.int 1] _ _
              refine am_e12t hi_236_143 (by decide) ?_
              refine am_e1 (v := 1) hi_236_147 rfl ?_
              refine am_e12t hi_236_148 (by decide) ?_
              refine am_e0 hi_236_169 ?_
              refine am_e18 hi_236_170 ?_
              refine am_e3 (ls' := [some (.ref 39), some (.int w), some (.int x2), some (.int 1), some (.int z), some (.int 1)]) hi_236_174 (Nat.le_of_ble_eq_true rfl) rfl ?_
              refine am_e2 (v := 39) hi_236_176 rfl ?_
              refine am_e1 (v := 1) hi_236_177 rfl ?_
              refine am_e12f hi_236_179 (by decide) ?_
              refine am_e0 hi_236_182 ?_
              refine am_e18 hi_236_183 ?_
              refine am_e2 (v := 39) hi_236_188 rfl ?_
              refine mm_20 (v := .ref 41) hS220 hi_236_189 rfl ?_
              refine am_e2 (v := 39) hi_236_192 rfl ?_
              refine mm_20 (v := .int z218) hS220 hi_236_193 rfl ?_
              refine am_e0 hi_236_196 ?_
              obtain ⟨z231, hz231, tz231⟩ := am_subI (x := z218) (y := 1) (m := z218.toInt) (n := (1 : Int)) rfl (by decide) (by omega) (by omega)
              refine am_e10 (z := z231) hi_236_197 hz231 ?_
              refine mm_25 hS220 ma_2 hi_236_198 (by decide) (by omega) (by omega) ?_
              show am_E _ _ _ _ _ (.int (gx 2 z231.toNatClampNeg) :: _) _ _
              rw [show gx 2 = g 2 from hx 2 (by decide)]
              show am_E _ _ _ _ [some (.ref 39), some (.int w), some (.int x2), some (.int 1), some (.int z), some (.int 1)] [.int (g 2 z231.toNatClampNeg), .int 5, .ref 39] _ _
              refine am_e0 hi_236_199 ?_
              refine am_e1 (v := 1) hi_236_200 rfl ?_
              refine am_e12f hi_236_202 (by decide) ?_
              refine am_e0 hi_236_205 ?_
              refine am_e18 hi_236_206 ?_
              refine am_e32n (as := [.ref 39, .int 5, .int (g 2 z231.toNatClampNeg), .int 0, .int 0]) (la := [some (.ref 39), some (.int 5), some (.int (g 2 z231.toNatClampNeg)), some (.int 0), some (.int 0)]) (rest := []) hi_236_211 (am_hd0 (M := 236) (by decide) 211) (Nat.le_of_ble_eq_true rfl) (Nat.le_of_ble_eq_true rfl) (show 5 ≤ am_P0.2.2.1 189 from by decide +kernel) rfl (am_recv_ok hS220.fs) rfl rfl (ct_put (d := (d + 4)) hS220 hR230  (by show (0 : Int) ≤ (f 32).toInt; omega) (by show (f 32).toInt ≤ (63 : Int); omega) (by show (f 53).toInt ≤ (4096 : Int); omega) (by show (0 : Int) ≤ s.toInt; omega) (by show s.toInt ≤ (65534 : Int); omega)) ?_
              rintro v232 S233 (⟨z234, r235, g'236, hv237, hS238, hR242, h239, h240, h241⟩)
              subst hv237
              have h239_ : z234.toInt = s.toInt + 1 := h239
              have h240_ : r235.toInt = s.toInt := h240
              have h241_ : ∀ j, j ∉ [60, 69, 70, 71, 72, 73] → g'236 j = gx j := h241
              replace hS238 : MS S0 S233 (upd (upd f 4 z218) 68 z234) g'236 := hS238
              have hR242_ : RJ (upd (upd f 4 z218) 68 z234) g'236 gs bc fl fk (s.toNatClampNeg :: pj) := hR242
              show am_E _ _ _ _ [some (.ref 39), some (.int w), some (.int x2), some (.int 1), some (.int z), some (.int 1)] [.int r235] _ _
              refine am_e6i hi_236_214 ?_
              refine am_e18 hi_236_215 ?_
              exact ih _ (some (.int 1)) 1 z z218 z234 _ hS238 (RJ.fewer hR242_ (fun j hj => by simp only [List.mem_cons]; simp only [hj, or_true])) (fun j hj => (h241_ j hj).trans (hx j hj)) (by decide) (by show (f 4).toInt ≤ z218.toInt; omega) (by show z218.toInt ≤ (f 0).toInt; omega) (by show (f 68).toInt ≤ z234.toInt; omega) (by show z234.toInt + (f 4).toInt ≤ (f 68).toInt + z218.toInt; omega) (by show (0 : Int) ≤ (1 : Int); omega) (by show (1 : Int) ≤ (1 : Int); omega) (by show (f 0).toInt - z218.toInt < (N : Int); omega)
            · subst hv226
              have h228_ : (0 : Int) ≤ a224.toInt := h228
              replace hS227 : MS S0 S217 (upd (upd (upd (upd (upd f 4 z212) 6 a224) 7 b225) 10 0) 68 s) gx := hS227
              have hR243 := rj_clear0 hR215
              have hR244 : RJ (upd (upd (upd (upd (upd f 4 z212) 6 a224) 7 b225) 10 0) 68 s) gx [] bc [] 0 [] := hR243
              show am_E _ _ _ _ [some (.ref 39), some (.int w), some (.int x2), some (.int 1), some (.int z), x5] [.int 0] _ _
              refine am_e12f hi_236_143 (by decide) ?_
              exact hx1 _ (some (.int 1)) (some (.int z)) x5 z212 s a224 b225 _ hS227 hR244 hx (by show (f 4).toInt ≤ z212.toInt; omega) (by show z212.toInt ≤ (f 0).toInt; omega) (by show (f 68).toInt ≤ s.toInt; omega) (by show s.toInt + (f 4).toInt ≤ (f 68).toInt + z212.toInt; omega) (by show (0 : Int) ≤ a224.toInt; omega)
theorem fr_local {sc : Nat × (Nat → Int32)} {d : Nat} {S0 : am_S} {f : Nat → Int32} {g : Nat → Nat → Int32} {w : Int32} {k0 : Int32} {gs : List mg_E} {bc : List (List Nat)} {fl : List Nat} {fk : Int} {pj : List Nat} {Q : Option (Option Value) → am_S → Prop} (p0 : (0 : Int) ≤ (f 4).toInt) (p1 : (f 0).toInt ≤ (16384 : Int)) (p2 : (f 4).toInt ≤ (f 0).toInt) (p3 : (f 0).toInt ≤ (512 : Int)) (p4 : (0 : Int) ≤ (f 20).toInt) (p5 : (f 20).toInt ≤ (15000 : Int)) (p6 : (0 : Int) ≤ (f 6).toInt) (p7 : (0 : Int) ≤ (f 8).toInt) (hx0 : ∀ (S : am_S) (x5 : Option Value) (x6 : Option Value) (x7 : Option Value) (m3 c4 a b z q : Int32) (gx : Nat → Nat → Int32), MS S0 S (upd (upd (upd (upd f 4 z) 8 a) 9 b) 20 q) gx → RJ (upd (upd (upd (upd f 4 z) 8 a) 9 b) 20 q) gx gs bc fl fk pj → (∀ j, j ∉ [21, 22, 23] → gx j = g j) → (∀ i : Nat, (i : Int) < (f 20).toInt → gx 23 i = g 23 i) → (∀ i : Nat, (f 20).toInt ≤ (i : Int) → (i : Int) < q.toInt → 0 ≤ (gx 23 i).toInt ∧ (gx 23 i).toInt < 16384) → ((f 4).toInt ≤ z.toInt) → (z.toInt ≤ (f 0).toInt) → ((f 20).toInt ≤ q.toInt) → (q.toInt + (f 4).toInt ≤ (f 20).toInt + z.toInt) → ((0 : Int) ≤ a.toInt) → am_E (am_PP sc) (d + 5) 238 300 [some (.ref 39), some (.int w), some (.int k0), some (.int m3), some (.int c4), x5, x6, x7] [] S Q) (hx1 : ∀ (S : am_S) (x3 : Option Value) (x4 : Option Value) (x5 : Option Value) (x6 : Option Value) (x7 : Option Value) (a b z q u_ v_ : Int32) (gx : Nat → Nat → Int32), MS S0 S (upd (upd (upd (upd (upd (upd (upd f 4 z) 6 u_) 7 v_) 8 a) 9 b) 10 0) 20 q) gx → RJ (upd (upd (upd (upd (upd (upd (upd f 4 z) 6 u_) 7 v_) 8 a) 9 b) 10 0) 20 q) gx [] bc [] 0 [] → (∀ j, j ∉ [21, 22, 23] → gx j = g j) → ((f 4).toInt ≤ z.toInt) → (z.toInt ≤ (f 0).toInt) → ((f 20).toInt ≤ q.toInt) → (q.toInt + (f 4).toInt ≤ (f 20).toInt + z.toInt) → ((0 : Int) ≤ u_.toInt) → ((0 : Int) ≤ a.toInt) → am_E (am_PP sc) (d + 5) 238 131 [some (.ref 39), some (.int w), some (.int k0), x3, x4, x5, x6, x7] [] S Q) (hx2 : ∀ (S : am_S) (x3 : Option Value) (x4 : Option Value) (x5 : Option Value) (x6 : Option Value) (x7 : Option Value) (a b z q u_ v_ : Int32) (gx : Nat → Nat → Int32), MS S0 S (upd (upd (upd (upd (upd (upd (upd f 4 z) 6 u_) 7 v_) 8 a) 9 b) 10 0) 20 q) gx → RJ (upd (upd (upd (upd (upd (upd (upd f 4 z) 6 u_) 7 v_) 8 a) 9 b) 10 0) 20 q) gx [] bc [] 0 [] → (∀ j, j ∉ [21, 22, 23] → gx j = g j) → ((f 4).toInt ≤ z.toInt) → (z.toInt ≤ (f 0).toInt) → ((f 20).toInt ≤ q.toInt) → (q.toInt + (f 4).toInt ≤ (f 20).toInt + z.toInt) → ((0 : Int) ≤ u_.toInt) → ((0 : Int) ≤ a.toInt) → am_E (am_PP sc) (d + 5) 238 177 [some (.ref 39), some (.int w), some (.int k0), x3, x4, x5, x6, x7] [] S Q) : ∀ (N : Nat) (S : am_S) (x5 : Option Value) (x6 : Option Value) (x7 : Option Value) (m3 c4 a b z q : Int32) (gx : Nat → Nat → Int32), MS S0 S (upd (upd (upd (upd f 4 z) 8 a) 9 b) 20 q) gx → RJ (upd (upd (upd (upd f 4 z) 8 a) 9 b) 20 q) gx gs bc fl fk pj → (∀ j, j ∉ [21, 22, 23] → gx j = g j) → (∀ i : Nat, (i : Int) < (f 20).toInt → gx 23 i = g 23 i) → (∀ i : Nat, (f 20).toInt ≤ (i : Int) → (i : Int) < q.toInt → 0 ≤ (gx 23 i).toInt ∧ (gx 23 i).toInt < 16384) → ((f 4).toInt ≤ z.toInt) → (z.toInt ≤ (f 0).toInt) → ((f 20).toInt ≤ q.toInt) → (q.toInt + (f 4).toInt ≤ (f 20).toInt + z.toInt) → ((0 : Int) ≤ m3.toInt) → (m3.toInt ≤ (1 : Int)) → ((0 : Int) ≤ a.toInt) → 2 * ((f 0).toInt - z.toInt) + m3.toInt < (N : Int) → am_E (am_PP sc) (d + 5) 238 113 [some (.ref 39), some (.int w), some (.int k0), some (.int m3), some (.int c4), x5, x6, x7] [] S Q := by
  intro N
  induction N with
  | zero =>
    intro S x5 x6 x7 m3 c4 a b z q gx hS hRl hx hA hB i0 i1 i2 i3 i4 i5 i6 hN
    exfalso
    omega
  | succ N ih =>
    intro S x5 x6 x7 m3 c4 a b z q gx hS hRl hx hA hB i0 i1 i2 i3 i4 i5 i6 hN
    refine am_e1 (v := m3) hi_238_113 rfl ?_
    by_cases c0 : m3.toInt = (0 : Int)
    · refine am_e12t hi_238_114 (am_cT (m := m3.toInt) (n := (0 : Int)) rfl (by decide) c0) ?_
      exact hx0 _ x5 x6 x7 m3 c4 a b z q _ hS hRl hx hA hB (by show (f 4).toInt ≤ z.toInt; omega) (by show z.toInt ≤ (f 0).toInt; omega) (by show (f 20).toInt ≤ q.toInt; omega) (by show q.toInt + (f 4).toInt ≤ (f 20).toInt + z.toInt; omega) (by show (0 : Int) ≤ a.toInt; omega)
    · refine am_e12f hi_238_114 (am_cF (m := m3.toInt) (n := (0 : Int)) rfl (by decide) c0) ?_
      refine am_e2 (v := 39) hi_238_117 rfl ?_
      refine mm_20 (v := .int z) hS hi_238_118 rfl ?_
      refine am_e3 (ls' := [some (.ref 39), some (.int w), some (.int k0), some (.int m3), some (.int c4), some (.int z), x6, x7]) hi_238_121 (Nat.le_of_ble_eq_true rfl) rfl ?_
      refine am_e2 (v := 39) hi_238_123 rfl ?_
      refine am_e0 hi_238_124 ?_
      refine am_e32n (as := [.ref 39, .int 1]) (la := [some (.ref 39), some (.int 1)]) (rest := []) hi_238_125 (am_hd0 (M := 238) (by decide) 125) (Nat.le_of_ble_eq_true rfl) (Nat.le_of_ble_eq_true rfl) (show 2 ≤ am_P0.2.2.1 200 from by decide +kernel) rfl (am_recv_ok hS.fs) rfl rfl (ct_take (d := (d + 2)) hS   (by show (0 : Int) ≤ z.toInt; omega) (by show (f 0).toInt ≤ (16384 : Int); omega) (by show (0 : Int) ≤ (1 : Int); omega) (by show (0 : Int) ≤ (f 6).toInt; omega)) ?_
      rintro v1 S2 (⟨z3, hv4, hS5, h6, h7⟩ | ⟨a9, b10, hv11, hS12, h13⟩)
      · subst hv4
        have h6_ : z3.toInt = z.toInt + 1 := h6
        have h7_ : z.toInt < (f 0).toInt := h7
        replace hS5 : MS S0 S2 (upd (upd (upd (upd f 4 z3) 8 a) 9 b) 20 q) gx := hS5
        have hR15 : RJ (upd (upd (upd (upd f 4 z3) 8 a) 9 b) 20 q) gx gs bc fl fk pj := RJ.at hRl (by show z.toInt ≤ z3.toInt; omega)
        show am_E _ _ _ _ [some (.ref 39), some (.int w), some (.int k0), some (.int m3), some (.int c4), some (.int z), x6, x7] [.int 1] _ _
        refine am_e12t hi_238_128 (by decide) ?_
        refine am_e0 hi_238_132 ?_
        refine am_e3 (ls' := [some (.ref 39), some (.int w), some (.int k0), some (.int m3), some (.int c4), some (.int z), some (.int 0), x7]) hi_238_133 (Nat.le_of_ble_eq_true rfl) rfl ?_
        refine am_e2 (v := 39) hi_238_135 rfl ?_
        refine am_e32n (as := [.ref 39]) (la := [some (.ref 39)]) (rest := []) hi_238_136 (am_hd0 (M := 238) (by decide) 136) (Nat.le_of_ble_eq_true rfl) (Nat.le_of_ble_eq_true rfl) (show 1 ≤ am_P0.2.2.1 183 from by decide +kernel) rfl (am_recv_ok hS5.fs) rfl rfl (ct_next (d := (d + 3)) hS5   (by show (0 : Int) ≤ z3.toInt; omega) (by show (f 0).toInt ≤ (16384 : Int); omega)) ?_
        rintro v16 S17 (⟨r18, hv19, hS20, h21⟩)
        subst hv19
        have h21_ : z3.toInt < (f 0).toInt ∨ r18.toInt = (-1 : Int) := h21
        show am_E _ _ _ _ [some (.ref 39), some (.int w), some (.int k0), some (.int m3), some (.int c4), some (.int z), some (.int 0), x7] [.int r18] _ _
        refine am_e0 hi_238_139 ?_
        by_cases c23 : ¬ r18.toInt = (57 : Int)
        · refine am_e13t hi_238_141 (am_cT (m := r18.toInt) (n := (57 : Int)) rfl (by decide) c23) ?_
          refine am_e2 (v := 39) hi_238_255 rfl ?_
          refine am_e1 (v := 0) hi_238_256 rfl ?_
          refine am_e0 hi_238_258 ?_
          refine am_e1 (v := z) hi_238_259 rfl ?_
          refine am_e32n (as := [.ref 39, .int 0, .int 0, .int z]) (la := [some (.ref 39), some (.int 0), some (.int 0), some (.int z)]) (rest := []) hi_238_261 (am_hd0 (M := 238) (by decide) 261) (Nat.le_of_ble_eq_true rfl) (Nat.le_of_ble_eq_true rfl) (show 4 ≤ am_P0.2.2.1 239 from by decide +kernel) rfl (am_recv_ok hS20.fs) rfl rfl (ct_keep2 (d := (d + 4)) hS20 hR15  (by show (0 : Int) ≤ q.toInt; omega) (by show q.toInt ≤ (16383 : Int); omega)) ?_
          rintro v24 S25 (⟨z26, g'27, hv28, hS29, hR33, h30, h31, h32⟩)
          subst hv28
          have h30_ : z26.toInt = q.toInt + 1 := h30
          have h31_ : ∀ j, j ∉ [21, 22, 23] → g'27 j = gx j := h31
          have h32_ : g'27 23 = upd (gx 23) q.toNatClampNeg z := h32
          replace hS29 : MS S0 S25 (upd (upd (upd (upd f 4 z3) 8 a) 9 b) 20 z26) g'27 := hS29
          have hR33_ : RJ (upd (upd (upd (upd f 4 z3) 8 a) 9 b) 20 z26) g'27 gs bc fl fk pj := hR33
          show am_E _ _ _ _ [some (.ref 39), some (.int w), some (.int k0), some (.int m3), some (.int c4), some (.int z), some (.int 0), x7] [] _ _
          refine am_e2 (v := 39) hi_238_264 rfl ?_
          refine am_e32n (as := [.ref 39]) (la := [some (.ref 39)]) (rest := []) hi_238_265 (am_hd0 (M := 238) (by decide) 265) (Nat.le_of_ble_eq_true rfl) (Nat.le_of_ble_eq_true rfl) (show 1 ≤ am_P0.2.2.1 183 from by decide +kernel) rfl (am_recv_ok hS29.fs) rfl rfl (ct_next (d := (d + 3)) hS29   (by show (0 : Int) ≤ z3.toInt; omega) (by show (f 0).toInt ≤ (16384 : Int); omega)) ?_
          rintro v34 S35 (⟨r36, hv37, hS38, h39⟩)
          subst hv37
          have h39_ : z3.toInt < (f 0).toInt ∨ r36.toInt = (-1 : Int) := h39
          show am_E _ _ _ _ [some (.ref 39), some (.int w), some (.int k0), some (.int m3), some (.int c4), some (.int z), some (.int 0), x7] [.int r36] _ _
          refine am_e0 hi_238_268 ?_
          by_cases c41 : ¬ r36.toInt = (69 : Int)
          · refine am_e13t hi_238_270 (am_cT (m := r36.toInt) (n := (69 : Int)) rfl (by decide) c41) ?_
            refine am_e0 hi_238_277 ?_
            refine am_e3 (ls' := [some (.ref 39), some (.int w), some (.int k0), some (.int 0), some (.int c4), some (.int z), some (.int 0), x7]) hi_238_278 (Nat.le_of_ble_eq_true rfl) rfl ?_
            refine am_e2 (v := 39) hi_238_279 rfl ?_
            refine am_e7 hi_238_280 ?_
            refine mm_20 (v := .int z3) hS38 hi_238_281 rfl ?_
            refine am_e1 (v := 0) hi_238_284 rfl ?_
            refine am_e12t hi_238_285 (by decide) ?_
            refine am_e0 hi_238_292 ?_
            obtain ⟨z42, hz42, tz42⟩ := am_addI (x := z3) (y := 0) (m := z3.toInt) (n := (0 : Int)) rfl (by decide) (by omega) (by omega)
            refine am_e10 (z := z42) hi_238_293 hz42 ?_
            refine mm_21 (v := z42) hS38 hi_238_294 rfl (Nat.le_of_ble_eq_true rfl) ms_4 ?_
            intro S43 hS44
            replace hS44 : MS S0 S43 (upd (upd (upd (upd f 4 z42) 8 a) 9 b) 20 z26) g'27 := hS44
            have hR45 : RJ (upd (upd (upd (upd f 4 z42) 8 a) 9 b) 20 z26) g'27 gs bc fl fk pj := RJ.at hR33_ (by show z3.toInt ≤ z42.toInt; omega)
            refine am_e18 hi_238_297 ?_
            exact ih _ (some (.int z)) (some (.int 0)) x7 0 c4 a b z42 z26 _ hS44 hR45 (fun j hj => (h31_ j hj).trans (hx j hj)) (by show ∀ i : Nat, (i : Int) < (f 20).toInt → g'27 23 i = g 23 i; rw [h32_]; exact ww_below (by omega) hA) (by show ∀ i : Nat, (f 20).toInt ≤ (i : Int) → (i : Int) < z26.toInt → 0 ≤ (g'27 23 i).toInt ∧ (g'27 23 i).toInt < 16384; rw [h32_]; exact ww_keep (by omega) ⟨by omega, by omega⟩ hB (by omega)) (by show (f 4).toInt ≤ z42.toInt; omega) (by show z42.toInt ≤ (f 0).toInt; omega) (by show (f 20).toInt ≤ z26.toInt; omega) (by show z26.toInt + (f 4).toInt ≤ (f 20).toInt + z42.toInt; omega) (by show (0 : Int) ≤ (0 : Int); omega) (by show (0 : Int) ≤ (1 : Int); omega) (by show (0 : Int) ≤ a.toInt; omega) (by show 2 * ((f 0).toInt - z42.toInt) + (0 : Int) < (N : Int); omega)
          · refine am_e13f hi_238_270 (am_cF (m := r36.toInt) (n := (69 : Int)) rfl (by decide) c41) ?_
            refine am_e0 hi_238_273 ?_
            refine am_e18 hi_238_274 ?_
            refine am_e3 (ls' := [some (.ref 39), some (.int w), some (.int k0), some (.int 1), some (.int c4), some (.int z), some (.int 0), x7]) hi_238_278 (Nat.le_of_ble_eq_true rfl) rfl ?_
            refine am_e2 (v := 39) hi_238_279 rfl ?_
            refine am_e7 hi_238_280 ?_
            refine mm_20 (v := .int z3) hS38 hi_238_281 rfl ?_
            refine am_e1 (v := 1) hi_238_284 rfl ?_
            refine am_e12f hi_238_285 (by decide) ?_
            refine am_e0 hi_238_288 ?_
            refine am_e18 hi_238_289 ?_
            obtain ⟨z46, hz46, tz46⟩ := am_addI (x := z3) (y := 1) (m := z3.toInt) (n := (1 : Int)) rfl (by decide) (by omega) (by omega)
            refine am_e10 (z := z46) hi_238_293 hz46 ?_
            refine mm_21 (v := z46) hS38 hi_238_294 rfl (Nat.le_of_ble_eq_true rfl) ms_4 ?_
            intro S47 hS48
            replace hS48 : MS S0 S47 (upd (upd (upd (upd f 4 z46) 8 a) 9 b) 20 z26) g'27 := hS48
            have hR49 : RJ (upd (upd (upd (upd f 4 z46) 8 a) 9 b) 20 z26) g'27 gs bc fl fk pj := RJ.at hR33_ (by show z3.toInt ≤ z46.toInt; omega)
            refine am_e18 hi_238_297 ?_
            exact ih _ (some (.int z)) (some (.int 0)) x7 1 c4 a b z46 z26 _ hS48 hR49 (fun j hj => (h31_ j hj).trans (hx j hj)) (by show ∀ i : Nat, (i : Int) < (f 20).toInt → g'27 23 i = g 23 i; rw [h32_]; exact ww_below (by omega) hA) (by show ∀ i : Nat, (f 20).toInt ≤ (i : Int) → (i : Int) < z26.toInt → 0 ≤ (g'27 23 i).toInt ∧ (g'27 23 i).toInt < 16384; rw [h32_]; exact ww_keep (by omega) ⟨by omega, by omega⟩ hB (by omega)) (by show (f 4).toInt ≤ z46.toInt; omega) (by show z46.toInt ≤ (f 0).toInt; omega) (by show (f 20).toInt ≤ z26.toInt; omega) (by show z26.toInt + (f 4).toInt ≤ (f 20).toInt + z46.toInt; omega) (by show (0 : Int) ≤ (1 : Int); omega) (by show (1 : Int) ≤ (1 : Int); omega) (by show (0 : Int) ≤ a.toInt; omega) (by show 2 * ((f 0).toInt - z46.toInt) + (1 : Int) < (N : Int); omega)
        · refine am_e13f hi_238_141 (am_cF (m := r18.toInt) (n := (57 : Int)) rfl (by decide) c23) ?_
          refine am_e2 (v := 39) hi_238_144 rfl ?_
          refine am_e7 hi_238_145 ?_
          refine mm_20 (v := .int z3) hS20 hi_238_146 rfl ?_
          refine am_e0 hi_238_149 ?_
          obtain ⟨z50, hz50, tz50⟩ := am_addI (x := z3) (y := 1) (m := z3.toInt) (n := (1 : Int)) rfl (by decide) (by omega) (by omega)
          refine am_e10 (z := z50) hi_238_150 hz50 ?_
          refine mm_21 (v := z50) hS20 hi_238_151 rfl (Nat.le_of_ble_eq_true rfl) ms_4 ?_
          intro S51 hS52
          replace hS52 : MS S0 S51 (upd (upd (upd (upd f 4 z50) 8 a) 9 b) 20 q) gx := hS52
          have hR53 : RJ (upd (upd (upd (upd f 4 z50) 8 a) 9 b) 20 q) gx gs bc fl fk pj := RJ.at hR15 (by show z3.toInt ≤ z50.toInt; omega)
          refine am_e2 (v := 39) hi_238_154 rfl ?_
          refine mm_20 (v := .int z50) hS52 hi_238_155 rfl ?_
          refine am_e3 (ls' := [some (.ref 39), some (.int w), some (.int k0), some (.int m3), some (.int c4), some (.int z), some (.int 0), some (.int z50)]) hi_238_158 (Nat.le_of_ble_eq_true rfl) rfl ?_
          refine am_e2 (v := 39) hi_238_160 rfl ?_
          refine am_e0 hi_238_161 ?_
          refine am_e32n (as := [.ref 39, .int 1]) (la := [some (.ref 39), some (.int 1)]) (rest := []) hi_238_162 (am_hd0 (M := 238) (by decide) 162) (Nat.le_of_ble_eq_true rfl) (Nat.le_of_ble_eq_true rfl) (show 2 ≤ am_P0.2.2.1 200 from by decide +kernel) rfl (am_recv_ok hS52.fs) rfl rfl (ct_take (d := (d + 2)) hS52   (by show (0 : Int) ≤ z50.toInt; omega) (by show (f 0).toInt ≤ (16384 : Int); omega) (by show (0 : Int) ≤ (1 : Int); omega) (by show (0 : Int) ≤ (f 6).toInt; omega)) ?_
          rintro v54 S55 (⟨z56, hv57, hS58, h59, h60⟩ | ⟨a62, b63, hv64, hS65, h66⟩)
          · subst hv57
            have h59_ : z56.toInt = z50.toInt + 1 := h59
            have h60_ : z50.toInt < (f 0).toInt := h60
            replace hS58 : MS S0 S55 (upd (upd (upd (upd f 4 z56) 8 a) 9 b) 20 q) gx := hS58
            have hR68 : RJ (upd (upd (upd (upd f 4 z56) 8 a) 9 b) 20 q) gx gs bc fl fk pj := RJ.at hR53 (by show z50.toInt ≤ z56.toInt; omega)
            show am_E _ _ _ _ [some (.ref 39), some (.int w), some (.int k0), some (.int m3), some (.int c4), some (.int z), some (.int 0), some (.int z50)] [.int 1] _ _
            refine am_e12f hi_238_165 (by decide) ?_
            refine am_e2 (v := 39) hi_238_168 rfl ?_
            refine am_e0 hi_238_169 ?_
            refine am_e32n (as := [.ref 39, .int 58]) (la := [some (.ref 39), some (.int 58)]) (rest := []) hi_238_171 (am_hd0 (M := 238) (by decide) 171) (Nat.le_of_ble_eq_true rfl) (Nat.le_of_ble_eq_true rfl) (show 2 ≤ am_P0.2.2.1 200 from by decide +kernel) rfl (am_recv_ok hS58.fs) rfl rfl (ct_take (d := (d + 2)) hS58   (by show (0 : Int) ≤ z56.toInt; omega) (by show (f 0).toInt ≤ (16384 : Int); omega) (by show (0 : Int) ≤ (58 : Int); omega) (by show (0 : Int) ≤ (f 6).toInt; omega)) ?_
            rintro v69 S70 (⟨z71, hv72, hS73, h74, h75⟩ | ⟨a77, b78, hv79, hS80, h81⟩)
            · subst hv72
              have h74_ : z71.toInt = z56.toInt + 1 := h74
              have h75_ : z56.toInt < (f 0).toInt := h75
              replace hS73 : MS S0 S70 (upd (upd (upd (upd f 4 z71) 8 a) 9 b) 20 q) gx := hS73
              have hR83 : RJ (upd (upd (upd (upd f 4 z71) 8 a) 9 b) 20 q) gx gs bc fl fk pj := RJ.at hR68 (by show z56.toInt ≤ z71.toInt; omega)
              show am_E _ _ _ _ [some (.ref 39), some (.int w), some (.int k0), some (.int m3), some (.int c4), some (.int z), some (.int 0), some (.int z50)] [.int 1] _ _
              refine am_e12t hi_238_174 (by decide) ?_
              refine am_e2 (v := 39) hi_238_178 rfl ?_
              refine mm_20 (v := .ref 41) hS73 hi_238_179 rfl ?_
              refine am_e1 (v := z50) hi_238_182 rfl ?_
              refine mm_25 hS73 ma_2 hi_238_184 (by decide) (by omega) (by omega) ?_
              show am_E _ _ _ _ _ (.int (gx 2 z50.toNatClampNeg) :: _) _ _
              rw [show gx 2 = g 2 from hx 2 (by decide)]
              show am_E _ _ _ _ [some (.ref 39), some (.int w), some (.int k0), some (.int m3), some (.int c4), some (.int z), some (.int 0), some (.int z50)] [.int (g 2 z50.toNatClampNeg)] _ _
              refine am_e0 hi_238_185 ?_
              by_cases c84 : ¬ (g 2 z50.toNatClampNeg).toInt = (-2 : Int)
              · refine am_e13t hi_238_187 (am_cT (m := (g 2 z50.toNatClampNeg).toInt) (n := (-2 : Int)) rfl (by decide) c84) ?_
                refine am_e2 (v := 39) hi_238_194 rfl ?_
                refine mm_20 (v := .ref 41) hS73 hi_238_195 rfl ?_
                refine am_e1 (v := z50) hi_238_198 rfl ?_
                refine mm_25 hS73 ma_2 hi_238_200 (by decide) (by omega) (by omega) ?_
                show am_E _ _ _ _ _ (.int (gx 2 z50.toNatClampNeg) :: _) _ _
                rw [show gx 2 = g 2 from hx 2 (by decide)]
                show am_E _ _ _ _ [some (.ref 39), some (.int w), some (.int k0), some (.int m3), some (.int c4), some (.int z), some (.int 0), some (.int z50)] [.int (g 2 z50.toNatClampNeg)] _ _
                refine am_e0 hi_238_201 ?_
                by_cases c85 : ¬ (g 2 z50.toNatClampNeg).toInt = (-3 : Int)
                · refine am_e13t hi_238_203 (am_cT (m := (g 2 z50.toNatClampNeg).toInt) (n := (-3 : Int)) rfl (by decide) c85) ?_
                  refine am_e0 hi_238_210 ?_
                  refine am_e3 (ls' := [some (.ref 39), some (.int w), some (.int k0), some (.int m3), some (.int c4), some (.int z), some (.int 0), some (.int z50)]) hi_238_211 (Nat.le_of_ble_eq_true rfl) rfl ?_
                  refine am_e1 (v := 0) hi_238_213 rfl ?_
                  refine am_e12t hi_238_215 (by decide) ?_
                  refine am_e2 (v := 39) hi_238_229 rfl ?_
                  refine am_e0 hi_238_230 ?_
                  refine am_e1 (v := z50) hi_238_232 rfl ?_
                  refine am_e32n (as := [.ref 39, .int 9, .int z50]) (la := [some (.ref 39), some (.int 9), some (.int z50)]) (rest := []) hi_238_234 (am_hd0 (M := 238) (by decide) 234) (Nat.le_of_ble_eq_true rfl) (Nat.le_of_ble_eq_true rfl) (show 3 ≤ am_P0.2.2.1 191 from by decide +kernel) rfl (am_recv_ok hS73.fs) rfl rfl (ct_failName (d := (d + 4)) hS73   (by show (0 : Int) ≤ (9 : Int); omega) (by show (0 : Int) ≤ a.toInt; omega)) ?_
                  rintro v86 S87 (⟨a88, b89, hv90, hS91, h92⟩)
                  subst hv90
                  have h92_ : (0 : Int) ≤ a88.toInt := h92
                  replace hS91 : MS S0 S87 (upd (upd (upd (upd f 4 z71) 8 a88) 9 b89) 20 q) gx := hS91
                  show am_E _ _ _ _ [some (.ref 39), some (.int w), some (.int k0), some (.int m3), some (.int c4), some (.int z), some (.int 0), some (.int z50)] [] _ _
                  refine am_e1 (v := c4) hi_238_237 rfl ?_
                  by_cases c94 : ¬ c4.toInt = (0 : Int)
                  · refine am_e12t hi_238_239 (am_cT (m := c4.toInt) (n := (0 : Int)) rfl (by decide) c94) ?_
                    refine am_e0 hi_238_248 ?_
                    refine am_e18 hi_238_249 ?_
                    refine am_e3 (ls' := [some (.ref 39), some (.int w), some (.int k0), some (.int m3), some (.int 1), some (.int z), some (.int 0), some (.int z50)]) hi_238_253 (Nat.le_of_ble_eq_true rfl) rfl ?_
                    refine am_e2 (v := 39) hi_238_255 rfl ?_
                    refine am_e1 (v := 0) hi_238_256 rfl ?_
                    refine am_e0 hi_238_258 ?_
                    refine am_e1 (v := z) hi_238_259 rfl ?_
                    refine am_e32n (as := [.ref 39, .int 0, .int 0, .int z]) (la := [some (.ref 39), some (.int 0), some (.int 0), some (.int z)]) (rest := []) hi_238_261 (am_hd0 (M := 238) (by decide) 261) (Nat.le_of_ble_eq_true rfl) (Nat.le_of_ble_eq_true rfl) (show 4 ≤ am_P0.2.2.1 239 from by decide +kernel) rfl (am_recv_ok hS91.fs) rfl rfl (ct_keep2 (d := (d + 4)) hS91 hR83  (by show (0 : Int) ≤ q.toInt; omega) (by show q.toInt ≤ (16383 : Int); omega)) ?_
                    rintro v95 S96 (⟨z97, g'98, hv99, hS100, hR104, h101, h102, h103⟩)
                    subst hv99
                    have h101_ : z97.toInt = q.toInt + 1 := h101
                    have h102_ : ∀ j, j ∉ [21, 22, 23] → g'98 j = gx j := h102
                    have h103_ : g'98 23 = upd (gx 23) q.toNatClampNeg z := h103
                    replace hS100 : MS S0 S96 (upd (upd (upd (upd f 4 z71) 8 a88) 9 b89) 20 z97) g'98 := hS100
                    have hR104_ : RJ (upd (upd (upd (upd f 4 z71) 8 a88) 9 b89) 20 z97) g'98 gs bc fl fk pj := hR104
                    show am_E _ _ _ _ [some (.ref 39), some (.int w), some (.int k0), some (.int m3), some (.int 1), some (.int z), some (.int 0), some (.int z50)] [] _ _
                    refine am_e2 (v := 39) hi_238_264 rfl ?_
                    refine am_e32n (as := [.ref 39]) (la := [some (.ref 39)]) (rest := []) hi_238_265 (am_hd0 (M := 238) (by decide) 265) (Nat.le_of_ble_eq_true rfl) (Nat.le_of_ble_eq_true rfl) (show 1 ≤ am_P0.2.2.1 183 from by decide +kernel) rfl (am_recv_ok hS100.fs) rfl rfl (ct_next (d := (d + 3)) hS100   (by show (0 : Int) ≤ z71.toInt; omega) (by show (f 0).toInt ≤ (16384 : Int); omega)) ?_
                    rintro v105 S106 (⟨r107, hv108, hS109, h110⟩)
                    subst hv108
                    have h110_ : z71.toInt < (f 0).toInt ∨ r107.toInt = (-1 : Int) := h110
                    show am_E _ _ _ _ [some (.ref 39), some (.int w), some (.int k0), some (.int m3), some (.int 1), some (.int z), some (.int 0), some (.int z50)] [.int r107] _ _
                    refine am_e0 hi_238_268 ?_
                    by_cases c112 : ¬ r107.toInt = (69 : Int)
                    · refine am_e13t hi_238_270 (am_cT (m := r107.toInt) (n := (69 : Int)) rfl (by decide) c112) ?_
                      refine am_e0 hi_238_277 ?_
                      refine am_e3 (ls' := [some (.ref 39), some (.int w), some (.int k0), some (.int 0), some (.int 1), some (.int z), some (.int 0), some (.int z50)]) hi_238_278 (Nat.le_of_ble_eq_true rfl) rfl ?_
                      refine am_e2 (v := 39) hi_238_279 rfl ?_
                      refine am_e7 hi_238_280 ?_
                      refine mm_20 (v := .int z71) hS109 hi_238_281 rfl ?_
                      refine am_e1 (v := 0) hi_238_284 rfl ?_
                      refine am_e12t hi_238_285 (by decide) ?_
                      refine am_e0 hi_238_292 ?_
                      obtain ⟨z113, hz113, tz113⟩ := am_addI (x := z71) (y := 0) (m := z71.toInt) (n := (0 : Int)) rfl (by decide) (by omega) (by omega)
                      refine am_e10 (z := z113) hi_238_293 hz113 ?_
                      refine mm_21 (v := z113) hS109 hi_238_294 rfl (Nat.le_of_ble_eq_true rfl) ms_4 ?_
                      intro S114 hS115
                      replace hS115 : MS S0 S114 (upd (upd (upd (upd f 4 z113) 8 a88) 9 b89) 20 z97) g'98 := hS115
                      have hR116 : RJ (upd (upd (upd (upd f 4 z113) 8 a88) 9 b89) 20 z97) g'98 gs bc fl fk pj := RJ.at hR104_ (by show z71.toInt ≤ z113.toInt; omega)
                      refine am_e18 hi_238_297 ?_
                      exact ih _ (some (.int z)) (some (.int 0)) (some (.int z50)) 0 1 a88 b89 z113 z97 _ hS115 hR116 (fun j hj => (h102_ j hj).trans (hx j hj)) (by show ∀ i : Nat, (i : Int) < (f 20).toInt → g'98 23 i = g 23 i; rw [h103_]; exact ww_below (by omega) hA) (by show ∀ i : Nat, (f 20).toInt ≤ (i : Int) → (i : Int) < z97.toInt → 0 ≤ (g'98 23 i).toInt ∧ (g'98 23 i).toInt < 16384; rw [h103_]; exact ww_keep (by omega) ⟨by omega, by omega⟩ hB (by omega)) (by show (f 4).toInt ≤ z113.toInt; omega) (by show z113.toInt ≤ (f 0).toInt; omega) (by show (f 20).toInt ≤ z97.toInt; omega) (by show z97.toInt + (f 4).toInt ≤ (f 20).toInt + z113.toInt; omega) (by show (0 : Int) ≤ (0 : Int); omega) (by show (0 : Int) ≤ (1 : Int); omega) (by show (0 : Int) ≤ a88.toInt; omega) (by show 2 * ((f 0).toInt - z113.toInt) + (0 : Int) < (N : Int); omega)
                    · refine am_e13f hi_238_270 (am_cF (m := r107.toInt) (n := (69 : Int)) rfl (by decide) c112) ?_
                      refine am_e0 hi_238_273 ?_
                      refine am_e18 hi_238_274 ?_
                      refine am_e3 (ls' := [some (.ref 39), some (.int w), some (.int k0), some (.int 1), some (.int 1), some (.int z), some (.int 0), some (.int z50)]) hi_238_278 (Nat.le_of_ble_eq_true rfl) rfl ?_
                      refine am_e2 (v := 39) hi_238_279 rfl ?_
                      refine am_e7 hi_238_280 ?_
                      refine mm_20 (v := .int z71) hS109 hi_238_281 rfl ?_
                      refine am_e1 (v := 1) hi_238_284 rfl ?_
                      refine am_e12f hi_238_285 (by decide) ?_
                      refine am_e0 hi_238_288 ?_
                      refine am_e18 hi_238_289 ?_
                      obtain ⟨z117, hz117, tz117⟩ := am_addI (x := z71) (y := 1) (m := z71.toInt) (n := (1 : Int)) rfl (by decide) (by omega) (by omega)
                      refine am_e10 (z := z117) hi_238_293 hz117 ?_
                      refine mm_21 (v := z117) hS109 hi_238_294 rfl (Nat.le_of_ble_eq_true rfl) ms_4 ?_
                      intro S118 hS119
                      replace hS119 : MS S0 S118 (upd (upd (upd (upd f 4 z117) 8 a88) 9 b89) 20 z97) g'98 := hS119
                      have hR120 : RJ (upd (upd (upd (upd f 4 z117) 8 a88) 9 b89) 20 z97) g'98 gs bc fl fk pj := RJ.at hR104_ (by show z71.toInt ≤ z117.toInt; omega)
                      refine am_e18 hi_238_297 ?_
                      exact ih _ (some (.int z)) (some (.int 0)) (some (.int z50)) 1 1 a88 b89 z117 z97 _ hS119 hR120 (fun j hj => (h102_ j hj).trans (hx j hj)) (by show ∀ i : Nat, (i : Int) < (f 20).toInt → g'98 23 i = g 23 i; rw [h103_]; exact ww_below (by omega) hA) (by show ∀ i : Nat, (f 20).toInt ≤ (i : Int) → (i : Int) < z97.toInt → 0 ≤ (g'98 23 i).toInt ∧ (g'98 23 i).toInt < 16384; rw [h103_]; exact ww_keep (by omega) ⟨by omega, by omega⟩ hB (by omega)) (by show (f 4).toInt ≤ z117.toInt; omega) (by show z117.toInt ≤ (f 0).toInt; omega) (by show (f 20).toInt ≤ z97.toInt; omega) (by show z97.toInt + (f 4).toInt ≤ (f 20).toInt + z117.toInt; omega) (by show (0 : Int) ≤ (1 : Int); omega) (by show (1 : Int) ≤ (1 : Int); omega) (by show (0 : Int) ≤ a88.toInt; omega) (by show 2 * ((f 0).toInt - z117.toInt) + (1 : Int) < (N : Int); omega)
                  · refine am_e12f hi_238_239 (am_cF (m := c4.toInt) (n := (0 : Int)) rfl (by decide) c94) ?_
                    refine am_e1 (v := 0) hi_238_242 rfl ?_
                    refine am_e0 hi_238_244 ?_
                    refine am_e13t hi_238_245 (by decide) ?_
                    refine am_e0 hi_238_252 ?_
                    refine am_e3 (ls' := [some (.ref 39), some (.int w), some (.int k0), some (.int m3), some (.int 0), some (.int z), some (.int 0), some (.int z50)]) hi_238_253 (Nat.le_of_ble_eq_true rfl) rfl ?_
                    refine am_e2 (v := 39) hi_238_255 rfl ?_
                    refine am_e1 (v := 0) hi_238_256 rfl ?_
                    refine am_e0 hi_238_258 ?_
                    refine am_e1 (v := z) hi_238_259 rfl ?_
                    refine am_e32n (as := [.ref 39, .int 0, .int 0, .int z]) (la := [some (.ref 39), some (.int 0), some (.int 0), some (.int z)]) (rest := []) hi_238_261 (am_hd0 (M := 238) (by decide) 261) (Nat.le_of_ble_eq_true rfl) (Nat.le_of_ble_eq_true rfl) (show 4 ≤ am_P0.2.2.1 239 from by decide +kernel) rfl (am_recv_ok hS91.fs) rfl rfl (ct_keep2 (d := (d + 4)) hS91 hR83  (by show (0 : Int) ≤ q.toInt; omega) (by show q.toInt ≤ (16383 : Int); omega)) ?_
                    rintro v121 S122 (⟨z123, g'124, hv125, hS126, hR130, h127, h128, h129⟩)
                    subst hv125
                    have h127_ : z123.toInt = q.toInt + 1 := h127
                    have h128_ : ∀ j, j ∉ [21, 22, 23] → g'124 j = gx j := h128
                    have h129_ : g'124 23 = upd (gx 23) q.toNatClampNeg z := h129
                    replace hS126 : MS S0 S122 (upd (upd (upd (upd f 4 z71) 8 a88) 9 b89) 20 z123) g'124 := hS126
                    have hR130_ : RJ (upd (upd (upd (upd f 4 z71) 8 a88) 9 b89) 20 z123) g'124 gs bc fl fk pj := hR130
                    show am_E _ _ _ _ [some (.ref 39), some (.int w), some (.int k0), some (.int m3), some (.int 0), some (.int z), some (.int 0), some (.int z50)] [] _ _
                    refine am_e2 (v := 39) hi_238_264 rfl ?_
                    refine am_e32n (as := [.ref 39]) (la := [some (.ref 39)]) (rest := []) hi_238_265 (am_hd0 (M := 238) (by decide) 265) (Nat.le_of_ble_eq_true rfl) (Nat.le_of_ble_eq_true rfl) (show 1 ≤ am_P0.2.2.1 183 from by decide +kernel) rfl (am_recv_ok hS126.fs) rfl rfl (ct_next (d := (d + 3)) hS126   (by show (0 : Int) ≤ z71.toInt; omega) (by show (f 0).toInt ≤ (16384 : Int); omega)) ?_
                    rintro v131 S132 (⟨r133, hv134, hS135, h136⟩)
                    subst hv134
                    have h136_ : z71.toInt < (f 0).toInt ∨ r133.toInt = (-1 : Int) := h136
                    show am_E _ _ _ _ [some (.ref 39), some (.int w), some (.int k0), some (.int m3), some (.int 0), some (.int z), some (.int 0), some (.int z50)] [.int r133] _ _
                    refine am_e0 hi_238_268 ?_
                    by_cases c138 : ¬ r133.toInt = (69 : Int)
                    · refine am_e13t hi_238_270 (am_cT (m := r133.toInt) (n := (69 : Int)) rfl (by decide) c138) ?_
                      refine am_e0 hi_238_277 ?_
                      refine am_e3 (ls' := [some (.ref 39), some (.int w), some (.int k0), some (.int 0), some (.int 0), some (.int z), some (.int 0), some (.int z50)]) hi_238_278 (Nat.le_of_ble_eq_true rfl) rfl ?_
                      refine am_e2 (v := 39) hi_238_279 rfl ?_
                      refine am_e7 hi_238_280 ?_
                      refine mm_20 (v := .int z71) hS135 hi_238_281 rfl ?_
                      refine am_e1 (v := 0) hi_238_284 rfl ?_
                      refine am_e12t hi_238_285 (by decide) ?_
                      refine am_e0 hi_238_292 ?_
                      obtain ⟨z139, hz139, tz139⟩ := am_addI (x := z71) (y := 0) (m := z71.toInt) (n := (0 : Int)) rfl (by decide) (by omega) (by omega)
                      refine am_e10 (z := z139) hi_238_293 hz139 ?_
                      refine mm_21 (v := z139) hS135 hi_238_294 rfl (Nat.le_of_ble_eq_true rfl) ms_4 ?_
                      intro S140 hS141
                      replace hS141 : MS S0 S140 (upd (upd (upd (upd f 4 z139) 8 a88) 9 b89) 20 z123) g'124 := hS141
                      have hR142 : RJ (upd (upd (upd (upd f 4 z139) 8 a88) 9 b89) 20 z123) g'124 gs bc fl fk pj := RJ.at hR130_ (by show z71.toInt ≤ z139.toInt; omega)
                      refine am_e18 hi_238_297 ?_
                      exact ih _ (some (.int z)) (some (.int 0)) (some (.int z50)) 0 0 a88 b89 z139 z123 _ hS141 hR142 (fun j hj => (h128_ j hj).trans (hx j hj)) (by show ∀ i : Nat, (i : Int) < (f 20).toInt → g'124 23 i = g 23 i; rw [h129_]; exact ww_below (by omega) hA) (by show ∀ i : Nat, (f 20).toInt ≤ (i : Int) → (i : Int) < z123.toInt → 0 ≤ (g'124 23 i).toInt ∧ (g'124 23 i).toInt < 16384; rw [h129_]; exact ww_keep (by omega) ⟨by omega, by omega⟩ hB (by omega)) (by show (f 4).toInt ≤ z139.toInt; omega) (by show z139.toInt ≤ (f 0).toInt; omega) (by show (f 20).toInt ≤ z123.toInt; omega) (by show z123.toInt + (f 4).toInt ≤ (f 20).toInt + z139.toInt; omega) (by show (0 : Int) ≤ (0 : Int); omega) (by show (0 : Int) ≤ (1 : Int); omega) (by show (0 : Int) ≤ a88.toInt; omega) (by show 2 * ((f 0).toInt - z139.toInt) + (0 : Int) < (N : Int); omega)
                    · refine am_e13f hi_238_270 (am_cF (m := r133.toInt) (n := (69 : Int)) rfl (by decide) c138) ?_
                      refine am_e0 hi_238_273 ?_
                      refine am_e18 hi_238_274 ?_
                      refine am_e3 (ls' := [some (.ref 39), some (.int w), some (.int k0), some (.int 1), some (.int 0), some (.int z), some (.int 0), some (.int z50)]) hi_238_278 (Nat.le_of_ble_eq_true rfl) rfl ?_
                      refine am_e2 (v := 39) hi_238_279 rfl ?_
                      refine am_e7 hi_238_280 ?_
                      refine mm_20 (v := .int z71) hS135 hi_238_281 rfl ?_
                      refine am_e1 (v := 1) hi_238_284 rfl ?_
                      refine am_e12f hi_238_285 (by decide) ?_
                      refine am_e0 hi_238_288 ?_
                      refine am_e18 hi_238_289 ?_
                      obtain ⟨z143, hz143, tz143⟩ := am_addI (x := z71) (y := 1) (m := z71.toInt) (n := (1 : Int)) rfl (by decide) (by omega) (by omega)
                      refine am_e10 (z := z143) hi_238_293 hz143 ?_
                      refine mm_21 (v := z143) hS135 hi_238_294 rfl (Nat.le_of_ble_eq_true rfl) ms_4 ?_
                      intro S144 hS145
                      replace hS145 : MS S0 S144 (upd (upd (upd (upd f 4 z143) 8 a88) 9 b89) 20 z123) g'124 := hS145
                      have hR146 : RJ (upd (upd (upd (upd f 4 z143) 8 a88) 9 b89) 20 z123) g'124 gs bc fl fk pj := RJ.at hR130_ (by show z71.toInt ≤ z143.toInt; omega)
                      refine am_e18 hi_238_297 ?_
                      exact ih _ (some (.int z)) (some (.int 0)) (some (.int z50)) 1 0 a88 b89 z143 z123 _ hS145 hR146 (fun j hj => (h128_ j hj).trans (hx j hj)) (by show ∀ i : Nat, (i : Int) < (f 20).toInt → g'124 23 i = g 23 i; rw [h129_]; exact ww_below (by omega) hA) (by show ∀ i : Nat, (f 20).toInt ≤ (i : Int) → (i : Int) < z123.toInt → 0 ≤ (g'124 23 i).toInt ∧ (g'124 23 i).toInt < 16384; rw [h129_]; exact ww_keep (by omega) ⟨by omega, by omega⟩ hB (by omega)) (by show (f 4).toInt ≤ z143.toInt; omega) (by show z143.toInt ≤ (f 0).toInt; omega) (by show (f 20).toInt ≤ z123.toInt; omega) (by show z123.toInt + (f 4).toInt ≤ (f 20).toInt + z143.toInt; omega) (by show (0 : Int) ≤ (1 : Int); omega) (by show (1 : Int) ≤ (1 : Int); omega) (by show (0 : Int) ≤ a88.toInt; omega) (by show 2 * ((f 0).toInt - z143.toInt) + (1 : Int) < (N : Int); omega)
                · refine am_e13f hi_238_203 (am_cF (m := (g 2 z50.toNatClampNeg).toInt) (n := (-3 : Int)) rfl (by decide) c85) ?_
                  refine am_e0 hi_238_206 ?_
                  refine am_e18 hi_238_207 ?_
                  refine am_e3 (ls' := [some (.ref 39), some (.int w), some (.int k0), some (.int m3), some (.int c4), some (.int z), some (.int 2), some (.int z50)]) hi_238_211 (Nat.le_of_ble_eq_true rfl) rfl ?_
                  refine am_e1 (v := 2) hi_238_213 rfl ?_
                  refine am_e12f hi_238_215 (by decide) ?_
                  refine am_e1 (v := 2) hi_238_218 rfl ?_
                  refine am_e0 hi_238_220 ?_
                  refine am_e13f hi_238_221 (by decide) ?_
                  refine am_e1 (v := c4) hi_238_224 rfl ?_
                  by_cases c147 : c4.toInt = (0 : Int)
                  · refine am_e12t hi_238_226 (am_cT (m := c4.toInt) (n := (0 : Int)) rfl (by decide) c147) ?_
                    refine am_e1 (v := c4) hi_238_237 rfl ?_
                    refine am_e12f hi_238_239 (am_cF (m := c4.toInt) (n := (0 : Int)) rfl (by decide) (by simp only [am_cI]; omega)) ?_
                    refine am_e1 (v := 2) hi_238_242 rfl ?_
                    refine am_e0 hi_238_244 ?_
                    refine am_e13f hi_238_245 (by decide) ?_
                    refine am_e0 hi_238_248 ?_
                    refine am_e18 hi_238_249 ?_
                    refine am_e3 (ls' := [some (.ref 39), some (.int w), some (.int k0), some (.int m3), some (.int 1), some (.int z), some (.int 2), some (.int z50)]) hi_238_253 (Nat.le_of_ble_eq_true rfl) rfl ?_
                    refine am_e2 (v := 39) hi_238_255 rfl ?_
                    refine am_e1 (v := 2) hi_238_256 rfl ?_
                    refine am_e0 hi_238_258 ?_
                    refine am_e1 (v := z) hi_238_259 rfl ?_
                    refine am_e32n (as := [.ref 39, .int 2, .int 0, .int z]) (la := [some (.ref 39), some (.int 2), some (.int 0), some (.int z)]) (rest := []) hi_238_261 (am_hd0 (M := 238) (by decide) 261) (Nat.le_of_ble_eq_true rfl) (Nat.le_of_ble_eq_true rfl) (show 4 ≤ am_P0.2.2.1 239 from by decide +kernel) rfl (am_recv_ok hS73.fs) rfl rfl (ct_keep2 (d := (d + 4)) hS73 hR83  (by show (0 : Int) ≤ q.toInt; omega) (by show q.toInt ≤ (16383 : Int); omega)) ?_
                    rintro v148 S149 (⟨z150, g'151, hv152, hS153, hR157, h154, h155, h156⟩)
                    subst hv152
                    have h154_ : z150.toInt = q.toInt + 1 := h154
                    have h155_ : ∀ j, j ∉ [21, 22, 23] → g'151 j = gx j := h155
                    have h156_ : g'151 23 = upd (gx 23) q.toNatClampNeg z := h156
                    replace hS153 : MS S0 S149 (upd (upd (upd (upd f 4 z71) 8 a) 9 b) 20 z150) g'151 := hS153
                    have hR157_ : RJ (upd (upd (upd (upd f 4 z71) 8 a) 9 b) 20 z150) g'151 gs bc fl fk pj := hR157
                    show am_E _ _ _ _ [some (.ref 39), some (.int w), some (.int k0), some (.int m3), some (.int 1), some (.int z), some (.int 2), some (.int z50)] [] _ _
                    refine am_e2 (v := 39) hi_238_264 rfl ?_
                    refine am_e32n (as := [.ref 39]) (la := [some (.ref 39)]) (rest := []) hi_238_265 (am_hd0 (M := 238) (by decide) 265) (Nat.le_of_ble_eq_true rfl) (Nat.le_of_ble_eq_true rfl) (show 1 ≤ am_P0.2.2.1 183 from by decide +kernel) rfl (am_recv_ok hS153.fs) rfl rfl (ct_next (d := (d + 3)) hS153   (by show (0 : Int) ≤ z71.toInt; omega) (by show (f 0).toInt ≤ (16384 : Int); omega)) ?_
                    rintro v158 S159 (⟨r160, hv161, hS162, h163⟩)
                    subst hv161
                    have h163_ : z71.toInt < (f 0).toInt ∨ r160.toInt = (-1 : Int) := h163
                    show am_E _ _ _ _ [some (.ref 39), some (.int w), some (.int k0), some (.int m3), some (.int 1), some (.int z), some (.int 2), some (.int z50)] [.int r160] _ _
                    refine am_e0 hi_238_268 ?_
                    by_cases c165 : ¬ r160.toInt = (69 : Int)
                    · refine am_e13t hi_238_270 (am_cT (m := r160.toInt) (n := (69 : Int)) rfl (by decide) c165) ?_
                      refine am_e0 hi_238_277 ?_
                      refine am_e3 (ls' := [some (.ref 39), some (.int w), some (.int k0), some (.int 0), some (.int 1), some (.int z), some (.int 2), some (.int z50)]) hi_238_278 (Nat.le_of_ble_eq_true rfl) rfl ?_
                      refine am_e2 (v := 39) hi_238_279 rfl ?_
                      refine am_e7 hi_238_280 ?_
                      refine mm_20 (v := .int z71) hS162 hi_238_281 rfl ?_
                      refine am_e1 (v := 0) hi_238_284 rfl ?_
                      refine am_e12t hi_238_285 (by decide) ?_
                      refine am_e0 hi_238_292 ?_
                      obtain ⟨z166, hz166, tz166⟩ := am_addI (x := z71) (y := 0) (m := z71.toInt) (n := (0 : Int)) rfl (by decide) (by omega) (by omega)
                      refine am_e10 (z := z166) hi_238_293 hz166 ?_
                      refine mm_21 (v := z166) hS162 hi_238_294 rfl (Nat.le_of_ble_eq_true rfl) ms_4 ?_
                      intro S167 hS168
                      replace hS168 : MS S0 S167 (upd (upd (upd (upd f 4 z166) 8 a) 9 b) 20 z150) g'151 := hS168
                      have hR169 : RJ (upd (upd (upd (upd f 4 z166) 8 a) 9 b) 20 z150) g'151 gs bc fl fk pj := RJ.at hR157_ (by show z71.toInt ≤ z166.toInt; omega)
                      refine am_e18 hi_238_297 ?_
                      exact ih _ (some (.int z)) (some (.int 2)) (some (.int z50)) 0 1 a b z166 z150 _ hS168 hR169 (fun j hj => (h155_ j hj).trans (hx j hj)) (by show ∀ i : Nat, (i : Int) < (f 20).toInt → g'151 23 i = g 23 i; rw [h156_]; exact ww_below (by omega) hA) (by show ∀ i : Nat, (f 20).toInt ≤ (i : Int) → (i : Int) < z150.toInt → 0 ≤ (g'151 23 i).toInt ∧ (g'151 23 i).toInt < 16384; rw [h156_]; exact ww_keep (by omega) ⟨by omega, by omega⟩ hB (by omega)) (by show (f 4).toInt ≤ z166.toInt; omega) (by show z166.toInt ≤ (f 0).toInt; omega) (by show (f 20).toInt ≤ z150.toInt; omega) (by show z150.toInt + (f 4).toInt ≤ (f 20).toInt + z166.toInt; omega) (by show (0 : Int) ≤ (0 : Int); omega) (by show (0 : Int) ≤ (1 : Int); omega) (by show (0 : Int) ≤ a.toInt; omega) (by show 2 * ((f 0).toInt - z166.toInt) + (0 : Int) < (N : Int); omega)
                    · refine am_e13f hi_238_270 (am_cF (m := r160.toInt) (n := (69 : Int)) rfl (by decide) c165) ?_
                      refine am_e0 hi_238_273 ?_
                      refine am_e18 hi_238_274 ?_
                      refine am_e3 (ls' := [some (.ref 39), some (.int w), some (.int k0), some (.int 1), some (.int 1), some (.int z), some (.int 2), some (.int z50)]) hi_238_278 (Nat.le_of_ble_eq_true rfl) rfl ?_
                      refine am_e2 (v := 39) hi_238_279 rfl ?_
                      refine am_e7 hi_238_280 ?_
                      refine mm_20 (v := .int z71) hS162 hi_238_281 rfl ?_
                      refine am_e1 (v := 1) hi_238_284 rfl ?_
                      refine am_e12f hi_238_285 (by decide) ?_
                      refine am_e0 hi_238_288 ?_
                      refine am_e18 hi_238_289 ?_
                      obtain ⟨z170, hz170, tz170⟩ := am_addI (x := z71) (y := 1) (m := z71.toInt) (n := (1 : Int)) rfl (by decide) (by omega) (by omega)
                      refine am_e10 (z := z170) hi_238_293 hz170 ?_
                      refine mm_21 (v := z170) hS162 hi_238_294 rfl (Nat.le_of_ble_eq_true rfl) ms_4 ?_
                      intro S171 hS172
                      replace hS172 : MS S0 S171 (upd (upd (upd (upd f 4 z170) 8 a) 9 b) 20 z150) g'151 := hS172
                      have hR173 : RJ (upd (upd (upd (upd f 4 z170) 8 a) 9 b) 20 z150) g'151 gs bc fl fk pj := RJ.at hR157_ (by show z71.toInt ≤ z170.toInt; omega)
                      refine am_e18 hi_238_297 ?_
                      exact ih _ (some (.int z)) (some (.int 2)) (some (.int z50)) 1 1 a b z170 z150 _ hS172 hR173 (fun j hj => (h155_ j hj).trans (hx j hj)) (by show ∀ i : Nat, (i : Int) < (f 20).toInt → g'151 23 i = g 23 i; rw [h156_]; exact ww_below (by omega) hA) (by show ∀ i : Nat, (f 20).toInt ≤ (i : Int) → (i : Int) < z150.toInt → 0 ≤ (g'151 23 i).toInt ∧ (g'151 23 i).toInt < 16384; rw [h156_]; exact ww_keep (by omega) ⟨by omega, by omega⟩ hB (by omega)) (by show (f 4).toInt ≤ z170.toInt; omega) (by show z170.toInt ≤ (f 0).toInt; omega) (by show (f 20).toInt ≤ z150.toInt; omega) (by show z150.toInt + (f 4).toInt ≤ (f 20).toInt + z170.toInt; omega) (by show (0 : Int) ≤ (1 : Int); omega) (by show (1 : Int) ≤ (1 : Int); omega) (by show (0 : Int) ≤ a.toInt; omega) (by show 2 * ((f 0).toInt - z170.toInt) + (1 : Int) < (N : Int); omega)
                  · refine am_e12f hi_238_226 (am_cF (m := c4.toInt) (n := (0 : Int)) rfl (by decide) c147) ?_
                    refine am_e2 (v := 39) hi_238_229 rfl ?_
                    refine am_e0 hi_238_230 ?_
                    refine am_e1 (v := z50) hi_238_232 rfl ?_
                    refine am_e32n (as := [.ref 39, .int 9, .int z50]) (la := [some (.ref 39), some (.int 9), some (.int z50)]) (rest := []) hi_238_234 (am_hd0 (M := 238) (by decide) 234) (Nat.le_of_ble_eq_true rfl) (Nat.le_of_ble_eq_true rfl) (show 3 ≤ am_P0.2.2.1 191 from by decide +kernel) rfl (am_recv_ok hS73.fs) rfl rfl (ct_failName (d := (d + 4)) hS73   (by show (0 : Int) ≤ (9 : Int); omega) (by show (0 : Int) ≤ a.toInt; omega)) ?_
                    rintro v174 S175 (⟨a176, b177, hv178, hS179, h180⟩)
                    subst hv178
                    have h180_ : (0 : Int) ≤ a176.toInt := h180
                    replace hS179 : MS S0 S175 (upd (upd (upd (upd f 4 z71) 8 a176) 9 b177) 20 q) gx := hS179
                    show am_E _ _ _ _ [some (.ref 39), some (.int w), some (.int k0), some (.int m3), some (.int c4), some (.int z), some (.int 2), some (.int z50)] [] _ _
                    refine am_e1 (v := c4) hi_238_237 rfl ?_
                    refine am_e12t hi_238_239 (am_cT (m := c4.toInt) (n := (0 : Int)) rfl (by decide) (by simp only [am_cI]; omega)) ?_
                    refine am_e0 hi_238_248 ?_
                    refine am_e18 hi_238_249 ?_
                    refine am_e3 (ls' := [some (.ref 39), some (.int w), some (.int k0), some (.int m3), some (.int 1), some (.int z), some (.int 2), some (.int z50)]) hi_238_253 (Nat.le_of_ble_eq_true rfl) rfl ?_
                    refine am_e2 (v := 39) hi_238_255 rfl ?_
                    refine am_e1 (v := 2) hi_238_256 rfl ?_
                    refine am_e0 hi_238_258 ?_
                    refine am_e1 (v := z) hi_238_259 rfl ?_
                    refine am_e32n (as := [.ref 39, .int 2, .int 0, .int z]) (la := [some (.ref 39), some (.int 2), some (.int 0), some (.int z)]) (rest := []) hi_238_261 (am_hd0 (M := 238) (by decide) 261) (Nat.le_of_ble_eq_true rfl) (Nat.le_of_ble_eq_true rfl) (show 4 ≤ am_P0.2.2.1 239 from by decide +kernel) rfl (am_recv_ok hS179.fs) rfl rfl (ct_keep2 (d := (d + 4)) hS179 hR83  (by show (0 : Int) ≤ q.toInt; omega) (by show q.toInt ≤ (16383 : Int); omega)) ?_
                    rintro v182 S183 (⟨z184, g'185, hv186, hS187, hR191, h188, h189, h190⟩)
                    subst hv186
                    have h188_ : z184.toInt = q.toInt + 1 := h188
                    have h189_ : ∀ j, j ∉ [21, 22, 23] → g'185 j = gx j := h189
                    have h190_ : g'185 23 = upd (gx 23) q.toNatClampNeg z := h190
                    replace hS187 : MS S0 S183 (upd (upd (upd (upd f 4 z71) 8 a176) 9 b177) 20 z184) g'185 := hS187
                    have hR191_ : RJ (upd (upd (upd (upd f 4 z71) 8 a176) 9 b177) 20 z184) g'185 gs bc fl fk pj := hR191
                    show am_E _ _ _ _ [some (.ref 39), some (.int w), some (.int k0), some (.int m3), some (.int 1), some (.int z), some (.int 2), some (.int z50)] [] _ _
                    refine am_e2 (v := 39) hi_238_264 rfl ?_
                    refine am_e32n (as := [.ref 39]) (la := [some (.ref 39)]) (rest := []) hi_238_265 (am_hd0 (M := 238) (by decide) 265) (Nat.le_of_ble_eq_true rfl) (Nat.le_of_ble_eq_true rfl) (show 1 ≤ am_P0.2.2.1 183 from by decide +kernel) rfl (am_recv_ok hS187.fs) rfl rfl (ct_next (d := (d + 3)) hS187   (by show (0 : Int) ≤ z71.toInt; omega) (by show (f 0).toInt ≤ (16384 : Int); omega)) ?_
                    rintro v192 S193 (⟨r194, hv195, hS196, h197⟩)
                    subst hv195
                    have h197_ : z71.toInt < (f 0).toInt ∨ r194.toInt = (-1 : Int) := h197
                    show am_E _ _ _ _ [some (.ref 39), some (.int w), some (.int k0), some (.int m3), some (.int 1), some (.int z), some (.int 2), some (.int z50)] [.int r194] _ _
                    refine am_e0 hi_238_268 ?_
                    by_cases c199 : ¬ r194.toInt = (69 : Int)
                    · refine am_e13t hi_238_270 (am_cT (m := r194.toInt) (n := (69 : Int)) rfl (by decide) c199) ?_
                      refine am_e0 hi_238_277 ?_
                      refine am_e3 (ls' := [some (.ref 39), some (.int w), some (.int k0), some (.int 0), some (.int 1), some (.int z), some (.int 2), some (.int z50)]) hi_238_278 (Nat.le_of_ble_eq_true rfl) rfl ?_
                      refine am_e2 (v := 39) hi_238_279 rfl ?_
                      refine am_e7 hi_238_280 ?_
                      refine mm_20 (v := .int z71) hS196 hi_238_281 rfl ?_
                      refine am_e1 (v := 0) hi_238_284 rfl ?_
                      refine am_e12t hi_238_285 (by decide) ?_
                      refine am_e0 hi_238_292 ?_
                      obtain ⟨z200, hz200, tz200⟩ := am_addI (x := z71) (y := 0) (m := z71.toInt) (n := (0 : Int)) rfl (by decide) (by omega) (by omega)
                      refine am_e10 (z := z200) hi_238_293 hz200 ?_
                      refine mm_21 (v := z200) hS196 hi_238_294 rfl (Nat.le_of_ble_eq_true rfl) ms_4 ?_
                      intro S201 hS202
                      replace hS202 : MS S0 S201 (upd (upd (upd (upd f 4 z200) 8 a176) 9 b177) 20 z184) g'185 := hS202
                      have hR203 : RJ (upd (upd (upd (upd f 4 z200) 8 a176) 9 b177) 20 z184) g'185 gs bc fl fk pj := RJ.at hR191_ (by show z71.toInt ≤ z200.toInt; omega)
                      refine am_e18 hi_238_297 ?_
                      exact ih _ (some (.int z)) (some (.int 2)) (some (.int z50)) 0 1 a176 b177 z200 z184 _ hS202 hR203 (fun j hj => (h189_ j hj).trans (hx j hj)) (by show ∀ i : Nat, (i : Int) < (f 20).toInt → g'185 23 i = g 23 i; rw [h190_]; exact ww_below (by omega) hA) (by show ∀ i : Nat, (f 20).toInt ≤ (i : Int) → (i : Int) < z184.toInt → 0 ≤ (g'185 23 i).toInt ∧ (g'185 23 i).toInt < 16384; rw [h190_]; exact ww_keep (by omega) ⟨by omega, by omega⟩ hB (by omega)) (by show (f 4).toInt ≤ z200.toInt; omega) (by show z200.toInt ≤ (f 0).toInt; omega) (by show (f 20).toInt ≤ z184.toInt; omega) (by show z184.toInt + (f 4).toInt ≤ (f 20).toInt + z200.toInt; omega) (by show (0 : Int) ≤ (0 : Int); omega) (by show (0 : Int) ≤ (1 : Int); omega) (by show (0 : Int) ≤ a176.toInt; omega) (by show 2 * ((f 0).toInt - z200.toInt) + (0 : Int) < (N : Int); omega)
                    · refine am_e13f hi_238_270 (am_cF (m := r194.toInt) (n := (69 : Int)) rfl (by decide) c199) ?_
                      refine am_e0 hi_238_273 ?_
                      refine am_e18 hi_238_274 ?_
                      refine am_e3 (ls' := [some (.ref 39), some (.int w), some (.int k0), some (.int 1), some (.int 1), some (.int z), some (.int 2), some (.int z50)]) hi_238_278 (Nat.le_of_ble_eq_true rfl) rfl ?_
                      refine am_e2 (v := 39) hi_238_279 rfl ?_
                      refine am_e7 hi_238_280 ?_
                      refine mm_20 (v := .int z71) hS196 hi_238_281 rfl ?_
                      refine am_e1 (v := 1) hi_238_284 rfl ?_
                      refine am_e12f hi_238_285 (by decide) ?_
                      refine am_e0 hi_238_288 ?_
                      refine am_e18 hi_238_289 ?_
                      obtain ⟨z204, hz204, tz204⟩ := am_addI (x := z71) (y := 1) (m := z71.toInt) (n := (1 : Int)) rfl (by decide) (by omega) (by omega)
                      refine am_e10 (z := z204) hi_238_293 hz204 ?_
                      refine mm_21 (v := z204) hS196 hi_238_294 rfl (Nat.le_of_ble_eq_true rfl) ms_4 ?_
                      intro S205 hS206
                      replace hS206 : MS S0 S205 (upd (upd (upd (upd f 4 z204) 8 a176) 9 b177) 20 z184) g'185 := hS206
                      have hR207 : RJ (upd (upd (upd (upd f 4 z204) 8 a176) 9 b177) 20 z184) g'185 gs bc fl fk pj := RJ.at hR191_ (by show z71.toInt ≤ z204.toInt; omega)
                      refine am_e18 hi_238_297 ?_
                      exact ih _ (some (.int z)) (some (.int 2)) (some (.int z50)) 1 1 a176 b177 z204 z184 _ hS206 hR207 (fun j hj => (h189_ j hj).trans (hx j hj)) (by show ∀ i : Nat, (i : Int) < (f 20).toInt → g'185 23 i = g 23 i; rw [h190_]; exact ww_below (by omega) hA) (by show ∀ i : Nat, (f 20).toInt ≤ (i : Int) → (i : Int) < z184.toInt → 0 ≤ (g'185 23 i).toInt ∧ (g'185 23 i).toInt < 16384; rw [h190_]; exact ww_keep (by omega) ⟨by omega, by omega⟩ hB (by omega)) (by show (f 4).toInt ≤ z204.toInt; omega) (by show z204.toInt ≤ (f 0).toInt; omega) (by show (f 20).toInt ≤ z184.toInt; omega) (by show z184.toInt + (f 4).toInt ≤ (f 20).toInt + z204.toInt; omega) (by show (0 : Int) ≤ (1 : Int); omega) (by show (1 : Int) ≤ (1 : Int); omega) (by show (0 : Int) ≤ a176.toInt; omega) (by show 2 * ((f 0).toInt - z204.toInt) + (1 : Int) < (N : Int); omega)
              · refine am_e13f hi_238_187 (am_cF (m := (g 2 z50.toNatClampNeg).toInt) (n := (-2 : Int)) rfl (by decide) c84) ?_
                refine am_e0 hi_238_190 ?_
                refine am_e18 hi_238_191 ?_
                refine am_e3 (ls' := [some (.ref 39), some (.int w), some (.int k0), some (.int m3), some (.int c4), some (.int z), some (.int 1), some (.int z50)]) hi_238_211 (Nat.le_of_ble_eq_true rfl) rfl ?_
                refine am_e1 (v := 1) hi_238_213 rfl ?_
                refine am_e12f hi_238_215 (by decide) ?_
                refine am_e1 (v := 1) hi_238_218 rfl ?_
                refine am_e0 hi_238_220 ?_
                refine am_e13t hi_238_221 (by decide) ?_
                refine am_e1 (v := c4) hi_238_237 rfl ?_
                by_cases c208 : ¬ c4.toInt = (0 : Int)
                · refine am_e12t hi_238_239 (am_cT (m := c4.toInt) (n := (0 : Int)) rfl (by decide) c208) ?_
                  refine am_e0 hi_238_248 ?_
                  refine am_e18 hi_238_249 ?_
                  refine am_e3 (ls' := [some (.ref 39), some (.int w), some (.int k0), some (.int m3), some (.int 1), some (.int z), some (.int 1), some (.int z50)]) hi_238_253 (Nat.le_of_ble_eq_true rfl) rfl ?_
                  refine am_e2 (v := 39) hi_238_255 rfl ?_
                  refine am_e1 (v := 1) hi_238_256 rfl ?_
                  refine am_e0 hi_238_258 ?_
                  refine am_e1 (v := z) hi_238_259 rfl ?_
                  refine am_e32n (as := [.ref 39, .int 1, .int 0, .int z]) (la := [some (.ref 39), some (.int 1), some (.int 0), some (.int z)]) (rest := []) hi_238_261 (am_hd0 (M := 238) (by decide) 261) (Nat.le_of_ble_eq_true rfl) (Nat.le_of_ble_eq_true rfl) (show 4 ≤ am_P0.2.2.1 239 from by decide +kernel) rfl (am_recv_ok hS73.fs) rfl rfl (ct_keep2 (d := (d + 4)) hS73 hR83  (by show (0 : Int) ≤ q.toInt; omega) (by show q.toInt ≤ (16383 : Int); omega)) ?_
                  rintro v209 S210 (⟨z211, g'212, hv213, hS214, hR218, h215, h216, h217⟩)
                  subst hv213
                  have h215_ : z211.toInt = q.toInt + 1 := h215
                  have h216_ : ∀ j, j ∉ [21, 22, 23] → g'212 j = gx j := h216
                  have h217_ : g'212 23 = upd (gx 23) q.toNatClampNeg z := h217
                  replace hS214 : MS S0 S210 (upd (upd (upd (upd f 4 z71) 8 a) 9 b) 20 z211) g'212 := hS214
                  have hR218_ : RJ (upd (upd (upd (upd f 4 z71) 8 a) 9 b) 20 z211) g'212 gs bc fl fk pj := hR218
                  show am_E _ _ _ _ [some (.ref 39), some (.int w), some (.int k0), some (.int m3), some (.int 1), some (.int z), some (.int 1), some (.int z50)] [] _ _
                  refine am_e2 (v := 39) hi_238_264 rfl ?_
                  refine am_e32n (as := [.ref 39]) (la := [some (.ref 39)]) (rest := []) hi_238_265 (am_hd0 (M := 238) (by decide) 265) (Nat.le_of_ble_eq_true rfl) (Nat.le_of_ble_eq_true rfl) (show 1 ≤ am_P0.2.2.1 183 from by decide +kernel) rfl (am_recv_ok hS214.fs) rfl rfl (ct_next (d := (d + 3)) hS214   (by show (0 : Int) ≤ z71.toInt; omega) (by show (f 0).toInt ≤ (16384 : Int); omega)) ?_
                  rintro v219 S220 (⟨r221, hv222, hS223, h224⟩)
                  subst hv222
                  have h224_ : z71.toInt < (f 0).toInt ∨ r221.toInt = (-1 : Int) := h224
                  show am_E _ _ _ _ [some (.ref 39), some (.int w), some (.int k0), some (.int m3), some (.int 1), some (.int z), some (.int 1), some (.int z50)] [.int r221] _ _
                  refine am_e0 hi_238_268 ?_
                  by_cases c226 : ¬ r221.toInt = (69 : Int)
                  · refine am_e13t hi_238_270 (am_cT (m := r221.toInt) (n := (69 : Int)) rfl (by decide) c226) ?_
                    refine am_e0 hi_238_277 ?_
                    refine am_e3 (ls' := [some (.ref 39), some (.int w), some (.int k0), some (.int 0), some (.int 1), some (.int z), some (.int 1), some (.int z50)]) hi_238_278 (Nat.le_of_ble_eq_true rfl) rfl ?_
                    refine am_e2 (v := 39) hi_238_279 rfl ?_
                    refine am_e7 hi_238_280 ?_
                    refine mm_20 (v := .int z71) hS223 hi_238_281 rfl ?_
                    refine am_e1 (v := 0) hi_238_284 rfl ?_
                    refine am_e12t hi_238_285 (by decide) ?_
                    refine am_e0 hi_238_292 ?_
                    obtain ⟨z227, hz227, tz227⟩ := am_addI (x := z71) (y := 0) (m := z71.toInt) (n := (0 : Int)) rfl (by decide) (by omega) (by omega)
                    refine am_e10 (z := z227) hi_238_293 hz227 ?_
                    refine mm_21 (v := z227) hS223 hi_238_294 rfl (Nat.le_of_ble_eq_true rfl) ms_4 ?_
                    intro S228 hS229
                    replace hS229 : MS S0 S228 (upd (upd (upd (upd f 4 z227) 8 a) 9 b) 20 z211) g'212 := hS229
                    have hR230 : RJ (upd (upd (upd (upd f 4 z227) 8 a) 9 b) 20 z211) g'212 gs bc fl fk pj := RJ.at hR218_ (by show z71.toInt ≤ z227.toInt; omega)
                    refine am_e18 hi_238_297 ?_
                    exact ih _ (some (.int z)) (some (.int 1)) (some (.int z50)) 0 1 a b z227 z211 _ hS229 hR230 (fun j hj => (h216_ j hj).trans (hx j hj)) (by show ∀ i : Nat, (i : Int) < (f 20).toInt → g'212 23 i = g 23 i; rw [h217_]; exact ww_below (by omega) hA) (by show ∀ i : Nat, (f 20).toInt ≤ (i : Int) → (i : Int) < z211.toInt → 0 ≤ (g'212 23 i).toInt ∧ (g'212 23 i).toInt < 16384; rw [h217_]; exact ww_keep (by omega) ⟨by omega, by omega⟩ hB (by omega)) (by show (f 4).toInt ≤ z227.toInt; omega) (by show z227.toInt ≤ (f 0).toInt; omega) (by show (f 20).toInt ≤ z211.toInt; omega) (by show z211.toInt + (f 4).toInt ≤ (f 20).toInt + z227.toInt; omega) (by show (0 : Int) ≤ (0 : Int); omega) (by show (0 : Int) ≤ (1 : Int); omega) (by show (0 : Int) ≤ a.toInt; omega) (by show 2 * ((f 0).toInt - z227.toInt) + (0 : Int) < (N : Int); omega)
                  · refine am_e13f hi_238_270 (am_cF (m := r221.toInt) (n := (69 : Int)) rfl (by decide) c226) ?_
                    refine am_e0 hi_238_273 ?_
                    refine am_e18 hi_238_274 ?_
                    refine am_e3 (ls' := [some (.ref 39), some (.int w), some (.int k0), some (.int 1), some (.int 1), some (.int z), some (.int 1), some (.int z50)]) hi_238_278 (Nat.le_of_ble_eq_true rfl) rfl ?_
                    refine am_e2 (v := 39) hi_238_279 rfl ?_
                    refine am_e7 hi_238_280 ?_
                    refine mm_20 (v := .int z71) hS223 hi_238_281 rfl ?_
                    refine am_e1 (v := 1) hi_238_284 rfl ?_
                    refine am_e12f hi_238_285 (by decide) ?_
                    refine am_e0 hi_238_288 ?_
                    refine am_e18 hi_238_289 ?_
                    obtain ⟨z231, hz231, tz231⟩ := am_addI (x := z71) (y := 1) (m := z71.toInt) (n := (1 : Int)) rfl (by decide) (by omega) (by omega)
                    refine am_e10 (z := z231) hi_238_293 hz231 ?_
                    refine mm_21 (v := z231) hS223 hi_238_294 rfl (Nat.le_of_ble_eq_true rfl) ms_4 ?_
                    intro S232 hS233
                    replace hS233 : MS S0 S232 (upd (upd (upd (upd f 4 z231) 8 a) 9 b) 20 z211) g'212 := hS233
                    have hR234 : RJ (upd (upd (upd (upd f 4 z231) 8 a) 9 b) 20 z211) g'212 gs bc fl fk pj := RJ.at hR218_ (by show z71.toInt ≤ z231.toInt; omega)
                    refine am_e18 hi_238_297 ?_
                    exact ih _ (some (.int z)) (some (.int 1)) (some (.int z50)) 1 1 a b z231 z211 _ hS233 hR234 (fun j hj => (h216_ j hj).trans (hx j hj)) (by show ∀ i : Nat, (i : Int) < (f 20).toInt → g'212 23 i = g 23 i; rw [h217_]; exact ww_below (by omega) hA) (by show ∀ i : Nat, (f 20).toInt ≤ (i : Int) → (i : Int) < z211.toInt → 0 ≤ (g'212 23 i).toInt ∧ (g'212 23 i).toInt < 16384; rw [h217_]; exact ww_keep (by omega) ⟨by omega, by omega⟩ hB (by omega)) (by show (f 4).toInt ≤ z231.toInt; omega) (by show z231.toInt ≤ (f 0).toInt; omega) (by show (f 20).toInt ≤ z211.toInt; omega) (by show z211.toInt + (f 4).toInt ≤ (f 20).toInt + z231.toInt; omega) (by show (0 : Int) ≤ (1 : Int); omega) (by show (1 : Int) ≤ (1 : Int); omega) (by show (0 : Int) ≤ a.toInt; omega) (by show 2 * ((f 0).toInt - z231.toInt) + (1 : Int) < (N : Int); omega)
                · refine am_e12f hi_238_239 (am_cF (m := c4.toInt) (n := (0 : Int)) rfl (by decide) c208) ?_
                  refine am_e1 (v := 1) hi_238_242 rfl ?_
                  refine am_e0 hi_238_244 ?_
                  refine am_e13t hi_238_245 (by decide) ?_
                  refine am_e0 hi_238_252 ?_
                  refine am_e3 (ls' := [some (.ref 39), some (.int w), some (.int k0), some (.int m3), some (.int 0), some (.int z), some (.int 1), some (.int z50)]) hi_238_253 (Nat.le_of_ble_eq_true rfl) rfl ?_
                  refine am_e2 (v := 39) hi_238_255 rfl ?_
                  refine am_e1 (v := 1) hi_238_256 rfl ?_
                  refine am_e0 hi_238_258 ?_
                  refine am_e1 (v := z) hi_238_259 rfl ?_
                  refine am_e32n (as := [.ref 39, .int 1, .int 0, .int z]) (la := [some (.ref 39), some (.int 1), some (.int 0), some (.int z)]) (rest := []) hi_238_261 (am_hd0 (M := 238) (by decide) 261) (Nat.le_of_ble_eq_true rfl) (Nat.le_of_ble_eq_true rfl) (show 4 ≤ am_P0.2.2.1 239 from by decide +kernel) rfl (am_recv_ok hS73.fs) rfl rfl (ct_keep2 (d := (d + 4)) hS73 hR83  (by show (0 : Int) ≤ q.toInt; omega) (by show q.toInt ≤ (16383 : Int); omega)) ?_
                  rintro v235 S236 (⟨z237, g'238, hv239, hS240, hR244, h241, h242, h243⟩)
                  subst hv239
                  have h241_ : z237.toInt = q.toInt + 1 := h241
                  have h242_ : ∀ j, j ∉ [21, 22, 23] → g'238 j = gx j := h242
                  have h243_ : g'238 23 = upd (gx 23) q.toNatClampNeg z := h243
                  replace hS240 : MS S0 S236 (upd (upd (upd (upd f 4 z71) 8 a) 9 b) 20 z237) g'238 := hS240
                  have hR244_ : RJ (upd (upd (upd (upd f 4 z71) 8 a) 9 b) 20 z237) g'238 gs bc fl fk pj := hR244
                  show am_E _ _ _ _ [some (.ref 39), some (.int w), some (.int k0), some (.int m3), some (.int 0), some (.int z), some (.int 1), some (.int z50)] [] _ _
                  refine am_e2 (v := 39) hi_238_264 rfl ?_
                  refine am_e32n (as := [.ref 39]) (la := [some (.ref 39)]) (rest := []) hi_238_265 (am_hd0 (M := 238) (by decide) 265) (Nat.le_of_ble_eq_true rfl) (Nat.le_of_ble_eq_true rfl) (show 1 ≤ am_P0.2.2.1 183 from by decide +kernel) rfl (am_recv_ok hS240.fs) rfl rfl (ct_next (d := (d + 3)) hS240   (by show (0 : Int) ≤ z71.toInt; omega) (by show (f 0).toInt ≤ (16384 : Int); omega)) ?_
                  rintro v245 S246 (⟨r247, hv248, hS249, h250⟩)
                  subst hv248
                  have h250_ : z71.toInt < (f 0).toInt ∨ r247.toInt = (-1 : Int) := h250
                  show am_E _ _ _ _ [some (.ref 39), some (.int w), some (.int k0), some (.int m3), some (.int 0), some (.int z), some (.int 1), some (.int z50)] [.int r247] _ _
                  refine am_e0 hi_238_268 ?_
                  by_cases c252 : ¬ r247.toInt = (69 : Int)
                  · refine am_e13t hi_238_270 (am_cT (m := r247.toInt) (n := (69 : Int)) rfl (by decide) c252) ?_
                    refine am_e0 hi_238_277 ?_
                    refine am_e3 (ls' := [some (.ref 39), some (.int w), some (.int k0), some (.int 0), some (.int 0), some (.int z), some (.int 1), some (.int z50)]) hi_238_278 (Nat.le_of_ble_eq_true rfl) rfl ?_
                    refine am_e2 (v := 39) hi_238_279 rfl ?_
                    refine am_e7 hi_238_280 ?_
                    refine mm_20 (v := .int z71) hS249 hi_238_281 rfl ?_
                    refine am_e1 (v := 0) hi_238_284 rfl ?_
                    refine am_e12t hi_238_285 (by decide) ?_
                    refine am_e0 hi_238_292 ?_
                    obtain ⟨z253, hz253, tz253⟩ := am_addI (x := z71) (y := 0) (m := z71.toInt) (n := (0 : Int)) rfl (by decide) (by omega) (by omega)
                    refine am_e10 (z := z253) hi_238_293 hz253 ?_
                    refine mm_21 (v := z253) hS249 hi_238_294 rfl (Nat.le_of_ble_eq_true rfl) ms_4 ?_
                    intro S254 hS255
                    replace hS255 : MS S0 S254 (upd (upd (upd (upd f 4 z253) 8 a) 9 b) 20 z237) g'238 := hS255
                    have hR256 : RJ (upd (upd (upd (upd f 4 z253) 8 a) 9 b) 20 z237) g'238 gs bc fl fk pj := RJ.at hR244_ (by show z71.toInt ≤ z253.toInt; omega)
                    refine am_e18 hi_238_297 ?_
                    exact ih _ (some (.int z)) (some (.int 1)) (some (.int z50)) 0 0 a b z253 z237 _ hS255 hR256 (fun j hj => (h242_ j hj).trans (hx j hj)) (by show ∀ i : Nat, (i : Int) < (f 20).toInt → g'238 23 i = g 23 i; rw [h243_]; exact ww_below (by omega) hA) (by show ∀ i : Nat, (f 20).toInt ≤ (i : Int) → (i : Int) < z237.toInt → 0 ≤ (g'238 23 i).toInt ∧ (g'238 23 i).toInt < 16384; rw [h243_]; exact ww_keep (by omega) ⟨by omega, by omega⟩ hB (by omega)) (by show (f 4).toInt ≤ z253.toInt; omega) (by show z253.toInt ≤ (f 0).toInt; omega) (by show (f 20).toInt ≤ z237.toInt; omega) (by show z237.toInt + (f 4).toInt ≤ (f 20).toInt + z253.toInt; omega) (by show (0 : Int) ≤ (0 : Int); omega) (by show (0 : Int) ≤ (1 : Int); omega) (by show (0 : Int) ≤ a.toInt; omega) (by show 2 * ((f 0).toInt - z253.toInt) + (0 : Int) < (N : Int); omega)
                  · refine am_e13f hi_238_270 (am_cF (m := r247.toInt) (n := (69 : Int)) rfl (by decide) c252) ?_
                    refine am_e0 hi_238_273 ?_
                    refine am_e18 hi_238_274 ?_
                    refine am_e3 (ls' := [some (.ref 39), some (.int w), some (.int k0), some (.int 1), some (.int 0), some (.int z), some (.int 1), some (.int z50)]) hi_238_278 (Nat.le_of_ble_eq_true rfl) rfl ?_
                    refine am_e2 (v := 39) hi_238_279 rfl ?_
                    refine am_e7 hi_238_280 ?_
                    refine mm_20 (v := .int z71) hS249 hi_238_281 rfl ?_
                    refine am_e1 (v := 1) hi_238_284 rfl ?_
                    refine am_e12f hi_238_285 (by decide) ?_
                    refine am_e0 hi_238_288 ?_
                    refine am_e18 hi_238_289 ?_
                    obtain ⟨z257, hz257, tz257⟩ := am_addI (x := z71) (y := 1) (m := z71.toInt) (n := (1 : Int)) rfl (by decide) (by omega) (by omega)
                    refine am_e10 (z := z257) hi_238_293 hz257 ?_
                    refine mm_21 (v := z257) hS249 hi_238_294 rfl (Nat.le_of_ble_eq_true rfl) ms_4 ?_
                    intro S258 hS259
                    replace hS259 : MS S0 S258 (upd (upd (upd (upd f 4 z257) 8 a) 9 b) 20 z237) g'238 := hS259
                    have hR260 : RJ (upd (upd (upd (upd f 4 z257) 8 a) 9 b) 20 z237) g'238 gs bc fl fk pj := RJ.at hR244_ (by show z71.toInt ≤ z257.toInt; omega)
                    refine am_e18 hi_238_297 ?_
                    exact ih _ (some (.int z)) (some (.int 1)) (some (.int z50)) 1 0 a b z257 z237 _ hS259 hR260 (fun j hj => (h242_ j hj).trans (hx j hj)) (by show ∀ i : Nat, (i : Int) < (f 20).toInt → g'238 23 i = g 23 i; rw [h243_]; exact ww_below (by omega) hA) (by show ∀ i : Nat, (f 20).toInt ≤ (i : Int) → (i : Int) < z237.toInt → 0 ≤ (g'238 23 i).toInt ∧ (g'238 23 i).toInt < 16384; rw [h243_]; exact ww_keep (by omega) ⟨by omega, by omega⟩ hB (by omega)) (by show (f 4).toInt ≤ z257.toInt; omega) (by show z257.toInt ≤ (f 0).toInt; omega) (by show (f 20).toInt ≤ z237.toInt; omega) (by show z237.toInt + (f 4).toInt ≤ (f 20).toInt + z257.toInt; omega) (by show (0 : Int) ≤ (1 : Int); omega) (by show (1 : Int) ≤ (1 : Int); omega) (by show (0 : Int) ≤ a.toInt; omega) (by show 2 * ((f 0).toInt - z257.toInt) + (1 : Int) < (N : Int); omega)
            · subst hv79
              have h81_ : (0 : Int) ≤ a77.toInt := h81
              replace hS80 : MS S0 S70 (upd (upd (upd (upd (upd (upd (upd f 4 z56) 6 a77) 7 b78) 8 a) 9 b) 10 0) 20 q) gx := hS80
              have hR261 := rj_clear0 hR68
              have hR262 : RJ (upd (upd (upd (upd (upd (upd (upd f 4 z56) 6 a77) 7 b78) 8 a) 9 b) 10 0) 20 q) gx [] bc [] 0 [] := hR261
              show am_E _ _ _ _ [some (.ref 39), some (.int w), some (.int k0), some (.int m3), some (.int c4), some (.int z), some (.int 0), some (.int z50)] [.int 0] _ _
              refine am_e12f hi_238_174 (by decide) ?_
              exact hx2 _ (some (.int m3)) (some (.int c4)) (some (.int z)) (some (.int 0)) (some (.int z50)) a b z56 q a77 b78 _ hS80 hR262 hx (by show (f 4).toInt ≤ z56.toInt; omega) (by show z56.toInt ≤ (f 0).toInt; omega) (by show (f 20).toInt ≤ q.toInt; omega) (by show q.toInt + (f 4).toInt ≤ (f 20).toInt + z56.toInt; omega) (by show (0 : Int) ≤ a77.toInt; omega) (by show (0 : Int) ≤ a.toInt; omega)
          · subst hv64
            have h66_ : (0 : Int) ≤ a62.toInt := h66
            replace hS65 : MS S0 S55 (upd (upd (upd (upd (upd (upd (upd f 4 z50) 6 a62) 7 b63) 8 a) 9 b) 10 0) 20 q) gx := hS65
            have hR263 := rj_clear0 hR53
            have hR264 : RJ (upd (upd (upd (upd (upd (upd (upd f 4 z50) 6 a62) 7 b63) 8 a) 9 b) 10 0) 20 q) gx [] bc [] 0 [] := hR263
            show am_E _ _ _ _ [some (.ref 39), some (.int w), some (.int k0), some (.int m3), some (.int c4), some (.int z), some (.int 0), some (.int z50)] [.int 0] _ _
            refine am_e12t hi_238_165 (by decide) ?_
            exact hx2 _ (some (.int m3)) (some (.int c4)) (some (.int z)) (some (.int 0)) (some (.int z50)) a b z50 q a62 b63 _ hS65 hR264 hx (by show (f 4).toInt ≤ z50.toInt; omega) (by show z50.toInt ≤ (f 0).toInt; omega) (by show (f 20).toInt ≤ q.toInt; omega) (by show q.toInt + (f 4).toInt ≤ (f 20).toInt + z50.toInt; omega) (by show (0 : Int) ≤ a62.toInt; omega) (by show (0 : Int) ≤ a.toInt; omega)
      · subst hv11
        have h13_ : (0 : Int) ≤ a9.toInt := h13
        replace hS12 : MS S0 S2 (upd (upd (upd (upd (upd (upd (upd f 4 z) 6 a9) 7 b10) 8 a) 9 b) 10 0) 20 q) gx := hS12
        have hR265 := rj_clear0 hRl
        have hR266 : RJ (upd (upd (upd (upd (upd (upd (upd f 4 z) 6 a9) 7 b10) 8 a) 9 b) 10 0) 20 q) gx [] bc [] 0 [] := hR265
        show am_E _ _ _ _ [some (.ref 39), some (.int w), some (.int k0), some (.int m3), some (.int c4), some (.int z), x6, x7] [.int 0] _ _
        refine am_e12f hi_238_128 (by decide) ?_
        exact hx1 _ (some (.int m3)) (some (.int c4)) (some (.int z)) x6 x7 a b z q a9 b10 _ hS12 hR266 hx (by show (f 4).toInt ≤ z.toInt; omega) (by show z.toInt ≤ (f 0).toInt; omega) (by show (f 20).toInt ≤ q.toInt; omega) (by show q.toInt + (f 4).toInt ≤ (f 20).toInt + z.toInt; omega) (by show (0 : Int) ≤ a9.toInt; omega) (by show (0 : Int) ≤ a.toInt; omega)
theorem lp_localEnd2 {sc : Nat × (Nat → Int32)} {d : Nat} {S0 : am_S} {f : Nat → Int32} {g : Nat → Nat → Int32} {w : Int32} {k : Int32} {gs : List mg_E} {bc : List (List Nat)} {fl : List Nat} {fk : Int} {pj : List Nat}  (hR : RJ f g gs bc fl fk pj) (hw : ∀ i : Nat, k.toInt ≤ (i : Int) → (i : Int) < (f 20).toInt → 0 ≤ (g 23 i).toInt ∧ (g 23 i).toInt < 16384) (p0 : (0 : Int) ≤ (f 32).toInt) (p1 : (f 32).toInt ≤ (63 : Int)) (p2 : (f 53).toInt ≤ (4096 : Int)) (p3 : (0 : Int) ≤ (f 24).toInt) (p4 : (f 24).toInt + (f 20).toInt ≤ 16000) (p5 : (0 : Int) ≤ k.toInt) (p6 : k.toInt ≤ (f 20).toInt) (p7 : (0 : Int) ≤ (f 68).toInt) (p8 : (f 68).toInt + (f 20).toInt ≤ 65530) (p9 : (0 : Int) ≤ (f 8).toInt) : ∀ (N : Nat) (S : am_S) (c3 m j a b l y s : Int32) (gx : Nat → Nat → Int32), MS S0 S (upd (upd (upd (upd (upd f 8 a) 9 b) 24 l) 31 y) 68 s) gx → RJ (upd (upd (upd (upd (upd f 8 a) 9 b) 24 l) 31 y) 68 s) gx gs bc fl fk pj → (∀ j, j ∉ [25, 26, 27, 28, 29, 30, 58, 60, 69, 70, 71, 72, 73] → gx j = g j) → (0 : Int) ≤ j.toInt → j.toInt ≤ m.toInt → m.toInt = (f 20).toInt - k.toInt → l.toInt = (f 24).toInt + m.toInt → (f 68).toInt ≤ s.toInt → s.toInt ≤ (f 68).toInt + j.toInt + 1 → (0 : Int) ≤ a.toInt → m.toInt - j.toInt < (N : Int) → am_E (am_PP sc) (d + 2) 241 99 [some (.ref 39), some (.int w), some (.int k), some (.int c3), some (.int m), some (.int j)] [] S (am_N fun v S1 => (∃ a : Int32, ∃ b : Int32, ∃ q : Int32, ∃ l : Int32, ∃ y : Int32, ∃ s : Int32, ∃ g' : Nat → Nat → Int32, v = none ∧ MS S0 S1 (upd (upd (upd (upd (upd (upd f 8 a) 9 b) 20 q) 24 l) 31 y) 68 s) g' ∧ (RJ (upd (upd (upd (upd (upd (upd f 8 a) 9 b) 20 q) 24 l) 31 y) 68 s) g' gs bc fl fk pj) ∧ (q.toInt = k.toInt) ∧ (l.toInt = (f 24).toInt + (f 20).toInt - k.toInt) ∧ ((f 68).toInt ≤ s.toInt) ∧ (s.toInt + k.toInt ≤ (f 68).toInt + (f 20).toInt + 1) ∧ (∀ j, j ∉ [25, 26, 27, 28, 29, 30, 58, 60, 69, 70, 71, 72, 73] → g' j = g j) ∧ ((0 : Int) ≤ a.toInt))) := by
  intro N
  induction N with
  | zero =>
    intro S  c3 m j a b l y s gx  hS hRl hx i0 i1 i2 i3 i4 i5 i6 hN
    exfalso
    omega
  | succ N ih =>
    intro S  c3 m j a b l y s gx  hS hRl hx i0 i1 i2 i3 i4 i5 i6 hN
    refine am_e1 (v := j) hi_241_99 rfl ?_
    refine am_e1 (v := m) hi_241_101 rfl ?_
    by_cases c0 : m.toInt ≤ j.toInt
    · refine am_e13t hi_241_103 (am_cT (m := j.toInt) (n := m.toInt) rfl rfl c0) ?_
      refine am_e2 (v := 39) hi_241_146 rfl ?_
      refine am_e1 (v := k) hi_241_147 rfl ?_
      refine mm_21 (v := k) hS hi_241_148 rfl (Nat.le_of_ble_eq_true rfl) ms_20 ?_
      intro S1 hS2
      replace hS2 : MS S0 S1 (upd (upd (upd (upd (upd (upd f 8 a) 9 b) 20 k) 24 l) 31 y) 68 s) gx := hS2
      refine am_e35 hi_241_151 ?_
      exact ⟨a, b, k, l, y, s, _, rfl, hS2, hRl, (by show k.toInt = k.toInt; omega), (by show l.toInt = (f 24).toInt + (f 20).toInt - k.toInt; omega), (by show (f 68).toInt ≤ s.toInt; omega), (by show s.toInt + k.toInt ≤ (f 68).toInt + (f 20).toInt + 1; omega), hx, (by show (0 : Int) ≤ a.toInt; omega)⟩
    · refine am_e13f hi_241_103 (am_cF (m := j.toInt) (n := m.toInt) rfl rfl c0) ?_
      refine am_e2 (v := 39) hi_241_106 rfl ?_
      refine mm_20 (v := .ref 49) hS hi_241_107 rfl ?_
      refine am_e1 (v := k) hi_241_110 rfl ?_
      refine am_e1 (v := j) hi_241_111 rfl ?_
      obtain ⟨z3, hz3, tz3⟩ := am_addI (x := k) (y := j) (m := k.toInt) (n := j.toInt) rfl rfl (by omega) (by omega)
      refine am_e10 (z := z3) hi_241_113 hz3 ?_
      refine mm_25 hS ma_21 hi_241_114 (by decide) (by omega) (by omega) ?_
      show am_E _ _ _ _ _ (.int (gx 21 z3.toNatClampNeg) :: _) _ _
      rw [show gx 21 = g 21 from hx 21 (by decide)]
      show am_E _ _ _ _ [some (.ref 39), some (.int w), some (.int k), some (.int c3), some (.int m), some (.int j)] [.int (g 21 z3.toNatClampNeg)] _ _
      refine am_e0 hi_241_115 ?_
      by_cases c4 : ¬ (g 21 z3.toNatClampNeg).toInt = (2 : Int)
      · refine am_e13t hi_241_116 (am_cT (m := (g 21 z3.toNatClampNeg).toInt) (n := (2 : Int)) rfl (by decide) c4) ?_
        obtain ⟨z5, hz5, tz5⟩ := am_addI (x := j) (y := 1) (m := j.toInt) (n := (1 : Int)) rfl (by decide) (by omega) (by omega)
        refine am_e5 (v := j) (z := z5) (ls' := [some (.ref 39), some (.int w), some (.int k), some (.int c3), some (.int m), some (.int z5)]) hi_241_140 rfl hz5 rfl ?_
        refine am_e18 hi_241_143 ?_
        exact ih _ c3 m z5 a b l y s _ hS hRl hx (by show (0 : Int) ≤ z5.toInt; omega) (by show z5.toInt ≤ m.toInt; omega) (by show m.toInt = (f 20).toInt - k.toInt; omega) (by show l.toInt = (f 24).toInt + m.toInt; omega) (by show (f 68).toInt ≤ s.toInt; omega) (by show s.toInt ≤ (f 68).toInt + z5.toInt + 1; omega) (by show (0 : Int) ≤ a.toInt; omega) (by show m.toInt - z5.toInt < (N : Int); omega)
      · refine am_e13f hi_241_116 (am_cF (m := (g 21 z3.toNatClampNeg).toInt) (n := (2 : Int)) rfl (by decide) c4) ?_
        refine am_e2 (v := 39) hi_241_119 rfl ?_
        refine am_e0 hi_241_120 ?_
        refine am_e1 (v := c3) hi_241_122 rfl ?_
        refine am_e1 (v := j) hi_241_123 rfl ?_
        obtain ⟨z6, hz6⟩ : ∃ q__, am_bin 0 c3 j = q__ := ⟨_, rfl⟩
        refine am_e10 (z := z6) hi_241_125 hz6 ?_
        refine am_e0 hi_241_126 ?_
        refine am_e2 (v := 39) hi_241_127 rfl ?_
        refine mm_20 (v := .ref 51) hS hi_241_128 rfl ?_
        refine am_e1 (v := k) hi_241_131 rfl ?_
        refine am_e1 (v := j) hi_241_132 rfl ?_
        refine am_e10 (z := z3) hi_241_134 hz3 ?_
        refine mm_25 hS ma_23 hi_241_135 (by decide) (by omega) (by omega) ?_
        show am_E _ _ _ _ _ (.int (gx 23 z3.toNatClampNeg) :: _) _ _
        rw [show gx 23 = g 23 from hx 23 (by decide)]
        show am_E _ _ _ _ [some (.ref 39), some (.int w), some (.int k), some (.int c3), some (.int m), some (.int j)] [.int (g 23 z3.toNatClampNeg), .int 0, .int z6, .int 28, .ref 39] _ _
        have r7 : 0 ≤ (g 23 z3.toNatClampNeg).toInt ∧ (g 23 z3.toNatClampNeg).toInt < 16384 := hw z3.toNatClampNeg (by rw [cl_toNat]; omega) (by rw [cl_toNat]; omega)
        refine am_e32n (as := [.ref 39, .int 28, .int z6, .int 0, .int (g 23 z3.toNatClampNeg)]) (la := [some (.ref 39), some (.int 28), some (.int z6), some (.int 0), some (.int (g 23 z3.toNatClampNeg))]) (rest := []) hi_241_136 (am_hd0 (M := 241) (by decide) 136) (Nat.le_of_ble_eq_true rfl) (Nat.le_of_ble_eq_true rfl) (show 5 ≤ am_P0.2.2.1 189 from by decide +kernel) rfl (am_recv_ok hS.fs) rfl rfl (ct_put (d := (d + 1)) hS hRl  (by show (0 : Int) ≤ (f 32).toInt; omega) (by show (f 32).toInt ≤ (63 : Int); omega) (by show (f 53).toInt ≤ (4096 : Int); omega) (by show (0 : Int) ≤ s.toInt; omega) (by show s.toInt ≤ (65534 : Int); omega)) ?_
        rintro v8 S9 (⟨z10, r11, g'12, hv13, hS14, hR18, h15, h16, h17⟩)
        subst hv13
        have h15_ : z10.toInt = s.toInt + 1 := h15
        have h16_ : r11.toInt = s.toInt := h16
        have h17_ : ∀ j, j ∉ [60, 69, 70, 71, 72, 73] → g'12 j = gx j := h17
        replace hS14 : MS S0 S9 (upd (upd (upd (upd (upd f 8 a) 9 b) 24 l) 31 y) 68 z10) g'12 := hS14
        have hR18_ : RJ (upd (upd (upd (upd (upd f 8 a) 9 b) 24 l) 31 y) 68 z10) g'12 gs bc fl fk (s.toNatClampNeg :: pj) := hR18
        show am_E _ _ _ _ [some (.ref 39), some (.int w), some (.int k), some (.int c3), some (.int m), some (.int j)] [.int r11] _ _
        refine am_e6i hi_241_139 ?_
        obtain ⟨z19, hz19, tz19⟩ := am_addI (x := j) (y := 1) (m := j.toInt) (n := (1 : Int)) rfl (by decide) (by omega) (by omega)
        refine am_e5 (v := j) (z := z19) (ls' := [some (.ref 39), some (.int w), some (.int k), some (.int c3), some (.int m), some (.int z19)]) hi_241_140 rfl hz19 rfl ?_
        refine am_e18 hi_241_143 ?_
        exact ih _ c3 m z19 a b l y z10 _ hS14 (RJ.fewer hR18_ (fun j hj => List.mem_cons_of_mem _ hj)) (fun j hj => ((show ∀ j, j ∉ [25, 26, 27, 28, 29, 30, 58, 60, 69, 70, 71, 72, 73] → g'12 j = gx j from fun j hj => h17_ j (fun q => hj (mem_sub (L := [60, 69, 70, 71, 72, 73]) (L' := [25, 26, 27, 28, 29, 30, 58, 60, 69, 70, 71, 72, 73]) (by decide) q))) j hj).trans (hx j hj)) (by show (0 : Int) ≤ z19.toInt; omega) (by show z19.toInt ≤ m.toInt; omega) (by show m.toInt = (f 20).toInt - k.toInt; omega) (by show l.toInt = (f 24).toInt + m.toInt; omega) (by show (f 68).toInt ≤ z10.toInt; omega) (by show z10.toInt ≤ (f 68).toInt + z19.toInt + 1; omega) (by show (0 : Int) ≤ a.toInt; omega) (by show m.toInt - z19.toInt < (N : Int); omega)
theorem lp_localEnd1 {sc : Nat × (Nat → Int32)} {d : Nat} {S0 : am_S} {f : Nat → Int32} {g : Nat → Nat → Int32} {w : Int32} {k : Int32} {gs : List mg_E} {bc : List (List Nat)} {fl : List Nat} {fk : Int} {pj : List Nat}  (hR : RJ f g gs bc fl fk pj) (hw : ∀ i : Nat, k.toInt ≤ (i : Int) → (i : Int) < (f 20).toInt → 0 ≤ (g 23 i).toInt ∧ (g 23 i).toInt < 16384) (p0 : (0 : Int) ≤ (f 32).toInt) (p1 : (f 32).toInt ≤ (63 : Int)) (p2 : (f 53).toInt ≤ (4096 : Int)) (p3 : (0 : Int) ≤ (f 24).toInt) (p4 : (f 24).toInt + (f 20).toInt ≤ 16000) (p5 : (0 : Int) ≤ k.toInt) (p6 : k.toInt ≤ (f 20).toInt) (p7 : (0 : Int) ≤ (f 68).toInt) (p8 : (f 68).toInt + (f 20).toInt ≤ 65530) (p9 : (0 : Int) ≤ (f 8).toInt) : ∀ (N : Nat) (S : am_S) (c3 m j a b l y : Int32) (gx : Nat → Nat → Int32), MS S0 S (upd (upd (upd (upd f 8 a) 9 b) 24 l) 31 y) gx → RJ (upd (upd (upd (upd f 8 a) 9 b) 24 l) 31 y) gx gs bc fl fk pj → (∀ j, j ∉ [25, 26, 27, 28, 29, 30, 58] → gx j = g j) → k.toInt ≤ j.toInt → j.toInt ≤ (f 20).toInt → m.toInt = (f 20).toInt - k.toInt → l.toInt = (f 24).toInt + j.toInt - k.toInt → (0 : Int) ≤ a.toInt → (f 20).toInt - j.toInt < (N : Int) → am_E (am_PP sc) (d + 2) 241 16 [some (.ref 39), some (.int w), some (.int k), some (.int c3), some (.int m), some (.int j)] [] S (am_N fun v S1 => (∃ a : Int32, ∃ b : Int32, ∃ q : Int32, ∃ l : Int32, ∃ y : Int32, ∃ s : Int32, ∃ g' : Nat → Nat → Int32, v = none ∧ MS S0 S1 (upd (upd (upd (upd (upd (upd f 8 a) 9 b) 20 q) 24 l) 31 y) 68 s) g' ∧ (RJ (upd (upd (upd (upd (upd (upd f 8 a) 9 b) 20 q) 24 l) 31 y) 68 s) g' gs bc fl fk pj) ∧ (q.toInt = k.toInt) ∧ (l.toInt = (f 24).toInt + (f 20).toInt - k.toInt) ∧ ((f 68).toInt ≤ s.toInt) ∧ (s.toInt + k.toInt ≤ (f 68).toInt + (f 20).toInt + 1) ∧ (∀ j, j ∉ [25, 26, 27, 28, 29, 30, 58, 60, 69, 70, 71, 72, 73] → g' j = g j) ∧ ((0 : Int) ≤ a.toInt))) := by
  intro N
  induction N with
  | zero =>
    intro S  c3 m j a b l y gx  hS hRl hx i0 i1 i2 i3 i4 hN
    exfalso
    omega
  | succ N ih =>
    intro S  c3 m j a b l y gx  hS hRl hx i0 i1 i2 i3 i4 hN
    refine am_e1 (v := j) hi_241_16 rfl ?_
    refine am_e2 (v := 39) hi_241_18 rfl ?_
    refine mm_20 (v := .int (f 20)) hS hi_241_19 rfl ?_
    by_cases c0 : (f 20).toInt ≤ j.toInt
    · refine am_e13t hi_241_22 (am_cT (m := j.toInt) (n := (f 20).toInt) rfl rfl c0) ?_
      refine am_e2 (v := 39) hi_241_85 rfl ?_
      refine am_e0 hi_241_86 ?_
      refine am_e1 (v := c3) hi_241_88 rfl ?_
      refine am_e1 (v := m) hi_241_89 rfl ?_
      refine am_e1 (v := w) hi_241_91 rfl ?_
      refine am_e32n (as := [.ref 39, .int 27, .int c3, .int m, .int w]) (la := [some (.ref 39), some (.int 27), some (.int c3), some (.int m), some (.int w)]) (rest := []) hi_241_92 (am_hd0 (M := 241) (by decide) 92) (Nat.le_of_ble_eq_true rfl) (Nat.le_of_ble_eq_true rfl) (show 5 ≤ am_P0.2.2.1 189 from by decide +kernel) rfl (am_recv_ok hS.fs) rfl rfl (ct_put (d := (d + 1)) hS hRl  (by show (0 : Int) ≤ (f 32).toInt; omega) (by show (f 32).toInt ≤ (63 : Int); omega) (by show (f 53).toInt ≤ (4096 : Int); omega) (by show (0 : Int) ≤ (f 68).toInt; omega) (by show (f 68).toInt ≤ (65534 : Int); omega)) ?_
      rintro v1 S2 (⟨z3, r4, g'5, hv6, hS7, hR11, h8, h9, h10⟩)
      subst hv6
      have h8_ : z3.toInt = (f 68).toInt + 1 := h8
      have h9_ : r4.toInt = (f 68).toInt := h9
      have h10_ : ∀ j, j ∉ [60, 69, 70, 71, 72, 73] → g'5 j = gx j := h10
      have hR11_ : RJ (upd (upd (upd (upd (upd f 8 a) 9 b) 24 l) 31 y) 68 z3) g'5 gs bc fl fk ((f 68).toNatClampNeg :: pj) := hR11
      show am_E _ _ _ _ [some (.ref 39), some (.int w), some (.int k), some (.int c3), some (.int m), some (.int j)] [.int r4] _ _
      refine am_e6i hi_241_95 ?_
      refine am_e0 hi_241_96 ?_
      refine am_e3 (ls' := [some (.ref 39), some (.int w), some (.int k), some (.int c3), some (.int m), some (.int 0)]) hi_241_97 (Nat.le_of_ble_eq_true rfl) rfl ?_
      exact lp_localEnd2 hR hw p0 p1 p2 p3 p4 p5 p6 p7 p8 p9 ((m.toInt - (0 : Int)).toNat + 1) _ c3 m 0 a b l y z3 _ hS7 (RJ.fewer hR11_ (fun j hj => List.mem_cons_of_mem _ hj)) (fun j hj => ((show ∀ j, j ∉ [25, 26, 27, 28, 29, 30, 58, 60, 69, 70, 71, 72, 73] → g'5 j = gx j from fun j hj => h10_ j (fun q => hj (mem_sub (L := [60, 69, 70, 71, 72, 73]) (L' := [25, 26, 27, 28, 29, 30, 58, 60, 69, 70, 71, 72, 73]) (by decide) q))) j hj).trans ((show ∀ j, j ∉ [25, 26, 27, 28, 29, 30, 58, 60, 69, 70, 71, 72, 73] → gx j = g j from fun j hj => hx j (fun q => hj (mem_sub (L := [25, 26, 27, 28, 29, 30, 58]) (L' := [25, 26, 27, 28, 29, 30, 58, 60, 69, 70, 71, 72, 73]) (by decide) q))) j hj)) (by show (0 : Int) ≤ (0 : Int); omega) (by show (0 : Int) ≤ m.toInt; omega) (by show m.toInt = (f 20).toInt - k.toInt; omega) (by show l.toInt = (f 24).toInt + m.toInt; omega) (by show (f 68).toInt ≤ z3.toInt; omega) (by show z3.toInt ≤ (f 68).toInt + (0 : Int) + 1; omega) (by show (0 : Int) ≤ a.toInt; omega) (by show m.toInt - (0 : Int) < _; omega)
    · refine am_e13f hi_241_22 (am_cF (m := j.toInt) (n := (f 20).toInt) rfl rfl c0) ?_
      refine am_e2 (v := 39) hi_241_25 rfl ?_
      refine am_e2 (v := 39) hi_241_26 rfl ?_
      refine mm_20 (v := .ref 41) hS hi_241_27 rfl ?_
      refine am_e2 (v := 39) hi_241_30 rfl ?_
      refine mm_20 (v := .ref 51) hS hi_241_31 rfl ?_
      refine am_e1 (v := j) hi_241_34 rfl ?_
      refine mm_25 hS ma_23 hi_241_36 (by decide) (by omega) (by omega) ?_
      show am_E _ _ _ _ _ (.int (gx 23 j.toNatClampNeg) :: _) _ _
      rw [show gx 23 = g 23 from hx 23 (by decide)]
      show am_E _ _ _ _ [some (.ref 39), some (.int w), some (.int k), some (.int c3), some (.int m), some (.int j)] [.int (g 23 j.toNatClampNeg), .ref 41, .ref 39] _ _
      have r12 : 0 ≤ (g 23 j.toNatClampNeg).toInt ∧ (g 23 j.toNatClampNeg).toInt < 16384 := hw j.toNatClampNeg (by rw [cl_toNat]; omega) (by rw [cl_toNat]; omega)
      refine mm_25 hS ma_2 hi_241_37 (by decide) (by omega) (by omega) ?_
      show am_E _ _ _ _ _ (.int (gx 2 (g 23 j.toNatClampNeg).toNatClampNeg) :: _) _ _
      rw [show gx 2 = g 2 from hx 2 (by decide)]
      show am_E _ _ _ _ [some (.ref 39), some (.int w), some (.int k), some (.int c3), some (.int m), some (.int j)] [.int (g 2 (g 23 j.toNatClampNeg).toNatClampNeg), .ref 39] _ _
      refine am_e2 (v := 39) hi_241_38 rfl ?_
      refine mm_20 (v := .ref 49) hS hi_241_39 rfl ?_
      refine am_e1 (v := j) hi_241_42 rfl ?_
      refine mm_25 hS ma_21 hi_241_44 (by decide) (by omega) (by omega) ?_
      show am_E _ _ _ _ _ (.int (gx 21 j.toNatClampNeg) :: _) _ _
      rw [show gx 21 = g 21 from hx 21 (by decide)]
      show am_E _ _ _ _ [some (.ref 39), some (.int w), some (.int k), some (.int c3), some (.int m), some (.int j)] [.int (g 21 j.toNatClampNeg), .int (g 2 (g 23 j.toNatClampNeg).toNatClampNeg), .ref 39] _ _
      by_cases c13 : (g 21 j.toNatClampNeg).toInt ≤ (0 : Int)
      · refine am_e12t hi_241_45 (am_cT (m := (g 21 j.toNatClampNeg).toInt) (n := (0 : Int)) rfl (by decide) c13) ?_
        refine am_e0 hi_241_52 ?_
        refine am_e2 (v := 39) hi_241_53 rfl ?_
        refine mm_20 (v := .ref 49) hS hi_241_54 rfl ?_
        refine am_e1 (v := j) hi_241_57 rfl ?_
        refine mm_25 hS ma_21 hi_241_59 (by decide) (by omega) (by omega) ?_
        show am_E _ _ _ _ _ (.int (gx 21 j.toNatClampNeg) :: _) _ _
        rw [show gx 21 = g 21 from hx 21 (by decide)]
        show am_E _ _ _ _ [some (.ref 39), some (.int w), some (.int k), some (.int c3), some (.int m), some (.int j)] [.int (g 21 j.toNatClampNeg), .int 0, .int (g 2 (g 23 j.toNatClampNeg).toNatClampNeg), .ref 39] _ _
        refine am_e0 hi_241_60 ?_
        refine am_e13t hi_241_61 (am_cT (m := (g 21 j.toNatClampNeg).toInt) (n := (2 : Int)) rfl (by decide) (by simp only [am_cI]; omega)) ?_
        refine am_e0 hi_241_68 ?_
        refine am_e2 (v := 39) hi_241_69 rfl ?_
        refine mm_20 (v := .ref 51) hS hi_241_70 rfl ?_
        refine am_e1 (v := j) hi_241_73 rfl ?_
        refine mm_25 hS ma_23 hi_241_75 (by decide) (by omega) (by omega) ?_
        show am_E _ _ _ _ _ (.int (gx 23 j.toNatClampNeg) :: _) _ _
        rw [show gx 23 = g 23 from hx 23 (by decide)]
        show am_E _ _ _ _ [some (.ref 39), some (.int w), some (.int k), some (.int c3), some (.int m), some (.int j)] [.int (g 23 j.toNatClampNeg), .int 0, .int 0, .int (g 2 (g 23 j.toNatClampNeg).toNatClampNeg), .ref 39] _ _
        have r14 : 0 ≤ (g 23 j.toNatClampNeg).toInt ∧ (g 23 j.toNatClampNeg).toInt < 16384 := hw j.toNatClampNeg (by rw [cl_toNat]; omega) (by rw [cl_toNat]; omega)
        refine am_e32n (as := [.ref 39, .int (g 2 (g 23 j.toNatClampNeg).toNatClampNeg), .int 0, .int 0, .int (g 23 j.toNatClampNeg)]) (la := [some (.ref 39), some (.int (g 2 (g 23 j.toNatClampNeg).toNatClampNeg)), some (.int 0), some (.int 0), some (.int (g 23 j.toNatClampNeg)), none]) (rest := []) hi_241_76 (am_hd0 (M := 241) (by decide) 76) (Nat.le_of_ble_eq_true rfl) (Nat.le_of_ble_eq_true rfl) (show 5 ≤ am_P0.2.2.1 196 from by decide +kernel) rfl (am_recv_ok hS.fs) rfl rfl (ct_declare (d := d) hS hRl (by decide) (by decide)  (by show (0 : Int) ≤ (f 32).toInt; omega) (by show (f 32).toInt ≤ (63 : Int); omega) (by show (f 53).toInt ≤ (4096 : Int); omega) (by show (0 : Int) ≤ l.toInt; omega) (by show l.toInt ≤ (16383 : Int); omega) (by show (0 : Int) ≤ a.toInt; omega)) ?_
        rintro v15 S16 (⟨a17, b18, z19, y20, g'21, hv22, hS23, hR27, h24, h25, h26⟩)
        subst hv22
        have h24_ : z19.toInt = l.toInt + 1 := h24
        have h25_ : ∀ j, j ∉ [25, 26, 27, 28, 29, 30, 58] → g'21 j = gx j := h25
        have h26_ : (0 : Int) ≤ a17.toInt := h26
        replace hS23 : MS S0 S16 (upd (upd (upd (upd f 8 a17) 9 b18) 24 z19) 31 y20) g'21 := hS23
        have hR27_ : RJ (upd (upd (upd (upd f 8 a17) 9 b18) 24 z19) 31 y20) g'21 gs bc fl fk pj := hR27
        show am_E _ _ _ _ [some (.ref 39), some (.int w), some (.int k), some (.int c3), some (.int m), some (.int j)] [] _ _
        obtain ⟨z28, hz28, tz28⟩ := am_addI (x := j) (y := 1) (m := j.toInt) (n := (1 : Int)) rfl (by decide) (by omega) (by omega)
        refine am_e5 (v := j) (z := z28) (ls' := [some (.ref 39), some (.int w), some (.int k), some (.int c3), some (.int m), some (.int z28)]) hi_241_79 rfl hz28 rfl ?_
        refine am_e18 hi_241_82 ?_
        exact ih _ c3 m z28 a17 b18 z19 y20 _ hS23 hR27_ (fun j hj => (h25_ j hj).trans (hx j hj)) (by show k.toInt ≤ z28.toInt; omega) (by show z28.toInt ≤ (f 20).toInt; omega) (by show m.toInt = (f 20).toInt - k.toInt; omega) (by show z19.toInt = (f 24).toInt + z28.toInt - k.toInt; omega) (by show (0 : Int) ≤ a17.toInt; omega) (by show (f 20).toInt - z28.toInt < (N : Int); omega)
      · refine am_e12f hi_241_45 (am_cF (m := (g 21 j.toNatClampNeg).toInt) (n := (0 : Int)) rfl (by decide) c13) ?_
        refine am_e0 hi_241_48 ?_
        refine am_e18 hi_241_49 ?_
        refine am_e2 (v := 39) hi_241_53 rfl ?_
        refine mm_20 (v := .ref 49) hS hi_241_54 rfl ?_
        refine am_e1 (v := j) hi_241_57 rfl ?_
        refine mm_25 hS ma_21 hi_241_59 (by decide) (by omega) (by omega) ?_
        show am_E _ _ _ _ _ (.int (gx 21 j.toNatClampNeg) :: _) _ _
        rw [show gx 21 = g 21 from hx 21 (by decide)]
        show am_E _ _ _ _ [some (.ref 39), some (.int w), some (.int k), some (.int c3), some (.int m), some (.int j)] [.int (g 21 j.toNatClampNeg), .int 1, .int (g 2 (g 23 j.toNatClampNeg).toNatClampNeg), .ref 39] _ _
        refine am_e0 hi_241_60 ?_
        by_cases c29 : ¬ (g 21 j.toNatClampNeg).toInt = (2 : Int)
        · refine am_e13t hi_241_61 (am_cT (m := (g 21 j.toNatClampNeg).toInt) (n := (2 : Int)) rfl (by decide) c29) ?_
          refine am_e0 hi_241_68 ?_
          refine am_e2 (v := 39) hi_241_69 rfl ?_
          refine mm_20 (v := .ref 51) hS hi_241_70 rfl ?_
          refine am_e1 (v := j) hi_241_73 rfl ?_
          refine mm_25 hS ma_23 hi_241_75 (by decide) (by omega) (by omega) ?_
          show am_E _ _ _ _ _ (.int (gx 23 j.toNatClampNeg) :: _) _ _
          rw [show gx 23 = g 23 from hx 23 (by decide)]
          show am_E _ _ _ _ [some (.ref 39), some (.int w), some (.int k), some (.int c3), some (.int m), some (.int j)] [.int (g 23 j.toNatClampNeg), .int 0, .int 1, .int (g 2 (g 23 j.toNatClampNeg).toNatClampNeg), .ref 39] _ _
          have r30 : 0 ≤ (g 23 j.toNatClampNeg).toInt ∧ (g 23 j.toNatClampNeg).toInt < 16384 := hw j.toNatClampNeg (by rw [cl_toNat]; omega) (by rw [cl_toNat]; omega)
          refine am_e32n (as := [.ref 39, .int (g 2 (g 23 j.toNatClampNeg).toNatClampNeg), .int 1, .int 0, .int (g 23 j.toNatClampNeg)]) (la := [some (.ref 39), some (.int (g 2 (g 23 j.toNatClampNeg).toNatClampNeg)), some (.int 1), some (.int 0), some (.int (g 23 j.toNatClampNeg)), none]) (rest := []) hi_241_76 (am_hd0 (M := 241) (by decide) 76) (Nat.le_of_ble_eq_true rfl) (Nat.le_of_ble_eq_true rfl) (show 5 ≤ am_P0.2.2.1 196 from by decide +kernel) rfl (am_recv_ok hS.fs) rfl rfl (ct_declare (d := d) hS hRl (by decide) (by decide)  (by show (0 : Int) ≤ (f 32).toInt; omega) (by show (f 32).toInt ≤ (63 : Int); omega) (by show (f 53).toInt ≤ (4096 : Int); omega) (by show (0 : Int) ≤ l.toInt; omega) (by show l.toInt ≤ (16383 : Int); omega) (by show (0 : Int) ≤ a.toInt; omega)) ?_
          rintro v31 S32 (⟨a33, b34, z35, y36, g'37, hv38, hS39, hR43, h40, h41, h42⟩)
          subst hv38
          have h40_ : z35.toInt = l.toInt + 1 := h40
          have h41_ : ∀ j, j ∉ [25, 26, 27, 28, 29, 30, 58] → g'37 j = gx j := h41
          have h42_ : (0 : Int) ≤ a33.toInt := h42
          replace hS39 : MS S0 S32 (upd (upd (upd (upd f 8 a33) 9 b34) 24 z35) 31 y36) g'37 := hS39
          have hR43_ : RJ (upd (upd (upd (upd f 8 a33) 9 b34) 24 z35) 31 y36) g'37 gs bc fl fk pj := hR43
          show am_E _ _ _ _ [some (.ref 39), some (.int w), some (.int k), some (.int c3), some (.int m), some (.int j)] [] _ _
          obtain ⟨z44, hz44, tz44⟩ := am_addI (x := j) (y := 1) (m := j.toInt) (n := (1 : Int)) rfl (by decide) (by omega) (by omega)
          refine am_e5 (v := j) (z := z44) (ls' := [some (.ref 39), some (.int w), some (.int k), some (.int c3), some (.int m), some (.int z44)]) hi_241_79 rfl hz44 rfl ?_
          refine am_e18 hi_241_82 ?_
          exact ih _ c3 m z44 a33 b34 z35 y36 _ hS39 hR43_ (fun j hj => (h41_ j hj).trans (hx j hj)) (by show k.toInt ≤ z44.toInt; omega) (by show z44.toInt ≤ (f 20).toInt; omega) (by show m.toInt = (f 20).toInt - k.toInt; omega) (by show z35.toInt = (f 24).toInt + z44.toInt - k.toInt; omega) (by show (0 : Int) ≤ a33.toInt; omega) (by show (f 20).toInt - z44.toInt < (N : Int); omega)
        · refine am_e13f hi_241_61 (am_cF (m := (g 21 j.toNatClampNeg).toInt) (n := (2 : Int)) rfl (by decide) c29) ?_
          refine am_e0 hi_241_64 ?_
          refine am_e18 hi_241_65 ?_
          refine am_e2 (v := 39) hi_241_69 rfl ?_
          refine mm_20 (v := .ref 51) hS hi_241_70 rfl ?_
          refine am_e1 (v := j) hi_241_73 rfl ?_
          refine mm_25 hS ma_23 hi_241_75 (by decide) (by omega) (by omega) ?_
          show am_E _ _ _ _ _ (.int (gx 23 j.toNatClampNeg) :: _) _ _
          rw [show gx 23 = g 23 from hx 23 (by decide)]
          show am_E _ _ _ _ [some (.ref 39), some (.int w), some (.int k), some (.int c3), some (.int m), some (.int j)] [.int (g 23 j.toNatClampNeg), .int 1, .int 1, .int (g 2 (g 23 j.toNatClampNeg).toNatClampNeg), .ref 39] _ _
          have r45 : 0 ≤ (g 23 j.toNatClampNeg).toInt ∧ (g 23 j.toNatClampNeg).toInt < 16384 := hw j.toNatClampNeg (by rw [cl_toNat]; omega) (by rw [cl_toNat]; omega)
          refine am_e32n (as := [.ref 39, .int (g 2 (g 23 j.toNatClampNeg).toNatClampNeg), .int 1, .int 1, .int (g 23 j.toNatClampNeg)]) (la := [some (.ref 39), some (.int (g 2 (g 23 j.toNatClampNeg).toNatClampNeg)), some (.int 1), some (.int 1), some (.int (g 23 j.toNatClampNeg)), none]) (rest := []) hi_241_76 (am_hd0 (M := 241) (by decide) 76) (Nat.le_of_ble_eq_true rfl) (Nat.le_of_ble_eq_true rfl) (show 5 ≤ am_P0.2.2.1 196 from by decide +kernel) rfl (am_recv_ok hS.fs) rfl rfl (ct_declare (d := d) hS hRl (by decide) (by decide)  (by show (0 : Int) ≤ (f 32).toInt; omega) (by show (f 32).toInt ≤ (63 : Int); omega) (by show (f 53).toInt ≤ (4096 : Int); omega) (by show (0 : Int) ≤ l.toInt; omega) (by show l.toInt ≤ (16383 : Int); omega) (by show (0 : Int) ≤ a.toInt; omega)) ?_
          rintro v46 S47 (⟨a48, b49, z50, y51, g'52, hv53, hS54, hR58, h55, h56, h57⟩)
          subst hv53
          have h55_ : z50.toInt = l.toInt + 1 := h55
          have h56_ : ∀ j, j ∉ [25, 26, 27, 28, 29, 30, 58] → g'52 j = gx j := h56
          have h57_ : (0 : Int) ≤ a48.toInt := h57
          replace hS54 : MS S0 S47 (upd (upd (upd (upd f 8 a48) 9 b49) 24 z50) 31 y51) g'52 := hS54
          have hR58_ : RJ (upd (upd (upd (upd f 8 a48) 9 b49) 24 z50) 31 y51) g'52 gs bc fl fk pj := hR58
          show am_E _ _ _ _ [some (.ref 39), some (.int w), some (.int k), some (.int c3), some (.int m), some (.int j)] [] _ _
          obtain ⟨z59, hz59, tz59⟩ := am_addI (x := j) (y := 1) (m := j.toInt) (n := (1 : Int)) rfl (by decide) (by omega) (by omega)
          refine am_e5 (v := j) (z := z59) (ls' := [some (.ref 39), some (.int w), some (.int k), some (.int c3), some (.int m), some (.int z59)]) hi_241_79 rfl hz59 rfl ?_
          refine am_e18 hi_241_82 ?_
          exact ih _ c3 m z59 a48 b49 z50 y51 _ hS54 hR58_ (fun j hj => (h56_ j hj).trans (hx j hj)) (by show k.toInt ≤ z59.toInt; omega) (by show z59.toInt ≤ (f 20).toInt; omega) (by show m.toInt = (f 20).toInt - k.toInt; omega) (by show z50.toInt = (f 24).toInt + z59.toInt - k.toInt; omega) (by show (0 : Int) ≤ a48.toInt; omega) (by show (f 20).toInt - z59.toInt < (N : Int); omega)
theorem ct_localEnd {sc : Nat × (Nat → Int32)} {d : Nat} {S0 S : am_S} {f : Nat → Int32} {g : Nat → Nat → Int32} {w : Int32} {k : Int32} {gs : List mg_E} {bc : List (List Nat)} {fl : List Nat} {fk : Int} {pj : List Nat} (hS : MS S0 S f g) (hR : RJ f g gs bc fl fk pj) (hw : ∀ i : Nat, k.toInt ≤ (i : Int) → (i : Int) < (f 20).toInt → 0 ≤ (g 23 i).toInt ∧ (g 23 i).toInt < 16384) (p0 : (0 : Int) ≤ (f 32).toInt) (p1 : (f 32).toInt ≤ (63 : Int)) (p2 : (f 53).toInt ≤ (4096 : Int)) (p3 : (0 : Int) ≤ (f 24).toInt) (p4 : (f 24).toInt + (f 20).toInt ≤ 16000) (p5 : (0 : Int) ≤ k.toInt) (p6 : k.toInt ≤ (f 20).toInt) (p7 : (0 : Int) ≤ (f 68).toInt) (p8 : (f 68).toInt + (f 20).toInt ≤ 65530) (p9 : (0 : Int) ≤ (f 8).toInt) : am_E (am_PP sc) (d + 2) 241 0 [some (.ref 39), some (.int w), some (.int k), none, none, none] [] S (am_N fun v S1 => (∃ a : Int32, ∃ b : Int32, ∃ q : Int32, ∃ l : Int32, ∃ y : Int32, ∃ s : Int32, ∃ g' : Nat → Nat → Int32, v = none ∧ MS S0 S1 (upd (upd (upd (upd (upd (upd f 8 a) 9 b) 20 q) 24 l) 31 y) 68 s) g' ∧ (RJ (upd (upd (upd (upd (upd (upd f 8 a) 9 b) 20 q) 24 l) 31 y) 68 s) g' gs bc fl fk pj) ∧ (q.toInt = k.toInt) ∧ (l.toInt = (f 24).toInt + (f 20).toInt - k.toInt) ∧ ((f 68).toInt ≤ s.toInt) ∧ (s.toInt + k.toInt ≤ (f 68).toInt + (f 20).toInt + 1) ∧ (∀ j, j ∉ [25, 26, 27, 28, 29, 30, 58, 60, 69, 70, 71, 72, 73] → g' j = g j) ∧ ((0 : Int) ≤ a.toInt))) := by
  refine am_e2 (v := 39) hi_241_0 rfl ?_
  refine am_e32n (as := [.ref 39]) (la := [some (.ref 39)]) (rest := []) hi_241_1 (am_hd0 (M := 241) (by decide) 1) (Nat.le_of_ble_eq_true rfl) (Nat.le_of_ble_eq_true rfl) (show 1 ≤ am_P0.2.2.1 197 from by decide +kernel) rfl (am_recv_ok hS.fs) rfl rfl (ct_count (d := (d + 1)) hS   (by show (0 : Int) ≤ (f 32).toInt; omega) (by show (f 32).toInt ≤ (63 : Int); omega)) ?_
  rintro v0 S1 (⟨r2, hv3, hS4⟩)
  subst hv3
  show am_E _ _ _ _ [some (.ref 39), some (.int w), some (.int k), none, none, none] [.int r2] _ _
  refine am_e3 (ls' := [some (.ref 39), some (.int w), some (.int k), some (.int r2), none, none]) hi_241_4 (Nat.le_of_ble_eq_true rfl) rfl ?_
  refine am_e2 (v := 39) hi_241_5 rfl ?_
  refine mm_20 (v := .int (f 20)) hS4 hi_241_6 rfl ?_
  refine am_e1 (v := k) hi_241_9 rfl ?_
  obtain ⟨z6, hz6, tz6⟩ := am_subI (x := f 20) (y := k) (m := (f 20).toInt) (n := k.toInt) rfl rfl (by omega) (by omega)
  refine am_e10 (z := z6) hi_241_10 hz6 ?_
  refine am_e3 (ls' := [some (.ref 39), some (.int w), some (.int k), some (.int r2), some (.int z6), none]) hi_241_11 (Nat.le_of_ble_eq_true rfl) rfl ?_
  refine am_e1 (v := k) hi_241_13 rfl ?_
  refine am_e3 (ls' := [some (.ref 39), some (.int w), some (.int k), some (.int r2), some (.int z6), some (.int k)]) hi_241_14 (Nat.le_of_ble_eq_true rfl) rfl ?_
  exact lp_localEnd1 hR hw p0 p1 p2 p3 p4 p5 p6 p7 p8 p9 (((f 20).toInt - k.toInt).toNat + 1) _ r2 z6 k (f 8) (f 9) (f 24) (f 31) _ hS4 hR (fun _ _ => rfl) (by show k.toInt ≤ k.toInt; omega) (by show k.toInt ≤ (f 20).toInt; omega) (by show z6.toInt = (f 20).toInt - k.toInt; omega) (by show (f 24).toInt = (f 24).toInt + k.toInt - k.toInt; omega) (by show (0 : Int) ≤ (f 8).toInt; omega) (by show (f 20).toInt - k.toInt < _; omega)
