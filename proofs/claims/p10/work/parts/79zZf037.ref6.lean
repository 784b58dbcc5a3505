/-! THE REFERENCE: chains, blocks closed, gotos (printed by wip/p2/ref6.py) -/
theorem lp_mend {sc : Nat × (Nat → Int32)} {d : Nat} {S0 : am_S} {f : Nat → Int32} {g : Nat → Nat → Int32} {ch : Int32} {gs : List mg_E} {bc : List (List Nat)} {fl : List Nat} {fk : Int} {pj : List Nat}  (hR : RJ f g gs bc fl fk pj) (hch : ch.toInt = fk) (p0 : (0 : Int) ≤ (f 32).toInt) (p1 : (f 32).toInt ≤ (63 : Int)) (p2 : (f 53).toInt ≤ (4096 : Int)) (p3 : (0 : Int) ≤ (f 68).toInt) (p4 : (f 68).toInt ≤ (65534 : Int)) : ∀ (N : Nat) (S : am_S) (x3 : Option Value) (k : Int32) (gx : Nat → Nat → Int32) (fx : List Nat), MS S0 S f gx → RJ f gx gs bc fx k.toInt pj → (∀ j, j ∉ [71] → gx j = g j) → (fx.length : Int) < (N : Int) → am_E (am_PP sc) (d + 1) 250 2 [some (.ref 39), some (.int ch), some (.int k), x3] [] S (am_N fun v S1 => (∃ g' : Nat → Nat → Int32, v = none ∧ MS S0 S1 f g' ∧ (RJ f g' gs bc [] 0 pj) ∧ (∀ j, j ∉ [71] → g' j = g j))) := by
  intro N
  induction N with
  | zero =>
    intro S x3 k gx fx hS hRl hx  hN
    exfalso
    omega
  | succ N ih =>
    intro S x3 k gx fx hS hRl hx  hN
    rcases RJ.head hRl with ⟨e1, e2⟩ | ⟨i, r, e1, e2, e3⟩
    · subst e1
      have hR0 : RJ f gx gs bc [] 0 pj := by rw [e2] at hRl; exact hRl
      have e2_ : k.toInt = 0 := e2
      refine am_e1 (v := k) hi_250_2 rfl ?_
      refine am_e12t hi_250_3 (am_cT (m := k.toInt) (n := (0 : Int)) rfl (by decide) (by simp only [am_cI]; omega)) ?_
      refine am_e35 hi_250_32 ?_
      exact ⟨_, rfl, hS, hR0, hx⟩
    · subst e1
      have e2_ : k.toInt = (i : Int) + 1 := e2
      have e3_ : (i : Int) < (f 68).toInt := e3
      refine am_e1 (v := k) hi_250_2 rfl ?_
      refine am_e12f hi_250_3 (am_cF (m := k.toInt) (n := (0 : Int)) rfl (by decide) (by simp only [am_cI]; omega)) ?_
      refine am_e2 (v := 39) hi_250_6 rfl ?_
      refine mm_20 (v := .ref 90) hS hi_250_7 rfl ?_
      refine am_e1 (v := k) hi_250_10 rfl ?_
      refine am_e0 hi_250_11 ?_
      obtain ⟨z0, hz0, tz0⟩ := am_subI (x := k) (y := 1) (m := k.toInt) (n := (1 : Int)) rfl (by decide) (by omega) (by omega)
      refine am_e10 (z := z0) hi_250_12 hz0 ?_
      refine mm_25 hS ma_71 hi_250_13 (by decide) (by omega) (by omega) ?_
      show am_E _ _ _ _ [some (.ref 39), some (.int ch), some (.int k), x3] [.int (gx 71 z0.toNatClampNeg)] _ _
      refine am_e3 (ls' := [some (.ref 39), some (.int ch), some (.int k), some (.int (gx 71 z0.toNatClampNeg))]) hi_250_14 (Nat.le_of_ble_eq_true rfl) rfl ?_
      refine am_e2 (v := 39) hi_250_15 rfl ?_
      refine mm_20 (v := .ref 90) hS hi_250_16 rfl ?_
      refine am_e1 (v := k) hi_250_19 rfl ?_
      refine am_e0 hi_250_20 ?_
      refine am_e10 (z := z0) hi_250_21 hz0 ?_
      refine am_e2 (v := 39) hi_250_22 rfl ?_
      refine am_e32n (as := [.ref 39]) (la := [some (.ref 39)]) (rest := [.int z0, .ref 90]) hi_250_23 (am_hd0 (M := 250) (by decide) 23) (Nat.le_of_ble_eq_true rfl) (Nat.le_of_ble_eq_true rfl) (show 1 ≤ am_P0.2.2.1 210 from by decide +kernel) rfl (am_recv_ok hS.fs) rfl rfl (ct_here (d := d) hS hRl  (by show (0 : Int) ≤ (f 32).toInt; omega) (by show (f 32).toInt ≤ (63 : Int); omega) (by show (f 53).toInt ≤ (4096 : Int); omega) (by show (0 : Int) ≤ (f 68).toInt; omega) (by show (f 68).toInt ≤ (65534 : Int); omega)) ?_
      rintro v1 S2 (⟨r3, hv4, hS5, h6, h7⟩)
      subst hv4
      have h6_ : (0 : Int) ≤ r3.toInt := h6
      have h7_ : r3.toInt ≤ (f 68).toInt := h7
      show am_E _ _ _ _ [some (.ref 39), some (.int ch), some (.int k), some (.int (gx 71 z0.toNatClampNeg))] [.int r3, .int z0, .ref 90] _ _
      refine mm_26 hS5 ma_71 hi_250_26 (by decide) (by omega) (by omega) (fun h => nomatch h) ?_
      intro S9 hS10
      refine am_e1 (v := gx 71 z0.toNatClampNeg) hi_250_27 rfl ?_
      refine am_e3 (ls' := [some (.ref 39), some (.int ch), some (.int (gx 71 z0.toNatClampNeg)), some (.int (gx 71 z0.toNatClampNeg))]) hi_250_28 (Nat.le_of_ble_eq_true rfl) rfl ?_
      refine am_e18 hi_250_29 ?_
      rw [List.length_cons] at hN
      exact ih _ (some (.int (gx 71 z0.toNatClampNeg))) (gx 71 z0.toNatClampNeg) _ r hS10 (by have hi : z0.toNatClampNeg = i := (by rw [cl_toNat]; omega); rw [hi]; exact rj_mend hRl) (fun j hj => ((show ∀ j, j ∉ [71] → (upg gx 71 z0.toNatClampNeg r3) j = gx j from by intro j hj; simp only [List.mem_cons, List.not_mem_nil, or_false, not_or] at hj; simp only [upg, hj, if_false]) j hj).trans (hx j hj)) (by show (r.length : Int) < (N : Int); omega)
theorem ct_mend {sc : Nat × (Nat → Int32)} {d : Nat} {S0 S : am_S} {f : Nat → Int32} {g : Nat → Nat → Int32} {ch : Int32} {gs : List mg_E} {bc : List (List Nat)} {fl : List Nat} {fk : Int} {pj : List Nat} (hS : MS S0 S f g) (hR : RJ f g gs bc fl fk pj) (hch : ch.toInt = fk) (p0 : (0 : Int) ≤ (f 32).toInt) (p1 : (f 32).toInt ≤ (63 : Int)) (p2 : (f 53).toInt ≤ (4096 : Int)) (p3 : (0 : Int) ≤ (f 68).toInt) (p4 : (f 68).toInt ≤ (65534 : Int)) : am_E (am_PP sc) (d + 1) 250 0 [some (.ref 39), some (.int ch), none, none] [] S (am_N fun v S1 => (∃ g' : Nat → Nat → Int32, v = none ∧ MS S0 S1 f g' ∧ (RJ f g' gs bc [] 0 pj) ∧ (∀ j, j ∉ [71] → g' j = g j))) := by
  refine am_e1 (v := ch) hi_250_0 rfl ?_
  refine am_e3 (ls' := [some (.ref 39), some (.int ch), some (.int ch), none]) hi_250_1 (Nat.le_of_ble_eq_true rfl) rfl ?_
  exact lp_mend hR hch p0 p1 p2 p3 p4 (((fl.length : Int)).toNat + 1) _ none ch _ fl hS (by rw [hch]; exact hR) (fun _ _ => rfl) (by show (fl.length : Int) < _; omega)
theorem lp_mendBreaks {sc : Nat × (Nat → Int32)} {d : Nat} {S0 : am_S} {f : Nat → Int32} {g : Nat → Nat → Int32} {gs : List mg_E} {bc : List (List Nat)} {fl : List Nat} {fk : Int} {pj : List Nat}  (hR : RJ f g gs bc fl fk pj) (hch : (g 43 (f 37).toNatClampNeg).toInt = fk) (p0 : (0 : Int) ≤ (f 32).toInt) (p1 : (f 32).toInt ≤ (63 : Int)) (p2 : (f 53).toInt ≤ (4096 : Int)) (p3 : (0 : Int) ≤ (f 68).toInt) (p4 : (f 68).toInt ≤ (65534 : Int)) (p5 : (0 : Int) ≤ (f 37).toInt) (p6 : (f 37).toInt ≤ (127 : Int)) : ∀ (N : Nat) (S : am_S) (x3 : Option Value) (k : Int32) (gx : Nat → Nat → Int32) (fx : List Nat), MS S0 S f gx → RJ f gx gs bc fx k.toInt pj → (∀ j, j ∉ [71] → gx j = g j) → (fx.length : Int) < (N : Int) → am_E (am_PP sc) (d + 1) 246 10 [some (.ref 39), some (.int k), x3] [] S (am_N fun v S1 => (∃ g' : Nat → Nat → Int32, v = none ∧ MS S0 S1 f g' ∧ (RJ f g' gs bc [] 0 pj) ∧ (∀ j, j ∉ [71] → g' j = g j))) := by
  intro N
  induction N with
  | zero =>
    intro S x3 k gx fx hS hRl hx  hN
    exfalso
    omega
  | succ N ih =>
    intro S x3 k gx fx hS hRl hx  hN
    rcases RJ.head hRl with ⟨e1, e2⟩ | ⟨i, r, e1, e2, e3⟩
    · subst e1
      have hR0 : RJ f gx gs bc [] 0 pj := by rw [e2] at hRl; exact hRl
      have e2_ : k.toInt = 0 := e2
      refine am_e1 (v := k) hi_246_10 rfl ?_
      refine am_e12t hi_246_11 (am_cT (m := k.toInt) (n := (0 : Int)) rfl (by decide) (by simp only [am_cI]; omega)) ?_
      refine am_e35 hi_246_40 ?_
      exact ⟨_, rfl, hS, hR0, hx⟩
    · subst e1
      have e2_ : k.toInt = (i : Int) + 1 := e2
      have e3_ : (i : Int) < (f 68).toInt := e3
      refine am_e1 (v := k) hi_246_10 rfl ?_
      refine am_e12f hi_246_11 (am_cF (m := k.toInt) (n := (0 : Int)) rfl (by decide) (by simp only [am_cI]; omega)) ?_
      refine am_e2 (v := 39) hi_246_14 rfl ?_
      refine mm_20 (v := .ref 90) hS hi_246_15 rfl ?_
      refine am_e1 (v := k) hi_246_18 rfl ?_
      refine am_e0 hi_246_19 ?_
      obtain ⟨z0, hz0, tz0⟩ := am_subI (x := k) (y := 1) (m := k.toInt) (n := (1 : Int)) rfl (by decide) (by omega) (by omega)
      refine am_e10 (z := z0) hi_246_20 hz0 ?_
      refine mm_25 hS ma_71 hi_246_21 (by decide) (by omega) (by omega) ?_
      show am_E _ _ _ _ [some (.ref 39), some (.int k), x3] [.int (gx 71 z0.toNatClampNeg)] _ _
      refine am_e3 (ls' := [some (.ref 39), some (.int k), some (.int (gx 71 z0.toNatClampNeg))]) hi_246_22 (Nat.le_of_ble_eq_true rfl) rfl ?_
      refine am_e2 (v := 39) hi_246_23 rfl ?_
      refine mm_20 (v := .ref 90) hS hi_246_24 rfl ?_
      refine am_e1 (v := k) hi_246_27 rfl ?_
      refine am_e0 hi_246_28 ?_
      refine am_e10 (z := z0) hi_246_29 hz0 ?_
      refine am_e2 (v := 39) hi_246_30 rfl ?_
      refine am_e32n (as := [.ref 39]) (la := [some (.ref 39)]) (rest := [.int z0, .ref 90]) hi_246_31 (am_hd0 (M := 246) (by decide) 31) (Nat.le_of_ble_eq_true rfl) (Nat.le_of_ble_eq_true rfl) (show 1 ≤ am_P0.2.2.1 210 from by decide +kernel) rfl (am_recv_ok hS.fs) rfl rfl (ct_here (d := d) hS hRl  (by show (0 : Int) ≤ (f 32).toInt; omega) (by show (f 32).toInt ≤ (63 : Int); omega) (by show (f 53).toInt ≤ (4096 : Int); omega) (by show (0 : Int) ≤ (f 68).toInt; omega) (by show (f 68).toInt ≤ (65534 : Int); omega)) ?_
      rintro v1 S2 (⟨r3, hv4, hS5, h6, h7⟩)
      subst hv4
      have h6_ : (0 : Int) ≤ r3.toInt := h6
      have h7_ : r3.toInt ≤ (f 68).toInt := h7
      show am_E _ _ _ _ [some (.ref 39), some (.int k), some (.int (gx 71 z0.toNatClampNeg))] [.int r3, .int z0, .ref 90] _ _
      refine mm_26 hS5 ma_71 hi_246_34 (by decide) (by omega) (by omega) (fun h => nomatch h) ?_
      intro S9 hS10
      refine am_e1 (v := gx 71 z0.toNatClampNeg) hi_246_35 rfl ?_
      refine am_e3 (ls' := [some (.ref 39), some (.int (gx 71 z0.toNatClampNeg)), some (.int (gx 71 z0.toNatClampNeg))]) hi_246_36 (Nat.le_of_ble_eq_true rfl) rfl ?_
      refine am_e18 hi_246_37 ?_
      rw [List.length_cons] at hN
      exact ih _ (some (.int (gx 71 z0.toNatClampNeg))) (gx 71 z0.toNatClampNeg) _ r hS10 (by have hi : z0.toNatClampNeg = i := (by rw [cl_toNat]; omega); rw [hi]; exact rj_mend hRl) (fun j hj => ((show ∀ j, j ∉ [71] → (upg gx 71 z0.toNatClampNeg r3) j = gx j from by intro j hj; simp only [List.mem_cons, List.not_mem_nil, or_false, not_or] at hj; simp only [upg, hj, if_false]) j hj).trans (hx j hj)) (by show (r.length : Int) < (N : Int); omega)
theorem ct_mendBreaks {sc : Nat × (Nat → Int32)} {d : Nat} {S0 S : am_S} {f : Nat → Int32} {g : Nat → Nat → Int32} {gs : List mg_E} {bc : List (List Nat)} {fl : List Nat} {fk : Int} {pj : List Nat} (hS : MS S0 S f g) (hR : RJ f g gs bc fl fk pj) (hch : (g 43 (f 37).toNatClampNeg).toInt = fk) (p0 : (0 : Int) ≤ (f 32).toInt) (p1 : (f 32).toInt ≤ (63 : Int)) (p2 : (f 53).toInt ≤ (4096 : Int)) (p3 : (0 : Int) ≤ (f 68).toInt) (p4 : (f 68).toInt ≤ (65534 : Int)) (p5 : (0 : Int) ≤ (f 37).toInt) (p6 : (f 37).toInt ≤ (127 : Int)) : am_E (am_PP sc) (d + 1) 246 0 [some (.ref 39), none, none] [] S (am_N fun v S1 => (∃ g' : Nat → Nat → Int32, v = none ∧ MS S0 S1 f g' ∧ (RJ f g' gs bc [] 0 pj) ∧ (∀ j, j ∉ [71] → g' j = g j))) := by
  refine am_e2 (v := 39) hi_246_0 rfl ?_
  refine mm_20 (v := .ref 67) hS hi_246_1 rfl ?_
  refine am_e2 (v := 39) hi_246_4 rfl ?_
  refine mm_20 (v := .int (f 37)) hS hi_246_5 rfl ?_
  refine mm_25 hS ma_43 hi_246_8 (by decide) (by omega) (by omega) ?_
  show am_E _ _ _ _ [some (.ref 39), none, none] [.int (g 43 (f 37).toNatClampNeg)] _ _
  refine am_e3 (ls' := [some (.ref 39), some (.int (g 43 (f 37).toNatClampNeg)), none]) hi_246_9 (Nat.le_of_ble_eq_true rfl) rfl ?_
  exact lp_mendBreaks hR hch p0 p1 p2 p3 p4 p5 p6 (((fl.length : Int)).toNat + 1) _ none (g 43 (f 37).toNatClampNeg) _ fl hS (by rw [hch]; exact hR) (fun _ _ => rfl) (by show (fl.length : Int) < _; omega)
