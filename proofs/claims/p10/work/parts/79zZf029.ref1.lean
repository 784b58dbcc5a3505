/-! THE REFERENCE: words, faults, levels (printed by wip/p2/ref1.py) -/
theorem ct_kindAt {sc : Nat × (Nat → Int32)} {d : Nat} {S0 S : am_S} {f : Nat → Int32} {g : Nat → Nat → Int32} {w : Int32} (hS : MS S0 S f g) (p0 : (0 : Int) ≤ w.toInt) (p1 : (f 0).toInt ≤ (16384 : Int)) : am_E (am_PP sc) (d + 0) 184 0 [some (.ref 39), some (.int w)] [] S (am_N fun v S1 => (∃ r : Int32, v = some (.int r) ∧ MS S0 S1 f g ∧ (w.toInt < (f 0).toInt ∨ r.toInt = (-1 : Int)))) := by
  refine am_e1 (v := w) hi_184_0 rfl ?_
  refine am_e2 (v := 39) hi_184_1 rfl ?_
  refine mm_20 (v := .int (f 0)) hS hi_184_2 rfl ?_
  by_cases c0 : (f 0).toInt ≤ w.toInt
  · refine am_e13t hi_184_5 (am_cT (m := w.toInt) (n := (f 0).toInt) rfl rfl c0) ?_
    refine am_e0 hi_184_17 ?_
    refine am_e33 hi_184_18 ?_
    exact ⟨(-1), rfl, hS, (by show w.toInt < (f 0).toInt ∨ (-1 : Int) = (-1 : Int); omega)⟩
  · refine am_e13f hi_184_5 (am_cF (m := w.toInt) (n := (f 0).toInt) rfl rfl c0) ?_
    refine am_e2 (v := 39) hi_184_8 rfl ?_
    refine mm_20 (v := .ref 40) hS hi_184_9 rfl ?_
    refine am_e1 (v := w) hi_184_12 rfl ?_
    refine mm_25 hS ma_1 hi_184_13 (by decide) (by omega) (by omega) ?_
    show am_E _ _ _ _ [some (.ref 39), some (.int w)] [.int (g 1 w.toNatClampNeg)] _ _
    refine am_e18 hi_184_14 ?_
    refine am_e33 hi_184_18 ?_
    exact ⟨g 1 w.toNatClampNeg, rfl, hS, (by show w.toInt < (f 0).toInt ∨ (g 1 w.toNatClampNeg).toInt = (-1 : Int); omega)⟩
theorem ct_next {sc : Nat × (Nat → Int32)} {d : Nat} {S0 S : am_S} {f : Nat → Int32} {g : Nat → Nat → Int32} (hS : MS S0 S f g) (p0 : (0 : Int) ≤ (f 4).toInt) (p1 : (f 0).toInt ≤ (16384 : Int)) : am_E (am_PP sc) (d + 1) 183 0 [some (.ref 39)] [] S (am_N fun v S1 => (∃ r : Int32, v = some (.int r) ∧ MS S0 S1 f g ∧ ((f 4).toInt < (f 0).toInt ∨ r.toInt = (-1 : Int)))) := by
  refine am_e2 (v := 39) hi_183_0 rfl ?_
  refine am_e2 (v := 39) hi_183_1 rfl ?_
  refine mm_20 (v := .int (f 4)) hS hi_183_2 rfl ?_
  refine am_e32n (as := [.ref 39, .int (f 4)]) (la := [some (.ref 39), some (.int (f 4))]) (rest := []) hi_183_5 (am_hd0 (M := 183) (by decide) 5) (Nat.le_of_ble_eq_true rfl) (Nat.le_of_ble_eq_true rfl) (show 2 ≤ am_P0.2.2.1 184 from by decide +kernel) rfl (am_recv_ok hS.fs) rfl rfl (ct_kindAt (d := d) hS   (by show (0 : Int) ≤ (f 4).toInt; omega) (by show (f 0).toInt ≤ (16384 : Int); omega)) ?_
  rintro v0 S1 (⟨r2, hv3, hS4, h5⟩)
  subst hv3
  have h5_ : (f 4).toInt < (f 0).toInt ∨ r2.toInt = (-1 : Int) := h5
  show am_E _ _ _ _ [some (.ref 39)] [.int r2] _ _
  refine am_e33 hi_183_8 ?_
  exact ⟨r2, rfl, hS4, (by show (f 4).toInt < (f 0).toInt ∨ r2.toInt = (-1 : Int); omega)⟩
theorem ct_fail {sc : Nat × (Nat → Int32)} {d : Nat} {S0 S : am_S} {f : Nat → Int32} {g : Nat → Nat → Int32} {k : Int32} (hS : MS S0 S f g) (p0 : (0 : Int) ≤ k.toInt) (p1 : (0 : Int) ≤ (f 6).toInt) : am_E (am_PP sc) (d + 0) 194 0 [some (.ref 39), some (.int k)] [] S (am_N fun v S1 => (∃ a : Int32, ∃ b : Int32, v = some (.int 0) ∧ MS S0 S1 (upd (upd (upd f 6 a) 7 b) 10 0) g ∧ ((0 : Int) ≤ a.toInt))) := by
  refine am_e2 (v := 39) hi_194_0 rfl ?_
  refine mm_20 (v := .int (f 6)) hS hi_194_1 rfl ?_
  by_cases c0 : ¬ (f 6).toInt = (0 : Int)
  · refine am_e12t hi_194_4 (am_cT (m := (f 6).toInt) (n := (0 : Int)) rfl (by decide) c0) ?_
    refine am_e2 (v := 39) hi_194_20 rfl ?_
    refine am_e0 hi_194_21 ?_
    refine mm_21 (v := 0) hS hi_194_22 rfl (Nat.le_of_ble_eq_true rfl) ms_10 ?_
    intro S1 hS2
    refine am_e0 hi_194_25 ?_
    refine am_e36 hi_194_26 (by decide) ?_
    exact ⟨(f 6), (f 7), rfl, (by rw [upd_self, upd_self]; exact hS2), (by show (0 : Int) ≤ ((f 6)).toInt; omega)⟩
  · refine am_e12f hi_194_4 (am_cF (m := (f 6).toInt) (n := (0 : Int)) rfl (by decide) c0) ?_
    refine am_e2 (v := 39) hi_194_7 rfl ?_
    refine am_e1 (v := k) hi_194_8 rfl ?_
    refine mm_21 (v := k) hS hi_194_9 rfl (Nat.le_of_ble_eq_true rfl) ms_6 ?_
    intro S3 hS4
    refine am_e2 (v := 39) hi_194_12 rfl ?_
    refine am_e2 (v := 39) hi_194_13 rfl ?_
    refine mm_20 (v := .int (f 4)) hS4 hi_194_14 rfl ?_
    refine mm_21 (v := f 4) hS4 hi_194_17 rfl (Nat.le_of_ble_eq_true rfl) ms_7 ?_
    intro S5 hS6
    refine am_e2 (v := 39) hi_194_20 rfl ?_
    refine am_e0 hi_194_21 ?_
    refine mm_21 (v := 0) hS6 hi_194_22 rfl (Nat.le_of_ble_eq_true rfl) ms_10 ?_
    intro S7 hS8
    refine am_e0 hi_194_25 ?_
    refine am_e36 hi_194_26 (by decide) ?_
    exact ⟨k, f 4, rfl, hS8, (by show (0 : Int) ≤ k.toInt; omega)⟩
theorem ct_failName {sc : Nat × (Nat → Int32)} {d : Nat} {S0 S : am_S} {f : Nat → Int32} {g : Nat → Nat → Int32} {k : Int32} {w : Int32} (hS : MS S0 S f g) (p0 : (0 : Int) ≤ k.toInt) (p1 : (0 : Int) ≤ (f 8).toInt) : am_E (am_PP sc) (d + 0) 191 0 [some (.ref 39), some (.int k), some (.int w)] [] S (am_N fun v S1 => (∃ a : Int32, ∃ b : Int32, v = none ∧ MS S0 S1 (upd (upd f 8 a) 9 b) g ∧ ((0 : Int) ≤ a.toInt))) := by
  refine am_e2 (v := 39) hi_191_0 rfl ?_
  refine mm_20 (v := .int (f 8)) hS hi_191_1 rfl ?_
  by_cases c0 : (f 8).toInt = (0 : Int)
  · refine am_e12t hi_191_4 (am_cT (m := (f 8).toInt) (n := (0 : Int)) rfl (by decide) c0) ?_
    refine am_e2 (v := 39) hi_191_15 rfl ?_
    refine am_e1 (v := k) hi_191_16 rfl ?_
    refine mm_21 (v := k) hS hi_191_17 rfl (Nat.le_of_ble_eq_true rfl) ms_8 ?_
    intro S1 hS2
    refine am_e2 (v := 39) hi_191_20 rfl ?_
    refine am_e1 (v := w) hi_191_21 rfl ?_
    refine mm_21 (v := w) hS2 hi_191_22 rfl (Nat.le_of_ble_eq_true rfl) ms_9 ?_
    intro S3 hS4
    refine am_e35 hi_191_25 ?_
    exact ⟨k, w, rfl, hS4, (by show (0 : Int) ≤ k.toInt; omega)⟩
  · refine am_e12f hi_191_4 (am_cF (m := (f 8).toInt) (n := (0 : Int)) rfl (by decide) c0) ?_
    refine am_e1 (v := w) hi_191_7 rfl ?_
    refine am_e2 (v := 39) hi_191_8 rfl ?_
    refine mm_20 (v := .int (f 9)) hS hi_191_9 rfl ?_
    by_cases c5 : (f 9).toInt ≤ w.toInt
    · refine am_e13t hi_191_12 (am_cT (m := w.toInt) (n := (f 9).toInt) rfl rfl c5) ?_
      refine am_e35 hi_191_25 ?_
      exact ⟨(f 8), (f 9), rfl, (by rw [upd_self, upd_self]; exact hS), (by show (0 : Int) ≤ ((f 8)).toInt; omega)⟩
    · refine am_e13f hi_191_12 (am_cF (m := w.toInt) (n := (f 9).toInt) rfl rfl c5) ?_
      refine am_e2 (v := 39) hi_191_15 rfl ?_
      refine am_e1 (v := k) hi_191_16 rfl ?_
      refine mm_21 (v := k) hS hi_191_17 rfl (Nat.le_of_ble_eq_true rfl) ms_8 ?_
      intro S6 hS7
      refine am_e2 (v := 39) hi_191_20 rfl ?_
      refine am_e1 (v := w) hi_191_21 rfl ?_
      refine mm_21 (v := w) hS7 hi_191_22 rfl (Nat.le_of_ble_eq_true rfl) ms_9 ?_
      intro S8 hS9
      refine am_e35 hi_191_25 ?_
      exact ⟨k, w, rfl, hS9, (by show (0 : Int) ≤ k.toInt; omega)⟩
theorem ct_take {sc : Nat × (Nat → Int32)} {d : Nat} {S0 S : am_S} {f : Nat → Int32} {g : Nat → Nat → Int32} {k : Int32} (hS : MS S0 S f g) (p0 : (0 : Int) ≤ (f 4).toInt) (p1 : (f 0).toInt ≤ (16384 : Int)) (p2 : (0 : Int) ≤ k.toInt) (p3 : (0 : Int) ≤ (f 6).toInt) : am_E (am_PP sc) (d + 2) 200 0 [some (.ref 39), some (.int k)] [] S (am_N fun v S1 => (∃ z : Int32, v = some (.int 1) ∧ MS S0 S1 (upd f 4 z) g ∧ (z.toInt = (f 4).toInt + 1) ∧ ((f 4).toInt < (f 0).toInt)) ∨ (∃ a : Int32, ∃ b : Int32, v = some (.int 0) ∧ MS S0 S1 (upd (upd (upd f 6 a) 7 b) 10 0) g ∧ ((0 : Int) ≤ a.toInt))) := by
  refine am_e2 (v := 39) hi_200_0 rfl ?_
  refine am_e32n (as := [.ref 39]) (la := [some (.ref 39)]) (rest := []) hi_200_1 (am_hd0 (M := 200) (by decide) 1) (Nat.le_of_ble_eq_true rfl) (Nat.le_of_ble_eq_true rfl) (show 1 ≤ am_P0.2.2.1 183 from by decide +kernel) rfl (am_recv_ok hS.fs) rfl rfl (ct_next (d := d) hS   (by show (0 : Int) ≤ (f 4).toInt; omega) (by show (f 0).toInt ≤ (16384 : Int); omega)) ?_
  rintro v0 S1 (⟨r2, hv3, hS4, h5⟩)
  subst hv3
  have h5_ : (f 4).toInt < (f 0).toInt ∨ r2.toInt = (-1 : Int) := h5
  show am_E _ _ _ _ [some (.ref 39), some (.int k)] [.int r2] _ _
  refine am_e1 (v := k) hi_200_4 rfl ?_
  by_cases c7 : r2.toInt = k.toInt
  · refine am_e13t hi_200_5 (am_cT (m := r2.toInt) (n := k.toInt) rfl rfl c7) ?_
    refine am_e2 (v := 39) hi_200_15 rfl ?_
    refine am_e7 hi_200_16 ?_
    refine mm_20 (v := .int (f 4)) hS4 hi_200_17 rfl ?_
    refine am_e0 hi_200_20 ?_
    obtain ⟨z8, hz8, tz8⟩ := am_addI (x := f 4) (y := 1) (m := (f 4).toInt) (n := (1 : Int)) rfl (by decide) (by omega) (by omega)
    refine am_e10 (z := z8) hi_200_21 hz8 ?_
    refine mm_21 (v := z8) hS4 hi_200_22 rfl (Nat.le_of_ble_eq_true rfl) ms_4 ?_
    intro S9 hS10
    refine am_e0 hi_200_25 ?_
    refine am_e36 hi_200_26 (by decide) ?_
    exact Or.inl ⟨z8, rfl, hS10, (by show z8.toInt = (f 4).toInt + 1; omega), (by show (f 4).toInt < (f 0).toInt; omega)⟩
  · refine am_e13f hi_200_5 (am_cF (m := r2.toInt) (n := k.toInt) rfl rfl c7) ?_
    refine am_e2 (v := 39) hi_200_8 rfl ?_
    refine am_e0 hi_200_9 ?_
    refine am_e32n (as := [.ref 39, .int 7]) (la := [some (.ref 39), some (.int 7)]) (rest := []) hi_200_11 (am_hd0 (M := 200) (by decide) 11) (Nat.le_of_ble_eq_true rfl) (Nat.le_of_ble_eq_true rfl) (show 2 ≤ am_P0.2.2.1 194 from by decide +kernel) rfl (am_recv_ok hS4.fs) rfl rfl (ct_fail (d := (d + 1)) hS4   (by show (0 : Int) ≤ (7 : Int); omega) (by show (0 : Int) ≤ (f 6).toInt; omega)) ?_
    rintro v11 S12 (⟨a13, b14, hv15, hS16, h17⟩)
    subst hv15
    have h17_ : (0 : Int) ≤ a13.toInt := h17
    show am_E _ _ _ _ [some (.ref 39), some (.int k)] [.int 0] _ _
    refine am_e36 hi_200_14 (by decide) ?_
    exact Or.inr (⟨a13, b14, rfl, hS16, (by show (0 : Int) ≤ a13.toInt; omega)⟩)
theorem ct_enter {sc : Nat × (Nat → Int32)} {d : Nat} {S0 S : am_S} {f : Nat → Int32} {g : Nat → Nat → Int32} {k : Int32} (hS : MS S0 S f g) (p0 : (0 : Int) ≤ (f 4).toInt) (p1 : (f 0).toInt ≤ (16384 : Int)) (p2 : (0 : Int) ≤ k.toInt) (p3 : (0 : Int) ≤ (f 5).toInt) (p4 : (f 5).toInt ≤ (48 : Int)) (p5 : (0 : Int) ≤ (f 6).toInt) : am_E (am_PP sc) (d + 2) 193 0 [some (.ref 39), some (.int k)] [] S (am_N fun v S1 => (∃ z : Int32, ∃ y : Int32, v = some (.int 1) ∧ MS S0 S1 (upd (upd f 5 y) 4 z) g ∧ (z.toInt = (f 4).toInt + 1) ∧ ((f 4).toInt < (f 0).toInt) ∧ (y.toInt = (f 5).toInt + 1) ∧ (y.toInt ≤ (48 : Int))) ∨ (∃ a : Int32, ∃ b : Int32, v = some (.int 0) ∧ MS S0 S1 (upd (upd (upd f 6 a) 7 b) 10 0) g ∧ ((0 : Int) ≤ a.toInt))) := by
  refine am_e2 (v := 39) hi_193_0 rfl ?_
  refine am_e32n (as := [.ref 39]) (la := [some (.ref 39)]) (rest := []) hi_193_1 (am_hd0 (M := 193) (by decide) 1) (Nat.le_of_ble_eq_true rfl) (Nat.le_of_ble_eq_true rfl) (show 1 ≤ am_P0.2.2.1 183 from by decide +kernel) rfl (am_recv_ok hS.fs) rfl rfl (ct_next (d := d) hS   (by show (0 : Int) ≤ (f 4).toInt; omega) (by show (f 0).toInt ≤ (16384 : Int); omega)) ?_
  rintro v0 S1 (⟨r2, hv3, hS4, h5⟩)
  subst hv3
  have h5_ : (f 4).toInt < (f 0).toInt ∨ r2.toInt = (-1 : Int) := h5
  show am_E _ _ _ _ [some (.ref 39), some (.int k)] [.int r2] _ _
  refine am_e1 (v := k) hi_193_4 rfl ?_
  by_cases c7 : r2.toInt = k.toInt
  · refine am_e13t hi_193_5 (am_cT (m := r2.toInt) (n := k.toInt) rfl rfl c7) ?_
    refine am_e2 (v := 39) hi_193_15 rfl ?_
    refine mm_20 (v := .int (f 5)) hS4 hi_193_16 rfl ?_
    refine am_e0 hi_193_19 ?_
    by_cases c8 : ¬ (f 5).toInt = (48 : Int)
    · refine am_e13t hi_193_21 (am_cT (m := (f 5).toInt) (n := (48 : Int)) rfl (by decide) c8) ?_
      refine am_e2 (v := 39) hi_193_31 rfl ?_
      refine am_e7 hi_193_32 ?_
      refine mm_20 (v := .int (f 5)) hS4 hi_193_33 rfl ?_
      refine am_e0 hi_193_36 ?_
      obtain ⟨z9, hz9, tz9⟩ := am_addI (x := f 5) (y := 1) (m := (f 5).toInt) (n := (1 : Int)) rfl (by decide) (by omega) (by omega)
      refine am_e10 (z := z9) hi_193_37 hz9 ?_
      refine mm_21 (v := z9) hS4 hi_193_38 rfl (Nat.le_of_ble_eq_true rfl) ms_5 ?_
      intro S10 hS11
      refine am_e2 (v := 39) hi_193_41 rfl ?_
      refine am_e7 hi_193_42 ?_
      refine mm_20 (v := .int (f 4)) hS11 hi_193_43 rfl ?_
      refine am_e0 hi_193_46 ?_
      obtain ⟨z12, hz12, tz12⟩ := am_addI (x := f 4) (y := 1) (m := (f 4).toInt) (n := (1 : Int)) rfl (by decide) (by omega) (by omega)
      refine am_e10 (z := z12) hi_193_47 hz12 ?_
      refine mm_21 (v := z12) hS11 hi_193_48 rfl (Nat.le_of_ble_eq_true rfl) ms_4 ?_
      intro S13 hS14
      replace hS14 : MS S0 S13 (upd (upd f 4 z12) 5 z9) g := hS14
      refine am_e0 hi_193_51 ?_
      refine am_e36 hi_193_52 (by decide) ?_
      exact Or.inl ⟨z12, z9, rfl, hS14, (by show z12.toInt = (f 4).toInt + 1; omega), (by show (f 4).toInt < (f 0).toInt; omega), (by show z9.toInt = (f 5).toInt + 1; omega), (by show z9.toInt ≤ (48 : Int); omega)⟩
    · refine am_e13f hi_193_21 (am_cF (m := (f 5).toInt) (n := (48 : Int)) rfl (by decide) c8) ?_
      refine am_e2 (v := 39) hi_193_24 rfl ?_
      refine am_e0 hi_193_25 ?_
      refine am_e32n (as := [.ref 39, .int 8]) (la := [some (.ref 39), some (.int 8)]) (rest := []) hi_193_27 (am_hd0 (M := 193) (by decide) 27) (Nat.le_of_ble_eq_true rfl) (Nat.le_of_ble_eq_true rfl) (show 2 ≤ am_P0.2.2.1 194 from by decide +kernel) rfl (am_recv_ok hS4.fs) rfl rfl (ct_fail (d := (d + 1)) hS4   (by show (0 : Int) ≤ (8 : Int); omega) (by show (0 : Int) ≤ (f 6).toInt; omega)) ?_
      rintro v15 S16 (⟨a17, b18, hv19, hS20, h21⟩)
      subst hv19
      have h21_ : (0 : Int) ≤ a17.toInt := h21
      show am_E _ _ _ _ [some (.ref 39), some (.int k)] [.int 0] _ _
      refine am_e36 hi_193_30 (by decide) ?_
      exact Or.inr (⟨a17, b18, rfl, hS20, (by show (0 : Int) ≤ a17.toInt; omega)⟩)
  · refine am_e13f hi_193_5 (am_cF (m := r2.toInt) (n := k.toInt) rfl rfl c7) ?_
    refine am_e2 (v := 39) hi_193_8 rfl ?_
    refine am_e0 hi_193_9 ?_
    refine am_e32n (as := [.ref 39, .int 7]) (la := [some (.ref 39), some (.int 7)]) (rest := []) hi_193_11 (am_hd0 (M := 193) (by decide) 11) (Nat.le_of_ble_eq_true rfl) (Nat.le_of_ble_eq_true rfl) (show 2 ≤ am_P0.2.2.1 194 from by decide +kernel) rfl (am_recv_ok hS4.fs) rfl rfl (ct_fail (d := (d + 1)) hS4   (by show (0 : Int) ≤ (7 : Int); omega) (by show (0 : Int) ≤ (f 6).toInt; omega)) ?_
    rintro v23 S24 (⟨a25, b26, hv27, hS28, h29⟩)
    subst hv27
    have h29_ : (0 : Int) ≤ a25.toInt := h29
    show am_E _ _ _ _ [some (.ref 39), some (.int k)] [.int 0] _ _
    refine am_e36 hi_193_14 (by decide) ?_
    exact Or.inr (⟨a25, b26, rfl, hS28, (by show (0 : Int) ≤ a25.toInt; omega)⟩)
theorem ct_leave {sc : Nat × (Nat → Int32)} {d : Nat} {S0 S : am_S} {f : Nat → Int32} {g : Nat → Nat → Int32} {k : Int32} (hS : MS S0 S f g) (p0 : (0 : Int) ≤ (f 4).toInt) (p1 : (f 0).toInt ≤ (16384 : Int)) (p2 : (0 : Int) ≤ k.toInt) (p3 : (0 : Int) ≤ (f 5).toInt) (p4 : (f 5).toInt ≤ (48 : Int)) (p5 : (0 : Int) ≤ (f 6).toInt) : am_E (am_PP sc) (d + 3) 199 0 [some (.ref 39), some (.int k)] [] S (am_N fun v S1 => (∃ z : Int32, ∃ y : Int32, v = some (.int 1) ∧ MS S0 S1 (upd (upd f 4 z) 5 y) g ∧ (z.toInt = (f 4).toInt + 1) ∧ ((f 4).toInt < (f 0).toInt) ∧ (y.toInt = (f 5).toInt - 1)) ∨ (∃ a : Int32, ∃ b : Int32, v = some (.int 0) ∧ MS S0 S1 (upd (upd (upd f 6 a) 7 b) 10 0) g ∧ ((0 : Int) ≤ a.toInt))) := by
  refine am_e2 (v := 39) hi_199_0 rfl ?_
  refine am_e1 (v := k) hi_199_1 rfl ?_
  refine am_e32n (as := [.ref 39, .int k]) (la := [some (.ref 39), some (.int k)]) (rest := []) hi_199_2 (am_hd0 (M := 199) (by decide) 2) (Nat.le_of_ble_eq_true rfl) (Nat.le_of_ble_eq_true rfl) (show 2 ≤ am_P0.2.2.1 200 from by decide +kernel) rfl (am_recv_ok hS.fs) rfl rfl (ct_take (d := d) hS   (by show (0 : Int) ≤ (f 4).toInt; omega) (by show (f 0).toInt ≤ (16384 : Int); omega) (by show (0 : Int) ≤ k.toInt; omega) (by show (0 : Int) ≤ (f 6).toInt; omega)) ?_
  rintro v0 S1 (⟨z2, hv3, hS4, h5, h6⟩ | ⟨a8, b9, hv10, hS11, h12⟩)
  · subst hv3
    have h5_ : z2.toInt = (f 4).toInt + 1 := h5
    have h6_ : (f 4).toInt < (f 0).toInt := h6
    show am_E _ _ _ _ [some (.ref 39), some (.int k)] [.int 1] _ _
    refine am_e12t hi_199_5 (by decide) ?_
    refine am_e2 (v := 39) hi_199_10 rfl ?_
    refine am_e7 hi_199_11 ?_
    refine mm_20 (v := .int (f 5)) hS4 hi_199_12 rfl ?_
    refine am_e0 hi_199_15 ?_
    obtain ⟨z14, hz14, tz14⟩ := am_subI (x := f 5) (y := 1) (m := (f 5).toInt) (n := (1 : Int)) rfl (by decide) (by omega) (by omega)
    refine am_e10 (z := z14) hi_199_16 hz14 ?_
    refine mm_21 (v := z14) hS4 hi_199_17 rfl (Nat.le_of_ble_eq_true rfl) ms_5 ?_
    intro S15 hS16
    refine am_e0 hi_199_20 ?_
    refine am_e36 hi_199_21 (by decide) ?_
    exact Or.inl ⟨z2, z14, rfl, hS16, (by show z2.toInt = (f 4).toInt + 1; omega), (by show (f 4).toInt < (f 0).toInt; omega), (by show z14.toInt = (f 5).toInt - 1; omega)⟩
  · subst hv10
    have h12_ : (0 : Int) ≤ a8.toInt := h12
    show am_E _ _ _ _ [some (.ref 39), some (.int k)] [.int 0] _ _
    refine am_e12f hi_199_5 (by decide) ?_
    refine am_e0 hi_199_8 ?_
    refine am_e36 hi_199_9 (by decide) ?_
    exact Or.inr (⟨a8, b9, rfl, hS11, (by show (0 : Int) ≤ a8.toInt; omega)⟩)
