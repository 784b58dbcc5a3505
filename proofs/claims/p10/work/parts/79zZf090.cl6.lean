/-! THE CLASS: pieces of the grammar that open no level (printed by wip/p2/cl6.py) -/
theorem cf_unary {sc : Nat × (Nat → Int32)} {d aw : Nat} {Sb : am_S} {Q : Option (Option Value) → am_S → Prop} (h : SH aw Sb) (p0 : 0 ≤ nx Sb) (p1 : nx Sb ≤ wr Sb) (p2 : wr Sb ≤ 600) (p3 : 0 ≤ lv Sb) (p4 : lv Sb ≤ 48) (hq : ∀ S1, TH aw 700 Sb S1 → Q none S1) (hx0 : ∀ (S : am_S) (i : Int32), Wv aw Sb S → (nx Sb + 0 ≤ nx S) → (nx S ≤ wr S) → (lv S = lv Sb + 0) → (EN S + -10000 * nx S ≤ EN Sb + -10000 * nx Sb + 0) → (iv Sb 8 1 ≤ iv S 8 1) → (iv S 10 1 = iv Sb 10 1) → (iv S 14 1 = iv Sb 14 1) → am_E (am_PP sc) (d + 14) 71 61 [some (.ref 7), some (.int i)] [] S Q) : ∀ (N : Nat) (S : am_S) (i : Int32), Wv aw Sb S → (nx Sb + 0 ≤ nx S) → (nx S ≤ wr S) → (lv S = lv Sb + 0) → (EN S + -10000 * nx S ≤ EN Sb + -10000 * nx Sb + 0) → (iv Sb 8 1 ≤ iv S 8 1) → (iv S 10 1 = iv Sb 10 1) → (iv S 14 1 = iv Sb 14 1) → 2147483647 - i.toInt < (N : Int) → am_E (am_PP sc) (d + 14) 71 2 [some (.ref 7), some (.int i)] [] S Q := by
  intro N
  induction N with
  | zero =>
    intro S  i hrel  i0 i1 i2 i3 i4 i5 i6 hN
    have := i32_le i
    have := i32_ge i
    exfalso
    omega
  | succ N ih =>
    intro S  i hrel  i0 i1 i2 i3 i4 i5 i6 hN
    have hl_i := i32_le i
    have hg_i := i32_ge i
    obtain ⟨h1, h2, ⟨h3, h4⟩, ⟨h5, h6, h7⟩⟩ := hrel
    refine am_e2 (v := 7) hi_71_2 rfl ?_
    refine cm_20f (r := 2) h1 hi_71_3 (h1.1.s (7, 6) (by decide)) (by decide) rfl ?_
    refine am_e32n (as := [.ref 2]) (la := [some (.ref 2)]) (rest := []) hi_71_6 (am_hd0 (M := 71) (by decide) 6) (Nat.le_of_ble_eq_true rfl) (Nat.le_of_ble_eq_true rfl) (show 1 ≤ am_P0.2.2.1 53 from by decide +kernel) rfl (cl_recv (h1.1.s (2, 2) (by decide))) rfl rfl (ck_kind (d := (d + 12)) h1   ) ?_
    rintro v8 S9 ⟨r10, rfl, rfl, h12⟩
    have h12_ : r10.toInt = kd aw S := h12
    show am_E _ _ _ _ [some (.ref 7), some (.int i)] [.int r10] _ _
    refine am_e32n (as := [.int r10]) (la := [some (.int r10)]) (rest := []) hi_71_9 (am_hd0 (M := 71) (by decide) 9) (Nat.le_of_ble_eq_true rfl) (Nat.le_of_ble_eq_true rfl) (show 1 ≤ am_P0.2.2.1 72 from by decide +kernel) rfl rfl rfl rfl (ck_unary (d := (d + 13)) h1   ) ?_
    rintro v14 S15 ⟨r16, rfl, hb19, rfl, h18⟩
    have h18_ : (r16.toInt = 1 ∧ (r10.toInt = 24 ∨ r10.toInt = 46 ∨ r10.toInt = 41 ∨ r10.toInt = 48)) ∨ (r16.toInt = 0 ∧ ¬ (r10.toInt = 24 ∨ r10.toInt = 46 ∨ r10.toInt = 41 ∨ r10.toInt = 48)) := h18
    have hb19_ : r16.toInt = 0 ∨ r16.toInt = 1 := hb19.elim (fun e => Or.inl (by rw [e]; rfl)) (fun e => Or.inr (by rw [e]; rfl))
    show am_E _ _ _ _ [some (.ref 7), some (.int i)] [.int r16] _ _
    by_cases c20 : r16.toInt = (0 : Int)
    · refine am_e12t hi_71_12 (am_cT (m := r16.toInt) (n := (0 : Int)) rfl (by decide) c20) ?_
      exact hx0 _ i ⟨h1, h2, ⟨(by show wr S = wr Sb; omega), h4⟩, ⟨h5, h6, (by show fl S = fl Sb; omega)⟩⟩ (by show nx Sb + 0 ≤ nx S; omega) (by show nx S ≤ wr S; omega) (by show lv S = lv Sb + 0; omega) (by show EN S + -10000 * nx S ≤ EN Sb + -10000 * nx Sb + 0; omega) (by show iv Sb 8 1 ≤ iv S 8 1; omega) (by show iv S 10 1 = iv Sb 10 1; omega) (by show iv S 14 1 = iv Sb 14 1; omega)
    · refine am_e12f hi_71_12 (am_cF (m := r16.toInt) (n := (0 : Int)) rfl (by decide) c20) ?_
      refine am_e1 (v := i) hi_71_15 rfl ?_
      refine am_e0 hi_71_16 ?_
      by_cases c21 : (16384 : Int) < i.toInt
      · refine am_e13t hi_71_19 (am_cT (m := i.toInt) (n := (16384 : Int)) rfl (by decide) c21) ?_
        exact hx0 _ i ⟨h1, h2, ⟨(by show wr S = wr Sb; omega), h4⟩, ⟨h5, h6, (by show fl S = fl Sb; omega)⟩⟩ (by show nx Sb + 0 ≤ nx S; omega) (by show nx S ≤ wr S; omega) (by show lv S = lv Sb + 0; omega) (by show EN S + -10000 * nx S ≤ EN Sb + -10000 * nx Sb + 0; omega) (by show iv Sb 8 1 ≤ iv S 8 1; omega) (by show iv S 10 1 = iv Sb 10 1; omega) (by show iv S 14 1 = iv Sb 14 1; omega)
      · refine am_e13f hi_71_19 (am_cF (m := i.toInt) (n := (16384 : Int)) rfl (by decide) c21) ?_
        refine am_e2 (v := 7) hi_71_22 rfl ?_
        refine cm_20f (r := 8) h1 hi_71_23 (h1.1.s (7, 6) (by decide)) (by decide) rfl ?_
        refine am_e0 hi_71_26 ?_
        refine am_e2 (v := 7) hi_71_28 rfl ?_
        refine cm_20f (r := 2) h1 hi_71_29 (h1.1.s (7, 6) (by decide)) (by decide) rfl ?_
        refine am_e32n (as := [.ref 2]) (la := [some (.ref 2)]) (rest := [.int 11, .ref 8]) hi_71_32 (am_hd0 (M := 71) (by decide) 32) (Nat.le_of_ble_eq_true rfl) (Nat.le_of_ble_eq_true rfl) (show 1 ≤ am_P0.2.2.1 53 from by decide +kernel) rfl (cl_recv (h1.1.s (2, 2) (by decide))) rfl rfl (ck_kind (d := (d + 12)) h1   ) ?_
        rintro v22 S23 ⟨r24, rfl, rfl, h26⟩
        have h26_ : r24.toInt = kd aw S := h26
        show am_E _ _ _ _ [some (.ref 7), some (.int i)] [.int r24, .int 11, .ref 8] _ _
        refine am_e2 (v := 7) hi_71_35 rfl ?_
        refine cm_20f (r := 2) h1 hi_71_36 (h1.1.s (7, 6) (by decide)) (by decide) rfl ?_
        refine am_e32x (as := [.ref 2]) (la := [some (.ref 2)]) (rest := [.int r24, .int 11, .ref 8]) hi_71_39 (am_hd0 (M := 71) (by decide) 39) (Nat.le_of_ble_eq_true rfl) (Nat.le_of_ble_eq_true rfl) (show 1 ≤ am_P0.2.2.1 63 from by decide +kernel) rfl (cl_recv (h1.1.s (2, 2) (by decide))) rfl rfl ?_
        refine am_e2 (v := 2) hi_63_0 rfl ?_
        refine cm_20i h1 hi_63_1 (h1.1.s (2, 2) (by decide)) (by decide) rfl fun v28 hv28 => ?_
        have hv28_ : v28.toInt = nx S := hv28
        refine am_e33 hi_63_4 ?_
        show am_E _ _ _ _ [some (.ref 7), some (.int i)] [.int v28, .int r24, .int 11, .ref 8] _ _
        refine am_e0 hi_71_42 ?_
        have h29 : c_w 8 = 160 := rfl
        refine am_e32n (as := [.ref 8, .int 11, .int r24, .int v28, .int 0]) (la := [some (.ref 8), some (.int 11), some (.int r24), some (.int v28), some (.int 0), none]) (rest := []) hi_71_43 (am_hd0 (M := 71) (by decide) 43) (Nat.le_of_ble_eq_true rfl) (Nat.le_of_ble_eq_true rfl) (show 5 ≤ am_P0.2.2.1 31 from by decide +kernel) rfl (cl_recv (h1.1.s (8, 3) (by decide))) rfl rfl (ck_add (d := (d + 11)) h1 (h1.1.s (8, 3) (by decide)) (by decide)  ) ?_
        rintro v30 S31 ⟨r32, rfl, h33, h34, h35⟩
        have h34_ : iv S 8 1 ≤ iv S31 8 1 ∧ iv S31 8 1 ≤ iv S 8 1 + 1 := h34
        have h35_ : ∀ j, cl (am_fs S) j = some 3 → j ≠ 8 → iv S31 j 1 = iv S j 1 := h35
        obtain ⟨h37, h38, ⟨h39, h40, h41, h42⟩, ⟨h43, h44, h45⟩, h47⟩ := h33
        have h48 : kd aw S31 = kd aw S := kd_eq h39 h42
        have h49 := h35_ 10 (h1.1.s (10, 3) (by decide)) (by decide)
        have h50 := h35_ 14 (h1.1.s (14, 3) (by decide)) (by decide)
        show am_E _ _ _ _ [some (.ref 7), some (.int i)] [.int r32] _ _
        refine am_e6i hi_71_46 ?_
        refine am_e2 (v := 7) hi_71_47 rfl ?_
        refine cm_20f (r := 2) h37 hi_71_48 (h37.1.s (7, 6) (by decide)) (by decide) rfl ?_
        refine am_e32t (as := [.ref 2]) (la := [some (.ref 2), none]) (rest := []) hi_71_51 (am_hd0 (M := 71) (by decide) 51) (Nat.le_of_ble_eq_true rfl) (Nat.le_of_ble_eq_true rfl) (show 1 ≤ am_P0.2.2.1 55 from by decide +kernel) rfl (cl_recv (h37.1.s (2, 2) (by decide))) rfl rfl (ck_skip (d := d) h37   (by show 0 ≤ nx S31; omega) (by show nx S31 ≤ wr S31; omega) (by show wr S31 ≤ 600; omega) (by show 0 ≤ lv S31; omega) (by show lv S31 ≤ 48; omega) (by show kd aw S31 ≠ 0; omega)) (fun S67 h68 => hq S67 (show TH aw 700 Sb S67 from ⟨h68.1, (h2.trans h38).trans h68.2.1, ⟨(by have q := h68.2.2.1.1; omega), h68.2.2.1.2.trans (h42.trans h4)⟩, h68.2.2.2.1, h68.2.2.2.2.1, (by have q := h68.2.2.2.2.2; omega)⟩)) ?_
        rintro v51 S52 ⟨r53, rfl, h54, h55, h56, h57, h58⟩
        have h55_ : nx S52 = nx S31 + 1 := h55
        have h56_ : lv S52 = lv S31 + c_dl (kd aw S31) := h56
        have h57_ : lv S52 ≤ 48 := h57
        have h58_ : nx S52 ≤ wr S52 := h58
        obtain ⟨h69, h70, ⟨h73, h74⟩, ⟨h75, h76, h77⟩, h78, h79⟩ := h54
        have h80 := h78 8 (h37.1.s (8, 3) (by decide))
        have h81 := h78 10 (h37.1.s (10, 3) (by decide))
        have h82 := h78 14 (h37.1.s (14, 3) (by decide))
        have h83 : c_dl (kd aw S31) = 0 := by unfold c_dl; split <;> split <;> omega
        show am_E _ _ _ _ [some (.ref 7), some (.int i)] [.int r53] _ _
        refine am_e6i hi_71_54 ?_
        obtain ⟨z84, hz84, tz84⟩ := am_addI (x := i) (y := 1) (m := i.toInt) (n := (1 : Int)) rfl (by decide) (by omega) (by omega)
        refine am_e5 (v := i) (z := z84) (ls' := [some (.ref 7), some (.int z84)]) hi_71_55 rfl hz84 rfl ?_
        refine am_e18 hi_71_58 ?_
        exact ih _ z84 ⟨h69, ((h2.trans h38).trans h70), ⟨(by show wr S52 = wr Sb; omega), (h74.trans (h42.trans h4))⟩, ⟨(h75.trans (h43.trans h5)), (h76.trans (h44.trans h6)), (by show fl S52 = fl Sb; omega)⟩⟩ (by show nx Sb + 0 ≤ nx S52; omega) (by show nx S52 ≤ wr S52; omega) (by show lv S52 = lv Sb + 0; omega) (by show EN S52 + -10000 * nx S52 ≤ EN Sb + -10000 * nx Sb + 0; omega) (by show iv Sb 8 1 ≤ iv S52 8 1; omega) (by show iv S52 10 1 = iv Sb 10 1; omega) (by show iv S52 14 1 = iv Sb 14 1; omega) (by show 2147483647 - z84.toInt < (N : Int); omega)
theorem ck_unaryOps {sc : Nat × (Nat → Int32)} {d aw : Nat} {S : am_S} (h : SH aw S) (p0 : 0 ≤ nx S) (p1 : nx S ≤ wr S) (p2 : wr S ≤ 600) (p3 : 0 ≤ lv S) (p4 : lv S ≤ 48) : am_E (am_PP sc) (d + 14) 71 0 [some (.ref 7), none] [] S (am_T (fun v S1 => v = none ∧ Wv aw S S1 ∧ (nx S + 0 ≤ nx S1) ∧ (nx S1 ≤ wr S1) ∧ (lv S1 = lv S + 0) ∧ (EN S1 + -10000 * nx S1 ≤ EN S + -10000 * nx S + 0) ∧ (iv S 8 1 ≤ iv S1 8 1) ∧ (iv S1 10 1 = iv S 10 1) ∧ (iv S1 14 1 = iv S 14 1)) (fun S1 => TH aw 700 S S1)) := by
  refine am_e0 hi_71_0 ?_
  refine am_e3 (ls' := [some (.ref 7), some (.int 0)]) hi_71_1 (Nat.le_of_ble_eq_true rfl) rfl ?_
  refine cf_unary (d := d) (Sb := S) h   (by show 0 ≤ nx S; omega) (by show nx S ≤ wr S; omega) (by show wr S ≤ 600; omega) (by show 0 ≤ lv S; omega) (by show lv S ≤ 48; omega) (fun S1 h2 => (show TH aw 700 S S1 from ⟨h2.1, (Ex.refl S).trans h2.2.1, ⟨(by have q := h2.2.2.1.1; omega), h2.2.2.1.2.trans rfl⟩, h2.2.2.2.1, h2.2.2.2.2.1, (by have q := h2.2.2.2.2.2; omega)⟩)) ?_ ((2147483647 - (0 : Int)).toNat + 1) S 0 ⟨h, Ex.refl _, ⟨rfl, rfl⟩, ⟨rfl, rfl, rfl⟩⟩ (by show nx S + 0 ≤ nx S; omega) (by show nx S ≤ wr S; omega) (by show lv S = lv S + 0; omega) (by show EN S + -10000 * nx S ≤ EN S + -10000 * nx S + 0; omega) (by show iv S 8 1 ≤ iv S 8 1; omega) (by show iv S 10 1 = iv S 10 1; omega) (by show iv S 14 1 = iv S 14 1; omega) (by show 2147483647 - (0 : Int) < _; omega)
  · intro S4 i3 h5 h6 h7 h8 h9 h10 h11 h12
    have h6_ : nx S + 0 ≤ nx S4 := h6
    have h7_ : nx S4 ≤ wr S4 := h7
    have h8_ : lv S4 = lv S + 0 := h8
    have h9_ : EN S4 + -10000 * nx S4 ≤ EN S + -10000 * nx S + 0 := h9
    have h10_ : iv S 8 1 ≤ iv S4 8 1 := h10
    have h11_ : iv S4 10 1 = iv S 10 1 := h11
    have h12_ : iv S4 14 1 = iv S 14 1 := h12
    obtain ⟨h13, h14, ⟨h15, h16⟩, ⟨h17, h18, h19⟩⟩ := h5
    show am_E _ _ _ _ [some (.ref 7), some (.int i3)] [] _ _
    refine am_e35 hi_71_61 ?_
    exact ⟨rfl, ⟨h13, h14, ⟨(by show wr S4 = wr S; omega), h16⟩, ⟨h17, h18, (by show fl S4 = fl S; omega)⟩⟩, (by show nx S + 0 ≤ nx S4; omega), (by show nx S4 ≤ wr S4; omega), (by show lv S4 = lv S + 0; omega), (by show EN S4 + -10000 * nx S4 ≤ EN S + -10000 * nx S + 0; omega), (by show iv S 8 1 ≤ iv S4 8 1; omega), (by show iv S4 10 1 = iv S 10 1; omega), (by show iv S4 14 1 = iv S 14 1; omega)⟩
theorem ck_binaryOp {sc : Nat × (Nat → Int32)} {d aw : Nat} {S : am_S} {b : Int32} (h : SH aw S) (p0 : 0 ≤ nx S) (p1 : nx S ≤ wr S) (p2 : wr S ≤ 600) (p3 : 0 ≤ lv S) (p4 : lv S ≤ 48) (p5 : 0 ≤ b.toInt) (p6 : b.toInt ≤ iv S 8 1) : am_E (am_PP sc) (d + 14) 105 0 [some (.ref 7), some (.int b), none, none, none] [] S (am_T (fun v S1 => ∃ r : Int32, v = some (.int r) ∧ (r = 0 ∨ r = 1) ∧ Wv aw S S1 ∧ (nx S + 0 ≤ nx S1) ∧ (nx S1 ≤ wr S1) ∧ (lv S1 = lv S + 0) ∧ (EN S1 + -10000 * nx S1 ≤ EN S + -10000 * nx S + 0) ∧ (b.toInt ≤ iv S1 8 1) ∧ (iv S1 10 1 = iv S 10 1) ∧ (iv S1 14 1 = iv S 14 1)) (fun S1 => TH aw 700 S S1)) := by
  refine am_e2 (v := 7) hi_105_0 rfl ?_
  refine cm_20f (r := 2) h hi_105_1 (h.1.s (7, 6) (by decide)) (by decide) rfl ?_
  refine am_e32n (as := [.ref 2]) (la := [some (.ref 2)]) (rest := []) hi_105_4 (am_hd0 (M := 105) (by decide) 4) (Nat.le_of_ble_eq_true rfl) (Nat.le_of_ble_eq_true rfl) (show 1 ≤ am_P0.2.2.1 53 from by decide +kernel) rfl (cl_recv (h.1.s (2, 2) (by decide))) rfl rfl (ck_kind (d := (d + 12)) h   ) ?_
  rintro v1 S2 ⟨r3, rfl, rfl, h5⟩
  have h5_ : r3.toInt = kd aw S := h5
  show am_E _ _ _ _ [some (.ref 7), some (.int b), none, none, none] [.int r3] _ _
  refine am_e3 (ls' := [some (.ref 7), some (.int b), some (.int r3), none, none]) hi_105_7 (Nat.le_of_ble_eq_true rfl) rfl ?_
  refine am_e1 (v := r3) hi_105_8 rfl ?_
  refine am_e32n (as := [.int r3]) (la := [some (.int r3)]) (rest := []) hi_105_9 (am_hd0 (M := 105) (by decide) 9) (Nat.le_of_ble_eq_true rfl) (Nat.le_of_ble_eq_true rfl) (show 1 ≤ am_P0.2.2.1 106 from by decide +kernel) rfl rfl rfl rfl (ck_rank (d := (d + 13)) h   ) ?_
  rintro v7 S8 ⟨r9, rfl, rfl, h11⟩
  have h11_ : r9.toInt = 0 ∨ (r3.toInt = 25 ∨ r3.toInt = 10 ∨ (40 ≤ r3.toInt ∧ r3.toInt ≤ 45) ∨ (47 ≤ r3.toInt ∧ r3.toInt ≤ 58) ∨ r3.toInt = 71) := h11
  show am_E _ _ _ _ [some (.ref 7), some (.int b), some (.int r3), none, none] [.int r9] _ _
  refine am_e3 (ls' := [some (.ref 7), some (.int b), some (.int r3), some (.int r9), none]) hi_105_12 (Nat.le_of_ble_eq_true rfl) rfl ?_
  refine am_e1 (v := r9) hi_105_13 rfl ?_
  by_cases c13 : ¬ r9.toInt = (0 : Int)
  · refine am_e12t hi_105_14 (am_cT (m := r9.toInt) (n := (0 : Int)) rfl (by decide) c13) ?_
    refine am_e2 (v := 7) hi_105_19 rfl ?_
    refine am_e1 (v := b) hi_105_20 rfl ?_
    refine am_e1 (v := r3) hi_105_21 rfl ?_
    refine am_e32n (as := [.int r3]) (la := [some (.int r3)]) (rest := [.int b, .ref 7]) hi_105_22 (am_hd0 (M := 105) (by decide) 22) (Nat.le_of_ble_eq_true rfl) (Nat.le_of_ble_eq_true rfl) (show 1 ≤ am_P0.2.2.1 107 from by decide +kernel) rfl rfl rfl rfl (ck_right (d := (d + 13)) h   ) ?_
    rintro v14 S15 ⟨r16, rfl, hb18, rfl⟩
    have hb18_ : r16.toInt = 0 ∨ r16.toInt = 1 := hb18.elim (fun e => Or.inl (by rw [e]; rfl)) (fun e => Or.inr (by rw [e]; rfl))
    show am_E _ _ _ _ [some (.ref 7), some (.int b), some (.int r3), some (.int r9), none] [.int r16, .int b, .ref 7] _ _
    by_cases c19 : r16.toInt = (0 : Int)
    · refine am_e12t hi_105_25 (am_cT (m := r16.toInt) (n := (0 : Int)) rfl (by decide) c19) ?_
      refine am_e1 (v := r9) hi_105_34 rfl ?_
      refine am_e32n (as := [.ref 7, .int b, .int r9]) (la := [some (.ref 7), some (.int b), some (.int r9), none, none, none]) (rest := []) hi_105_35 (am_hd0 (M := 105) (by decide) 35) (Nat.le_of_ble_eq_true rfl) (Nat.le_of_ble_eq_true rfl) (show 3 ≤ am_P0.2.2.1 108 from by decide +kernel) rfl (cl_recv (h.1.s (7, 6) (by decide))) rfl rfl (ck_reduce (d := (d + 9)) h   (by show 0 ≤ b.toInt; omega) (by show b.toInt ≤ iv S 8 1; omega)) ?_
      rintro v20 S21 ⟨rfl, h23, h24, h25, h26⟩
      have h24_ : b.toInt ≤ iv S21 8 1 := h24
      have h25_ : iv S21 10 1 = iv S 10 1 := h25
      have h26_ : iv S21 14 1 = iv S 14 1 := h26
      obtain ⟨h28, h29, ⟨h30, h31, h32, h33⟩, ⟨h34, h35, h36⟩, h38⟩ := h23
      have h39 : kd aw S21 = kd aw S := kd_eq h30 h33
      show am_E _ _ _ _ [some (.ref 7), some (.int b), some (.int r3), some (.int r9), none] [] _ _
      refine am_e0 hi_105_38 ?_
      refine am_e3 (ls' := [some (.ref 7), some (.int b), some (.int r3), some (.int r9), some (.int (-1))]) hi_105_39 (Nat.le_of_ble_eq_true rfl) rfl ?_
      refine am_e1 (v := r3) hi_105_41 rfl ?_
      refine am_e0 hi_105_42 ?_
      by_cases c40 : ¬ r3.toInt = (10 : Int)
      · refine am_e13t hi_105_44 (am_cT (m := r3.toInt) (n := (10 : Int)) rfl (by decide) c40) ?_
        refine am_e1 (v := r3) hi_105_61 rfl ?_
        refine am_e0 hi_105_62 ?_
        by_cases c41 : ¬ r3.toInt = (25 : Int)
        · refine am_e13t hi_105_64 (am_cT (m := r3.toInt) (n := (25 : Int)) rfl (by decide) c41) ?_
          refine am_e2 (v := 7) hi_105_78 rfl ?_
          refine cm_20f (r := 8) h28 hi_105_79 (h28.1.s (7, 6) (by decide)) (by decide) rfl ?_
          refine am_e1 (v := r9) hi_105_82 rfl ?_
          refine am_e1 (v := r3) hi_105_83 rfl ?_
          refine am_e2 (v := 7) hi_105_84 rfl ?_
          refine cm_20f (r := 2) h28 hi_105_85 (h28.1.s (7, 6) (by decide)) (by decide) rfl ?_
          refine am_e32x (as := [.ref 2]) (la := [some (.ref 2)]) (rest := [.int r3, .int r9, .ref 8]) hi_105_88 (am_hd0 (M := 105) (by decide) 88) (Nat.le_of_ble_eq_true rfl) (Nat.le_of_ble_eq_true rfl) (show 1 ≤ am_P0.2.2.1 63 from by decide +kernel) rfl (cl_recv (h28.1.s (2, 2) (by decide))) rfl rfl ?_
          refine am_e2 (v := 2) hi_63_0 rfl ?_
          refine cm_20i h28 hi_63_1 (h28.1.s (2, 2) (by decide)) (by decide) rfl fun v42 hv42 => ?_
          have hv42_ : v42.toInt = nx S21 := hv42
          refine am_e33 hi_63_4 ?_
          show am_E _ _ _ _ [some (.ref 7), some (.int b), some (.int r3), some (.int r9), some (.int (-1))] [.int v42, .int r3, .int r9, .ref 8] _ _
          refine am_e1 (v := (-1)) hi_105_91 rfl ?_
          have h43 : c_w 8 = 160 := rfl
          refine am_e32n (as := [.ref 8, .int r9, .int r3, .int v42, .int (-1)]) (la := [some (.ref 8), some (.int r9), some (.int r3), some (.int v42), some (.int (-1)), none]) (rest := []) hi_105_93 (am_hd0 (M := 105) (by decide) 93) (Nat.le_of_ble_eq_true rfl) (Nat.le_of_ble_eq_true rfl) (show 5 ≤ am_P0.2.2.1 31 from by decide +kernel) rfl (cl_recv (h28.1.s (8, 3) (by decide))) rfl rfl (ck_add (d := (d + 11)) h28 (h28.1.s (8, 3) (by decide)) (by decide)  ) ?_
          rintro v44 S45 ⟨r46, rfl, h47, h48, h49⟩
          have h48_ : iv S21 8 1 ≤ iv S45 8 1 ∧ iv S45 8 1 ≤ iv S21 8 1 + 1 := h48
          have h49_ : ∀ j, cl (am_fs S21) j = some 3 → j ≠ 8 → iv S45 j 1 = iv S21 j 1 := h49
          obtain ⟨h51, h52, ⟨h53, h54, h55, h56⟩, ⟨h57, h58, h59⟩, h61⟩ := h47
          have h62 : kd aw S45 = kd aw S21 := kd_eq h53 h56
          have h63 := h49_ 10 (h28.1.s (10, 3) (by decide)) (by decide)
          have h64 := h49_ 14 (h28.1.s (14, 3) (by decide)) (by decide)
          show am_E _ _ _ _ [some (.ref 7), some (.int b), some (.int r3), some (.int r9), some (.int (-1))] [.int r46] _ _
          refine am_e6i hi_105_96 ?_
          refine am_e2 (v := 7) hi_105_97 rfl ?_
          refine cm_20f (r := 2) h51 hi_105_98 (h51.1.s (7, 6) (by decide)) (by decide) rfl ?_
          refine am_e32t (as := [.ref 2]) (la := [some (.ref 2), none]) (rest := []) hi_105_101 (am_hd0 (M := 105) (by decide) 101) (Nat.le_of_ble_eq_true rfl) (Nat.le_of_ble_eq_true rfl) (show 1 ≤ am_P0.2.2.1 55 from by decide +kernel) rfl (cl_recv (h51.1.s (2, 2) (by decide))) rfl rfl (ck_skip (d := d) h51   (by show 0 ≤ nx S45; omega) (by show nx S45 ≤ wr S45; omega) (by show wr S45 ≤ 600; omega) (by show 0 ≤ lv S45; omega) (by show lv S45 ≤ 48; omega) (by show kd aw S45 ≠ 0; omega)) (fun S81 h82 => (show TH aw 700 S S81 from ⟨h82.1, (h29.trans h52).trans h82.2.1, ⟨(by have q := h82.2.2.1.1; omega), h82.2.2.1.2.trans (h56.trans h33)⟩, h82.2.2.2.1, h82.2.2.2.2.1, (by have q := h82.2.2.2.2.2; omega)⟩)) ?_
          rintro v65 S66 ⟨r67, rfl, h68, h69, h70, h71, h72⟩
          have h69_ : nx S66 = nx S45 + 1 := h69
          have h70_ : lv S66 = lv S45 + c_dl (kd aw S45) := h70
          have h71_ : lv S66 ≤ 48 := h71
          have h72_ : nx S66 ≤ wr S66 := h72
          obtain ⟨h83, h84, ⟨h87, h88⟩, ⟨h89, h90, h91⟩, h92, h93⟩ := h68
          have h94 := h92 8 (h51.1.s (8, 3) (by decide))
          have h95 := h92 10 (h51.1.s (10, 3) (by decide))
          have h96 := h92 14 (h51.1.s (14, 3) (by decide))
          have h97 : c_dl (kd aw S45) = 0 := by unfold c_dl; split <;> split <;> omega
          show am_E _ _ _ _ [some (.ref 7), some (.int b), some (.int r3), some (.int r9), some (.int (-1))] [.int r67] _ _
          refine am_e6i hi_105_104 ?_
          refine am_e0 hi_105_105 ?_
          refine am_e36 hi_105_106 (by decide) ?_
          exact ⟨1, rfl, (by decide), ⟨h83, ((h29.trans h52).trans h84), ⟨(by show wr S66 = wr S; omega), (h88.trans (h56.trans h33))⟩, ⟨(h89.trans (h57.trans h34)), (h90.trans (h58.trans h35)), (by show fl S66 = fl S; omega)⟩⟩, (by show nx S + 0 ≤ nx S66; omega), (by show nx S66 ≤ wr S66; omega), (by show lv S66 = lv S + 0; omega), (by show EN S66 + -10000 * nx S66 ≤ EN S + -10000 * nx S + 0; omega), (by show b.toInt ≤ iv S66 8 1; omega), (by show iv S66 10 1 = iv S 10 1; omega), (by show iv S66 14 1 = iv S 14 1; omega)⟩
        · refine am_e13f hi_105_64 (am_cF (m := r3.toInt) (n := (25 : Int)) rfl (by decide) c41) ?_
          refine am_e2 (v := 7) hi_105_67 rfl ?_
          refine am_e0 hi_105_68 ?_
          refine am_e0 hi_105_70 ?_
          refine am_e0 hi_105_71 ?_
          refine am_e0 hi_105_72 ?_
          refine am_e32n (as := [.ref 7, .int 16, .int 0, .int 0, .int 0]) (la := [some (.ref 7), some (.int 16), some (.int 0), some (.int 0), some (.int 0)]) (rest := []) hi_105_73 (am_hd0 (M := 105) (by decide) 73) (Nat.le_of_ble_eq_true rfl) (Nat.le_of_ble_eq_true rfl) (show 5 ≤ am_P0.2.2.1 78 from by decide +kernel) rfl (cl_recv (h28.1.s (7, 6) (by decide))) rfl rfl (ck_emit (d := (d + 10)) h28   ) ?_
          rintro v98 S99 ⟨r100, rfl, h101, h102, h103, h104⟩
          have h102_ : iv S99 8 1 = iv S21 8 1 := h102
          have h103_ : iv S99 10 1 = iv S21 10 1 := h103
          have h104_ : iv S99 14 1 = iv S21 14 1 := h104
          obtain ⟨h106, h107, ⟨h108, h109, h110, h111⟩, ⟨h112, h113, h114⟩, h116⟩ := h101
          have h117 : kd aw S99 = kd aw S21 := kd_eq h108 h111
          show am_E _ _ _ _ [some (.ref 7), some (.int b), some (.int r3), some (.int r9), some (.int (-1))] [.int r100] _ _
          refine am_e3 (ls' := [some (.ref 7), some (.int b), some (.int r3), some (.int r9), some (.int r100)]) hi_105_76 (Nat.le_of_ble_eq_true rfl) rfl ?_
          refine am_e2 (v := 7) hi_105_78 rfl ?_
          refine cm_20f (r := 8) h106 hi_105_79 (h106.1.s (7, 6) (by decide)) (by decide) rfl ?_
          refine am_e1 (v := r9) hi_105_82 rfl ?_
          refine am_e1 (v := r3) hi_105_83 rfl ?_
          refine am_e2 (v := 7) hi_105_84 rfl ?_
          refine cm_20f (r := 2) h106 hi_105_85 (h106.1.s (7, 6) (by decide)) (by decide) rfl ?_
          refine am_e32x (as := [.ref 2]) (la := [some (.ref 2)]) (rest := [.int r3, .int r9, .ref 8]) hi_105_88 (am_hd0 (M := 105) (by decide) 88) (Nat.le_of_ble_eq_true rfl) (Nat.le_of_ble_eq_true rfl) (show 1 ≤ am_P0.2.2.1 63 from by decide +kernel) rfl (cl_recv (h106.1.s (2, 2) (by decide))) rfl rfl ?_
          refine am_e2 (v := 2) hi_63_0 rfl ?_
          refine cm_20i h106 hi_63_1 (h106.1.s (2, 2) (by decide)) (by decide) rfl fun v118 hv118 => ?_
          have hv118_ : v118.toInt = nx S99 := hv118
          refine am_e33 hi_63_4 ?_
          show am_E _ _ _ _ [some (.ref 7), some (.int b), some (.int r3), some (.int r9), some (.int r100)] [.int v118, .int r3, .int r9, .ref 8] _ _
          refine am_e1 (v := r100) hi_105_91 rfl ?_
          have h119 : c_w 8 = 160 := rfl
          refine am_e32n (as := [.ref 8, .int r9, .int r3, .int v118, .int r100]) (la := [some (.ref 8), some (.int r9), some (.int r3), some (.int v118), some (.int r100), none]) (rest := []) hi_105_93 (am_hd0 (M := 105) (by decide) 93) (Nat.le_of_ble_eq_true rfl) (Nat.le_of_ble_eq_true rfl) (show 5 ≤ am_P0.2.2.1 31 from by decide +kernel) rfl (cl_recv (h106.1.s (8, 3) (by decide))) rfl rfl (ck_add (d := (d + 11)) h106 (h106.1.s (8, 3) (by decide)) (by decide)  ) ?_
          rintro v120 S121 ⟨r122, rfl, h123, h124, h125⟩
          have h124_ : iv S99 8 1 ≤ iv S121 8 1 ∧ iv S121 8 1 ≤ iv S99 8 1 + 1 := h124
          have h125_ : ∀ j, cl (am_fs S99) j = some 3 → j ≠ 8 → iv S121 j 1 = iv S99 j 1 := h125
          obtain ⟨h127, h128, ⟨h129, h130, h131, h132⟩, ⟨h133, h134, h135⟩, h137⟩ := h123
          have h138 : kd aw S121 = kd aw S99 := kd_eq h129 h132
          have h139 := h125_ 10 (h106.1.s (10, 3) (by decide)) (by decide)
          have h140 := h125_ 14 (h106.1.s (14, 3) (by decide)) (by decide)
          show am_E _ _ _ _ [some (.ref 7), some (.int b), some (.int r3), some (.int r9), some (.int r100)] [.int r122] _ _
          refine am_e6i hi_105_96 ?_
          refine am_e2 (v := 7) hi_105_97 rfl ?_
          refine cm_20f (r := 2) h127 hi_105_98 (h127.1.s (7, 6) (by decide)) (by decide) rfl ?_
          refine am_e32t (as := [.ref 2]) (la := [some (.ref 2), none]) (rest := []) hi_105_101 (am_hd0 (M := 105) (by decide) 101) (Nat.le_of_ble_eq_true rfl) (Nat.le_of_ble_eq_true rfl) (show 1 ≤ am_P0.2.2.1 55 from by decide +kernel) rfl (cl_recv (h127.1.s (2, 2) (by decide))) rfl rfl (ck_skip (d := d) h127   (by show 0 ≤ nx S121; omega) (by show nx S121 ≤ wr S121; omega) (by show wr S121 ≤ 600; omega) (by show 0 ≤ lv S121; omega) (by show lv S121 ≤ 48; omega) (by show kd aw S121 ≠ 0; omega)) (fun S157 h158 => (show TH aw 700 S S157 from ⟨h158.1, ((h29.trans h107).trans h128).trans h158.2.1, ⟨(by have q := h158.2.2.1.1; omega), h158.2.2.1.2.trans (h132.trans (h111.trans h33))⟩, h158.2.2.2.1, h158.2.2.2.2.1, (by have q := h158.2.2.2.2.2; omega)⟩)) ?_
          rintro v141 S142 ⟨r143, rfl, h144, h145, h146, h147, h148⟩
          have h145_ : nx S142 = nx S121 + 1 := h145
          have h146_ : lv S142 = lv S121 + c_dl (kd aw S121) := h146
          have h147_ : lv S142 ≤ 48 := h147
          have h148_ : nx S142 ≤ wr S142 := h148
          obtain ⟨h159, h160, ⟨h163, h164⟩, ⟨h165, h166, h167⟩, h168, h169⟩ := h144
          have h170 := h168 8 (h127.1.s (8, 3) (by decide))
          have h171 := h168 10 (h127.1.s (10, 3) (by decide))
          have h172 := h168 14 (h127.1.s (14, 3) (by decide))
          have h173 : c_dl (kd aw S121) = 0 := by unfold c_dl; split <;> split <;> omega
          show am_E _ _ _ _ [some (.ref 7), some (.int b), some (.int r3), some (.int r9), some (.int r100)] [.int r143] _ _
          refine am_e6i hi_105_104 ?_
          refine am_e0 hi_105_105 ?_
          refine am_e36 hi_105_106 (by decide) ?_
          exact ⟨1, rfl, (by decide), ⟨h159, (((h29.trans h107).trans h128).trans h160), ⟨(by show wr S142 = wr S; omega), (h164.trans (h132.trans (h111.trans h33)))⟩, ⟨(h165.trans (h133.trans (h112.trans h34))), (h166.trans (h134.trans (h113.trans h35))), (by show fl S142 = fl S; omega)⟩⟩, (by show nx S + 0 ≤ nx S142; omega), (by show nx S142 ≤ wr S142; omega), (by show lv S142 = lv S + 0; omega), (by show EN S142 + -10000 * nx S142 ≤ EN S + -10000 * nx S + 0; omega), (by show b.toInt ≤ iv S142 8 1; omega), (by show iv S142 10 1 = iv S 10 1; omega), (by show iv S142 14 1 = iv S 14 1; omega)⟩
      · refine am_e13f hi_105_44 (am_cF (m := r3.toInt) (n := (10 : Int)) rfl (by decide) c40) ?_
        refine am_e2 (v := 7) hi_105_47 rfl ?_
        refine am_e0 hi_105_48 ?_
        refine am_e0 hi_105_50 ?_
        refine am_e0 hi_105_51 ?_
        refine am_e0 hi_105_52 ?_
        refine am_e32n (as := [.ref 7, .int 15, .int 0, .int 0, .int 0]) (la := [some (.ref 7), some (.int 15), some (.int 0), some (.int 0), some (.int 0)]) (rest := []) hi_105_53 (am_hd0 (M := 105) (by decide) 53) (Nat.le_of_ble_eq_true rfl) (Nat.le_of_ble_eq_true rfl) (show 5 ≤ am_P0.2.2.1 78 from by decide +kernel) rfl (cl_recv (h28.1.s (7, 6) (by decide))) rfl rfl (ck_emit (d := (d + 10)) h28   ) ?_
        rintro v174 S175 ⟨r176, rfl, h177, h178, h179, h180⟩
        have h178_ : iv S175 8 1 = iv S21 8 1 := h178
        have h179_ : iv S175 10 1 = iv S21 10 1 := h179
        have h180_ : iv S175 14 1 = iv S21 14 1 := h180
        obtain ⟨h182, h183, ⟨h184, h185, h186, h187⟩, ⟨h188, h189, h190⟩, h192⟩ := h177
        have h193 : kd aw S175 = kd aw S21 := kd_eq h184 h187
        show am_E _ _ _ _ [some (.ref 7), some (.int b), some (.int r3), some (.int r9), some (.int (-1))] [.int r176] _ _
        refine am_e3 (ls' := [some (.ref 7), some (.int b), some (.int r3), some (.int r9), some (.int r176)]) hi_105_56 (Nat.le_of_ble_eq_true rfl) rfl ?_
        refine am_e18 hi_105_58 ?_
        refine am_e2 (v := 7) hi_105_78 rfl ?_
        refine cm_20f (r := 8) h182 hi_105_79 (h182.1.s (7, 6) (by decide)) (by decide) rfl ?_
        refine am_e1 (v := r9) hi_105_82 rfl ?_
        refine am_e1 (v := r3) hi_105_83 rfl ?_
        refine am_e2 (v := 7) hi_105_84 rfl ?_
        refine cm_20f (r := 2) h182 hi_105_85 (h182.1.s (7, 6) (by decide)) (by decide) rfl ?_
        refine am_e32x (as := [.ref 2]) (la := [some (.ref 2)]) (rest := [.int r3, .int r9, .ref 8]) hi_105_88 (am_hd0 (M := 105) (by decide) 88) (Nat.le_of_ble_eq_true rfl) (Nat.le_of_ble_eq_true rfl) (show 1 ≤ am_P0.2.2.1 63 from by decide +kernel) rfl (cl_recv (h182.1.s (2, 2) (by decide))) rfl rfl ?_
        refine am_e2 (v := 2) hi_63_0 rfl ?_
        refine cm_20i h182 hi_63_1 (h182.1.s (2, 2) (by decide)) (by decide) rfl fun v194 hv194 => ?_
        have hv194_ : v194.toInt = nx S175 := hv194
        refine am_e33 hi_63_4 ?_
        show am_E _ _ _ _ [some (.ref 7), some (.int b), some (.int r3), some (.int r9), some (.int r176)] [.int v194, .int r3, .int r9, .ref 8] _ _
        refine am_e1 (v := r176) hi_105_91 rfl ?_
        have h195 : c_w 8 = 160 := rfl
        refine am_e32n (as := [.ref 8, .int r9, .int r3, .int v194, .int r176]) (la := [some (.ref 8), some (.int r9), some (.int r3), some (.int v194), some (.int r176), none]) (rest := []) hi_105_93 (am_hd0 (M := 105) (by decide) 93) (Nat.le_of_ble_eq_true rfl) (Nat.le_of_ble_eq_true rfl) (show 5 ≤ am_P0.2.2.1 31 from by decide +kernel) rfl (cl_recv (h182.1.s (8, 3) (by decide))) rfl rfl (ck_add (d := (d + 11)) h182 (h182.1.s (8, 3) (by decide)) (by decide)  ) ?_
        rintro v196 S197 ⟨r198, rfl, h199, h200, h201⟩
        have h200_ : iv S175 8 1 ≤ iv S197 8 1 ∧ iv S197 8 1 ≤ iv S175 8 1 + 1 := h200
        have h201_ : ∀ j, cl (am_fs S175) j = some 3 → j ≠ 8 → iv S197 j 1 = iv S175 j 1 := h201
        obtain ⟨h203, h204, ⟨h205, h206, h207, h208⟩, ⟨h209, h210, h211⟩, h213⟩ := h199
        have h214 : kd aw S197 = kd aw S175 := kd_eq h205 h208
        have h215 := h201_ 10 (h182.1.s (10, 3) (by decide)) (by decide)
        have h216 := h201_ 14 (h182.1.s (14, 3) (by decide)) (by decide)
        show am_E _ _ _ _ [some (.ref 7), some (.int b), some (.int r3), some (.int r9), some (.int r176)] [.int r198] _ _
        refine am_e6i hi_105_96 ?_
        refine am_e2 (v := 7) hi_105_97 rfl ?_
        refine cm_20f (r := 2) h203 hi_105_98 (h203.1.s (7, 6) (by decide)) (by decide) rfl ?_
        refine am_e32t (as := [.ref 2]) (la := [some (.ref 2), none]) (rest := []) hi_105_101 (am_hd0 (M := 105) (by decide) 101) (Nat.le_of_ble_eq_true rfl) (Nat.le_of_ble_eq_true rfl) (show 1 ≤ am_P0.2.2.1 55 from by decide +kernel) rfl (cl_recv (h203.1.s (2, 2) (by decide))) rfl rfl (ck_skip (d := d) h203   (by show 0 ≤ nx S197; omega) (by show nx S197 ≤ wr S197; omega) (by show wr S197 ≤ 600; omega) (by show 0 ≤ lv S197; omega) (by show lv S197 ≤ 48; omega) (by show kd aw S197 ≠ 0; omega)) (fun S233 h234 => (show TH aw 700 S S233 from ⟨h234.1, ((h29.trans h183).trans h204).trans h234.2.1, ⟨(by have q := h234.2.2.1.1; omega), h234.2.2.1.2.trans (h208.trans (h187.trans h33))⟩, h234.2.2.2.1, h234.2.2.2.2.1, (by have q := h234.2.2.2.2.2; omega)⟩)) ?_
        rintro v217 S218 ⟨r219, rfl, h220, h221, h222, h223, h224⟩
        have h221_ : nx S218 = nx S197 + 1 := h221
        have h222_ : lv S218 = lv S197 + c_dl (kd aw S197) := h222
        have h223_ : lv S218 ≤ 48 := h223
        have h224_ : nx S218 ≤ wr S218 := h224
        obtain ⟨h235, h236, ⟨h239, h240⟩, ⟨h241, h242, h243⟩, h244, h245⟩ := h220
        have h246 := h244 8 (h203.1.s (8, 3) (by decide))
        have h247 := h244 10 (h203.1.s (10, 3) (by decide))
        have h248 := h244 14 (h203.1.s (14, 3) (by decide))
        have h249 : c_dl (kd aw S197) = 0 := by unfold c_dl; split <;> split <;> omega
        show am_E _ _ _ _ [some (.ref 7), some (.int b), some (.int r3), some (.int r9), some (.int r176)] [.int r219] _ _
        refine am_e6i hi_105_104 ?_
        refine am_e0 hi_105_105 ?_
        refine am_e36 hi_105_106 (by decide) ?_
        exact ⟨1, rfl, (by decide), ⟨h235, (((h29.trans h183).trans h204).trans h236), ⟨(by show wr S218 = wr S; omega), (h240.trans (h208.trans (h187.trans h33)))⟩, ⟨(h241.trans (h209.trans (h188.trans h34))), (h242.trans (h210.trans (h189.trans h35))), (by show fl S218 = fl S; omega)⟩⟩, (by show nx S + 0 ≤ nx S218; omega), (by show nx S218 ≤ wr S218; omega), (by show lv S218 = lv S + 0; omega), (by show EN S218 + -10000 * nx S218 ≤ EN S + -10000 * nx S + 0; omega), (by show b.toInt ≤ iv S218 8 1; omega), (by show iv S218 10 1 = iv S 10 1; omega), (by show iv S218 14 1 = iv S 14 1; omega)⟩
    · refine am_e12f hi_105_25 (am_cF (m := r16.toInt) (n := (0 : Int)) rfl (by decide) c19) ?_
      refine am_e1 (v := r9) hi_105_28 rfl ?_
      refine am_e0 hi_105_29 ?_
      obtain ⟨z250, hz250⟩ : ∃ q__, am_bin 0 r9 1 = q__ := ⟨_, rfl⟩
      refine am_e10 (z := z250) hi_105_30 hz250 ?_
      refine am_e18 hi_105_31 ?_
      refine am_e32n (as := [.ref 7, .int b, .int z250]) (la := [some (.ref 7), some (.int b), some (.int z250), none, none, none]) (rest := []) hi_105_35 (am_hd0 (M := 105) (by decide) 35) (Nat.le_of_ble_eq_true rfl) (Nat.le_of_ble_eq_true rfl) (show 3 ≤ am_P0.2.2.1 108 from by decide +kernel) rfl (cl_recv (h.1.s (7, 6) (by decide))) rfl rfl (ck_reduce (d := (d + 9)) h   (by show 0 ≤ b.toInt; omega) (by show b.toInt ≤ iv S 8 1; omega)) ?_
      rintro v251 S252 ⟨rfl, h254, h255, h256, h257⟩
      have h255_ : b.toInt ≤ iv S252 8 1 := h255
      have h256_ : iv S252 10 1 = iv S 10 1 := h256
      have h257_ : iv S252 14 1 = iv S 14 1 := h257
      obtain ⟨h259, h260, ⟨h261, h262, h263, h264⟩, ⟨h265, h266, h267⟩, h269⟩ := h254
      have h270 : kd aw S252 = kd aw S := kd_eq h261 h264
      show am_E _ _ _ _ [some (.ref 7), some (.int b), some (.int r3), some (.int r9), none] [] _ _
      refine am_e0 hi_105_38 ?_
      refine am_e3 (ls' := [some (.ref 7), some (.int b), some (.int r3), some (.int r9), some (.int (-1))]) hi_105_39 (Nat.le_of_ble_eq_true rfl) rfl ?_
      refine am_e1 (v := r3) hi_105_41 rfl ?_
      refine am_e0 hi_105_42 ?_
      by_cases c271 : ¬ r3.toInt = (10 : Int)
      · refine am_e13t hi_105_44 (am_cT (m := r3.toInt) (n := (10 : Int)) rfl (by decide) c271) ?_
        refine am_e1 (v := r3) hi_105_61 rfl ?_
        refine am_e0 hi_105_62 ?_
        by_cases c272 : ¬ r3.toInt = (25 : Int)
        · refine am_e13t hi_105_64 (am_cT (m := r3.toInt) (n := (25 : Int)) rfl (by decide) c272) ?_
          refine am_e2 (v := 7) hi_105_78 rfl ?_
          refine cm_20f (r := 8) h259 hi_105_79 (h259.1.s (7, 6) (by decide)) (by decide) rfl ?_
          refine am_e1 (v := r9) hi_105_82 rfl ?_
          refine am_e1 (v := r3) hi_105_83 rfl ?_
          refine am_e2 (v := 7) hi_105_84 rfl ?_
          refine cm_20f (r := 2) h259 hi_105_85 (h259.1.s (7, 6) (by decide)) (by decide) rfl ?_
          refine am_e32x (as := [.ref 2]) (la := [some (.ref 2)]) (rest := [.int r3, .int r9, .ref 8]) hi_105_88 (am_hd0 (M := 105) (by decide) 88) (Nat.le_of_ble_eq_true rfl) (Nat.le_of_ble_eq_true rfl) (show 1 ≤ am_P0.2.2.1 63 from by decide +kernel) rfl (cl_recv (h259.1.s (2, 2) (by decide))) rfl rfl ?_
          refine am_e2 (v := 2) hi_63_0 rfl ?_
          refine cm_20i h259 hi_63_1 (h259.1.s (2, 2) (by decide)) (by decide) rfl fun v273 hv273 => ?_
          have hv273_ : v273.toInt = nx S252 := hv273
          refine am_e33 hi_63_4 ?_
          show am_E _ _ _ _ [some (.ref 7), some (.int b), some (.int r3), some (.int r9), some (.int (-1))] [.int v273, .int r3, .int r9, .ref 8] _ _
          refine am_e1 (v := (-1)) hi_105_91 rfl ?_
          have h274 : c_w 8 = 160 := rfl
          refine am_e32n (as := [.ref 8, .int r9, .int r3, .int v273, .int (-1)]) (la := [some (.ref 8), some (.int r9), some (.int r3), some (.int v273), some (.int (-1)), none]) (rest := []) hi_105_93 (am_hd0 (M := 105) (by decide) 93) (Nat.le_of_ble_eq_true rfl) (Nat.le_of_ble_eq_true rfl) (show 5 ≤ am_P0.2.2.1 31 from by decide +kernel) rfl (cl_recv (h259.1.s (8, 3) (by decide))) rfl rfl (ck_add (d := (d + 11)) h259 (h259.1.s (8, 3) (by decide)) (by decide)  ) ?_
          rintro v275 S276 ⟨r277, rfl, h278, h279, h280⟩
          have h279_ : iv S252 8 1 ≤ iv S276 8 1 ∧ iv S276 8 1 ≤ iv S252 8 1 + 1 := h279
          have h280_ : ∀ j, cl (am_fs S252) j = some 3 → j ≠ 8 → iv S276 j 1 = iv S252 j 1 := h280
          obtain ⟨h282, h283, ⟨h284, h285, h286, h287⟩, ⟨h288, h289, h290⟩, h292⟩ := h278
          have h293 : kd aw S276 = kd aw S252 := kd_eq h284 h287
          have h294 := h280_ 10 (h259.1.s (10, 3) (by decide)) (by decide)
          have h295 := h280_ 14 (h259.1.s (14, 3) (by decide)) (by decide)
          show am_E _ _ _ _ [some (.ref 7), some (.int b), some (.int r3), some (.int r9), some (.int (-1))] [.int r277] _ _
          refine am_e6i hi_105_96 ?_
          refine am_e2 (v := 7) hi_105_97 rfl ?_
          refine cm_20f (r := 2) h282 hi_105_98 (h282.1.s (7, 6) (by decide)) (by decide) rfl ?_
          refine am_e32t (as := [.ref 2]) (la := [some (.ref 2), none]) (rest := []) hi_105_101 (am_hd0 (M := 105) (by decide) 101) (Nat.le_of_ble_eq_true rfl) (Nat.le_of_ble_eq_true rfl) (show 1 ≤ am_P0.2.2.1 55 from by decide +kernel) rfl (cl_recv (h282.1.s (2, 2) (by decide))) rfl rfl (ck_skip (d := d) h282   (by show 0 ≤ nx S276; omega) (by show nx S276 ≤ wr S276; omega) (by show wr S276 ≤ 600; omega) (by show 0 ≤ lv S276; omega) (by show lv S276 ≤ 48; omega) (by show kd aw S276 ≠ 0; omega)) (fun S312 h313 => (show TH aw 700 S S312 from ⟨h313.1, (h260.trans h283).trans h313.2.1, ⟨(by have q := h313.2.2.1.1; omega), h313.2.2.1.2.trans (h287.trans h264)⟩, h313.2.2.2.1, h313.2.2.2.2.1, (by have q := h313.2.2.2.2.2; omega)⟩)) ?_
          rintro v296 S297 ⟨r298, rfl, h299, h300, h301, h302, h303⟩
          have h300_ : nx S297 = nx S276 + 1 := h300
          have h301_ : lv S297 = lv S276 + c_dl (kd aw S276) := h301
          have h302_ : lv S297 ≤ 48 := h302
          have h303_ : nx S297 ≤ wr S297 := h303
          obtain ⟨h314, h315, ⟨h318, h319⟩, ⟨h320, h321, h322⟩, h323, h324⟩ := h299
          have h325 := h323 8 (h282.1.s (8, 3) (by decide))
          have h326 := h323 10 (h282.1.s (10, 3) (by decide))
          have h327 := h323 14 (h282.1.s (14, 3) (by decide))
          have h328 : c_dl (kd aw S276) = 0 := by unfold c_dl; split <;> split <;> omega
          show am_E _ _ _ _ [some (.ref 7), some (.int b), some (.int r3), some (.int r9), some (.int (-1))] [.int r298] _ _
          refine am_e6i hi_105_104 ?_
          refine am_e0 hi_105_105 ?_
          refine am_e36 hi_105_106 (by decide) ?_
          exact ⟨1, rfl, (by decide), ⟨h314, ((h260.trans h283).trans h315), ⟨(by show wr S297 = wr S; omega), (h319.trans (h287.trans h264))⟩, ⟨(h320.trans (h288.trans h265)), (h321.trans (h289.trans h266)), (by show fl S297 = fl S; omega)⟩⟩, (by show nx S + 0 ≤ nx S297; omega), (by show nx S297 ≤ wr S297; omega), (by show lv S297 = lv S + 0; omega), (by show EN S297 + -10000 * nx S297 ≤ EN S + -10000 * nx S + 0; omega), (by show b.toInt ≤ iv S297 8 1; omega), (by show iv S297 10 1 = iv S 10 1; omega), (by show iv S297 14 1 = iv S 14 1; omega)⟩
        · refine am_e13f hi_105_64 (am_cF (m := r3.toInt) (n := (25 : Int)) rfl (by decide) c272) ?_
          refine am_e2 (v := 7) hi_105_67 rfl ?_
          refine am_e0 hi_105_68 ?_
          refine am_e0 hi_105_70 ?_
          refine am_e0 hi_105_71 ?_
          refine am_e0 hi_105_72 ?_
          refine am_e32n (as := [.ref 7, .int 16, .int 0, .int 0, .int 0]) (la := [some (.ref 7), some (.int 16), some (.int 0), some (.int 0), some (.int 0)]) (rest := []) hi_105_73 (am_hd0 (M := 105) (by decide) 73) (Nat.le_of_ble_eq_true rfl) (Nat.le_of_ble_eq_true rfl) (show 5 ≤ am_P0.2.2.1 78 from by decide +kernel) rfl (cl_recv (h259.1.s (7, 6) (by decide))) rfl rfl (ck_emit (d := (d + 10)) h259   ) ?_
          rintro v329 S330 ⟨r331, rfl, h332, h333, h334, h335⟩
          have h333_ : iv S330 8 1 = iv S252 8 1 := h333
          have h334_ : iv S330 10 1 = iv S252 10 1 := h334
          have h335_ : iv S330 14 1 = iv S252 14 1 := h335
          obtain ⟨h337, h338, ⟨h339, h340, h341, h342⟩, ⟨h343, h344, h345⟩, h347⟩ := h332
          have h348 : kd aw S330 = kd aw S252 := kd_eq h339 h342
          show am_E _ _ _ _ [some (.ref 7), some (.int b), some (.int r3), some (.int r9), some (.int (-1))] [.int r331] _ _
          refine am_e3 (ls' := [some (.ref 7), some (.int b), some (.int r3), some (.int r9), some (.int r331)]) hi_105_76 (Nat.le_of_ble_eq_true rfl) rfl ?_
          refine am_e2 (v := 7) hi_105_78 rfl ?_
          refine cm_20f (r := 8) h337 hi_105_79 (h337.1.s (7, 6) (by decide)) (by decide) rfl ?_
          refine am_e1 (v := r9) hi_105_82 rfl ?_
          refine am_e1 (v := r3) hi_105_83 rfl ?_
          refine am_e2 (v := 7) hi_105_84 rfl ?_
          refine cm_20f (r := 2) h337 hi_105_85 (h337.1.s (7, 6) (by decide)) (by decide) rfl ?_
          refine am_e32x (as := [.ref 2]) (la := [some (.ref 2)]) (rest := [.int r3, .int r9, .ref 8]) hi_105_88 (am_hd0 (M := 105) (by decide) 88) (Nat.le_of_ble_eq_true rfl) (Nat.le_of_ble_eq_true rfl) (show 1 ≤ am_P0.2.2.1 63 from by decide +kernel) rfl (cl_recv (h337.1.s (2, 2) (by decide))) rfl rfl ?_
          refine am_e2 (v := 2) hi_63_0 rfl ?_
          refine cm_20i h337 hi_63_1 (h337.1.s (2, 2) (by decide)) (by decide) rfl fun v349 hv349 => ?_
          have hv349_ : v349.toInt = nx S330 := hv349
          refine am_e33 hi_63_4 ?_
          show am_E _ _ _ _ [some (.ref 7), some (.int b), some (.int r3), some (.int r9), some (.int r331)] [.int v349, .int r3, .int r9, .ref 8] _ _
          refine am_e1 (v := r331) hi_105_91 rfl ?_
          have h350 : c_w 8 = 160 := rfl
          refine am_e32n (as := [.ref 8, .int r9, .int r3, .int v349, .int r331]) (la := [some (.ref 8), some (.int r9), some (.int r3), some (.int v349), some (.int r331), none]) (rest := []) hi_105_93 (am_hd0 (M := 105) (by decide) 93) (Nat.le_of_ble_eq_true rfl) (Nat.le_of_ble_eq_true rfl) (show 5 ≤ am_P0.2.2.1 31 from by decide +kernel) rfl (cl_recv (h337.1.s (8, 3) (by decide))) rfl rfl (ck_add (d := (d + 11)) h337 (h337.1.s (8, 3) (by decide)) (by decide)  ) ?_
          rintro v351 S352 ⟨r353, rfl, h354, h355, h356⟩
          have h355_ : iv S330 8 1 ≤ iv S352 8 1 ∧ iv S352 8 1 ≤ iv S330 8 1 + 1 := h355
          have h356_ : ∀ j, cl (am_fs S330) j = some 3 → j ≠ 8 → iv S352 j 1 = iv S330 j 1 := h356
          obtain ⟨h358, h359, ⟨h360, h361, h362, h363⟩, ⟨h364, h365, h366⟩, h368⟩ := h354
          have h369 : kd aw S352 = kd aw S330 := kd_eq h360 h363
          have h370 := h356_ 10 (h337.1.s (10, 3) (by decide)) (by decide)
          have h371 := h356_ 14 (h337.1.s (14, 3) (by decide)) (by decide)
          show am_E _ _ _ _ [some (.ref 7), some (.int b), some (.int r3), some (.int r9), some (.int r331)] [.int r353] _ _
          refine am_e6i hi_105_96 ?_
          refine am_e2 (v := 7) hi_105_97 rfl ?_
          refine cm_20f (r := 2) h358 hi_105_98 (h358.1.s (7, 6) (by decide)) (by decide) rfl ?_
          refine am_e32t (as := [.ref 2]) (la := [some (.ref 2), none]) (rest := []) hi_105_101 (am_hd0 (M := 105) (by decide) 101) (Nat.le_of_ble_eq_true rfl) (Nat.le_of_ble_eq_true rfl) (show 1 ≤ am_P0.2.2.1 55 from by decide +kernel) rfl (cl_recv (h358.1.s (2, 2) (by decide))) rfl rfl (ck_skip (d := d) h358   (by show 0 ≤ nx S352; omega) (by show nx S352 ≤ wr S352; omega) (by show wr S352 ≤ 600; omega) (by show 0 ≤ lv S352; omega) (by show lv S352 ≤ 48; omega) (by show kd aw S352 ≠ 0; omega)) (fun S388 h389 => (show TH aw 700 S S388 from ⟨h389.1, ((h260.trans h338).trans h359).trans h389.2.1, ⟨(by have q := h389.2.2.1.1; omega), h389.2.2.1.2.trans (h363.trans (h342.trans h264))⟩, h389.2.2.2.1, h389.2.2.2.2.1, (by have q := h389.2.2.2.2.2; omega)⟩)) ?_
          rintro v372 S373 ⟨r374, rfl, h375, h376, h377, h378, h379⟩
          have h376_ : nx S373 = nx S352 + 1 := h376
          have h377_ : lv S373 = lv S352 + c_dl (kd aw S352) := h377
          have h378_ : lv S373 ≤ 48 := h378
          have h379_ : nx S373 ≤ wr S373 := h379
          obtain ⟨h390, h391, ⟨h394, h395⟩, ⟨h396, h397, h398⟩, h399, h400⟩ := h375
          have h401 := h399 8 (h358.1.s (8, 3) (by decide))
          have h402 := h399 10 (h358.1.s (10, 3) (by decide))
          have h403 := h399 14 (h358.1.s (14, 3) (by decide))
          have h404 : c_dl (kd aw S352) = 0 := by unfold c_dl; split <;> split <;> omega
          show am_E _ _ _ _ [some (.ref 7), some (.int b), some (.int r3), some (.int r9), some (.int r331)] [.int r374] _ _
          refine am_e6i hi_105_104 ?_
          refine am_e0 hi_105_105 ?_
          refine am_e36 hi_105_106 (by decide) ?_
          exact ⟨1, rfl, (by decide), ⟨h390, (((h260.trans h338).trans h359).trans h391), ⟨(by show wr S373 = wr S; omega), (h395.trans (h363.trans (h342.trans h264)))⟩, ⟨(h396.trans (h364.trans (h343.trans h265))), (h397.trans (h365.trans (h344.trans h266))), (by show fl S373 = fl S; omega)⟩⟩, (by show nx S + 0 ≤ nx S373; omega), (by show nx S373 ≤ wr S373; omega), (by show lv S373 = lv S + 0; omega), (by show EN S373 + -10000 * nx S373 ≤ EN S + -10000 * nx S + 0; omega), (by show b.toInt ≤ iv S373 8 1; omega), (by show iv S373 10 1 = iv S 10 1; omega), (by show iv S373 14 1 = iv S 14 1; omega)⟩
      · refine am_e13f hi_105_44 (am_cF (m := r3.toInt) (n := (10 : Int)) rfl (by decide) c271) ?_
        refine am_e2 (v := 7) hi_105_47 rfl ?_
        refine am_e0 hi_105_48 ?_
        refine am_e0 hi_105_50 ?_
        refine am_e0 hi_105_51 ?_
        refine am_e0 hi_105_52 ?_
        refine am_e32n (as := [.ref 7, .int 15, .int 0, .int 0, .int 0]) (la := [some (.ref 7), some (.int 15), some (.int 0), some (.int 0), some (.int 0)]) (rest := []) hi_105_53 (am_hd0 (M := 105) (by decide) 53) (Nat.le_of_ble_eq_true rfl) (Nat.le_of_ble_eq_true rfl) (show 5 ≤ am_P0.2.2.1 78 from by decide +kernel) rfl (cl_recv (h259.1.s (7, 6) (by decide))) rfl rfl (ck_emit (d := (d + 10)) h259   ) ?_
        rintro v405 S406 ⟨r407, rfl, h408, h409, h410, h411⟩
        have h409_ : iv S406 8 1 = iv S252 8 1 := h409
        have h410_ : iv S406 10 1 = iv S252 10 1 := h410
        have h411_ : iv S406 14 1 = iv S252 14 1 := h411
        obtain ⟨h413, h414, ⟨h415, h416, h417, h418⟩, ⟨h419, h420, h421⟩, h423⟩ := h408
        have h424 : kd aw S406 = kd aw S252 := kd_eq h415 h418
        show am_E _ _ _ _ [some (.ref 7), some (.int b), some (.int r3), some (.int r9), some (.int (-1))] [.int r407] _ _
        refine am_e3 (ls' := [some (.ref 7), some (.int b), some (.int r3), some (.int r9), some (.int r407)]) hi_105_56 (Nat.le_of_ble_eq_true rfl) rfl ?_
        refine am_e18 hi_105_58 ?_
        refine am_e2 (v := 7) hi_105_78 rfl ?_
        refine cm_20f (r := 8) h413 hi_105_79 (h413.1.s (7, 6) (by decide)) (by decide) rfl ?_
        refine am_e1 (v := r9) hi_105_82 rfl ?_
        refine am_e1 (v := r3) hi_105_83 rfl ?_
        refine am_e2 (v := 7) hi_105_84 rfl ?_
        refine cm_20f (r := 2) h413 hi_105_85 (h413.1.s (7, 6) (by decide)) (by decide) rfl ?_
        refine am_e32x (as := [.ref 2]) (la := [some (.ref 2)]) (rest := [.int r3, .int r9, .ref 8]) hi_105_88 (am_hd0 (M := 105) (by decide) 88) (Nat.le_of_ble_eq_true rfl) (Nat.le_of_ble_eq_true rfl) (show 1 ≤ am_P0.2.2.1 63 from by decide +kernel) rfl (cl_recv (h413.1.s (2, 2) (by decide))) rfl rfl ?_
        refine am_e2 (v := 2) hi_63_0 rfl ?_
        refine cm_20i h413 hi_63_1 (h413.1.s (2, 2) (by decide)) (by decide) rfl fun v425 hv425 => ?_
        have hv425_ : v425.toInt = nx S406 := hv425
        refine am_e33 hi_63_4 ?_
        show am_E _ _ _ _ [some (.ref 7), some (.int b), some (.int r3), some (.int r9), some (.int r407)] [.int v425, .int r3, .int r9, .ref 8] _ _
        refine am_e1 (v := r407) hi_105_91 rfl ?_
        have h426 : c_w 8 = 160 := rfl
        refine am_e32n (as := [.ref 8, .int r9, .int r3, .int v425, .int r407]) (la := [some (.ref 8), some (.int r9), some (.int r3), some (.int v425), some (.int r407), none]) (rest := []) hi_105_93 (am_hd0 (M := 105) (by decide) 93) (Nat.le_of_ble_eq_true rfl) (Nat.le_of_ble_eq_true rfl) (show 5 ≤ am_P0.2.2.1 31 from by decide +kernel) rfl (cl_recv (h413.1.s (8, 3) (by decide))) rfl rfl (ck_add (d := (d + 11)) h413 (h413.1.s (8, 3) (by decide)) (by decide)  ) ?_
        rintro v427 S428 ⟨r429, rfl, h430, h431, h432⟩
        have h431_ : iv S406 8 1 ≤ iv S428 8 1 ∧ iv S428 8 1 ≤ iv S406 8 1 + 1 := h431
        have h432_ : ∀ j, cl (am_fs S406) j = some 3 → j ≠ 8 → iv S428 j 1 = iv S406 j 1 := h432
        obtain ⟨h434, h435, ⟨h436, h437, h438, h439⟩, ⟨h440, h441, h442⟩, h444⟩ := h430
        have h445 : kd aw S428 = kd aw S406 := kd_eq h436 h439
        have h446 := h432_ 10 (h413.1.s (10, 3) (by decide)) (by decide)
        have h447 := h432_ 14 (h413.1.s (14, 3) (by decide)) (by decide)
        show am_E _ _ _ _ [some (.ref 7), some (.int b), some (.int r3), some (.int r9), some (.int r407)] [.int r429] _ _
        refine am_e6i hi_105_96 ?_
        refine am_e2 (v := 7) hi_105_97 rfl ?_
        refine cm_20f (r := 2) h434 hi_105_98 (h434.1.s (7, 6) (by decide)) (by decide) rfl ?_
        refine am_e32t (as := [.ref 2]) (la := [some (.ref 2), none]) (rest := []) hi_105_101 (am_hd0 (M := 105) (by decide) 101) (Nat.le_of_ble_eq_true rfl) (Nat.le_of_ble_eq_true rfl) (show 1 ≤ am_P0.2.2.1 55 from by decide +kernel) rfl (cl_recv (h434.1.s (2, 2) (by decide))) rfl rfl (ck_skip (d := d) h434   (by show 0 ≤ nx S428; omega) (by show nx S428 ≤ wr S428; omega) (by show wr S428 ≤ 600; omega) (by show 0 ≤ lv S428; omega) (by show lv S428 ≤ 48; omega) (by show kd aw S428 ≠ 0; omega)) (fun S464 h465 => (show TH aw 700 S S464 from ⟨h465.1, ((h260.trans h414).trans h435).trans h465.2.1, ⟨(by have q := h465.2.2.1.1; omega), h465.2.2.1.2.trans (h439.trans (h418.trans h264))⟩, h465.2.2.2.1, h465.2.2.2.2.1, (by have q := h465.2.2.2.2.2; omega)⟩)) ?_
        rintro v448 S449 ⟨r450, rfl, h451, h452, h453, h454, h455⟩
        have h452_ : nx S449 = nx S428 + 1 := h452
        have h453_ : lv S449 = lv S428 + c_dl (kd aw S428) := h453
        have h454_ : lv S449 ≤ 48 := h454
        have h455_ : nx S449 ≤ wr S449 := h455
        obtain ⟨h466, h467, ⟨h470, h471⟩, ⟨h472, h473, h474⟩, h475, h476⟩ := h451
        have h477 := h475 8 (h434.1.s (8, 3) (by decide))
        have h478 := h475 10 (h434.1.s (10, 3) (by decide))
        have h479 := h475 14 (h434.1.s (14, 3) (by decide))
        have h480 : c_dl (kd aw S428) = 0 := by unfold c_dl; split <;> split <;> omega
        show am_E _ _ _ _ [some (.ref 7), some (.int b), some (.int r3), some (.int r9), some (.int r407)] [.int r450] _ _
        refine am_e6i hi_105_104 ?_
        refine am_e0 hi_105_105 ?_
        refine am_e36 hi_105_106 (by decide) ?_
        exact ⟨1, rfl, (by decide), ⟨h466, (((h260.trans h414).trans h435).trans h467), ⟨(by show wr S449 = wr S; omega), (h471.trans (h439.trans (h418.trans h264)))⟩, ⟨(h472.trans (h440.trans (h419.trans h265))), (h473.trans (h441.trans (h420.trans h266))), (by show fl S449 = fl S; omega)⟩⟩, (by show nx S + 0 ≤ nx S449; omega), (by show nx S449 ≤ wr S449; omega), (by show lv S449 = lv S + 0; omega), (by show EN S449 + -10000 * nx S449 ≤ EN S + -10000 * nx S + 0; omega), (by show b.toInt ≤ iv S449 8 1; omega), (by show iv S449 10 1 = iv S 10 1; omega), (by show iv S449 14 1 = iv S 14 1; omega)⟩
  · refine am_e12f hi_105_14 (am_cF (m := r9.toInt) (n := (0 : Int)) rfl (by decide) c13) ?_
    refine am_e0 hi_105_17 ?_
    refine am_e36 hi_105_18 (by decide) ?_
    exact ⟨0, rfl, (by decide), ⟨h, (Ex.refl S), ⟨(by show wr S = wr S; omega), rfl⟩, ⟨rfl, rfl, (by show fl S = fl S; omega)⟩⟩, (by show nx S + 0 ≤ nx S; omega), (by show nx S ≤ wr S; omega), (by show lv S = lv S + 0; omega), (by show EN S + -10000 * nx S ≤ EN S + -10000 * nx S + 0; omega), (by show b.toInt ≤ iv S 8 1; omega), (by show iv S 10 1 = iv S 10 1; omega), (by show iv S 14 1 = iv S 14 1; omega)⟩
theorem ck_literal {sc : Nat × (Nat → Int32)} {d aw : Nat} {S : am_S} (h : SH aw S) (p0 : 0 ≤ nx S) (p1 : nx S ≤ wr S) (p2 : wr S ≤ 600) (p3 : 0 ≤ lv S) (p4 : lv S ≤ 48) : am_E (am_PP sc) (d + 14) 103 0 [some (.ref 7), none, none] [] S (am_T (fun v S1 => ∃ r : Int32, v = some (.int r) ∧ (r = 0 ∨ r = 1) ∧ Wv aw S S1 ∧ (nx S + 1 ≤ nx S1) ∧ (nx S1 ≤ wr S1) ∧ (lv S1 = lv S + 0) ∧ (EN S1 + -10000 * nx S1 ≤ EN S + -10000 * nx S + (-9000)) ∧ (iv S1 8 1 = iv S 8 1) ∧ (iv S1 10 1 = iv S 10 1) ∧ (iv S1 14 1 = iv S 14 1)) (fun S1 => TH aw 700 S S1)) := by
  refine am_e2 (v := 7) hi_103_0 rfl ?_
  refine cm_20f (r := 2) h hi_103_1 (h.1.s (7, 6) (by decide)) (by decide) rfl ?_
  refine am_e32x (as := [.ref 2]) (la := [some (.ref 2)]) (rest := []) hi_103_4 (am_hd0 (M := 103) (by decide) 4) (Nat.le_of_ble_eq_true rfl) (Nat.le_of_ble_eq_true rfl) (show 1 ≤ am_P0.2.2.1 63 from by decide +kernel) rfl (cl_recv (h.1.s (2, 2) (by decide))) rfl rfl ?_
  refine am_e2 (v := 2) hi_63_0 rfl ?_
  refine cm_20i h hi_63_1 (h.1.s (2, 2) (by decide)) (by decide) rfl fun v1 hv1 => ?_
  have hv1_ : v1.toInt = nx S := hv1
  refine am_e33 hi_63_4 ?_
  show am_E _ _ _ _ [some (.ref 7), none, none] [.int v1] _ _
  refine am_e3 (ls' := [some (.ref 7), some (.int v1), none]) hi_103_7 (Nat.le_of_ble_eq_true rfl) rfl ?_
  refine am_e2 (v := 7) hi_103_8 rfl ?_
  refine cm_20f (r := 2) h hi_103_9 (h.1.s (7, 6) (by decide)) (by decide) rfl ?_
  refine am_e32n (as := [.ref 2]) (la := [some (.ref 2)]) (rest := []) hi_103_12 (am_hd0 (M := 103) (by decide) 12) (Nat.le_of_ble_eq_true rfl) (Nat.le_of_ble_eq_true rfl) (show 1 ≤ am_P0.2.2.1 53 from by decide +kernel) rfl (cl_recv (h.1.s (2, 2) (by decide))) rfl rfl (ck_kind (d := (d + 12)) h   ) ?_
  rintro v2 S3 ⟨r4, rfl, rfl, h6⟩
  have h6_ : r4.toInt = kd aw S := h6
  show am_E _ _ _ _ [some (.ref 7), some (.int v1), none] [.int r4] _ _
  refine am_e3 (ls' := [some (.ref 7), some (.int v1), some (.int r4)]) hi_103_15 (Nat.le_of_ble_eq_true rfl) rfl ?_
  refine am_e1 (v := r4) hi_103_16 rfl ?_
  by_cases c8 : r4.toInt = 2
  · refine am_e19 (t := 112) hi_103_17 (am_swI (v := r4) (w := 2) (by decide) (by decide) c8) ?_
    refine am_e2 (v := 7) hi_103_112 rfl ?_
    refine am_e0 hi_103_113 ?_
    refine am_e2 (v := 7) hi_103_114 rfl ?_
    refine cm_20f (r := 2) h hi_103_115 (h.1.s (7, 6) (by decide)) (by decide) rfl ?_
    refine am_e1 (v := v1) hi_103_118 rfl ?_
    refine am_e32n (as := [.ref 2, .int v1]) (la := [some (.ref 2), some (.int v1)]) (rest := [.int 4, .ref 7]) hi_103_119 (am_hd0 (M := 103) (by decide) 119) (Nat.le_of_ble_eq_true rfl) (Nat.le_of_ble_eq_true rfl) (show 2 ≤ am_P0.2.2.1 104 from by decide +kernel) rfl (cl_recv (h.1.s (2, 2) (by decide))) rfl rfl (ck_textAt (d := (d + 12)) h   ) ?_
    rintro v9 S10 ⟨r11, rfl, rfl⟩
    show am_E _ _ _ _ [some (.ref 7), some (.int v1), some (.int r4)] [.int r11, .int 4, .ref 7] _ _
    refine am_e0 hi_103_122 ?_
    refine am_e0 hi_103_123 ?_
    refine am_e32n (as := [.ref 7, .int 4, .int r11, .int 0, .int 0]) (la := [some (.ref 7), some (.int 4), some (.int r11), some (.int 0), some (.int 0)]) (rest := []) hi_103_124 (am_hd0 (M := 103) (by decide) 124) (Nat.le_of_ble_eq_true rfl) (Nat.le_of_ble_eq_true rfl) (show 5 ≤ am_P0.2.2.1 78 from by decide +kernel) rfl (cl_recv (h.1.s (7, 6) (by decide))) rfl rfl (ck_emit (d := (d + 10)) h   ) ?_
    rintro v14 S15 ⟨r16, rfl, h17, h18, h19, h20⟩
    have h18_ : iv S15 8 1 = iv S 8 1 := h18
    have h19_ : iv S15 10 1 = iv S 10 1 := h19
    have h20_ : iv S15 14 1 = iv S 14 1 := h20
    obtain ⟨h22, h23, ⟨h24, h25, h26, h27⟩, ⟨h28, h29, h30⟩, h32⟩ := h17
    have h33 : kd aw S15 = kd aw S := kd_eq h24 h27
    show am_E _ _ _ _ [some (.ref 7), some (.int v1), some (.int r4)] [.int r16] _ _
    refine am_e6i hi_103_127 ?_
    refine am_e18 hi_103_128 ?_
    refine am_e2 (v := 7) hi_103_196 rfl ?_
    refine cm_20f (r := 2) h22 hi_103_197 (h22.1.s (7, 6) (by decide)) (by decide) rfl ?_
    refine am_e32t (as := [.ref 2]) (la := [some (.ref 2), none]) (rest := []) hi_103_200 (am_hd0 (M := 103) (by decide) 200) (Nat.le_of_ble_eq_true rfl) (Nat.le_of_ble_eq_true rfl) (show 1 ≤ am_P0.2.2.1 55 from by decide +kernel) rfl (cl_recv (h22.1.s (2, 2) (by decide))) rfl rfl (ck_skip (d := d) h22   (by show 0 ≤ nx S15; omega) (by show nx S15 ≤ wr S15; omega) (by show wr S15 ≤ 600; omega) (by show 0 ≤ lv S15; omega) (by show lv S15 ≤ 48; omega) (by show kd aw S15 ≠ 0; omega)) (fun S50 h51 => (show TH aw 700 S S50 from ⟨h51.1, h23.trans h51.2.1, ⟨(by have q := h51.2.2.1.1; omega), h51.2.2.1.2.trans h27⟩, h51.2.2.2.1, h51.2.2.2.2.1, (by have q := h51.2.2.2.2.2; omega)⟩)) ?_
    rintro v34 S35 ⟨r36, rfl, h37, h38, h39, h40, h41⟩
    have h38_ : nx S35 = nx S15 + 1 := h38
    have h39_ : lv S35 = lv S15 + c_dl (kd aw S15) := h39
    have h40_ : lv S35 ≤ 48 := h40
    have h41_ : nx S35 ≤ wr S35 := h41
    obtain ⟨h52, h53, ⟨h56, h57⟩, ⟨h58, h59, h60⟩, h61, h62⟩ := h37
    have h63 := h61 8 (h22.1.s (8, 3) (by decide))
    have h64 := h61 10 (h22.1.s (10, 3) (by decide))
    have h65 := h61 14 (h22.1.s (14, 3) (by decide))
    have h66 : c_dl (kd aw S15) = 0 := by unfold c_dl; split <;> split <;> omega
    show am_E _ _ _ _ [some (.ref 7), some (.int v1), some (.int r4)] [.int r36] _ _
    refine am_e6i hi_103_203 ?_
    refine am_e1 (v := r4) hi_103_204 rfl ?_
    refine am_e0 hi_103_205 ?_
    refine am_e13t hi_103_207 (am_cT (m := r4.toInt) (n := (72 : Int)) rfl (by decide) (by simp only [am_cI]; omega)) ?_
    refine am_e0 hi_103_214 ?_
    refine am_e36 hi_103_215 (by decide) ?_
    exact ⟨0, rfl, (by decide), ⟨h52, (h23.trans h53), ⟨(by show wr S35 = wr S; omega), (h57.trans h27)⟩, ⟨(h58.trans h28), (h59.trans h29), (by show fl S35 = fl S; omega)⟩⟩, (by show nx S + 1 ≤ nx S35; omega), (by show nx S35 ≤ wr S35; omega), (by show lv S35 = lv S + 0; omega), (by show EN S35 + -10000 * nx S35 ≤ EN S + -10000 * nx S + (-9000); omega), (by show iv S35 8 1 = iv S 8 1; omega), (by show iv S35 10 1 = iv S 10 1; omega), (by show iv S35 14 1 = iv S 14 1; omega)⟩
  · have c8_ : True := trivial
    by_cases c67 : r4.toInt = 3
    · refine am_e19 (t := 131) hi_103_17 (am_swI (v := r4) (w := 3) (by decide) (by decide) c67) ?_
      refine am_e2 (v := 7) hi_103_131 rfl ?_
      refine am_e0 hi_103_132 ?_
      refine am_e2 (v := 7) hi_103_133 rfl ?_
      refine cm_20f (r := 2) h hi_103_134 (h.1.s (7, 6) (by decide)) (by decide) rfl ?_
      refine am_e1 (v := v1) hi_103_137 rfl ?_
      refine am_e32n (as := [.ref 2, .int v1]) (la := [some (.ref 2), some (.int v1)]) (rest := [.int 5, .ref 7]) hi_103_138 (am_hd0 (M := 103) (by decide) 138) (Nat.le_of_ble_eq_true rfl) (Nat.le_of_ble_eq_true rfl) (show 2 ≤ am_P0.2.2.1 104 from by decide +kernel) rfl (cl_recv (h.1.s (2, 2) (by decide))) rfl rfl (ck_textAt (d := (d + 12)) h   ) ?_
      rintro v68 S69 ⟨r70, rfl, rfl⟩
      show am_E _ _ _ _ [some (.ref 7), some (.int v1), some (.int r4)] [.int r70, .int 5, .ref 7] _ _
      refine am_e0 hi_103_141 ?_
      refine am_e0 hi_103_142 ?_
      refine am_e32n (as := [.ref 7, .int 5, .int r70, .int 0, .int 0]) (la := [some (.ref 7), some (.int 5), some (.int r70), some (.int 0), some (.int 0)]) (rest := []) hi_103_143 (am_hd0 (M := 103) (by decide) 143) (Nat.le_of_ble_eq_true rfl) (Nat.le_of_ble_eq_true rfl) (show 5 ≤ am_P0.2.2.1 78 from by decide +kernel) rfl (cl_recv (h.1.s (7, 6) (by decide))) rfl rfl (ck_emit (d := (d + 10)) h   ) ?_
      rintro v73 S74 ⟨r75, rfl, h76, h77, h78, h79⟩
      have h77_ : iv S74 8 1 = iv S 8 1 := h77
      have h78_ : iv S74 10 1 = iv S 10 1 := h78
      have h79_ : iv S74 14 1 = iv S 14 1 := h79
      obtain ⟨h81, h82, ⟨h83, h84, h85, h86⟩, ⟨h87, h88, h89⟩, h91⟩ := h76
      have h92 : kd aw S74 = kd aw S := kd_eq h83 h86
      show am_E _ _ _ _ [some (.ref 7), some (.int v1), some (.int r4)] [.int r75] _ _
      refine am_e6i hi_103_146 ?_
      refine am_e18 hi_103_147 ?_
      refine am_e2 (v := 7) hi_103_196 rfl ?_
      refine cm_20f (r := 2) h81 hi_103_197 (h81.1.s (7, 6) (by decide)) (by decide) rfl ?_
      refine am_e32t (as := [.ref 2]) (la := [some (.ref 2), none]) (rest := []) hi_103_200 (am_hd0 (M := 103) (by decide) 200) (Nat.le_of_ble_eq_true rfl) (Nat.le_of_ble_eq_true rfl) (show 1 ≤ am_P0.2.2.1 55 from by decide +kernel) rfl (cl_recv (h81.1.s (2, 2) (by decide))) rfl rfl (ck_skip (d := d) h81   (by show 0 ≤ nx S74; omega) (by show nx S74 ≤ wr S74; omega) (by show wr S74 ≤ 600; omega) (by show 0 ≤ lv S74; omega) (by show lv S74 ≤ 48; omega) (by show kd aw S74 ≠ 0; omega)) (fun S109 h110 => (show TH aw 700 S S109 from ⟨h110.1, h82.trans h110.2.1, ⟨(by have q := h110.2.2.1.1; omega), h110.2.2.1.2.trans h86⟩, h110.2.2.2.1, h110.2.2.2.2.1, (by have q := h110.2.2.2.2.2; omega)⟩)) ?_
      rintro v93 S94 ⟨r95, rfl, h96, h97, h98, h99, h100⟩
      have h97_ : nx S94 = nx S74 + 1 := h97
      have h98_ : lv S94 = lv S74 + c_dl (kd aw S74) := h98
      have h99_ : lv S94 ≤ 48 := h99
      have h100_ : nx S94 ≤ wr S94 := h100
      obtain ⟨h111, h112, ⟨h115, h116⟩, ⟨h117, h118, h119⟩, h120, h121⟩ := h96
      have h122 := h120 8 (h81.1.s (8, 3) (by decide))
      have h123 := h120 10 (h81.1.s (10, 3) (by decide))
      have h124 := h120 14 (h81.1.s (14, 3) (by decide))
      have h125 : c_dl (kd aw S74) = 0 := by unfold c_dl; split <;> split <;> omega
      show am_E _ _ _ _ [some (.ref 7), some (.int v1), some (.int r4)] [.int r95] _ _
      refine am_e6i hi_103_203 ?_
      refine am_e1 (v := r4) hi_103_204 rfl ?_
      refine am_e0 hi_103_205 ?_
      refine am_e13t hi_103_207 (am_cT (m := r4.toInt) (n := (72 : Int)) rfl (by decide) (by simp only [am_cI]; omega)) ?_
      refine am_e0 hi_103_214 ?_
      refine am_e36 hi_103_215 (by decide) ?_
      exact ⟨0, rfl, (by decide), ⟨h111, (h82.trans h112), ⟨(by show wr S94 = wr S; omega), (h116.trans h86)⟩, ⟨(h117.trans h87), (h118.trans h88), (by show fl S94 = fl S; omega)⟩⟩, (by show nx S + 1 ≤ nx S94; omega), (by show nx S94 ≤ wr S94; omega), (by show lv S94 = lv S + 0; omega), (by show EN S94 + -10000 * nx S94 ≤ EN S + -10000 * nx S + (-9000); omega), (by show iv S94 8 1 = iv S 8 1; omega), (by show iv S94 10 1 = iv S 10 1; omega), (by show iv S94 14 1 = iv S 14 1; omega)⟩
    · have c67_ : True := trivial
      by_cases c126 : r4.toInt = 16
      · refine am_e19 (t := 88) hi_103_17 (am_swI (v := r4) (w := 16) (by decide) (by decide) c126) ?_
        refine am_e2 (v := 7) hi_103_88 rfl ?_
        refine am_e0 hi_103_89 ?_
        refine am_e0 hi_103_90 ?_
        refine am_e0 hi_103_91 ?_
        refine am_e0 hi_103_92 ?_
        refine am_e32n (as := [.ref 7, .int 2, .int 0, .int 0, .int 0]) (la := [some (.ref 7), some (.int 2), some (.int 0), some (.int 0), some (.int 0)]) (rest := []) hi_103_93 (am_hd0 (M := 103) (by decide) 93) (Nat.le_of_ble_eq_true rfl) (Nat.le_of_ble_eq_true rfl) (show 5 ≤ am_P0.2.2.1 78 from by decide +kernel) rfl (cl_recv (h.1.s (7, 6) (by decide))) rfl rfl (ck_emit (d := (d + 10)) h   ) ?_
        rintro v127 S128 ⟨r129, rfl, h130, h131, h132, h133⟩
        have h131_ : iv S128 8 1 = iv S 8 1 := h131
        have h132_ : iv S128 10 1 = iv S 10 1 := h132
        have h133_ : iv S128 14 1 = iv S 14 1 := h133
        obtain ⟨h135, h136, ⟨h137, h138, h139, h140⟩, ⟨h141, h142, h143⟩, h145⟩ := h130
        have h146 : kd aw S128 = kd aw S := kd_eq h137 h140
        show am_E _ _ _ _ [some (.ref 7), some (.int v1), some (.int r4)] [.int r129] _ _
        refine am_e6i hi_103_96 ?_
        refine am_e18 hi_103_97 ?_
        refine am_e2 (v := 7) hi_103_196 rfl ?_
        refine cm_20f (r := 2) h135 hi_103_197 (h135.1.s (7, 6) (by decide)) (by decide) rfl ?_
        refine am_e32t (as := [.ref 2]) (la := [some (.ref 2), none]) (rest := []) hi_103_200 (am_hd0 (M := 103) (by decide) 200) (Nat.le_of_ble_eq_true rfl) (Nat.le_of_ble_eq_true rfl) (show 1 ≤ am_P0.2.2.1 55 from by decide +kernel) rfl (cl_recv (h135.1.s (2, 2) (by decide))) rfl rfl (ck_skip (d := d) h135   (by show 0 ≤ nx S128; omega) (by show nx S128 ≤ wr S128; omega) (by show wr S128 ≤ 600; omega) (by show 0 ≤ lv S128; omega) (by show lv S128 ≤ 48; omega) (by show kd aw S128 ≠ 0; omega)) (fun S163 h164 => (show TH aw 700 S S163 from ⟨h164.1, h136.trans h164.2.1, ⟨(by have q := h164.2.2.1.1; omega), h164.2.2.1.2.trans h140⟩, h164.2.2.2.1, h164.2.2.2.2.1, (by have q := h164.2.2.2.2.2; omega)⟩)) ?_
        rintro v147 S148 ⟨r149, rfl, h150, h151, h152, h153, h154⟩
        have h151_ : nx S148 = nx S128 + 1 := h151
        have h152_ : lv S148 = lv S128 + c_dl (kd aw S128) := h152
        have h153_ : lv S148 ≤ 48 := h153
        have h154_ : nx S148 ≤ wr S148 := h154
        obtain ⟨h165, h166, ⟨h169, h170⟩, ⟨h171, h172, h173⟩, h174, h175⟩ := h150
        have h176 := h174 8 (h135.1.s (8, 3) (by decide))
        have h177 := h174 10 (h135.1.s (10, 3) (by decide))
        have h178 := h174 14 (h135.1.s (14, 3) (by decide))
        have h179 : c_dl (kd aw S128) = 0 := by unfold c_dl; split <;> split <;> omega
        show am_E _ _ _ _ [some (.ref 7), some (.int v1), some (.int r4)] [.int r149] _ _
        refine am_e6i hi_103_203 ?_
        refine am_e1 (v := r4) hi_103_204 rfl ?_
        refine am_e0 hi_103_205 ?_
        refine am_e13t hi_103_207 (am_cT (m := r4.toInt) (n := (72 : Int)) rfl (by decide) (by simp only [am_cI]; omega)) ?_
        refine am_e0 hi_103_214 ?_
        refine am_e36 hi_103_215 (by decide) ?_
        exact ⟨0, rfl, (by decide), ⟨h165, (h136.trans h166), ⟨(by show wr S148 = wr S; omega), (h170.trans h140)⟩, ⟨(h171.trans h141), (h172.trans h142), (by show fl S148 = fl S; omega)⟩⟩, (by show nx S + 1 ≤ nx S148; omega), (by show nx S148 ≤ wr S148; omega), (by show lv S148 = lv S + 0; omega), (by show EN S148 + -10000 * nx S148 ≤ EN S + -10000 * nx S + (-9000); omega), (by show iv S148 8 1 = iv S 8 1; omega), (by show iv S148 10 1 = iv S 10 1; omega), (by show iv S148 14 1 = iv S 14 1; omega)⟩
      · have c126_ : True := trivial
        by_cases c180 : r4.toInt = 23
        · refine am_e19 (t := 76) hi_103_17 (am_swI (v := r4) (w := 23) (by decide) (by decide) c180) ?_
          refine am_e2 (v := 7) hi_103_76 rfl ?_
          refine am_e0 hi_103_77 ?_
          refine am_e0 hi_103_78 ?_
          refine am_e0 hi_103_79 ?_
          refine am_e0 hi_103_80 ?_
          refine am_e32n (as := [.ref 7, .int 1, .int 0, .int 0, .int 0]) (la := [some (.ref 7), some (.int 1), some (.int 0), some (.int 0), some (.int 0)]) (rest := []) hi_103_81 (am_hd0 (M := 103) (by decide) 81) (Nat.le_of_ble_eq_true rfl) (Nat.le_of_ble_eq_true rfl) (show 5 ≤ am_P0.2.2.1 78 from by decide +kernel) rfl (cl_recv (h.1.s (7, 6) (by decide))) rfl rfl (ck_emit (d := (d + 10)) h   ) ?_
          rintro v181 S182 ⟨r183, rfl, h184, h185, h186, h187⟩
          have h185_ : iv S182 8 1 = iv S 8 1 := h185
          have h186_ : iv S182 10 1 = iv S 10 1 := h186
          have h187_ : iv S182 14 1 = iv S 14 1 := h187
          obtain ⟨h189, h190, ⟨h191, h192, h193, h194⟩, ⟨h195, h196, h197⟩, h199⟩ := h184
          have h200 : kd aw S182 = kd aw S := kd_eq h191 h194
          show am_E _ _ _ _ [some (.ref 7), some (.int v1), some (.int r4)] [.int r183] _ _
          refine am_e6i hi_103_84 ?_
          refine am_e18 hi_103_85 ?_
          refine am_e2 (v := 7) hi_103_196 rfl ?_
          refine cm_20f (r := 2) h189 hi_103_197 (h189.1.s (7, 6) (by decide)) (by decide) rfl ?_
          refine am_e32t (as := [.ref 2]) (la := [some (.ref 2), none]) (rest := []) hi_103_200 (am_hd0 (M := 103) (by decide) 200) (Nat.le_of_ble_eq_true rfl) (Nat.le_of_ble_eq_true rfl) (show 1 ≤ am_P0.2.2.1 55 from by decide +kernel) rfl (cl_recv (h189.1.s (2, 2) (by decide))) rfl rfl (ck_skip (d := d) h189   (by show 0 ≤ nx S182; omega) (by show nx S182 ≤ wr S182; omega) (by show wr S182 ≤ 600; omega) (by show 0 ≤ lv S182; omega) (by show lv S182 ≤ 48; omega) (by show kd aw S182 ≠ 0; omega)) (fun S217 h218 => (show TH aw 700 S S217 from ⟨h218.1, h190.trans h218.2.1, ⟨(by have q := h218.2.2.1.1; omega), h218.2.2.1.2.trans h194⟩, h218.2.2.2.1, h218.2.2.2.2.1, (by have q := h218.2.2.2.2.2; omega)⟩)) ?_
          rintro v201 S202 ⟨r203, rfl, h204, h205, h206, h207, h208⟩
          have h205_ : nx S202 = nx S182 + 1 := h205
          have h206_ : lv S202 = lv S182 + c_dl (kd aw S182) := h206
          have h207_ : lv S202 ≤ 48 := h207
          have h208_ : nx S202 ≤ wr S202 := h208
          obtain ⟨h219, h220, ⟨h223, h224⟩, ⟨h225, h226, h227⟩, h228, h229⟩ := h204
          have h230 := h228 8 (h189.1.s (8, 3) (by decide))
          have h231 := h228 10 (h189.1.s (10, 3) (by decide))
          have h232 := h228 14 (h189.1.s (14, 3) (by decide))
          have h233 : c_dl (kd aw S182) = 0 := by unfold c_dl; split <;> split <;> omega
          show am_E _ _ _ _ [some (.ref 7), some (.int v1), some (.int r4)] [.int r203] _ _
          refine am_e6i hi_103_203 ?_
          refine am_e1 (v := r4) hi_103_204 rfl ?_
          refine am_e0 hi_103_205 ?_
          refine am_e13t hi_103_207 (am_cT (m := r4.toInt) (n := (72 : Int)) rfl (by decide) (by simp only [am_cI]; omega)) ?_
          refine am_e0 hi_103_214 ?_
          refine am_e36 hi_103_215 (by decide) ?_
          exact ⟨0, rfl, (by decide), ⟨h219, (h190.trans h220), ⟨(by show wr S202 = wr S; omega), (h224.trans h194)⟩, ⟨(h225.trans h195), (h226.trans h196), (by show fl S202 = fl S; omega)⟩⟩, (by show nx S + 1 ≤ nx S202; omega), (by show nx S202 ≤ wr S202; omega), (by show lv S202 = lv S + 0; omega), (by show EN S202 + -10000 * nx S202 ≤ EN S + -10000 * nx S + (-9000); omega), (by show iv S202 8 1 = iv S 8 1; omega), (by show iv S202 10 1 = iv S 10 1; omega), (by show iv S202 14 1 = iv S 14 1; omega)⟩
        · have c180_ : True := trivial
          by_cases c234 : r4.toInt = 29
          · refine am_e19 (t := 100) hi_103_17 (am_swI (v := r4) (w := 29) (by decide) (by decide) c234) ?_
            refine am_e2 (v := 7) hi_103_100 rfl ?_
            refine am_e0 hi_103_101 ?_
            refine am_e0 hi_103_102 ?_
            refine am_e0 hi_103_103 ?_
            refine am_e0 hi_103_104 ?_
            refine am_e32n (as := [.ref 7, .int 3, .int 0, .int 0, .int 0]) (la := [some (.ref 7), some (.int 3), some (.int 0), some (.int 0), some (.int 0)]) (rest := []) hi_103_105 (am_hd0 (M := 103) (by decide) 105) (Nat.le_of_ble_eq_true rfl) (Nat.le_of_ble_eq_true rfl) (show 5 ≤ am_P0.2.2.1 78 from by decide +kernel) rfl (cl_recv (h.1.s (7, 6) (by decide))) rfl rfl (ck_emit (d := (d + 10)) h   ) ?_
            rintro v235 S236 ⟨r237, rfl, h238, h239, h240, h241⟩
            have h239_ : iv S236 8 1 = iv S 8 1 := h239
            have h240_ : iv S236 10 1 = iv S 10 1 := h240
            have h241_ : iv S236 14 1 = iv S 14 1 := h241
            obtain ⟨h243, h244, ⟨h245, h246, h247, h248⟩, ⟨h249, h250, h251⟩, h253⟩ := h238
            have h254 : kd aw S236 = kd aw S := kd_eq h245 h248
            show am_E _ _ _ _ [some (.ref 7), some (.int v1), some (.int r4)] [.int r237] _ _
            refine am_e6i hi_103_108 ?_
            refine am_e18 hi_103_109 ?_
            refine am_e2 (v := 7) hi_103_196 rfl ?_
            refine cm_20f (r := 2) h243 hi_103_197 (h243.1.s (7, 6) (by decide)) (by decide) rfl ?_
            refine am_e32t (as := [.ref 2]) (la := [some (.ref 2), none]) (rest := []) hi_103_200 (am_hd0 (M := 103) (by decide) 200) (Nat.le_of_ble_eq_true rfl) (Nat.le_of_ble_eq_true rfl) (show 1 ≤ am_P0.2.2.1 55 from by decide +kernel) rfl (cl_recv (h243.1.s (2, 2) (by decide))) rfl rfl (ck_skip (d := d) h243   (by show 0 ≤ nx S236; omega) (by show nx S236 ≤ wr S236; omega) (by show wr S236 ≤ 600; omega) (by show 0 ≤ lv S236; omega) (by show lv S236 ≤ 48; omega) (by show kd aw S236 ≠ 0; omega)) (fun S271 h272 => (show TH aw 700 S S271 from ⟨h272.1, h244.trans h272.2.1, ⟨(by have q := h272.2.2.1.1; omega), h272.2.2.1.2.trans h248⟩, h272.2.2.2.1, h272.2.2.2.2.1, (by have q := h272.2.2.2.2.2; omega)⟩)) ?_
            rintro v255 S256 ⟨r257, rfl, h258, h259, h260, h261, h262⟩
            have h259_ : nx S256 = nx S236 + 1 := h259
            have h260_ : lv S256 = lv S236 + c_dl (kd aw S236) := h260
            have h261_ : lv S256 ≤ 48 := h261
            have h262_ : nx S256 ≤ wr S256 := h262
            obtain ⟨h273, h274, ⟨h277, h278⟩, ⟨h279, h280, h281⟩, h282, h283⟩ := h258
            have h284 := h282 8 (h243.1.s (8, 3) (by decide))
            have h285 := h282 10 (h243.1.s (10, 3) (by decide))
            have h286 := h282 14 (h243.1.s (14, 3) (by decide))
            have h287 : c_dl (kd aw S236) = 0 := by unfold c_dl; split <;> split <;> omega
            show am_E _ _ _ _ [some (.ref 7), some (.int v1), some (.int r4)] [.int r257] _ _
            refine am_e6i hi_103_203 ?_
            refine am_e1 (v := r4) hi_103_204 rfl ?_
            refine am_e0 hi_103_205 ?_
            refine am_e13t hi_103_207 (am_cT (m := r4.toInt) (n := (72 : Int)) rfl (by decide) (by simp only [am_cI]; omega)) ?_
            refine am_e0 hi_103_214 ?_
            refine am_e36 hi_103_215 (by decide) ?_
            exact ⟨0, rfl, (by decide), ⟨h273, (h244.trans h274), ⟨(by show wr S256 = wr S; omega), (h278.trans h248)⟩, ⟨(h279.trans h249), (h280.trans h250), (by show fl S256 = fl S; omega)⟩⟩, (by show nx S + 1 ≤ nx S256; omega), (by show nx S256 ≤ wr S256; omega), (by show lv S256 = lv S + 0; omega), (by show EN S256 + -10000 * nx S256 ≤ EN S + -10000 * nx S + (-9000); omega), (by show iv S256 8 1 = iv S 8 1; omega), (by show iv S256 10 1 = iv S 10 1; omega), (by show iv S256 14 1 = iv S 14 1; omega)⟩
          · have c234_ : True := trivial
            by_cases c288 : r4.toInt = 72
            · refine am_e19 (t := 150) hi_103_17 (am_swI (v := r4) (w := 72) (by decide) (by decide) c288) ?_
              refine am_e2 (v := 7) hi_103_150 rfl ?_
              refine cm_20f (r := 12) h hi_103_151 (h.1.s (7, 6) (by decide)) (by decide) rfl ?_
              refine am_e32x (as := [.ref 12]) (la := [some (.ref 12)]) (rest := []) hi_103_154 (am_hd0 (M := 103) (by decide) 154) (Nat.le_of_ble_eq_true rfl) (Nat.le_of_ble_eq_true rfl) (show 1 ≤ am_P0.2.2.1 79 from by decide +kernel) rfl (cl_recv (h.1.s (12, 7) (by decide))) rfl rfl ?_
              refine am_e2 (v := 12) hi_79_0 rfl ?_
              refine cm_20n h hi_79_1 fun hb289 => ?_
              refine am_e34 hi_79_4 ?_
              show am_E _ _ _ _ [some (.ref 7), some (.int v1), some (.int r4)] [.ref (nw S)] _ _
              refine cm_20i h hi_103_157 hb289 (by decide) rfl fun v290 hv290 => ?_
              have hv290_ : v290.toInt = iv S (nw S) 5 := hv290
              by_cases c291 : ¬ v290.toInt = (0 : Int)
              · refine am_e12t hi_103_160 (am_cT (m := v290.toInt) (n := (0 : Int)) rfl (by decide) c291) ?_
                refine am_e2 (v := 7) hi_103_173 rfl ?_
                refine am_e0 hi_103_174 ?_
                refine am_e0 hi_103_176 ?_
                refine am_e0 hi_103_177 ?_
                refine am_e0 hi_103_178 ?_
                refine am_e32n (as := [.ref 7, .int 6, .int 0, .int 1, .int 0]) (la := [some (.ref 7), some (.int 6), some (.int 0), some (.int 1), some (.int 0)]) (rest := []) hi_103_179 (am_hd0 (M := 103) (by decide) 179) (Nat.le_of_ble_eq_true rfl) (Nat.le_of_ble_eq_true rfl) (show 5 ≤ am_P0.2.2.1 78 from by decide +kernel) rfl (cl_recv (h.1.s (7, 6) (by decide))) rfl rfl (ck_emit (d := (d + 10)) h   ) ?_
                rintro v292 S293 ⟨r294, rfl, h295, h296, h297, h298⟩
                have h296_ : iv S293 8 1 = iv S 8 1 := h296
                have h297_ : iv S293 10 1 = iv S 10 1 := h297
                have h298_ : iv S293 14 1 = iv S 14 1 := h298
                obtain ⟨h300, h301, ⟨h302, h303, h304, h305⟩, ⟨h306, h307, h308⟩, h310⟩ := h295
                have h311 : kd aw S293 = kd aw S := kd_eq h302 h305
                show am_E _ _ _ _ [some (.ref 7), some (.int v1), some (.int r4)] [.int r294] _ _
                refine am_e6i hi_103_182 ?_
                refine am_e18 hi_103_183 ?_
                refine am_e2 (v := 7) hi_103_196 rfl ?_
                refine cm_20f (r := 2) h300 hi_103_197 (h300.1.s (7, 6) (by decide)) (by decide) rfl ?_
                refine am_e32t (as := [.ref 2]) (la := [some (.ref 2), none]) (rest := []) hi_103_200 (am_hd0 (M := 103) (by decide) 200) (Nat.le_of_ble_eq_true rfl) (Nat.le_of_ble_eq_true rfl) (show 1 ≤ am_P0.2.2.1 55 from by decide +kernel) rfl (cl_recv (h300.1.s (2, 2) (by decide))) rfl rfl (ck_skip (d := d) h300   (by show 0 ≤ nx S293; omega) (by show nx S293 ≤ wr S293; omega) (by show wr S293 ≤ 600; omega) (by show 0 ≤ lv S293; omega) (by show lv S293 ≤ 48; omega) (by show kd aw S293 ≠ 0; omega)) (fun S328 h329 => (show TH aw 700 S S328 from ⟨h329.1, h301.trans h329.2.1, ⟨(by have q := h329.2.2.1.1; omega), h329.2.2.1.2.trans h305⟩, h329.2.2.2.1, h329.2.2.2.2.1, (by have q := h329.2.2.2.2.2; omega)⟩)) ?_
                rintro v312 S313 ⟨r314, rfl, h315, h316, h317, h318, h319⟩
                have h316_ : nx S313 = nx S293 + 1 := h316
                have h317_ : lv S313 = lv S293 + c_dl (kd aw S293) := h317
                have h318_ : lv S313 ≤ 48 := h318
                have h319_ : nx S313 ≤ wr S313 := h319
                obtain ⟨h330, h331, ⟨h334, h335⟩, ⟨h336, h337, h338⟩, h339, h340⟩ := h315
                have h341 := h339 8 (h300.1.s (8, 3) (by decide))
                have h342 := h339 10 (h300.1.s (10, 3) (by decide))
                have h343 := h339 14 (h300.1.s (14, 3) (by decide))
                have h344 : c_dl (kd aw S293) = 0 := by unfold c_dl; split <;> split <;> omega
                show am_E _ _ _ _ [some (.ref 7), some (.int v1), some (.int r4)] [.int r314] _ _
                refine am_e6i hi_103_203 ?_
                refine am_e1 (v := r4) hi_103_204 rfl ?_
                refine am_e0 hi_103_205 ?_
                refine am_e13f hi_103_207 (am_cF (m := r4.toInt) (n := (72 : Int)) rfl (by decide) (by simp only [am_cI]; omega)) ?_
                refine am_e0 hi_103_210 ?_
                refine am_e18 hi_103_211 ?_
                refine am_e36 hi_103_215 (by decide) ?_
                exact ⟨1, rfl, (by decide), ⟨h330, (h301.trans h331), ⟨(by show wr S313 = wr S; omega), (h335.trans h305)⟩, ⟨(h336.trans h306), (h337.trans h307), (by show fl S313 = fl S; omega)⟩⟩, (by show nx S + 1 ≤ nx S313; omega), (by show nx S313 ≤ wr S313; omega), (by show lv S313 = lv S + 0; omega), (by show EN S313 + -10000 * nx S313 ≤ EN S + -10000 * nx S + (-9000); omega), (by show iv S313 8 1 = iv S 8 1; omega), (by show iv S313 10 1 = iv S 10 1; omega), (by show iv S313 14 1 = iv S 14 1; omega)⟩
              · refine am_e12f hi_103_160 (am_cF (m := v290.toInt) (n := (0 : Int)) rfl (by decide) c291) ?_
                refine am_e2 (v := 7) hi_103_163 rfl ?_
                refine cm_20f (r := 1) h hi_103_164 (h.1.s (7, 6) (by decide)) (by decide) rfl ?_
                refine am_e0 hi_103_167 ?_
                refine am_e1 (v := v1) hi_103_169 rfl ?_
                refine am_e32n (as := [.ref 1, .int 15, .int v1]) (la := [some (.ref 1), some (.int 15), some (.int v1)]) (rest := []) hi_103_170 (am_hd0 (M := 103) (by decide) 170) (Nat.le_of_ble_eq_true rfl) (Nat.le_of_ble_eq_true rfl) (show 3 ≤ am_P0.2.2.1 76 from by decide +kernel) rfl (cl_recv (h.1.s (1, 1) (by decide))) rfl rfl (ck_note (d := (d + 13)) h   ) ?_
                rintro v345 S346 ⟨rfl, h348⟩
                obtain ⟨h350, h351, ⟨h352, h353, h354, h355⟩, ⟨h356, h357, h358⟩, h359, h360⟩ := h348
                have h361 : kd aw S346 = kd aw S := kd_eq h352 h355
                have h362 := h359 8 (h.1.s (8, 3) (by decide))
                have h363 := h359 10 (h.1.s (10, 3) (by decide))
                have h364 := h359 14 (h.1.s (14, 3) (by decide))
                show am_E _ _ _ _ [some (.ref 7), some (.int v1), some (.int r4)] [] _ _
                refine am_e2 (v := 7) hi_103_173 rfl ?_
                refine am_e0 hi_103_174 ?_
                refine am_e0 hi_103_176 ?_
                refine am_e0 hi_103_177 ?_
                refine am_e0 hi_103_178 ?_
                refine am_e32n (as := [.ref 7, .int 6, .int 0, .int 1, .int 0]) (la := [some (.ref 7), some (.int 6), some (.int 0), some (.int 1), some (.int 0)]) (rest := []) hi_103_179 (am_hd0 (M := 103) (by decide) 179) (Nat.le_of_ble_eq_true rfl) (Nat.le_of_ble_eq_true rfl) (show 5 ≤ am_P0.2.2.1 78 from by decide +kernel) rfl (cl_recv (h350.1.s (7, 6) (by decide))) rfl rfl (ck_emit (d := (d + 10)) h350   ) ?_
                rintro v365 S366 ⟨r367, rfl, h368, h369, h370, h371⟩
                have h369_ : iv S366 8 1 = iv S346 8 1 := h369
                have h370_ : iv S366 10 1 = iv S346 10 1 := h370
                have h371_ : iv S366 14 1 = iv S346 14 1 := h371
                obtain ⟨h373, h374, ⟨h375, h376, h377, h378⟩, ⟨h379, h380, h381⟩, h383⟩ := h368
                have h384 : kd aw S366 = kd aw S346 := kd_eq h375 h378
                show am_E _ _ _ _ [some (.ref 7), some (.int v1), some (.int r4)] [.int r367] _ _
                refine am_e6i hi_103_182 ?_
                refine am_e18 hi_103_183 ?_
                refine am_e2 (v := 7) hi_103_196 rfl ?_
                refine cm_20f (r := 2) h373 hi_103_197 (h373.1.s (7, 6) (by decide)) (by decide) rfl ?_
                refine am_e32t (as := [.ref 2]) (la := [some (.ref 2), none]) (rest := []) hi_103_200 (am_hd0 (M := 103) (by decide) 200) (Nat.le_of_ble_eq_true rfl) (Nat.le_of_ble_eq_true rfl) (show 1 ≤ am_P0.2.2.1 55 from by decide +kernel) rfl (cl_recv (h373.1.s (2, 2) (by decide))) rfl rfl (ck_skip (d := d) h373   (by show 0 ≤ nx S366; omega) (by show nx S366 ≤ wr S366; omega) (by show wr S366 ≤ 600; omega) (by show 0 ≤ lv S366; omega) (by show lv S366 ≤ 48; omega) (by show kd aw S366 ≠ 0; omega)) (fun S401 h402 => (show TH aw 700 S S401 from ⟨h402.1, (h351.trans h374).trans h402.2.1, ⟨(by have q := h402.2.2.1.1; omega), h402.2.2.1.2.trans (h378.trans h355)⟩, h402.2.2.2.1, h402.2.2.2.2.1, (by have q := h402.2.2.2.2.2; omega)⟩)) ?_
                rintro v385 S386 ⟨r387, rfl, h388, h389, h390, h391, h392⟩
                have h389_ : nx S386 = nx S366 + 1 := h389
                have h390_ : lv S386 = lv S366 + c_dl (kd aw S366) := h390
                have h391_ : lv S386 ≤ 48 := h391
                have h392_ : nx S386 ≤ wr S386 := h392
                obtain ⟨h403, h404, ⟨h407, h408⟩, ⟨h409, h410, h411⟩, h412, h413⟩ := h388
                have h414 := h412 8 (h373.1.s (8, 3) (by decide))
                have h415 := h412 10 (h373.1.s (10, 3) (by decide))
                have h416 := h412 14 (h373.1.s (14, 3) (by decide))
                have h417 : c_dl (kd aw S366) = 0 := by unfold c_dl; split <;> split <;> omega
                show am_E _ _ _ _ [some (.ref 7), some (.int v1), some (.int r4)] [.int r387] _ _
                refine am_e6i hi_103_203 ?_
                refine am_e1 (v := r4) hi_103_204 rfl ?_
                refine am_e0 hi_103_205 ?_
                refine am_e13f hi_103_207 (am_cF (m := r4.toInt) (n := (72 : Int)) rfl (by decide) (by simp only [am_cI]; omega)) ?_
                refine am_e0 hi_103_210 ?_
                refine am_e18 hi_103_211 ?_
                refine am_e36 hi_103_215 (by decide) ?_
                exact ⟨1, rfl, (by decide), ⟨h403, ((h351.trans h374).trans h404), ⟨(by show wr S386 = wr S; omega), (h408.trans (h378.trans h355))⟩, ⟨(h409.trans (h379.trans h356)), (h410.trans (h380.trans h357)), (by show fl S386 = fl S; omega)⟩⟩, (by show nx S + 1 ≤ nx S386; omega), (by show nx S386 ≤ wr S386; omega), (by show lv S386 = lv S + 0; omega), (by show EN S386 + -10000 * nx S386 ≤ EN S + -10000 * nx S + (-9000); omega), (by show iv S386 8 1 = iv S 8 1; omega), (by show iv S386 10 1 = iv S 10 1; omega), (by show iv S386 14 1 = iv S 14 1; omega)⟩
            · have c288_ : True := trivial
              refine am_e19 (t := 186) hi_103_17 (am_swK (v := r4) (ks := [2, 3, 16, 23, 29, 72]) (by decide) (by intro k hk; simp only [List.mem_cons, List.not_mem_nil, or_false] at hk; rcases hk with rfl | rfl | rfl | rfl | rfl | rfl <;> omega)) ?_
              refine am_e2 (v := 7) hi_103_186 rfl ?_
              refine cm_20f (r := 1) h hi_103_187 (h.1.s (7, 6) (by decide)) (by decide) rfl ?_
              refine am_e0 hi_103_190 ?_
              refine am_e1 (v := v1) hi_103_192 rfl ?_
              refine am_e32t (as := [.ref 1, .int 7, .int v1]) (la := [some (.ref 1), some (.int 7), some (.int v1)]) (rest := []) hi_103_193 (am_hd0 (M := 103) (by decide) 193) (Nat.le_of_ble_eq_true rfl) (Nat.le_of_ble_eq_true rfl) (show 3 ≤ am_P0.2.2.1 58 from by decide +kernel) rfl (cl_recv (h.1.s (1, 1) (by decide))) rfl rfl (ck_refuse (d := (d + 1)) h (by show 0 ≤ nx S; omega) (by show nx S ≤ wr S; omega)) (fun S418 h419 => (show TH aw 700 S S418 from ⟨h419.1, (Ex.refl S).trans h419.2.1, ⟨(by have q := h419.2.2.1.1; omega), h419.2.2.1.2.trans rfl⟩, h419.2.2.2.1, h419.2.2.2.2.1, (by have q := h419.2.2.2.2.2; omega)⟩)) (fun _ _ q => q.elim)
theorem cf_blockEnd {sc : Nat × (Nat → Int32)} {d aw : Nat} {Sb : am_S} {Q : Option (Option Value) → am_S → Prop} (h : SH aw Sb) (hx0 : ∀ (l m n : Int32), (m = 0 ∨ m = 1) → am_E (am_PP sc) (d + 2) 120 60 [some (.ref 2), some (.int l), some (.int m), some (.int n)] [] Sb Q) : ∀ (N : Nat) (l m n : Int32), (m = 0 ∨ m = 1) → 2147483647 - n.toInt < (N : Int) → am_E (am_PP sc) (d + 2) 120 9 [some (.ref 2), some (.int l), some (.int m), some (.int n)] [] Sb Q := by
  intro N
  induction N with
  | zero =>
    intro   l m n  hB_m  hN
    have := i32_le l
    have := i32_le m
    have := i32_le n
    have := i32_ge l
    have := i32_ge m
    have := i32_ge n
    exfalso
    omega
  | succ N ih =>
    intro   l m n  hB_m  hN
    have hB_m_ : m.toInt = 0 ∨ m.toInt = 1 := hB_m.elim (fun e => Or.inl (by rw [e]; rfl)) (fun e => Or.inr (by rw [e]; rfl))
    have hl_l := i32_le l
    have hg_l := i32_ge l
    have hl_m := i32_le m
    have hg_m := i32_ge m
    have hl_n := i32_le n
    have hg_n := i32_ge n
    refine am_e1 (v := m) hi_120_9 rfl ?_
    by_cases c1 : m.toInt = (0 : Int)
    · refine am_e12t hi_120_10 (am_cT (m := m.toInt) (n := (0 : Int)) rfl (by decide) c1) ?_
      exact hx0 l m n hB_m
    · refine am_e12f hi_120_10 (am_cF (m := m.toInt) (n := (0 : Int)) rfl (by decide) c1) ?_
      refine am_e1 (v := n) hi_120_13 rfl ?_
      refine am_e0 hi_120_14 ?_
      by_cases c2 : (16384 : Int) < n.toInt
      · refine am_e13t hi_120_17 (am_cT (m := n.toInt) (n := (16384 : Int)) rfl (by decide) c2) ?_
        exact hx0 l m n hB_m
      · refine am_e13f hi_120_17 (am_cF (m := n.toInt) (n := (16384 : Int)) rfl (by decide) c2) ?_
        refine am_e2 (v := 2) hi_120_20 rfl ?_
        refine am_e1 (v := l) hi_120_21 rfl ?_
        refine am_e32n (as := [.ref 2, .int l]) (la := [some (.ref 2), some (.int l)]) (rest := []) hi_120_22 (am_hd0 (M := 120) (by decide) 22) (Nat.le_of_ble_eq_true rfl) (Nat.le_of_ble_eq_true rfl) (show 2 ≤ am_P0.2.2.1 93 from by decide +kernel) rfl (cl_recv (h.1.s (2, 2) (by decide))) rfl rfl (ck_kindAt (d := d) h   ) ?_
        rintro v3 S4 ⟨r5, rfl, rfl, h7⟩
        have h7_ : r5.toInt = kA aw Sb l.toInt := h7
        show am_E _ _ _ _ [some (.ref 2), some (.int l), some (.int m), some (.int n)] [.int r5] _ _
        refine am_e0 hi_120_25 ?_
        by_cases c9 : ¬ r5.toInt = (67 : Int)
        · refine am_e13t hi_120_27 (am_cT (m := r5.toInt) (n := (67 : Int)) rfl (by decide) c9) ?_
          refine am_e2 (v := 2) hi_120_36 rfl ?_
          refine am_e1 (v := l) hi_120_37 rfl ?_
          refine am_e32n (as := [.ref 2, .int l]) (la := [some (.ref 2), some (.int l)]) (rest := []) hi_120_38 (am_hd0 (M := 120) (by decide) 38) (Nat.le_of_ble_eq_true rfl) (Nat.le_of_ble_eq_true rfl) (show 2 ≤ am_P0.2.2.1 93 from by decide +kernel) rfl (cl_recv (h.1.s (2, 2) (by decide))) rfl rfl (ck_kindAt (d := d) h   ) ?_
          rintro v10 S11 ⟨r12, rfl, rfl, h14⟩
          have h14_ : r12.toInt = kA aw Sb l.toInt := h14
          show am_E _ _ _ _ [some (.ref 2), some (.int l), some (.int m), some (.int n)] [.int r12] _ _
          refine am_e0 hi_120_41 ?_
          by_cases c16 : ¬ r12.toInt = (66 : Int)
          · refine am_e13t hi_120_43 (am_cT (m := r12.toInt) (n := (66 : Int)) rfl (by decide) c16) ?_
            refine am_e0 hi_120_52 ?_
            refine am_e3 (ls' := [some (.ref 2), some (.int l), some (.int 0), some (.int n)]) hi_120_53 (Nat.le_of_ble_eq_true rfl) rfl ?_
            obtain ⟨z17, hz17, tz17⟩ := am_addI (x := n) (y := 1) (m := n.toInt) (n := (1 : Int)) rfl (by decide) (by omega) (by omega)
            refine am_e5 (v := n) (z := z17) (ls' := [some (.ref 2), some (.int l), some (.int 0), some (.int z17)]) hi_120_54 rfl hz17 rfl ?_
            refine am_e18 hi_120_57 ?_
            exact ih l 0 z17 (by decide) (by show 2147483647 - z17.toInt < (N : Int); omega)
          · refine am_e13f hi_120_43 (am_cF (m := r12.toInt) (n := (66 : Int)) rfl (by decide) c16) ?_
            obtain ⟨z18, hz18⟩ : ∃ q__, am_bin 0 l 3 = q__ := ⟨_, rfl⟩
            refine am_e5 (v := l) (z := z18) (ls' := [some (.ref 2), some (.int z18), some (.int m), some (.int n)]) hi_120_46 rfl hz18 rfl ?_
            refine am_e18 hi_120_49 ?_
            obtain ⟨z19, hz19, tz19⟩ := am_addI (x := n) (y := 1) (m := n.toInt) (n := (1 : Int)) rfl (by decide) (by omega) (by omega)
            refine am_e5 (v := n) (z := z19) (ls' := [some (.ref 2), some (.int z18), some (.int m), some (.int z19)]) hi_120_54 rfl hz19 rfl ?_
            refine am_e18 hi_120_57 ?_
            exact ih z18 m z19 hB_m (by show 2147483647 - z19.toInt < (N : Int); omega)
        · refine am_e13f hi_120_27 (am_cF (m := r5.toInt) (n := (67 : Int)) rfl (by decide) c9) ?_
          obtain ⟨z20, hz20⟩ : ∃ q__, am_bin 0 l 1 = q__ := ⟨_, rfl⟩
          refine am_e5 (v := l) (z := z20) (ls' := [some (.ref 2), some (.int z20), some (.int m), some (.int n)]) hi_120_30 rfl hz20 rfl ?_
          refine am_e18 hi_120_33 ?_
          obtain ⟨z21, hz21, tz21⟩ := am_addI (x := n) (y := 1) (m := n.toInt) (n := (1 : Int)) rfl (by decide) (by omega) (by omega)
          refine am_e5 (v := n) (z := z21) (ls' := [some (.ref 2), some (.int z20), some (.int m), some (.int z21)]) hi_120_54 rfl hz21 rfl ?_
          refine am_e18 hi_120_57 ?_
          exact ih z20 m z21 hB_m (by show 2147483647 - z21.toInt < (N : Int); omega)
theorem ck_atBlockEnd {sc : Nat × (Nat → Int32)} {d aw : Nat} {S : am_S} (h : SH aw S) : am_E (am_PP sc) (d + 2) 120 0 [some (.ref 2), none, none, none] [] S (am_N fun v S1 => ∃ r : Int32, v = some (.int r) ∧ (r = 0 ∨ r = 1) ∧ S = S1) := by
  refine am_e2 (v := 2) hi_120_0 rfl ?_
  refine cm_20i h hi_120_1 (h.1.s (2, 2) (by decide)) (by decide) rfl fun v1 hv1 => ?_
  have hv1_ : v1.toInt = nx S := hv1
  refine am_e3 (ls' := [some (.ref 2), some (.int v1), none, none]) hi_120_4 (Nat.le_of_ble_eq_true rfl) rfl ?_
  refine am_e0 hi_120_5 ?_
  refine am_e3 (ls' := [some (.ref 2), some (.int v1), some (.int 1), none]) hi_120_6 (Nat.le_of_ble_eq_true rfl) rfl ?_
  refine am_e0 hi_120_7 ?_
  refine am_e3 (ls' := [some (.ref 2), some (.int v1), some (.int 1), some (.int 0)]) hi_120_8 (Nat.le_of_ble_eq_true rfl) rfl ?_
  refine cf_blockEnd (d := d) (Sb := S) h    ?_ ((2147483647 - (0 : Int)).toNat + 1) v1 1 0 (by decide) (by show 2147483647 - (0 : Int) < _; omega)
  · intro l2 m3 n4 hb7
    have hb7_ : m3.toInt = 0 ∨ m3.toInt = 1 := hb7.elim (fun e => Or.inl (by rw [e]; rfl)) (fun e => Or.inr (by rw [e]; rfl))
    show am_E _ _ _ _ [some (.ref 2), some (.int l2), some (.int m3), some (.int n4)] [] _ _
    refine am_e2 (v := 2) hi_120_60 rfl ?_
    refine am_e1 (v := l2) hi_120_61 rfl ?_
    refine am_e32n (as := [.ref 2, .int l2]) (la := [some (.ref 2), some (.int l2)]) (rest := []) hi_120_62 (am_hd0 (M := 120) (by decide) 62) (Nat.le_of_ble_eq_true rfl) (Nat.le_of_ble_eq_true rfl) (show 2 ≤ am_P0.2.2.1 93 from by decide +kernel) rfl (cl_recv (h.1.s (2, 2) (by decide))) rfl rfl (ck_kindAt (d := d) h   ) ?_
    rintro v8 S9 ⟨r10, rfl, rfl, h12⟩
    have h12_ : r10.toInt = kA aw S l2.toInt := h12
    show am_E _ _ _ _ [some (.ref 2), some (.int l2), some (.int m3), some (.int n4)] [.int r10] _ _
    refine am_e32n (as := [.int r10]) (la := [some (.int r10)]) (rest := []) hi_120_65 (am_hd0 (M := 120) (by decide) 65) (Nat.le_of_ble_eq_true rfl) (Nat.le_of_ble_eq_true rfl) (show 1 ≤ am_P0.2.2.1 121 from by decide +kernel) rfl rfl rfl rfl (ck_ends (d := (d + 1)) h   ) ?_
    rintro v14 S15 ⟨r16, rfl, hb19, rfl, h18⟩
    have h18_ : (r16.toInt = 1 ∧ (r10.toInt = 0 ∨ r10.toInt = 15 ∨ r10.toInt = 13 ∨ r10.toInt = 14 ∨ r10.toInt = 30)) ∨ (r16.toInt = 0 ∧ ¬ (r10.toInt = 0 ∨ r10.toInt = 15 ∨ r10.toInt = 13 ∨ r10.toInt = 14 ∨ r10.toInt = 30)) := h18
    have hb19_ : r16.toInt = 0 ∨ r16.toInt = 1 := hb19.elim (fun e => Or.inl (by rw [e]; rfl)) (fun e => Or.inr (by rw [e]; rfl))
    show am_E _ _ _ _ [some (.ref 2), some (.int l2), some (.int m3), some (.int n4)] [.int r16] _ _
    by_cases c20 : r16.toInt = (0 : Int)
    · refine am_e12t hi_120_68 (am_cT (m := r16.toInt) (n := (0 : Int)) rfl (by decide) c20) ?_
      refine am_e0 hi_120_85 ?_
      refine am_e36 hi_120_86 (by decide) ?_
      exact ⟨0, rfl, (by decide), rfl⟩
    · refine am_e12f hi_120_68 (am_cF (m := r16.toInt) (n := (0 : Int)) rfl (by decide) c20) ?_
      refine am_e2 (v := 2) hi_120_71 rfl ?_
      refine am_e1 (v := l2) hi_120_72 rfl ?_
      refine am_e32n (as := [.ref 2, .int l2]) (la := [some (.ref 2), some (.int l2)]) (rest := []) hi_120_73 (am_hd0 (M := 120) (by decide) 73) (Nat.le_of_ble_eq_true rfl) (Nat.le_of_ble_eq_true rfl) (show 2 ≤ am_P0.2.2.1 93 from by decide +kernel) rfl (cl_recv (h.1.s (2, 2) (by decide))) rfl rfl (ck_kindAt (d := d) h   ) ?_
      rintro v21 S22 ⟨r23, rfl, rfl, h25⟩
      have h25_ : r23.toInt = kA aw S l2.toInt := h25
      show am_E _ _ _ _ [some (.ref 2), some (.int l2), some (.int m3), some (.int n4)] [.int r23] _ _
      refine am_e0 hi_120_76 ?_
      by_cases c27 : r23.toInt = (30 : Int)
      · refine am_e13t hi_120_78 (am_cT (m := r23.toInt) (n := (30 : Int)) rfl (by decide) c27) ?_
        refine am_e0 hi_120_85 ?_
        refine am_e36 hi_120_86 (by decide) ?_
        exact ⟨0, rfl, (by decide), rfl⟩
      · refine am_e13f hi_120_78 (am_cF (m := r23.toInt) (n := (30 : Int)) rfl (by decide) c27) ?_
        refine am_e0 hi_120_81 ?_
        refine am_e18 hi_120_82 ?_
        refine am_e36 hi_120_86 (by decide) ?_
        exact ⟨1, rfl, (by decide), rfl⟩
theorem ck_label {sc : Nat × (Nat → Int32)} {d aw : Nat} {S : am_S} (h : SH aw S) (p0 : 0 ≤ nx S) (p1 : nx S ≤ wr S) (p2 : wr S ≤ 600) (p3 : 0 ≤ lv S) (p4 : lv S ≤ 48) (p5 : kd aw S = 66) : am_E (am_PP sc) (d + 15) 119 0 [some (.ref 7), none, none] [] S (am_T (fun v S1 => v = none ∧ Wv aw S S1 ∧ (nx S + 1 ≤ nx S1) ∧ (nx S1 ≤ wr S1) ∧ (lv S1 = lv S + 0) ∧ (EN S1 + -10000 * nx S1 ≤ EN S + -10000 * nx S + (-9000)) ∧ (iv S1 8 1 = iv S 8 1) ∧ (iv S1 10 1 = iv S 10 1) ∧ (iv S1 14 1 = iv S 14 1)) (fun S1 => TH aw 700 S S1)) := by
  refine am_e2 (v := 7) hi_119_0 rfl ?_
  refine cm_20f (r := 2) h hi_119_1 (h.1.s (7, 6) (by decide)) (by decide) rfl ?_
  refine am_e32t (as := [.ref 2]) (la := [some (.ref 2), none]) (rest := []) hi_119_4 (am_hd0 (M := 119) (by decide) 4) (Nat.le_of_ble_eq_true rfl) (Nat.le_of_ble_eq_true rfl) (show 1 ≤ am_P0.2.2.1 55 from by decide +kernel) rfl (cl_recv (h.1.s (2, 2) (by decide))) rfl rfl (ck_skip (d := (d + 1)) h   (by show 0 ≤ nx S; omega) (by show nx S ≤ wr S; omega) (by show wr S ≤ 600; omega) (by show 0 ≤ lv S; omega) (by show lv S ≤ 48; omega) (by show kd aw S ≠ 0; omega)) (fun S17 h18 => (show TH aw 700 S S17 from ⟨h18.1, (Ex.refl S).trans h18.2.1, ⟨(by have q := h18.2.2.1.1; omega), h18.2.2.1.2.trans rfl⟩, h18.2.2.2.1, h18.2.2.2.2.1, (by have q := h18.2.2.2.2.2; omega)⟩)) ?_
  rintro v1 S2 ⟨r3, rfl, h4, h5, h6, h7, h8⟩
  have h5_ : nx S2 = nx S + 1 := h5
  have h6_ : lv S2 = lv S + c_dl (kd aw S) := h6
  have h7_ : lv S2 ≤ 48 := h7
  have h8_ : nx S2 ≤ wr S2 := h8
  obtain ⟨h19, h20, ⟨h23, h24⟩, ⟨h25, h26, h27⟩, h28, h29⟩ := h4
  have h30 := h28 8 (h.1.s (8, 3) (by decide))
  have h31 := h28 10 (h.1.s (10, 3) (by decide))
  have h32 := h28 14 (h.1.s (14, 3) (by decide))
  have h33 : c_dl (kd aw S) = 0 := by unfold c_dl; split <;> split <;> omega
  show am_E _ _ _ _ [some (.ref 7), none, none] [.int r3] _ _
  refine am_e6i hi_119_7 ?_
  refine am_e2 (v := 7) hi_119_8 rfl ?_
  refine cm_20f (r := 2) h19 hi_119_9 (h19.1.s (7, 6) (by decide)) (by decide) rfl ?_
  refine am_e32x (as := [.ref 2]) (la := [some (.ref 2)]) (rest := []) hi_119_12 (am_hd0 (M := 119) (by decide) 12) (Nat.le_of_ble_eq_true rfl) (Nat.le_of_ble_eq_true rfl) (show 1 ≤ am_P0.2.2.1 63 from by decide +kernel) rfl (cl_recv (h19.1.s (2, 2) (by decide))) rfl rfl ?_
  refine am_e2 (v := 2) hi_63_0 rfl ?_
  refine cm_20i h19 hi_63_1 (h19.1.s (2, 2) (by decide)) (by decide) rfl fun v34 hv34 => ?_
  have hv34_ : v34.toInt = nx S2 := hv34
  refine am_e33 hi_63_4 ?_
  show am_E _ _ _ _ [some (.ref 7), none, none] [.int v34] _ _
  refine am_e3 (ls' := [some (.ref 7), some (.int v34), none]) hi_119_15 (Nat.le_of_ble_eq_true rfl) rfl ?_
  refine am_e2 (v := 7) hi_119_16 rfl ?_
  refine cm_20f (r := 2) h19 hi_119_17 (h19.1.s (7, 6) (by decide)) (by decide) rfl ?_
  refine am_e0 hi_119_20 ?_
  refine am_e32t (as := [.ref 2, .int 1]) (la := [some (.ref 2), some (.int 1)]) (rest := []) hi_119_21 (am_hd0 (M := 119) (by decide) 21) (Nat.le_of_ble_eq_true rfl) (Nat.le_of_ble_eq_true rfl) (show 2 ≤ am_P0.2.2.1 64 from by decide +kernel) rfl (cl_recv (h19.1.s (2, 2) (by decide))) rfl rfl (ck_take (d := d) h19   (by show 0 ≤ nx S2; omega) (by show nx S2 ≤ wr S2; omega) (by show wr S2 ≤ 600; omega) (by show 0 ≤ lv S2; omega) (by show lv S2 ≤ 48; omega) (by show ¬ (1 : Int) = 0; omega)) (fun S52 h53 => (show TH aw 700 S S52 from ⟨h53.1, h20.trans h53.2.1, ⟨(by have q := h53.2.2.1.1; omega), h53.2.2.1.2.trans h24⟩, h53.2.2.2.1, h53.2.2.2.2.1, (by have q := h53.2.2.2.2.2; omega)⟩)) ?_
  rintro v35 S36 ⟨r37, rfl, h38, h39, h40, h41, h42, h43⟩
  have h39_ : kd aw S2 = (1 : Int) := h39
  have h40_ : nx S36 = nx S2 + 1 := h40
  have h41_ : lv S36 = lv S2 + c_dl (kd aw S2) := h41
  have h42_ : lv S36 ≤ 48 := h42
  have h43_ : nx S36 ≤ wr S36 := h43
  obtain ⟨h54, h55, ⟨h58, h59⟩, ⟨h60, h61, h62⟩, h63, h64⟩ := h38
  have h65 := h63 8 (h19.1.s (8, 3) (by decide))
  have h66 := h63 10 (h19.1.s (10, 3) (by decide))
  have h67 := h63 14 (h19.1.s (14, 3) (by decide))
  have h68 : c_dl (kd aw S2) = 0 := by unfold c_dl; split <;> split <;> omega
  show am_E _ _ _ _ [some (.ref 7), some (.int v34), none] [.int r37] _ _
  refine am_e3 (ls' := [some (.ref 7), some (.int v34), some (.int r37)]) hi_119_24 (Nat.le_of_ble_eq_true rfl) rfl ?_
  refine am_e2 (v := 7) hi_119_25 rfl ?_
  refine cm_20f (r := 2) h54 hi_119_26 (h54.1.s (7, 6) (by decide)) (by decide) rfl ?_
  refine am_e0 hi_119_29 ?_
  refine am_e32t (as := [.ref 2, .int 66]) (la := [some (.ref 2), some (.int 66)]) (rest := []) hi_119_31 (am_hd0 (M := 119) (by decide) 31) (Nat.le_of_ble_eq_true rfl) (Nat.le_of_ble_eq_true rfl) (show 2 ≤ am_P0.2.2.1 64 from by decide +kernel) rfl (cl_recv (h54.1.s (2, 2) (by decide))) rfl rfl (ck_take (d := d) h54   (by show 0 ≤ nx S36; omega) (by show nx S36 ≤ wr S36; omega) (by show wr S36 ≤ 600; omega) (by show 0 ≤ lv S36; omega) (by show lv S36 ≤ 48; omega) (by show ¬ (66 : Int) = 0; omega)) (fun S86 h87 => (show TH aw 700 S S86 from ⟨h87.1, (h20.trans h55).trans h87.2.1, ⟨(by have q := h87.2.2.1.1; omega), h87.2.2.1.2.trans (h59.trans h24)⟩, h87.2.2.2.1, h87.2.2.2.2.1, (by have q := h87.2.2.2.2.2; omega)⟩)) ?_
  rintro v69 S70 ⟨r71, rfl, h72, h73, h74, h75, h76, h77⟩
  have h73_ : kd aw S36 = (66 : Int) := h73
  have h74_ : nx S70 = nx S36 + 1 := h74
  have h75_ : lv S70 = lv S36 + c_dl (kd aw S36) := h75
  have h76_ : lv S70 ≤ 48 := h76
  have h77_ : nx S70 ≤ wr S70 := h77
  obtain ⟨h88, h89, ⟨h92, h93⟩, ⟨h94, h95, h96⟩, h97, h98⟩ := h72
  have h99 := h97 8 (h54.1.s (8, 3) (by decide))
  have h100 := h97 10 (h54.1.s (10, 3) (by decide))
  have h101 := h97 14 (h54.1.s (14, 3) (by decide))
  have h102 : c_dl (kd aw S36) = 0 := by unfold c_dl; split <;> split <;> omega
  show am_E _ _ _ _ [some (.ref 7), some (.int v34), some (.int r37)] [.int r71] _ _
  refine am_e6i hi_119_34 ?_
  refine am_e2 (v := 7) hi_119_35 rfl ?_
  refine cm_20f (r := 12) h88 hi_119_36 (h88.1.s (7, 6) (by decide)) (by decide) rfl ?_
  refine cm_20f (r := 23) h88 hi_119_39 (h88.1.s (12, 7) (by decide)) (by decide) rfl ?_
  refine am_e1 (v := r37) hi_119_42 rfl ?_
  refine am_e2 (v := 7) hi_119_43 rfl ?_
  refine cm_20f (r := 12) h88 hi_119_44 (h88.1.s (7, 6) (by decide)) (by decide) rfl ?_
  refine am_e32x (as := [.ref 12]) (la := [some (.ref 12)]) (rest := [.int r37, .ref 23]) hi_119_47 (am_hd0 (M := 119) (by decide) 47) (Nat.le_of_ble_eq_true rfl) (Nat.le_of_ble_eq_true rfl) (show 1 ≤ am_P0.2.2.1 79 from by decide +kernel) rfl (cl_recv (h88.1.s (12, 7) (by decide))) rfl rfl ?_
  refine am_e2 (v := 12) hi_79_0 rfl ?_
  refine cm_20n h88 hi_79_1 fun hb103 => ?_
  refine am_e34 hi_79_4 ?_
  show am_E _ _ _ _ [some (.ref 7), some (.int v34), some (.int r37)] [.ref (nw S70), .int r37, .ref 23] _ _
  refine cm_20i h88 hi_119_50 hb103 (by decide) rfl fun v104 hv104 => ?_
  have hv104_ : v104.toInt = iv S70 (nw S70) 10 := hv104
  refine am_e32n (as := [.ref 23, .int r37, .int v104]) (la := [some (.ref 23), some (.int r37), some (.int v104), none]) (rest := []) hi_119_53 (am_hd0 (M := 119) (by decide) 53) (Nat.le_of_ble_eq_true rfl) (Nat.le_of_ble_eq_true rfl) (show 3 ≤ am_P0.2.2.1 84 from by decide +kernel) rfl (cl_recv (h88.1.s (23, 9) (by decide))) rfl rfl (ck_labelOf (d := (d + 13)) h88   ) ?_
  rintro v105 S106 ⟨r107, rfl, rfl⟩
  show am_E _ _ _ _ [some (.ref 7), some (.int v34), some (.int r37)] [.int r107] _ _
  by_cases c110 : r107.toInt < (0 : Int)
  · refine am_e12t hi_119_56 (am_cT (m := r107.toInt) (n := (0 : Int)) rfl (by decide) c110) ?_
    refine am_e2 (v := 7) hi_119_69 rfl ?_
    refine cm_20f (r := 12) h88 hi_119_70 (h88.1.s (7, 6) (by decide)) (by decide) rfl ?_
    refine cm_20f (r := 23) h88 hi_119_73 (h88.1.s (12, 7) (by decide)) (by decide) rfl ?_
    refine am_e1 (v := r37) hi_119_76 rfl ?_
    refine am_e2 (v := 7) hi_119_77 rfl ?_
    refine am_e32n (as := [.ref 7]) (la := [some (.ref 7)]) (rest := [.int r37, .ref 23]) hi_119_78 (am_hd0 (M := 119) (by decide) 78) (Nat.le_of_ble_eq_true rfl) (Nat.le_of_ble_eq_true rfl) (show 1 ≤ am_P0.2.2.1 98 from by decide +kernel) rfl (cl_recv (h88.1.s (7, 6) (by decide))) rfl rfl (ck_here (d := (d + 13)) h88   ) ?_
    rintro v111 S112 ⟨r113, rfl, rfl, h115, h116⟩
    have h115_ : 0 ≤ r113.toInt := h115
    have h116_ : r113.toInt ≤ 2097154 := h116
    show am_E _ _ _ _ [some (.ref 7), some (.int v34), some (.int r37)] [.int r113, .int r37, .ref 23] _ _
    refine am_e2 (v := 7) hi_119_81 rfl ?_
    refine cm_20f (r := 12) h88 hi_119_82 (h88.1.s (7, 6) (by decide)) (by decide) rfl ?_
    refine am_e32n (as := [.ref 12]) (la := [some (.ref 12)]) (rest := [.int r113, .int r37, .ref 23]) hi_119_85 (am_hd0 (M := 119) (by decide) 85) (Nat.le_of_ble_eq_true rfl) (Nat.le_of_ble_eq_true rfl) (show 1 ≤ am_P0.2.2.1 75 from by decide +kernel) rfl (cl_recv (h88.1.s (12, 7) (by decide))) rfl rfl (ck_scount (d := (d + 13)) h88   ) ?_
    rintro v118 S119 ⟨r120, rfl, rfl, h122⟩
    have h122_ : r120.toInt = iv S70 14 1 + -1 * fl S70 := h122
    show am_E _ _ _ _ [some (.ref 7), some (.int v34), some (.int r37)] [.int r120, .int r113, .int r37, .ref 23] _ _
    refine am_e2 (v := 7) hi_119_88 rfl ?_
    refine cm_20f (r := 2) h88 hi_119_89 (h88.1.s (7, 6) (by decide)) (by decide) rfl ?_
    refine am_e32n (as := [.ref 2]) (la := [some (.ref 2), none, none, none]) (rest := [.int r120, .int r113, .int r37, .ref 23]) hi_119_92 (am_hd0 (M := 119) (by decide) 92) (Nat.le_of_ble_eq_true rfl) (Nat.le_of_ble_eq_true rfl) (show 1 ≤ am_P0.2.2.1 120 from by decide +kernel) rfl (cl_recv (h88.1.s (2, 2) (by decide))) rfl rfl (ck_atBlockEnd (d := (d + 12)) h88   ) ?_
    rintro v124 S125 ⟨r126, rfl, hb128, rfl⟩
    have hb128_ : r126.toInt = 0 ∨ r126.toInt = 1 := hb128.elim (fun e => Or.inl (by rw [e]; rfl)) (fun e => Or.inr (by rw [e]; rfl))
    show am_E _ _ _ _ [some (.ref 7), some (.int v34), some (.int r37)] [.int r126, .int r120, .int r113, .int r37, .ref 23] _ _
    refine am_e32n (as := [.ref 23, .int r37, .int r113, .int r120, .int r126]) (la := [some (.ref 23), some (.int r37), some (.int r113), some (.int r120), some (.int r126)]) (rest := []) hi_119_95 (am_hd0 (M := 119) (by decide) 95) (Nat.le_of_ble_eq_true rfl) (Nat.le_of_ble_eq_true rfl) (show 5 ≤ am_P0.2.2.1 122 from by decide +kernel) rfl (cl_recv (h88.1.s (23, 9) (by decide))) rfl rfl (ck_addLabel (d := (d + 11)) h88 hb128  ) ?_
    rintro v129 S130 ⟨rfl, h132, h133, h134, h135⟩
    have h133_ : iv S130 8 1 = iv S70 8 1 := h133
    have h134_ : iv S130 10 1 = iv S70 10 1 := h134
    have h135_ : iv S130 14 1 = iv S70 14 1 := h135
    obtain ⟨h137, h138, ⟨h139, h140, h141, h142⟩, ⟨h143, h144, h145⟩, h147⟩ := h132
    have h148 : kd aw S130 = kd aw S70 := kd_eq h139 h142
    show am_E _ _ _ _ [some (.ref 7), some (.int v34), some (.int r37)] [] _ _
    refine am_e35 hi_119_98 ?_
    exact ⟨rfl, ⟨h137, (((h20.trans h55).trans h89).trans h138), ⟨(by show wr S130 = wr S; omega), (h142.trans (h93.trans (h59.trans h24)))⟩, ⟨(h143.trans (h94.trans (h60.trans h25))), (h144.trans (h95.trans (h61.trans h26))), (by show fl S130 = fl S; omega)⟩⟩, (by show nx S + 1 ≤ nx S130; omega), (by show nx S130 ≤ wr S130; omega), (by show lv S130 = lv S + 0; omega), (by show EN S130 + -10000 * nx S130 ≤ EN S + -10000 * nx S + (-9000); omega), (by show iv S130 8 1 = iv S 8 1; omega), (by show iv S130 10 1 = iv S 10 1; omega), (by show iv S130 14 1 = iv S 14 1; omega)⟩
  · refine am_e12f hi_119_56 (am_cF (m := r107.toInt) (n := (0 : Int)) rfl (by decide) c110) ?_
    refine am_e2 (v := 7) hi_119_59 rfl ?_
    refine cm_20f (r := 1) h88 hi_119_60 (h88.1.s (7, 6) (by decide)) (by decide) rfl ?_
    refine am_e0 hi_119_63 ?_
    refine am_e1 (v := v34) hi_119_65 rfl ?_
    refine am_e32n (as := [.ref 1, .int 13, .int v34]) (la := [some (.ref 1), some (.int 13), some (.int v34)]) (rest := []) hi_119_66 (am_hd0 (M := 119) (by decide) 66) (Nat.le_of_ble_eq_true rfl) (Nat.le_of_ble_eq_true rfl) (show 3 ≤ am_P0.2.2.1 76 from by decide +kernel) rfl (cl_recv (h88.1.s (1, 1) (by decide))) rfl rfl (ck_note (d := (d + 14)) h88   ) ?_
    rintro v149 S150 ⟨rfl, h152⟩
    obtain ⟨h154, h155, ⟨h156, h157, h158, h159⟩, ⟨h160, h161, h162⟩, h163, h164⟩ := h152
    have h165 : kd aw S150 = kd aw S70 := kd_eq h156 h159
    have h166 := h163 8 (h88.1.s (8, 3) (by decide))
    have h167 := h163 10 (h88.1.s (10, 3) (by decide))
    have h168 := h163 14 (h88.1.s (14, 3) (by decide))
    show am_E _ _ _ _ [some (.ref 7), some (.int v34), some (.int r37)] [] _ _
    refine am_e2 (v := 7) hi_119_69 rfl ?_
    refine cm_20f (r := 12) h154 hi_119_70 (h154.1.s (7, 6) (by decide)) (by decide) rfl ?_
    refine cm_20f (r := 23) h154 hi_119_73 (h154.1.s (12, 7) (by decide)) (by decide) rfl ?_
    refine am_e1 (v := r37) hi_119_76 rfl ?_
    refine am_e2 (v := 7) hi_119_77 rfl ?_
    refine am_e32n (as := [.ref 7]) (la := [some (.ref 7)]) (rest := [.int r37, .ref 23]) hi_119_78 (am_hd0 (M := 119) (by decide) 78) (Nat.le_of_ble_eq_true rfl) (Nat.le_of_ble_eq_true rfl) (show 1 ≤ am_P0.2.2.1 98 from by decide +kernel) rfl (cl_recv (h154.1.s (7, 6) (by decide))) rfl rfl (ck_here (d := (d + 13)) h154   ) ?_
    rintro v169 S170 ⟨r171, rfl, rfl, h173, h174⟩
    have h173_ : 0 ≤ r171.toInt := h173
    have h174_ : r171.toInt ≤ 2097154 := h174
    show am_E _ _ _ _ [some (.ref 7), some (.int v34), some (.int r37)] [.int r171, .int r37, .ref 23] _ _
    refine am_e2 (v := 7) hi_119_81 rfl ?_
    refine cm_20f (r := 12) h154 hi_119_82 (h154.1.s (7, 6) (by decide)) (by decide) rfl ?_
    refine am_e32n (as := [.ref 12]) (la := [some (.ref 12)]) (rest := [.int r171, .int r37, .ref 23]) hi_119_85 (am_hd0 (M := 119) (by decide) 85) (Nat.le_of_ble_eq_true rfl) (Nat.le_of_ble_eq_true rfl) (show 1 ≤ am_P0.2.2.1 75 from by decide +kernel) rfl (cl_recv (h154.1.s (12, 7) (by decide))) rfl rfl (ck_scount (d := (d + 13)) h154   ) ?_
    rintro v176 S177 ⟨r178, rfl, rfl, h180⟩
    have h180_ : r178.toInt = iv S150 14 1 + -1 * fl S150 := h180
    show am_E _ _ _ _ [some (.ref 7), some (.int v34), some (.int r37)] [.int r178, .int r171, .int r37, .ref 23] _ _
    refine am_e2 (v := 7) hi_119_88 rfl ?_
    refine cm_20f (r := 2) h154 hi_119_89 (h154.1.s (7, 6) (by decide)) (by decide) rfl ?_
    refine am_e32n (as := [.ref 2]) (la := [some (.ref 2), none, none, none]) (rest := [.int r178, .int r171, .int r37, .ref 23]) hi_119_92 (am_hd0 (M := 119) (by decide) 92) (Nat.le_of_ble_eq_true rfl) (Nat.le_of_ble_eq_true rfl) (show 1 ≤ am_P0.2.2.1 120 from by decide +kernel) rfl (cl_recv (h154.1.s (2, 2) (by decide))) rfl rfl (ck_atBlockEnd (d := (d + 12)) h154   ) ?_
    rintro v182 S183 ⟨r184, rfl, hb186, rfl⟩
    have hb186_ : r184.toInt = 0 ∨ r184.toInt = 1 := hb186.elim (fun e => Or.inl (by rw [e]; rfl)) (fun e => Or.inr (by rw [e]; rfl))
    show am_E _ _ _ _ [some (.ref 7), some (.int v34), some (.int r37)] [.int r184, .int r178, .int r171, .int r37, .ref 23] _ _
    refine am_e32n (as := [.ref 23, .int r37, .int r171, .int r178, .int r184]) (la := [some (.ref 23), some (.int r37), some (.int r171), some (.int r178), some (.int r184)]) (rest := []) hi_119_95 (am_hd0 (M := 119) (by decide) 95) (Nat.le_of_ble_eq_true rfl) (Nat.le_of_ble_eq_true rfl) (show 5 ≤ am_P0.2.2.1 122 from by decide +kernel) rfl (cl_recv (h154.1.s (23, 9) (by decide))) rfl rfl (ck_addLabel (d := (d + 11)) h154 hb186  ) ?_
    rintro v187 S188 ⟨rfl, h190, h191, h192, h193⟩
    have h191_ : iv S188 8 1 = iv S150 8 1 := h191
    have h192_ : iv S188 10 1 = iv S150 10 1 := h192
    have h193_ : iv S188 14 1 = iv S150 14 1 := h193
    obtain ⟨h195, h196, ⟨h197, h198, h199, h200⟩, ⟨h201, h202, h203⟩, h205⟩ := h190
    have h206 : kd aw S188 = kd aw S150 := kd_eq h197 h200
    show am_E _ _ _ _ [some (.ref 7), some (.int v34), some (.int r37)] [] _ _
    refine am_e35 hi_119_98 ?_
    exact ⟨rfl, ⟨h195, ((((h20.trans h55).trans h89).trans h155).trans h196), ⟨(by show wr S188 = wr S; omega), (h200.trans (h159.trans (h93.trans (h59.trans h24))))⟩, ⟨(h201.trans (h160.trans (h94.trans (h60.trans h25)))), (h202.trans (h161.trans (h95.trans (h61.trans h26)))), (by show fl S188 = fl S; omega)⟩⟩, (by show nx S + 1 ≤ nx S188; omega), (by show nx S188 ≤ wr S188; omega), (by show lv S188 = lv S + 0; omega), (by show EN S188 + -10000 * nx S188 ≤ EN S + -10000 * nx S + (-9000); omega), (by show iv S188 8 1 = iv S 8 1; omega), (by show iv S188 10 1 = iv S 10 1; omega), (by show iv S188 14 1 = iv S 14 1; omega)⟩
theorem ck_break {sc : Nat × (Nat → Int32)} {d aw : Nat} {S : am_S} (h : SH aw S) (p0 : 0 ≤ nx S) (p1 : nx S ≤ wr S) (p2 : wr S ≤ 600) (p3 : 0 ≤ lv S) (p4 : lv S ≤ 48) (p5 : kd aw S = 11) : am_E (am_PP sc) (d + 14) 123 0 [some (.ref 7), none, none] [] S (am_T (fun v S1 => v = none ∧ Wv aw S S1 ∧ (nx S + 1 ≤ nx S1) ∧ (nx S1 ≤ wr S1) ∧ (lv S1 = lv S + 0) ∧ (EN S1 + -10000 * nx S1 ≤ EN S + -10000 * nx S + (-9000)) ∧ (iv S1 8 1 = iv S 8 1) ∧ (iv S1 10 1 = iv S 10 1) ∧ (iv S1 14 1 = iv S 14 1)) (fun S1 => TH aw 700 S S1)) := by
  refine am_e2 (v := 7) hi_123_0 rfl ?_
  refine cm_20f (r := 2) h hi_123_1 (h.1.s (7, 6) (by decide)) (by decide) rfl ?_
  refine am_e32x (as := [.ref 2]) (la := [some (.ref 2)]) (rest := []) hi_123_4 (am_hd0 (M := 123) (by decide) 4) (Nat.le_of_ble_eq_true rfl) (Nat.le_of_ble_eq_true rfl) (show 1 ≤ am_P0.2.2.1 63 from by decide +kernel) rfl (cl_recv (h.1.s (2, 2) (by decide))) rfl rfl ?_
  refine am_e2 (v := 2) hi_63_0 rfl ?_
  refine cm_20i h hi_63_1 (h.1.s (2, 2) (by decide)) (by decide) rfl fun v1 hv1 => ?_
  have hv1_ : v1.toInt = nx S := hv1
  refine am_e33 hi_63_4 ?_
  show am_E _ _ _ _ [some (.ref 7), none, none] [.int v1] _ _
  refine am_e3 (ls' := [some (.ref 7), some (.int v1), none]) hi_123_7 (Nat.le_of_ble_eq_true rfl) rfl ?_
  refine am_e2 (v := 7) hi_123_8 rfl ?_
  refine cm_20f (r := 2) h hi_123_9 (h.1.s (7, 6) (by decide)) (by decide) rfl ?_
  refine am_e32t (as := [.ref 2]) (la := [some (.ref 2), none]) (rest := []) hi_123_12 (am_hd0 (M := 123) (by decide) 12) (Nat.le_of_ble_eq_true rfl) (Nat.le_of_ble_eq_true rfl) (show 1 ≤ am_P0.2.2.1 55 from by decide +kernel) rfl (cl_recv (h.1.s (2, 2) (by decide))) rfl rfl (ck_skip (d := d) h   (by show 0 ≤ nx S; omega) (by show nx S ≤ wr S; omega) (by show wr S ≤ 600; omega) (by show 0 ≤ lv S; omega) (by show lv S ≤ 48; omega) (by show kd aw S ≠ 0; omega)) (fun S18 h19 => (show TH aw 700 S S18 from ⟨h19.1, (Ex.refl S).trans h19.2.1, ⟨(by have q := h19.2.2.1.1; omega), h19.2.2.1.2.trans rfl⟩, h19.2.2.2.1, h19.2.2.2.2.1, (by have q := h19.2.2.2.2.2; omega)⟩)) ?_
  rintro v2 S3 ⟨r4, rfl, h5, h6, h7, h8, h9⟩
  have h6_ : nx S3 = nx S + 1 := h6
  have h7_ : lv S3 = lv S + c_dl (kd aw S) := h7
  have h8_ : lv S3 ≤ 48 := h8
  have h9_ : nx S3 ≤ wr S3 := h9
  obtain ⟨h20, h21, ⟨h24, h25⟩, ⟨h26, h27, h28⟩, h29, h30⟩ := h5
  have h31 := h29 8 (h.1.s (8, 3) (by decide))
  have h32 := h29 10 (h.1.s (10, 3) (by decide))
  have h33 := h29 14 (h.1.s (14, 3) (by decide))
  have h34 : c_dl (kd aw S) = 0 := by unfold c_dl; split <;> split <;> omega
  show am_E _ _ _ _ [some (.ref 7), some (.int v1), none] [.int r4] _ _
  refine am_e6i hi_123_15 ?_
  refine am_e2 (v := 7) hi_123_16 rfl ?_
  refine cm_20f (r := 12) h20 hi_123_17 (h20.1.s (7, 6) (by decide)) (by decide) rfl ?_
  refine cm_20f (r := 23) h20 hi_123_20 (h20.1.s (12, 7) (by decide)) (by decide) rfl ?_
  refine am_e32n (as := [.ref 23]) (la := [some (.ref 23)]) (rest := []) hi_123_23 (am_hd0 (M := 123) (by decide) 23) (Nat.le_of_ble_eq_true rfl) (Nat.le_of_ble_eq_true rfl) (show 1 ≤ am_P0.2.2.1 50 from by decide +kernel) rfl (cl_recv (h20.1.s (23, 9) (by decide))) rfl rfl (ck_j50 (d := (d + 12)) h20   ) ?_
  rintro v35 S36 ⟨r37, rfl, rfl, h39, h40, h41⟩
  have h39_ : r37.toInt = iv S3 28 1 := h39
  have h40_ : 0 ≤ r37.toInt := h40
  have h41_ : r37.toInt ≤ 2097154 := h41
  show am_E _ _ _ _ [some (.ref 7), some (.int v1), none] [.int r37] _ _
  refine am_e2 (v := 7) hi_123_26 rfl ?_
  refine cm_20f (r := 12) h20 hi_123_27 (h20.1.s (7, 6) (by decide)) (by decide) rfl ?_
  refine am_e32x (as := [.ref 12]) (la := [some (.ref 12)]) (rest := [.int r37]) hi_123_30 (am_hd0 (M := 123) (by decide) 30) (Nat.le_of_ble_eq_true rfl) (Nat.le_of_ble_eq_true rfl) (show 1 ≤ am_P0.2.2.1 79 from by decide +kernel) rfl (cl_recv (h20.1.s (12, 7) (by decide))) rfl rfl ?_
  refine am_e2 (v := 12) hi_79_0 rfl ?_
  refine cm_20n h20 hi_79_1 fun hb43 => ?_
  refine am_e34 hi_79_4 ?_
  show am_E _ _ _ _ [some (.ref 7), some (.int v1), none] [.ref (nw S3), .int r37] _ _
  refine cm_20i h20 hi_123_33 hb43 (by decide) rfl fun v44 hv44 => ?_
  have hv44_ : v44.toInt = iv S3 (nw S3) 12 := hv44
  by_cases c45 : ¬ r37.toInt = v44.toInt
  · refine am_e13t hi_123_36 (am_cT (m := r37.toInt) (n := v44.toInt) rfl rfl c45) ?_
    refine am_e2 (v := 7) hi_123_50 rfl ?_
    refine cm_20f (r := 12) h20 hi_123_51 (h20.1.s (7, 6) (by decide)) (by decide) rfl ?_
    refine cm_20f (r := 23) h20 hi_123_54 (h20.1.s (12, 7) (by decide)) (by decide) rfl ?_
    refine am_e32n (as := [.ref 23]) (la := [some (.ref 23)]) (rest := []) hi_123_57 (am_hd0 (M := 123) (by decide) 57) (Nat.le_of_ble_eq_true rfl) (Nat.le_of_ble_eq_true rfl) (show 1 ≤ am_P0.2.2.1 124 from by decide +kernel) rfl (cl_recv (h20.1.s (23, 9) (by decide))) rfl rfl (ck_loopLocals (d := (d + 12)) h20   ) ?_
    rintro v46 S47 ⟨r48, rfl, rfl⟩
    show am_E _ _ _ _ [some (.ref 7), some (.int v1), none] [.int r48] _ _
    refine am_e3 (ls' := [some (.ref 7), some (.int v1), some (.int r48)]) hi_123_60 (Nat.le_of_ble_eq_true rfl) rfl ?_
    refine am_e2 (v := 7) hi_123_61 rfl ?_
    refine cm_20f (r := 12) h20 hi_123_62 (h20.1.s (7, 6) (by decide)) (by decide) rfl ?_
    refine am_e32n (as := [.ref 12]) (la := [some (.ref 12)]) (rest := []) hi_123_65 (am_hd0 (M := 123) (by decide) 65) (Nat.le_of_ble_eq_true rfl) (Nat.le_of_ble_eq_true rfl) (show 1 ≤ am_P0.2.2.1 75 from by decide +kernel) rfl (cl_recv (h20.1.s (12, 7) (by decide))) rfl rfl (ck_scount (d := (d + 12)) h20   ) ?_
    rintro v51 S52 ⟨r53, rfl, rfl, h55⟩
    have h55_ : r53.toInt = iv S3 14 1 + -1 * fl S3 := h55
    show am_E _ _ _ _ [some (.ref 7), some (.int v1), some (.int r48)] [.int r53] _ _
    refine am_e1 (v := r48) hi_123_68 rfl ?_
    by_cases c57 : r53.toInt ≤ r48.toInt
    · refine am_e13t hi_123_69 (am_cT (m := r53.toInt) (n := r48.toInt) rfl rfl c57) ?_
      refine am_e2 (v := 7) hi_123_82 rfl ?_
      refine cm_20f (r := 12) h20 hi_123_83 (h20.1.s (7, 6) (by decide)) (by decide) rfl ?_
      refine cm_20f (r := 23) h20 hi_123_86 (h20.1.s (12, 7) (by decide)) (by decide) rfl ?_
      refine am_e2 (v := 7) hi_123_89 rfl ?_
      refine am_e0 hi_123_90 ?_
      refine am_e0 hi_123_92 ?_
      refine am_e0 hi_123_93 ?_
      refine am_e0 hi_123_94 ?_
      refine am_e32n (as := [.ref 7, .int 36, .int 0, .int 0, .int 0]) (la := [some (.ref 7), some (.int 36), some (.int 0), some (.int 0), some (.int 0)]) (rest := [.ref 23]) hi_123_95 (am_hd0 (M := 123) (by decide) 95) (Nat.le_of_ble_eq_true rfl) (Nat.le_of_ble_eq_true rfl) (show 5 ≤ am_P0.2.2.1 78 from by decide +kernel) rfl (cl_recv (h20.1.s (7, 6) (by decide))) rfl rfl (ck_emit (d := (d + 10)) h20   ) ?_
      rintro v58 S59 ⟨r60, rfl, h61, h62, h63, h64⟩
      have h62_ : iv S59 8 1 = iv S3 8 1 := h62
      have h63_ : iv S59 10 1 = iv S3 10 1 := h63
      have h64_ : iv S59 14 1 = iv S3 14 1 := h64
      obtain ⟨h66, h67, ⟨h68, h69, h70, h71⟩, ⟨h72, h73, h74⟩, h76⟩ := h61
      have h77 : kd aw S59 = kd aw S3 := kd_eq h68 h71
      show am_E _ _ _ _ [some (.ref 7), some (.int v1), some (.int r48)] [.int r60, .ref 23] _ _
      refine am_e32n (as := [.ref 23, .int r60]) (la := [some (.ref 23), some (.int r60)]) (rest := []) hi_123_98 (am_hd0 (M := 123) (by decide) 98) (Nat.le_of_ble_eq_true rfl) (Nat.le_of_ble_eq_true rfl) (show 2 ≤ am_P0.2.2.1 125 from by decide +kernel) rfl (cl_recv (h66.1.s (23, 9) (by decide))) rfl rfl (ck_addBreak (d := (d + 10)) h66   ) ?_
      rintro v78 S79 ⟨rfl, h81, h82, h83, h84⟩
      have h82_ : iv S79 8 1 = iv S59 8 1 := h82
      have h83_ : iv S79 10 1 = iv S59 10 1 := h83
      have h84_ : iv S79 14 1 = iv S59 14 1 := h84
      obtain ⟨h86, h87, ⟨h88, h89, h90, h91⟩, ⟨h92, h93, h94⟩, h96⟩ := h81
      have h97 : kd aw S79 = kd aw S59 := kd_eq h88 h91
      show am_E _ _ _ _ [some (.ref 7), some (.int v1), some (.int r48)] [] _ _
      refine am_e35 hi_123_101 ?_
      exact ⟨rfl, ⟨h86, ((h21.trans h67).trans h87), ⟨(by show wr S79 = wr S; omega), (h91.trans (h71.trans h25))⟩, ⟨(h92.trans (h72.trans h26)), (h93.trans (h73.trans h27)), (by show fl S79 = fl S; omega)⟩⟩, (by show nx S + 1 ≤ nx S79; omega), (by show nx S79 ≤ wr S79; omega), (by show lv S79 = lv S + 0; omega), (by show EN S79 + -10000 * nx S79 ≤ EN S + -10000 * nx S + (-9000); omega), (by show iv S79 8 1 = iv S 8 1; omega), (by show iv S79 10 1 = iv S 10 1; omega), (by show iv S79 14 1 = iv S 14 1; omega)⟩
    · refine am_e13f hi_123_69 (am_cF (m := r53.toInt) (n := r48.toInt) rfl rfl c57) ?_
      refine am_e2 (v := 7) hi_123_72 rfl ?_
      refine am_e0 hi_123_73 ?_
      refine am_e1 (v := r48) hi_123_75 rfl ?_
      refine am_e0 hi_123_76 ?_
      refine am_e0 hi_123_77 ?_
      refine am_e32n (as := [.ref 7, .int 33, .int r48, .int 0, .int 0]) (la := [some (.ref 7), some (.int 33), some (.int r48), some (.int 0), some (.int 0)]) (rest := []) hi_123_78 (am_hd0 (M := 123) (by decide) 78) (Nat.le_of_ble_eq_true rfl) (Nat.le_of_ble_eq_true rfl) (show 5 ≤ am_P0.2.2.1 78 from by decide +kernel) rfl (cl_recv (h20.1.s (7, 6) (by decide))) rfl rfl (ck_emit (d := (d + 10)) h20   ) ?_
      rintro v98 S99 ⟨r100, rfl, h101, h102, h103, h104⟩
      have h102_ : iv S99 8 1 = iv S3 8 1 := h102
      have h103_ : iv S99 10 1 = iv S3 10 1 := h103
      have h104_ : iv S99 14 1 = iv S3 14 1 := h104
      obtain ⟨h106, h107, ⟨h108, h109, h110, h111⟩, ⟨h112, h113, h114⟩, h116⟩ := h101
      have h117 : kd aw S99 = kd aw S3 := kd_eq h108 h111
      show am_E _ _ _ _ [some (.ref 7), some (.int v1), some (.int r48)] [.int r100] _ _
      refine am_e6i hi_123_81 ?_
      refine am_e2 (v := 7) hi_123_82 rfl ?_
      refine cm_20f (r := 12) h106 hi_123_83 (h106.1.s (7, 6) (by decide)) (by decide) rfl ?_
      refine cm_20f (r := 23) h106 hi_123_86 (h106.1.s (12, 7) (by decide)) (by decide) rfl ?_
      refine am_e2 (v := 7) hi_123_89 rfl ?_
      refine am_e0 hi_123_90 ?_
      refine am_e0 hi_123_92 ?_
      refine am_e0 hi_123_93 ?_
      refine am_e0 hi_123_94 ?_
      refine am_e32n (as := [.ref 7, .int 36, .int 0, .int 0, .int 0]) (la := [some (.ref 7), some (.int 36), some (.int 0), some (.int 0), some (.int 0)]) (rest := [.ref 23]) hi_123_95 (am_hd0 (M := 123) (by decide) 95) (Nat.le_of_ble_eq_true rfl) (Nat.le_of_ble_eq_true rfl) (show 5 ≤ am_P0.2.2.1 78 from by decide +kernel) rfl (cl_recv (h106.1.s (7, 6) (by decide))) rfl rfl (ck_emit (d := (d + 10)) h106   ) ?_
      rintro v118 S119 ⟨r120, rfl, h121, h122, h123, h124⟩
      have h122_ : iv S119 8 1 = iv S99 8 1 := h122
      have h123_ : iv S119 10 1 = iv S99 10 1 := h123
      have h124_ : iv S119 14 1 = iv S99 14 1 := h124
      obtain ⟨h126, h127, ⟨h128, h129, h130, h131⟩, ⟨h132, h133, h134⟩, h136⟩ := h121
      have h137 : kd aw S119 = kd aw S99 := kd_eq h128 h131
      show am_E _ _ _ _ [some (.ref 7), some (.int v1), some (.int r48)] [.int r120, .ref 23] _ _
      refine am_e32n (as := [.ref 23, .int r120]) (la := [some (.ref 23), some (.int r120)]) (rest := []) hi_123_98 (am_hd0 (M := 123) (by decide) 98) (Nat.le_of_ble_eq_true rfl) (Nat.le_of_ble_eq_true rfl) (show 2 ≤ am_P0.2.2.1 125 from by decide +kernel) rfl (cl_recv (h126.1.s (23, 9) (by decide))) rfl rfl (ck_addBreak (d := (d + 10)) h126   ) ?_
      rintro v138 S139 ⟨rfl, h141, h142, h143, h144⟩
      have h142_ : iv S139 8 1 = iv S119 8 1 := h142
      have h143_ : iv S139 10 1 = iv S119 10 1 := h143
      have h144_ : iv S139 14 1 = iv S119 14 1 := h144
      obtain ⟨h146, h147, ⟨h148, h149, h150, h151⟩, ⟨h152, h153, h154⟩, h156⟩ := h141
      have h157 : kd aw S139 = kd aw S119 := kd_eq h148 h151
      show am_E _ _ _ _ [some (.ref 7), some (.int v1), some (.int r48)] [] _ _
      refine am_e35 hi_123_101 ?_
      exact ⟨rfl, ⟨h146, (((h21.trans h107).trans h127).trans h147), ⟨(by show wr S139 = wr S; omega), (h151.trans (h131.trans (h111.trans h25)))⟩, ⟨(h152.trans (h132.trans (h112.trans h26))), (h153.trans (h133.trans (h113.trans h27))), (by show fl S139 = fl S; omega)⟩⟩, (by show nx S + 1 ≤ nx S139; omega), (by show nx S139 ≤ wr S139; omega), (by show lv S139 = lv S + 0; omega), (by show EN S139 + -10000 * nx S139 ≤ EN S + -10000 * nx S + (-9000); omega), (by show iv S139 8 1 = iv S 8 1; omega), (by show iv S139 10 1 = iv S 10 1; omega), (by show iv S139 14 1 = iv S 14 1; omega)⟩
  · refine am_e13f hi_123_36 (am_cF (m := r37.toInt) (n := v44.toInt) rfl rfl c45) ?_
    refine am_e2 (v := 7) hi_123_39 rfl ?_
    refine cm_20f (r := 1) h20 hi_123_40 (h20.1.s (7, 6) (by decide)) (by decide) rfl ?_
    refine am_e0 hi_123_43 ?_
    refine am_e1 (v := v1) hi_123_45 rfl ?_
    refine am_e32n (as := [.ref 1, .int 11, .int v1]) (la := [some (.ref 1), some (.int 11), some (.int v1)]) (rest := []) hi_123_46 (am_hd0 (M := 123) (by decide) 46) (Nat.le_of_ble_eq_true rfl) (Nat.le_of_ble_eq_true rfl) (show 3 ≤ am_P0.2.2.1 76 from by decide +kernel) rfl (cl_recv (h20.1.s (1, 1) (by decide))) rfl rfl (ck_note (d := (d + 13)) h20   ) ?_
    rintro v158 S159 ⟨rfl, h161⟩
    obtain ⟨h163, h164, ⟨h165, h166, h167, h168⟩, ⟨h169, h170, h171⟩, h172, h173⟩ := h161
    have h174 : kd aw S159 = kd aw S3 := kd_eq h165 h168
    have h175 := h172 8 (h20.1.s (8, 3) (by decide))
    have h176 := h172 10 (h20.1.s (10, 3) (by decide))
    have h177 := h172 14 (h20.1.s (14, 3) (by decide))
    show am_E _ _ _ _ [some (.ref 7), some (.int v1), none] [] _ _
    refine am_e35 hi_123_49 ?_
    exact ⟨rfl, ⟨h163, (h21.trans h164), ⟨(by show wr S159 = wr S; omega), (h168.trans h25)⟩, ⟨(h169.trans h26), (h170.trans h27), (by show fl S159 = fl S; omega)⟩⟩, (by show nx S + 1 ≤ nx S159; omega), (by show nx S159 ≤ wr S159; omega), (by show lv S159 = lv S + 0; omega), (by show EN S159 + -10000 * nx S159 ≤ EN S + -10000 * nx S + (-9000); omega), (by show iv S159 8 1 = iv S 8 1; omega), (by show iv S159 10 1 = iv S 10 1; omega), (by show iv S159 14 1 = iv S 14 1; omega)⟩
theorem ck_goto {sc : Nat × (Nat → Int32)} {d aw : Nat} {S : am_S} (h : SH aw S) (p0 : 0 ≤ nx S) (p1 : nx S ≤ wr S) (p2 : wr S ≤ 600) (p3 : 0 ≤ lv S) (p4 : lv S ≤ 48) (p5 : kd aw S = 19) : am_E (am_PP sc) (d + 15) 126 0 [some (.ref 7), none, none, none] [] S (am_T (fun v S1 => v = none ∧ Wv aw S S1 ∧ (nx S + 1 ≤ nx S1) ∧ (nx S1 ≤ wr S1) ∧ (lv S1 = lv S + 0) ∧ (EN S1 + -10000 * nx S1 ≤ EN S + -10000 * nx S + (-9000)) ∧ (iv S1 8 1 = iv S 8 1) ∧ (iv S1 10 1 = iv S 10 1) ∧ (iv S1 14 1 = iv S 14 1)) (fun S1 => TH aw 700 S S1)) := by
  refine am_e2 (v := 7) hi_126_0 rfl ?_
  refine cm_20f (r := 2) h hi_126_1 (h.1.s (7, 6) (by decide)) (by decide) rfl ?_
  refine am_e32x (as := [.ref 2]) (la := [some (.ref 2)]) (rest := []) hi_126_4 (am_hd0 (M := 126) (by decide) 4) (Nat.le_of_ble_eq_true rfl) (Nat.le_of_ble_eq_true rfl) (show 1 ≤ am_P0.2.2.1 63 from by decide +kernel) rfl (cl_recv (h.1.s (2, 2) (by decide))) rfl rfl ?_
  refine am_e2 (v := 2) hi_63_0 rfl ?_
  refine cm_20i h hi_63_1 (h.1.s (2, 2) (by decide)) (by decide) rfl fun v1 hv1 => ?_
  have hv1_ : v1.toInt = nx S := hv1
  refine am_e33 hi_63_4 ?_
  show am_E _ _ _ _ [some (.ref 7), none, none, none] [.int v1] _ _
  refine am_e3 (ls' := [some (.ref 7), some (.int v1), none, none]) hi_126_7 (Nat.le_of_ble_eq_true rfl) rfl ?_
  refine am_e2 (v := 7) hi_126_8 rfl ?_
  refine cm_20f (r := 2) h hi_126_9 (h.1.s (7, 6) (by decide)) (by decide) rfl ?_
  refine am_e32t (as := [.ref 2]) (la := [some (.ref 2), none]) (rest := []) hi_126_12 (am_hd0 (M := 126) (by decide) 12) (Nat.le_of_ble_eq_true rfl) (Nat.le_of_ble_eq_true rfl) (show 1 ≤ am_P0.2.2.1 55 from by decide +kernel) rfl (cl_recv (h.1.s (2, 2) (by decide))) rfl rfl (ck_skip (d := (d + 1)) h   (by show 0 ≤ nx S; omega) (by show nx S ≤ wr S; omega) (by show wr S ≤ 600; omega) (by show 0 ≤ lv S; omega) (by show lv S ≤ 48; omega) (by show kd aw S ≠ 0; omega)) (fun S18 h19 => (show TH aw 700 S S18 from ⟨h19.1, (Ex.refl S).trans h19.2.1, ⟨(by have q := h19.2.2.1.1; omega), h19.2.2.1.2.trans rfl⟩, h19.2.2.2.1, h19.2.2.2.2.1, (by have q := h19.2.2.2.2.2; omega)⟩)) ?_
  rintro v2 S3 ⟨r4, rfl, h5, h6, h7, h8, h9⟩
  have h6_ : nx S3 = nx S + 1 := h6
  have h7_ : lv S3 = lv S + c_dl (kd aw S) := h7
  have h8_ : lv S3 ≤ 48 := h8
  have h9_ : nx S3 ≤ wr S3 := h9
  obtain ⟨h20, h21, ⟨h24, h25⟩, ⟨h26, h27, h28⟩, h29, h30⟩ := h5
  have h31 := h29 8 (h.1.s (8, 3) (by decide))
  have h32 := h29 10 (h.1.s (10, 3) (by decide))
  have h33 := h29 14 (h.1.s (14, 3) (by decide))
  have h34 : c_dl (kd aw S) = 0 := by unfold c_dl; split <;> split <;> omega
  show am_E _ _ _ _ [some (.ref 7), some (.int v1), none, none] [.int r4] _ _
  refine am_e6i hi_126_15 ?_
  refine am_e2 (v := 7) hi_126_16 rfl ?_
  refine cm_20f (r := 2) h20 hi_126_17 (h20.1.s (7, 6) (by decide)) (by decide) rfl ?_
  refine am_e0 hi_126_20 ?_
  refine am_e32t (as := [.ref 2, .int 1]) (la := [some (.ref 2), some (.int 1)]) (rest := []) hi_126_21 (am_hd0 (M := 126) (by decide) 21) (Nat.le_of_ble_eq_true rfl) (Nat.le_of_ble_eq_true rfl) (show 2 ≤ am_P0.2.2.1 64 from by decide +kernel) rfl (cl_recv (h20.1.s (2, 2) (by decide))) rfl rfl (ck_take (d := d) h20   (by show 0 ≤ nx S3; omega) (by show nx S3 ≤ wr S3; omega) (by show wr S3 ≤ 600; omega) (by show 0 ≤ lv S3; omega) (by show lv S3 ≤ 48; omega) (by show ¬ (1 : Int) = 0; omega)) (fun S52 h53 => (show TH aw 700 S S52 from ⟨h53.1, h21.trans h53.2.1, ⟨(by have q := h53.2.2.1.1; omega), h53.2.2.1.2.trans h25⟩, h53.2.2.2.1, h53.2.2.2.2.1, (by have q := h53.2.2.2.2.2; omega)⟩)) ?_
  rintro v35 S36 ⟨r37, rfl, h38, h39, h40, h41, h42, h43⟩
  have h39_ : kd aw S3 = (1 : Int) := h39
  have h40_ : nx S36 = nx S3 + 1 := h40
  have h41_ : lv S36 = lv S3 + c_dl (kd aw S3) := h41
  have h42_ : lv S36 ≤ 48 := h42
  have h43_ : nx S36 ≤ wr S36 := h43
  obtain ⟨h54, h55, ⟨h58, h59⟩, ⟨h60, h61, h62⟩, h63, h64⟩ := h38
  have h65 := h63 8 (h20.1.s (8, 3) (by decide))
  have h66 := h63 10 (h20.1.s (10, 3) (by decide))
  have h67 := h63 14 (h20.1.s (14, 3) (by decide))
  have h68 : c_dl (kd aw S3) = 0 := by unfold c_dl; split <;> split <;> omega
  show am_E _ _ _ _ [some (.ref 7), some (.int v1), none, none] [.int r37] _ _
  refine am_e3 (ls' := [some (.ref 7), some (.int v1), some (.int r37), none]) hi_126_24 (Nat.le_of_ble_eq_true rfl) rfl ?_
  refine am_e2 (v := 7) hi_126_25 rfl ?_
  refine am_e0 hi_126_26 ?_
  refine am_e0 hi_126_28 ?_
  refine am_e0 hi_126_29 ?_
  refine am_e1 (v := v1) hi_126_30 rfl ?_
  refine am_e32n (as := [.ref 7, .int 34, .int 0, .int 0, .int v1]) (la := [some (.ref 7), some (.int 34), some (.int 0), some (.int 0), some (.int v1)]) (rest := []) hi_126_31 (am_hd0 (M := 126) (by decide) 31) (Nat.le_of_ble_eq_true rfl) (Nat.le_of_ble_eq_true rfl) (show 5 ≤ am_P0.2.2.1 78 from by decide +kernel) rfl (cl_recv (h54.1.s (7, 6) (by decide))) rfl rfl (ck_emit (d := (d + 11)) h54   ) ?_
  rintro v69 S70 ⟨r71, rfl, h72, h73, h74, h75⟩
  have h73_ : iv S70 8 1 = iv S36 8 1 := h73
  have h74_ : iv S70 10 1 = iv S36 10 1 := h74
  have h75_ : iv S70 14 1 = iv S36 14 1 := h75
  obtain ⟨h77, h78, ⟨h79, h80, h81, h82⟩, ⟨h83, h84, h85⟩, h87⟩ := h72
  have h88 : kd aw S70 = kd aw S36 := kd_eq h79 h82
  show am_E _ _ _ _ [some (.ref 7), some (.int v1), some (.int r37), none] [.int r71] _ _
  refine am_e6i hi_126_34 ?_
  refine am_e2 (v := 7) hi_126_35 rfl ?_
  refine am_e0 hi_126_36 ?_
  refine am_e0 hi_126_38 ?_
  refine am_e0 hi_126_39 ?_
  refine am_e0 hi_126_40 ?_
  refine am_e32n (as := [.ref 7, .int 33, .int 0, .int 0, .int 0]) (la := [some (.ref 7), some (.int 33), some (.int 0), some (.int 0), some (.int 0)]) (rest := []) hi_126_41 (am_hd0 (M := 126) (by decide) 41) (Nat.le_of_ble_eq_true rfl) (Nat.le_of_ble_eq_true rfl) (show 5 ≤ am_P0.2.2.1 78 from by decide +kernel) rfl (cl_recv (h77.1.s (7, 6) (by decide))) rfl rfl (ck_emit (d := (d + 11)) h77   ) ?_
  rintro v89 S90 ⟨r91, rfl, h92, h93, h94, h95⟩
  have h93_ : iv S90 8 1 = iv S70 8 1 := h93
  have h94_ : iv S90 10 1 = iv S70 10 1 := h94
  have h95_ : iv S90 14 1 = iv S70 14 1 := h95
  obtain ⟨h97, h98, ⟨h99, h100, h101, h102⟩, ⟨h103, h104, h105⟩, h107⟩ := h92
  have h108 : kd aw S90 = kd aw S70 := kd_eq h99 h102
  show am_E _ _ _ _ [some (.ref 7), some (.int v1), some (.int r37), none] [.int r91] _ _
  refine am_e3 (ls' := [some (.ref 7), some (.int v1), some (.int r37), some (.int r91)]) hi_126_44 (Nat.le_of_ble_eq_true rfl) rfl ?_
  refine am_e2 (v := 7) hi_126_45 rfl ?_
  refine am_e0 hi_126_46 ?_
  refine am_e0 hi_126_48 ?_
  refine am_e0 hi_126_49 ?_
  refine am_e0 hi_126_50 ?_
  refine am_e32n (as := [.ref 7, .int 36, .int 0, .int 0, .int 0]) (la := [some (.ref 7), some (.int 36), some (.int 0), some (.int 0), some (.int 0)]) (rest := []) hi_126_51 (am_hd0 (M := 126) (by decide) 51) (Nat.le_of_ble_eq_true rfl) (Nat.le_of_ble_eq_true rfl) (show 5 ≤ am_P0.2.2.1 78 from by decide +kernel) rfl (cl_recv (h97.1.s (7, 6) (by decide))) rfl rfl (ck_emit (d := (d + 11)) h97   ) ?_
  rintro v109 S110 ⟨r111, rfl, h112, h113, h114, h115⟩
  have h113_ : iv S110 8 1 = iv S90 8 1 := h113
  have h114_ : iv S110 10 1 = iv S90 10 1 := h114
  have h115_ : iv S110 14 1 = iv S90 14 1 := h115
  obtain ⟨h117, h118, ⟨h119, h120, h121, h122⟩, ⟨h123, h124, h125⟩, h127⟩ := h112
  have h128 : kd aw S110 = kd aw S90 := kd_eq h119 h122
  show am_E _ _ _ _ [some (.ref 7), some (.int v1), some (.int r37), some (.int r91)] [.int r111] _ _
  refine am_e6i hi_126_54 ?_
  refine am_e2 (v := 7) hi_126_55 rfl ?_
  refine cm_20f (r := 12) h117 hi_126_56 (h117.1.s (7, 6) (by decide)) (by decide) rfl ?_
  refine cm_20f (r := 23) h117 hi_126_59 (h117.1.s (12, 7) (by decide)) (by decide) rfl ?_
  refine am_e1 (v := r37) hi_126_62 rfl ?_
  refine am_e1 (v := v1) hi_126_63 rfl ?_
  refine am_e1 (v := r91) hi_126_64 rfl ?_
  refine am_e2 (v := 7) hi_126_65 rfl ?_
  refine cm_20f (r := 12) h117 hi_126_66 (h117.1.s (7, 6) (by decide)) (by decide) rfl ?_
  refine am_e32n (as := [.ref 12]) (la := [some (.ref 12)]) (rest := [.int r91, .int v1, .int r37, .ref 23]) hi_126_69 (am_hd0 (M := 126) (by decide) 69) (Nat.le_of_ble_eq_true rfl) (Nat.le_of_ble_eq_true rfl) (show 1 ≤ am_P0.2.2.1 75 from by decide +kernel) rfl (cl_recv (h117.1.s (12, 7) (by decide))) rfl rfl (ck_scount (d := (d + 13)) h117   ) ?_
  rintro v129 S130 ⟨r131, rfl, rfl, h133⟩
  have h133_ : r131.toInt = iv S110 14 1 + -1 * fl S110 := h133
  show am_E _ _ _ _ [some (.ref 7), some (.int v1), some (.int r37), some (.int r91)] [.int r131, .int r91, .int v1, .int r37, .ref 23] _ _
  refine am_e32n (as := [.ref 23, .int r37, .int v1, .int r91, .int r131]) (la := [some (.ref 23), some (.int r37), some (.int v1), some (.int r91), some (.int r131)]) (rest := []) hi_126_72 (am_hd0 (M := 126) (by decide) 72) (Nat.le_of_ble_eq_true rfl) (Nat.le_of_ble_eq_true rfl) (show 5 ≤ am_P0.2.2.1 127 from by decide +kernel) rfl (cl_recv (h117.1.s (23, 9) (by decide))) rfl rfl (ck_addGoto (d := (d + 11)) h117   ) ?_
  rintro v135 S136 ⟨rfl, h138, h139, h140, h141⟩
  have h139_ : iv S136 8 1 = iv S110 8 1 := h139
  have h140_ : iv S136 10 1 = iv S110 10 1 := h140
  have h141_ : iv S136 14 1 = iv S110 14 1 := h141
  obtain ⟨h143, h144, ⟨h145, h146, h147, h148⟩, ⟨h149, h150, h151⟩, h153⟩ := h138
  have h154 : kd aw S136 = kd aw S110 := kd_eq h145 h148
  show am_E _ _ _ _ [some (.ref 7), some (.int v1), some (.int r37), some (.int r91)] [] _ _
  refine am_e35 hi_126_75 ?_
  exact ⟨rfl, ⟨h143, (((((h21.trans h55).trans h78).trans h98).trans h118).trans h144), ⟨(by show wr S136 = wr S; omega), (h148.trans (h122.trans (h102.trans (h82.trans (h59.trans h25)))))⟩, ⟨(h149.trans (h123.trans (h103.trans (h83.trans (h60.trans h26))))), (h150.trans (h124.trans (h104.trans (h84.trans (h61.trans h27))))), (by show fl S136 = fl S; omega)⟩⟩, (by show nx S + 1 ≤ nx S136; omega), (by show nx S136 ≤ wr S136; omega), (by show lv S136 = lv S + 0; omega), (by show EN S136 + -10000 * nx S136 ≤ EN S + -10000 * nx S + (-9000); omega), (by show iv S136 8 1 = iv S 8 1; omega), (by show iv S136 10 1 = iv S 10 1; omega), (by show iv S136 14 1 = iv S 14 1; omega)⟩
theorem ck_nextPart {sc : Nat × (Nat → Int32)} {d aw : Nat} {S : am_S} {x : Int32} {y : Int32} (h : SH aw S) : am_E (am_PP sc) (d + 4) 136 0 [some (.ref 7), some (.int x), some (.int y), none] [] S (am_N fun v S1 => ∃ r : Int32, v = some (.int r) ∧ Qu aw (160) S S1 ∧ (iv S1 8 1 = iv S 8 1) ∧ (iv S1 10 1 = iv S 10 1) ∧ (iv S1 14 1 = iv S 14 1)) := by
  refine am_e2 (v := 7) hi_136_0 rfl ?_
  refine am_e0 hi_136_1 ?_
  refine am_e1 (v := y) hi_136_3 rfl ?_
  refine am_e0 hi_136_4 ?_
  refine am_e0 hi_136_5 ?_
  refine am_e32n (as := [.ref 7, .int 36, .int y, .int 0, .int 0]) (la := [some (.ref 7), some (.int 36), some (.int y), some (.int 0), some (.int 0)]) (rest := []) hi_136_6 (am_hd0 (M := 136) (by decide) 6) (Nat.le_of_ble_eq_true rfl) (Nat.le_of_ble_eq_true rfl) (show 5 ≤ am_P0.2.2.1 78 from by decide +kernel) rfl (cl_recv (h.1.s (7, 6) (by decide))) rfl rfl (ck_emit (d := d) h   ) ?_
  rintro v1 S2 ⟨r3, rfl, h4, h5, h6, h7⟩
  have h5_ : iv S2 8 1 = iv S 8 1 := h5
  have h6_ : iv S2 10 1 = iv S 10 1 := h6
  have h7_ : iv S2 14 1 = iv S 14 1 := h7
  obtain ⟨h9, h10, ⟨h11, h12, h13, h14⟩, ⟨h15, h16, h17⟩, h19⟩ := h4
  have h20 : kd aw S2 = kd aw S := kd_eq h11 h14
  show am_E _ _ _ _ [some (.ref 7), some (.int x), some (.int y), none] [.int r3] _ _
  refine am_e3 (ls' := [some (.ref 7), some (.int x), some (.int y), some (.int r3)]) hi_136_9 (Nat.le_of_ble_eq_true rfl) rfl ?_
  refine am_e2 (v := 7) hi_136_10 rfl ?_
  refine cm_20f (r := 12) h9 hi_136_11 (h9.1.s (7, 6) (by decide)) (by decide) rfl ?_
  refine am_e32w (as := [.ref 12]) (la := [some (.ref 12)]) (rest := []) hi_136_14 (am_hd0 (M := 136) (by decide) 14) (Nat.le_of_ble_eq_true rfl) (Nat.le_of_ble_eq_true rfl) (show 1 ≤ am_P0.2.2.1 79 from by decide +kernel) rfl (cl_recv (h9.1.s (12, 7) (by decide))) rfl rfl ?_
  refine am_e2 (v := 12) hi_79_0 rfl ?_
  refine cm_20n h9 hi_79_1 fun hb21 => ?_
  refine am_e34 hi_79_4 ?_
  show am_E _ _ _ _ [some (.ref 7), some (.int x), some (.int y), some (.int r3)] [.ref (nw S2)] _ _
  refine am_e1 (v := x) hi_136_17 rfl ?_
  refine am_e0 hi_136_18 ?_
  refine am_e32n (as := [.ref (nw S2), .int x, .int 1]) (la := [some (.ref (nw S2)), some (.int x), some (.int 1)]) (rest := []) hi_136_19 (am_hd0 (M := 136) (by decide) 19) (Nat.le_of_ble_eq_true rfl) (Nat.le_of_ble_eq_true rfl) (show 3 ≤ am_P0.2.2.1 109 from by decide +kernel) rfl (cl_recv hb21) rfl rfl (ck_leadHere (d := (d + 2)) h9 hb21  ) ?_
  rintro v22 S23 ⟨rfl, h25⟩
  obtain ⟨h27, h28, ⟨h29, h30, h31, h32⟩, ⟨h33, h34, h35⟩, h36, h37⟩ := h25
  have h38 : kd aw S23 = kd aw S2 := kd_eq h29 h32
  have h39 := h36 8 (h9.1.s (8, 3) (by decide))
  have h40 := h36 10 (h9.1.s (10, 3) (by decide))
  have h41 := h36 14 (h9.1.s (14, 3) (by decide))
  show am_E _ _ _ _ [some (.ref 7), some (.int x), some (.int y), some (.int r3)] [] _ _
  refine am_e1 (v := r3) hi_136_22 rfl ?_
  refine am_e33 hi_136_23 ?_
  exact ⟨r3, rfl, ⟨h27, (h10.trans h28), ⟨(by show nx S23 = nx S; omega), (by show lv S23 = lv S; omega), (by show wr S23 = wr S; omega), (h32.trans h14)⟩, ⟨(h33.trans h15), (h34.trans h16), (by show fl S23 = fl S; omega)⟩, (by show EN S23 ≤ EN S + (160); omega)⟩, (by show iv S23 8 1 = iv S 8 1; omega), (by show iv S23 10 1 = iv S 10 1; omega), (by show iv S23 14 1 = iv S 14 1; omega)⟩
theorem cf_leadChain {sc : Nat × (Nat → Int32)} {d aw : Nat} {Sb : am_S} {l : Int32} {Q : Option (Option Value) → am_S → Prop} (h : SH aw Sb) (hx0 : ∀ (S : am_S) (x4 : Option Value) (j n : Int32), Sm aw Sb S → am_E (am_PP sc) (d + 2) 137 53 [some (.ref 7), some (.int l), some (.int j), some (.int n), x4] [] S Q) : ∀ (N : Nat) (S : am_S) (x4 : Option Value) (j n : Int32), Sm aw Sb S → 2147483647 - n.toInt < (N : Int) → am_E (am_PP sc) (d + 2) 137 4 [some (.ref 7), some (.int l), some (.int j), some (.int n), x4] [] S Q := by
  intro N
  induction N with
  | zero =>
    intro S x4 j n hrel   hN
    have := i32_le j
    have := i32_le n
    have := i32_ge j
    have := i32_ge n
    exfalso
    omega
  | succ N ih =>
    intro S x4 j n hrel   hN
    have hl_j := i32_le j
    have hg_j := i32_ge j
    have hl_n := i32_le n
    have hg_n := i32_ge n
    obtain ⟨h1, h2, ⟨h3, h4, h5, h6⟩, ⟨h7, h8, h9⟩, h10, h11⟩ := hrel
    have h12 : kd aw S = kd aw Sb := kd_eq h3 h6
    refine am_e1 (v := j) hi_137_4 rfl ?_
    by_cases c13 : j.toInt < (0 : Int)
    · refine am_e12t hi_137_5 (am_cT (m := j.toInt) (n := (0 : Int)) rfl (by decide) c13) ?_
      exact hx0 _ x4 j n ⟨h1, h2, ⟨(by show nx S = nx Sb; omega), (by show lv S = lv Sb; omega), (by show wr S = wr Sb; omega), h6⟩, ⟨h7, h8, (by show fl S = fl Sb; omega)⟩, (fun t ht => (h10 t ht)), (by show EN S ≤ EN Sb; omega)⟩
    · refine am_e12f hi_137_5 (am_cF (m := j.toInt) (n := (0 : Int)) rfl (by decide) c13) ?_
      refine am_e1 (v := n) hi_137_8 rfl ?_
      refine am_e0 hi_137_9 ?_
      by_cases c14 : (16384 : Int) < n.toInt
      · refine am_e13t hi_137_12 (am_cT (m := n.toInt) (n := (16384 : Int)) rfl (by decide) c14) ?_
        exact hx0 _ x4 j n ⟨h1, h2, ⟨(by show nx S = nx Sb; omega), (by show lv S = lv Sb; omega), (by show wr S = wr Sb; omega), h6⟩, ⟨h7, h8, (by show fl S = fl Sb; omega)⟩, (fun t ht => (h10 t ht)), (by show EN S ≤ EN Sb; omega)⟩
      · refine am_e13f hi_137_12 (am_cF (m := n.toInt) (n := (16384 : Int)) rfl (by decide) c14) ?_
        refine am_e2 (v := 7) hi_137_15 rfl ?_
        refine cm_20f (r := 12) h1 hi_137_16 (h1.1.s (7, 6) (by decide)) (by decide) rfl ?_
        refine am_e32w (as := [.ref 12]) (la := [some (.ref 12)]) (rest := []) hi_137_19 (am_hd0 (M := 137) (by decide) 19) (Nat.le_of_ble_eq_true rfl) (Nat.le_of_ble_eq_true rfl) (show 1 ≤ am_P0.2.2.1 79 from by decide +kernel) rfl (cl_recv (h1.1.s (12, 7) (by decide))) rfl rfl ?_
        refine am_e2 (v := 12) hi_79_0 rfl ?_
        refine cm_20n h1 hi_79_1 fun hb15 => ?_
        refine am_e34 hi_79_4 ?_
        show am_E _ _ _ _ [some (.ref 7), some (.int l), some (.int j), some (.int n), x4] [.ref (nw S)] _ _
        refine cm_20t h1 hi_137_22 hb15 (by decide) rfl fun t16 ht16 ht16b => ?_
        refine am_e1 (v := j) hi_137_25 rfl ?_
        refine am_e0 hi_137_26 ?_
        refine am_e32n (as := [.ref t16, .int j, .int 1]) (la := [some (.ref t16), some (.int j), some (.int 1)]) (rest := []) hi_137_27 (am_hd0 (M := 137) (by decide) 27) (Nat.le_of_ble_eq_true rfl) (Nat.le_of_ble_eq_true rfl) (show 3 ≤ am_P0.2.2.1 54 from by decide +kernel) rfl (cl_recv ht16) rfl rfl (ck_get (d := (d + 1)) h1 ht16  ) ?_
        rintro v17 S18 ⟨r19, rfl, rfl⟩
        show am_E _ _ _ _ [some (.ref 7), some (.int l), some (.int j), some (.int n), x4] [.int r19] _ _
        refine am_e3 (ls' := [some (.ref 7), some (.int l), some (.int j), some (.int n), some (.int r19)]) hi_137_30 (Nat.le_of_ble_eq_true rfl) rfl ?_
        refine am_e2 (v := 7) hi_137_32 rfl ?_
        refine cm_20f (r := 12) h1 hi_137_33 (h1.1.s (7, 6) (by decide)) (by decide) rfl ?_
        refine am_e32w (as := [.ref 12]) (la := [some (.ref 12)]) (rest := []) hi_137_36 (am_hd0 (M := 137) (by decide) 36) (Nat.le_of_ble_eq_true rfl) (Nat.le_of_ble_eq_true rfl) (show 1 ≤ am_P0.2.2.1 79 from by decide +kernel) rfl (cl_recv (h1.1.s (12, 7) (by decide))) rfl rfl ?_
        refine am_e2 (v := 12) hi_79_0 rfl ?_
        refine cm_20n h1 hi_79_1 fun hb22 => ?_
        refine am_e34 hi_79_4 ?_
        show am_E _ _ _ _ [some (.ref 7), some (.int l), some (.int j), some (.int n), some (.int r19)] [.ref (nw S)] _ _
        refine am_e1 (v := j) hi_137_39 rfl ?_
        refine am_e0 hi_137_40 ?_
        refine am_e32n (as := [.ref (nw S), .int j, .int 1]) (la := [some (.ref (nw S)), some (.int j), some (.int 1)]) (rest := []) hi_137_41 (am_hd0 (M := 137) (by decide) 41) (Nat.le_of_ble_eq_true rfl) (Nat.le_of_ble_eq_true rfl) (show 3 ≤ am_P0.2.2.1 109 from by decide +kernel) rfl (cl_recv hb22) rfl rfl (ck_leadHere (d := d) h1 hb22  ) ?_
        rintro v23 S24 ⟨rfl, h26⟩
        obtain ⟨h28, h29, ⟨h30, h31, h32, h33⟩, ⟨h34, h35, h36⟩, h37, h38⟩ := h26
        have h39 : kd aw S24 = kd aw S := kd_eq h30 h33
        show am_E _ _ _ _ [some (.ref 7), some (.int l), some (.int j), some (.int n), some (.int r19)] [] _ _
        refine am_e1 (v := r19) hi_137_44 rfl ?_
        refine am_e3 (ls' := [some (.ref 7), some (.int l), some (.int r19), some (.int n), some (.int r19)]) hi_137_46 (Nat.le_of_ble_eq_true rfl) rfl ?_
        obtain ⟨z40, hz40, tz40⟩ := am_addI (x := n) (y := 1) (m := n.toInt) (n := (1 : Int)) rfl (by decide) (by omega) (by omega)
        refine am_e5 (v := n) (z := z40) (ls' := [some (.ref 7), some (.int l), some (.int r19), some (.int z40), some (.int r19)]) hi_137_47 rfl hz40 rfl ?_
        refine am_e18 hi_137_50 ?_
        exact ih _ (some (.int r19)) r19 z40 ⟨h28, (h2.trans h29), ⟨(by show nx S24 = nx Sb; omega), (by show lv S24 = lv Sb; omega), (by show wr S24 = wr Sb; omega), (h33.trans h6)⟩, ⟨(h34.trans h7), (h35.trans h8), (by show fl S24 = fl Sb; omega)⟩, (fun t ht => ((h37 t (h2.1 _ _ ht)).trans (h10 t ht))), (by show EN S24 ≤ EN Sb; omega)⟩ (by show 2147483647 - z40.toInt < (N : Int); omega)
theorem ck_leadChain {sc : Nat × (Nat → Int32)} {d aw : Nat} {S : am_S} {l : Int32} (h : SH aw S) : am_E (am_PP sc) (d + 2) 137 0 [some (.ref 7), some (.int l), none, none, none] [] S (am_N fun v S1 => v = none ∧ Sm aw S S1) := by
  refine am_e1 (v := l) hi_137_0 rfl ?_
  refine am_e3 (ls' := [some (.ref 7), some (.int l), some (.int l), none, none]) hi_137_1 (Nat.le_of_ble_eq_true rfl) rfl ?_
  refine am_e0 hi_137_2 ?_
  refine am_e3 (ls' := [some (.ref 7), some (.int l), some (.int l), some (.int 0), none]) hi_137_3 (Nat.le_of_ble_eq_true rfl) rfl ?_
  refine cf_leadChain (d := d) (Sb := S) (l := l) h    ?_ ((2147483647 - (0 : Int)).toNat + 1) S none l 0 (Sm.refl h) (by show 2147483647 - (0 : Int) < _; omega)
  · intro S3 x45 j1 n2 h4
    obtain ⟨h6, h7, ⟨h8, h9, h10, h11⟩, ⟨h12, h13, h14⟩, h15, h16⟩ := h4
    have h17 : kd aw S3 = kd aw S := kd_eq h8 h11
    show am_E _ _ _ _ [some (.ref 7), some (.int l), some (.int j1), some (.int n2), x45] [] _ _
    refine am_e35 hi_137_53 ?_
    exact ⟨rfl, ⟨h6, h7, ⟨(by show nx S3 = nx S; omega), (by show lv S3 = lv S; omega), (by show wr S3 = wr S; omega), h11⟩, ⟨h12, h13, (by show fl S3 = fl S; omega)⟩, (fun t ht => (h15 t ht)), (by show EN S3 ≤ EN S; omega)⟩⟩
theorem cf_openHidden {sc : Nat × (Nat → Int32)} {d aw : Nat} {Sb : am_S} {hh_ : Int32} {ss_ : Int32} {ff_ : Int32} {sl : Int32} {Q : Option (Option Value) → am_S → Prop} (h : SH aw Sb) (p0 : hh_.toInt ≤ 4) (hx0 : ∀ (S : am_S) (i : Int32), Qv aw Sb S → (0 ≤ i.toInt) → (i.toInt ≤ 4) → (EN S ≤ EN Sb + 160 * i.toInt) → (iv S 8 1 = iv Sb 8 1) → (iv S 10 1 = iv Sb 10 1) → am_E (am_PP sc) (d + 4) 140 41 [some (.ref 7), some (.int hh_), some (.int ss_), some (.int ff_), some (.int sl), some (.int i)] [] S Q) : ∀ (N : Nat) (S : am_S) (i : Int32), Qv aw Sb S → (0 ≤ i.toInt) → (i.toInt ≤ 4) → (EN S ≤ EN Sb + 160 * i.toInt) → (iv S 8 1 = iv Sb 8 1) → (iv S 10 1 = iv Sb 10 1) → 2147483647 - i.toInt < (N : Int) → am_E (am_PP sc) (d + 4) 140 19 [some (.ref 7), some (.int hh_), some (.int ss_), some (.int ff_), some (.int sl), some (.int i)] [] S Q := by
  intro N
  induction N with
  | zero =>
    intro S  i hrel  i0 i1 i2 i3 i4 hN
    have := i32_le i
    have := i32_ge i
    exfalso
    omega
  | succ N ih =>
    intro S  i hrel  i0 i1 i2 i3 i4 hN
    have hl_i := i32_le i
    have hg_i := i32_ge i
    obtain ⟨h1, h2, ⟨h3, h4, h5, h6⟩, ⟨h7, h8, h9⟩⟩ := hrel
    have h12 : kd aw S = kd aw Sb := kd_eq h3 h6
    refine am_e1 (v := i) hi_140_19 rfl ?_
    refine am_e1 (v := hh_) hi_140_21 rfl ?_
    by_cases c13 : hh_.toInt ≤ i.toInt
    · refine am_e13t hi_140_22 (am_cT (m := i.toInt) (n := hh_.toInt) rfl rfl c13) ?_
      exact hx0 _ i ⟨h1, h2, ⟨(by show nx S = nx Sb; omega), (by show lv S = lv Sb; omega), (by show wr S = wr Sb; omega), h6⟩, ⟨h7, h8, (by show fl S = fl Sb; omega)⟩⟩ (by show 0 ≤ i.toInt; omega) (by show i.toInt ≤ 4; omega) (by show EN S ≤ EN Sb + 160 * i.toInt; omega) (by show iv S 8 1 = iv Sb 8 1; omega) (by show iv S 10 1 = iv Sb 10 1; omega)
    · refine am_e13f hi_140_22 (am_cF (m := i.toInt) (n := hh_.toInt) rfl rfl c13) ?_
      refine am_e2 (v := 7) hi_140_25 rfl ?_
      refine cm_20f (r := 12) h1 hi_140_26 (h1.1.s (7, 6) (by decide)) (by decide) rfl ?_
      refine am_e0 hi_140_29 ?_
      refine am_e0 hi_140_30 ?_
      refine am_e1 (v := ff_) hi_140_31 rfl ?_
      refine am_e32n (as := [.ref 12, .int 0, .int 0, .int ff_]) (la := [some (.ref 12), some (.int 0), some (.int 0), some (.int ff_)]) (rest := []) hi_140_32 (am_hd0 (M := 140) (by decide) 32) (Nat.le_of_ble_eq_true rfl) (Nat.le_of_ble_eq_true rfl) (show 4 ≤ am_P0.2.2.1 74 from by decide +kernel) rfl (cl_recv (h1.1.s (12, 7) (by decide))) rfl rfl (ck_declare (d := d) h1   ) ?_
      rintro v14 S15 ⟨rfl, h17, h18, h19, h20, h21⟩
      have h18_ : iv S15 14 1 ≤ iv S 14 1 + 1 := h18
      have h19_ : iv S 14 1 ≤ iv S15 14 1 := h19
      have h20_ : iv S15 8 1 = iv S 8 1 := h20
      have h21_ : iv S15 10 1 = iv S 10 1 := h21
      obtain ⟨h23, h24, ⟨h25, h26, h27, h28⟩, ⟨h29, h30, h31⟩, h33⟩ := h17
      have h34 : kd aw S15 = kd aw S := kd_eq h25 h28
      show am_E _ _ _ _ [some (.ref 7), some (.int hh_), some (.int ss_), some (.int ff_), some (.int sl), some (.int i)] [] _ _
      obtain ⟨z35, hz35, tz35⟩ := am_addI (x := i) (y := 1) (m := i.toInt) (n := (1 : Int)) rfl (by decide) (by omega) (by omega)
      refine am_e5 (v := i) (z := z35) (ls' := [some (.ref 7), some (.int hh_), some (.int ss_), some (.int ff_), some (.int sl), some (.int z35)]) hi_140_35 rfl hz35 rfl ?_
      refine am_e18 hi_140_38 ?_
      exact ih _ z35 ⟨h23, (h2.trans h24), ⟨(by show nx S15 = nx Sb; omega), (by show lv S15 = lv Sb; omega), (by show wr S15 = wr Sb; omega), (h28.trans h6)⟩, ⟨(h29.trans h7), (h30.trans h8), (by show fl S15 = fl Sb; omega)⟩⟩ (by show 0 ≤ z35.toInt; omega) (by show z35.toInt ≤ 4; omega) (by show EN S15 ≤ EN Sb + 160 * z35.toInt; omega) (by show iv S15 8 1 = iv Sb 8 1; omega) (by show iv S15 10 1 = iv Sb 10 1; omega) (by show 2147483647 - z35.toInt < (N : Int); omega)
theorem ck_openHidden {sc : Nat × (Nat → Int32)} {d aw : Nat} {S : am_S} {hh_ : Int32} {ss_ : Int32} {ff_ : Int32} (h : SH aw S) (p0 : hh_.toInt ≤ 4) : am_E (am_PP sc) (d + 4) 140 0 [some (.ref 7), some (.int hh_), some (.int ss_), some (.int ff_), none, none] [] S (am_N fun v S1 => ∃ r : Int32, v = some (.int r) ∧ Qu aw (960) S S1 ∧ (iv S1 8 1 = iv S 8 1) ∧ (iv S1 10 1 = iv S 10 1)) := by
  refine am_e2 (v := 7) hi_140_0 rfl ?_
  refine cm_20f (r := 12) h hi_140_1 (h.1.s (7, 6) (by decide)) (by decide) rfl ?_
  refine am_e32n (as := [.ref 12]) (la := [some (.ref 12)]) (rest := []) hi_140_4 (am_hd0 (M := 140) (by decide) 4) (Nat.le_of_ble_eq_true rfl) (Nat.le_of_ble_eq_true rfl) (show 1 ≤ am_P0.2.2.1 75 from by decide +kernel) rfl (cl_recv (h.1.s (12, 7) (by decide))) rfl rfl (ck_scount (d := (d + 2)) h   ) ?_
  rintro v1 S2 ⟨r3, rfl, rfl, h5⟩
  have h5_ : r3.toInt = iv S 14 1 + -1 * fl S := h5
  show am_E _ _ _ _ [some (.ref 7), some (.int hh_), some (.int ss_), some (.int ff_), none, none] [.int r3] _ _
  refine am_e3 (ls' := [some (.ref 7), some (.int hh_), some (.int ss_), some (.int ff_), some (.int r3), none]) hi_140_7 (Nat.le_of_ble_eq_true rfl) rfl ?_
  refine am_e2 (v := 7) hi_140_9 rfl ?_
  refine cm_20f (r := 12) h hi_140_10 (h.1.s (7, 6) (by decide)) (by decide) rfl ?_
  refine am_e32n (as := [.ref 12]) (la := [some (.ref 12)]) (rest := []) hi_140_13 (am_hd0 (M := 140) (by decide) 13) (Nat.le_of_ble_eq_true rfl) (Nat.le_of_ble_eq_true rfl) (show 1 ≤ am_P0.2.2.1 51 from by decide +kernel) rfl (cl_recv (h.1.s (12, 7) (by decide))) rfl rfl (ck_openBlock (d := d) h   ) ?_
  rintro v7 S8 ⟨rfl, h10, h11, h12, h13⟩
  have h11_ : iv S8 8 1 = iv S 8 1 := h11
  have h12_ : iv S8 10 1 = iv S 10 1 := h12
  have h13_ : iv S8 14 1 = iv S 14 1 := h13
  obtain ⟨h15, h16, ⟨h17, h18, h19, h20⟩, ⟨h21, h22, h23⟩, h25⟩ := h10
  have h26 : kd aw S8 = kd aw S := kd_eq h17 h20
  show am_E _ _ _ _ [some (.ref 7), some (.int hh_), some (.int ss_), some (.int ff_), some (.int r3), none] [] _ _
  refine am_e0 hi_140_16 ?_
  refine am_e3 (ls' := [some (.ref 7), some (.int hh_), some (.int ss_), some (.int ff_), some (.int r3), some (.int 0)]) hi_140_17 (Nat.le_of_ble_eq_true rfl) rfl ?_
  refine cf_openHidden (d := d) (Sb := S8) (hh_ := hh_) (ss_ := ss_) (ff_ := ff_) (sl := r3) h15   (by show hh_.toInt ≤ 4; omega) ?_ ((2147483647 - (0 : Int)).toNat + 1) S8 0 ⟨h15, Ex.refl _, ⟨rfl, rfl, rfl, rfl⟩, ⟨rfl, rfl, rfl⟩⟩ (by show 0 ≤ (0 : Int); omega) (by show (0 : Int) ≤ 4; omega) (by show EN S8 ≤ EN S8 + 160 * (0 : Int); omega) (by show iv S8 8 1 = iv S8 8 1; omega) (by show iv S8 10 1 = iv S8 10 1; omega) (by show 2147483647 - (0 : Int) < _; omega)
  · intro S28 i27 h29 h30 h31 h32 h33 h34
    have h30_ : 0 ≤ i27.toInt := h30
    have h31_ : i27.toInt ≤ 4 := h31
    have h32_ : EN S28 ≤ EN S8 + 160 * i27.toInt := h32
    have h33_ : iv S28 8 1 = iv S8 8 1 := h33
    have h34_ : iv S28 10 1 = iv S8 10 1 := h34
    obtain ⟨h35, h36, ⟨h37, h38, h39, h40⟩, ⟨h41, h42, h43⟩⟩ := h29
    have h46 : kd aw S28 = kd aw S8 := kd_eq h37 h40
    show am_E _ _ _ _ [some (.ref 7), some (.int hh_), some (.int ss_), some (.int ff_), some (.int r3), some (.int i27)] [] _ _
    refine am_e2 (v := 7) hi_140_41 rfl ?_
    refine cm_20f (r := 12) h35 hi_140_42 (h35.1.s (7, 6) (by decide)) (by decide) rfl ?_
    refine am_e1 (v := ss_) hi_140_45 rfl ?_
    refine am_e32n (as := [.ref 12, .int ss_]) (la := [some (.ref 12), some (.int ss_), none]) (rest := []) hi_140_46 (am_hd0 (M := 140) (by decide) 46) (Nat.le_of_ble_eq_true rfl) (Nat.le_of_ble_eq_true rfl) (show 2 ≤ am_P0.2.2.1 141 from by decide +kernel) rfl (cl_recv (h35.1.s (12, 7) (by decide))) rfl rfl (ck_markLatest (d := (d + 2)) h35   ) ?_
    rintro v47 S48 ⟨rfl, h50⟩
    obtain ⟨h52, h53, ⟨h54, h55, h56, h57⟩, ⟨h58, h59, h60⟩, h61, h62⟩ := h50
    have h63 : kd aw S48 = kd aw S28 := kd_eq h54 h57
    have h64 := h61 8 (h35.1.s (8, 3) (by decide))
    have h65 := h61 10 (h35.1.s (10, 3) (by decide))
    have h66 := h61 14 (h35.1.s (14, 3) (by decide))
    show am_E _ _ _ _ [some (.ref 7), some (.int hh_), some (.int ss_), some (.int ff_), some (.int r3), some (.int i27)] [] _ _
    refine am_e2 (v := 7) hi_140_49 rfl ?_
    refine cm_20f (r := 12) h52 hi_140_50 (h52.1.s (7, 6) (by decide)) (by decide) rfl ?_
    refine cm_20f (r := 23) h52 hi_140_53 (h52.1.s (12, 7) (by decide)) (by decide) rfl ?_
    refine am_e2 (v := 7) hi_140_56 rfl ?_
    refine cm_20f (r := 12) h52 hi_140_57 (h52.1.s (7, 6) (by decide)) (by decide) rfl ?_
    refine am_e32n (as := [.ref 12]) (la := [some (.ref 12)]) (rest := [.ref 23]) hi_140_60 (am_hd0 (M := 140) (by decide) 60) (Nat.le_of_ble_eq_true rfl) (Nat.le_of_ble_eq_true rfl) (show 1 ≤ am_P0.2.2.1 75 from by decide +kernel) rfl (cl_recv (h52.1.s (12, 7) (by decide))) rfl rfl (ck_scount (d := (d + 2)) h52   ) ?_
    rintro v67 S68 ⟨r69, rfl, rfl, h71⟩
    have h71_ : r69.toInt = iv S48 14 1 + -1 * fl S48 := h71
    show am_E _ _ _ _ [some (.ref 7), some (.int hh_), some (.int ss_), some (.int ff_), some (.int r3), some (.int i27)] [.int r69, .ref 23] _ _
    refine am_e32n (as := [.ref 23, .int r69]) (la := [some (.ref 23), some (.int r69)]) (rest := []) hi_140_63 (am_hd0 (M := 140) (by decide) 63) (Nat.le_of_ble_eq_true rfl) (Nat.le_of_ble_eq_true rfl) (show 2 ≤ am_P0.2.2.1 131 from by decide +kernel) rfl (cl_recv (h52.1.s (23, 9) (by decide))) rfl rfl (ck_openLoop (d := d) h52   ) ?_
    rintro v73 S74 ⟨rfl, h76, h77, h78, h79⟩
    have h77_ : iv S74 8 1 = iv S48 8 1 := h77
    have h78_ : iv S74 10 1 = iv S48 10 1 := h78
    have h79_ : iv S74 14 1 = iv S48 14 1 := h79
    obtain ⟨h81, h82, ⟨h83, h84, h85, h86⟩, ⟨h87, h88, h89⟩, h91⟩ := h76
    have h92 : kd aw S74 = kd aw S48 := kd_eq h83 h86
    show am_E _ _ _ _ [some (.ref 7), some (.int hh_), some (.int ss_), some (.int ff_), some (.int r3), some (.int i27)] [] _ _
    refine am_e1 (v := r3) hi_140_66 rfl ?_
    refine am_e33 hi_140_68 ?_
    exact ⟨r3, rfl, ⟨h81, (((h16.trans h36).trans h53).trans h82), ⟨(by show nx S74 = nx S; omega), (by show lv S74 = lv S; omega), (by show wr S74 = wr S; omega), (h86.trans (h57.trans (h40.trans h20)))⟩, ⟨(h87.trans (h58.trans (h41.trans h21))), (h88.trans (h59.trans (h42.trans h22))), (by show fl S74 = fl S; omega)⟩, (by show EN S74 ≤ EN S + (960); omega)⟩, (by show iv S74 8 1 = iv S 8 1; omega), (by show iv S74 10 1 = iv S 10 1; omega)⟩
theorem ck_closeHidden {sc : Nat × (Nat → Int32)} {d aw : Nat} {S : am_S} (h : SH aw S) : am_E (am_PP sc) (d + 4) 143 0 [some (.ref 7)] [] S (am_N fun v S1 => v = none ∧ Qu aw (0) S S1 ∧ (iv S1 8 1 = iv S 8 1) ∧ (iv S1 10 1 = iv S 10 1)) := by
  refine am_e2 (v := 7) hi_143_0 rfl ?_
  refine cm_20f (r := 12) h hi_143_1 (h.1.s (7, 6) (by decide)) (by decide) rfl ?_
  refine am_e32n (as := [.ref 12]) (la := [some (.ref 12), none]) (rest := []) hi_143_4 (am_hd0 (M := 143) (by decide) 4) (Nat.le_of_ble_eq_true rfl) (Nat.le_of_ble_eq_true rfl) (show 1 ≤ am_P0.2.2.1 81 from by decide +kernel) rfl (cl_recv (h.1.s (12, 7) (by decide))) rfl rfl (ck_closeBlock (d := d) h   ) ?_
  rintro v1 S2 ⟨rfl, h4, h5, h6⟩
  have h5_ : iv S2 8 1 = iv S 8 1 := h5
  have h6_ : iv S2 10 1 = iv S 10 1 := h6
  obtain ⟨h8, h9, ⟨h10, h11, h12, h13⟩, ⟨h14, h15, h16⟩, h18⟩ := h4
  have h19 : kd aw S2 = kd aw S := kd_eq h10 h13
  show am_E _ _ _ _ [some (.ref 7)] [] _ _
  refine am_e2 (v := 7) hi_143_7 rfl ?_
  refine cm_20f (r := 12) h8 hi_143_8 (h8.1.s (7, 6) (by decide)) (by decide) rfl ?_
  refine cm_20f (r := 23) h8 hi_143_11 (h8.1.s (12, 7) (by decide)) (by decide) rfl ?_
  refine am_e2 (v := 7) hi_143_14 rfl ?_
  refine cm_20f (r := 12) h8 hi_143_15 (h8.1.s (7, 6) (by decide)) (by decide) rfl ?_
  refine am_e32w (as := [.ref 12]) (la := [some (.ref 12)]) (rest := [.ref 23]) hi_143_18 (am_hd0 (M := 143) (by decide) 18) (Nat.le_of_ble_eq_true rfl) (Nat.le_of_ble_eq_true rfl) (show 1 ≤ am_P0.2.2.1 79 from by decide +kernel) rfl (cl_recv (h8.1.s (12, 7) (by decide))) rfl rfl ?_
  refine am_e2 (v := 12) hi_79_0 rfl ?_
  refine cm_20n h8 hi_79_1 fun hb20 => ?_
  refine am_e34 hi_79_4 ?_
  show am_E _ _ _ _ [some (.ref 7)] [.ref (nw S2), .ref 23] _ _
  refine am_e32n (as := [.ref 23, .ref (nw S2)]) (la := [some (.ref 23), some (.ref (nw S2)), none, none]) (rest := []) hi_143_21 (am_hd0 (M := 143) (by decide) 21) (Nat.le_of_ble_eq_true rfl) (Nat.le_of_ble_eq_true rfl) (show 2 ≤ am_P0.2.2.1 132 from by decide +kernel) rfl (cl_recv (h8.1.s (23, 9) (by decide))) rfl rfl (ck_closeLoop (d := (d + 1)) h8 hb20  ) ?_
  rintro v21 S22 ⟨rfl, h24, h25, h26, h27⟩
  have h25_ : iv S22 8 1 = iv S2 8 1 := h25
  have h26_ : iv S22 10 1 = iv S2 10 1 := h26
  have h27_ : iv S22 14 1 = iv S2 14 1 := h27
  obtain ⟨h29, h30, ⟨h31, h32, h33, h34⟩, ⟨h35, h36, h37⟩, h39⟩ := h24
  have h40 : kd aw S22 = kd aw S2 := kd_eq h31 h34
  show am_E _ _ _ _ [some (.ref 7)] [] _ _
  refine am_e35 hi_143_24 ?_
  exact ⟨rfl, ⟨h29, (h9.trans h30), ⟨(by show nx S22 = nx S; omega), (by show lv S22 = lv S; omega), (by show wr S22 = wr S; omega), (h34.trans h13)⟩, ⟨(h35.trans h14), (h36.trans h15), (by show fl S22 = fl S; omega)⟩, (by show EN S22 ≤ EN S + (0); omega)⟩, (by show iv S22 8 1 = iv S 8 1; omega), (by show iv S22 10 1 = iv S 10 1; omega)⟩
theorem ck_attribute {sc : Nat × (Nat → Int32)} {d aw : Nat} {S : am_S} {z : Int32} (h : SH aw S) (hb_z : z = 0 ∨ z = 1) (p0 : 0 ≤ nx S) (p1 : nx S ≤ wr S) (p2 : wr S ≤ 600) (p3 : 0 ≤ lv S) (p4 : lv S ≤ 48) (p5 : kd aw S = 57) : am_E (am_PP sc) (d + 15) 148 0 [some (.ref 7), some (.int z), none, none, none] [] S (am_T (fun v S1 => ∃ r : Int32, v = some (.int r) ∧ (r = 0 ∨ r = 1) ∧ Wd aw S S1 ∧ (nx S + 3 ≤ nx S1) ∧ (nx S1 ≤ wr S1) ∧ (lv S1 = lv S + 0)) (fun S1 => TH aw 134 S S1)) := by
  have hb_z_ : z.toInt = 0 ∨ z.toInt = 1 := hb_z.elim (fun e => Or.inl (by rw [e]; rfl)) (fun e => Or.inr (by rw [e]; rfl))
  refine am_e2 (v := 7) hi_148_0 rfl ?_
  refine cm_20f (r := 2) h hi_148_1 (h.1.s (7, 6) (by decide)) (by decide) rfl ?_
  refine am_e32t (as := [.ref 2]) (la := [some (.ref 2), none]) (rest := []) hi_148_4 (am_hd0 (M := 148) (by decide) 4) (Nat.le_of_ble_eq_true rfl) (Nat.le_of_ble_eq_true rfl) (show 1 ≤ am_P0.2.2.1 55 from by decide +kernel) rfl (cl_recv (h.1.s (2, 2) (by decide))) rfl rfl (ck_skip (d := (d + 1)) h   (by show 0 ≤ nx S; omega) (by show nx S ≤ wr S; omega) (by show wr S ≤ 600; omega) (by show 0 ≤ lv S; omega) (by show lv S ≤ 48; omega) (by show kd aw S ≠ 0; omega)) (fun S17 h18 => (show TH aw 134 S S17 from ⟨h18.1, (Ex.refl S).trans h18.2.1, ⟨(by have q := h18.2.2.1.1; omega), h18.2.2.1.2.trans rfl⟩, h18.2.2.2.1, h18.2.2.2.2.1, (by have q := h18.2.2.2.2.2; omega)⟩)) ?_
  rintro v1 S2 ⟨r3, rfl, h4, h5, h6, h7, h8⟩
  have h5_ : nx S2 = nx S + 1 := h5
  have h6_ : lv S2 = lv S + c_dl (kd aw S) := h6
  have h7_ : lv S2 ≤ 48 := h7
  have h8_ : nx S2 ≤ wr S2 := h8
  obtain ⟨h19, h20, ⟨h23, h24⟩, ⟨h25, h26, h27⟩, h28, h29⟩ := h4
  have h30 : c_dl (kd aw S) = 0 := by unfold c_dl; split <;> split <;> omega
  show am_E _ _ _ _ [some (.ref 7), some (.int z), none, none, none] [.int r3] _ _
  refine am_e6i hi_148_7 ?_
  refine am_e2 (v := 7) hi_148_8 rfl ?_
  refine cm_20f (r := 2) h19 hi_148_9 (h19.1.s (7, 6) (by decide)) (by decide) rfl ?_
  refine am_e32x (as := [.ref 2]) (la := [some (.ref 2)]) (rest := []) hi_148_12 (am_hd0 (M := 148) (by decide) 12) (Nat.le_of_ble_eq_true rfl) (Nat.le_of_ble_eq_true rfl) (show 1 ≤ am_P0.2.2.1 63 from by decide +kernel) rfl (cl_recv (h19.1.s (2, 2) (by decide))) rfl rfl ?_
  refine am_e2 (v := 2) hi_63_0 rfl ?_
  refine cm_20i h19 hi_63_1 (h19.1.s (2, 2) (by decide)) (by decide) rfl fun v31 hv31 => ?_
  have hv31_ : v31.toInt = nx S2 := hv31
  refine am_e33 hi_63_4 ?_
  show am_E _ _ _ _ [some (.ref 7), some (.int z), none, none, none] [.int v31] _ _
  refine am_e3 (ls' := [some (.ref 7), some (.int z), some (.int v31), none, none]) hi_148_15 (Nat.le_of_ble_eq_true rfl) rfl ?_
  refine am_e2 (v := 7) hi_148_16 rfl ?_
  refine cm_20f (r := 2) h19 hi_148_17 (h19.1.s (7, 6) (by decide)) (by decide) rfl ?_
  refine am_e0 hi_148_20 ?_
  refine am_e32t (as := [.ref 2, .int 1]) (la := [some (.ref 2), some (.int 1)]) (rest := []) hi_148_21 (am_hd0 (M := 148) (by decide) 21) (Nat.le_of_ble_eq_true rfl) (Nat.le_of_ble_eq_true rfl) (show 2 ≤ am_P0.2.2.1 64 from by decide +kernel) rfl (cl_recv (h19.1.s (2, 2) (by decide))) rfl rfl (ck_take (d := d) h19   (by show 0 ≤ nx S2; omega) (by show nx S2 ≤ wr S2; omega) (by show wr S2 ≤ 600; omega) (by show 0 ≤ lv S2; omega) (by show lv S2 ≤ 48; omega) (by show ¬ (1 : Int) = 0; omega)) (fun S49 h50 => (show TH aw 134 S S49 from ⟨h50.1, h20.trans h50.2.1, ⟨(by have q := h50.2.2.1.1; omega), h50.2.2.1.2.trans h24⟩, h50.2.2.2.1, h50.2.2.2.2.1, (by have q := h50.2.2.2.2.2; omega)⟩)) ?_
  rintro v32 S33 ⟨r34, rfl, h35, h36, h37, h38, h39, h40⟩
  have h36_ : kd aw S2 = (1 : Int) := h36
  have h37_ : nx S33 = nx S2 + 1 := h37
  have h38_ : lv S33 = lv S2 + c_dl (kd aw S2) := h38
  have h39_ : lv S33 ≤ 48 := h39
  have h40_ : nx S33 ≤ wr S33 := h40
  obtain ⟨h51, h52, ⟨h55, h56⟩, ⟨h57, h58, h59⟩, h60, h61⟩ := h35
  have h62 : c_dl (kd aw S2) = 0 := by unfold c_dl; split <;> split <;> omega
  show am_E _ _ _ _ [some (.ref 7), some (.int z), some (.int v31), none, none] [.int r34] _ _
  refine am_e3 (ls' := [some (.ref 7), some (.int z), some (.int v31), some (.int r34), none]) hi_148_24 (Nat.le_of_ble_eq_true rfl) rfl ?_
  refine am_e2 (v := 7) hi_148_25 rfl ?_
  refine cm_20f (r := 2) h51 hi_148_26 (h51.1.s (7, 6) (by decide)) (by decide) rfl ?_
  refine am_e0 hi_148_29 ?_
  refine am_e32t (as := [.ref 2, .int 58]) (la := [some (.ref 2), some (.int 58)]) (rest := []) hi_148_31 (am_hd0 (M := 148) (by decide) 31) (Nat.le_of_ble_eq_true rfl) (Nat.le_of_ble_eq_true rfl) (show 2 ≤ am_P0.2.2.1 64 from by decide +kernel) rfl (cl_recv (h51.1.s (2, 2) (by decide))) rfl rfl (ck_take (d := d) h51   (by show 0 ≤ nx S33; omega) (by show nx S33 ≤ wr S33; omega) (by show wr S33 ≤ 600; omega) (by show 0 ≤ lv S33; omega) (by show lv S33 ≤ 48; omega) (by show ¬ (58 : Int) = 0; omega)) (fun S80 h81 => (show TH aw 134 S S80 from ⟨h81.1, (h20.trans h52).trans h81.2.1, ⟨(by have q := h81.2.2.1.1; omega), h81.2.2.1.2.trans (h56.trans h24)⟩, h81.2.2.2.1, h81.2.2.2.2.1, (by have q := h81.2.2.2.2.2; omega)⟩)) ?_
  rintro v63 S64 ⟨r65, rfl, h66, h67, h68, h69, h70, h71⟩
  have h67_ : kd aw S33 = (58 : Int) := h67
  have h68_ : nx S64 = nx S33 + 1 := h68
  have h69_ : lv S64 = lv S33 + c_dl (kd aw S33) := h69
  have h70_ : lv S64 ≤ 48 := h70
  have h71_ : nx S64 ≤ wr S64 := h71
  obtain ⟨h82, h83, ⟨h86, h87⟩, ⟨h88, h89, h90⟩, h91, h92⟩ := h66
  have h93 : c_dl (kd aw S33) = 0 := by unfold c_dl; split <;> split <;> omega
  show am_E _ _ _ _ [some (.ref 7), some (.int z), some (.int v31), some (.int r34), none] [.int r65] _ _
  refine am_e6i hi_148_34 ?_
  refine am_e1 (v := r34) hi_148_35 rfl ?_
  refine am_e0 hi_148_36 ?_
  by_cases c94 : ¬ r34.toInt = (-3 : Int)
  · refine am_e13t hi_148_38 (am_cT (m := r34.toInt) (n := (-3 : Int)) rfl (by decide) c94) ?_
    refine am_e0 hi_148_45 ?_
    refine am_e3 (ls' := [some (.ref 7), some (.int z), some (.int v31), some (.int r34), some (.int 0)]) hi_148_46 (Nat.le_of_ble_eq_true rfl) rfl ?_
    refine am_e1 (v := 0) hi_148_48 rfl ?_
    refine am_e12t hi_148_50 (by decide) ?_
    refine am_e1 (v := 0) hi_148_57 rfl ?_
    refine am_e12f hi_148_59 (by decide) ?_
    refine am_e1 (v := r34) hi_148_62 rfl ?_
    refine am_e0 hi_148_63 ?_
    by_cases c95 : r34.toInt = (-2 : Int)
    · refine am_e13t hi_148_65 (am_cT (m := r34.toInt) (n := (-2 : Int)) rfl (by decide) c95) ?_
      refine am_e2 (v := 7) hi_148_78 rfl ?_
      refine cm_20f (r := 12) h82 hi_148_79 (h82.1.s (7, 6) (by decide)) (by decide) rfl ?_
      refine am_e1 (v := 0) hi_148_82 rfl ?_
      refine am_e12t hi_148_84 (by decide) ?_
      refine am_e0 hi_148_92 ?_
      refine am_e32n (as := [.ref 12, .int 2]) (la := [some (.ref 12), some (.int 2), none]) (rest := []) hi_148_93 (am_hd0 (M := 148) (by decide) 93) (Nat.le_of_ble_eq_true rfl) (Nat.le_of_ble_eq_true rfl) (show 2 ≤ am_P0.2.2.1 141 from by decide +kernel) rfl (cl_recv (h82.1.s (12, 7) (by decide))) rfl rfl (ck_markLatest (d := (d + 13)) h82   ) ?_
      rintro v96 S97 ⟨rfl, h99⟩
      obtain ⟨h101, h102, ⟨h103, h104, h105, h106⟩, ⟨h107, h108, h109⟩, h110, h111⟩ := h99
      have h112 : kd aw S97 = kd aw S64 := kd_eq h103 h106
      show am_E _ _ _ _ [some (.ref 7), some (.int z), some (.int v31), some (.int r34), some (.int 0)] [] _ _
      refine am_e1 (v := 0) hi_148_96 rfl ?_
      refine am_e36 hi_148_98 (by decide) ?_
      exact ⟨0, rfl, (by decide), ⟨h101, (((h20.trans h52).trans h83).trans h102), ⟨(by show wr S97 = wr S; omega), (h106.trans (h87.trans (h56.trans h24)))⟩, ⟨(h107.trans (h88.trans (h57.trans h25))), (h108.trans (h89.trans (h58.trans h26))), (by show fl S97 = fl S; omega)⟩, (fun t ht => ((h110 t (h83.1 _ _ (h52.1 _ _ (h20.1 _ _ ht)))).trans ((h91 t (h52.1 _ _ (h20.1 _ _ ht))).trans ((h60 t (h20.1 _ _ ht)).trans (h28 t ht))))), (by show EN S97 ≤ EN S; omega)⟩, (by show nx S + 3 ≤ nx S97; omega), (by show nx S97 ≤ wr S97; omega), (by show lv S97 = lv S + 0; omega)⟩
    · refine am_e13f hi_148_65 (am_cF (m := r34.toInt) (n := (-2 : Int)) rfl (by decide) c95) ?_
      refine am_e2 (v := 7) hi_148_68 rfl ?_
      refine cm_20f (r := 1) h82 hi_148_69 (h82.1.s (7, 6) (by decide)) (by decide) rfl ?_
      refine am_e0 hi_148_72 ?_
      refine am_e1 (v := v31) hi_148_74 rfl ?_
      refine am_e32n (as := [.ref 1, .int 9, .int v31]) (la := [some (.ref 1), some (.int 9), some (.int v31)]) (rest := []) hi_148_75 (am_hd0 (M := 148) (by decide) 75) (Nat.le_of_ble_eq_true rfl) (Nat.le_of_ble_eq_true rfl) (show 3 ≤ am_P0.2.2.1 76 from by decide +kernel) rfl (cl_recv (h82.1.s (1, 1) (by decide))) rfl rfl (ck_note (d := (d + 14)) h82   ) ?_
      rintro v113 S114 ⟨rfl, h116⟩
      obtain ⟨h118, h119, ⟨h120, h121, h122, h123⟩, ⟨h124, h125, h126⟩, h127, h128⟩ := h116
      have h129 : kd aw S114 = kd aw S64 := kd_eq h120 h123
      show am_E _ _ _ _ [some (.ref 7), some (.int z), some (.int v31), some (.int r34), some (.int 0)] [] _ _
      refine am_e2 (v := 7) hi_148_78 rfl ?_
      refine cm_20f (r := 12) h118 hi_148_79 (h118.1.s (7, 6) (by decide)) (by decide) rfl ?_
      refine am_e1 (v := 0) hi_148_82 rfl ?_
      refine am_e12t hi_148_84 (by decide) ?_
      refine am_e0 hi_148_92 ?_
      refine am_e32n (as := [.ref 12, .int 2]) (la := [some (.ref 12), some (.int 2), none]) (rest := []) hi_148_93 (am_hd0 (M := 148) (by decide) 93) (Nat.le_of_ble_eq_true rfl) (Nat.le_of_ble_eq_true rfl) (show 2 ≤ am_P0.2.2.1 141 from by decide +kernel) rfl (cl_recv (h118.1.s (12, 7) (by decide))) rfl rfl (ck_markLatest (d := (d + 13)) h118   ) ?_
      rintro v130 S131 ⟨rfl, h133⟩
      obtain ⟨h135, h136, ⟨h137, h138, h139, h140⟩, ⟨h141, h142, h143⟩, h144, h145⟩ := h133
      have h146 : kd aw S131 = kd aw S114 := kd_eq h137 h140
      show am_E _ _ _ _ [some (.ref 7), some (.int z), some (.int v31), some (.int r34), some (.int 0)] [] _ _
      refine am_e1 (v := 0) hi_148_96 rfl ?_
      refine am_e36 hi_148_98 (by decide) ?_
      exact ⟨0, rfl, (by decide), ⟨h135, ((((h20.trans h52).trans h83).trans h119).trans h136), ⟨(by show wr S131 = wr S; omega), (h140.trans (h123.trans (h87.trans (h56.trans h24))))⟩, ⟨(h141.trans (h124.trans (h88.trans (h57.trans h25)))), (h142.trans (h125.trans (h89.trans (h58.trans h26)))), (by show fl S131 = fl S; omega)⟩, (fun t ht => ((h144 t (h119.1 _ _ (h83.1 _ _ (h52.1 _ _ (h20.1 _ _ ht))))).trans ((h127 t (h83.1 _ _ (h52.1 _ _ (h20.1 _ _ ht)))).trans ((h91 t (h52.1 _ _ (h20.1 _ _ ht))).trans ((h60 t (h20.1 _ _ ht)).trans (h28 t ht)))))), (by show EN S131 ≤ EN S; omega)⟩, (by show nx S + 3 ≤ nx S131; omega), (by show nx S131 ≤ wr S131; omega), (by show lv S131 = lv S + 0; omega)⟩
  · refine am_e13f hi_148_38 (am_cF (m := r34.toInt) (n := (-3 : Int)) rfl (by decide) c94) ?_
    refine am_e0 hi_148_41 ?_
    refine am_e18 hi_148_42 ?_
    refine am_e3 (ls' := [some (.ref 7), some (.int z), some (.int v31), some (.int r34), some (.int 1)]) hi_148_46 (Nat.le_of_ble_eq_true rfl) rfl ?_
    refine am_e1 (v := 1) hi_148_48 rfl ?_
    refine am_e12f hi_148_50 (by decide) ?_
    refine am_e1 (v := z) hi_148_53 rfl ?_
    by_cases c147 : ¬ z.toInt = (0 : Int)
    · refine am_e12t hi_148_54 (am_cT (m := z.toInt) (n := (0 : Int)) rfl (by decide) c147) ?_
      refine am_e2 (v := 7) hi_148_68 rfl ?_
      refine cm_20f (r := 1) h82 hi_148_69 (h82.1.s (7, 6) (by decide)) (by decide) rfl ?_
      refine am_e0 hi_148_72 ?_
      refine am_e1 (v := v31) hi_148_74 rfl ?_
      refine am_e32n (as := [.ref 1, .int 9, .int v31]) (la := [some (.ref 1), some (.int 9), some (.int v31)]) (rest := []) hi_148_75 (am_hd0 (M := 148) (by decide) 75) (Nat.le_of_ble_eq_true rfl) (Nat.le_of_ble_eq_true rfl) (show 3 ≤ am_P0.2.2.1 76 from by decide +kernel) rfl (cl_recv (h82.1.s (1, 1) (by decide))) rfl rfl (ck_note (d := (d + 14)) h82   ) ?_
      rintro v148 S149 ⟨rfl, h151⟩
      obtain ⟨h153, h154, ⟨h155, h156, h157, h158⟩, ⟨h159, h160, h161⟩, h162, h163⟩ := h151
      have h164 : kd aw S149 = kd aw S64 := kd_eq h155 h158
      show am_E _ _ _ _ [some (.ref 7), some (.int z), some (.int v31), some (.int r34), some (.int 1)] [] _ _
      refine am_e2 (v := 7) hi_148_78 rfl ?_
      refine cm_20f (r := 12) h153 hi_148_79 (h153.1.s (7, 6) (by decide)) (by decide) rfl ?_
      refine am_e1 (v := 1) hi_148_82 rfl ?_
      refine am_e12f hi_148_84 (by decide) ?_
      refine am_e0 hi_148_87 ?_
      refine am_e18 hi_148_89 ?_
      refine am_e32n (as := [.ref 12, .int 6]) (la := [some (.ref 12), some (.int 6), none]) (rest := []) hi_148_93 (am_hd0 (M := 148) (by decide) 93) (Nat.le_of_ble_eq_true rfl) (Nat.le_of_ble_eq_true rfl) (show 2 ≤ am_P0.2.2.1 141 from by decide +kernel) rfl (cl_recv (h153.1.s (12, 7) (by decide))) rfl rfl (ck_markLatest (d := (d + 13)) h153   ) ?_
      rintro v165 S166 ⟨rfl, h168⟩
      obtain ⟨h170, h171, ⟨h172, h173, h174, h175⟩, ⟨h176, h177, h178⟩, h179, h180⟩ := h168
      have h181 : kd aw S166 = kd aw S149 := kd_eq h172 h175
      show am_E _ _ _ _ [some (.ref 7), some (.int z), some (.int v31), some (.int r34), some (.int 1)] [] _ _
      refine am_e1 (v := 1) hi_148_96 rfl ?_
      refine am_e36 hi_148_98 (by decide) ?_
      exact ⟨1, rfl, (by decide), ⟨h170, ((((h20.trans h52).trans h83).trans h154).trans h171), ⟨(by show wr S166 = wr S; omega), (h175.trans (h158.trans (h87.trans (h56.trans h24))))⟩, ⟨(h176.trans (h159.trans (h88.trans (h57.trans h25)))), (h177.trans (h160.trans (h89.trans (h58.trans h26)))), (by show fl S166 = fl S; omega)⟩, (fun t ht => ((h179 t (h154.1 _ _ (h83.1 _ _ (h52.1 _ _ (h20.1 _ _ ht))))).trans ((h162 t (h83.1 _ _ (h52.1 _ _ (h20.1 _ _ ht)))).trans ((h91 t (h52.1 _ _ (h20.1 _ _ ht))).trans ((h60 t (h20.1 _ _ ht)).trans (h28 t ht)))))), (by show EN S166 ≤ EN S; omega)⟩, (by show nx S + 3 ≤ nx S166; omega), (by show nx S166 ≤ wr S166; omega), (by show lv S166 = lv S + 0; omega)⟩
    · refine am_e12f hi_148_54 (am_cF (m := z.toInt) (n := (0 : Int)) rfl (by decide) c147) ?_
      refine am_e1 (v := 1) hi_148_57 rfl ?_
      refine am_e12t hi_148_59 (by decide) ?_
      refine am_e2 (v := 7) hi_148_78 rfl ?_
      refine cm_20f (r := 12) h82 hi_148_79 (h82.1.s (7, 6) (by decide)) (by decide) rfl ?_
      refine am_e1 (v := 1) hi_148_82 rfl ?_
      refine am_e12f hi_148_84 (by decide) ?_
      refine am_e0 hi_148_87 ?_
      refine am_e18 hi_148_89 ?_
      refine am_e32n (as := [.ref 12, .int 6]) (la := [some (.ref 12), some (.int 6), none]) (rest := []) hi_148_93 (am_hd0 (M := 148) (by decide) 93) (Nat.le_of_ble_eq_true rfl) (Nat.le_of_ble_eq_true rfl) (show 2 ≤ am_P0.2.2.1 141 from by decide +kernel) rfl (cl_recv (h82.1.s (12, 7) (by decide))) rfl rfl (ck_markLatest (d := (d + 13)) h82   ) ?_
      rintro v182 S183 ⟨rfl, h185⟩
      obtain ⟨h187, h188, ⟨h189, h190, h191, h192⟩, ⟨h193, h194, h195⟩, h196, h197⟩ := h185
      have h198 : kd aw S183 = kd aw S64 := kd_eq h189 h192
      show am_E _ _ _ _ [some (.ref 7), some (.int z), some (.int v31), some (.int r34), some (.int 1)] [] _ _
      refine am_e1 (v := 1) hi_148_96 rfl ?_
      refine am_e36 hi_148_98 (by decide) ?_
      exact ⟨1, rfl, (by decide), ⟨h187, (((h20.trans h52).trans h83).trans h188), ⟨(by show wr S183 = wr S; omega), (h192.trans (h87.trans (h56.trans h24)))⟩, ⟨(h193.trans (h88.trans (h57.trans h25))), (h194.trans (h89.trans (h58.trans h26))), (by show fl S183 = fl S; omega)⟩, (fun t ht => ((h196 t (h83.1 _ _ (h52.1 _ _ (h20.1 _ _ ht)))).trans ((h91 t (h52.1 _ _ (h20.1 _ _ ht))).trans ((h60 t (h20.1 _ _ ht)).trans (h28 t ht))))), (by show EN S183 ≤ EN S; omega)⟩, (by show nx S + 3 ≤ nx S183; omega), (by show nx S183 ≤ wr S183; omega), (by show lv S183 = lv S + 0; omega)⟩
theorem ck_fieldStep {sc : Nat × (Nat → Int32)} {d aw : Nat} {S : am_S} (h : SH aw S) (p0 : 0 ≤ nx S) (p1 : nx S ≤ wr S) (p2 : wr S ≤ 600) (p3 : 0 ≤ lv S) (p4 : lv S ≤ 48) (p5 : kd aw S = 70 ∨ kd aw S = 68) : am_E (am_PP sc) (d + 15) 110 0 [some (.ref 7), none] [] S (am_T (fun v S1 => ∃ r : Int32, v = some (.int r) ∧ Wd aw S S1 ∧ (nx S + 2 ≤ nx S1) ∧ (nx S1 ≤ wr S1) ∧ (lv S1 = lv S + 0)) (fun S1 => TH aw 134 S S1)) := by
  refine am_e2 (v := 7) hi_110_0 rfl ?_
  refine cm_20f (r := 2) h hi_110_1 (h.1.s (7, 6) (by decide)) (by decide) rfl ?_
  refine am_e32x (as := [.ref 2]) (la := [some (.ref 2)]) (rest := []) hi_110_4 (am_hd0 (M := 110) (by decide) 4) (Nat.le_of_ble_eq_true rfl) (Nat.le_of_ble_eq_true rfl) (show 1 ≤ am_P0.2.2.1 63 from by decide +kernel) rfl (cl_recv (h.1.s (2, 2) (by decide))) rfl rfl ?_
  refine am_e2 (v := 2) hi_63_0 rfl ?_
  refine cm_20i h hi_63_1 (h.1.s (2, 2) (by decide)) (by decide) rfl fun v1 hv1 => ?_
  have hv1_ : v1.toInt = nx S := hv1
  refine am_e33 hi_63_4 ?_
  show am_E _ _ _ _ [some (.ref 7), none] [.int v1] _ _
  refine am_e3 (ls' := [some (.ref 7), some (.int v1)]) hi_110_7 (Nat.le_of_ble_eq_true rfl) rfl ?_
  refine am_e2 (v := 7) hi_110_8 rfl ?_
  refine cm_20f (r := 2) h hi_110_9 (h.1.s (7, 6) (by decide)) (by decide) rfl ?_
  refine am_e32t (as := [.ref 2]) (la := [some (.ref 2), none]) (rest := []) hi_110_12 (am_hd0 (M := 110) (by decide) 12) (Nat.le_of_ble_eq_true rfl) (Nat.le_of_ble_eq_true rfl) (show 1 ≤ am_P0.2.2.1 55 from by decide +kernel) rfl (cl_recv (h.1.s (2, 2) (by decide))) rfl rfl (ck_skip (d := (d + 1)) h   (by show 0 ≤ nx S; omega) (by show nx S ≤ wr S; omega) (by show wr S ≤ 600; omega) (by show 0 ≤ lv S; omega) (by show lv S ≤ 48; omega) (by show kd aw S ≠ 0; omega)) (fun S18 h19 => (show TH aw 134 S S18 from ⟨h19.1, (Ex.refl S).trans h19.2.1, ⟨(by have q := h19.2.2.1.1; omega), h19.2.2.1.2.trans rfl⟩, h19.2.2.2.1, h19.2.2.2.2.1, (by have q := h19.2.2.2.2.2; omega)⟩)) ?_
  rintro v2 S3 ⟨r4, rfl, h5, h6, h7, h8, h9⟩
  have h6_ : nx S3 = nx S + 1 := h6
  have h7_ : lv S3 = lv S + c_dl (kd aw S) := h7
  have h8_ : lv S3 ≤ 48 := h8
  have h9_ : nx S3 ≤ wr S3 := h9
  obtain ⟨h20, h21, ⟨h24, h25⟩, ⟨h26, h27, h28⟩, h29, h30⟩ := h5
  have h31 : c_dl (kd aw S) = 0 := by unfold c_dl; split <;> split <;> omega
  show am_E _ _ _ _ [some (.ref 7), some (.int v1)] [.int r4] _ _
  refine am_e6i hi_110_15 ?_
  refine am_e2 (v := 7) hi_110_16 rfl ?_
  refine am_e2 (v := 7) hi_110_17 rfl ?_
  refine cm_20f (r := 2) h20 hi_110_18 (h20.1.s (7, 6) (by decide)) (by decide) rfl ?_
  refine am_e0 hi_110_21 ?_
  refine am_e32t (as := [.ref 2, .int 1]) (la := [some (.ref 2), some (.int 1)]) (rest := [.ref 7]) hi_110_22 (am_hd0 (M := 110) (by decide) 22) (Nat.le_of_ble_eq_true rfl) (Nat.le_of_ble_eq_true rfl) (show 2 ≤ am_P0.2.2.1 64 from by decide +kernel) rfl (cl_recv (h20.1.s (2, 2) (by decide))) rfl rfl (ck_take (d := d) h20   (by show 0 ≤ nx S3; omega) (by show nx S3 ≤ wr S3; omega) (by show wr S3 ≤ 600; omega) (by show 0 ≤ lv S3; omega) (by show lv S3 ≤ 48; omega) (by show ¬ (1 : Int) = 0; omega)) (fun S49 h50 => (show TH aw 134 S S49 from ⟨h50.1, h21.trans h50.2.1, ⟨(by have q := h50.2.2.1.1; omega), h50.2.2.1.2.trans h25⟩, h50.2.2.2.1, h50.2.2.2.2.1, (by have q := h50.2.2.2.2.2; omega)⟩)) ?_
  rintro v32 S33 ⟨r34, rfl, h35, h36, h37, h38, h39, h40⟩
  have h36_ : kd aw S3 = (1 : Int) := h36
  have h37_ : nx S33 = nx S3 + 1 := h37
  have h38_ : lv S33 = lv S3 + c_dl (kd aw S3) := h38
  have h39_ : lv S33 ≤ 48 := h39
  have h40_ : nx S33 ≤ wr S33 := h40
  obtain ⟨h51, h52, ⟨h55, h56⟩, ⟨h57, h58, h59⟩, h60, h61⟩ := h35
  have h62 : c_dl (kd aw S3) = 0 := by unfold c_dl; split <;> split <;> omega
  show am_E _ _ _ _ [some (.ref 7), some (.int v1)] [.int r34, .ref 7] _ _
  refine cm_21 (v := .int r34) h51 hi_110_25 (h51.1.s (7, 6) (by decide)) (by decide) (by decide) rfl ⟨_, rfl⟩ rfl fun S63 h64 => ?_
  obtain ⟨h65, h66, ⟨h67, h68, h69, h70⟩, ⟨h71, h72, h73⟩, h74, h75⟩ := h64
  have h76 : kd aw S63 = kd aw S33 := kd_eq h67 h70
  refine am_e2 (v := 7) hi_110_28 rfl ?_
  refine am_e1 (v := v1) hi_110_29 rfl ?_
  refine cm_21 (v := .int v1) h65 hi_110_30 (h65.1.s (7, 6) (by decide)) (by decide) (by decide) rfl ⟨_, rfl⟩ rfl fun S77 h78 => ?_
  obtain ⟨h79, h80, ⟨h81, h82, h83, h84⟩, ⟨h85, h86, h87⟩, h88, h89⟩ := h78
  have h90 : kd aw S77 = kd aw S63 := kd_eq h81 h84
  refine am_e0 hi_110_33 ?_
  refine am_e33 hi_110_34 ?_
  exact ⟨2, rfl, ⟨h79, (((h21.trans h52).trans h66).trans h80), ⟨(by show wr S77 = wr S; omega), (h84.trans (h70.trans (h56.trans h25)))⟩, ⟨(h85.trans (h71.trans (h57.trans h26))), (h86.trans (h72.trans (h58.trans h27))), (by show fl S77 = fl S; omega)⟩, (fun t ht => ((h88 t (h66.1 _ _ (h52.1 _ _ (h21.1 _ _ ht)))).trans ((h74 t (h52.1 _ _ (h21.1 _ _ ht))).trans ((h60 t (h21.1 _ _ ht)).trans (h29 t ht))))), (by show EN S77 ≤ EN S; omega)⟩, (by show nx S + 2 ≤ nx S77; omega), (by show nx S77 ≤ wr S77; omega), (by show lv S77 = lv S + 0; omega)⟩
theorem ck_nameAlone {sc : Nat × (Nat → Int32)} {d aw : Nat} {S : am_S} (h : SH aw S) (p0 : 0 ≤ nx S) (p1 : nx S ≤ wr S) (p2 : wr S ≤ 600) (p3 : 0 ≤ lv S) (p4 : lv S ≤ 48) (p5 : iv S 13 1 ≤ 49) (p6 : 0 ≤ iv S 13 1) : am_E (am_PP sc) (d + 15) 62 0 [some (.ref 7)] [] S (am_T (fun v S1 => ∃ r : Int32, v = some (.int r) ∧ Wv aw S S1 ∧ (nx S + 1 ≤ nx S1) ∧ (nx S1 ≤ wr S1) ∧ (lv S1 = lv S + 0) ∧ (EN S1 + -10000 * nx S1 ≤ EN S + -10000 * nx S + (-2160)) ∧ (iv S1 8 1 = iv S 8 1) ∧ (iv S1 10 1 = iv S 10 1) ∧ (iv S1 14 1 = iv S 14 1)) (fun S1 => TH aw 134 S S1)) := by
  refine am_e2 (v := 7) hi_62_0 rfl ?_
  refine am_e2 (v := 7) hi_62_1 rfl ?_
  refine cm_20f (r := 2) h hi_62_2 (h.1.s (7, 6) (by decide)) (by decide) rfl ?_
  refine am_e32x (as := [.ref 2]) (la := [some (.ref 2)]) (rest := [.ref 7]) hi_62_5 (am_hd0 (M := 62) (by decide) 5) (Nat.le_of_ble_eq_true rfl) (Nat.le_of_ble_eq_true rfl) (show 1 ≤ am_P0.2.2.1 63 from by decide +kernel) rfl (cl_recv (h.1.s (2, 2) (by decide))) rfl rfl ?_
  refine am_e2 (v := 2) hi_63_0 rfl ?_
  refine cm_20i h hi_63_1 (h.1.s (2, 2) (by decide)) (by decide) rfl fun v1 hv1 => ?_
  have hv1_ : v1.toInt = nx S := hv1
  refine am_e33 hi_63_4 ?_
  show am_E _ _ _ _ [some (.ref 7)] [.int v1, .ref 7] _ _
  refine cm_21 (v := .int v1) h hi_62_8 (h.1.s (7, 6) (by decide)) (by decide) (by decide) rfl ⟨_, rfl⟩ rfl fun S2 h3 => ?_
  obtain ⟨h4, h5, ⟨h6, h7, h8, h9⟩, ⟨h10, h11, h12⟩, h13, h14⟩ := h3
  have h15 : kd aw S2 = kd aw S := kd_eq h6 h9
  have h16 := h13 8 (h.1.s (8, 3) (by decide))
  have h17 := h13 10 (h.1.s (10, 3) (by decide))
  have h18 := h13 14 (h.1.s (14, 3) (by decide))
  have h19 := os_13 h10 1
  refine am_e2 (v := 7) hi_62_11 rfl ?_
  refine cm_20f (r := 12) h4 hi_62_12 (h4.1.s (7, 6) (by decide)) (by decide) rfl ?_
  refine am_e2 (v := 7) hi_62_15 rfl ?_
  refine cm_20f (r := 2) h4 hi_62_16 (h4.1.s (7, 6) (by decide)) (by decide) rfl ?_
  refine am_e0 hi_62_19 ?_
  refine am_e32t (as := [.ref 2, .int 1]) (la := [some (.ref 2), some (.int 1)]) (rest := [.ref 12]) hi_62_20 (am_hd0 (M := 62) (by decide) 20) (Nat.le_of_ble_eq_true rfl) (Nat.le_of_ble_eq_true rfl) (show 2 ≤ am_P0.2.2.1 64 from by decide +kernel) rfl (cl_recv (h4.1.s (2, 2) (by decide))) rfl rfl (ck_take (d := d) h4   (by show 0 ≤ nx S2; omega) (by show nx S2 ≤ wr S2; omega) (by show wr S2 ≤ 600; omega) (by show 0 ≤ lv S2; omega) (by show lv S2 ≤ 48; omega) (by show ¬ (1 : Int) = 0; omega)) (fun S37 h38 => (show TH aw 134 S S37 from ⟨h38.1, h5.trans h38.2.1, ⟨(by have q := h38.2.2.1.1; omega), h38.2.2.1.2.trans h9⟩, h38.2.2.2.1, h38.2.2.2.2.1, (by have q := h38.2.2.2.2.2; omega)⟩)) ?_
  rintro v20 S21 ⟨r22, rfl, h23, h24, h25, h26, h27, h28⟩
  have h24_ : kd aw S2 = (1 : Int) := h24
  have h25_ : nx S21 = nx S2 + 1 := h25
  have h26_ : lv S21 = lv S2 + c_dl (kd aw S2) := h26
  have h27_ : lv S21 ≤ 48 := h27
  have h28_ : nx S21 ≤ wr S21 := h28
  obtain ⟨h39, h40, ⟨h43, h44⟩, ⟨h45, h46, h47⟩, h48, h49⟩ := h23
  have h50 := h48 8 (h4.1.s (8, 3) (by decide))
  have h51 := h48 10 (h4.1.s (10, 3) (by decide))
  have h52 := h48 14 (h4.1.s (14, 3) (by decide))
  have h53 := os_13 h45 1
  have h54 : c_dl (kd aw S2) = 0 := by unfold c_dl; split <;> split <;> omega
  show am_E _ _ _ _ [some (.ref 7)] [.int r22, .ref 12] _ _
  refine am_e32n (as := [.ref 12, .int r22]) (la := [some (.ref 12), some (.int r22), none]) (rest := []) hi_62_23 (am_hd0 (M := 62) (by decide) 23) (Nat.le_of_ble_eq_true rfl) (Nat.le_of_ble_eq_true rfl) (show 2 ≤ am_P0.2.2.1 66 from by decide +kernel) rfl (cl_recv (h39.1.s (12, 7) (by decide))) rfl rfl (ck_find (d := (d + 9)) h39   (by show iv S21 13 1 ≤ 49; omega) (by show 0 ≤ iv S21 13 1; omega)) ?_
  rintro v55 S56 ⟨rfl, h58, h59, h60, h61⟩
  have h59_ : iv S56 8 1 = iv S21 8 1 := h59
  have h60_ : iv S56 10 1 = iv S21 10 1 := h60
  have h61_ : iv S56 14 1 = iv S21 14 1 := h61
  obtain ⟨h63, h64, ⟨h65, h66, h67, h68⟩, ⟨h69, h70, h71⟩, h73⟩ := h58
  have h74 : kd aw S56 = kd aw S21 := kd_eq h65 h68
  have h75 := os_13 h69 1
  show am_E _ _ _ _ [some (.ref 7)] [] _ _
  refine am_e0 hi_62_26 ?_
  refine am_e33 hi_62_27 ?_
  exact ⟨1, rfl, ⟨h63, ((h5.trans h40).trans h64), ⟨(by show wr S56 = wr S; omega), (h68.trans (h44.trans h9))⟩, ⟨(h69.trans (h45.trans h10)), (h70.trans (h46.trans h11)), (by show fl S56 = fl S; omega)⟩⟩, (by show nx S + 1 ≤ nx S56; omega), (by show nx S56 ≤ wr S56; omega), (by show lv S56 = lv S + 0; omega), (by show EN S56 + -10000 * nx S56 ≤ EN S + -10000 * nx S + (-2160); omega), (by show iv S56 8 1 = iv S 8 1; omega), (by show iv S56 10 1 = iv S 10 1; omega), (by show iv S56 14 1 = iv S 14 1; omega)⟩
theorem cf_bodyNames {sc : Nat × (Nat → Int32)} {d aw : Nat} {Sb : am_S} {b : Nat} {Q : Option (Option Value) → am_S → Prop} (h : SH aw Sb) (hc_b : cl (am_fs Sb) b = some 8) (p0 : 0 ≤ nx Sb) (p1 : nx Sb ≤ wr Sb) (p2 : wr Sb ≤ 600) (p3 : 0 ≤ lv Sb) (p4 : lv Sb ≤ 48) (hq : ∀ S1, TH aw 700 Sb S1 → Q none S1) (hx0 : ∀ (S : am_S) (x4 : Option Value) (m n : Int32), Wv aw Sb S → (m = 0 ∨ m = 1) → (nx Sb + 0 ≤ nx S) → (nx S ≤ wr S) → (lv S = lv Sb + 0) → (EN S + -10000 * nx S ≤ EN Sb + -10000 * nx Sb + 0) → (iv S 8 1 = iv Sb 8 1) → (iv S 10 1 = iv Sb 10 1) → am_E (am_PP sc) (d + 15) 77 124 [some (.ref 7), some (.ref b), some (.int m), some (.int n), x4] [] S Q) : ∀ (N : Nat) (S : am_S) (x4 : Option Value) (m n : Int32), Wv aw Sb S → (m = 0 ∨ m = 1) → (nx Sb + 0 ≤ nx S) → (nx S ≤ wr S) → (lv S = lv Sb + 0) → (EN S + -10000 * nx S ≤ EN Sb + -10000 * nx Sb + 0) → (iv S 8 1 = iv Sb 8 1) → (iv S 10 1 = iv Sb 10 1) → 2147483647 - n.toInt < (N : Int) → am_E (am_PP sc) (d + 15) 77 20 [some (.ref 7), some (.ref b), some (.int m), some (.int n), x4] [] S Q := by
  intro N
  induction N with
  | zero =>
    intro S x4 m n hrel hB_m i0 i1 i2 i3 i4 i5 hN
    have := i32_le m
    have := i32_le n
    have := i32_ge m
    have := i32_ge n
    exfalso
    omega
  | succ N ih =>
    intro S x4 m n hrel hB_m i0 i1 i2 i3 i4 i5 hN
    have hB_m_ : m.toInt = 0 ∨ m.toInt = 1 := hB_m.elim (fun e => Or.inl (by rw [e]; rfl)) (fun e => Or.inr (by rw [e]; rfl))
    have hl_m := i32_le m
    have hg_m := i32_ge m
    have hl_n := i32_le n
    have hg_n := i32_ge n
    obtain ⟨h1, h2, ⟨h3, h4⟩, ⟨h5, h6, h7⟩⟩ := hrel
    have hk8 := h2.1 _ _ hc_b
    refine am_e1 (v := m) hi_77_20 rfl ?_
    by_cases c9 : m.toInt = (0 : Int)
    · refine am_e12t hi_77_21 (am_cT (m := m.toInt) (n := (0 : Int)) rfl (by decide) c9) ?_
      exact hx0 _ x4 m n ⟨h1, h2, ⟨(by show wr S = wr Sb; omega), h4⟩, ⟨h5, h6, (by show fl S = fl Sb; omega)⟩⟩ hB_m (by show nx Sb + 0 ≤ nx S; omega) (by show nx S ≤ wr S; omega) (by show lv S = lv Sb + 0; omega) (by show EN S + -10000 * nx S ≤ EN Sb + -10000 * nx Sb + 0; omega) (by show iv S 8 1 = iv Sb 8 1; omega) (by show iv S 10 1 = iv Sb 10 1; omega)
    · refine am_e12f hi_77_21 (am_cF (m := m.toInt) (n := (0 : Int)) rfl (by decide) c9) ?_
      refine am_e1 (v := n) hi_77_24 rfl ?_
      refine am_e0 hi_77_25 ?_
      by_cases c10 : (16384 : Int) < n.toInt
      · refine am_e13t hi_77_28 (am_cT (m := n.toInt) (n := (16384 : Int)) rfl (by decide) c10) ?_
        exact hx0 _ x4 m n ⟨h1, h2, ⟨(by show wr S = wr Sb; omega), h4⟩, ⟨h5, h6, (by show fl S = fl Sb; omega)⟩⟩ hB_m (by show nx Sb + 0 ≤ nx S; omega) (by show nx S ≤ wr S; omega) (by show lv S = lv Sb + 0; omega) (by show EN S + -10000 * nx S ≤ EN Sb + -10000 * nx Sb + 0; omega) (by show iv S 8 1 = iv Sb 8 1; omega) (by show iv S 10 1 = iv Sb 10 1; omega)
      · refine am_e13f hi_77_28 (am_cF (m := n.toInt) (n := (16384 : Int)) rfl (by decide) c10) ?_
        refine am_e0 hi_77_31 ?_
        refine am_e3 (ls' := [some (.ref 7), some (.ref b), some (.int 0), some (.int n), x4]) hi_77_32 (Nat.le_of_ble_eq_true rfl) rfl ?_
        refine am_e2 (v := 7) hi_77_33 rfl ?_
        refine cm_20f (r := 2) h1 hi_77_34 (h1.1.s (7, 6) (by decide)) (by decide) rfl ?_
        refine am_e32n (as := [.ref 2]) (la := [some (.ref 2)]) (rest := []) hi_77_37 (am_hd0 (M := 77) (by decide) 37) (Nat.le_of_ble_eq_true rfl) (Nat.le_of_ble_eq_true rfl) (show 1 ≤ am_P0.2.2.1 53 from by decide +kernel) rfl (cl_recv (h1.1.s (2, 2) (by decide))) rfl rfl (ck_kind (d := (d + 13)) h1   ) ?_
        rintro v11 S12 ⟨r13, rfl, rfl, h15⟩
        have h15_ : r13.toInt = kd aw S := h15
        show am_E _ _ _ _ [some (.ref 7), some (.ref b), some (.int 0), some (.int n), x4] [.int r13] _ _
        refine am_e0 hi_77_40 ?_
        by_cases c17 : ¬ r13.toInt = (72 : Int)
        · refine am_e13t hi_77_42 (am_cT (m := r13.toInt) (n := (72 : Int)) rfl (by decide) c17) ?_
          refine am_e2 (v := 7) hi_77_61 rfl ?_
          refine cm_20f (r := 2) h1 hi_77_62 (h1.1.s (7, 6) (by decide)) (by decide) rfl ?_
          refine am_e32x (as := [.ref 2]) (la := [some (.ref 2)]) (rest := []) hi_77_65 (am_hd0 (M := 77) (by decide) 65) (Nat.le_of_ble_eq_true rfl) (Nat.le_of_ble_eq_true rfl) (show 1 ≤ am_P0.2.2.1 63 from by decide +kernel) rfl (cl_recv (h1.1.s (2, 2) (by decide))) rfl rfl ?_
          refine am_e2 (v := 2) hi_63_0 rfl ?_
          refine cm_20i h1 hi_63_1 (h1.1.s (2, 2) (by decide)) (by decide) rfl fun v18 hv18 => ?_
          have hv18_ : v18.toInt = nx S := hv18
          refine am_e33 hi_63_4 ?_
          show am_E _ _ _ _ [some (.ref 7), some (.ref b), some (.int 0), some (.int n), x4] [.int v18] _ _
          refine am_e3 (ls' := [some (.ref 7), some (.ref b), some (.int 0), some (.int n), some (.int v18)]) hi_77_68 (Nat.le_of_ble_eq_true rfl) rfl ?_
          refine am_e2 (v := 7) hi_77_70 rfl ?_
          refine cm_20f (r := 12) h1 hi_77_71 (h1.1.s (7, 6) (by decide)) (by decide) rfl ?_
          refine am_e2 (v := 7) hi_77_74 rfl ?_
          refine cm_20f (r := 2) h1 hi_77_75 (h1.1.s (7, 6) (by decide)) (by decide) rfl ?_
          refine am_e0 hi_77_78 ?_
          refine am_e32t (as := [.ref 2, .int 1]) (la := [some (.ref 2), some (.int 1)]) (rest := [.ref 12]) hi_77_79 (am_hd0 (M := 77) (by decide) 79) (Nat.le_of_ble_eq_true rfl) (Nat.le_of_ble_eq_true rfl) (show 2 ≤ am_P0.2.2.1 64 from by decide +kernel) rfl (cl_recv (h1.1.s (2, 2) (by decide))) rfl rfl (ck_take (d := d) h1   (by show 0 ≤ nx S; omega) (by show nx S ≤ wr S; omega) (by show wr S ≤ 600; omega) (by show 0 ≤ lv S; omega) (by show lv S ≤ 48; omega) (by show ¬ (1 : Int) = 0; omega)) (fun S36 h37 => hq S36 (show TH aw 700 Sb S36 from ⟨h37.1, h2.trans h37.2.1, ⟨(by have q := h37.2.2.1.1; omega), h37.2.2.1.2.trans h4⟩, h37.2.2.2.1, h37.2.2.2.2.1, (by have q := h37.2.2.2.2.2; omega)⟩)) ?_
          rintro v19 S20 ⟨r21, rfl, h22, h23, h24, h25, h26, h27⟩
          have h23_ : kd aw S = (1 : Int) := h23
          have h24_ : nx S20 = nx S + 1 := h24
          have h25_ : lv S20 = lv S + c_dl (kd aw S) := h25
          have h26_ : lv S20 ≤ 48 := h26
          have h27_ : nx S20 ≤ wr S20 := h27
          obtain ⟨h38, h39, ⟨h42, h43⟩, ⟨h44, h45, h46⟩, h47, h48⟩ := h22
          have h49 := h47 8 (h1.1.s (8, 3) (by decide))
          have h50 := h47 10 (h1.1.s (10, 3) (by decide))
          have hk51 := h39.1 _ _ hk8
          have h52 : c_dl (kd aw S) = 0 := by unfold c_dl; split <;> split <;> omega
          show am_E _ _ _ _ [some (.ref 7), some (.ref b), some (.int 0), some (.int n), some (.int v18)] [.int r21, .ref 12] _ _
          refine am_e0 hi_77_82 ?_
          refine am_e1 (v := v18) hi_77_83 rfl ?_
          refine am_e32n (as := [.ref 12, .int r21, .int 1, .int v18]) (la := [some (.ref 12), some (.int r21), some (.int 1), some (.int v18)]) (rest := []) hi_77_85 (am_hd0 (M := 77) (by decide) 85) (Nat.le_of_ble_eq_true rfl) (Nat.le_of_ble_eq_true rfl) (show 4 ≤ am_P0.2.2.1 74 from by decide +kernel) rfl (cl_recv (h38.1.s (12, 7) (by decide))) rfl rfl (ck_declare (d := (d + 11)) h38   ) ?_
          rintro v53 S54 ⟨rfl, h56, h57, h58, h59, h60⟩
          have h57_ : iv S54 14 1 ≤ iv S20 14 1 + 1 := h57
          have h58_ : iv S20 14 1 ≤ iv S54 14 1 := h58
          have h59_ : iv S54 8 1 = iv S20 8 1 := h59
          have h60_ : iv S54 10 1 = iv S20 10 1 := h60
          obtain ⟨h62, h63, ⟨h64, h65, h66, h67⟩, ⟨h68, h69, h70⟩, h72⟩ := h56
          have h73 : kd aw S54 = kd aw S20 := kd_eq h64 h67
          have hk74 := h63.1 _ _ hk51
          show am_E _ _ _ _ [some (.ref 7), some (.ref b), some (.int 0), some (.int n), some (.int v18)] [] _ _
          refine am_e2 (v := 7) hi_77_88 rfl ?_
          refine cm_20f (r := 2) h62 hi_77_89 (h62.1.s (7, 6) (by decide)) (by decide) rfl ?_
          refine am_e32n (as := [.ref 2]) (la := [some (.ref 2)]) (rest := []) hi_77_92 (am_hd0 (M := 77) (by decide) 92) (Nat.le_of_ble_eq_true rfl) (Nat.le_of_ble_eq_true rfl) (show 1 ≤ am_P0.2.2.1 53 from by decide +kernel) rfl (cl_recv (h62.1.s (2, 2) (by decide))) rfl rfl (ck_kind (d := (d + 13)) h62   ) ?_
          rintro v75 S76 ⟨r77, rfl, rfl, h79⟩
          have h79_ : r77.toInt = kd aw S54 := h79
          show am_E _ _ _ _ [some (.ref 7), some (.ref b), some (.int 0), some (.int n), some (.int v18)] [.int r77] _ _
          refine am_e0 hi_77_95 ?_
          by_cases c81 : ¬ r77.toInt = (69 : Int)
          · refine am_e13t hi_77_97 (am_cT (m := r77.toInt) (n := (69 : Int)) rfl (by decide) c81) ?_
            refine am_e0 hi_77_104 ?_
            refine am_e3 (ls' := [some (.ref 7), some (.ref b), some (.int 0), some (.int n), some (.int v18)]) hi_77_105 (Nat.le_of_ble_eq_true rfl) rfl ?_
            refine am_e1 (v := 0) hi_77_106 rfl ?_
            refine am_e12t hi_77_107 (by decide) ?_
            obtain ⟨z82, hz82, tz82⟩ := am_addI (x := n) (y := 1) (m := n.toInt) (n := (1 : Int)) rfl (by decide) (by omega) (by omega)
            refine am_e5 (v := n) (z := z82) (ls' := [some (.ref 7), some (.ref b), some (.int 0), some (.int z82), some (.int v18)]) hi_77_118 rfl hz82 rfl ?_
            refine am_e18 hi_77_121 ?_
            exact ih _ (some (.int v18)) 0 z82 ⟨h62, ((h2.trans h39).trans h63), ⟨(by show wr S54 = wr Sb; omega), (h67.trans (h43.trans h4))⟩, ⟨(h68.trans (h44.trans h5)), (h69.trans (h45.trans h6)), (by show fl S54 = fl Sb; omega)⟩⟩ (by decide) (by show nx Sb + 0 ≤ nx S54; omega) (by show nx S54 ≤ wr S54; omega) (by show lv S54 = lv Sb + 0; omega) (by show EN S54 + -10000 * nx S54 ≤ EN Sb + -10000 * nx Sb + 0; omega) (by show iv S54 8 1 = iv Sb 8 1; omega) (by show iv S54 10 1 = iv Sb 10 1; omega) (by show 2147483647 - z82.toInt < (N : Int); omega)
          · refine am_e13f hi_77_97 (am_cF (m := r77.toInt) (n := (69 : Int)) rfl (by decide) c81) ?_
            refine am_e0 hi_77_100 ?_
            refine am_e18 hi_77_101 ?_
            refine am_e3 (ls' := [some (.ref 7), some (.ref b), some (.int 1), some (.int n), some (.int v18)]) hi_77_105 (Nat.le_of_ble_eq_true rfl) rfl ?_
            refine am_e1 (v := 1) hi_77_106 rfl ?_
            refine am_e12f hi_77_107 (by decide) ?_
            refine am_e2 (v := 7) hi_77_110 rfl ?_
            refine cm_20f (r := 2) h62 hi_77_111 (h62.1.s (7, 6) (by decide)) (by decide) rfl ?_
            refine am_e32t (as := [.ref 2]) (la := [some (.ref 2), none]) (rest := []) hi_77_114 (am_hd0 (M := 77) (by decide) 114) (Nat.le_of_ble_eq_true rfl) (Nat.le_of_ble_eq_true rfl) (show 1 ≤ am_P0.2.2.1 55 from by decide +kernel) rfl (cl_recv (h62.1.s (2, 2) (by decide))) rfl rfl (ck_skip (d := (d + 1)) h62   (by show 0 ≤ nx S54; omega) (by show nx S54 ≤ wr S54; omega) (by show wr S54 ≤ 600; omega) (by show 0 ≤ lv S54; omega) (by show lv S54 ≤ 48; omega) (by show kd aw S54 ≠ 0; omega)) (fun S99 h100 => hq S99 (show TH aw 700 Sb S99 from ⟨h100.1, ((h2.trans h39).trans h63).trans h100.2.1, ⟨(by have q := h100.2.2.1.1; omega), h100.2.2.1.2.trans (h67.trans (h43.trans h4))⟩, h100.2.2.2.1, h100.2.2.2.2.1, (by have q := h100.2.2.2.2.2; omega)⟩)) ?_
            rintro v83 S84 ⟨r85, rfl, h86, h87, h88, h89, h90⟩
            have h87_ : nx S84 = nx S54 + 1 := h87
            have h88_ : lv S84 = lv S54 + c_dl (kd aw S54) := h88
            have h89_ : lv S84 ≤ 48 := h89
            have h90_ : nx S84 ≤ wr S84 := h90
            obtain ⟨h101, h102, ⟨h105, h106⟩, ⟨h107, h108, h109⟩, h110, h111⟩ := h86
            have h112 := h110 8 (h62.1.s (8, 3) (by decide))
            have h113 := h110 10 (h62.1.s (10, 3) (by decide))
            have hk114 := h102.1 _ _ hk74
            have h115 : c_dl (kd aw S54) = 0 := by unfold c_dl; split <;> split <;> omega
            show am_E _ _ _ _ [some (.ref 7), some (.ref b), some (.int 1), some (.int n), some (.int v18)] [.int r85] _ _
            refine am_e6i hi_77_117 ?_
            obtain ⟨z116, hz116, tz116⟩ := am_addI (x := n) (y := 1) (m := n.toInt) (n := (1 : Int)) rfl (by decide) (by omega) (by omega)
            refine am_e5 (v := n) (z := z116) (ls' := [some (.ref 7), some (.ref b), some (.int 1), some (.int z116), some (.int v18)]) hi_77_118 rfl hz116 rfl ?_
            refine am_e18 hi_77_121 ?_
            exact ih _ (some (.int v18)) 1 z116 ⟨h101, (((h2.trans h39).trans h63).trans h102), ⟨(by show wr S84 = wr Sb; omega), (h106.trans (h67.trans (h43.trans h4)))⟩, ⟨(h107.trans (h68.trans (h44.trans h5))), (h108.trans (h69.trans (h45.trans h6))), (by show fl S84 = fl Sb; omega)⟩⟩ (by decide) (by show nx Sb + 0 ≤ nx S84; omega) (by show nx S84 ≤ wr S84; omega) (by show lv S84 = lv Sb + 0; omega) (by show EN S84 + -10000 * nx S84 ≤ EN Sb + -10000 * nx Sb + 0; omega) (by show iv S84 8 1 = iv Sb 8 1; omega) (by show iv S84 10 1 = iv Sb 10 1; omega) (by show 2147483647 - z116.toInt < (N : Int); omega)
        · refine am_e13f hi_77_42 (am_cF (m := r13.toInt) (n := (72 : Int)) rfl (by decide) c17) ?_
          refine am_e2 (v := 7) hi_77_45 rfl ?_
          refine cm_20f (r := 2) h1 hi_77_46 (h1.1.s (7, 6) (by decide)) (by decide) rfl ?_
          refine am_e32t (as := [.ref 2]) (la := [some (.ref 2), none]) (rest := []) hi_77_49 (am_hd0 (M := 77) (by decide) 49) (Nat.le_of_ble_eq_true rfl) (Nat.le_of_ble_eq_true rfl) (show 1 ≤ am_P0.2.2.1 55 from by decide +kernel) rfl (cl_recv (h1.1.s (2, 2) (by decide))) rfl rfl (ck_skip (d := (d + 1)) h1   (by show 0 ≤ nx S; omega) (by show nx S ≤ wr S; omega) (by show wr S ≤ 600; omega) (by show 0 ≤ lv S; omega) (by show lv S ≤ 48; omega) (by show kd aw S ≠ 0; omega)) (fun S133 h134 => hq S133 (show TH aw 700 Sb S133 from ⟨h134.1, h2.trans h134.2.1, ⟨(by have q := h134.2.2.1.1; omega), h134.2.2.1.2.trans h4⟩, h134.2.2.2.1, h134.2.2.2.2.1, (by have q := h134.2.2.2.2.2; omega)⟩)) ?_
          rintro v117 S118 ⟨r119, rfl, h120, h121, h122, h123, h124⟩
          have h121_ : nx S118 = nx S + 1 := h121
          have h122_ : lv S118 = lv S + c_dl (kd aw S) := h122
          have h123_ : lv S118 ≤ 48 := h123
          have h124_ : nx S118 ≤ wr S118 := h124
          obtain ⟨h135, h136, ⟨h139, h140⟩, ⟨h141, h142, h143⟩, h144, h145⟩ := h120
          have h146 := h144 8 (h1.1.s (8, 3) (by decide))
          have h147 := h144 10 (h1.1.s (10, 3) (by decide))
          have hk148 := h136.1 _ _ hk8
          have h149 : c_dl (kd aw S) = 0 := by unfold c_dl; split <;> split <;> omega
          show am_E _ _ _ _ [some (.ref 7), some (.ref b), some (.int 0), some (.int n), x4] [.int r119] _ _
          refine am_e6i hi_77_52 ?_
          refine am_e2 (v := b) hi_77_53 rfl ?_
          refine am_e0 hi_77_54 ?_
          refine cm_21 (v := .int 1) h135 hi_77_55 hk148 (by decide) (by decide) rfl ⟨_, rfl⟩ rfl fun S150 h151 => ?_
          obtain ⟨h152, h153, ⟨h154, h155, h156, h157⟩, ⟨h158, h159, h160⟩, h161, h162⟩ := h151
          have h163 : kd aw S150 = kd aw S118 := kd_eq h154 h157
          have h164 := h161 8 (h135.1.s (8, 3) (by decide))
          have h165 := h161 10 (h135.1.s (10, 3) (by decide))
          have hk166 := h153.1 _ _ hk148
          refine am_e18 hi_77_58 ?_
          refine am_e1 (v := 0) hi_77_106 rfl ?_
          refine am_e12t hi_77_107 (by decide) ?_
          obtain ⟨z167, hz167, tz167⟩ := am_addI (x := n) (y := 1) (m := n.toInt) (n := (1 : Int)) rfl (by decide) (by omega) (by omega)
          refine am_e5 (v := n) (z := z167) (ls' := [some (.ref 7), some (.ref b), some (.int 0), some (.int z167), x4]) hi_77_118 rfl hz167 rfl ?_
          refine am_e18 hi_77_121 ?_
          exact ih _ x4 0 z167 ⟨h152, ((h2.trans h136).trans h153), ⟨(by show wr S150 = wr Sb; omega), (h157.trans (h140.trans h4))⟩, ⟨(h158.trans (h141.trans h5)), (h159.trans (h142.trans h6)), (by show fl S150 = fl Sb; omega)⟩⟩ (by decide) (by show nx Sb + 0 ≤ nx S150; omega) (by show nx S150 ≤ wr S150; omega) (by show lv S150 = lv Sb + 0; omega) (by show EN S150 + -10000 * nx S150 ≤ EN Sb + -10000 * nx Sb + 0; omega) (by show iv S150 8 1 = iv Sb 8 1; omega) (by show iv S150 10 1 = iv Sb 10 1; omega) (by show 2147483647 - z167.toInt < (N : Int); omega)
theorem ck_bodyNames {sc : Nat × (Nat → Int32)} {d aw : Nat} {S : am_S} {b : Nat} (h : SH aw S) (hc_b : cl (am_fs S) b = some 8) (p0 : 0 ≤ nx S) (p1 : nx S ≤ wr S) (p2 : wr S ≤ 600) (p3 : 0 ≤ lv S) (p4 : lv S ≤ 48) : am_E (am_PP sc) (d + 15) 77 0 [some (.ref 7), some (.ref b), none, none, none] [] S (am_T (fun v S1 => v = none ∧ Wv aw S S1 ∧ (nx S + 0 ≤ nx S1) ∧ (nx S1 ≤ wr S1) ∧ (lv S1 = lv S + 0) ∧ (EN S1 + -10000 * nx S1 ≤ EN S + -10000 * nx S + 0) ∧ (iv S1 8 1 = iv S 8 1) ∧ (iv S1 10 1 = iv S 10 1)) (fun S1 => TH aw 700 S S1)) := by
  refine am_e2 (v := 7) hi_77_0 rfl ?_
  refine cm_20f (r := 2) h hi_77_1 (h.1.s (7, 6) (by decide)) (by decide) rfl ?_
  refine am_e32n (as := [.ref 2]) (la := [some (.ref 2)]) (rest := []) hi_77_4 (am_hd0 (M := 77) (by decide) 4) (Nat.le_of_ble_eq_true rfl) (Nat.le_of_ble_eq_true rfl) (show 1 ≤ am_P0.2.2.1 53 from by decide +kernel) rfl (cl_recv (h.1.s (2, 2) (by decide))) rfl rfl (ck_kind (d := (d + 13)) h   ) ?_
  rintro v1 S2 ⟨r3, rfl, rfl, h5⟩
  have h5_ : r3.toInt = kd aw S := h5
  show am_E _ _ _ _ [some (.ref 7), some (.ref b), none, none, none] [.int r3] _ _
  refine am_e0 hi_77_7 ?_
  by_cases c7 : r3.toInt = (61 : Int)
  · refine am_e13t hi_77_9 (am_cT (m := r3.toInt) (n := (61 : Int)) rfl (by decide) c7) ?_
    refine am_e0 hi_77_16 ?_
    refine am_e3 (ls' := [some (.ref 7), some (.ref b), some (.int 0), none, none]) hi_77_17 (Nat.le_of_ble_eq_true rfl) rfl ?_
    refine am_e0 hi_77_18 ?_
    refine am_e3 (ls' := [some (.ref 7), some (.ref b), some (.int 0), some (.int 0), none]) hi_77_19 (Nat.le_of_ble_eq_true rfl) rfl ?_
    refine cf_bodyNames (d := d) (Sb := S) (b := b) h hc_b  (by show 0 ≤ nx S; omega) (by show nx S ≤ wr S; omega) (by show wr S ≤ 600; omega) (by show 0 ≤ lv S; omega) (by show lv S ≤ 48; omega) (fun S8 h9 => (show TH aw 700 S S8 from ⟨h9.1, (Ex.refl S).trans h9.2.1, ⟨(by have q := h9.2.2.1.1; omega), h9.2.2.1.2.trans rfl⟩, h9.2.2.2.1, h9.2.2.2.2.1, (by have q := h9.2.2.2.2.2; omega)⟩)) ?_ ((2147483647 - (0 : Int)).toNat + 1) S none 0 0 ⟨h, Ex.refl _, ⟨rfl, rfl⟩, ⟨rfl, rfl, rfl⟩⟩ (by decide) (by show nx S + 0 ≤ nx S; omega) (by show nx S ≤ wr S; omega) (by show lv S = lv S + 0; omega) (by show EN S + -10000 * nx S ≤ EN S + -10000 * nx S + 0; omega) (by show iv S 8 1 = iv S 8 1; omega) (by show iv S 10 1 = iv S 10 1; omega) (by show 2147483647 - (0 : Int) < _; omega)
    · intro S12 x421 m10 n11 h13 hb20 h14 h15 h16 h17 h18 h19
      have hb20_ : m10.toInt = 0 ∨ m10.toInt = 1 := hb20.elim (fun e => Or.inl (by rw [e]; rfl)) (fun e => Or.inr (by rw [e]; rfl))
      have h14_ : nx S + 0 ≤ nx S12 := h14
      have h15_ : nx S12 ≤ wr S12 := h15
      have h16_ : lv S12 = lv S + 0 := h16
      have h17_ : EN S12 + -10000 * nx S12 ≤ EN S + -10000 * nx S + 0 := h17
      have h18_ : iv S12 8 1 = iv S 8 1 := h18
      have h19_ : iv S12 10 1 = iv S 10 1 := h19
      obtain ⟨h22, h23, ⟨h24, h25⟩, ⟨h26, h27, h28⟩⟩ := h13
      have hk29 := h23.1 _ _ hc_b
      show am_E _ _ _ _ [some (.ref 7), some (.ref b), some (.int m10), some (.int n11), x421] [] _ _
      refine am_e2 (v := b) hi_77_124 rfl ?_
      refine am_e2 (v := 7) hi_77_125 rfl ?_
      refine cm_20f (r := 12) h22 hi_77_126 (h22.1.s (7, 6) (by decide)) (by decide) rfl ?_
      refine am_e32n (as := [.ref 12]) (la := [some (.ref 12)]) (rest := [.ref b]) hi_77_129 (am_hd0 (M := 77) (by decide) 129) (Nat.le_of_ble_eq_true rfl) (Nat.le_of_ble_eq_true rfl) (show 1 ≤ am_P0.2.2.1 75 from by decide +kernel) rfl (cl_recv (h22.1.s (12, 7) (by decide))) rfl rfl (ck_scount (d := (d + 13)) h22   ) ?_
      rintro v30 S31 ⟨r32, rfl, rfl, h34⟩
      have h34_ : r32.toInt = iv S12 14 1 + -1 * fl S12 := h34
      show am_E _ _ _ _ [some (.ref 7), some (.ref b), some (.int m10), some (.int n11), x421] [.int r32, .ref b] _ _
      refine cm_21 (v := .int r32) h22 hi_77_132 hk29 (by decide) (by decide) rfl ⟨_, rfl⟩ rfl fun S36 h37 => ?_
      obtain ⟨h38, h39, ⟨h40, h41, h42, h43⟩, ⟨h44, h45, h46⟩, h47, h48⟩ := h37
      have h49 : kd aw S36 = kd aw S12 := kd_eq h40 h43
      have h50 := h47 8 (h22.1.s (8, 3) (by decide))
      have h51 := h47 10 (h22.1.s (10, 3) (by decide))
      have hk52 := h39.1 _ _ hk29
      refine am_e35 hi_77_135 ?_
      exact ⟨rfl, ⟨h38, (h23.trans h39), ⟨(by show wr S36 = wr S; omega), (h43.trans h25)⟩, ⟨(h44.trans h26), (h45.trans h27), (by show fl S36 = fl S; omega)⟩⟩, (by show nx S + 0 ≤ nx S36; omega), (by show nx S36 ≤ wr S36; omega), (by show lv S36 = lv S + 0; omega), (by show EN S36 + -10000 * nx S36 ≤ EN S + -10000 * nx S + 0; omega), (by show iv S36 8 1 = iv S 8 1; omega), (by show iv S36 10 1 = iv S 10 1; omega)⟩
  · refine am_e13f hi_77_9 (am_cF (m := r3.toInt) (n := (61 : Int)) rfl (by decide) c7) ?_
    refine am_e0 hi_77_12 ?_
    refine am_e18 hi_77_13 ?_
    refine am_e3 (ls' := [some (.ref 7), some (.ref b), some (.int 1), none, none]) hi_77_17 (Nat.le_of_ble_eq_true rfl) rfl ?_
    refine am_e0 hi_77_18 ?_
    refine am_e3 (ls' := [some (.ref 7), some (.ref b), some (.int 1), some (.int 0), none]) hi_77_19 (Nat.le_of_ble_eq_true rfl) rfl ?_
    refine cf_bodyNames (d := d) (Sb := S) (b := b) h hc_b  (by show 0 ≤ nx S; omega) (by show nx S ≤ wr S; omega) (by show wr S ≤ 600; omega) (by show 0 ≤ lv S; omega) (by show lv S ≤ 48; omega) (fun S53 h54 => (show TH aw 700 S S53 from ⟨h54.1, (Ex.refl S).trans h54.2.1, ⟨(by have q := h54.2.2.1.1; omega), h54.2.2.1.2.trans rfl⟩, h54.2.2.2.1, h54.2.2.2.2.1, (by have q := h54.2.2.2.2.2; omega)⟩)) ?_ ((2147483647 - (0 : Int)).toNat + 1) S none 1 0 ⟨h, Ex.refl _, ⟨rfl, rfl⟩, ⟨rfl, rfl, rfl⟩⟩ (by decide) (by show nx S + 0 ≤ nx S; omega) (by show nx S ≤ wr S; omega) (by show lv S = lv S + 0; omega) (by show EN S + -10000 * nx S ≤ EN S + -10000 * nx S + 0; omega) (by show iv S 8 1 = iv S 8 1; omega) (by show iv S 10 1 = iv S 10 1; omega) (by show 2147483647 - (0 : Int) < _; omega)
    · intro S57 x466 m55 n56 h58 hb65 h59 h60 h61 h62 h63 h64
      have hb65_ : m55.toInt = 0 ∨ m55.toInt = 1 := hb65.elim (fun e => Or.inl (by rw [e]; rfl)) (fun e => Or.inr (by rw [e]; rfl))
      have h59_ : nx S + 0 ≤ nx S57 := h59
      have h60_ : nx S57 ≤ wr S57 := h60
      have h61_ : lv S57 = lv S + 0 := h61
      have h62_ : EN S57 + -10000 * nx S57 ≤ EN S + -10000 * nx S + 0 := h62
      have h63_ : iv S57 8 1 = iv S 8 1 := h63
      have h64_ : iv S57 10 1 = iv S 10 1 := h64
      obtain ⟨h67, h68, ⟨h69, h70⟩, ⟨h71, h72, h73⟩⟩ := h58
      have hk74 := h68.1 _ _ hc_b
      show am_E _ _ _ _ [some (.ref 7), some (.ref b), some (.int m55), some (.int n56), x466] [] _ _
      refine am_e2 (v := b) hi_77_124 rfl ?_
      refine am_e2 (v := 7) hi_77_125 rfl ?_
      refine cm_20f (r := 12) h67 hi_77_126 (h67.1.s (7, 6) (by decide)) (by decide) rfl ?_
      refine am_e32n (as := [.ref 12]) (la := [some (.ref 12)]) (rest := [.ref b]) hi_77_129 (am_hd0 (M := 77) (by decide) 129) (Nat.le_of_ble_eq_true rfl) (Nat.le_of_ble_eq_true rfl) (show 1 ≤ am_P0.2.2.1 75 from by decide +kernel) rfl (cl_recv (h67.1.s (12, 7) (by decide))) rfl rfl (ck_scount (d := (d + 13)) h67   ) ?_
      rintro v75 S76 ⟨r77, rfl, rfl, h79⟩
      have h79_ : r77.toInt = iv S57 14 1 + -1 * fl S57 := h79
      show am_E _ _ _ _ [some (.ref 7), some (.ref b), some (.int m55), some (.int n56), x466] [.int r77, .ref b] _ _
      refine cm_21 (v := .int r77) h67 hi_77_132 hk74 (by decide) (by decide) rfl ⟨_, rfl⟩ rfl fun S81 h82 => ?_
      obtain ⟨h83, h84, ⟨h85, h86, h87, h88⟩, ⟨h89, h90, h91⟩, h92, h93⟩ := h82
      have h94 : kd aw S81 = kd aw S57 := kd_eq h85 h88
      have h95 := h92 8 (h67.1.s (8, 3) (by decide))
      have h96 := h92 10 (h67.1.s (10, 3) (by decide))
      have hk97 := h84.1 _ _ hk74
      refine am_e35 hi_77_135 ?_
      exact ⟨rfl, ⟨h83, (h68.trans h84), ⟨(by show wr S81 = wr S; omega), (h88.trans h70)⟩, ⟨(h89.trans h71), (h90.trans h72), (by show fl S81 = fl S; omega)⟩⟩, (by show nx S + 0 ≤ nx S81; omega), (by show nx S81 ≤ wr S81; omega), (by show lv S81 = lv S + 0; omega), (by show EN S81 + -10000 * nx S81 ≤ EN S + -10000 * nx S + 0; omega), (by show iv S81 8 1 = iv S 8 1; omega), (by show iv S81 10 1 = iv S 10 1; omega)⟩
