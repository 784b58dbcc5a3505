/-! THE CLASS: statements (printed by wip/p2/cl8.py) -/
theorem cg_assign {sc : Nat × (Nat → Int32)} {d aw NN : Nat} {Sb : am_S} {f : Int32} {t : Int32} {Q : Option (Option Value) → am_S → Prop} (h : SH aw Sb) (ihR : RC sc aw NN) (hN : 48 - lv Sb < (NN : Int) + 1) (hd : (30 : Int) * (48 - lv Sb) ≤ (d : Int)) (p0 : 0 ≤ nx Sb) (p1 : nx Sb ≤ wr Sb) (p2 : wr Sb ≤ 600) (p3 : 0 ≤ lv Sb) (p4 : lv Sb ≤ 48) (p5 : 1 ≤ iv Sb 13 1) (p6 : iv Sb 13 1 ≤ lv Sb + 1) (p7 : iv Sb 5 1 ≤ nx Sb + 1) (hq : ∀ S1, TH aw 2000 Sb S1 → Q none S1) (hx0 : ∀ (S : am_S) (n : Int32), Ad aw Sb S → (nx Sb + 0 ≤ nx S) → (nx S ≤ wr S) → (lv S = lv Sb + 0) → (EN S + -10000 * nx S ≤ EN Sb + -10000 * nx Sb + 0) → (iv Sb 8 1 ≤ iv S 8 1) → (iv Sb 10 1 ≤ iv S 10 1) → am_E (am_PP sc) (d + 20) 59 73 [some (.ref 7), some (.int f), some (.int t), some (.int n)] [] S Q) : ∀ (N : Nat) (S : am_S) (n : Int32), Ad aw Sb S → (nx Sb + 0 ≤ nx S) → (nx S ≤ wr S) → (lv S = lv Sb + 0) → (EN S + -10000 * nx S ≤ EN Sb + -10000 * nx Sb + 0) → (iv Sb 8 1 ≤ iv S 8 1) → (iv Sb 10 1 ≤ iv S 10 1) → 2147483647 - n.toInt < (N : Int) → am_E (am_PP sc) (d + 20) 59 32 [some (.ref 7), some (.int f), some (.int t), some (.int n)] [] S Q := by
  intro N
  induction N with
  | zero =>
    intro S  n hrel  i0 i1 i2 i3 i4 i5 hN
    have := i32_le n
    have := i32_ge n
    exfalso
    omega
  | succ N ih =>
    intro S  n hrel  i0 i1 i2 i3 i4 i5 hN
    have hl_n := i32_le n
    have hg_n := i32_ge n
    obtain ⟨h1, h2, ⟨h5, h6⟩, ⟨h7, h8⟩⟩ := hrel
    refine am_e2 (v := 7) hi_59_32 rfl ?_
    refine cm_20f (r := 2) h1 hi_59_33 (h1.1.s (7, 6) (by decide)) (by decide) rfl ?_
    refine am_e32n (as := [.ref 2]) (la := [some (.ref 2)]) (rest := []) hi_59_36 (am_hd0 (M := 59) (by decide) 36) (Nat.le_of_ble_eq_true rfl) (Nat.le_of_ble_eq_true rfl) (show 1 ≤ am_P0.2.2.1 53 from by decide +kernel) rfl (cl_recv (h1.1.s (2, 2) (by decide))) rfl rfl (ck_kind (d := (d + 18)) h1   ) ?_
    rintro v12 S13 ⟨r14, rfl, rfl, h16⟩
    have h16_ : r14.toInt = kd aw S := h16
    show am_E _ _ _ _ [some (.ref 7), some (.int f), some (.int t), some (.int n)] [.int r14] _ _
    refine am_e0 hi_59_39 ?_
    by_cases c18 : ¬ r14.toInt = (69 : Int)
    · refine am_e13t hi_59_41 (am_cT (m := r14.toInt) (n := (69 : Int)) rfl (by decide) c18) ?_
      exact hx0 _ n ⟨h1, h2, ⟨(by show wr S = wr Sb; omega), h6⟩, ⟨(by show iv S 13 1 = iv Sb 13 1; omega), (by show iv S 5 1 - nx S ≤ iv Sb 5 1 - nx Sb; omega)⟩⟩ (by show nx Sb + 0 ≤ nx S; omega) (by show nx S ≤ wr S; omega) (by show lv S = lv Sb + 0; omega) (by show EN S + -10000 * nx S ≤ EN Sb + -10000 * nx Sb + 0; omega) (by show iv Sb 8 1 ≤ iv S 8 1; omega) (by show iv Sb 10 1 ≤ iv S 10 1; omega)
    · refine am_e13f hi_59_41 (am_cF (m := r14.toInt) (n := (69 : Int)) rfl (by decide) c18) ?_
      refine am_e1 (v := n) hi_59_44 rfl ?_
      refine am_e0 hi_59_45 ?_
      by_cases c19 : (16384 : Int) < n.toInt
      · refine am_e13t hi_59_48 (am_cT (m := n.toInt) (n := (16384 : Int)) rfl (by decide) c19) ?_
        exact hx0 _ n ⟨h1, h2, ⟨(by show wr S = wr Sb; omega), h6⟩, ⟨(by show iv S 13 1 = iv Sb 13 1; omega), (by show iv S 5 1 - nx S ≤ iv Sb 5 1 - nx Sb; omega)⟩⟩ (by show nx Sb + 0 ≤ nx S; omega) (by show nx S ≤ wr S; omega) (by show lv S = lv Sb + 0; omega) (by show EN S + -10000 * nx S ≤ EN Sb + -10000 * nx Sb + 0; omega) (by show iv Sb 8 1 ≤ iv S 8 1; omega) (by show iv Sb 10 1 ≤ iv S 10 1; omega)
      · refine am_e13f hi_59_48 (am_cF (m := n.toInt) (n := (16384 : Int)) rfl (by decide) c19) ?_
        refine am_e2 (v := 7) hi_59_51 rfl ?_
        refine cm_20f (r := 2) h1 hi_59_52 (h1.1.s (7, 6) (by decide)) (by decide) rfl ?_
        refine am_e32t (as := [.ref 2]) (la := [some (.ref 2), none]) (rest := []) hi_59_55 (am_hd0 (M := 59) (by decide) 55) (Nat.le_of_ble_eq_true rfl) (Nat.le_of_ble_eq_true rfl) (show 1 ≤ am_P0.2.2.1 55 from by decide +kernel) rfl (cl_recv (h1.1.s (2, 2) (by decide))) rfl rfl (ck_skip (d := (d + 6)) h1   (by show 0 ≤ nx S; omega) (by show nx S ≤ wr S; omega) (by show wr S ≤ 600; omega) (by show 0 ≤ lv S; omega) (by show lv S ≤ 48; omega) (by show kd aw S ≠ 0; omega)) (fun S36 h37 => hq S36 (show TH aw 2000 Sb S36 from ⟨h37.1, h2.trans h37.2.1, ⟨(by have q := h37.2.2.1.1; omega), h37.2.2.1.2.trans h6⟩, h37.2.2.2.1, h37.2.2.2.2.1, (by have q := h37.2.2.2.2.2; omega)⟩)) ?_
        rintro v20 S21 ⟨r22, rfl, h23, h24, h25, h26, h27⟩
        have h24_ : nx S21 = nx S + 1 := h24
        have h25_ : lv S21 = lv S + c_dl (kd aw S) := h25
        have h26_ : lv S21 ≤ 48 := h26
        have h27_ : nx S21 ≤ wr S21 := h27
        obtain ⟨h38, h39, ⟨h42, h43⟩, ⟨h44, h45, h46⟩, h47, h48⟩ := h23
        have h49 := h47 8 (h1.1.s (8, 3) (by decide))
        have h50 := h47 10 (h1.1.s (10, 3) (by decide))
        have h51 := os_5 h44 1
        have h52 := os_13 h44 1
        have h53 : c_dl (kd aw S) = 0 := by unfold c_dl; split <;> split <;> omega
        show am_E _ _ _ _ [some (.ref 7), some (.int f), some (.int t), some (.int n)] [.int r22] _ _
        refine am_e6i hi_59_58 ?_
        refine am_e2 (v := 7) hi_59_59 rfl ?_
        refine am_e2 (v := 7) hi_59_60 rfl ?_
        refine am_e32q (d1 := d + 2 + 17) (by omega) (as := [.ref 7]) (la := [some (.ref 7), none, none, none]) (rest := [.ref 7]) hi_59_61 (am_hd0 (M := 59) (by decide) 61) (Nat.le_of_ble_eq_true rfl) (Nat.le_of_ble_eq_true rfl) (show 1 ≤ am_P0.2.2.1 60 from by decide +kernel) rfl (cl_recv (h38.1.s (7, 6) (by decide))) rfl rfl (cr_prefix (d := d + 2) h38  ihR (by show 48 - lv S21 < (NN : Int) + 1; omega) (by show (30 : Int) * (48 - lv S21) ≤ ((d + 2 : Nat) : Int); omega) (by show 0 ≤ nx S21; omega) (by show nx S21 ≤ wr S21; omega) (by show wr S21 ≤ 600; omega) (by show 0 ≤ lv S21; omega) (by show lv S21 ≤ 48; omega) (by show 1 ≤ iv S21 13 1; omega) (by show iv S21 13 1 ≤ lv S21 + 1; omega) (by show iv S21 5 1 ≤ nx S21 + 1; omega)) (fun S65 h66 => hq S65 (show TH aw 2000 Sb S65 from ⟨h66.1, (h2.trans h39).trans h66.2.1, ⟨(by have q := h66.2.2.1.1; omega), h66.2.2.1.2.trans (h43.trans h6)⟩, h66.2.2.2.1, h66.2.2.2.2.1, (by have q := h66.2.2.2.2.2; omega)⟩)) ?_
        rintro v54 S55 ⟨r56, rfl, h57, h58, h59, h60, h61, h62, h63⟩
        have h58_ : nx S21 + 1 ≤ nx S55 := h58
        have h59_ : nx S55 ≤ wr S55 := h59
        have h60_ : lv S55 = lv S21 + 0 := h60
        have h61_ : EN S55 + -10000 * nx S55 ≤ EN S21 + -10000 * nx S21 + (-2160) := h61
        have h62_ : iv S21 8 1 ≤ iv S55 8 1 := h62
        have h63_ : iv S21 10 1 ≤ iv S55 10 1 := h63
        obtain ⟨h67, h68, ⟨h71, h72⟩, ⟨h73, h74⟩⟩ := h57
        show am_E _ _ _ _ [some (.ref 7), some (.int f), some (.int t), some (.int n)] [.int r56, .ref 7] _ _
        refine am_e32t (as := [.ref 7, .int r56]) (la := [some (.ref 7), some (.int r56)]) (rest := []) hi_59_64 (am_hd0 (M := 59) (by decide) 64) (Nat.le_of_ble_eq_true rfl) (Nat.le_of_ble_eq_true rfl) (show 2 ≤ am_P0.2.2.1 113 from by decide +kernel) rfl (cl_recv (h67.1.s (7, 6) (by decide))) rfl rfl (ck_addTarget (d := (d + 6)) h67   (by show 0 ≤ nx S55; omega) (by show nx S55 ≤ wr S55; omega)) (fun S93 h94 => hq S93 (show TH aw 2000 Sb S93 from ⟨h94.1, ((h2.trans h39).trans h68).trans h94.2.1, ⟨(by have q := h94.2.2.1.1; omega), h94.2.2.1.2.trans (h72.trans (h43.trans h6))⟩, h94.2.2.2.1, h94.2.2.2.2.1, (by have q := h94.2.2.2.2.2; omega)⟩)) ?_
        rintro v78 S79 ⟨rfl, h81, h82, h83, h84⟩
        have h82_ : iv S79 8 1 = iv S55 8 1 := h82
        have h83_ : iv S79 14 1 = iv S55 14 1 := h83
        have h84_ : iv S55 10 1 ≤ iv S79 10 1 := h84
        obtain ⟨h95, h96, ⟨h97, h98, h99, h100⟩, ⟨h101, h102, h103⟩, h105⟩ := h81
        have h106 : kd aw S79 = kd aw S55 := kd_eq h97 h100
        have h107 := os_5 h101 1
        have h108 := os_13 h101 1
        show am_E _ _ _ _ [some (.ref 7), some (.int f), some (.int t), some (.int n)] [] _ _
        obtain ⟨z109, hz109, tz109⟩ := am_addI (x := n) (y := 1) (m := n.toInt) (n := (1 : Int)) rfl (by decide) (by omega) (by omega)
        refine am_e5 (v := n) (z := z109) (ls' := [some (.ref 7), some (.int f), some (.int t), some (.int z109)]) hi_59_67 rfl hz109 rfl ?_
        refine am_e18 hi_59_70 ?_
        exact ih _ z109 ⟨h95, (((h2.trans h39).trans h68).trans h96), ⟨(by show wr S79 = wr Sb; omega), (h100.trans (h72.trans (h43.trans h6)))⟩, ⟨(by show iv S79 13 1 = iv Sb 13 1; omega), (by show iv S79 5 1 - nx S79 ≤ iv Sb 5 1 - nx Sb; omega)⟩⟩ (by show nx Sb + 0 ≤ nx S79; omega) (by show nx S79 ≤ wr S79; omega) (by show lv S79 = lv Sb + 0; omega) (by show EN S79 + -10000 * nx S79 ≤ EN Sb + -10000 * nx Sb + 0; omega) (by show iv Sb 8 1 ≤ iv S79 8 1; omega) (by show iv Sb 10 1 ≤ iv S79 10 1; omega) (by show 2147483647 - z109.toInt < (N : Int); omega)
theorem cr_assign {sc : Nat × (Nat → Int32)} {d aw NN : Nat} {S : am_S} (h : SH aw S) (ihR : RC sc aw NN) (hN : 48 - lv S < (NN : Int) + 1) (hd : (30 : Int) * (48 - lv S) ≤ (d : Int)) (p0 : 0 ≤ nx S) (p1 : nx S ≤ wr S) (p2 : wr S ≤ 600) (p3 : 0 ≤ lv S) (p4 : lv S ≤ 48) (p5 : 1 ≤ iv S 13 1) (p6 : iv S 13 1 ≤ lv S + 1) (p7 : iv S 5 1 ≤ nx S + 1) : am_E (am_PP sc) (d + 20) 59 0 [some (.ref 7), none, none, none] [] S (am_T (fun v S1 => v = none ∧ Ad aw S S1 ∧ (nx S + 1 ≤ nx S1) ∧ (nx S1 ≤ wr S1) ∧ (lv S1 = lv S + 0) ∧ (EN S1 + -10000 * nx S1 ≤ EN S + -10000 * nx S + (-1000)) ∧ (iv S 8 1 ≤ iv S1 8 1) ∧ (iv S 10 1 ≤ iv S1 10 1)) (fun S1 => TH aw 2000 S S1)) := by
  refine am_e2 (v := 7) hi_59_0 rfl ?_
  refine am_e32q (d1 := d + 2 + 17) (by omega) (as := [.ref 7]) (la := [some (.ref 7), none, none, none]) (rest := []) hi_59_1 (am_hd0 (M := 59) (by decide) 1) (Nat.le_of_ble_eq_true rfl) (Nat.le_of_ble_eq_true rfl) (show 1 ≤ am_P0.2.2.1 60 from by decide +kernel) rfl (cl_recv (h.1.s (7, 6) (by decide))) rfl rfl (cr_prefix (d := d + 2) h  ihR (by show 48 - lv S < (NN : Int) + 1; omega) (by show (30 : Int) * (48 - lv S) ≤ ((d + 2 : Nat) : Int); omega) (by show 0 ≤ nx S; omega) (by show nx S ≤ wr S; omega) (by show wr S ≤ 600; omega) (by show 0 ≤ lv S; omega) (by show lv S ≤ 48; omega) (by show 1 ≤ iv S 13 1; omega) (by show iv S 13 1 ≤ lv S + 1; omega) (by show iv S 5 1 ≤ nx S + 1; omega)) (fun S12 h13 => (show TH aw 2000 S S12 from ⟨h13.1, (Ex.refl S).trans h13.2.1, ⟨(by have q := h13.2.2.1.1; omega), h13.2.2.1.2.trans rfl⟩, h13.2.2.2.1, h13.2.2.2.2.1, (by have q := h13.2.2.2.2.2; omega)⟩)) ?_
  rintro v1 S2 ⟨r3, rfl, h4, h5, h6, h7, h8, h9, h10⟩
  have h5_ : nx S + 1 ≤ nx S2 := h5
  have h6_ : nx S2 ≤ wr S2 := h6
  have h7_ : lv S2 = lv S + 0 := h7
  have h8_ : EN S2 + -10000 * nx S2 ≤ EN S + -10000 * nx S + (-2160) := h8
  have h9_ : iv S 8 1 ≤ iv S2 8 1 := h9
  have h10_ : iv S 10 1 ≤ iv S2 10 1 := h10
  obtain ⟨h14, h15, ⟨h18, h19⟩, ⟨h20, h21⟩⟩ := h4
  show am_E _ _ _ _ [some (.ref 7), none, none, none] [.int r3] _ _
  refine am_e3 (ls' := [some (.ref 7), some (.int r3), none, none]) hi_59_4 (Nat.le_of_ble_eq_true rfl) rfl ?_
  refine am_e1 (v := r3) hi_59_5 rfl ?_
  refine am_e0 hi_59_6 ?_
  by_cases c25 : ¬ r3.toInt = (4 : Int)
  · refine am_e13t hi_59_7 (am_cT (m := r3.toInt) (n := (4 : Int)) rfl (by decide) c25) ?_
    refine am_e2 (v := 7) hi_59_17 rfl ?_
    refine cm_20f (r := 10) h14 hi_59_18 (h14.1.s (7, 6) (by decide)) (by decide) rfl ?_
    refine am_e32n (as := [.ref 10]) (la := [some (.ref 10)]) (rest := []) hi_59_21 (am_hd0 (M := 59) (by decide) 21) (Nat.le_of_ble_eq_true rfl) (Nat.le_of_ble_eq_true rfl) (show 1 ≤ am_P0.2.2.1 36 from by decide +kernel) rfl (cl_recv (h14.1.s (10, 3) (by decide))) rfl rfl (ck_rows (d := (d + 19)) h14 (h14.1.s (10, 3) (by decide))  ) ?_
    rintro v26 S27 ⟨r28, rfl, rfl, h30, h31, h32⟩
    have h30_ : r28.toInt = iv S2 10 1 := h30
    have h31_ : 0 ≤ r28.toInt := h31
    have h32_ : r28.toInt ≤ 2097154 := h32
    show am_E _ _ _ _ [some (.ref 7), some (.int r3), none, none] [.int r28] _ _
    refine am_e3 (ls' := [some (.ref 7), some (.int r3), some (.int r28), none]) hi_59_24 (Nat.le_of_ble_eq_true rfl) rfl ?_
    refine am_e2 (v := 7) hi_59_25 rfl ?_
    refine am_e1 (v := r3) hi_59_26 rfl ?_
    refine am_e32t (as := [.ref 7, .int r3]) (la := [some (.ref 7), some (.int r3)]) (rest := []) hi_59_27 (am_hd0 (M := 59) (by decide) 27) (Nat.le_of_ble_eq_true rfl) (Nat.le_of_ble_eq_true rfl) (show 2 ≤ am_P0.2.2.1 113 from by decide +kernel) rfl (cl_recv (h14.1.s (7, 6) (by decide))) rfl rfl (ck_addTarget (d := (d + 6)) h14   (by show 0 ≤ nx S2; omega) (by show nx S2 ≤ wr S2; omega)) (fun S49 h50 => (show TH aw 2000 S S49 from ⟨h50.1, h15.trans h50.2.1, ⟨(by have q := h50.2.2.1.1; omega), h50.2.2.1.2.trans h19⟩, h50.2.2.2.1, h50.2.2.2.2.1, (by have q := h50.2.2.2.2.2; omega)⟩)) ?_
    rintro v34 S35 ⟨rfl, h37, h38, h39, h40⟩
    have h38_ : iv S35 8 1 = iv S2 8 1 := h38
    have h39_ : iv S35 14 1 = iv S2 14 1 := h39
    have h40_ : iv S2 10 1 ≤ iv S35 10 1 := h40
    obtain ⟨h51, h52, ⟨h53, h54, h55, h56⟩, ⟨h57, h58, h59⟩, h61⟩ := h37
    have h62 : kd aw S35 = kd aw S2 := kd_eq h53 h56
    have h63 := os_5 h57 1
    have h64 := os_13 h57 1
    show am_E _ _ _ _ [some (.ref 7), some (.int r3), some (.int r28), none] [] _ _
    refine am_e0 hi_59_30 ?_
    refine am_e3 (ls' := [some (.ref 7), some (.int r3), some (.int r28), some (.int 0)]) hi_59_31 (Nat.le_of_ble_eq_true rfl) rfl ?_
    refine cg_assign (d := d) (Sb := S35) (f := r3) (t := r28) h51  ihR (by show 48 - lv S35 < (NN : Int) + 1; omega) (by show (30 : Int) * (48 - lv S35) ≤ ((d : Nat) : Int); omega) (by show 0 ≤ nx S35; omega) (by show nx S35 ≤ wr S35; omega) (by show wr S35 ≤ 600; omega) (by show 0 ≤ lv S35; omega) (by show lv S35 ≤ 48; omega) (by show 1 ≤ iv S35 13 1; omega) (by show iv S35 13 1 ≤ lv S35 + 1; omega) (by show iv S35 5 1 ≤ nx S35 + 1; omega) (fun S65 h66 => (show TH aw 2000 S S65 from ⟨h66.1, (h15.trans h52).trans h66.2.1, ⟨(by have q := h66.2.2.1.1; omega), h66.2.2.1.2.trans (h56.trans h19)⟩, h66.2.2.2.1, h66.2.2.2.2.1, (by have q := h66.2.2.2.2.2; omega)⟩)) ?_ ((2147483647 - (0 : Int)).toNat + 1) S35 0 ⟨h51, Ex.refl _, ⟨rfl, rfl⟩, ⟨rfl, Int.le_refl _⟩⟩ (by show nx S35 + 0 ≤ nx S35; omega) (by show nx S35 ≤ wr S35; omega) (by show lv S35 = lv S35 + 0; omega) (by show EN S35 + -10000 * nx S35 ≤ EN S35 + -10000 * nx S35 + 0; omega) (by show iv S35 8 1 ≤ iv S35 8 1; omega) (by show iv S35 10 1 ≤ iv S35 10 1; omega) (by show 2147483647 - (0 : Int) < _; omega)
    · intro S68 n67 h69 h70 h71 h72 h73 h74 h75
      have h70_ : nx S35 + 0 ≤ nx S68 := h70
      have h71_ : nx S68 ≤ wr S68 := h71
      have h72_ : lv S68 = lv S35 + 0 := h72
      have h73_ : EN S68 + -10000 * nx S68 ≤ EN S35 + -10000 * nx S35 + 0 := h73
      have h74_ : iv S35 8 1 ≤ iv S68 8 1 := h74
      have h75_ : iv S35 10 1 ≤ iv S68 10 1 := h75
      obtain ⟨h76, h77, ⟨h80, h81⟩, ⟨h82, h83⟩⟩ := h69
      show am_E _ _ _ _ [some (.ref 7), some (.int r3), some (.int r28), some (.int n67)] [] _ _
      refine am_e2 (v := 7) hi_59_73 rfl ?_
      refine cm_20f (r := 2) h76 hi_59_74 (h76.1.s (7, 6) (by decide)) (by decide) rfl ?_
      refine am_e0 hi_59_77 ?_
      refine am_e32t (as := [.ref 2, .int 59]) (la := [some (.ref 2), some (.int 59)]) (rest := []) hi_59_79 (am_hd0 (M := 59) (by decide) 79) (Nat.le_of_ble_eq_true rfl) (Nat.le_of_ble_eq_true rfl) (show 2 ≤ am_P0.2.2.1 64 from by decide +kernel) rfl (cl_recv (h76.1.s (2, 2) (by decide))) rfl rfl (ck_take (d := (d + 5)) h76   (by show 0 ≤ nx S68; omega) (by show nx S68 ≤ wr S68; omega) (by show wr S68 ≤ 600; omega) (by show 0 ≤ lv S68; omega) (by show lv S68 ≤ 48; omega) (by show ¬ (59 : Int) = 0; omega)) (fun S104 h105 => (show TH aw 2000 S S104 from ⟨h105.1, ((h15.trans h52).trans h77).trans h105.2.1, ⟨(by have q := h105.2.2.1.1; omega), h105.2.2.1.2.trans (h81.trans (h56.trans h19))⟩, h105.2.2.2.1, h105.2.2.2.2.1, (by have q := h105.2.2.2.2.2; omega)⟩)) ?_
      rintro v87 S88 ⟨r89, rfl, h90, h91, h92, h93, h94, h95⟩
      have h91_ : kd aw S68 = (59 : Int) := h91
      have h92_ : nx S88 = nx S68 + 1 := h92
      have h93_ : lv S88 = lv S68 + c_dl (kd aw S68) := h93
      have h94_ : lv S88 ≤ 48 := h94
      have h95_ : nx S88 ≤ wr S88 := h95
      obtain ⟨h106, h107, ⟨h110, h111⟩, ⟨h112, h113, h114⟩, h115, h116⟩ := h90
      have h117 := h115 8 (h76.1.s (8, 3) (by decide))
      have h118 := h115 10 (h76.1.s (10, 3) (by decide))
      have h119 := os_5 h112 1
      have h120 := os_13 h112 1
      have h121 : c_dl (kd aw S68) = 0 := by unfold c_dl; split <;> split <;> omega
      show am_E _ _ _ _ [some (.ref 7), some (.int r3), some (.int r28), some (.int n67)] [.int r89] _ _
      refine am_e6i hi_59_82 ?_
      refine am_e2 (v := 7) hi_59_83 rfl ?_
      refine am_e2 (v := 7) hi_59_84 rfl ?_
      refine cm_20f (r := 10) h106 hi_59_85 (h106.1.s (7, 6) (by decide)) (by decide) rfl ?_
      refine am_e32n (as := [.ref 10]) (la := [some (.ref 10)]) (rest := [.ref 7]) hi_59_88 (am_hd0 (M := 59) (by decide) 88) (Nat.le_of_ble_eq_true rfl) (Nat.le_of_ble_eq_true rfl) (show 1 ≤ am_P0.2.2.1 36 from by decide +kernel) rfl (cl_recv (h106.1.s (10, 3) (by decide))) rfl rfl (ck_rows (d := (d + 19)) h106 (h106.1.s (10, 3) (by decide))  ) ?_
      rintro v122 S123 ⟨r124, rfl, rfl, h126, h127, h128⟩
      have h126_ : r124.toInt = iv S88 10 1 := h126
      have h127_ : 0 ≤ r124.toInt := h127
      have h128_ : r124.toInt ≤ 2097154 := h128
      show am_E _ _ _ _ [some (.ref 7), some (.int r3), some (.int r28), some (.int n67)] [.int r124, .ref 7] _ _
      refine am_e1 (v := r28) hi_59_91 rfl ?_
      obtain ⟨z130, hz130, tz130⟩ := am_subI (x := r124) (y := r28) (m := r124.toInt) (n := r28.toInt) rfl rfl (by omega) (by omega)
      refine am_e10 (z := z130) hi_59_92 hz130 ?_
      refine am_e2 (v := 7) hi_59_93 rfl ?_
      refine am_e32q (d1 := d + 0 + 19) (by omega) (as := [.ref 7]) (la := [some (.ref 7), none, none, none]) (rest := [.int z130, .ref 7]) hi_59_94 (am_hd0 (M := 59) (by decide) 94) (Nat.le_of_ble_eq_true rfl) (Nat.le_of_ble_eq_true rfl) (show 1 ≤ am_P0.2.2.1 112 from by decide +kernel) rfl (cl_recv (h106.1.s (7, 6) (by decide))) rfl rfl (cr_list (d := d + 0) h106  ihR (by show 48 - lv S88 < (NN : Int) + 1; omega) (by show (30 : Int) * (48 - lv S88) ≤ ((d + 0 : Nat) : Int); omega) (by show 0 ≤ nx S88; omega) (by show nx S88 ≤ wr S88; omega) (by show wr S88 ≤ 600; omega) (by show 0 ≤ lv S88; omega) (by show lv S88 ≤ 48; omega) (by show 1 ≤ iv S88 13 1; omega) (by show iv S88 13 1 ≤ lv S88 + 1; omega) (by show iv S88 5 1 ≤ nx S88 + 1; omega)) (fun S143 h144 => (show TH aw 2000 S S143 from ⟨h144.1, (((h15.trans h52).trans h77).trans h107).trans h144.2.1, ⟨(by have q := h144.2.2.1.1; omega), h144.2.2.1.2.trans (h111.trans (h81.trans (h56.trans h19)))⟩, h144.2.2.2.1, h144.2.2.2.2.1, (by have q := h144.2.2.2.2.2; omega)⟩)) ?_
      rintro v131 S132 ⟨r133, rfl, h134, h135, h136, h137, h138, h139, h140, h141⟩
      have h135_ : nx S88 + 1 ≤ nx S132 := h135
      have h136_ : nx S132 ≤ wr S132 := h136
      have h137_ : lv S132 = lv S88 + 0 := h137
      have h138_ : EN S132 + -10000 * nx S132 ≤ EN S88 + -10000 * nx S88 + (-2000) := h138
      have h139_ : iv S88 8 1 ≤ iv S132 8 1 := h139
      have h140_ : iv S88 10 1 ≤ iv S132 10 1 := h140
      have h141_ : 0 ≤ r133.toInt := h141
      obtain ⟨h145, h146, ⟨h149, h150⟩, ⟨h151, h152⟩⟩ := h134
      show am_E _ _ _ _ [some (.ref 7), some (.int r3), some (.int r28), some (.int n67)] [.int r133, .int z130, .ref 7] _ _
      refine am_e32n (as := [.ref 7, .int z130, .int r133]) (la := [some (.ref 7), some (.int z130), some (.int r133), none]) (rest := []) hi_59_97 (am_hd0 (M := 59) (by decide) 97) (Nat.le_of_ble_eq_true rfl) (Nat.le_of_ble_eq_true rfl) (show 3 ≤ am_P0.2.2.1 117 from by decide +kernel) rfl (cl_recv (h145.1.s (7, 6) (by decide))) rfl rfl (ck_fit (d := (d + 15)) h145   (by show 0 ≤ r133.toInt; omega) (by show 0 ≤ z130.toInt; omega) (by show z130.toInt ≤ 3000000; omega)) ?_
      rintro v156 S157 ⟨rfl, h159, h160, h161, h162, h163⟩
      have h160_ : EN S157 ≤ EN S132 + 160 * z130.toInt + 320 := h160
      have h161_ : iv S157 8 1 = iv S132 8 1 := h161
      have h162_ : iv S157 10 1 = iv S132 10 1 := h162
      have h163_ : iv S157 14 1 = iv S132 14 1 := h163
      obtain ⟨h165, h166, ⟨h167, h168, h169, h170⟩, ⟨h171, h172, h173⟩⟩ := h159
      have h176 : kd aw S157 = kd aw S132 := kd_eq h167 h170
      have h177 := os_5 h171 1
      have h178 := os_13 h171 1
      show am_E _ _ _ _ [some (.ref 7), some (.int r3), some (.int r28), some (.int n67)] [] _ _
      refine am_e2 (v := 7) hi_59_100 rfl ?_
      refine am_e1 (v := r28) hi_59_101 rfl ?_
      refine am_e32n (as := [.ref 7, .int r28]) (la := [some (.ref 7), some (.int r28), none, none, none]) (rest := []) hi_59_102 (am_hd0 (M := 59) (by decide) 102) (Nat.le_of_ble_eq_true rfl) (Nat.le_of_ble_eq_true rfl) (show 2 ≤ am_P0.2.2.1 118 from by decide +kernel) rfl (cl_recv (h165.1.s (7, 6) (by decide))) rfl rfl (ck_store (d := (d + 15)) h165   (by show 0 ≤ r28.toInt; omega) (by show r28.toInt ≤ iv S157 10 1; omega)) ?_
      rintro v179 S180 ⟨rfl, h182, h183, h184, h185, h186⟩
      have h183_ : iv S180 10 1 = r28.toInt := h183
      have h184_ : EN S180 ≤ EN S157 + 160 + -160 * iv S157 10 1 + 160 * r28.toInt := h184
      have h185_ : iv S180 8 1 = iv S157 8 1 := h185
      have h186_ : iv S180 14 1 = iv S157 14 1 := h186
      obtain ⟨h188, h189, ⟨h190, h191, h192, h193⟩, ⟨h194, h195, h196⟩⟩ := h182
      have h199 : kd aw S180 = kd aw S157 := kd_eq h190 h193
      have h200 := os_5 h194 1
      have h201 := os_13 h194 1
      show am_E _ _ _ _ [some (.ref 7), some (.int r3), some (.int r28), some (.int n67)] [] _ _
      refine am_e35 hi_59_105 ?_
      exact ⟨rfl, ⟨h188, ((((((h15.trans h52).trans h77).trans h107).trans h146).trans h166).trans h189), ⟨(by show wr S180 = wr S; omega), (h193.trans (h170.trans (h150.trans (h111.trans (h81.trans (h56.trans h19))))))⟩, ⟨(by show iv S180 13 1 = iv S 13 1; omega), (by show iv S180 5 1 - nx S180 ≤ iv S 5 1 - nx S; omega)⟩⟩, (by show nx S + 1 ≤ nx S180; omega), (by show nx S180 ≤ wr S180; omega), (by show lv S180 = lv S + 0; omega), (by show EN S180 + -10000 * nx S180 ≤ EN S + -10000 * nx S + (-1000); omega), (by show iv S 8 1 ≤ iv S180 8 1; omega), (by show iv S 10 1 ≤ iv S180 10 1; omega)⟩
  · refine am_e13f hi_59_7 (am_cF (m := r3.toInt) (n := (4 : Int)) rfl (by decide) c25) ?_
    refine am_e2 (v := 7) hi_59_10 rfl ?_
    refine am_e0 hi_59_11 ?_
    refine am_e0 hi_59_12 ?_
    refine am_e32n (as := [.ref 7, .int 1, .int 0]) (la := [some (.ref 7), some (.int 1), some (.int 0), none]) (rest := []) hi_59_13 (am_hd0 (M := 59) (by decide) 13) (Nat.le_of_ble_eq_true rfl) (Nat.le_of_ble_eq_true rfl) (show 3 ≤ am_P0.2.2.1 99 from by decide +kernel) rfl (cl_recv (h14.1.s (7, 6) (by decide))) rfl rfl (ck_keepFlags (d := (d + 17)) h14   ) ?_
    rintro v202 S203 ⟨rfl, h205⟩
    obtain ⟨h207, h208, ⟨h209, h210, h211, h212⟩, ⟨h213, h214, h215⟩, h216, h217⟩ := h205
    have h218 : kd aw S203 = kd aw S2 := kd_eq h209 h212
    have h219 := h216 8 (h14.1.s (8, 3) (by decide))
    have h220 := h216 10 (h14.1.s (10, 3) (by decide))
    have h221 := os_5 h213 1
    have h222 := os_13 h213 1
    show am_E _ _ _ _ [some (.ref 7), some (.int r3), none, none] [] _ _
    refine am_e35 hi_59_16 ?_
    exact ⟨rfl, ⟨h207, (h15.trans h208), ⟨(by show wr S203 = wr S; omega), (h212.trans h19)⟩, ⟨(by show iv S203 13 1 = iv S 13 1; omega), (by show iv S203 5 1 - nx S203 ≤ iv S 5 1 - nx S; omega)⟩⟩, (by show nx S + 1 ≤ nx S203; omega), (by show nx S203 ≤ wr S203; omega), (by show lv S203 = lv S + 0; omega), (by show EN S203 + -10000 * nx S203 ≤ EN S + -10000 * nx S + (-1000); omega), (by show iv S 8 1 ≤ iv S203 8 1; omega), (by show iv S 10 1 ≤ iv S203 10 1; omega)⟩
theorem cr_while {sc : Nat × (Nat → Int32)} {d aw NN : Nat} {S : am_S} (h : SH aw S) (ihR : RC sc aw NN) (hN : 48 - lv S < (NN : Int) + 1) (hd : (30 : Int) * (48 - lv S) ≤ (d : Int)) (p0 : 0 ≤ nx S) (p1 : nx S ≤ wr S) (p2 : wr S ≤ 600) (p3 : 0 ≤ lv S) (p4 : lv S ≤ 48) (p5 : 1 ≤ iv S 13 1) (p6 : iv S 13 1 ≤ lv S + 1) (p7 : iv S 5 1 ≤ nx S + 1) (p8 : kd aw S = 31) : am_E (am_PP sc) (d + 19) 130 0 [some (.ref 7), none, none] [] S (am_T (fun v S1 => v = none ∧ Ad aw S S1 ∧ (nx S + 1 ≤ nx S1) ∧ (nx S1 ≤ wr S1) ∧ (lv S1 = lv S + 0) ∧ (EN S1 + -10000 * nx S1 ≤ EN S + -10000 * nx S + (-5000)) ∧ (iv S 8 1 ≤ iv S1 8 1) ∧ (iv S 10 1 ≤ iv S1 10 1)) (fun S1 => TH aw 2000 S S1)) := by
  refine am_e2 (v := 7) hi_130_0 rfl ?_
  refine am_e32n (as := [.ref 7]) (la := [some (.ref 7)]) (rest := []) hi_130_1 (am_hd0 (M := 130) (by decide) 1) (Nat.le_of_ble_eq_true rfl) (Nat.le_of_ble_eq_true rfl) (show 1 ≤ am_P0.2.2.1 98 from by decide +kernel) rfl (cl_recv (h.1.s (7, 6) (by decide))) rfl rfl (ck_here (d := (d + 17)) h   ) ?_
  rintro v1 S2 ⟨r3, rfl, rfl, h5, h6⟩
  have h5_ : 0 ≤ r3.toInt := h5
  have h6_ : r3.toInt ≤ 2097154 := h6
  show am_E _ _ _ _ [some (.ref 7), none, none] [.int r3] _ _
  refine am_e3 (ls' := [some (.ref 7), some (.int r3), none]) hi_130_4 (Nat.le_of_ble_eq_true rfl) rfl ?_
  refine am_e2 (v := 7) hi_130_5 rfl ?_
  refine am_e0 hi_130_6 ?_
  refine am_e0 hi_130_8 ?_
  refine am_e0 hi_130_9 ?_
  refine am_e2 (v := 7) hi_130_10 rfl ?_
  refine cm_20f (r := 2) h hi_130_11 (h.1.s (7, 6) (by decide)) (by decide) rfl ?_
  refine am_e32x (as := [.ref 2]) (la := [some (.ref 2)]) (rest := [.int 0, .int 0, .int 34, .ref 7]) hi_130_14 (am_hd0 (M := 130) (by decide) 14) (Nat.le_of_ble_eq_true rfl) (Nat.le_of_ble_eq_true rfl) (show 1 ≤ am_P0.2.2.1 63 from by decide +kernel) rfl (cl_recv (h.1.s (2, 2) (by decide))) rfl rfl ?_
  refine am_e2 (v := 2) hi_63_0 rfl ?_
  refine cm_20i h hi_63_1 (h.1.s (2, 2) (by decide)) (by decide) rfl fun v8 hv8 => ?_
  have hv8_ : v8.toInt = nx S := hv8
  refine am_e33 hi_63_4 ?_
  show am_E _ _ _ _ [some (.ref 7), some (.int r3), none] [.int v8, .int 0, .int 0, .int 34, .ref 7] _ _
  refine am_e32n (as := [.ref 7, .int 34, .int 0, .int 0, .int v8]) (la := [some (.ref 7), some (.int 34), some (.int 0), some (.int 0), some (.int v8)]) (rest := []) hi_130_17 (am_hd0 (M := 130) (by decide) 17) (Nat.le_of_ble_eq_true rfl) (Nat.le_of_ble_eq_true rfl) (show 5 ≤ am_P0.2.2.1 78 from by decide +kernel) rfl (cl_recv (h.1.s (7, 6) (by decide))) rfl rfl (ck_emit (d := (d + 15)) h   ) ?_
  rintro v9 S10 ⟨r11, rfl, h12, h13, h14, h15⟩
  have h13_ : iv S10 8 1 = iv S 8 1 := h13
  have h14_ : iv S10 10 1 = iv S 10 1 := h14
  have h15_ : iv S10 14 1 = iv S 14 1 := h15
  obtain ⟨h17, h18, ⟨h19, h20, h21, h22⟩, ⟨h23, h24, h25⟩, h27⟩ := h12
  have h28 : kd aw S10 = kd aw S := kd_eq h19 h22
  have h29 := os_5 h23 1
  have h30 := os_13 h23 1
  show am_E _ _ _ _ [some (.ref 7), some (.int r3), none] [.int r11] _ _
  refine am_e6i hi_130_20 ?_
  refine am_e2 (v := 7) hi_130_21 rfl ?_
  refine cm_20f (r := 2) h17 hi_130_22 (h17.1.s (7, 6) (by decide)) (by decide) rfl ?_
  refine am_e32t (as := [.ref 2]) (la := [some (.ref 2), none]) (rest := []) hi_130_25 (am_hd0 (M := 130) (by decide) 25) (Nat.le_of_ble_eq_true rfl) (Nat.le_of_ble_eq_true rfl) (show 1 ≤ am_P0.2.2.1 55 from by decide +kernel) rfl (cl_recv (h17.1.s (2, 2) (by decide))) rfl rfl (ck_skip (d := (d + 5)) h17   (by show 0 ≤ nx S10; omega) (by show nx S10 ≤ wr S10; omega) (by show wr S10 ≤ 600; omega) (by show 0 ≤ lv S10; omega) (by show lv S10 ≤ 48; omega) (by show kd aw S10 ≠ 0; omega)) (fun S47 h48 => (show TH aw 2000 S S47 from ⟨h48.1, h18.trans h48.2.1, ⟨(by have q := h48.2.2.1.1; omega), h48.2.2.1.2.trans h22⟩, h48.2.2.2.1, h48.2.2.2.2.1, (by have q := h48.2.2.2.2.2; omega)⟩)) ?_
  rintro v31 S32 ⟨r33, rfl, h34, h35, h36, h37, h38⟩
  have h35_ : nx S32 = nx S10 + 1 := h35
  have h36_ : lv S32 = lv S10 + c_dl (kd aw S10) := h36
  have h37_ : lv S32 ≤ 48 := h37
  have h38_ : nx S32 ≤ wr S32 := h38
  obtain ⟨h49, h50, ⟨h53, h54⟩, ⟨h55, h56, h57⟩, h58, h59⟩ := h34
  have h60 := h58 8 (h17.1.s (8, 3) (by decide))
  have h61 := h58 10 (h17.1.s (10, 3) (by decide))
  have h62 := os_5 h55 1
  have h63 := os_13 h55 1
  have h64 : c_dl (kd aw S10) = 0 := by unfold c_dl; split <;> split <;> omega
  show am_E _ _ _ _ [some (.ref 7), some (.int r3), none] [.int r33] _ _
  refine am_e6i hi_130_28 ?_
  refine am_e2 (v := 7) hi_130_29 rfl ?_
  refine am_e32q (d1 := d + 0 + 18) (by omega) (as := [.ref 7]) (la := [some (.ref 7), none, none, none, none, none]) (rest := []) hi_130_30 (am_hd0 (M := 130) (by decide) 30) (Nat.le_of_ble_eq_true rfl) (Nat.le_of_ble_eq_true rfl) (show 1 ≤ am_P0.2.2.1 70 from by decide +kernel) rfl (cl_recv (h49.1.s (7, 6) (by decide))) rfl rfl (cr_expression (d := d + 0) h49  ihR (by show 48 - lv S32 < (NN : Int) + 1; omega) (by show (30 : Int) * (48 - lv S32) ≤ ((d + 0 : Nat) : Int); omega) (by show 0 ≤ nx S32; omega) (by show nx S32 ≤ wr S32; omega) (by show wr S32 ≤ 600; omega) (by show 0 ≤ lv S32; omega) (by show lv S32 ≤ 48; omega) (by show 1 ≤ iv S32 13 1; omega) (by show iv S32 13 1 ≤ lv S32 + 1; omega) (by show iv S32 5 1 ≤ nx S32 + 1; omega)) (fun S76 h77 => (show TH aw 2000 S S76 from ⟨h77.1, (h18.trans h50).trans h77.2.1, ⟨(by have q := h77.2.2.1.1; omega), h77.2.2.1.2.trans (h54.trans h22)⟩, h77.2.2.2.1, h77.2.2.2.2.1, (by have q := h77.2.2.2.2.2; omega)⟩)) ?_
  rintro v65 S66 ⟨rfl, h68, h69, h70, h71, h72, h73, h74⟩
  have h69_ : nx S32 + 1 ≤ nx S66 := h69
  have h70_ : nx S66 ≤ wr S66 := h70
  have h71_ : lv S66 = lv S32 + 0 := h71
  have h72_ : EN S66 + -10000 * nx S66 ≤ EN S32 + -10000 * nx S32 + (-2000) := h72
  have h73_ : iv S32 8 1 ≤ iv S66 8 1 := h73
  have h74_ : iv S32 10 1 ≤ iv S66 10 1 := h74
  obtain ⟨h78, h79, ⟨h82, h83⟩, ⟨h84, h85⟩⟩ := h68
  show am_E _ _ _ _ [some (.ref 7), some (.int r3), none] [] _ _
  refine am_e2 (v := 7) hi_130_33 rfl ?_
  refine am_e0 hi_130_34 ?_
  refine am_e0 hi_130_36 ?_
  refine am_e0 hi_130_37 ?_
  refine am_e0 hi_130_38 ?_
  refine am_e32n (as := [.ref 7, .int 35, .int 0, .int 0, .int 0]) (la := [some (.ref 7), some (.int 35), some (.int 0), some (.int 0), some (.int 0)]) (rest := []) hi_130_39 (am_hd0 (M := 130) (by decide) 39) (Nat.le_of_ble_eq_true rfl) (Nat.le_of_ble_eq_true rfl) (show 5 ≤ am_P0.2.2.1 78 from by decide +kernel) rfl (cl_recv (h78.1.s (7, 6) (by decide))) rfl rfl (ck_emit (d := (d + 15)) h78   ) ?_
  rintro v89 S90 ⟨r91, rfl, h92, h93, h94, h95⟩
  have h93_ : iv S90 8 1 = iv S66 8 1 := h93
  have h94_ : iv S90 10 1 = iv S66 10 1 := h94
  have h95_ : iv S90 14 1 = iv S66 14 1 := h95
  obtain ⟨h97, h98, ⟨h99, h100, h101, h102⟩, ⟨h103, h104, h105⟩, h107⟩ := h92
  have h108 : kd aw S90 = kd aw S66 := kd_eq h99 h102
  have h109 := os_5 h103 1
  have h110 := os_13 h103 1
  show am_E _ _ _ _ [some (.ref 7), some (.int r3), none] [.int r91] _ _
  refine am_e3 (ls' := [some (.ref 7), some (.int r3), some (.int r91)]) hi_130_42 (Nat.le_of_ble_eq_true rfl) rfl ?_
  refine am_e2 (v := 7) hi_130_43 rfl ?_
  refine cm_20f (r := 2) h97 hi_130_44 (h97.1.s (7, 6) (by decide)) (by decide) rfl ?_
  refine am_e0 hi_130_47 ?_
  refine am_e32t (as := [.ref 2, .int 12]) (la := [some (.ref 2), some (.int 12)]) (rest := []) hi_130_49 (am_hd0 (M := 130) (by decide) 49) (Nat.le_of_ble_eq_true rfl) (Nat.le_of_ble_eq_true rfl) (show 2 ≤ am_P0.2.2.1 64 from by decide +kernel) rfl (cl_recv (h97.1.s (2, 2) (by decide))) rfl rfl (ck_take (d := (d + 4)) h97   (by show 0 ≤ nx S90; omega) (by show nx S90 ≤ wr S90; omega) (by show wr S90 ≤ 600; omega) (by show 0 ≤ lv S90; omega) (by show lv S90 ≤ 48; omega) (by show ¬ (12 : Int) = 0; omega)) (fun S128 h129 => (show TH aw 2000 S S128 from ⟨h129.1, (((h18.trans h50).trans h79).trans h98).trans h129.2.1, ⟨(by have q := h129.2.2.1.1; omega), h129.2.2.1.2.trans (h102.trans (h83.trans (h54.trans h22)))⟩, h129.2.2.2.1, h129.2.2.2.2.1, (by have q := h129.2.2.2.2.2; omega)⟩)) ?_
  rintro v111 S112 ⟨r113, rfl, h114, h115, h116, h117, h118, h119⟩
  have h115_ : kd aw S90 = (12 : Int) := h115
  have h116_ : nx S112 = nx S90 + 1 := h116
  have h117_ : lv S112 = lv S90 + c_dl (kd aw S90) := h117
  have h118_ : lv S112 ≤ 48 := h118
  have h119_ : nx S112 ≤ wr S112 := h119
  obtain ⟨h130, h131, ⟨h134, h135⟩, ⟨h136, h137, h138⟩, h139, h140⟩ := h114
  have h141 := h139 8 (h97.1.s (8, 3) (by decide))
  have h142 := h139 10 (h97.1.s (10, 3) (by decide))
  have h143 := os_5 h136 1
  have h144 := os_13 h136 1
  have h145 : c_dl (kd aw S90) = 1 := by unfold c_dl; split <;> split <;> omega
  show am_E _ _ _ _ [some (.ref 7), some (.int r3), some (.int r91)] [.int r113] _ _
  refine am_e6i hi_130_52 ?_
  refine am_e2 (v := 7) hi_130_53 rfl ?_
  refine cm_20f (r := 12) h130 hi_130_54 (h130.1.s (7, 6) (by decide)) (by decide) rfl ?_
  refine cm_20f (r := 23) h130 hi_130_57 (h130.1.s (12, 7) (by decide)) (by decide) rfl ?_
  refine am_e2 (v := 7) hi_130_60 rfl ?_
  refine cm_20f (r := 12) h130 hi_130_61 (h130.1.s (7, 6) (by decide)) (by decide) rfl ?_
  refine am_e32n (as := [.ref 12]) (la := [some (.ref 12)]) (rest := [.ref 23]) hi_130_64 (am_hd0 (M := 130) (by decide) 64) (Nat.le_of_ble_eq_true rfl) (Nat.le_of_ble_eq_true rfl) (show 1 ≤ am_P0.2.2.1 75 from by decide +kernel) rfl (cl_recv (h130.1.s (12, 7) (by decide))) rfl rfl (ck_scount (d := (d + 17)) h130   ) ?_
  rintro v146 S147 ⟨r148, rfl, rfl, h150⟩
  have h150_ : r148.toInt = iv S112 14 1 + -1 * fl S112 := h150
  show am_E _ _ _ _ [some (.ref 7), some (.int r3), some (.int r91)] [.int r148, .ref 23] _ _
  refine am_e32n (as := [.ref 23, .int r148]) (la := [some (.ref 23), some (.int r148)]) (rest := []) hi_130_67 (am_hd0 (M := 130) (by decide) 67) (Nat.le_of_ble_eq_true rfl) (Nat.le_of_ble_eq_true rfl) (show 2 ≤ am_P0.2.2.1 131 from by decide +kernel) rfl (cl_recv (h130.1.s (23, 9) (by decide))) rfl rfl (ck_openLoop (d := (d + 15)) h130   ) ?_
  rintro v152 S153 ⟨rfl, h155, h156, h157, h158⟩
  have h156_ : iv S153 8 1 = iv S112 8 1 := h156
  have h157_ : iv S153 10 1 = iv S112 10 1 := h157
  have h158_ : iv S153 14 1 = iv S112 14 1 := h158
  obtain ⟨h160, h161, ⟨h162, h163, h164, h165⟩, ⟨h166, h167, h168⟩, h170⟩ := h155
  have h171 : kd aw S153 = kd aw S112 := kd_eq h162 h165
  have h172 := os_5 h166 1
  have h173 := os_13 h166 1
  show am_E _ _ _ _ [some (.ref 7), some (.int r3), some (.int r91)] [] _ _
  refine am_e2 (v := 7) hi_130_70 rfl ?_
  refine am_e32q (d1 := d - 30 + 26 + 22) (by omega) (as := [.ref 7]) (la := [some (.ref 7)]) (rest := []) hi_130_71 (am_hd0 (M := 130) (by decide) 71) (Nat.le_of_ble_eq_true rfl) (Nat.le_of_ble_eq_true rfl) (show 1 ≤ am_P0.2.2.1 128 from by decide +kernel) rfl (cl_recv (h160.1.s (7, 6) (by decide))) rfl rfl (rc_128 ihR (d - 30 + 26) _  h160  (by show 48 - lv S153 < (NN : Int); omega) (by show (30 : Int) * (48 - lv S153) ≤ ((d - 30 + 26 : Nat) : Int); omega) (by show 0 ≤ nx S153; omega) (by show nx S153 ≤ wr S153; omega) (by show wr S153 ≤ 600; omega) (by show 0 ≤ lv S153; omega) (by show lv S153 ≤ 48; omega) (by show 1 ≤ iv S153 13 1; omega) (by show iv S153 13 1 ≤ lv S153 + 1; omega) (by show iv S153 5 1 ≤ nx S153 + 1; omega)) (fun S185 h186 => (show TH aw 2000 S S185 from ⟨h186.1, (((((h18.trans h50).trans h79).trans h98).trans h131).trans h161).trans h186.2.1, ⟨(by have q := h186.2.2.1.1; omega), h186.2.2.1.2.trans (h165.trans (h135.trans (h102.trans (h83.trans (h54.trans h22)))))⟩, h186.2.2.2.1, h186.2.2.2.2.1, (by have q := h186.2.2.2.2.2; omega)⟩)) ?_
  rintro v174 S175 ⟨rfl, h177, h178, h179, h180, h181, h182, h183⟩
  have h178_ : nx S153 + 0 ≤ nx S175 := h178
  have h179_ : nx S175 ≤ wr S175 := h179
  have h180_ : lv S175 = lv S153 + 0 := h180
  have h181_ : EN S175 + -10000 * nx S175 ≤ EN S153 + -10000 * nx S153 + 500 := h181
  have h182_ : iv S153 8 1 ≤ iv S175 8 1 := h182
  have h183_ : iv S153 10 1 ≤ iv S175 10 1 := h183
  obtain ⟨h187, h188, ⟨h191, h192⟩, ⟨h193, h194⟩⟩ := h177
  show am_E _ _ _ _ [some (.ref 7), some (.int r3), some (.int r91)] [] _ _
  refine am_e2 (v := 7) hi_130_74 rfl ?_
  refine cm_20f (r := 2) h187 hi_130_75 (h187.1.s (7, 6) (by decide)) (by decide) rfl ?_
  refine am_e0 hi_130_78 ?_
  refine am_e32t (as := [.ref 2, .int 15]) (la := [some (.ref 2), some (.int 15)]) (rest := []) hi_130_80 (am_hd0 (M := 130) (by decide) 80) (Nat.le_of_ble_eq_true rfl) (Nat.le_of_ble_eq_true rfl) (show 2 ≤ am_P0.2.2.1 64 from by decide +kernel) rfl (cl_recv (h187.1.s (2, 2) (by decide))) rfl rfl (ck_take (d := (d + 4)) h187   (by show 0 ≤ nx S175; omega) (by show nx S175 ≤ wr S175; omega) (by show wr S175 ≤ 600; omega) (by show 0 ≤ lv S175; omega) (by show lv S175 ≤ 48; omega) (by show ¬ (15 : Int) = 0; omega)) (fun S215 h216 => (show TH aw 2000 S S215 from ⟨h216.1, ((((((h18.trans h50).trans h79).trans h98).trans h131).trans h161).trans h188).trans h216.2.1, ⟨(by have q := h216.2.2.1.1; omega), h216.2.2.1.2.trans (h192.trans (h165.trans (h135.trans (h102.trans (h83.trans (h54.trans h22))))))⟩, h216.2.2.2.1, h216.2.2.2.2.1, (by have q := h216.2.2.2.2.2; omega)⟩)) ?_
  rintro v198 S199 ⟨r200, rfl, h201, h202, h203, h204, h205, h206⟩
  have h202_ : kd aw S175 = (15 : Int) := h202
  have h203_ : nx S199 = nx S175 + 1 := h203
  have h204_ : lv S199 = lv S175 + c_dl (kd aw S175) := h204
  have h205_ : lv S199 ≤ 48 := h205
  have h206_ : nx S199 ≤ wr S199 := h206
  obtain ⟨h217, h218, ⟨h221, h222⟩, ⟨h223, h224, h225⟩, h226, h227⟩ := h201
  have h228 := h226 8 (h187.1.s (8, 3) (by decide))
  have h229 := h226 10 (h187.1.s (10, 3) (by decide))
  have h230 := os_5 h223 1
  have h231 := os_13 h223 1
  have h232 : c_dl (kd aw S175) = -1 := by unfold c_dl; split <;> split <;> omega
  show am_E _ _ _ _ [some (.ref 7), some (.int r3), some (.int r91)] [.int r200] _ _
  refine am_e6i hi_130_83 ?_
  refine am_e2 (v := 7) hi_130_84 rfl ?_
  refine am_e0 hi_130_85 ?_
  refine am_e1 (v := r3) hi_130_87 rfl ?_
  refine am_e0 hi_130_88 ?_
  refine am_e0 hi_130_89 ?_
  refine am_e32n (as := [.ref 7, .int 36, .int r3, .int 0, .int 0]) (la := [some (.ref 7), some (.int 36), some (.int r3), some (.int 0), some (.int 0)]) (rest := []) hi_130_90 (am_hd0 (M := 130) (by decide) 90) (Nat.le_of_ble_eq_true rfl) (Nat.le_of_ble_eq_true rfl) (show 5 ≤ am_P0.2.2.1 78 from by decide +kernel) rfl (cl_recv (h217.1.s (7, 6) (by decide))) rfl rfl (ck_emit (d := (d + 15)) h217   ) ?_
  rintro v233 S234 ⟨r235, rfl, h236, h237, h238, h239⟩
  have h237_ : iv S234 8 1 = iv S199 8 1 := h237
  have h238_ : iv S234 10 1 = iv S199 10 1 := h238
  have h239_ : iv S234 14 1 = iv S199 14 1 := h239
  obtain ⟨h241, h242, ⟨h243, h244, h245, h246⟩, ⟨h247, h248, h249⟩, h251⟩ := h236
  have h252 : kd aw S234 = kd aw S199 := kd_eq h243 h246
  have h253 := os_5 h247 1
  have h254 := os_13 h247 1
  show am_E _ _ _ _ [some (.ref 7), some (.int r3), some (.int r91)] [.int r235] _ _
  refine am_e6i hi_130_93 ?_
  refine am_e2 (v := 7) hi_130_94 rfl ?_
  refine cm_20f (r := 12) h241 hi_130_95 (h241.1.s (7, 6) (by decide)) (by decide) rfl ?_
  refine am_e32x (as := [.ref 12]) (la := [some (.ref 12)]) (rest := []) hi_130_98 (am_hd0 (M := 130) (by decide) 98) (Nat.le_of_ble_eq_true rfl) (Nat.le_of_ble_eq_true rfl) (show 1 ≤ am_P0.2.2.1 79 from by decide +kernel) rfl (cl_recv (h241.1.s (12, 7) (by decide))) rfl rfl ?_
  refine am_e2 (v := 12) hi_79_0 rfl ?_
  refine cm_20n h241 hi_79_1 fun hb255 => ?_
  refine am_e34 hi_79_4 ?_
  show am_E _ _ _ _ [some (.ref 7), some (.int r3), some (.int r91)] [.ref (nw S234)] _ _
  refine am_e1 (v := r91) hi_130_101 rfl ?_
  refine am_e0 hi_130_102 ?_
  refine am_e32n (as := [.ref (nw S234), .int r91, .int 1]) (la := [some (.ref (nw S234)), some (.int r91), some (.int 1)]) (rest := []) hi_130_103 (am_hd0 (M := 130) (by decide) 103) (Nat.le_of_ble_eq_true rfl) (Nat.le_of_ble_eq_true rfl) (show 3 ≤ am_P0.2.2.1 109 from by decide +kernel) rfl (cl_recv hb255) rfl rfl (ck_leadHere (d := (d + 17)) h241 hb255  ) ?_
  rintro v256 S257 ⟨rfl, h259⟩
  obtain ⟨h261, h262, ⟨h263, h264, h265, h266⟩, ⟨h267, h268, h269⟩, h270, h271⟩ := h259
  have h272 : kd aw S257 = kd aw S234 := kd_eq h263 h266
  have h273 := h270 8 (h241.1.s (8, 3) (by decide))
  have h274 := h270 10 (h241.1.s (10, 3) (by decide))
  have h275 := os_5 h267 1
  have h276 := os_13 h267 1
  show am_E _ _ _ _ [some (.ref 7), some (.int r3), some (.int r91)] [] _ _
  refine am_e2 (v := 7) hi_130_106 rfl ?_
  refine cm_20f (r := 12) h261 hi_130_107 (h261.1.s (7, 6) (by decide)) (by decide) rfl ?_
  refine cm_20f (r := 23) h261 hi_130_110 (h261.1.s (12, 7) (by decide)) (by decide) rfl ?_
  refine am_e2 (v := 7) hi_130_113 rfl ?_
  refine cm_20f (r := 12) h261 hi_130_114 (h261.1.s (7, 6) (by decide)) (by decide) rfl ?_
  refine am_e32x (as := [.ref 12]) (la := [some (.ref 12)]) (rest := [.ref 23]) hi_130_117 (am_hd0 (M := 130) (by decide) 117) (Nat.le_of_ble_eq_true rfl) (Nat.le_of_ble_eq_true rfl) (show 1 ≤ am_P0.2.2.1 79 from by decide +kernel) rfl (cl_recv (h261.1.s (12, 7) (by decide))) rfl rfl ?_
  refine am_e2 (v := 12) hi_79_0 rfl ?_
  refine cm_20n h261 hi_79_1 fun hb277 => ?_
  refine am_e34 hi_79_4 ?_
  show am_E _ _ _ _ [some (.ref 7), some (.int r3), some (.int r91)] [.ref (nw S257), .ref 23] _ _
  refine am_e32n (as := [.ref 23, .ref (nw S257)]) (la := [some (.ref 23), some (.ref (nw S257)), none, none]) (rest := []) hi_130_120 (am_hd0 (M := 130) (by decide) 120) (Nat.le_of_ble_eq_true rfl) (Nat.le_of_ble_eq_true rfl) (show 2 ≤ am_P0.2.2.1 132 from by decide +kernel) rfl (cl_recv (h261.1.s (23, 9) (by decide))) rfl rfl (ck_closeLoop (d := (d + 16)) h261 hb277  ) ?_
  rintro v278 S279 ⟨rfl, h281, h282, h283, h284⟩
  have h282_ : iv S279 8 1 = iv S257 8 1 := h282
  have h283_ : iv S279 10 1 = iv S257 10 1 := h283
  have h284_ : iv S279 14 1 = iv S257 14 1 := h284
  obtain ⟨h286, h287, ⟨h288, h289, h290, h291⟩, ⟨h292, h293, h294⟩, h296⟩ := h281
  have h297 : kd aw S279 = kd aw S257 := kd_eq h288 h291
  have h298 := os_5 h292 1
  have h299 := os_13 h292 1
  show am_E _ _ _ _ [some (.ref 7), some (.int r3), some (.int r91)] [] _ _
  refine am_e35 hi_130_123 ?_
  exact ⟨rfl, ⟨h286, ((((((((((h18.trans h50).trans h79).trans h98).trans h131).trans h161).trans h188).trans h218).trans h242).trans h262).trans h287), ⟨(by show wr S279 = wr S; omega), (h291.trans (h266.trans (h246.trans (h222.trans (h192.trans (h165.trans (h135.trans (h102.trans (h83.trans (h54.trans h22))))))))))⟩, ⟨(by show iv S279 13 1 = iv S 13 1; omega), (by show iv S279 5 1 - nx S279 ≤ iv S 5 1 - nx S; omega)⟩⟩, (by show nx S + 1 ≤ nx S279; omega), (by show nx S279 ≤ wr S279; omega), (by show lv S279 = lv S + 0; omega), (by show EN S279 + -10000 * nx S279 ≤ EN S + -10000 * nx S + (-5000); omega), (by show iv S 8 1 ≤ iv S279 8 1; omega), (by show iv S 10 1 ≤ iv S279 10 1; omega)⟩
theorem cr_repeat {sc : Nat × (Nat → Int32)} {d aw NN : Nat} {S : am_S} (h : SH aw S) (ihR : RC sc aw NN) (hN : 48 - lv S < (NN : Int) + 1) (hd : (30 : Int) * (48 - lv S) ≤ (d : Int)) (p0 : 0 ≤ nx S) (p1 : nx S ≤ wr S) (p2 : wr S ≤ 600) (p3 : 0 ≤ lv S) (p4 : lv S ≤ 48) (p5 : 1 ≤ iv S 13 1) (p6 : iv S 13 1 ≤ lv S + 1) (p7 : iv S 5 1 ≤ nx S + 1) (p8 : kd aw S = 26) : am_E (am_PP sc) (d + 19) 133 0 [some (.ref 7), none, none] [] S (am_T (fun v S1 => v = none ∧ Ad aw S S1 ∧ (nx S + 1 ≤ nx S1) ∧ (nx S1 ≤ wr S1) ∧ (lv S1 = lv S + 0) ∧ (EN S1 + -10000 * nx S1 ≤ EN S + -10000 * nx S + (-5000)) ∧ (iv S 8 1 ≤ iv S1 8 1) ∧ (iv S 10 1 ≤ iv S1 10 1)) (fun S1 => TH aw 2000 S S1)) := by
  refine am_e2 (v := 7) hi_133_0 rfl ?_
  refine am_e32n (as := [.ref 7]) (la := [some (.ref 7)]) (rest := []) hi_133_1 (am_hd0 (M := 133) (by decide) 1) (Nat.le_of_ble_eq_true rfl) (Nat.le_of_ble_eq_true rfl) (show 1 ≤ am_P0.2.2.1 98 from by decide +kernel) rfl (cl_recv (h.1.s (7, 6) (by decide))) rfl rfl (ck_here (d := (d + 17)) h   ) ?_
  rintro v1 S2 ⟨r3, rfl, rfl, h5, h6⟩
  have h5_ : 0 ≤ r3.toInt := h5
  have h6_ : r3.toInt ≤ 2097154 := h6
  show am_E _ _ _ _ [some (.ref 7), none, none] [.int r3] _ _
  refine am_e3 (ls' := [some (.ref 7), some (.int r3), none]) hi_133_4 (Nat.le_of_ble_eq_true rfl) rfl ?_
  refine am_e2 (v := 7) hi_133_5 rfl ?_
  refine am_e0 hi_133_6 ?_
  refine am_e0 hi_133_8 ?_
  refine am_e0 hi_133_9 ?_
  refine am_e2 (v := 7) hi_133_10 rfl ?_
  refine cm_20f (r := 2) h hi_133_11 (h.1.s (7, 6) (by decide)) (by decide) rfl ?_
  refine am_e32x (as := [.ref 2]) (la := [some (.ref 2)]) (rest := [.int 0, .int 0, .int 34, .ref 7]) hi_133_14 (am_hd0 (M := 133) (by decide) 14) (Nat.le_of_ble_eq_true rfl) (Nat.le_of_ble_eq_true rfl) (show 1 ≤ am_P0.2.2.1 63 from by decide +kernel) rfl (cl_recv (h.1.s (2, 2) (by decide))) rfl rfl ?_
  refine am_e2 (v := 2) hi_63_0 rfl ?_
  refine cm_20i h hi_63_1 (h.1.s (2, 2) (by decide)) (by decide) rfl fun v8 hv8 => ?_
  have hv8_ : v8.toInt = nx S := hv8
  refine am_e33 hi_63_4 ?_
  show am_E _ _ _ _ [some (.ref 7), some (.int r3), none] [.int v8, .int 0, .int 0, .int 34, .ref 7] _ _
  refine am_e32n (as := [.ref 7, .int 34, .int 0, .int 0, .int v8]) (la := [some (.ref 7), some (.int 34), some (.int 0), some (.int 0), some (.int v8)]) (rest := []) hi_133_17 (am_hd0 (M := 133) (by decide) 17) (Nat.le_of_ble_eq_true rfl) (Nat.le_of_ble_eq_true rfl) (show 5 ≤ am_P0.2.2.1 78 from by decide +kernel) rfl (cl_recv (h.1.s (7, 6) (by decide))) rfl rfl (ck_emit (d := (d + 15)) h   ) ?_
  rintro v9 S10 ⟨r11, rfl, h12, h13, h14, h15⟩
  have h13_ : iv S10 8 1 = iv S 8 1 := h13
  have h14_ : iv S10 10 1 = iv S 10 1 := h14
  have h15_ : iv S10 14 1 = iv S 14 1 := h15
  obtain ⟨h17, h18, ⟨h19, h20, h21, h22⟩, ⟨h23, h24, h25⟩, h27⟩ := h12
  have h28 : kd aw S10 = kd aw S := kd_eq h19 h22
  have h29 := os_5 h23 1
  have h30 := os_13 h23 1
  show am_E _ _ _ _ [some (.ref 7), some (.int r3), none] [.int r11] _ _
  refine am_e6i hi_133_20 ?_
  refine am_e2 (v := 7) hi_133_21 rfl ?_
  refine cm_20f (r := 2) h17 hi_133_22 (h17.1.s (7, 6) (by decide)) (by decide) rfl ?_
  refine am_e32t (as := [.ref 2]) (la := [some (.ref 2), none]) (rest := []) hi_133_25 (am_hd0 (M := 133) (by decide) 25) (Nat.le_of_ble_eq_true rfl) (Nat.le_of_ble_eq_true rfl) (show 1 ≤ am_P0.2.2.1 55 from by decide +kernel) rfl (cl_recv (h17.1.s (2, 2) (by decide))) rfl rfl (ck_skip (d := (d + 5)) h17   (by show 0 ≤ nx S10; omega) (by show nx S10 ≤ wr S10; omega) (by show wr S10 ≤ 600; omega) (by show 0 ≤ lv S10; omega) (by show lv S10 ≤ 48; omega) (by show kd aw S10 ≠ 0; omega)) (fun S47 h48 => (show TH aw 2000 S S47 from ⟨h48.1, h18.trans h48.2.1, ⟨(by have q := h48.2.2.1.1; omega), h48.2.2.1.2.trans h22⟩, h48.2.2.2.1, h48.2.2.2.2.1, (by have q := h48.2.2.2.2.2; omega)⟩)) ?_
  rintro v31 S32 ⟨r33, rfl, h34, h35, h36, h37, h38⟩
  have h35_ : nx S32 = nx S10 + 1 := h35
  have h36_ : lv S32 = lv S10 + c_dl (kd aw S10) := h36
  have h37_ : lv S32 ≤ 48 := h37
  have h38_ : nx S32 ≤ wr S32 := h38
  obtain ⟨h49, h50, ⟨h53, h54⟩, ⟨h55, h56, h57⟩, h58, h59⟩ := h34
  have h60 := h58 8 (h17.1.s (8, 3) (by decide))
  have h61 := h58 10 (h17.1.s (10, 3) (by decide))
  have h62 := os_5 h55 1
  have h63 := os_13 h55 1
  have h64 : c_dl (kd aw S10) = 1 := by unfold c_dl; split <;> split <;> omega
  show am_E _ _ _ _ [some (.ref 7), some (.int r3), none] [.int r33] _ _
  refine am_e6i hi_133_28 ?_
  refine am_e2 (v := 7) hi_133_29 rfl ?_
  refine cm_20f (r := 12) h49 hi_133_30 (h49.1.s (7, 6) (by decide)) (by decide) rfl ?_
  refine cm_20f (r := 23) h49 hi_133_33 (h49.1.s (12, 7) (by decide)) (by decide) rfl ?_
  refine am_e2 (v := 7) hi_133_36 rfl ?_
  refine cm_20f (r := 12) h49 hi_133_37 (h49.1.s (7, 6) (by decide)) (by decide) rfl ?_
  refine am_e32n (as := [.ref 12]) (la := [some (.ref 12)]) (rest := [.ref 23]) hi_133_40 (am_hd0 (M := 133) (by decide) 40) (Nat.le_of_ble_eq_true rfl) (Nat.le_of_ble_eq_true rfl) (show 1 ≤ am_P0.2.2.1 75 from by decide +kernel) rfl (cl_recv (h49.1.s (12, 7) (by decide))) rfl rfl (ck_scount (d := (d + 17)) h49   ) ?_
  rintro v65 S66 ⟨r67, rfl, rfl, h69⟩
  have h69_ : r67.toInt = iv S32 14 1 + -1 * fl S32 := h69
  show am_E _ _ _ _ [some (.ref 7), some (.int r3), none] [.int r67, .ref 23] _ _
  refine am_e32n (as := [.ref 23, .int r67]) (la := [some (.ref 23), some (.int r67)]) (rest := []) hi_133_43 (am_hd0 (M := 133) (by decide) 43) (Nat.le_of_ble_eq_true rfl) (Nat.le_of_ble_eq_true rfl) (show 2 ≤ am_P0.2.2.1 131 from by decide +kernel) rfl (cl_recv (h49.1.s (23, 9) (by decide))) rfl rfl (ck_openLoop (d := (d + 15)) h49   ) ?_
  rintro v71 S72 ⟨rfl, h74, h75, h76, h77⟩
  have h75_ : iv S72 8 1 = iv S32 8 1 := h75
  have h76_ : iv S72 10 1 = iv S32 10 1 := h76
  have h77_ : iv S72 14 1 = iv S32 14 1 := h77
  obtain ⟨h79, h80, ⟨h81, h82, h83, h84⟩, ⟨h85, h86, h87⟩, h89⟩ := h74
  have h90 : kd aw S72 = kd aw S32 := kd_eq h81 h84
  have h91 := os_5 h85 1
  have h92 := os_13 h85 1
  show am_E _ _ _ _ [some (.ref 7), some (.int r3), none] [] _ _
  refine am_e2 (v := 7) hi_133_46 rfl ?_
  refine cm_20f (r := 12) h79 hi_133_47 (h79.1.s (7, 6) (by decide)) (by decide) rfl ?_
  refine am_e32n (as := [.ref 12]) (la := [some (.ref 12)]) (rest := []) hi_133_50 (am_hd0 (M := 133) (by decide) 50) (Nat.le_of_ble_eq_true rfl) (Nat.le_of_ble_eq_true rfl) (show 1 ≤ am_P0.2.2.1 51 from by decide +kernel) rfl (cl_recv (h79.1.s (12, 7) (by decide))) rfl rfl (ck_openBlock (d := (d + 15)) h79   ) ?_
  rintro v93 S94 ⟨rfl, h96, h97, h98, h99⟩
  have h97_ : iv S94 8 1 = iv S72 8 1 := h97
  have h98_ : iv S94 10 1 = iv S72 10 1 := h98
  have h99_ : iv S94 14 1 = iv S72 14 1 := h99
  obtain ⟨h101, h102, ⟨h103, h104, h105, h106⟩, ⟨h107, h108, h109⟩, h111⟩ := h96
  have h112 : kd aw S94 = kd aw S72 := kd_eq h103 h106
  have h113 := os_5 h107 1
  have h114 := os_13 h107 1
  show am_E _ _ _ _ [some (.ref 7), some (.int r3), none] [] _ _
  refine am_e2 (v := 7) hi_133_53 rfl ?_
  refine am_e32q (d1 := d - 30 + 27 + 21) (by omega) (as := [.ref 7]) (la := [some (.ref 7), none]) (rest := []) hi_133_54 (am_hd0 (M := 133) (by decide) 54) (Nat.le_of_ble_eq_true rfl) (Nat.le_of_ble_eq_true rfl) (show 1 ≤ am_P0.2.2.1 52 from by decide +kernel) rfl (cl_recv (h101.1.s (7, 6) (by decide))) rfl rfl (rc_52 ihR (d - 30 + 27) _  h101  (by show 48 - lv S94 < (NN : Int); omega) (by show (30 : Int) * (48 - lv S94) ≤ ((d - 30 + 27 : Nat) : Int); omega) (by show 0 ≤ nx S94; omega) (by show nx S94 ≤ wr S94; omega) (by show wr S94 ≤ 600; omega) (by show 0 ≤ lv S94; omega) (by show lv S94 ≤ 48; omega) (by show 1 ≤ iv S94 13 1; omega) (by show iv S94 13 1 ≤ lv S94 + 1; omega) (by show iv S94 5 1 ≤ nx S94 + 1; omega)) (fun S126 h127 => (show TH aw 2000 S S126 from ⟨h127.1, (((h18.trans h50).trans h80).trans h102).trans h127.2.1, ⟨(by have q := h127.2.2.1.1; omega), h127.2.2.1.2.trans (h106.trans (h84.trans (h54.trans h22)))⟩, h127.2.2.2.1, h127.2.2.2.2.1, (by have q := h127.2.2.2.2.2; omega)⟩)) ?_
  rintro v115 S116 ⟨rfl, h118, h119, h120, h121, h122, h123, h124⟩
  have h119_ : nx S94 + 0 ≤ nx S116 := h119
  have h120_ : nx S116 ≤ wr S116 := h120
  have h121_ : lv S116 = lv S94 + 0 := h121
  have h122_ : EN S116 + -10000 * nx S116 ≤ EN S94 + -10000 * nx S94 + 0 := h122
  have h123_ : iv S94 8 1 ≤ iv S116 8 1 := h123
  have h124_ : iv S94 10 1 ≤ iv S116 10 1 := h124
  obtain ⟨h128, h129, ⟨h132, h133⟩, ⟨h134, h135⟩⟩ := h118
  show am_E _ _ _ _ [some (.ref 7), some (.int r3), none] [] _ _
  refine am_e2 (v := 7) hi_133_57 rfl ?_
  refine cm_20f (r := 2) h128 hi_133_58 (h128.1.s (7, 6) (by decide)) (by decide) rfl ?_
  refine am_e0 hi_133_61 ?_
  refine am_e32t (as := [.ref 2, .int 30]) (la := [some (.ref 2), some (.int 30)]) (rest := []) hi_133_63 (am_hd0 (M := 133) (by decide) 63) (Nat.le_of_ble_eq_true rfl) (Nat.le_of_ble_eq_true rfl) (show 2 ≤ am_P0.2.2.1 64 from by decide +kernel) rfl (cl_recv (h128.1.s (2, 2) (by decide))) rfl rfl (ck_take (d := (d + 4)) h128   (by show 0 ≤ nx S116; omega) (by show nx S116 ≤ wr S116; omega) (by show wr S116 ≤ 600; omega) (by show 0 ≤ lv S116; omega) (by show lv S116 ≤ 48; omega) (by show ¬ (30 : Int) = 0; omega)) (fun S156 h157 => (show TH aw 2000 S S156 from ⟨h157.1, ((((h18.trans h50).trans h80).trans h102).trans h129).trans h157.2.1, ⟨(by have q := h157.2.2.1.1; omega), h157.2.2.1.2.trans (h133.trans (h106.trans (h84.trans (h54.trans h22))))⟩, h157.2.2.2.1, h157.2.2.2.2.1, (by have q := h157.2.2.2.2.2; omega)⟩)) ?_
  rintro v139 S140 ⟨r141, rfl, h142, h143, h144, h145, h146, h147⟩
  have h143_ : kd aw S116 = (30 : Int) := h143
  have h144_ : nx S140 = nx S116 + 1 := h144
  have h145_ : lv S140 = lv S116 + c_dl (kd aw S116) := h145
  have h146_ : lv S140 ≤ 48 := h146
  have h147_ : nx S140 ≤ wr S140 := h147
  obtain ⟨h158, h159, ⟨h162, h163⟩, ⟨h164, h165, h166⟩, h167, h168⟩ := h142
  have h169 := h167 8 (h128.1.s (8, 3) (by decide))
  have h170 := h167 10 (h128.1.s (10, 3) (by decide))
  have h171 := os_5 h164 1
  have h172 := os_13 h164 1
  have h173 : c_dl (kd aw S116) = -1 := by unfold c_dl; split <;> split <;> omega
  show am_E _ _ _ _ [some (.ref 7), some (.int r3), none] [.int r141] _ _
  refine am_e6i hi_133_66 ?_
  refine am_e2 (v := 7) hi_133_67 rfl ?_
  refine am_e32q (d1 := d + 0 + 18) (by omega) (as := [.ref 7]) (la := [some (.ref 7), none, none, none, none, none]) (rest := []) hi_133_68 (am_hd0 (M := 133) (by decide) 68) (Nat.le_of_ble_eq_true rfl) (Nat.le_of_ble_eq_true rfl) (show 1 ≤ am_P0.2.2.1 70 from by decide +kernel) rfl (cl_recv (h158.1.s (7, 6) (by decide))) rfl rfl (cr_expression (d := d + 0) h158  ihR (by show 48 - lv S140 < (NN : Int) + 1; omega) (by show (30 : Int) * (48 - lv S140) ≤ ((d + 0 : Nat) : Int); omega) (by show 0 ≤ nx S140; omega) (by show nx S140 ≤ wr S140; omega) (by show wr S140 ≤ 600; omega) (by show 0 ≤ lv S140; omega) (by show lv S140 ≤ 48; omega) (by show 1 ≤ iv S140 13 1; omega) (by show iv S140 13 1 ≤ lv S140 + 1; omega) (by show iv S140 5 1 ≤ nx S140 + 1; omega)) (fun S185 h186 => (show TH aw 2000 S S185 from ⟨h186.1, (((((h18.trans h50).trans h80).trans h102).trans h129).trans h159).trans h186.2.1, ⟨(by have q := h186.2.2.1.1; omega), h186.2.2.1.2.trans (h163.trans (h133.trans (h106.trans (h84.trans (h54.trans h22)))))⟩, h186.2.2.2.1, h186.2.2.2.2.1, (by have q := h186.2.2.2.2.2; omega)⟩)) ?_
  rintro v174 S175 ⟨rfl, h177, h178, h179, h180, h181, h182, h183⟩
  have h178_ : nx S140 + 1 ≤ nx S175 := h178
  have h179_ : nx S175 ≤ wr S175 := h179
  have h180_ : lv S175 = lv S140 + 0 := h180
  have h181_ : EN S175 + -10000 * nx S175 ≤ EN S140 + -10000 * nx S140 + (-2000) := h181
  have h182_ : iv S140 8 1 ≤ iv S175 8 1 := h182
  have h183_ : iv S140 10 1 ≤ iv S175 10 1 := h183
  obtain ⟨h187, h188, ⟨h191, h192⟩, ⟨h193, h194⟩⟩ := h177
  show am_E _ _ _ _ [some (.ref 7), some (.int r3), none] [] _ _
  refine am_e2 (v := 7) hi_133_71 rfl ?_
  refine cm_20f (r := 12) h187 hi_133_72 (h187.1.s (7, 6) (by decide)) (by decide) rfl ?_
  refine am_e32n (as := [.ref 12]) (la := [some (.ref 12)]) (rest := []) hi_133_75 (am_hd0 (M := 133) (by decide) 75) (Nat.le_of_ble_eq_true rfl) (Nat.le_of_ble_eq_true rfl) (show 1 ≤ am_P0.2.2.1 129 from by decide +kernel) rfl (cl_recv (h187.1.s (12, 7) (by decide))) rfl rfl (ck_blockHas (d := (d + 16)) h187   ) ?_
  rintro v198 S199 ⟨r200, rfl, hb202, rfl⟩
  have hb202_ : r200.toInt = 0 ∨ r200.toInt = 1 := hb202.elim (fun e => Or.inl (by rw [e]; rfl)) (fun e => Or.inr (by rw [e]; rfl))
  show am_E _ _ _ _ [some (.ref 7), some (.int r3), none] [.int r200] _ _
  by_cases c203 : r200.toInt = (0 : Int)
  · refine am_e12t hi_133_78 (am_cT (m := r200.toInt) (n := (0 : Int)) rfl (by decide) c203) ?_
    refine am_e2 (v := 7) hi_133_148 rfl ?_
    refine am_e0 hi_133_149 ?_
    refine am_e1 (v := r3) hi_133_151 rfl ?_
    refine am_e0 hi_133_152 ?_
    refine am_e0 hi_133_153 ?_
    refine am_e32n (as := [.ref 7, .int 35, .int r3, .int 0, .int 0]) (la := [some (.ref 7), some (.int 35), some (.int r3), some (.int 0), some (.int 0)]) (rest := []) hi_133_154 (am_hd0 (M := 133) (by decide) 154) (Nat.le_of_ble_eq_true rfl) (Nat.le_of_ble_eq_true rfl) (show 5 ≤ am_P0.2.2.1 78 from by decide +kernel) rfl (cl_recv (h187.1.s (7, 6) (by decide))) rfl rfl (ck_emit (d := (d + 15)) h187   ) ?_
    rintro v204 S205 ⟨r206, rfl, h207, h208, h209, h210⟩
    have h208_ : iv S205 8 1 = iv S175 8 1 := h208
    have h209_ : iv S205 10 1 = iv S175 10 1 := h209
    have h210_ : iv S205 14 1 = iv S175 14 1 := h210
    obtain ⟨h212, h213, ⟨h214, h215, h216, h217⟩, ⟨h218, h219, h220⟩, h222⟩ := h207
    have h223 : kd aw S205 = kd aw S175 := kd_eq h214 h217
    have h224 := os_5 h218 1
    have h225 := os_13 h218 1
    show am_E _ _ _ _ [some (.ref 7), some (.int r3), none] [.int r206] _ _
    refine am_e6i hi_133_157 ?_
    refine am_e2 (v := 7) hi_133_158 rfl ?_
    refine cm_20f (r := 12) h212 hi_133_159 (h212.1.s (7, 6) (by decide)) (by decide) rfl ?_
    refine am_e32n (as := [.ref 12]) (la := [some (.ref 12), none]) (rest := []) hi_133_162 (am_hd0 (M := 133) (by decide) 162) (Nat.le_of_ble_eq_true rfl) (Nat.le_of_ble_eq_true rfl) (show 1 ≤ am_P0.2.2.1 81 from by decide +kernel) rfl (cl_recv (h212.1.s (12, 7) (by decide))) rfl rfl (ck_closeBlock (d := (d + 15)) h212   ) ?_
    rintro v226 S227 ⟨rfl, h229, h230, h231⟩
    have h230_ : iv S227 8 1 = iv S205 8 1 := h230
    have h231_ : iv S227 10 1 = iv S205 10 1 := h231
    obtain ⟨h233, h234, ⟨h235, h236, h237, h238⟩, ⟨h239, h240, h241⟩, h243⟩ := h229
    have h244 : kd aw S227 = kd aw S205 := kd_eq h235 h238
    have h245 := os_5 h239 1
    have h246 := os_13 h239 1
    show am_E _ _ _ _ [some (.ref 7), some (.int r3), none] [] _ _
    refine am_e2 (v := 7) hi_133_165 rfl ?_
    refine cm_20f (r := 12) h233 hi_133_166 (h233.1.s (7, 6) (by decide)) (by decide) rfl ?_
    refine cm_20f (r := 23) h233 hi_133_169 (h233.1.s (12, 7) (by decide)) (by decide) rfl ?_
    refine am_e2 (v := 7) hi_133_172 rfl ?_
    refine cm_20f (r := 12) h233 hi_133_173 (h233.1.s (7, 6) (by decide)) (by decide) rfl ?_
    refine am_e32x (as := [.ref 12]) (la := [some (.ref 12)]) (rest := [.ref 23]) hi_133_176 (am_hd0 (M := 133) (by decide) 176) (Nat.le_of_ble_eq_true rfl) (Nat.le_of_ble_eq_true rfl) (show 1 ≤ am_P0.2.2.1 79 from by decide +kernel) rfl (cl_recv (h233.1.s (12, 7) (by decide))) rfl rfl ?_
    refine am_e2 (v := 12) hi_79_0 rfl ?_
    refine cm_20n h233 hi_79_1 fun hb247 => ?_
    refine am_e34 hi_79_4 ?_
    show am_E _ _ _ _ [some (.ref 7), some (.int r3), none] [.ref (nw S227), .ref 23] _ _
    refine am_e32n (as := [.ref 23, .ref (nw S227)]) (la := [some (.ref 23), some (.ref (nw S227)), none, none]) (rest := []) hi_133_179 (am_hd0 (M := 133) (by decide) 179) (Nat.le_of_ble_eq_true rfl) (Nat.le_of_ble_eq_true rfl) (show 2 ≤ am_P0.2.2.1 132 from by decide +kernel) rfl (cl_recv (h233.1.s (23, 9) (by decide))) rfl rfl (ck_closeLoop (d := (d + 16)) h233 hb247  ) ?_
    rintro v248 S249 ⟨rfl, h251, h252, h253, h254⟩
    have h252_ : iv S249 8 1 = iv S227 8 1 := h252
    have h253_ : iv S249 10 1 = iv S227 10 1 := h253
    have h254_ : iv S249 14 1 = iv S227 14 1 := h254
    obtain ⟨h256, h257, ⟨h258, h259, h260, h261⟩, ⟨h262, h263, h264⟩, h266⟩ := h251
    have h267 : kd aw S249 = kd aw S227 := kd_eq h258 h261
    have h268 := os_5 h262 1
    have h269 := os_13 h262 1
    show am_E _ _ _ _ [some (.ref 7), some (.int r3), none] [] _ _
    refine am_e35 hi_133_182 ?_
    exact ⟨rfl, ⟨h256, (((((((((h18.trans h50).trans h80).trans h102).trans h129).trans h159).trans h188).trans h213).trans h234).trans h257), ⟨(by show wr S249 = wr S; omega), (h261.trans (h238.trans (h217.trans (h192.trans (h163.trans (h133.trans (h106.trans (h84.trans (h54.trans h22)))))))))⟩, ⟨(by show iv S249 13 1 = iv S 13 1; omega), (by show iv S249 5 1 - nx S249 ≤ iv S 5 1 - nx S; omega)⟩⟩, (by show nx S + 1 ≤ nx S249; omega), (by show nx S249 ≤ wr S249; omega), (by show lv S249 = lv S + 0; omega), (by show EN S249 + -10000 * nx S249 ≤ EN S + -10000 * nx S + (-5000); omega), (by show iv S 8 1 ≤ iv S249 8 1; omega), (by show iv S 10 1 ≤ iv S249 10 1; omega)⟩
  · refine am_e12f hi_133_78 (am_cF (m := r200.toInt) (n := (0 : Int)) rfl (by decide) c203) ?_
    refine am_e2 (v := 7) hi_133_81 rfl ?_
    refine am_e0 hi_133_82 ?_
    refine am_e0 hi_133_84 ?_
    refine am_e0 hi_133_85 ?_
    refine am_e0 hi_133_86 ?_
    refine am_e32n (as := [.ref 7, .int 37, .int 0, .int 0, .int 0]) (la := [some (.ref 7), some (.int 37), some (.int 0), some (.int 0), some (.int 0)]) (rest := []) hi_133_87 (am_hd0 (M := 133) (by decide) 87) (Nat.le_of_ble_eq_true rfl) (Nat.le_of_ble_eq_true rfl) (show 5 ≤ am_P0.2.2.1 78 from by decide +kernel) rfl (cl_recv (h187.1.s (7, 6) (by decide))) rfl rfl (ck_emit (d := (d + 15)) h187   ) ?_
    rintro v270 S271 ⟨r272, rfl, h273, h274, h275, h276⟩
    have h274_ : iv S271 8 1 = iv S175 8 1 := h274
    have h275_ : iv S271 10 1 = iv S175 10 1 := h275
    have h276_ : iv S271 14 1 = iv S175 14 1 := h276
    obtain ⟨h278, h279, ⟨h280, h281, h282, h283⟩, ⟨h284, h285, h286⟩, h288⟩ := h273
    have h289 : kd aw S271 = kd aw S175 := kd_eq h280 h283
    have h290 := os_5 h284 1
    have h291 := os_13 h284 1
    show am_E _ _ _ _ [some (.ref 7), some (.int r3), none] [.int r272] _ _
    refine am_e3 (ls' := [some (.ref 7), some (.int r3), some (.int r272)]) hi_133_90 (Nat.le_of_ble_eq_true rfl) rfl ?_
    refine am_e2 (v := 7) hi_133_91 rfl ?_
    refine am_e0 hi_133_92 ?_
    refine am_e2 (v := 7) hi_133_94 rfl ?_
    refine cm_20f (r := 12) h278 hi_133_95 (h278.1.s (7, 6) (by decide)) (by decide) rfl ?_
    refine am_e32n (as := [.ref 12]) (la := [some (.ref 12)]) (rest := [.int 33, .ref 7]) hi_133_98 (am_hd0 (M := 133) (by decide) 98) (Nat.le_of_ble_eq_true rfl) (Nat.le_of_ble_eq_true rfl) (show 1 ≤ am_P0.2.2.1 82 from by decide +kernel) rfl (cl_recv (h278.1.s (12, 7) (by decide))) rfl rfl (ck_before (d := (d + 17)) h278   ) ?_
    rintro v292 S293 ⟨r294, rfl, rfl⟩
    show am_E _ _ _ _ [some (.ref 7), some (.int r3), some (.int r272)] [.int r294, .int 33, .ref 7] _ _
    refine am_e0 hi_133_101 ?_
    refine am_e0 hi_133_102 ?_
    refine am_e32n (as := [.ref 7, .int 33, .int r294, .int 0, .int 0]) (la := [some (.ref 7), some (.int 33), some (.int r294), some (.int 0), some (.int 0)]) (rest := []) hi_133_103 (am_hd0 (M := 133) (by decide) 103) (Nat.le_of_ble_eq_true rfl) (Nat.le_of_ble_eq_true rfl) (show 5 ≤ am_P0.2.2.1 78 from by decide +kernel) rfl (cl_recv (h278.1.s (7, 6) (by decide))) rfl rfl (ck_emit (d := (d + 15)) h278   ) ?_
    rintro v297 S298 ⟨r299, rfl, h300, h301, h302, h303⟩
    have h301_ : iv S298 8 1 = iv S271 8 1 := h301
    have h302_ : iv S298 10 1 = iv S271 10 1 := h302
    have h303_ : iv S298 14 1 = iv S271 14 1 := h303
    obtain ⟨h305, h306, ⟨h307, h308, h309, h310⟩, ⟨h311, h312, h313⟩, h315⟩ := h300
    have h316 : kd aw S298 = kd aw S271 := kd_eq h307 h310
    have h317 := os_5 h311 1
    have h318 := os_13 h311 1
    show am_E _ _ _ _ [some (.ref 7), some (.int r3), some (.int r272)] [.int r299] _ _
    refine am_e6i hi_133_106 ?_
    refine am_e2 (v := 7) hi_133_107 rfl ?_
    refine am_e0 hi_133_108 ?_
    refine am_e1 (v := r3) hi_133_110 rfl ?_
    refine am_e0 hi_133_111 ?_
    refine am_e0 hi_133_112 ?_
    refine am_e32n (as := [.ref 7, .int 36, .int r3, .int 0, .int 0]) (la := [some (.ref 7), some (.int 36), some (.int r3), some (.int 0), some (.int 0)]) (rest := []) hi_133_113 (am_hd0 (M := 133) (by decide) 113) (Nat.le_of_ble_eq_true rfl) (Nat.le_of_ble_eq_true rfl) (show 5 ≤ am_P0.2.2.1 78 from by decide +kernel) rfl (cl_recv (h305.1.s (7, 6) (by decide))) rfl rfl (ck_emit (d := (d + 15)) h305   ) ?_
    rintro v319 S320 ⟨r321, rfl, h322, h323, h324, h325⟩
    have h323_ : iv S320 8 1 = iv S298 8 1 := h323
    have h324_ : iv S320 10 1 = iv S298 10 1 := h324
    have h325_ : iv S320 14 1 = iv S298 14 1 := h325
    obtain ⟨h327, h328, ⟨h329, h330, h331, h332⟩, ⟨h333, h334, h335⟩, h337⟩ := h322
    have h338 : kd aw S320 = kd aw S298 := kd_eq h329 h332
    have h339 := os_5 h333 1
    have h340 := os_13 h333 1
    show am_E _ _ _ _ [some (.ref 7), some (.int r3), some (.int r272)] [.int r321] _ _
    refine am_e6i hi_133_116 ?_
    refine am_e2 (v := 7) hi_133_117 rfl ?_
    refine cm_20f (r := 12) h327 hi_133_118 (h327.1.s (7, 6) (by decide)) (by decide) rfl ?_
    refine am_e32x (as := [.ref 12]) (la := [some (.ref 12)]) (rest := []) hi_133_121 (am_hd0 (M := 133) (by decide) 121) (Nat.le_of_ble_eq_true rfl) (Nat.le_of_ble_eq_true rfl) (show 1 ≤ am_P0.2.2.1 79 from by decide +kernel) rfl (cl_recv (h327.1.s (12, 7) (by decide))) rfl rfl ?_
    refine am_e2 (v := 12) hi_79_0 rfl ?_
    refine cm_20n h327 hi_79_1 fun hb341 => ?_
    refine am_e34 hi_79_4 ?_
    show am_E _ _ _ _ [some (.ref 7), some (.int r3), some (.int r272)] [.ref (nw S320)] _ _
    refine am_e1 (v := r272) hi_133_124 rfl ?_
    refine am_e0 hi_133_125 ?_
    refine am_e32n (as := [.ref (nw S320), .int r272, .int 1]) (la := [some (.ref (nw S320)), some (.int r272), some (.int 1)]) (rest := []) hi_133_126 (am_hd0 (M := 133) (by decide) 126) (Nat.le_of_ble_eq_true rfl) (Nat.le_of_ble_eq_true rfl) (show 3 ≤ am_P0.2.2.1 109 from by decide +kernel) rfl (cl_recv hb341) rfl rfl (ck_leadHere (d := (d + 17)) h327 hb341  ) ?_
    rintro v342 S343 ⟨rfl, h345⟩
    obtain ⟨h347, h348, ⟨h349, h350, h351, h352⟩, ⟨h353, h354, h355⟩, h356, h357⟩ := h345
    have h358 : kd aw S343 = kd aw S320 := kd_eq h349 h352
    have h359 := h356 8 (h327.1.s (8, 3) (by decide))
    have h360 := h356 10 (h327.1.s (10, 3) (by decide))
    have h361 := os_5 h353 1
    have h362 := os_13 h353 1
    show am_E _ _ _ _ [some (.ref 7), some (.int r3), some (.int r272)] [] _ _
    refine am_e2 (v := 7) hi_133_129 rfl ?_
    refine am_e0 hi_133_130 ?_
    refine am_e2 (v := 7) hi_133_132 rfl ?_
    refine cm_20f (r := 12) h347 hi_133_133 (h347.1.s (7, 6) (by decide)) (by decide) rfl ?_
    refine am_e32n (as := [.ref 12]) (la := [some (.ref 12)]) (rest := [.int 33, .ref 7]) hi_133_136 (am_hd0 (M := 133) (by decide) 136) (Nat.le_of_ble_eq_true rfl) (Nat.le_of_ble_eq_true rfl) (show 1 ≤ am_P0.2.2.1 82 from by decide +kernel) rfl (cl_recv (h347.1.s (12, 7) (by decide))) rfl rfl (ck_before (d := (d + 17)) h347   ) ?_
    rintro v363 S364 ⟨r365, rfl, rfl⟩
    show am_E _ _ _ _ [some (.ref 7), some (.int r3), some (.int r272)] [.int r365, .int 33, .ref 7] _ _
    refine am_e0 hi_133_139 ?_
    refine am_e0 hi_133_140 ?_
    refine am_e32n (as := [.ref 7, .int 33, .int r365, .int 0, .int 0]) (la := [some (.ref 7), some (.int 33), some (.int r365), some (.int 0), some (.int 0)]) (rest := []) hi_133_141 (am_hd0 (M := 133) (by decide) 141) (Nat.le_of_ble_eq_true rfl) (Nat.le_of_ble_eq_true rfl) (show 5 ≤ am_P0.2.2.1 78 from by decide +kernel) rfl (cl_recv (h347.1.s (7, 6) (by decide))) rfl rfl (ck_emit (d := (d + 15)) h347   ) ?_
    rintro v368 S369 ⟨r370, rfl, h371, h372, h373, h374⟩
    have h372_ : iv S369 8 1 = iv S343 8 1 := h372
    have h373_ : iv S369 10 1 = iv S343 10 1 := h373
    have h374_ : iv S369 14 1 = iv S343 14 1 := h374
    obtain ⟨h376, h377, ⟨h378, h379, h380, h381⟩, ⟨h382, h383, h384⟩, h386⟩ := h371
    have h387 : kd aw S369 = kd aw S343 := kd_eq h378 h381
    have h388 := os_5 h382 1
    have h389 := os_13 h382 1
    show am_E _ _ _ _ [some (.ref 7), some (.int r3), some (.int r272)] [.int r370] _ _
    refine am_e6i hi_133_144 ?_
    refine am_e18 hi_133_145 ?_
    refine am_e2 (v := 7) hi_133_158 rfl ?_
    refine cm_20f (r := 12) h376 hi_133_159 (h376.1.s (7, 6) (by decide)) (by decide) rfl ?_
    refine am_e32n (as := [.ref 12]) (la := [some (.ref 12), none]) (rest := []) hi_133_162 (am_hd0 (M := 133) (by decide) 162) (Nat.le_of_ble_eq_true rfl) (Nat.le_of_ble_eq_true rfl) (show 1 ≤ am_P0.2.2.1 81 from by decide +kernel) rfl (cl_recv (h376.1.s (12, 7) (by decide))) rfl rfl (ck_closeBlock (d := (d + 15)) h376   ) ?_
    rintro v390 S391 ⟨rfl, h393, h394, h395⟩
    have h394_ : iv S391 8 1 = iv S369 8 1 := h394
    have h395_ : iv S391 10 1 = iv S369 10 1 := h395
    obtain ⟨h397, h398, ⟨h399, h400, h401, h402⟩, ⟨h403, h404, h405⟩, h407⟩ := h393
    have h408 : kd aw S391 = kd aw S369 := kd_eq h399 h402
    have h409 := os_5 h403 1
    have h410 := os_13 h403 1
    show am_E _ _ _ _ [some (.ref 7), some (.int r3), some (.int r272)] [] _ _
    refine am_e2 (v := 7) hi_133_165 rfl ?_
    refine cm_20f (r := 12) h397 hi_133_166 (h397.1.s (7, 6) (by decide)) (by decide) rfl ?_
    refine cm_20f (r := 23) h397 hi_133_169 (h397.1.s (12, 7) (by decide)) (by decide) rfl ?_
    refine am_e2 (v := 7) hi_133_172 rfl ?_
    refine cm_20f (r := 12) h397 hi_133_173 (h397.1.s (7, 6) (by decide)) (by decide) rfl ?_
    refine am_e32x (as := [.ref 12]) (la := [some (.ref 12)]) (rest := [.ref 23]) hi_133_176 (am_hd0 (M := 133) (by decide) 176) (Nat.le_of_ble_eq_true rfl) (Nat.le_of_ble_eq_true rfl) (show 1 ≤ am_P0.2.2.1 79 from by decide +kernel) rfl (cl_recv (h397.1.s (12, 7) (by decide))) rfl rfl ?_
    refine am_e2 (v := 12) hi_79_0 rfl ?_
    refine cm_20n h397 hi_79_1 fun hb411 => ?_
    refine am_e34 hi_79_4 ?_
    show am_E _ _ _ _ [some (.ref 7), some (.int r3), some (.int r272)] [.ref (nw S391), .ref 23] _ _
    refine am_e32n (as := [.ref 23, .ref (nw S391)]) (la := [some (.ref 23), some (.ref (nw S391)), none, none]) (rest := []) hi_133_179 (am_hd0 (M := 133) (by decide) 179) (Nat.le_of_ble_eq_true rfl) (Nat.le_of_ble_eq_true rfl) (show 2 ≤ am_P0.2.2.1 132 from by decide +kernel) rfl (cl_recv (h397.1.s (23, 9) (by decide))) rfl rfl (ck_closeLoop (d := (d + 16)) h397 hb411  ) ?_
    rintro v412 S413 ⟨rfl, h415, h416, h417, h418⟩
    have h416_ : iv S413 8 1 = iv S391 8 1 := h416
    have h417_ : iv S413 10 1 = iv S391 10 1 := h417
    have h418_ : iv S413 14 1 = iv S391 14 1 := h418
    obtain ⟨h420, h421, ⟨h422, h423, h424, h425⟩, ⟨h426, h427, h428⟩, h430⟩ := h415
    have h431 : kd aw S413 = kd aw S391 := kd_eq h422 h425
    have h432 := os_5 h426 1
    have h433 := os_13 h426 1
    show am_E _ _ _ _ [some (.ref 7), some (.int r3), some (.int r272)] [] _ _
    refine am_e35 hi_133_182 ?_
    exact ⟨rfl, ⟨h420, (((((((((((((h18.trans h50).trans h80).trans h102).trans h129).trans h159).trans h188).trans h279).trans h306).trans h328).trans h348).trans h377).trans h398).trans h421), ⟨(by show wr S413 = wr S; omega), (h425.trans (h402.trans (h381.trans (h352.trans (h332.trans (h310.trans (h283.trans (h192.trans (h163.trans (h133.trans (h106.trans (h84.trans (h54.trans h22)))))))))))))⟩, ⟨(by show iv S413 13 1 = iv S 13 1; omega), (by show iv S413 5 1 - nx S413 ≤ iv S 5 1 - nx S; omega)⟩⟩, (by show nx S + 1 ≤ nx S413; omega), (by show nx S413 ≤ wr S413; omega), (by show lv S413 = lv S + 0; omega), (by show EN S413 + -10000 * nx S413 ≤ EN S + -10000 * nx S + (-5000); omega), (by show iv S 8 1 ≤ iv S413 8 1; omega), (by show iv S 10 1 ≤ iv S413 10 1; omega)⟩
theorem cg_choice {sc : Nat × (Nat → Int32)} {d aw NN : Nat} {Sb : am_S} {Q : Option (Option Value) → am_S → Prop} (h : SH aw Sb) (ihR : RC sc aw NN) (hN : 49 - lv Sb < (NN : Int) + 1) (hd : (30 : Int) * (49 - lv Sb) ≤ (d : Int)) (p0 : 0 ≤ nx Sb) (p1 : nx Sb ≤ wr Sb) (p2 : wr Sb ≤ 600) (p3 : 0 ≤ lv Sb) (p4 : lv Sb ≤ 48) (p5 : 1 ≤ iv Sb 13 1) (p6 : iv Sb 13 1 ≤ lv Sb + 0) (p7 : iv Sb 5 1 ≤ nx Sb + 1) (p8 : 1 ≤ lv Sb) (hq : ∀ S1, TH aw 2000 Sb S1 → Q none S1) (hx0 : ∀ (S : am_S) (ex no n : Int32), Ad aw Sb S → (nx Sb + 0 ≤ nx S) → (nx S ≤ wr S) → (lv S = lv Sb + 0) → (EN S + -10000 * nx S ≤ EN Sb + -10000 * nx Sb + 0) → (iv Sb 8 1 ≤ iv S 8 1) → (iv Sb 10 1 ≤ iv S 10 1) → am_E (am_PP sc) (d + 20) 134 54 [some (.ref 7), some (.int ex), some (.int no), some (.int n)] [] S Q) : ∀ (N : Nat) (S : am_S) (ex no n : Int32), Ad aw Sb S → (nx Sb + 0 ≤ nx S) → (nx S ≤ wr S) → (lv S = lv Sb + 0) → (EN S + -10000 * nx S ≤ EN Sb + -10000 * nx Sb + 0) → (iv Sb 8 1 ≤ iv S 8 1) → (iv Sb 10 1 ≤ iv S 10 1) → 2147483647 - n.toInt < (N : Int) → am_E (am_PP sc) (d + 20) 134 13 [some (.ref 7), some (.int ex), some (.int no), some (.int n)] [] S Q := by
  intro N
  induction N with
  | zero =>
    intro S  ex no n hrel  i0 i1 i2 i3 i4 i5 hN
    have := i32_le ex
    have := i32_le no
    have := i32_le n
    have := i32_ge ex
    have := i32_ge no
    have := i32_ge n
    exfalso
    omega
  | succ N ih =>
    intro S  ex no n hrel  i0 i1 i2 i3 i4 i5 hN
    have hl_ex := i32_le ex
    have hg_ex := i32_ge ex
    have hl_no := i32_le no
    have hg_no := i32_ge no
    have hl_n := i32_le n
    have hg_n := i32_ge n
    obtain ⟨h1, h2, ⟨h5, h6⟩, ⟨h7, h8⟩⟩ := hrel
    refine am_e2 (v := 7) hi_134_13 rfl ?_
    refine cm_20f (r := 2) h1 hi_134_14 (h1.1.s (7, 6) (by decide)) (by decide) rfl ?_
    refine am_e32n (as := [.ref 2]) (la := [some (.ref 2)]) (rest := []) hi_134_17 (am_hd0 (M := 134) (by decide) 17) (Nat.le_of_ble_eq_true rfl) (Nat.le_of_ble_eq_true rfl) (show 1 ≤ am_P0.2.2.1 53 from by decide +kernel) rfl (cl_recv (h1.1.s (2, 2) (by decide))) rfl rfl (ck_kind (d := (d + 18)) h1   ) ?_
    rintro v12 S13 ⟨r14, rfl, rfl, h16⟩
    have h16_ : r14.toInt = kd aw S := h16
    show am_E _ _ _ _ [some (.ref 7), some (.int ex), some (.int no), some (.int n)] [.int r14] _ _
    refine am_e0 hi_134_20 ?_
    by_cases c18 : ¬ r14.toInt = (14 : Int)
    · refine am_e13t hi_134_22 (am_cT (m := r14.toInt) (n := (14 : Int)) rfl (by decide) c18) ?_
      exact hx0 _ ex no n ⟨h1, h2, ⟨(by show wr S = wr Sb; omega), h6⟩, ⟨(by show iv S 13 1 = iv Sb 13 1; omega), (by show iv S 5 1 - nx S ≤ iv Sb 5 1 - nx Sb; omega)⟩⟩ (by show nx Sb + 0 ≤ nx S; omega) (by show nx S ≤ wr S; omega) (by show lv S = lv Sb + 0; omega) (by show EN S + -10000 * nx S ≤ EN Sb + -10000 * nx Sb + 0; omega) (by show iv Sb 8 1 ≤ iv S 8 1; omega) (by show iv Sb 10 1 ≤ iv S 10 1; omega)
    · refine am_e13f hi_134_22 (am_cF (m := r14.toInt) (n := (14 : Int)) rfl (by decide) c18) ?_
      refine am_e1 (v := n) hi_134_25 rfl ?_
      refine am_e0 hi_134_26 ?_
      by_cases c19 : (16384 : Int) < n.toInt
      · refine am_e13t hi_134_29 (am_cT (m := n.toInt) (n := (16384 : Int)) rfl (by decide) c19) ?_
        exact hx0 _ ex no n ⟨h1, h2, ⟨(by show wr S = wr Sb; omega), h6⟩, ⟨(by show iv S 13 1 = iv Sb 13 1; omega), (by show iv S 5 1 - nx S ≤ iv Sb 5 1 - nx Sb; omega)⟩⟩ (by show nx Sb + 0 ≤ nx S; omega) (by show nx S ≤ wr S; omega) (by show lv S = lv Sb + 0; omega) (by show EN S + -10000 * nx S ≤ EN Sb + -10000 * nx Sb + 0; omega) (by show iv Sb 8 1 ≤ iv S 8 1; omega) (by show iv Sb 10 1 ≤ iv S 10 1; omega)
      · refine am_e13f hi_134_29 (am_cF (m := n.toInt) (n := (16384 : Int)) rfl (by decide) c19) ?_
        refine am_e2 (v := 7) hi_134_32 rfl ?_
        refine am_e1 (v := no) hi_134_33 rfl ?_
        refine am_e1 (v := ex) hi_134_34 rfl ?_
        refine am_e32n (as := [.ref 7, .int no, .int ex]) (la := [some (.ref 7), some (.int no), some (.int ex), none]) (rest := []) hi_134_35 (am_hd0 (M := 134) (by decide) 35) (Nat.le_of_ble_eq_true rfl) (Nat.le_of_ble_eq_true rfl) (show 3 ≤ am_P0.2.2.1 136 from by decide +kernel) rfl (cl_recv (h1.1.s (7, 6) (by decide))) rfl rfl (ck_nextPart (d := (d + 15)) h1   ) ?_
        rintro v20 S21 ⟨r22, rfl, h23, h24, h25, h26⟩
        have h24_ : iv S21 8 1 = iv S 8 1 := h24
        have h25_ : iv S21 10 1 = iv S 10 1 := h25
        have h26_ : iv S21 14 1 = iv S 14 1 := h26
        obtain ⟨h28, h29, ⟨h30, h31, h32, h33⟩, ⟨h34, h35, h36⟩, h38⟩ := h23
        have h39 : kd aw S21 = kd aw S := kd_eq h30 h33
        have h40 := os_5 h34 1
        have h41 := os_13 h34 1
        show am_E _ _ _ _ [some (.ref 7), some (.int ex), some (.int no), some (.int n)] [.int r22] _ _
        refine am_e3 (ls' := [some (.ref 7), some (.int r22), some (.int no), some (.int n)]) hi_134_38 (Nat.le_of_ble_eq_true rfl) rfl ?_
        refine am_e2 (v := 7) hi_134_39 rfl ?_
        refine am_e32x (as := [.ref 7]) (la := [some (.ref 7)]) (rest := []) hi_134_40 (am_hd0 (M := 134) (by decide) 40) (Nat.le_of_ble_eq_true rfl) (Nat.le_of_ble_eq_true rfl) (show 1 ≤ am_P0.2.2.1 135 from by decide +kernel) rfl (cl_recv (h28.1.s (7, 6) (by decide))) rfl rfl ?_
        refine am_e2 (v := 7) hi_135_0 rfl ?_
        refine cm_20f (r := 2) h28 hi_135_1 (h28.1.s (7, 6) (by decide)) (by decide) rfl ?_
        refine am_e32t (as := [.ref 2]) (la := [some (.ref 2), none]) (rest := []) hi_135_4 (am_hd0 (M := 135) (by decide) 4) (Nat.le_of_ble_eq_true rfl) (Nat.le_of_ble_eq_true rfl) (show 1 ≤ am_P0.2.2.1 55 from by decide +kernel) rfl (cl_recv (h28.1.s (2, 2) (by decide))) rfl rfl (ck_skip (d := (d + 5)) h28   (by show 0 ≤ nx S21; omega) (by show nx S21 ≤ wr S21; omega) (by show wr S21 ≤ 600; omega) (by show 0 ≤ lv S21; omega) (by show lv S21 ≤ 48; omega) (by show kd aw S21 ≠ 0; omega)) (fun S58 h59 => hq S58 (show TH aw 2000 Sb S58 from ⟨h59.1, (h2.trans h29).trans h59.2.1, ⟨(by have q := h59.2.2.1.1; omega), h59.2.2.1.2.trans (h33.trans h6)⟩, h59.2.2.2.1, h59.2.2.2.2.1, (by have q := h59.2.2.2.2.2; omega)⟩)) ?_
        rintro v42 S43 ⟨r44, rfl, h45, h46, h47, h48, h49⟩
        have h46_ : nx S43 = nx S21 + 1 := h46
        have h47_ : lv S43 = lv S21 + c_dl (kd aw S21) := h47
        have h48_ : lv S43 ≤ 48 := h48
        have h49_ : nx S43 ≤ wr S43 := h49
        obtain ⟨h60, h61, ⟨h64, h65⟩, ⟨h66, h67, h68⟩, h69, h70⟩ := h45
        have h71 := h69 8 (h28.1.s (8, 3) (by decide))
        have h72 := h69 10 (h28.1.s (10, 3) (by decide))
        have h73 := os_5 h66 1
        have h74 := os_13 h66 1
        have h75 : c_dl (kd aw S21) = -1 := by unfold c_dl; split <;> split <;> omega
        show am_E _ _ _ _ [some (.ref 7)] [.int r44] _ _
        refine am_e6i hi_135_7 ?_
        refine am_e2 (v := 7) hi_135_8 rfl ?_
        refine am_e32q (d1 := d + 0 + 18) (by omega) (as := [.ref 7]) (la := [some (.ref 7), none, none, none, none, none]) (rest := []) hi_135_9 (am_hd0 (M := 135) (by decide) 9) (Nat.le_of_ble_eq_true rfl) (Nat.le_of_ble_eq_true rfl) (show 1 ≤ am_P0.2.2.1 70 from by decide +kernel) rfl (cl_recv (h60.1.s (7, 6) (by decide))) rfl rfl (cr_expression (d := d + 0) h60  ihR (by show 48 - lv S43 < (NN : Int) + 1; omega) (by show (30 : Int) * (48 - lv S43) ≤ ((d + 0 : Nat) : Int); omega) (by show 0 ≤ nx S43; omega) (by show nx S43 ≤ wr S43; omega) (by show wr S43 ≤ 600; omega) (by show 0 ≤ lv S43; omega) (by show lv S43 ≤ 48; omega) (by show 1 ≤ iv S43 13 1; omega) (by show iv S43 13 1 ≤ lv S43 + 1; omega) (by show iv S43 5 1 ≤ nx S43 + 1; omega)) (fun S87 h88 => hq S87 (show TH aw 2000 Sb S87 from ⟨h88.1, ((h2.trans h29).trans h61).trans h88.2.1, ⟨(by have q := h88.2.2.1.1; omega), h88.2.2.1.2.trans (h65.trans (h33.trans h6))⟩, h88.2.2.2.1, h88.2.2.2.2.1, (by have q := h88.2.2.2.2.2; omega)⟩)) ?_
        rintro v76 S77 ⟨rfl, h79, h80, h81, h82, h83, h84, h85⟩
        have h80_ : nx S43 + 1 ≤ nx S77 := h80
        have h81_ : nx S77 ≤ wr S77 := h81
        have h82_ : lv S77 = lv S43 + 0 := h82
        have h83_ : EN S77 + -10000 * nx S77 ≤ EN S43 + -10000 * nx S43 + (-2000) := h83
        have h84_ : iv S43 8 1 ≤ iv S77 8 1 := h84
        have h85_ : iv S43 10 1 ≤ iv S77 10 1 := h85
        obtain ⟨h89, h90, ⟨h93, h94⟩, ⟨h95, h96⟩⟩ := h79
        show am_E _ _ _ _ [some (.ref 7)] [] _ _
        refine am_e2 (v := 7) hi_135_12 rfl ?_
        refine cm_20f (r := 2) h89 hi_135_13 (h89.1.s (7, 6) (by decide)) (by decide) rfl ?_
        refine am_e0 hi_135_16 ?_
        refine am_e32t (as := [.ref 2, .int 28]) (la := [some (.ref 2), some (.int 28)]) (rest := []) hi_135_18 (am_hd0 (M := 135) (by decide) 18) (Nat.le_of_ble_eq_true rfl) (Nat.le_of_ble_eq_true rfl) (show 2 ≤ am_P0.2.2.1 64 from by decide +kernel) rfl (cl_recv (h89.1.s (2, 2) (by decide))) rfl rfl (ck_take (d := (d + 4)) h89   (by show 0 ≤ nx S77; omega) (by show nx S77 ≤ wr S77; omega) (by show wr S77 ≤ 600; omega) (by show 0 ≤ lv S77; omega) (by show lv S77 ≤ 48; omega) (by show ¬ (28 : Int) = 0; omega)) (fun S117 h118 => hq S117 (show TH aw 2000 Sb S117 from ⟨h118.1, (((h2.trans h29).trans h61).trans h90).trans h118.2.1, ⟨(by have q := h118.2.2.1.1; omega), h118.2.2.1.2.trans (h94.trans (h65.trans (h33.trans h6)))⟩, h118.2.2.2.1, h118.2.2.2.2.1, (by have q := h118.2.2.2.2.2; omega)⟩)) ?_
        rintro v100 S101 ⟨r102, rfl, h103, h104, h105, h106, h107, h108⟩
        have h104_ : kd aw S77 = (28 : Int) := h104
        have h105_ : nx S101 = nx S77 + 1 := h105
        have h106_ : lv S101 = lv S77 + c_dl (kd aw S77) := h106
        have h107_ : lv S101 ≤ 48 := h107
        have h108_ : nx S101 ≤ wr S101 := h108
        obtain ⟨h119, h120, ⟨h123, h124⟩, ⟨h125, h126, h127⟩, h128, h129⟩ := h103
        have h130 := h128 8 (h89.1.s (8, 3) (by decide))
        have h131 := h128 10 (h89.1.s (10, 3) (by decide))
        have h132 := os_5 h125 1
        have h133 := os_13 h125 1
        have h134 : c_dl (kd aw S77) = 1 := by unfold c_dl; split <;> split <;> omega
        show am_E _ _ _ _ [some (.ref 7)] [.int r102] _ _
        refine am_e6i hi_135_21 ?_
        refine am_e2 (v := 7) hi_135_22 rfl ?_
        refine am_e0 hi_135_23 ?_
        refine am_e0 hi_135_25 ?_
        refine am_e0 hi_135_26 ?_
        refine am_e0 hi_135_27 ?_
        refine am_e32n (as := [.ref 7, .int 35, .int 0, .int 0, .int 0]) (la := [some (.ref 7), some (.int 35), some (.int 0), some (.int 0), some (.int 0)]) (rest := []) hi_135_28 (am_hd0 (M := 135) (by decide) 28) (Nat.le_of_ble_eq_true rfl) (Nat.le_of_ble_eq_true rfl) (show 5 ≤ am_P0.2.2.1 78 from by decide +kernel) rfl (cl_recv (h119.1.s (7, 6) (by decide))) rfl rfl (ck_emit (d := (d + 15)) h119   ) ?_
        rintro v135 S136 ⟨r137, rfl, h138, h139, h140, h141⟩
        have h139_ : iv S136 8 1 = iv S101 8 1 := h139
        have h140_ : iv S136 10 1 = iv S101 10 1 := h140
        have h141_ : iv S136 14 1 = iv S101 14 1 := h141
        obtain ⟨h143, h144, ⟨h145, h146, h147, h148⟩, ⟨h149, h150, h151⟩, h153⟩ := h138
        have h154 : kd aw S136 = kd aw S101 := kd_eq h145 h148
        have h155 := os_5 h149 1
        have h156 := os_13 h149 1
        show am_E _ _ _ _ [some (.ref 7)] [.int r137] _ _
        refine am_e33 hi_135_31 ?_
        show am_E _ _ _ _ [some (.ref 7), some (.int r22), some (.int no), some (.int n)] [.int r137] _ _
        refine am_e3 (ls' := [some (.ref 7), some (.int r22), some (.int r137), some (.int n)]) hi_134_43 (Nat.le_of_ble_eq_true rfl) rfl ?_
        refine am_e2 (v := 7) hi_134_44 rfl ?_
        refine am_e32q (d1 := d - 30 + 27 + 22) (by omega) (as := [.ref 7]) (la := [some (.ref 7)]) (rest := []) hi_134_45 (am_hd0 (M := 134) (by decide) 45) (Nat.le_of_ble_eq_true rfl) (Nat.le_of_ble_eq_true rfl) (show 1 ≤ am_P0.2.2.1 128 from by decide +kernel) rfl (cl_recv (h143.1.s (7, 6) (by decide))) rfl rfl (rc_128 ihR (d - 30 + 27) _  h143  (by show 48 - lv S136 < (NN : Int); omega) (by show (30 : Int) * (48 - lv S136) ≤ ((d - 30 + 27 : Nat) : Int); omega) (by show 0 ≤ nx S136; omega) (by show nx S136 ≤ wr S136; omega) (by show wr S136 ≤ 600; omega) (by show 0 ≤ lv S136; omega) (by show lv S136 ≤ 48; omega) (by show 1 ≤ iv S136 13 1; omega) (by show iv S136 13 1 ≤ lv S136 + 1; omega) (by show iv S136 5 1 ≤ nx S136 + 1; omega)) (fun S168 h169 => hq S168 (show TH aw 2000 Sb S168 from ⟨h169.1, (((((h2.trans h29).trans h61).trans h90).trans h120).trans h144).trans h169.2.1, ⟨(by have q := h169.2.2.1.1; omega), h169.2.2.1.2.trans (h148.trans (h124.trans (h94.trans (h65.trans (h33.trans h6)))))⟩, h169.2.2.2.1, h169.2.2.2.2.1, (by have q := h169.2.2.2.2.2; omega)⟩)) ?_
        rintro v157 S158 ⟨rfl, h160, h161, h162, h163, h164, h165, h166⟩
        have h161_ : nx S136 + 0 ≤ nx S158 := h161
        have h162_ : nx S158 ≤ wr S158 := h162
        have h163_ : lv S158 = lv S136 + 0 := h163
        have h164_ : EN S158 + -10000 * nx S158 ≤ EN S136 + -10000 * nx S136 + 500 := h164
        have h165_ : iv S136 8 1 ≤ iv S158 8 1 := h165
        have h166_ : iv S136 10 1 ≤ iv S158 10 1 := h166
        obtain ⟨h170, h171, ⟨h174, h175⟩, ⟨h176, h177⟩⟩ := h160
        show am_E _ _ _ _ [some (.ref 7), some (.int r22), some (.int r137), some (.int n)] [] _ _
        obtain ⟨z181, hz181, tz181⟩ := am_addI (x := n) (y := 1) (m := n.toInt) (n := (1 : Int)) rfl (by decide) (by omega) (by omega)
        refine am_e5 (v := n) (z := z181) (ls' := [some (.ref 7), some (.int r22), some (.int r137), some (.int z181)]) hi_134_48 rfl hz181 rfl ?_
        refine am_e18 hi_134_51 ?_
        exact ih _ r22 r137 z181 ⟨h170, ((((((h2.trans h29).trans h61).trans h90).trans h120).trans h144).trans h171), ⟨(by show wr S158 = wr Sb; omega), (h175.trans (h148.trans (h124.trans (h94.trans (h65.trans (h33.trans h6))))))⟩, ⟨(by show iv S158 13 1 = iv Sb 13 1; omega), (by show iv S158 5 1 - nx S158 ≤ iv Sb 5 1 - nx Sb; omega)⟩⟩ (by show nx Sb + 0 ≤ nx S158; omega) (by show nx S158 ≤ wr S158; omega) (by show lv S158 = lv Sb + 0; omega) (by show EN S158 + -10000 * nx S158 ≤ EN Sb + -10000 * nx Sb + 0; omega) (by show iv Sb 8 1 ≤ iv S158 8 1; omega) (by show iv Sb 10 1 ≤ iv S158 10 1; omega) (by show 2147483647 - z181.toInt < (N : Int); omega)
theorem cr_choice {sc : Nat × (Nat → Int32)} {d aw NN : Nat} {S : am_S} (h : SH aw S) (ihR : RC sc aw NN) (hN : 48 - lv S < (NN : Int) + 1) (hd : (30 : Int) * (48 - lv S) ≤ (d : Int)) (p0 : 0 ≤ nx S) (p1 : nx S ≤ wr S) (p2 : wr S ≤ 600) (p3 : 0 ≤ lv S) (p4 : lv S ≤ 48) (p5 : 1 ≤ iv S 13 1) (p6 : iv S 13 1 ≤ lv S + 1) (p7 : iv S 5 1 ≤ nx S + 1) (p8 : kd aw S = 20) : am_E (am_PP sc) (d + 20) 134 0 [some (.ref 7), none, none, none] [] S (am_T (fun v S1 => v = none ∧ Ad aw S S1 ∧ (nx S + 1 ≤ nx S1) ∧ (nx S1 ≤ wr S1) ∧ (lv S1 = lv S + 0) ∧ (EN S1 + -10000 * nx S1 ≤ EN S + -10000 * nx S + (-5000)) ∧ (iv S 8 1 ≤ iv S1 8 1) ∧ (iv S 10 1 ≤ iv S1 10 1)) (fun S1 => TH aw 2000 S S1)) := by
  refine am_e0 hi_134_0 ?_
  refine am_e3 (ls' := [some (.ref 7), some (.int (-1)), none, none]) hi_134_1 (Nat.le_of_ble_eq_true rfl) rfl ?_
  refine am_e2 (v := 7) hi_134_2 rfl ?_
  refine am_e32x (as := [.ref 7]) (la := [some (.ref 7)]) (rest := []) hi_134_3 (am_hd0 (M := 134) (by decide) 3) (Nat.le_of_ble_eq_true rfl) (Nat.le_of_ble_eq_true rfl) (show 1 ≤ am_P0.2.2.1 135 from by decide +kernel) rfl (cl_recv (h.1.s (7, 6) (by decide))) rfl rfl ?_
  refine am_e2 (v := 7) hi_135_0 rfl ?_
  refine cm_20f (r := 2) h hi_135_1 (h.1.s (7, 6) (by decide)) (by decide) rfl ?_
  refine am_e32t (as := [.ref 2]) (la := [some (.ref 2), none]) (rest := []) hi_135_4 (am_hd0 (M := 135) (by decide) 4) (Nat.le_of_ble_eq_true rfl) (Nat.le_of_ble_eq_true rfl) (show 1 ≤ am_P0.2.2.1 55 from by decide +kernel) rfl (cl_recv (h.1.s (2, 2) (by decide))) rfl rfl (ck_skip (d := (d + 5)) h   (by show 0 ≤ nx S; omega) (by show nx S ≤ wr S; omega) (by show wr S ≤ 600; omega) (by show 0 ≤ lv S; omega) (by show lv S ≤ 48; omega) (by show kd aw S ≠ 0; omega)) (fun S17 h18 => (show TH aw 2000 S S17 from ⟨h18.1, (Ex.refl S).trans h18.2.1, ⟨(by have q := h18.2.2.1.1; omega), h18.2.2.1.2.trans rfl⟩, h18.2.2.2.1, h18.2.2.2.2.1, (by have q := h18.2.2.2.2.2; omega)⟩)) ?_
  rintro v1 S2 ⟨r3, rfl, h4, h5, h6, h7, h8⟩
  have h5_ : nx S2 = nx S + 1 := h5
  have h6_ : lv S2 = lv S + c_dl (kd aw S) := h6
  have h7_ : lv S2 ≤ 48 := h7
  have h8_ : nx S2 ≤ wr S2 := h8
  obtain ⟨h19, h20, ⟨h23, h24⟩, ⟨h25, h26, h27⟩, h28, h29⟩ := h4
  have h30 := h28 8 (h.1.s (8, 3) (by decide))
  have h31 := h28 10 (h.1.s (10, 3) (by decide))
  have h32 := os_5 h25 1
  have h33 := os_13 h25 1
  have h34 : c_dl (kd aw S) = 0 := by unfold c_dl; split <;> split <;> omega
  show am_E _ _ _ _ [some (.ref 7)] [.int r3] _ _
  refine am_e6i hi_135_7 ?_
  refine am_e2 (v := 7) hi_135_8 rfl ?_
  refine am_e32q (d1 := d + 0 + 18) (by omega) (as := [.ref 7]) (la := [some (.ref 7), none, none, none, none, none]) (rest := []) hi_135_9 (am_hd0 (M := 135) (by decide) 9) (Nat.le_of_ble_eq_true rfl) (Nat.le_of_ble_eq_true rfl) (show 1 ≤ am_P0.2.2.1 70 from by decide +kernel) rfl (cl_recv (h19.1.s (7, 6) (by decide))) rfl rfl (cr_expression (d := d + 0) h19  ihR (by show 48 - lv S2 < (NN : Int) + 1; omega) (by show (30 : Int) * (48 - lv S2) ≤ ((d + 0 : Nat) : Int); omega) (by show 0 ≤ nx S2; omega) (by show nx S2 ≤ wr S2; omega) (by show wr S2 ≤ 600; omega) (by show 0 ≤ lv S2; omega) (by show lv S2 ≤ 48; omega) (by show 1 ≤ iv S2 13 1; omega) (by show iv S2 13 1 ≤ lv S2 + 1; omega) (by show iv S2 5 1 ≤ nx S2 + 1; omega)) (fun S46 h47 => (show TH aw 2000 S S46 from ⟨h47.1, h20.trans h47.2.1, ⟨(by have q := h47.2.2.1.1; omega), h47.2.2.1.2.trans h24⟩, h47.2.2.2.1, h47.2.2.2.2.1, (by have q := h47.2.2.2.2.2; omega)⟩)) ?_
  rintro v35 S36 ⟨rfl, h38, h39, h40, h41, h42, h43, h44⟩
  have h39_ : nx S2 + 1 ≤ nx S36 := h39
  have h40_ : nx S36 ≤ wr S36 := h40
  have h41_ : lv S36 = lv S2 + 0 := h41
  have h42_ : EN S36 + -10000 * nx S36 ≤ EN S2 + -10000 * nx S2 + (-2000) := h42
  have h43_ : iv S2 8 1 ≤ iv S36 8 1 := h43
  have h44_ : iv S2 10 1 ≤ iv S36 10 1 := h44
  obtain ⟨h48, h49, ⟨h52, h53⟩, ⟨h54, h55⟩⟩ := h38
  show am_E _ _ _ _ [some (.ref 7)] [] _ _
  refine am_e2 (v := 7) hi_135_12 rfl ?_
  refine cm_20f (r := 2) h48 hi_135_13 (h48.1.s (7, 6) (by decide)) (by decide) rfl ?_
  refine am_e0 hi_135_16 ?_
  refine am_e32t (as := [.ref 2, .int 28]) (la := [some (.ref 2), some (.int 28)]) (rest := []) hi_135_18 (am_hd0 (M := 135) (by decide) 18) (Nat.le_of_ble_eq_true rfl) (Nat.le_of_ble_eq_true rfl) (show 2 ≤ am_P0.2.2.1 64 from by decide +kernel) rfl (cl_recv (h48.1.s (2, 2) (by decide))) rfl rfl (ck_take (d := (d + 4)) h48   (by show 0 ≤ nx S36; omega) (by show nx S36 ≤ wr S36; omega) (by show wr S36 ≤ 600; omega) (by show 0 ≤ lv S36; omega) (by show lv S36 ≤ 48; omega) (by show ¬ (28 : Int) = 0; omega)) (fun S76 h77 => (show TH aw 2000 S S76 from ⟨h77.1, (h20.trans h49).trans h77.2.1, ⟨(by have q := h77.2.2.1.1; omega), h77.2.2.1.2.trans (h53.trans h24)⟩, h77.2.2.2.1, h77.2.2.2.2.1, (by have q := h77.2.2.2.2.2; omega)⟩)) ?_
  rintro v59 S60 ⟨r61, rfl, h62, h63, h64, h65, h66, h67⟩
  have h63_ : kd aw S36 = (28 : Int) := h63
  have h64_ : nx S60 = nx S36 + 1 := h64
  have h65_ : lv S60 = lv S36 + c_dl (kd aw S36) := h65
  have h66_ : lv S60 ≤ 48 := h66
  have h67_ : nx S60 ≤ wr S60 := h67
  obtain ⟨h78, h79, ⟨h82, h83⟩, ⟨h84, h85, h86⟩, h87, h88⟩ := h62
  have h89 := h87 8 (h48.1.s (8, 3) (by decide))
  have h90 := h87 10 (h48.1.s (10, 3) (by decide))
  have h91 := os_5 h84 1
  have h92 := os_13 h84 1
  have h93 : c_dl (kd aw S36) = 1 := by unfold c_dl; split <;> split <;> omega
  show am_E _ _ _ _ [some (.ref 7)] [.int r61] _ _
  refine am_e6i hi_135_21 ?_
  refine am_e2 (v := 7) hi_135_22 rfl ?_
  refine am_e0 hi_135_23 ?_
  refine am_e0 hi_135_25 ?_
  refine am_e0 hi_135_26 ?_
  refine am_e0 hi_135_27 ?_
  refine am_e32n (as := [.ref 7, .int 35, .int 0, .int 0, .int 0]) (la := [some (.ref 7), some (.int 35), some (.int 0), some (.int 0), some (.int 0)]) (rest := []) hi_135_28 (am_hd0 (M := 135) (by decide) 28) (Nat.le_of_ble_eq_true rfl) (Nat.le_of_ble_eq_true rfl) (show 5 ≤ am_P0.2.2.1 78 from by decide +kernel) rfl (cl_recv (h78.1.s (7, 6) (by decide))) rfl rfl (ck_emit (d := (d + 15)) h78   ) ?_
  rintro v94 S95 ⟨r96, rfl, h97, h98, h99, h100⟩
  have h98_ : iv S95 8 1 = iv S60 8 1 := h98
  have h99_ : iv S95 10 1 = iv S60 10 1 := h99
  have h100_ : iv S95 14 1 = iv S60 14 1 := h100
  obtain ⟨h102, h103, ⟨h104, h105, h106, h107⟩, ⟨h108, h109, h110⟩, h112⟩ := h97
  have h113 : kd aw S95 = kd aw S60 := kd_eq h104 h107
  have h114 := os_5 h108 1
  have h115 := os_13 h108 1
  show am_E _ _ _ _ [some (.ref 7)] [.int r96] _ _
  refine am_e33 hi_135_31 ?_
  show am_E _ _ _ _ [some (.ref 7), some (.int (-1)), none, none] [.int r96] _ _
  refine am_e3 (ls' := [some (.ref 7), some (.int (-1)), some (.int r96), none]) hi_134_6 (Nat.le_of_ble_eq_true rfl) rfl ?_
  refine am_e2 (v := 7) hi_134_7 rfl ?_
  refine am_e32q (d1 := d - 30 + 27 + 22) (by omega) (as := [.ref 7]) (la := [some (.ref 7)]) (rest := []) hi_134_8 (am_hd0 (M := 134) (by decide) 8) (Nat.le_of_ble_eq_true rfl) (Nat.le_of_ble_eq_true rfl) (show 1 ≤ am_P0.2.2.1 128 from by decide +kernel) rfl (cl_recv (h102.1.s (7, 6) (by decide))) rfl rfl (rc_128 ihR (d - 30 + 27) _  h102  (by show 48 - lv S95 < (NN : Int); omega) (by show (30 : Int) * (48 - lv S95) ≤ ((d - 30 + 27 : Nat) : Int); omega) (by show 0 ≤ nx S95; omega) (by show nx S95 ≤ wr S95; omega) (by show wr S95 ≤ 600; omega) (by show 0 ≤ lv S95; omega) (by show lv S95 ≤ 48; omega) (by show 1 ≤ iv S95 13 1; omega) (by show iv S95 13 1 ≤ lv S95 + 1; omega) (by show iv S95 5 1 ≤ nx S95 + 1; omega)) (fun S127 h128 => (show TH aw 2000 S S127 from ⟨h128.1, (((h20.trans h49).trans h79).trans h103).trans h128.2.1, ⟨(by have q := h128.2.2.1.1; omega), h128.2.2.1.2.trans (h107.trans (h83.trans (h53.trans h24)))⟩, h128.2.2.2.1, h128.2.2.2.2.1, (by have q := h128.2.2.2.2.2; omega)⟩)) ?_
  rintro v116 S117 ⟨rfl, h119, h120, h121, h122, h123, h124, h125⟩
  have h120_ : nx S95 + 0 ≤ nx S117 := h120
  have h121_ : nx S117 ≤ wr S117 := h121
  have h122_ : lv S117 = lv S95 + 0 := h122
  have h123_ : EN S117 + -10000 * nx S117 ≤ EN S95 + -10000 * nx S95 + 500 := h123
  have h124_ : iv S95 8 1 ≤ iv S117 8 1 := h124
  have h125_ : iv S95 10 1 ≤ iv S117 10 1 := h125
  obtain ⟨h129, h130, ⟨h133, h134⟩, ⟨h135, h136⟩⟩ := h119
  show am_E _ _ _ _ [some (.ref 7), some (.int (-1)), some (.int r96), none] [] _ _
  refine am_e0 hi_134_11 ?_
  refine am_e3 (ls' := [some (.ref 7), some (.int (-1)), some (.int r96), some (.int 0)]) hi_134_12 (Nat.le_of_ble_eq_true rfl) rfl ?_
  refine cg_choice (d := d) (Sb := S117) h129  ihR (by show 49 - lv S117 < (NN : Int) + 1; omega) (by show (30 : Int) * (49 - lv S117) ≤ ((d : Nat) : Int); omega) (by show 0 ≤ nx S117; omega) (by show nx S117 ≤ wr S117; omega) (by show wr S117 ≤ 600; omega) (by show 0 ≤ lv S117; omega) (by show lv S117 ≤ 48; omega) (by show 1 ≤ iv S117 13 1; omega) (by show iv S117 13 1 ≤ lv S117 + 0; omega) (by show iv S117 5 1 ≤ nx S117 + 1; omega) (by show 1 ≤ lv S117; omega) (fun S140 h141 => (show TH aw 2000 S S140 from ⟨h141.1, ((((h20.trans h49).trans h79).trans h103).trans h130).trans h141.2.1, ⟨(by have q := h141.2.2.1.1; omega), h141.2.2.1.2.trans (h134.trans (h107.trans (h83.trans (h53.trans h24))))⟩, h141.2.2.2.1, h141.2.2.2.2.1, (by have q := h141.2.2.2.2.2; omega)⟩)) ?_ ((2147483647 - (0 : Int)).toNat + 1) S117 (-1) r96 0 ⟨h129, Ex.refl _, ⟨rfl, rfl⟩, ⟨rfl, Int.le_refl _⟩⟩ (by show nx S117 + 0 ≤ nx S117; omega) (by show nx S117 ≤ wr S117; omega) (by show lv S117 = lv S117 + 0; omega) (by show EN S117 + -10000 * nx S117 ≤ EN S117 + -10000 * nx S117 + 0; omega) (by show iv S117 8 1 ≤ iv S117 8 1; omega) (by show iv S117 10 1 ≤ iv S117 10 1; omega) (by show 2147483647 - (0 : Int) < _; omega)
  · intro S145 ex142 no143 n144 h146 h147 h148 h149 h150 h151 h152
    have h147_ : nx S117 + 0 ≤ nx S145 := h147
    have h148_ : nx S145 ≤ wr S145 := h148
    have h149_ : lv S145 = lv S117 + 0 := h149
    have h150_ : EN S145 + -10000 * nx S145 ≤ EN S117 + -10000 * nx S117 + 0 := h150
    have h151_ : iv S117 8 1 ≤ iv S145 8 1 := h151
    have h152_ : iv S117 10 1 ≤ iv S145 10 1 := h152
    obtain ⟨h153, h154, ⟨h157, h158⟩, ⟨h159, h160⟩⟩ := h146
    show am_E _ _ _ _ [some (.ref 7), some (.int ex142), some (.int no143), some (.int n144)] [] _ _
    refine am_e2 (v := 7) hi_134_54 rfl ?_
    refine cm_20f (r := 2) h153 hi_134_55 (h153.1.s (7, 6) (by decide)) (by decide) rfl ?_
    refine am_e32n (as := [.ref 2]) (la := [some (.ref 2)]) (rest := []) hi_134_58 (am_hd0 (M := 134) (by decide) 58) (Nat.le_of_ble_eq_true rfl) (Nat.le_of_ble_eq_true rfl) (show 1 ≤ am_P0.2.2.1 53 from by decide +kernel) rfl (cl_recv (h153.1.s (2, 2) (by decide))) rfl rfl (ck_kind (d := (d + 18)) h153   ) ?_
    rintro v164 S165 ⟨r166, rfl, rfl, h168⟩
    have h168_ : r166.toInt = kd aw S145 := h168
    show am_E _ _ _ _ [some (.ref 7), some (.int ex142), some (.int no143), some (.int n144)] [.int r166] _ _
    refine am_e0 hi_134_61 ?_
    by_cases c170 : ¬ r166.toInt = (13 : Int)
    · refine am_e13t hi_134_63 (am_cT (m := r166.toInt) (n := (13 : Int)) rfl (by decide) c170) ?_
      refine am_e2 (v := 7) hi_134_87 rfl ?_
      refine cm_20f (r := 2) h153 hi_134_88 (h153.1.s (7, 6) (by decide)) (by decide) rfl ?_
      refine am_e0 hi_134_91 ?_
      refine am_e32t (as := [.ref 2, .int 15]) (la := [some (.ref 2), some (.int 15)]) (rest := []) hi_134_93 (am_hd0 (M := 134) (by decide) 93) (Nat.le_of_ble_eq_true rfl) (Nat.le_of_ble_eq_true rfl) (show 2 ≤ am_P0.2.2.1 64 from by decide +kernel) rfl (cl_recv (h153.1.s (2, 2) (by decide))) rfl rfl (ck_take (d := (d + 5)) h153   (by show 0 ≤ nx S145; omega) (by show nx S145 ≤ wr S145; omega) (by show wr S145 ≤ 600; omega) (by show 0 ≤ lv S145; omega) (by show lv S145 ≤ 48; omega) (by show ¬ (15 : Int) = 0; omega)) (fun S188 h189 => (show TH aw 2000 S S188 from ⟨h189.1, (((((h20.trans h49).trans h79).trans h103).trans h130).trans h154).trans h189.2.1, ⟨(by have q := h189.2.2.1.1; omega), h189.2.2.1.2.trans (h158.trans (h134.trans (h107.trans (h83.trans (h53.trans h24)))))⟩, h189.2.2.2.1, h189.2.2.2.2.1, (by have q := h189.2.2.2.2.2; omega)⟩)) ?_
      rintro v171 S172 ⟨r173, rfl, h174, h175, h176, h177, h178, h179⟩
      have h175_ : kd aw S145 = (15 : Int) := h175
      have h176_ : nx S172 = nx S145 + 1 := h176
      have h177_ : lv S172 = lv S145 + c_dl (kd aw S145) := h177
      have h178_ : lv S172 ≤ 48 := h178
      have h179_ : nx S172 ≤ wr S172 := h179
      obtain ⟨h190, h191, ⟨h194, h195⟩, ⟨h196, h197, h198⟩, h199, h200⟩ := h174
      have h201 := h199 8 (h153.1.s (8, 3) (by decide))
      have h202 := h199 10 (h153.1.s (10, 3) (by decide))
      have h203 := os_5 h196 1
      have h204 := os_13 h196 1
      have h205 : c_dl (kd aw S145) = -1 := by unfold c_dl; split <;> split <;> omega
      show am_E _ _ _ _ [some (.ref 7), some (.int ex142), some (.int no143), some (.int n144)] [.int r173] _ _
      refine am_e6i hi_134_96 ?_
      refine am_e2 (v := 7) hi_134_97 rfl ?_
      refine cm_20f (r := 12) h190 hi_134_98 (h190.1.s (7, 6) (by decide)) (by decide) rfl ?_
      refine am_e32x (as := [.ref 12]) (la := [some (.ref 12)]) (rest := []) hi_134_101 (am_hd0 (M := 134) (by decide) 101) (Nat.le_of_ble_eq_true rfl) (Nat.le_of_ble_eq_true rfl) (show 1 ≤ am_P0.2.2.1 79 from by decide +kernel) rfl (cl_recv (h190.1.s (12, 7) (by decide))) rfl rfl ?_
      refine am_e2 (v := 12) hi_79_0 rfl ?_
      refine cm_20n h190 hi_79_1 fun hb206 => ?_
      refine am_e34 hi_79_4 ?_
      show am_E _ _ _ _ [some (.ref 7), some (.int ex142), some (.int no143), some (.int n144)] [.ref (nw S172)] _ _
      refine am_e1 (v := no143) hi_134_104 rfl ?_
      refine am_e0 hi_134_105 ?_
      refine am_e32n (as := [.ref (nw S172), .int no143, .int 1]) (la := [some (.ref (nw S172)), some (.int no143), some (.int 1)]) (rest := []) hi_134_106 (am_hd0 (M := 134) (by decide) 106) (Nat.le_of_ble_eq_true rfl) (Nat.le_of_ble_eq_true rfl) (show 3 ≤ am_P0.2.2.1 109 from by decide +kernel) rfl (cl_recv hb206) rfl rfl (ck_leadHere (d := (d + 18)) h190 hb206  ) ?_
      rintro v207 S208 ⟨rfl, h210⟩
      obtain ⟨h212, h213, ⟨h214, h215, h216, h217⟩, ⟨h218, h219, h220⟩, h221, h222⟩ := h210
      have h223 : kd aw S208 = kd aw S172 := kd_eq h214 h217
      have h224 := h221 8 (h190.1.s (8, 3) (by decide))
      have h225 := h221 10 (h190.1.s (10, 3) (by decide))
      have h226 := os_5 h218 1
      have h227 := os_13 h218 1
      show am_E _ _ _ _ [some (.ref 7), some (.int ex142), some (.int no143), some (.int n144)] [] _ _
      refine am_e2 (v := 7) hi_134_109 rfl ?_
      refine am_e1 (v := ex142) hi_134_110 rfl ?_
      refine am_e32n (as := [.ref 7, .int ex142]) (la := [some (.ref 7), some (.int ex142), none, none, none]) (rest := []) hi_134_111 (am_hd0 (M := 134) (by decide) 111) (Nat.le_of_ble_eq_true rfl) (Nat.le_of_ble_eq_true rfl) (show 2 ≤ am_P0.2.2.1 137 from by decide +kernel) rfl (cl_recv (h212.1.s (7, 6) (by decide))) rfl rfl (ck_leadChain (d := (d + 17)) h212   ) ?_
      rintro v228 S229 ⟨rfl, h231⟩
      obtain ⟨h233, h234, ⟨h235, h236, h237, h238⟩, ⟨h239, h240, h241⟩, h242, h243⟩ := h231
      have h244 : kd aw S229 = kd aw S208 := kd_eq h235 h238
      have h245 := h242 8 (h212.1.s (8, 3) (by decide))
      have h246 := h242 10 (h212.1.s (10, 3) (by decide))
      have h247 := os_5 h239 1
      have h248 := os_13 h239 1
      show am_E _ _ _ _ [some (.ref 7), some (.int ex142), some (.int no143), some (.int n144)] [] _ _
      refine am_e35 hi_134_114 ?_
      exact ⟨rfl, ⟨h233, ((((((((h20.trans h49).trans h79).trans h103).trans h130).trans h154).trans h191).trans h213).trans h234), ⟨(by show wr S229 = wr S; omega), (h238.trans (h217.trans (h195.trans (h158.trans (h134.trans (h107.trans (h83.trans (h53.trans h24))))))))⟩, ⟨(by show iv S229 13 1 = iv S 13 1; omega), (by show iv S229 5 1 - nx S229 ≤ iv S 5 1 - nx S; omega)⟩⟩, (by show nx S + 1 ≤ nx S229; omega), (by show nx S229 ≤ wr S229; omega), (by show lv S229 = lv S + 0; omega), (by show EN S229 + -10000 * nx S229 ≤ EN S + -10000 * nx S + (-5000); omega), (by show iv S 8 1 ≤ iv S229 8 1; omega), (by show iv S 10 1 ≤ iv S229 10 1; omega)⟩
    · refine am_e13f hi_134_63 (am_cF (m := r166.toInt) (n := (13 : Int)) rfl (by decide) c170) ?_
      refine am_e2 (v := 7) hi_134_66 rfl ?_
      refine am_e1 (v := no143) hi_134_67 rfl ?_
      refine am_e1 (v := ex142) hi_134_68 rfl ?_
      refine am_e32n (as := [.ref 7, .int no143, .int ex142]) (la := [some (.ref 7), some (.int no143), some (.int ex142), none]) (rest := []) hi_134_69 (am_hd0 (M := 134) (by decide) 69) (Nat.le_of_ble_eq_true rfl) (Nat.le_of_ble_eq_true rfl) (show 3 ≤ am_P0.2.2.1 136 from by decide +kernel) rfl (cl_recv (h153.1.s (7, 6) (by decide))) rfl rfl (ck_nextPart (d := (d + 15)) h153   ) ?_
      rintro v249 S250 ⟨r251, rfl, h252, h253, h254, h255⟩
      have h253_ : iv S250 8 1 = iv S145 8 1 := h253
      have h254_ : iv S250 10 1 = iv S145 10 1 := h254
      have h255_ : iv S250 14 1 = iv S145 14 1 := h255
      obtain ⟨h257, h258, ⟨h259, h260, h261, h262⟩, ⟨h263, h264, h265⟩, h267⟩ := h252
      have h268 : kd aw S250 = kd aw S145 := kd_eq h259 h262
      have h269 := os_5 h263 1
      have h270 := os_13 h263 1
      show am_E _ _ _ _ [some (.ref 7), some (.int ex142), some (.int no143), some (.int n144)] [.int r251] _ _
      refine am_e3 (ls' := [some (.ref 7), some (.int r251), some (.int no143), some (.int n144)]) hi_134_72 (Nat.le_of_ble_eq_true rfl) rfl ?_
      refine am_e0 hi_134_73 ?_
      refine am_e3 (ls' := [some (.ref 7), some (.int r251), some (.int (-1)), some (.int n144)]) hi_134_74 (Nat.le_of_ble_eq_true rfl) rfl ?_
      refine am_e2 (v := 7) hi_134_75 rfl ?_
      refine cm_20f (r := 2) h257 hi_134_76 (h257.1.s (7, 6) (by decide)) (by decide) rfl ?_
      refine am_e32t (as := [.ref 2]) (la := [some (.ref 2), none]) (rest := []) hi_134_79 (am_hd0 (M := 134) (by decide) 79) (Nat.le_of_ble_eq_true rfl) (Nat.le_of_ble_eq_true rfl) (show 1 ≤ am_P0.2.2.1 55 from by decide +kernel) rfl (cl_recv (h257.1.s (2, 2) (by decide))) rfl rfl (ck_skip (d := (d + 6)) h257   (by show 0 ≤ nx S250; omega) (by show nx S250 ≤ wr S250; omega) (by show wr S250 ≤ 600; omega) (by show 0 ≤ lv S250; omega) (by show lv S250 ≤ 48; omega) (by show kd aw S250 ≠ 0; omega)) (fun S287 h288 => (show TH aw 2000 S S287 from ⟨h288.1, ((((((h20.trans h49).trans h79).trans h103).trans h130).trans h154).trans h258).trans h288.2.1, ⟨(by have q := h288.2.2.1.1; omega), h288.2.2.1.2.trans (h262.trans (h158.trans (h134.trans (h107.trans (h83.trans (h53.trans h24))))))⟩, h288.2.2.2.1, h288.2.2.2.2.1, (by have q := h288.2.2.2.2.2; omega)⟩)) ?_
      rintro v271 S272 ⟨r273, rfl, h274, h275, h276, h277, h278⟩
      have h275_ : nx S272 = nx S250 + 1 := h275
      have h276_ : lv S272 = lv S250 + c_dl (kd aw S250) := h276
      have h277_ : lv S272 ≤ 48 := h277
      have h278_ : nx S272 ≤ wr S272 := h278
      obtain ⟨h289, h290, ⟨h293, h294⟩, ⟨h295, h296, h297⟩, h298, h299⟩ := h274
      have h300 := h298 8 (h257.1.s (8, 3) (by decide))
      have h301 := h298 10 (h257.1.s (10, 3) (by decide))
      have h302 := os_5 h295 1
      have h303 := os_13 h295 1
      have h304 : c_dl (kd aw S250) = 0 := by unfold c_dl; split <;> split <;> omega
      show am_E _ _ _ _ [some (.ref 7), some (.int r251), some (.int (-1)), some (.int n144)] [.int r273] _ _
      refine am_e6i hi_134_82 ?_
      refine am_e2 (v := 7) hi_134_83 rfl ?_
      refine am_e32q (d1 := d - 30 + 27 + 22) (by omega) (as := [.ref 7]) (la := [some (.ref 7)]) (rest := []) hi_134_84 (am_hd0 (M := 134) (by decide) 84) (Nat.le_of_ble_eq_true rfl) (Nat.le_of_ble_eq_true rfl) (show 1 ≤ am_P0.2.2.1 128 from by decide +kernel) rfl (cl_recv (h289.1.s (7, 6) (by decide))) rfl rfl (rc_128 ihR (d - 30 + 27) _  h289  (by show 48 - lv S272 < (NN : Int); omega) (by show (30 : Int) * (48 - lv S272) ≤ ((d - 30 + 27 : Nat) : Int); omega) (by show 0 ≤ nx S272; omega) (by show nx S272 ≤ wr S272; omega) (by show wr S272 ≤ 600; omega) (by show 0 ≤ lv S272; omega) (by show lv S272 ≤ 48; omega) (by show 1 ≤ iv S272 13 1; omega) (by show iv S272 13 1 ≤ lv S272 + 1; omega) (by show iv S272 5 1 ≤ nx S272 + 1; omega)) (fun S316 h317 => (show TH aw 2000 S S316 from ⟨h317.1, (((((((h20.trans h49).trans h79).trans h103).trans h130).trans h154).trans h258).trans h290).trans h317.2.1, ⟨(by have q := h317.2.2.1.1; omega), h317.2.2.1.2.trans (h294.trans (h262.trans (h158.trans (h134.trans (h107.trans (h83.trans (h53.trans h24)))))))⟩, h317.2.2.2.1, h317.2.2.2.2.1, (by have q := h317.2.2.2.2.2; omega)⟩)) ?_
      rintro v305 S306 ⟨rfl, h308, h309, h310, h311, h312, h313, h314⟩
      have h309_ : nx S272 + 0 ≤ nx S306 := h309
      have h310_ : nx S306 ≤ wr S306 := h310
      have h311_ : lv S306 = lv S272 + 0 := h311
      have h312_ : EN S306 + -10000 * nx S306 ≤ EN S272 + -10000 * nx S272 + 500 := h312
      have h313_ : iv S272 8 1 ≤ iv S306 8 1 := h313
      have h314_ : iv S272 10 1 ≤ iv S306 10 1 := h314
      obtain ⟨h318, h319, ⟨h322, h323⟩, ⟨h324, h325⟩⟩ := h308
      show am_E _ _ _ _ [some (.ref 7), some (.int r251), some (.int (-1)), some (.int n144)] [] _ _
      refine am_e2 (v := 7) hi_134_87 rfl ?_
      refine cm_20f (r := 2) h318 hi_134_88 (h318.1.s (7, 6) (by decide)) (by decide) rfl ?_
      refine am_e0 hi_134_91 ?_
      refine am_e32t (as := [.ref 2, .int 15]) (la := [some (.ref 2), some (.int 15)]) (rest := []) hi_134_93 (am_hd0 (M := 134) (by decide) 93) (Nat.le_of_ble_eq_true rfl) (Nat.le_of_ble_eq_true rfl) (show 2 ≤ am_P0.2.2.1 64 from by decide +kernel) rfl (cl_recv (h318.1.s (2, 2) (by decide))) rfl rfl (ck_take (d := (d + 5)) h318   (by show 0 ≤ nx S306; omega) (by show nx S306 ≤ wr S306; omega) (by show wr S306 ≤ 600; omega) (by show 0 ≤ lv S306; omega) (by show lv S306 ≤ 48; omega) (by show ¬ (15 : Int) = 0; omega)) (fun S346 h347 => (show TH aw 2000 S S346 from ⟨h347.1, ((((((((h20.trans h49).trans h79).trans h103).trans h130).trans h154).trans h258).trans h290).trans h319).trans h347.2.1, ⟨(by have q := h347.2.2.1.1; omega), h347.2.2.1.2.trans (h323.trans (h294.trans (h262.trans (h158.trans (h134.trans (h107.trans (h83.trans (h53.trans h24))))))))⟩, h347.2.2.2.1, h347.2.2.2.2.1, (by have q := h347.2.2.2.2.2; omega)⟩)) ?_
      rintro v329 S330 ⟨r331, rfl, h332, h333, h334, h335, h336, h337⟩
      have h333_ : kd aw S306 = (15 : Int) := h333
      have h334_ : nx S330 = nx S306 + 1 := h334
      have h335_ : lv S330 = lv S306 + c_dl (kd aw S306) := h335
      have h336_ : lv S330 ≤ 48 := h336
      have h337_ : nx S330 ≤ wr S330 := h337
      obtain ⟨h348, h349, ⟨h352, h353⟩, ⟨h354, h355, h356⟩, h357, h358⟩ := h332
      have h359 := h357 8 (h318.1.s (8, 3) (by decide))
      have h360 := h357 10 (h318.1.s (10, 3) (by decide))
      have h361 := os_5 h354 1
      have h362 := os_13 h354 1
      have h363 : c_dl (kd aw S306) = -1 := by unfold c_dl; split <;> split <;> omega
      show am_E _ _ _ _ [some (.ref 7), some (.int r251), some (.int (-1)), some (.int n144)] [.int r331] _ _
      refine am_e6i hi_134_96 ?_
      refine am_e2 (v := 7) hi_134_97 rfl ?_
      refine cm_20f (r := 12) h348 hi_134_98 (h348.1.s (7, 6) (by decide)) (by decide) rfl ?_
      refine am_e32x (as := [.ref 12]) (la := [some (.ref 12)]) (rest := []) hi_134_101 (am_hd0 (M := 134) (by decide) 101) (Nat.le_of_ble_eq_true rfl) (Nat.le_of_ble_eq_true rfl) (show 1 ≤ am_P0.2.2.1 79 from by decide +kernel) rfl (cl_recv (h348.1.s (12, 7) (by decide))) rfl rfl ?_
      refine am_e2 (v := 12) hi_79_0 rfl ?_
      refine cm_20n h348 hi_79_1 fun hb364 => ?_
      refine am_e34 hi_79_4 ?_
      show am_E _ _ _ _ [some (.ref 7), some (.int r251), some (.int (-1)), some (.int n144)] [.ref (nw S330)] _ _
      refine am_e1 (v := (-1)) hi_134_104 rfl ?_
      refine am_e0 hi_134_105 ?_
      refine am_e32n (as := [.ref (nw S330), .int (-1), .int 1]) (la := [some (.ref (nw S330)), some (.int (-1)), some (.int 1)]) (rest := []) hi_134_106 (am_hd0 (M := 134) (by decide) 106) (Nat.le_of_ble_eq_true rfl) (Nat.le_of_ble_eq_true rfl) (show 3 ≤ am_P0.2.2.1 109 from by decide +kernel) rfl (cl_recv hb364) rfl rfl (ck_leadHere (d := (d + 18)) h348 hb364  ) ?_
      rintro v365 S366 ⟨rfl, h368⟩
      obtain ⟨h370, h371, ⟨h372, h373, h374, h375⟩, ⟨h376, h377, h378⟩, h379, h380⟩ := h368
      have h381 : kd aw S366 = kd aw S330 := kd_eq h372 h375
      have h382 := h379 8 (h348.1.s (8, 3) (by decide))
      have h383 := h379 10 (h348.1.s (10, 3) (by decide))
      have h384 := os_5 h376 1
      have h385 := os_13 h376 1
      show am_E _ _ _ _ [some (.ref 7), some (.int r251), some (.int (-1)), some (.int n144)] [] _ _
      refine am_e2 (v := 7) hi_134_109 rfl ?_
      refine am_e1 (v := r251) hi_134_110 rfl ?_
      refine am_e32n (as := [.ref 7, .int r251]) (la := [some (.ref 7), some (.int r251), none, none, none]) (rest := []) hi_134_111 (am_hd0 (M := 134) (by decide) 111) (Nat.le_of_ble_eq_true rfl) (Nat.le_of_ble_eq_true rfl) (show 2 ≤ am_P0.2.2.1 137 from by decide +kernel) rfl (cl_recv (h370.1.s (7, 6) (by decide))) rfl rfl (ck_leadChain (d := (d + 17)) h370   ) ?_
      rintro v386 S387 ⟨rfl, h389⟩
      obtain ⟨h391, h392, ⟨h393, h394, h395, h396⟩, ⟨h397, h398, h399⟩, h400, h401⟩ := h389
      have h402 : kd aw S387 = kd aw S366 := kd_eq h393 h396
      have h403 := h400 8 (h370.1.s (8, 3) (by decide))
      have h404 := h400 10 (h370.1.s (10, 3) (by decide))
      have h405 := os_5 h397 1
      have h406 := os_13 h397 1
      show am_E _ _ _ _ [some (.ref 7), some (.int r251), some (.int (-1)), some (.int n144)] [] _ _
      refine am_e35 hi_134_114 ?_
      exact ⟨rfl, ⟨h391, (((((((((((h20.trans h49).trans h79).trans h103).trans h130).trans h154).trans h258).trans h290).trans h319).trans h349).trans h371).trans h392), ⟨(by show wr S387 = wr S; omega), (h396.trans (h375.trans (h353.trans (h323.trans (h294.trans (h262.trans (h158.trans (h134.trans (h107.trans (h83.trans (h53.trans h24)))))))))))⟩, ⟨(by show iv S387 13 1 = iv S 13 1; omega), (by show iv S387 5 1 - nx S387 ≤ iv S 5 1 - nx S; omega)⟩⟩, (by show nx S + 1 ≤ nx S387; omega), (by show nx S387 ≤ wr S387; omega), (by show lv S387 = lv S + 0; omega), (by show EN S387 + -10000 * nx S387 ≤ EN S + -10000 * nx S + (-5000); omega), (by show iv S 8 1 ≤ iv S387 8 1; omega), (by show iv S 10 1 ≤ iv S387 10 1; omega)⟩
theorem cr_numVals {sc : Nat × (Nat → Int32)} {d aw NN : Nat} {S : am_S} (h : SH aw S) (ihR : RC sc aw NN) (hN : 48 - lv S < (NN : Int) + 1) (hd : (30 : Int) * (48 - lv S) ≤ (d : Int)) (p0 : 0 ≤ nx S) (p1 : nx S ≤ wr S) (p2 : wr S ≤ 600) (p3 : 0 ≤ lv S) (p4 : lv S ≤ 48) (p5 : 1 ≤ iv S 13 1) (p6 : iv S 13 1 ≤ lv S + 1) (p7 : iv S 5 1 ≤ nx S + 1) : am_E (am_PP sc) (d + 19) 139 0 [some (.ref 7)] [] S (am_T (fun v S1 => v = none ∧ Ad aw S S1 ∧ (nx S + 1 ≤ nx S1) ∧ (nx S1 ≤ wr S1) ∧ (lv S1 = lv S + 0) ∧ (EN S1 + -10000 * nx S1 ≤ EN S + -10000 * nx S + (-2000)) ∧ (iv S 8 1 ≤ iv S1 8 1) ∧ (iv S 10 1 ≤ iv S1 10 1)) (fun S1 => TH aw 2000 S S1)) := by
  refine am_e2 (v := 7) hi_139_0 rfl ?_
  refine am_e32q (d1 := d + 0 + 18) (by omega) (as := [.ref 7]) (la := [some (.ref 7), none, none, none, none, none]) (rest := []) hi_139_1 (am_hd0 (M := 139) (by decide) 1) (Nat.le_of_ble_eq_true rfl) (Nat.le_of_ble_eq_true rfl) (show 1 ≤ am_P0.2.2.1 70 from by decide +kernel) rfl (cl_recv (h.1.s (7, 6) (by decide))) rfl rfl (cr_expression (d := d + 0) h  ihR (by show 48 - lv S < (NN : Int) + 1; omega) (by show (30 : Int) * (48 - lv S) ≤ ((d + 0 : Nat) : Int); omega) (by show 0 ≤ nx S; omega) (by show nx S ≤ wr S; omega) (by show wr S ≤ 600; omega) (by show 0 ≤ lv S; omega) (by show lv S ≤ 48; omega) (by show 1 ≤ iv S 13 1; omega) (by show iv S 13 1 ≤ lv S + 1; omega) (by show iv S 5 1 ≤ nx S + 1; omega)) (fun S12 h13 => (show TH aw 2000 S S12 from ⟨h13.1, (Ex.refl S).trans h13.2.1, ⟨(by have q := h13.2.2.1.1; omega), h13.2.2.1.2.trans rfl⟩, h13.2.2.2.1, h13.2.2.2.2.1, (by have q := h13.2.2.2.2.2; omega)⟩)) ?_
  rintro v1 S2 ⟨rfl, h4, h5, h6, h7, h8, h9, h10⟩
  have h5_ : nx S + 1 ≤ nx S2 := h5
  have h6_ : nx S2 ≤ wr S2 := h6
  have h7_ : lv S2 = lv S + 0 := h7
  have h8_ : EN S2 + -10000 * nx S2 ≤ EN S + -10000 * nx S + (-2000) := h8
  have h9_ : iv S 8 1 ≤ iv S2 8 1 := h9
  have h10_ : iv S 10 1 ≤ iv S2 10 1 := h10
  obtain ⟨h14, h15, ⟨h18, h19⟩, ⟨h20, h21⟩⟩ := h4
  show am_E _ _ _ _ [some (.ref 7)] [] _ _
  refine am_e2 (v := 7) hi_139_4 rfl ?_
  refine cm_20f (r := 2) h14 hi_139_5 (h14.1.s (7, 6) (by decide)) (by decide) rfl ?_
  refine am_e0 hi_139_8 ?_
  refine am_e32t (as := [.ref 2, .int 69]) (la := [some (.ref 2), some (.int 69)]) (rest := []) hi_139_10 (am_hd0 (M := 139) (by decide) 10) (Nat.le_of_ble_eq_true rfl) (Nat.le_of_ble_eq_true rfl) (show 2 ≤ am_P0.2.2.1 64 from by decide +kernel) rfl (cl_recv (h14.1.s (2, 2) (by decide))) rfl rfl (ck_take (d := (d + 4)) h14   (by show 0 ≤ nx S2; omega) (by show nx S2 ≤ wr S2; omega) (by show wr S2 ≤ 600; omega) (by show 0 ≤ lv S2; omega) (by show lv S2 ≤ 48; omega) (by show ¬ (69 : Int) = 0; omega)) (fun S42 h43 => (show TH aw 2000 S S42 from ⟨h43.1, h15.trans h43.2.1, ⟨(by have q := h43.2.2.1.1; omega), h43.2.2.1.2.trans h19⟩, h43.2.2.2.1, h43.2.2.2.2.1, (by have q := h43.2.2.2.2.2; omega)⟩)) ?_
  rintro v25 S26 ⟨r27, rfl, h28, h29, h30, h31, h32, h33⟩
  have h29_ : kd aw S2 = (69 : Int) := h29
  have h30_ : nx S26 = nx S2 + 1 := h30
  have h31_ : lv S26 = lv S2 + c_dl (kd aw S2) := h31
  have h32_ : lv S26 ≤ 48 := h32
  have h33_ : nx S26 ≤ wr S26 := h33
  obtain ⟨h44, h45, ⟨h48, h49⟩, ⟨h50, h51, h52⟩, h53, h54⟩ := h28
  have h55 := h53 8 (h14.1.s (8, 3) (by decide))
  have h56 := h53 10 (h14.1.s (10, 3) (by decide))
  have h57 := os_5 h50 1
  have h58 := os_13 h50 1
  have h59 : c_dl (kd aw S2) = 0 := by unfold c_dl; split <;> split <;> omega
  show am_E _ _ _ _ [some (.ref 7)] [.int r27] _ _
  refine am_e6i hi_139_13 ?_
  refine am_e2 (v := 7) hi_139_14 rfl ?_
  refine am_e32q (d1 := d + 0 + 18) (by omega) (as := [.ref 7]) (la := [some (.ref 7), none, none, none, none, none]) (rest := []) hi_139_15 (am_hd0 (M := 139) (by decide) 15) (Nat.le_of_ble_eq_true rfl) (Nat.le_of_ble_eq_true rfl) (show 1 ≤ am_P0.2.2.1 70 from by decide +kernel) rfl (cl_recv (h44.1.s (7, 6) (by decide))) rfl rfl (cr_expression (d := d + 0) h44  ihR (by show 48 - lv S26 < (NN : Int) + 1; omega) (by show (30 : Int) * (48 - lv S26) ≤ ((d + 0 : Nat) : Int); omega) (by show 0 ≤ nx S26; omega) (by show nx S26 ≤ wr S26; omega) (by show wr S26 ≤ 600; omega) (by show 0 ≤ lv S26; omega) (by show lv S26 ≤ 48; omega) (by show 1 ≤ iv S26 13 1; omega) (by show iv S26 13 1 ≤ lv S26 + 1; omega) (by show iv S26 5 1 ≤ nx S26 + 1; omega)) (fun S71 h72 => (show TH aw 2000 S S71 from ⟨h72.1, (h15.trans h45).trans h72.2.1, ⟨(by have q := h72.2.2.1.1; omega), h72.2.2.1.2.trans (h49.trans h19)⟩, h72.2.2.2.1, h72.2.2.2.2.1, (by have q := h72.2.2.2.2.2; omega)⟩)) ?_
  rintro v60 S61 ⟨rfl, h63, h64, h65, h66, h67, h68, h69⟩
  have h64_ : nx S26 + 1 ≤ nx S61 := h64
  have h65_ : nx S61 ≤ wr S61 := h65
  have h66_ : lv S61 = lv S26 + 0 := h66
  have h67_ : EN S61 + -10000 * nx S61 ≤ EN S26 + -10000 * nx S26 + (-2000) := h67
  have h68_ : iv S26 8 1 ≤ iv S61 8 1 := h68
  have h69_ : iv S26 10 1 ≤ iv S61 10 1 := h69
  obtain ⟨h73, h74, ⟨h77, h78⟩, ⟨h79, h80⟩⟩ := h63
  show am_E _ _ _ _ [some (.ref 7)] [] _ _
  refine am_e2 (v := 7) hi_139_18 rfl ?_
  refine cm_20f (r := 2) h73 hi_139_19 (h73.1.s (7, 6) (by decide)) (by decide) rfl ?_
  refine am_e32n (as := [.ref 2]) (la := [some (.ref 2)]) (rest := []) hi_139_22 (am_hd0 (M := 139) (by decide) 22) (Nat.le_of_ble_eq_true rfl) (Nat.le_of_ble_eq_true rfl) (show 1 ≤ am_P0.2.2.1 53 from by decide +kernel) rfl (cl_recv (h73.1.s (2, 2) (by decide))) rfl rfl (ck_kind (d := (d + 17)) h73   ) ?_
  rintro v84 S85 ⟨r86, rfl, rfl, h88⟩
  have h88_ : r86.toInt = kd aw S61 := h88
  show am_E _ _ _ _ [some (.ref 7)] [.int r86] _ _
  refine am_e0 hi_139_25 ?_
  by_cases c90 : ¬ r86.toInt = (69 : Int)
  · refine am_e13t hi_139_27 (am_cT (m := r86.toInt) (n := (69 : Int)) rfl (by decide) c90) ?_
    refine am_e2 (v := 7) hi_139_45 rfl ?_
    refine am_e0 hi_139_46 ?_
    refine am_e0 hi_139_47 ?_
    refine am_e0 hi_139_49 ?_
    refine am_e0 hi_139_50 ?_
    refine am_e32n (as := [.ref 7, .int 4, .int (-4), .int 0, .int 0]) (la := [some (.ref 7), some (.int 4), some (.int (-4)), some (.int 0), some (.int 0)]) (rest := []) hi_139_51 (am_hd0 (M := 139) (by decide) 51) (Nat.le_of_ble_eq_true rfl) (Nat.le_of_ble_eq_true rfl) (show 5 ≤ am_P0.2.2.1 78 from by decide +kernel) rfl (cl_recv (h73.1.s (7, 6) (by decide))) rfl rfl (ck_emit (d := (d + 15)) h73   ) ?_
    rintro v91 S92 ⟨r93, rfl, h94, h95, h96, h97⟩
    have h95_ : iv S92 8 1 = iv S61 8 1 := h95
    have h96_ : iv S92 10 1 = iv S61 10 1 := h96
    have h97_ : iv S92 14 1 = iv S61 14 1 := h97
    obtain ⟨h99, h100, ⟨h101, h102, h103, h104⟩, ⟨h105, h106, h107⟩, h109⟩ := h94
    have h110 : kd aw S92 = kd aw S61 := kd_eq h101 h104
    have h111 := os_5 h105 1
    have h112 := os_13 h105 1
    show am_E _ _ _ _ [some (.ref 7)] [.int r93] _ _
    refine am_e6i hi_139_54 ?_
    refine am_e35 hi_139_55 ?_
    exact ⟨rfl, ⟨h99, (((h15.trans h45).trans h74).trans h100), ⟨(by show wr S92 = wr S; omega), (h104.trans (h78.trans (h49.trans h19)))⟩, ⟨(by show iv S92 13 1 = iv S 13 1; omega), (by show iv S92 5 1 - nx S92 ≤ iv S 5 1 - nx S; omega)⟩⟩, (by show nx S + 1 ≤ nx S92; omega), (by show nx S92 ≤ wr S92; omega), (by show lv S92 = lv S + 0; omega), (by show EN S92 + -10000 * nx S92 ≤ EN S + -10000 * nx S + (-2000); omega), (by show iv S 8 1 ≤ iv S92 8 1; omega), (by show iv S 10 1 ≤ iv S92 10 1; omega)⟩
  · refine am_e13f hi_139_27 (am_cF (m := r86.toInt) (n := (69 : Int)) rfl (by decide) c90) ?_
    refine am_e2 (v := 7) hi_139_30 rfl ?_
    refine cm_20f (r := 2) h73 hi_139_31 (h73.1.s (7, 6) (by decide)) (by decide) rfl ?_
    refine am_e32t (as := [.ref 2]) (la := [some (.ref 2), none]) (rest := []) hi_139_34 (am_hd0 (M := 139) (by decide) 34) (Nat.le_of_ble_eq_true rfl) (Nat.le_of_ble_eq_true rfl) (show 1 ≤ am_P0.2.2.1 55 from by decide +kernel) rfl (cl_recv (h73.1.s (2, 2) (by decide))) rfl rfl (ck_skip (d := (d + 5)) h73   (by show 0 ≤ nx S61; omega) (by show nx S61 ≤ wr S61; omega) (by show wr S61 ≤ 600; omega) (by show 0 ≤ lv S61; omega) (by show lv S61 ≤ 48; omega) (by show kd aw S61 ≠ 0; omega)) (fun S129 h130 => (show TH aw 2000 S S129 from ⟨h130.1, ((h15.trans h45).trans h74).trans h130.2.1, ⟨(by have q := h130.2.2.1.1; omega), h130.2.2.1.2.trans (h78.trans (h49.trans h19))⟩, h130.2.2.2.1, h130.2.2.2.2.1, (by have q := h130.2.2.2.2.2; omega)⟩)) ?_
    rintro v113 S114 ⟨r115, rfl, h116, h117, h118, h119, h120⟩
    have h117_ : nx S114 = nx S61 + 1 := h117
    have h118_ : lv S114 = lv S61 + c_dl (kd aw S61) := h118
    have h119_ : lv S114 ≤ 48 := h119
    have h120_ : nx S114 ≤ wr S114 := h120
    obtain ⟨h131, h132, ⟨h135, h136⟩, ⟨h137, h138, h139⟩, h140, h141⟩ := h116
    have h142 := h140 8 (h73.1.s (8, 3) (by decide))
    have h143 := h140 10 (h73.1.s (10, 3) (by decide))
    have h144 := os_5 h137 1
    have h145 := os_13 h137 1
    have h146 : c_dl (kd aw S61) = 0 := by unfold c_dl; split <;> split <;> omega
    show am_E _ _ _ _ [some (.ref 7)] [.int r115] _ _
    refine am_e6i hi_139_37 ?_
    refine am_e2 (v := 7) hi_139_38 rfl ?_
    refine am_e32q (d1 := d + 0 + 18) (by omega) (as := [.ref 7]) (la := [some (.ref 7), none, none, none, none, none]) (rest := []) hi_139_39 (am_hd0 (M := 139) (by decide) 39) (Nat.le_of_ble_eq_true rfl) (Nat.le_of_ble_eq_true rfl) (show 1 ≤ am_P0.2.2.1 70 from by decide +kernel) rfl (cl_recv (h131.1.s (7, 6) (by decide))) rfl rfl (cr_expression (d := d + 0) h131  ihR (by show 48 - lv S114 < (NN : Int) + 1; omega) (by show (30 : Int) * (48 - lv S114) ≤ ((d + 0 : Nat) : Int); omega) (by show 0 ≤ nx S114; omega) (by show nx S114 ≤ wr S114; omega) (by show wr S114 ≤ 600; omega) (by show 0 ≤ lv S114; omega) (by show lv S114 ≤ 48; omega) (by show 1 ≤ iv S114 13 1; omega) (by show iv S114 13 1 ≤ lv S114 + 1; omega) (by show iv S114 5 1 ≤ nx S114 + 1; omega)) (fun S158 h159 => (show TH aw 2000 S S158 from ⟨h159.1, (((h15.trans h45).trans h74).trans h132).trans h159.2.1, ⟨(by have q := h159.2.2.1.1; omega), h159.2.2.1.2.trans (h136.trans (h78.trans (h49.trans h19)))⟩, h159.2.2.2.1, h159.2.2.2.2.1, (by have q := h159.2.2.2.2.2; omega)⟩)) ?_
    rintro v147 S148 ⟨rfl, h150, h151, h152, h153, h154, h155, h156⟩
    have h151_ : nx S114 + 1 ≤ nx S148 := h151
    have h152_ : nx S148 ≤ wr S148 := h152
    have h153_ : lv S148 = lv S114 + 0 := h153
    have h154_ : EN S148 + -10000 * nx S148 ≤ EN S114 + -10000 * nx S114 + (-2000) := h154
    have h155_ : iv S114 8 1 ≤ iv S148 8 1 := h155
    have h156_ : iv S114 10 1 ≤ iv S148 10 1 := h156
    obtain ⟨h160, h161, ⟨h164, h165⟩, ⟨h166, h167⟩⟩ := h150
    show am_E _ _ _ _ [some (.ref 7)] [] _ _
    refine am_e18 hi_139_42 ?_
    refine am_e35 hi_139_55 ?_
    exact ⟨rfl, ⟨h160, ((((h15.trans h45).trans h74).trans h132).trans h161), ⟨(by show wr S148 = wr S; omega), (h165.trans (h136.trans (h78.trans (h49.trans h19))))⟩, ⟨(by show iv S148 13 1 = iv S 13 1; omega), (by show iv S148 5 1 - nx S148 ≤ iv S 5 1 - nx S; omega)⟩⟩, (by show nx S + 1 ≤ nx S148; omega), (by show nx S148 ≤ wr S148; omega), (by show lv S148 = lv S + 0; omega), (by show EN S148 + -10000 * nx S148 ≤ EN S + -10000 * nx S + (-2000); omega), (by show iv S 8 1 ≤ iv S148 8 1; omega), (by show iv S 10 1 ≤ iv S148 10 1; omega)⟩
theorem cf_loopNames {sc : Nat × (Nat → Int32)} {d aw : Nat} {Sb : am_S} {w : Int32} {m : Int32} {Q : Option (Option Value) → am_S → Prop} (h : SH aw Sb) (p0 : 0 ≤ m.toInt) (hx0 : ∀ (S : am_S) (x4 : Option Value) (i : Int32), Qv aw Sb S → (EN S ≤ EN Sb + 160 * m.toInt) → (iv S 8 1 = iv Sb 8 1) → (iv S 10 1 = iv Sb 10 1) → am_E (am_PP sc) (d + 15) 142 53 [some (.ref 7), some (.int w), some (.int m), some (.int i), x4] [] S Q) : ∀ (N : Nat) (S : am_S) (x4 : Option Value) (i : Int32), Qv aw Sb S → (0 ≤ i.toInt) → (i.toInt ≤ m.toInt) → (EN S ≤ EN Sb + 160 * i.toInt) → (iv S 8 1 = iv Sb 8 1) → (iv S 10 1 = iv Sb 10 1) → 2147483647 - i.toInt < (N : Int) → am_E (am_PP sc) (d + 15) 142 9 [some (.ref 7), some (.int w), some (.int m), some (.int i), x4] [] S Q := by
  intro N
  induction N with
  | zero =>
    intro S x4 i hrel  i0 i1 i2 i3 i4 hN
    have := i32_le i
    have := i32_ge i
    exfalso
    omega
  | succ N ih =>
    intro S x4 i hrel  i0 i1 i2 i3 i4 hN
    have hl_i := i32_le i
    have hg_i := i32_ge i
    obtain ⟨h1, h2, ⟨h3, h4, h5, h6⟩, ⟨h7, h8, h9⟩⟩ := hrel
    have h12 : kd aw S = kd aw Sb := kd_eq h3 h6
    refine am_e1 (v := i) hi_142_9 rfl ?_
    refine am_e1 (v := m) hi_142_10 rfl ?_
    by_cases c13 : m.toInt ≤ i.toInt
    · refine am_e13t hi_142_11 (am_cT (m := i.toInt) (n := m.toInt) rfl rfl c13) ?_
      exact hx0 _ x4 i ⟨h1, h2, ⟨(by show nx S = nx Sb; omega), (by show lv S = lv Sb; omega), (by show wr S = wr Sb; omega), h6⟩, ⟨h7, h8, (by show fl S = fl Sb; omega)⟩⟩ (by show EN S ≤ EN Sb + 160 * m.toInt; omega) (by show iv S 8 1 = iv Sb 8 1; omega) (by show iv S 10 1 = iv Sb 10 1; omega)
    · refine am_e13f hi_142_11 (am_cF (m := i.toInt) (n := m.toInt) rfl rfl c13) ?_
      refine am_e1 (v := i) hi_142_14 rfl ?_
      refine am_e0 hi_142_15 ?_
      by_cases c14 : (16384 : Int) < i.toInt
      · refine am_e13t hi_142_18 (am_cT (m := i.toInt) (n := (16384 : Int)) rfl (by decide) c14) ?_
        exact hx0 _ x4 i ⟨h1, h2, ⟨(by show nx S = nx Sb; omega), (by show lv S = lv Sb; omega), (by show wr S = wr Sb; omega), h6⟩, ⟨h7, h8, (by show fl S = fl Sb; omega)⟩⟩ (by show EN S ≤ EN Sb + 160 * m.toInt; omega) (by show iv S 8 1 = iv Sb 8 1; omega) (by show iv S 10 1 = iv Sb 10 1; omega)
      · refine am_e13f hi_142_18 (am_cF (m := i.toInt) (n := (16384 : Int)) rfl (by decide) c14) ?_
        refine am_e1 (v := w) hi_142_21 rfl ?_
        refine am_e0 hi_142_22 ?_
        refine am_e1 (v := i) hi_142_23 rfl ?_
        obtain ⟨z15, hz15, tz15⟩ := am_mulI (x := 2) (y := i) (m := (2 : Int)) (n := i.toInt) (by decide) rfl (by omega) (by omega)
        refine am_e10 (z := z15) hi_142_24 hz15 ?_
        obtain ⟨z16, hz16⟩ : ∃ q__, am_bin 0 w z15 = q__ := ⟨_, rfl⟩
        refine am_e10 (z := z16) hi_142_25 hz16 ?_
        refine am_e3 (ls' := [some (.ref 7), some (.int w), some (.int m), some (.int i), some (.int z16)]) hi_142_26 (Nat.le_of_ble_eq_true rfl) rfl ?_
        refine am_e2 (v := 7) hi_142_28 rfl ?_
        refine cm_20f (r := 12) h1 hi_142_29 (h1.1.s (7, 6) (by decide)) (by decide) rfl ?_
        refine am_e2 (v := 7) hi_142_32 rfl ?_
        refine cm_20f (r := 2) h1 hi_142_33 (h1.1.s (7, 6) (by decide)) (by decide) rfl ?_
        refine am_e1 (v := z16) hi_142_36 rfl ?_
        refine am_e32n (as := [.ref 2, .int z16]) (la := [some (.ref 2), some (.int z16)]) (rest := [.ref 12]) hi_142_38 (am_hd0 (M := 142) (by decide) 38) (Nat.le_of_ble_eq_true rfl) (Nat.le_of_ble_eq_true rfl) (show 2 ≤ am_P0.2.2.1 104 from by decide +kernel) rfl (cl_recv (h1.1.s (2, 2) (by decide))) rfl rfl (ck_textAt (d := (d + 13)) h1   ) ?_
        rintro v17 S18 ⟨r19, rfl, rfl⟩
        show am_E _ _ _ _ [some (.ref 7), some (.int w), some (.int m), some (.int i), some (.int z16)] [.int r19, .ref 12] _ _
        refine am_e0 hi_142_41 ?_
        refine am_e1 (v := z16) hi_142_42 rfl ?_
        refine am_e32n (as := [.ref 12, .int r19, .int 1, .int z16]) (la := [some (.ref 12), some (.int r19), some (.int 1), some (.int z16)]) (rest := []) hi_142_44 (am_hd0 (M := 142) (by decide) 44) (Nat.le_of_ble_eq_true rfl) (Nat.le_of_ble_eq_true rfl) (show 4 ≤ am_P0.2.2.1 74 from by decide +kernel) rfl (cl_recv (h1.1.s (12, 7) (by decide))) rfl rfl (ck_declare (d := (d + 11)) h1   ) ?_
        rintro v22 S23 ⟨rfl, h25, h26, h27, h28, h29⟩
        have h26_ : iv S23 14 1 ≤ iv S 14 1 + 1 := h26
        have h27_ : iv S 14 1 ≤ iv S23 14 1 := h27
        have h28_ : iv S23 8 1 = iv S 8 1 := h28
        have h29_ : iv S23 10 1 = iv S 10 1 := h29
        obtain ⟨h31, h32, ⟨h33, h34, h35, h36⟩, ⟨h37, h38, h39⟩, h41⟩ := h25
        have h42 : kd aw S23 = kd aw S := kd_eq h33 h36
        show am_E _ _ _ _ [some (.ref 7), some (.int w), some (.int m), some (.int i), some (.int z16)] [] _ _
        obtain ⟨z43, hz43, tz43⟩ := am_addI (x := i) (y := 1) (m := i.toInt) (n := (1 : Int)) rfl (by decide) (by omega) (by omega)
        refine am_e5 (v := i) (z := z43) (ls' := [some (.ref 7), some (.int w), some (.int m), some (.int z43), some (.int z16)]) hi_142_47 rfl hz43 rfl ?_
        refine am_e18 hi_142_50 ?_
        exact ih _ (some (.int z16)) z43 ⟨h31, (h2.trans h32), ⟨(by show nx S23 = nx Sb; omega), (by show lv S23 = lv Sb; omega), (by show wr S23 = wr Sb; omega), (h36.trans h6)⟩, ⟨(h37.trans h7), (h38.trans h8), (by show fl S23 = fl Sb; omega)⟩⟩ (by show 0 ≤ z43.toInt; omega) (by show z43.toInt ≤ m.toInt; omega) (by show EN S23 ≤ EN Sb + 160 * z43.toInt; omega) (by show iv S23 8 1 = iv Sb 8 1; omega) (by show iv S23 10 1 = iv Sb 10 1; omega) (by show 2147483647 - z43.toInt < (N : Int); omega)
theorem cr_numLoop {sc : Nat × (Nat → Int32)} {d aw NN : Nat} {S : am_S} (h : SH aw S) (ihR : RC sc aw NN) (hN : 48 - lv S < (NN : Int) + 1) (hd : (30 : Int) * (48 - lv S) ≤ (d : Int)) (p0 : 0 ≤ nx S) (p1 : nx S ≤ wr S) (p2 : wr S ≤ 600) (p3 : 0 ≤ lv S) (p4 : lv S ≤ 48) (p5 : 1 ≤ iv S 13 1) (p6 : iv S 13 1 ≤ lv S + 1) (p7 : iv S 5 1 ≤ nx S + 1) (p8 : kd aw S = 17) : am_E (am_PP sc) (d + 20) 138 0 [some (.ref 7), none, none, none, none, none] [] S (am_T (fun v S1 => v = none ∧ Ad aw S S1 ∧ (nx S + 1 ≤ nx S1) ∧ (nx S1 ≤ wr S1) ∧ (lv S1 = lv S + 0) ∧ (EN S1 + -10000 * nx S1 ≤ EN S + -10000 * nx S + (-5000)) ∧ (iv S 8 1 ≤ iv S1 8 1) ∧ (iv S 10 1 ≤ iv S1 10 1)) (fun S1 => TH aw 2000 S S1)) := by
  refine am_e2 (v := 7) hi_138_0 rfl ?_
  refine cm_20f (r := 2) h hi_138_1 (h.1.s (7, 6) (by decide)) (by decide) rfl ?_
  refine am_e32x (as := [.ref 2]) (la := [some (.ref 2)]) (rest := []) hi_138_4 (am_hd0 (M := 138) (by decide) 4) (Nat.le_of_ble_eq_true rfl) (Nat.le_of_ble_eq_true rfl) (show 1 ≤ am_P0.2.2.1 63 from by decide +kernel) rfl (cl_recv (h.1.s (2, 2) (by decide))) rfl rfl ?_
  refine am_e2 (v := 2) hi_63_0 rfl ?_
  refine cm_20i h hi_63_1 (h.1.s (2, 2) (by decide)) (by decide) rfl fun v1 hv1 => ?_
  have hv1_ : v1.toInt = nx S := hv1
  refine am_e33 hi_63_4 ?_
  show am_E _ _ _ _ [some (.ref 7), none, none, none, none, none] [.int v1] _ _
  refine am_e3 (ls' := [some (.ref 7), some (.int v1), none, none, none, none]) hi_138_7 (Nat.le_of_ble_eq_true rfl) rfl ?_
  refine am_e2 (v := 7) hi_138_8 rfl ?_
  refine cm_20f (r := 2) h hi_138_9 (h.1.s (7, 6) (by decide)) (by decide) rfl ?_
  refine am_e32t (as := [.ref 2]) (la := [some (.ref 2), none]) (rest := []) hi_138_12 (am_hd0 (M := 138) (by decide) 12) (Nat.le_of_ble_eq_true rfl) (Nat.le_of_ble_eq_true rfl) (show 1 ≤ am_P0.2.2.1 55 from by decide +kernel) rfl (cl_recv (h.1.s (2, 2) (by decide))) rfl rfl (ck_skip (d := (d + 6)) h   (by show 0 ≤ nx S; omega) (by show nx S ≤ wr S; omega) (by show wr S ≤ 600; omega) (by show 0 ≤ lv S; omega) (by show lv S ≤ 48; omega) (by show kd aw S ≠ 0; omega)) (fun S18 h19 => (show TH aw 2000 S S18 from ⟨h19.1, (Ex.refl S).trans h19.2.1, ⟨(by have q := h19.2.2.1.1; omega), h19.2.2.1.2.trans rfl⟩, h19.2.2.2.1, h19.2.2.2.2.1, (by have q := h19.2.2.2.2.2; omega)⟩)) ?_
  rintro v2 S3 ⟨r4, rfl, h5, h6, h7, h8, h9⟩
  have h6_ : nx S3 = nx S + 1 := h6
  have h7_ : lv S3 = lv S + c_dl (kd aw S) := h7
  have h8_ : lv S3 ≤ 48 := h8
  have h9_ : nx S3 ≤ wr S3 := h9
  obtain ⟨h20, h21, ⟨h24, h25⟩, ⟨h26, h27, h28⟩, h29, h30⟩ := h5
  have h31 := h29 8 (h.1.s (8, 3) (by decide))
  have h32 := h29 10 (h.1.s (10, 3) (by decide))
  have h33 := os_5 h26 1
  have h34 := os_13 h26 1
  have h35 : c_dl (kd aw S) = 0 := by unfold c_dl; split <;> split <;> omega
  show am_E _ _ _ _ [some (.ref 7), some (.int v1), none, none, none, none] [.int r4] _ _
  refine am_e6i hi_138_15 ?_
  refine am_e2 (v := 7) hi_138_16 rfl ?_
  refine cm_20f (r := 2) h20 hi_138_17 (h20.1.s (7, 6) (by decide)) (by decide) rfl ?_
  refine am_e32x (as := [.ref 2]) (la := [some (.ref 2)]) (rest := []) hi_138_20 (am_hd0 (M := 138) (by decide) 20) (Nat.le_of_ble_eq_true rfl) (Nat.le_of_ble_eq_true rfl) (show 1 ≤ am_P0.2.2.1 63 from by decide +kernel) rfl (cl_recv (h20.1.s (2, 2) (by decide))) rfl rfl ?_
  refine am_e2 (v := 2) hi_63_0 rfl ?_
  refine cm_20i h20 hi_63_1 (h20.1.s (2, 2) (by decide)) (by decide) rfl fun v36 hv36 => ?_
  have hv36_ : v36.toInt = nx S3 := hv36
  refine am_e33 hi_63_4 ?_
  show am_E _ _ _ _ [some (.ref 7), some (.int v1), none, none, none, none] [.int v36] _ _
  refine am_e3 (ls' := [some (.ref 7), some (.int v1), some (.int v36), none, none, none]) hi_138_23 (Nat.le_of_ble_eq_true rfl) rfl ?_
  refine am_e2 (v := 7) hi_138_24 rfl ?_
  refine cm_20f (r := 2) h20 hi_138_25 (h20.1.s (7, 6) (by decide)) (by decide) rfl ?_
  refine am_e0 hi_138_28 ?_
  refine am_e32t (as := [.ref 2, .int 1]) (la := [some (.ref 2), some (.int 1)]) (rest := []) hi_138_29 (am_hd0 (M := 138) (by decide) 29) (Nat.le_of_ble_eq_true rfl) (Nat.le_of_ble_eq_true rfl) (show 2 ≤ am_P0.2.2.1 64 from by decide +kernel) rfl (cl_recv (h20.1.s (2, 2) (by decide))) rfl rfl (ck_take (d := (d + 5)) h20   (by show 0 ≤ nx S3; omega) (by show nx S3 ≤ wr S3; omega) (by show wr S3 ≤ 600; omega) (by show 0 ≤ lv S3; omega) (by show lv S3 ≤ 48; omega) (by show ¬ (1 : Int) = 0; omega)) (fun S54 h55 => (show TH aw 2000 S S54 from ⟨h55.1, h21.trans h55.2.1, ⟨(by have q := h55.2.2.1.1; omega), h55.2.2.1.2.trans h25⟩, h55.2.2.2.1, h55.2.2.2.2.1, (by have q := h55.2.2.2.2.2; omega)⟩)) ?_
  rintro v37 S38 ⟨r39, rfl, h40, h41, h42, h43, h44, h45⟩
  have h41_ : kd aw S3 = (1 : Int) := h41
  have h42_ : nx S38 = nx S3 + 1 := h42
  have h43_ : lv S38 = lv S3 + c_dl (kd aw S3) := h43
  have h44_ : lv S38 ≤ 48 := h44
  have h45_ : nx S38 ≤ wr S38 := h45
  obtain ⟨h56, h57, ⟨h60, h61⟩, ⟨h62, h63, h64⟩, h65, h66⟩ := h40
  have h67 := h65 8 (h20.1.s (8, 3) (by decide))
  have h68 := h65 10 (h20.1.s (10, 3) (by decide))
  have h69 := os_5 h62 1
  have h70 := os_13 h62 1
  have h71 : c_dl (kd aw S3) = 0 := by unfold c_dl; split <;> split <;> omega
  show am_E _ _ _ _ [some (.ref 7), some (.int v1), some (.int v36), none, none, none] [.int r39] _ _
  refine am_e6i hi_138_32 ?_
  refine am_e2 (v := 7) hi_138_33 rfl ?_
  refine cm_20f (r := 2) h56 hi_138_34 (h56.1.s (7, 6) (by decide)) (by decide) rfl ?_
  refine am_e0 hi_138_37 ?_
  refine am_e32t (as := [.ref 2, .int 59]) (la := [some (.ref 2), some (.int 59)]) (rest := []) hi_138_39 (am_hd0 (M := 138) (by decide) 39) (Nat.le_of_ble_eq_true rfl) (Nat.le_of_ble_eq_true rfl) (show 2 ≤ am_P0.2.2.1 64 from by decide +kernel) rfl (cl_recv (h56.1.s (2, 2) (by decide))) rfl rfl (ck_take (d := (d + 5)) h56   (by show 0 ≤ nx S38; omega) (by show nx S38 ≤ wr S38; omega) (by show wr S38 ≤ 600; omega) (by show 0 ≤ lv S38; omega) (by show lv S38 ≤ 48; omega) (by show ¬ (59 : Int) = 0; omega)) (fun S89 h90 => (show TH aw 2000 S S89 from ⟨h90.1, (h21.trans h57).trans h90.2.1, ⟨(by have q := h90.2.2.1.1; omega), h90.2.2.1.2.trans (h61.trans h25)⟩, h90.2.2.2.1, h90.2.2.2.2.1, (by have q := h90.2.2.2.2.2; omega)⟩)) ?_
  rintro v72 S73 ⟨r74, rfl, h75, h76, h77, h78, h79, h80⟩
  have h76_ : kd aw S38 = (59 : Int) := h76
  have h77_ : nx S73 = nx S38 + 1 := h77
  have h78_ : lv S73 = lv S38 + c_dl (kd aw S38) := h78
  have h79_ : lv S73 ≤ 48 := h79
  have h80_ : nx S73 ≤ wr S73 := h80
  obtain ⟨h91, h92, ⟨h95, h96⟩, ⟨h97, h98, h99⟩, h100, h101⟩ := h75
  have h102 := h100 8 (h56.1.s (8, 3) (by decide))
  have h103 := h100 10 (h56.1.s (10, 3) (by decide))
  have h104 := os_5 h97 1
  have h105 := os_13 h97 1
  have h106 : c_dl (kd aw S38) = 0 := by unfold c_dl; split <;> split <;> omega
  show am_E _ _ _ _ [some (.ref 7), some (.int v1), some (.int v36), none, none, none] [.int r74] _ _
  refine am_e6i hi_138_42 ?_
  refine am_e2 (v := 7) hi_138_43 rfl ?_
  refine am_e32q (d1 := d + 0 + 19) (by omega) (as := [.ref 7]) (la := [some (.ref 7)]) (rest := []) hi_138_44 (am_hd0 (M := 138) (by decide) 44) (Nat.le_of_ble_eq_true rfl) (Nat.le_of_ble_eq_true rfl) (show 1 ≤ am_P0.2.2.1 139 from by decide +kernel) rfl (cl_recv (h91.1.s (7, 6) (by decide))) rfl rfl (cr_numVals (d := d + 0) h91  ihR (by show 48 - lv S73 < (NN : Int) + 1; omega) (by show (30 : Int) * (48 - lv S73) ≤ ((d + 0 : Nat) : Int); omega) (by show 0 ≤ nx S73; omega) (by show nx S73 ≤ wr S73; omega) (by show wr S73 ≤ 600; omega) (by show 0 ≤ lv S73; omega) (by show lv S73 ≤ 48; omega) (by show 1 ≤ iv S73 13 1; omega) (by show iv S73 13 1 ≤ lv S73 + 1; omega) (by show iv S73 5 1 ≤ nx S73 + 1; omega)) (fun S118 h119 => (show TH aw 2000 S S118 from ⟨h119.1, ((h21.trans h57).trans h92).trans h119.2.1, ⟨(by have q := h119.2.2.1.1; omega), h119.2.2.1.2.trans (h96.trans (h61.trans h25))⟩, h119.2.2.2.1, h119.2.2.2.2.1, (by have q := h119.2.2.2.2.2; omega)⟩)) ?_
  rintro v107 S108 ⟨rfl, h110, h111, h112, h113, h114, h115, h116⟩
  have h111_ : nx S73 + 1 ≤ nx S108 := h111
  have h112_ : nx S108 ≤ wr S108 := h112
  have h113_ : lv S108 = lv S73 + 0 := h113
  have h114_ : EN S108 + -10000 * nx S108 ≤ EN S73 + -10000 * nx S73 + (-2000) := h114
  have h115_ : iv S73 8 1 ≤ iv S108 8 1 := h115
  have h116_ : iv S73 10 1 ≤ iv S108 10 1 := h116
  obtain ⟨h120, h121, ⟨h124, h125⟩, ⟨h126, h127⟩⟩ := h110
  show am_E _ _ _ _ [some (.ref 7), some (.int v1), some (.int v36), none, none, none] [] _ _
  refine am_e2 (v := 7) hi_138_47 rfl ?_
  refine cm_20f (r := 2) h120 hi_138_48 (h120.1.s (7, 6) (by decide)) (by decide) rfl ?_
  refine am_e0 hi_138_51 ?_
  refine am_e32t (as := [.ref 2, .int 12]) (la := [some (.ref 2), some (.int 12)]) (rest := []) hi_138_53 (am_hd0 (M := 138) (by decide) 53) (Nat.le_of_ble_eq_true rfl) (Nat.le_of_ble_eq_true rfl) (show 2 ≤ am_P0.2.2.1 64 from by decide +kernel) rfl (cl_recv (h120.1.s (2, 2) (by decide))) rfl rfl (ck_take (d := (d + 5)) h120   (by show 0 ≤ nx S108; omega) (by show nx S108 ≤ wr S108; omega) (by show wr S108 ≤ 600; omega) (by show 0 ≤ lv S108; omega) (by show lv S108 ≤ 48; omega) (by show ¬ (12 : Int) = 0; omega)) (fun S148 h149 => (show TH aw 2000 S S148 from ⟨h149.1, (((h21.trans h57).trans h92).trans h121).trans h149.2.1, ⟨(by have q := h149.2.2.1.1; omega), h149.2.2.1.2.trans (h125.trans (h96.trans (h61.trans h25)))⟩, h149.2.2.2.1, h149.2.2.2.2.1, (by have q := h149.2.2.2.2.2; omega)⟩)) ?_
  rintro v131 S132 ⟨r133, rfl, h134, h135, h136, h137, h138, h139⟩
  have h135_ : kd aw S108 = (12 : Int) := h135
  have h136_ : nx S132 = nx S108 + 1 := h136
  have h137_ : lv S132 = lv S108 + c_dl (kd aw S108) := h137
  have h138_ : lv S132 ≤ 48 := h138
  have h139_ : nx S132 ≤ wr S132 := h139
  obtain ⟨h150, h151, ⟨h154, h155⟩, ⟨h156, h157, h158⟩, h159, h160⟩ := h134
  have h161 := h159 8 (h120.1.s (8, 3) (by decide))
  have h162 := h159 10 (h120.1.s (10, 3) (by decide))
  have h163 := os_5 h156 1
  have h164 := os_13 h156 1
  have h165 : c_dl (kd aw S108) = 1 := by unfold c_dl; split <;> split <;> omega
  show am_E _ _ _ _ [some (.ref 7), some (.int v1), some (.int v36), none, none, none] [.int r133] _ _
  refine am_e6i hi_138_56 ?_
  refine am_e2 (v := 7) hi_138_57 rfl ?_
  refine am_e0 hi_138_58 ?_
  refine am_e0 hi_138_59 ?_
  refine am_e1 (v := v1) hi_138_60 rfl ?_
  refine am_e32n (as := [.ref 7, .int 3, .int 0, .int v1]) (la := [some (.ref 7), some (.int 3), some (.int 0), some (.int v1), none, none]) (rest := []) hi_138_61 (am_hd0 (M := 138) (by decide) 61) (Nat.le_of_ble_eq_true rfl) (Nat.le_of_ble_eq_true rfl) (show 4 ≤ am_P0.2.2.1 140 from by decide +kernel) rfl (cl_recv (h150.1.s (7, 6) (by decide))) rfl rfl (ck_openHidden (d := (d + 15)) h150   (by show (3 : Int) ≤ 4; omega)) ?_
  rintro v166 S167 ⟨r168, rfl, h169, h170, h171⟩
  have h170_ : iv S167 8 1 = iv S132 8 1 := h170
  have h171_ : iv S167 10 1 = iv S132 10 1 := h171
  obtain ⟨h173, h174, ⟨h175, h176, h177, h178⟩, ⟨h179, h180, h181⟩, h183⟩ := h169
  have h184 : kd aw S167 = kd aw S132 := kd_eq h175 h178
  have h185 := os_5 h179 1
  have h186 := os_13 h179 1
  show am_E _ _ _ _ [some (.ref 7), some (.int v1), some (.int v36), none, none, none] [.int r168] _ _
  refine am_e3 (ls' := [some (.ref 7), some (.int v1), some (.int v36), some (.int r168), none, none]) hi_138_64 (Nat.le_of_ble_eq_true rfl) rfl ?_
  refine am_e2 (v := 7) hi_138_65 rfl ?_
  refine am_e0 hi_138_66 ?_
  refine am_e1 (v := r168) hi_138_68 rfl ?_
  refine am_e0 hi_138_69 ?_
  refine am_e1 (v := v1) hi_138_70 rfl ?_
  refine am_e32n (as := [.ref 7, .int 38, .int r168, .int 0, .int v1]) (la := [some (.ref 7), some (.int 38), some (.int r168), some (.int 0), some (.int v1)]) (rest := []) hi_138_71 (am_hd0 (M := 138) (by decide) 71) (Nat.le_of_ble_eq_true rfl) (Nat.le_of_ble_eq_true rfl) (show 5 ≤ am_P0.2.2.1 78 from by decide +kernel) rfl (cl_recv (h173.1.s (7, 6) (by decide))) rfl rfl (ck_emit (d := (d + 16)) h173   ) ?_
  rintro v187 S188 ⟨r189, rfl, h190, h191, h192, h193⟩
  have h191_ : iv S188 8 1 = iv S167 8 1 := h191
  have h192_ : iv S188 10 1 = iv S167 10 1 := h192
  have h193_ : iv S188 14 1 = iv S167 14 1 := h193
  obtain ⟨h195, h196, ⟨h197, h198, h199, h200⟩, ⟨h201, h202, h203⟩, h205⟩ := h190
  have h206 : kd aw S188 = kd aw S167 := kd_eq h197 h200
  have h207 := os_5 h201 1
  have h208 := os_13 h201 1
  show am_E _ _ _ _ [some (.ref 7), some (.int v1), some (.int v36), some (.int r168), none, none] [.int r189] _ _
  refine am_e3 (ls' := [some (.ref 7), some (.int v1), some (.int v36), some (.int r168), some (.int r189), none]) hi_138_74 (Nat.le_of_ble_eq_true rfl) rfl ?_
  refine am_e2 (v := 7) hi_138_76 rfl ?_
  refine am_e0 hi_138_77 ?_
  refine am_e0 hi_138_79 ?_
  refine am_e0 hi_138_80 ?_
  refine am_e1 (v := v1) hi_138_81 rfl ?_
  refine am_e32n (as := [.ref 7, .int 34, .int 0, .int 0, .int v1]) (la := [some (.ref 7), some (.int 34), some (.int 0), some (.int 0), some (.int v1)]) (rest := []) hi_138_82 (am_hd0 (M := 138) (by decide) 82) (Nat.le_of_ble_eq_true rfl) (Nat.le_of_ble_eq_true rfl) (show 5 ≤ am_P0.2.2.1 78 from by decide +kernel) rfl (cl_recv (h195.1.s (7, 6) (by decide))) rfl rfl (ck_emit (d := (d + 16)) h195   ) ?_
  rintro v209 S210 ⟨r211, rfl, h212, h213, h214, h215⟩
  have h213_ : iv S210 8 1 = iv S188 8 1 := h213
  have h214_ : iv S210 10 1 = iv S188 10 1 := h214
  have h215_ : iv S210 14 1 = iv S188 14 1 := h215
  obtain ⟨h217, h218, ⟨h219, h220, h221, h222⟩, ⟨h223, h224, h225⟩, h227⟩ := h212
  have h228 : kd aw S210 = kd aw S188 := kd_eq h219 h222
  have h229 := os_5 h223 1
  have h230 := os_13 h223 1
  show am_E _ _ _ _ [some (.ref 7), some (.int v1), some (.int v36), some (.int r168), some (.int r189), none] [.int r211] _ _
  refine am_e3 (ls' := [some (.ref 7), some (.int v1), some (.int v36), some (.int r168), some (.int r189), some (.int r211)]) hi_138_85 (Nat.le_of_ble_eq_true rfl) rfl ?_
  refine am_e2 (v := 7) hi_138_87 rfl ?_
  refine am_e0 hi_138_88 ?_
  refine am_e1 (v := r168) hi_138_90 rfl ?_
  refine am_e0 hi_138_91 ?_
  refine am_e0 hi_138_92 ?_
  refine am_e32n (as := [.ref 7, .int 39, .int r168, .int 0, .int 0]) (la := [some (.ref 7), some (.int 39), some (.int r168), some (.int 0), some (.int 0)]) (rest := []) hi_138_93 (am_hd0 (M := 138) (by decide) 93) (Nat.le_of_ble_eq_true rfl) (Nat.le_of_ble_eq_true rfl) (show 5 ≤ am_P0.2.2.1 78 from by decide +kernel) rfl (cl_recv (h217.1.s (7, 6) (by decide))) rfl rfl (ck_emit (d := (d + 16)) h217   ) ?_
  rintro v231 S232 ⟨r233, rfl, h234, h235, h236, h237⟩
  have h235_ : iv S232 8 1 = iv S210 8 1 := h235
  have h236_ : iv S232 10 1 = iv S210 10 1 := h236
  have h237_ : iv S232 14 1 = iv S210 14 1 := h237
  obtain ⟨h239, h240, ⟨h241, h242, h243, h244⟩, ⟨h245, h246, h247⟩, h249⟩ := h234
  have h250 : kd aw S232 = kd aw S210 := kd_eq h241 h244
  have h251 := os_5 h245 1
  have h252 := os_13 h245 1
  show am_E _ _ _ _ [some (.ref 7), some (.int v1), some (.int v36), some (.int r168), some (.int r189), some (.int r211)] [.int r233] _ _
  refine am_e6i hi_138_96 ?_
  refine am_e2 (v := 7) hi_138_97 rfl ?_
  refine am_e1 (v := v36) hi_138_98 rfl ?_
  refine am_e0 hi_138_99 ?_
  refine am_e32x (as := [.ref 7, .int v36, .int 1]) (la := [some (.ref 7), some (.int v36), some (.int 1), none, none]) (rest := []) hi_138_100 (am_hd0 (M := 138) (by decide) 100) (Nat.le_of_ble_eq_true rfl) (Nat.le_of_ble_eq_true rfl) (show 3 ≤ am_P0.2.2.1 142 from by decide +kernel) rfl (cl_recv (h239.1.s (7, 6) (by decide))) rfl rfl ?_
  refine am_e2 (v := 7) hi_142_0 rfl ?_
  refine cm_20f (r := 12) h239 hi_142_1 (h239.1.s (7, 6) (by decide)) (by decide) rfl ?_
  refine am_e32n (as := [.ref 12]) (la := [some (.ref 12)]) (rest := []) hi_142_4 (am_hd0 (M := 142) (by decide) 4) (Nat.le_of_ble_eq_true rfl) (Nat.le_of_ble_eq_true rfl) (show 1 ≤ am_P0.2.2.1 51 from by decide +kernel) rfl (cl_recv (h239.1.s (12, 7) (by decide))) rfl rfl (ck_openBlock (d := (d + 15)) h239   ) ?_
  rintro v253 S254 ⟨rfl, h256, h257, h258, h259⟩
  have h257_ : iv S254 8 1 = iv S232 8 1 := h257
  have h258_ : iv S254 10 1 = iv S232 10 1 := h258
  have h259_ : iv S254 14 1 = iv S232 14 1 := h259
  obtain ⟨h261, h262, ⟨h263, h264, h265, h266⟩, ⟨h267, h268, h269⟩, h271⟩ := h256
  have h272 : kd aw S254 = kd aw S232 := kd_eq h263 h266
  have h273 := os_5 h267 1
  have h274 := os_13 h267 1
  show am_E _ _ _ _ [some (.ref 7), some (.int v36), some (.int 1), none, none] [] _ _
  refine am_e0 hi_142_7 ?_
  refine am_e3 (ls' := [some (.ref 7), some (.int v36), some (.int 1), some (.int 0), none]) hi_142_8 (Nat.le_of_ble_eq_true rfl) rfl ?_
  refine cf_loopNames (d := (d + 4)) (Sb := S254) (w := v36) (m := 1) h261   (by show 0 ≤ (1 : Int); omega) ?_ ((2147483647 - (0 : Int)).toNat + 1) S254 none 0 ⟨h261, Ex.refl _, ⟨rfl, rfl, rfl, rfl⟩, ⟨rfl, rfl, rfl⟩⟩ (by show 0 ≤ (0 : Int); omega) (by show (0 : Int) ≤ (1 : Int); omega) (by show EN S254 ≤ EN S254 + 160 * (0 : Int); omega) (by show iv S254 8 1 = iv S254 8 1; omega) (by show iv S254 10 1 = iv S254 10 1; omega) (by show 2147483647 - (0 : Int) < _; omega)
  · intro S276 x4281 i275 h277 h278 h279 h280
    have h278_ : EN S276 ≤ EN S254 + 160 * (1 : Int) := h278
    have h279_ : iv S276 8 1 = iv S254 8 1 := h279
    have h280_ : iv S276 10 1 = iv S254 10 1 := h280
    obtain ⟨h282, h283, ⟨h284, h285, h286, h287⟩, ⟨h288, h289, h290⟩⟩ := h277
    have h293 : kd aw S276 = kd aw S254 := kd_eq h284 h287
    have h294 := os_5 h288 1
    have h295 := os_13 h288 1
    show am_E _ _ _ _ [some (.ref 7), some (.int v36), some (.int 1), some (.int i275), x4281] [] _ _
    refine am_e2 (v := 7) hi_142_53 rfl ?_
    refine am_e32q (d1 := d - 30 + 27 + 21) (by omega) (as := [.ref 7]) (la := [some (.ref 7), none]) (rest := []) hi_142_54 (am_hd0 (M := 142) (by decide) 54) (Nat.le_of_ble_eq_true rfl) (Nat.le_of_ble_eq_true rfl) (show 1 ≤ am_P0.2.2.1 52 from by decide +kernel) rfl (cl_recv (h282.1.s (7, 6) (by decide))) rfl rfl (rc_52 ihR (d - 30 + 27) _  h282  (by show 48 - lv S276 < (NN : Int); omega) (by show (30 : Int) * (48 - lv S276) ≤ ((d - 30 + 27 : Nat) : Int); omega) (by show 0 ≤ nx S276; omega) (by show nx S276 ≤ wr S276; omega) (by show wr S276 ≤ 600; omega) (by show 0 ≤ lv S276; omega) (by show lv S276 ≤ 48; omega) (by show 1 ≤ iv S276 13 1; omega) (by show iv S276 13 1 ≤ lv S276 + 1; omega) (by show iv S276 5 1 ≤ nx S276 + 1; omega)) (fun S307 h308 => (show TH aw 2000 S S307 from ⟨h308.1, ((((((((((h21.trans h57).trans h92).trans h121).trans h151).trans h174).trans h196).trans h218).trans h240).trans h262).trans h283).trans h308.2.1, ⟨(by have q := h308.2.2.1.1; omega), h308.2.2.1.2.trans (h287.trans (h266.trans (h244.trans (h222.trans (h200.trans (h178.trans (h155.trans (h125.trans (h96.trans (h61.trans h25))))))))))⟩, h308.2.2.2.1, h308.2.2.2.2.1, (by have q := h308.2.2.2.2.2; omega)⟩)) ?_
    rintro v296 S297 ⟨rfl, h299, h300, h301, h302, h303, h304, h305⟩
    have h300_ : nx S276 + 0 ≤ nx S297 := h300
    have h301_ : nx S297 ≤ wr S297 := h301
    have h302_ : lv S297 = lv S276 + 0 := h302
    have h303_ : EN S297 + -10000 * nx S297 ≤ EN S276 + -10000 * nx S276 + 0 := h303
    have h304_ : iv S276 8 1 ≤ iv S297 8 1 := h304
    have h305_ : iv S276 10 1 ≤ iv S297 10 1 := h305
    obtain ⟨h309, h310, ⟨h313, h314⟩, ⟨h315, h316⟩⟩ := h299
    show am_E _ _ _ _ [some (.ref 7), some (.int v36), some (.int 1), some (.int i275), x4281] [] _ _
    refine am_e2 (v := 7) hi_142_57 rfl ?_
    refine cm_20f (r := 2) h309 hi_142_58 (h309.1.s (7, 6) (by decide)) (by decide) rfl ?_
    refine am_e0 hi_142_61 ?_
    refine am_e32t (as := [.ref 2, .int 15]) (la := [some (.ref 2), some (.int 15)]) (rest := []) hi_142_63 (am_hd0 (M := 142) (by decide) 63) (Nat.le_of_ble_eq_true rfl) (Nat.le_of_ble_eq_true rfl) (show 2 ≤ am_P0.2.2.1 64 from by decide +kernel) rfl (cl_recv (h309.1.s (2, 2) (by decide))) rfl rfl (ck_take (d := (d + 4)) h309   (by show 0 ≤ nx S297; omega) (by show nx S297 ≤ wr S297; omega) (by show wr S297 ≤ 600; omega) (by show 0 ≤ lv S297; omega) (by show lv S297 ≤ 48; omega) (by show ¬ (15 : Int) = 0; omega)) (fun S337 h338 => (show TH aw 2000 S S337 from ⟨h338.1, (((((((((((h21.trans h57).trans h92).trans h121).trans h151).trans h174).trans h196).trans h218).trans h240).trans h262).trans h283).trans h310).trans h338.2.1, ⟨(by have q := h338.2.2.1.1; omega), h338.2.2.1.2.trans (h314.trans (h287.trans (h266.trans (h244.trans (h222.trans (h200.trans (h178.trans (h155.trans (h125.trans (h96.trans (h61.trans h25)))))))))))⟩, h338.2.2.2.1, h338.2.2.2.2.1, (by have q := h338.2.2.2.2.2; omega)⟩)) ?_
    rintro v320 S321 ⟨r322, rfl, h323, h324, h325, h326, h327, h328⟩
    have h324_ : kd aw S297 = (15 : Int) := h324
    have h325_ : nx S321 = nx S297 + 1 := h325
    have h326_ : lv S321 = lv S297 + c_dl (kd aw S297) := h326
    have h327_ : lv S321 ≤ 48 := h327
    have h328_ : nx S321 ≤ wr S321 := h328
    obtain ⟨h339, h340, ⟨h343, h344⟩, ⟨h345, h346, h347⟩, h348, h349⟩ := h323
    have h350 := h348 8 (h309.1.s (8, 3) (by decide))
    have h351 := h348 10 (h309.1.s (10, 3) (by decide))
    have h352 := os_5 h345 1
    have h353 := os_13 h345 1
    have h354 : c_dl (kd aw S297) = -1 := by unfold c_dl; split <;> split <;> omega
    show am_E _ _ _ _ [some (.ref 7), some (.int v36), some (.int 1), some (.int i275), x4281] [.int r322] _ _
    refine am_e6i hi_142_66 ?_
    refine am_e2 (v := 7) hi_142_67 rfl ?_
    refine am_e0 hi_142_68 ?_
    refine am_e2 (v := 7) hi_142_70 rfl ?_
    refine cm_20f (r := 12) h339 hi_142_71 (h339.1.s (7, 6) (by decide)) (by decide) rfl ?_
    refine am_e32n (as := [.ref 12]) (la := [some (.ref 12)]) (rest := [.int 33, .ref 7]) hi_142_74 (am_hd0 (M := 142) (by decide) 74) (Nat.le_of_ble_eq_true rfl) (Nat.le_of_ble_eq_true rfl) (show 1 ≤ am_P0.2.2.1 82 from by decide +kernel) rfl (cl_recv (h339.1.s (12, 7) (by decide))) rfl rfl (ck_before (d := (d + 17)) h339   ) ?_
    rintro v355 S356 ⟨r357, rfl, rfl⟩
    show am_E _ _ _ _ [some (.ref 7), some (.int v36), some (.int 1), some (.int i275), x4281] [.int r357, .int 33, .ref 7] _ _
    refine am_e0 hi_142_77 ?_
    refine am_e0 hi_142_78 ?_
    refine am_e32n (as := [.ref 7, .int 33, .int r357, .int 0, .int 0]) (la := [some (.ref 7), some (.int 33), some (.int r357), some (.int 0), some (.int 0)]) (rest := []) hi_142_79 (am_hd0 (M := 142) (by decide) 79) (Nat.le_of_ble_eq_true rfl) (Nat.le_of_ble_eq_true rfl) (show 5 ≤ am_P0.2.2.1 78 from by decide +kernel) rfl (cl_recv (h339.1.s (7, 6) (by decide))) rfl rfl (ck_emit (d := (d + 15)) h339   ) ?_
    rintro v360 S361 ⟨r362, rfl, h363, h364, h365, h366⟩
    have h364_ : iv S361 8 1 = iv S321 8 1 := h364
    have h365_ : iv S361 10 1 = iv S321 10 1 := h365
    have h366_ : iv S361 14 1 = iv S321 14 1 := h366
    obtain ⟨h368, h369, ⟨h370, h371, h372, h373⟩, ⟨h374, h375, h376⟩, h378⟩ := h363
    have h379 : kd aw S361 = kd aw S321 := kd_eq h370 h373
    have h380 := os_5 h374 1
    have h381 := os_13 h374 1
    show am_E _ _ _ _ [some (.ref 7), some (.int v36), some (.int 1), some (.int i275), x4281] [.int r362] _ _
    refine am_e6i hi_142_82 ?_
    refine am_e2 (v := 7) hi_142_83 rfl ?_
    refine cm_20f (r := 12) h368 hi_142_84 (h368.1.s (7, 6) (by decide)) (by decide) rfl ?_
    refine am_e32n (as := [.ref 12]) (la := [some (.ref 12), none]) (rest := []) hi_142_87 (am_hd0 (M := 142) (by decide) 87) (Nat.le_of_ble_eq_true rfl) (Nat.le_of_ble_eq_true rfl) (show 1 ≤ am_P0.2.2.1 81 from by decide +kernel) rfl (cl_recv (h368.1.s (12, 7) (by decide))) rfl rfl (ck_closeBlock (d := (d + 15)) h368   ) ?_
    rintro v382 S383 ⟨rfl, h385, h386, h387⟩
    have h386_ : iv S383 8 1 = iv S361 8 1 := h386
    have h387_ : iv S383 10 1 = iv S361 10 1 := h387
    obtain ⟨h389, h390, ⟨h391, h392, h393, h394⟩, ⟨h395, h396, h397⟩, h399⟩ := h385
    have h400 : kd aw S383 = kd aw S361 := kd_eq h391 h394
    have h401 := os_5 h395 1
    have h402 := os_13 h395 1
    show am_E _ _ _ _ [some (.ref 7), some (.int v36), some (.int 1), some (.int i275), x4281] [] _ _
    refine am_e35 hi_142_90 ?_
    show am_E _ _ _ _ [some (.ref 7), some (.int v1), some (.int v36), some (.int r168), some (.int r189), some (.int r211)] [] _ _
    refine am_e2 (v := 7) hi_138_103 rfl ?_
    refine am_e0 hi_138_104 ?_
    refine am_e1 (v := r168) hi_138_106 rfl ?_
    refine am_e1 (v := r211) hi_138_107 rfl ?_
    refine am_e0 hi_138_109 ?_
    refine am_e32n (as := [.ref 7, .int 40, .int r168, .int r211, .int 0]) (la := [some (.ref 7), some (.int 40), some (.int r168), some (.int r211), some (.int 0)]) (rest := []) hi_138_110 (am_hd0 (M := 138) (by decide) 110) (Nat.le_of_ble_eq_true rfl) (Nat.le_of_ble_eq_true rfl) (show 5 ≤ am_P0.2.2.1 78 from by decide +kernel) rfl (cl_recv (h389.1.s (7, 6) (by decide))) rfl rfl (ck_emit (d := (d + 16)) h389   ) ?_
    rintro v403 S404 ⟨r405, rfl, h406, h407, h408, h409⟩
    have h407_ : iv S404 8 1 = iv S383 8 1 := h407
    have h408_ : iv S404 10 1 = iv S383 10 1 := h408
    have h409_ : iv S404 14 1 = iv S383 14 1 := h409
    obtain ⟨h411, h412, ⟨h413, h414, h415, h416⟩, ⟨h417, h418, h419⟩, h421⟩ := h406
    have h422 : kd aw S404 = kd aw S383 := kd_eq h413 h416
    have h423 := os_5 h417 1
    have h424 := os_13 h417 1
    show am_E _ _ _ _ [some (.ref 7), some (.int v1), some (.int v36), some (.int r168), some (.int r189), some (.int r211)] [.int r405] _ _
    refine am_e6i hi_138_113 ?_
    refine am_e2 (v := 7) hi_138_114 rfl ?_
    refine cm_20f (r := 12) h411 hi_138_115 (h411.1.s (7, 6) (by decide)) (by decide) rfl ?_
    refine am_e32x (as := [.ref 12]) (la := [some (.ref 12)]) (rest := []) hi_138_118 (am_hd0 (M := 138) (by decide) 118) (Nat.le_of_ble_eq_true rfl) (Nat.le_of_ble_eq_true rfl) (show 1 ≤ am_P0.2.2.1 79 from by decide +kernel) rfl (cl_recv (h411.1.s (12, 7) (by decide))) rfl rfl ?_
    refine am_e2 (v := 12) hi_79_0 rfl ?_
    refine cm_20n h411 hi_79_1 fun hb425 => ?_
    refine am_e34 hi_79_4 ?_
    show am_E _ _ _ _ [some (.ref 7), some (.int v1), some (.int v36), some (.int r168), some (.int r189), some (.int r211)] [.ref (nw S404)] _ _
    refine am_e1 (v := r189) hi_138_121 rfl ?_
    refine am_e0 hi_138_123 ?_
    refine am_e32n (as := [.ref (nw S404), .int r189, .int 2]) (la := [some (.ref (nw S404)), some (.int r189), some (.int 2)]) (rest := []) hi_138_124 (am_hd0 (M := 138) (by decide) 124) (Nat.le_of_ble_eq_true rfl) (Nat.le_of_ble_eq_true rfl) (show 3 ≤ am_P0.2.2.1 109 from by decide +kernel) rfl (cl_recv hb425) rfl rfl (ck_leadHere (d := (d + 18)) h411 hb425  ) ?_
    rintro v426 S427 ⟨rfl, h429⟩
    obtain ⟨h431, h432, ⟨h433, h434, h435, h436⟩, ⟨h437, h438, h439⟩, h440, h441⟩ := h429
    have h442 : kd aw S427 = kd aw S404 := kd_eq h433 h436
    have h443 := h440 8 (h411.1.s (8, 3) (by decide))
    have h444 := h440 10 (h411.1.s (10, 3) (by decide))
    have h445 := os_5 h437 1
    have h446 := os_13 h437 1
    show am_E _ _ _ _ [some (.ref 7), some (.int v1), some (.int v36), some (.int r168), some (.int r189), some (.int r211)] [] _ _
    refine am_e2 (v := 7) hi_138_127 rfl ?_
    refine am_e32n (as := [.ref 7]) (la := [some (.ref 7)]) (rest := []) hi_138_128 (am_hd0 (M := 138) (by decide) 128) (Nat.le_of_ble_eq_true rfl) (Nat.le_of_ble_eq_true rfl) (show 1 ≤ am_P0.2.2.1 143 from by decide +kernel) rfl (cl_recv (h431.1.s (7, 6) (by decide))) rfl rfl (ck_closeHidden (d := (d + 15)) h431   ) ?_
    rintro v447 S448 ⟨rfl, h450, h451, h452⟩
    have h451_ : iv S448 8 1 = iv S427 8 1 := h451
    have h452_ : iv S448 10 1 = iv S427 10 1 := h452
    obtain ⟨h454, h455, ⟨h456, h457, h458, h459⟩, ⟨h460, h461, h462⟩, h464⟩ := h450
    have h465 : kd aw S448 = kd aw S427 := kd_eq h456 h459
    have h466 := os_5 h460 1
    have h467 := os_13 h460 1
    show am_E _ _ _ _ [some (.ref 7), some (.int v1), some (.int v36), some (.int r168), some (.int r189), some (.int r211)] [] _ _
    refine am_e2 (v := 7) hi_138_131 rfl ?_
    refine am_e0 hi_138_132 ?_
    refine am_e1 (v := r168) hi_138_134 rfl ?_
    refine am_e0 hi_138_135 ?_
    refine am_e0 hi_138_136 ?_
    refine am_e32n (as := [.ref 7, .int 41, .int r168, .int 0, .int 0]) (la := [some (.ref 7), some (.int 41), some (.int r168), some (.int 0), some (.int 0)]) (rest := []) hi_138_137 (am_hd0 (M := 138) (by decide) 137) (Nat.le_of_ble_eq_true rfl) (Nat.le_of_ble_eq_true rfl) (show 5 ≤ am_P0.2.2.1 78 from by decide +kernel) rfl (cl_recv (h454.1.s (7, 6) (by decide))) rfl rfl (ck_emit (d := (d + 16)) h454   ) ?_
    rintro v468 S469 ⟨r470, rfl, h471, h472, h473, h474⟩
    have h472_ : iv S469 8 1 = iv S448 8 1 := h472
    have h473_ : iv S469 10 1 = iv S448 10 1 := h473
    have h474_ : iv S469 14 1 = iv S448 14 1 := h474
    obtain ⟨h476, h477, ⟨h478, h479, h480, h481⟩, ⟨h482, h483, h484⟩, h486⟩ := h471
    have h487 : kd aw S469 = kd aw S448 := kd_eq h478 h481
    have h488 := os_5 h482 1
    have h489 := os_13 h482 1
    show am_E _ _ _ _ [some (.ref 7), some (.int v1), some (.int v36), some (.int r168), some (.int r189), some (.int r211)] [.int r470] _ _
    refine am_e6i hi_138_140 ?_
    refine am_e35 hi_138_141 ?_
    exact ⟨rfl, ⟨h476, ((((((((((((((((((h21.trans h57).trans h92).trans h121).trans h151).trans h174).trans h196).trans h218).trans h240).trans h262).trans h283).trans h310).trans h340).trans h369).trans h390).trans h412).trans h432).trans h455).trans h477), ⟨(by show wr S469 = wr S; omega), (h481.trans (h459.trans (h436.trans (h416.trans (h394.trans (h373.trans (h344.trans (h314.trans (h287.trans (h266.trans (h244.trans (h222.trans (h200.trans (h178.trans (h155.trans (h125.trans (h96.trans (h61.trans h25))))))))))))))))))⟩, ⟨(by show iv S469 13 1 = iv S 13 1; omega), (by show iv S469 5 1 - nx S469 ≤ iv S 5 1 - nx S; omega)⟩⟩, (by show nx S + 1 ≤ nx S469; omega), (by show nx S469 ≤ wr S469; omega), (by show lv S469 = lv S + 0; omega), (by show EN S469 + -10000 * nx S469 ≤ EN S + -10000 * nx S + (-5000); omega), (by show iv S 8 1 ≤ iv S469 8 1; omega), (by show iv S 10 1 ≤ iv S469 10 1; omega)⟩
theorem cf_listNames {sc : Nat × (Nat → Int32)} {d aw : Nat} {Sb : am_S} {fw : Int32} {wd : Int32} {Q : Option (Option Value) → am_S → Prop} (h : SH aw Sb) (p0 : 0 ≤ nx Sb) (p1 : nx Sb ≤ wr Sb) (p2 : wr Sb ≤ 600) (p3 : 0 ≤ lv Sb) (p4 : lv Sb ≤ 48) (hq : ∀ S1, TH aw 134 Sb S1 → Q none S1) (hx0 : ∀ (S : am_S) (m n : Int32), Wv aw Sb S → (nx Sb + 0 ≤ nx S) → (nx S ≤ wr S) → (lv S = lv Sb + 0) → (EN S ≤ EN Sb) → (nx Sb + 2 * m.toInt ≤ nx S + 2) → (1 ≤ m.toInt) → (m.toInt ≤ 20000) → (iv S 8 1 = iv Sb 8 1) → (iv S 10 1 = iv Sb 10 1) → am_E (am_PP sc) (d + 20) 144 84 [some (.ref 7), some (.int fw), some (.int wd), some (.int m), some (.int n), none, none, none] [] S Q) : ∀ (N : Nat) (S : am_S) (m n : Int32), Wv aw Sb S → (nx Sb + 0 ≤ nx S) → (nx S ≤ wr S) → (lv S = lv Sb + 0) → (EN S ≤ EN Sb) → (nx Sb + 2 * m.toInt ≤ nx S + 2) → (1 ≤ m.toInt) → (m.toInt ≤ 20000) → (iv S 8 1 = iv Sb 8 1) → (iv S 10 1 = iv Sb 10 1) → (m.toInt = n.toInt + 1) → 2147483647 - n.toInt < (N : Int) → am_E (am_PP sc) (d + 20) 144 38 [some (.ref 7), some (.int fw), some (.int wd), some (.int m), some (.int n), none, none, none] [] S Q := by
  intro N
  induction N with
  | zero =>
    intro S  m n hrel  i0 i1 i2 i3 i4 i5 i6 i7 i8 i9 hN
    have := i32_le m
    have := i32_le n
    have := i32_ge m
    have := i32_ge n
    exfalso
    omega
  | succ N ih =>
    intro S  m n hrel  i0 i1 i2 i3 i4 i5 i6 i7 i8 i9 hN
    have hl_m := i32_le m
    have hg_m := i32_ge m
    have hl_n := i32_le n
    have hg_n := i32_ge n
    obtain ⟨h1, h2, ⟨h3, h4⟩, ⟨h5, h6, h7⟩⟩ := hrel
    refine am_e2 (v := 7) hi_144_38 rfl ?_
    refine cm_20f (r := 2) h1 hi_144_39 (h1.1.s (7, 6) (by decide)) (by decide) rfl ?_
    refine am_e32n (as := [.ref 2]) (la := [some (.ref 2)]) (rest := []) hi_144_42 (am_hd0 (M := 144) (by decide) 42) (Nat.le_of_ble_eq_true rfl) (Nat.le_of_ble_eq_true rfl) (show 1 ≤ am_P0.2.2.1 53 from by decide +kernel) rfl (cl_recv (h1.1.s (2, 2) (by decide))) rfl rfl (ck_kind (d := (d + 18)) h1   ) ?_
    rintro v8 S9 ⟨r10, rfl, rfl, h12⟩
    have h12_ : r10.toInt = kd aw S := h12
    show am_E _ _ _ _ [some (.ref 7), some (.int fw), some (.int wd), some (.int m), some (.int n), none, none, none] [.int r10] _ _
    refine am_e0 hi_144_45 ?_
    by_cases c14 : ¬ r10.toInt = (69 : Int)
    · refine am_e13t hi_144_47 (am_cT (m := r10.toInt) (n := (69 : Int)) rfl (by decide) c14) ?_
      exact hx0 _ m n ⟨h1, h2, ⟨(by show wr S = wr Sb; omega), h4⟩, ⟨h5, h6, (by show fl S = fl Sb; omega)⟩⟩ (by show nx Sb + 0 ≤ nx S; omega) (by show nx S ≤ wr S; omega) (by show lv S = lv Sb + 0; omega) (by show EN S ≤ EN Sb; omega) (by show nx Sb + 2 * m.toInt ≤ nx S + 2; omega) (by show 1 ≤ m.toInt; omega) (by show m.toInt ≤ 20000; omega) (by show iv S 8 1 = iv Sb 8 1; omega) (by show iv S 10 1 = iv Sb 10 1; omega)
    · refine am_e13f hi_144_47 (am_cF (m := r10.toInt) (n := (69 : Int)) rfl (by decide) c14) ?_
      refine am_e1 (v := n) hi_144_50 rfl ?_
      refine am_e0 hi_144_52 ?_
      refine am_e13f hi_144_55 (am_cF (m := n.toInt) (n := (16384 : Int)) rfl (by decide) (by simp only [am_cI]; omega)) ?_
      refine am_e2 (v := 7) hi_144_58 rfl ?_
      refine cm_20f (r := 2) h1 hi_144_59 (h1.1.s (7, 6) (by decide)) (by decide) rfl ?_
      refine am_e32t (as := [.ref 2]) (la := [some (.ref 2), none]) (rest := []) hi_144_62 (am_hd0 (M := 144) (by decide) 62) (Nat.le_of_ble_eq_true rfl) (Nat.le_of_ble_eq_true rfl) (show 1 ≤ am_P0.2.2.1 55 from by decide +kernel) rfl (cl_recv (h1.1.s (2, 2) (by decide))) rfl rfl (ck_skip (d := (d + 6)) h1   (by show 0 ≤ nx S; omega) (by show nx S ≤ wr S; omega) (by show wr S ≤ 600; omega) (by show 0 ≤ lv S; omega) (by show lv S ≤ 48; omega) (by show kd aw S ≠ 0; omega)) (fun S31 h32 => hq S31 (show TH aw 134 Sb S31 from ⟨h32.1, h2.trans h32.2.1, ⟨(by have q := h32.2.2.1.1; omega), h32.2.2.1.2.trans h4⟩, h32.2.2.2.1, h32.2.2.2.2.1, (by have q := h32.2.2.2.2.2; omega)⟩)) ?_
      rintro v15 S16 ⟨r17, rfl, h18, h19, h20, h21, h22⟩
      have h19_ : nx S16 = nx S + 1 := h19
      have h20_ : lv S16 = lv S + c_dl (kd aw S) := h20
      have h21_ : lv S16 ≤ 48 := h21
      have h22_ : nx S16 ≤ wr S16 := h22
      obtain ⟨h33, h34, ⟨h37, h38⟩, ⟨h39, h40, h41⟩, h42, h43⟩ := h18
      have h44 := h42 8 (h1.1.s (8, 3) (by decide))
      have h45 := h42 10 (h1.1.s (10, 3) (by decide))
      have h46 : c_dl (kd aw S) = 0 := by unfold c_dl; split <;> split <;> omega
      show am_E _ _ _ _ [some (.ref 7), some (.int fw), some (.int wd), some (.int m), some (.int n), none, none, none] [.int r17] _ _
      refine am_e6i hi_144_65 ?_
      refine am_e2 (v := 7) hi_144_66 rfl ?_
      refine cm_20f (r := 2) h33 hi_144_67 (h33.1.s (7, 6) (by decide)) (by decide) rfl ?_
      refine am_e0 hi_144_70 ?_
      refine am_e32t (as := [.ref 2, .int 1]) (la := [some (.ref 2), some (.int 1)]) (rest := []) hi_144_71 (am_hd0 (M := 144) (by decide) 71) (Nat.le_of_ble_eq_true rfl) (Nat.le_of_ble_eq_true rfl) (show 2 ≤ am_P0.2.2.1 64 from by decide +kernel) rfl (cl_recv (h33.1.s (2, 2) (by decide))) rfl rfl (ck_take (d := (d + 5)) h33   (by show 0 ≤ nx S16; omega) (by show nx S16 ≤ wr S16; omega) (by show wr S16 ≤ 600; omega) (by show 0 ≤ lv S16; omega) (by show lv S16 ≤ 48; omega) (by show ¬ (1 : Int) = 0; omega)) (fun S64 h65 => hq S64 (show TH aw 134 Sb S64 from ⟨h65.1, (h2.trans h34).trans h65.2.1, ⟨(by have q := h65.2.2.1.1; omega), h65.2.2.1.2.trans (h38.trans h4)⟩, h65.2.2.2.1, h65.2.2.2.2.1, (by have q := h65.2.2.2.2.2; omega)⟩)) ?_
      rintro v47 S48 ⟨r49, rfl, h50, h51, h52, h53, h54, h55⟩
      have h51_ : kd aw S16 = (1 : Int) := h51
      have h52_ : nx S48 = nx S16 + 1 := h52
      have h53_ : lv S48 = lv S16 + c_dl (kd aw S16) := h53
      have h54_ : lv S48 ≤ 48 := h54
      have h55_ : nx S48 ≤ wr S48 := h55
      obtain ⟨h66, h67, ⟨h70, h71⟩, ⟨h72, h73, h74⟩, h75, h76⟩ := h50
      have h77 := h75 8 (h33.1.s (8, 3) (by decide))
      have h78 := h75 10 (h33.1.s (10, 3) (by decide))
      have h79 : c_dl (kd aw S16) = 0 := by unfold c_dl; split <;> split <;> omega
      show am_E _ _ _ _ [some (.ref 7), some (.int fw), some (.int wd), some (.int m), some (.int n), none, none, none] [.int r49] _ _
      refine am_e6i hi_144_74 ?_
      obtain ⟨z80, hz80, tz80⟩ := am_addI (x := m) (y := 1) (m := m.toInt) (n := (1 : Int)) rfl (by decide) (by omega) (by omega)
      refine am_e5 (v := m) (z := z80) (ls' := [some (.ref 7), some (.int fw), some (.int wd), some (.int z80), some (.int n), none, none, none]) hi_144_75 rfl hz80 rfl ?_
      obtain ⟨z81, hz81, tz81⟩ := am_addI (x := n) (y := 1) (m := n.toInt) (n := (1 : Int)) rfl (by decide) (by omega) (by omega)
      refine am_e5 (v := n) (z := z81) (ls' := [some (.ref 7), some (.int fw), some (.int wd), some (.int z80), some (.int z81), none, none, none]) hi_144_78 rfl hz81 rfl ?_
      refine am_e18 hi_144_81 ?_
      exact ih _ z80 z81 ⟨h66, ((h2.trans h34).trans h67), ⟨(by show wr S48 = wr Sb; omega), (h71.trans (h38.trans h4))⟩, ⟨(h72.trans (h39.trans h5)), (h73.trans (h40.trans h6)), (by show fl S48 = fl Sb; omega)⟩⟩ (by show nx Sb + 0 ≤ nx S48; omega) (by show nx S48 ≤ wr S48; omega) (by show lv S48 = lv Sb + 0; omega) (by show EN S48 ≤ EN Sb; omega) (by show nx Sb + 2 * z80.toInt ≤ nx S48 + 2; omega) (by show 1 ≤ z80.toInt; omega) (by show z80.toInt ≤ 20000; omega) (by show iv S48 8 1 = iv Sb 8 1; omega) (by show iv S48 10 1 = iv Sb 10 1; omega) (by show z80.toInt = z81.toInt + 1; omega) (by show 2147483647 - z81.toInt < (N : Int); omega)
theorem cr_listLoop {sc : Nat × (Nat → Int32)} {d aw NN : Nat} {S : am_S} (h : SH aw S) (ihR : RC sc aw NN) (hN : 48 - lv S < (NN : Int) + 1) (hd : (30 : Int) * (48 - lv S) ≤ (d : Int)) (p0 : 0 ≤ nx S) (p1 : nx S ≤ wr S) (p2 : wr S ≤ 600) (p3 : 0 ≤ lv S) (p4 : lv S ≤ 48) (p5 : 1 ≤ iv S 13 1) (p6 : iv S 13 1 ≤ lv S + 1) (p7 : iv S 5 1 ≤ nx S + 1) (p8 : kd aw S = 17) : am_E (am_PP sc) (d + 20) 144 0 [some (.ref 7), none, none, none, none, none, none, none] [] S (am_T (fun v S1 => v = none ∧ Ad aw S S1 ∧ (nx S + 1 ≤ nx S1) ∧ (nx S1 ≤ wr S1) ∧ (lv S1 = lv S + 0) ∧ (EN S1 + -10000 * nx S1 ≤ EN S + -10000 * nx S + (-5000)) ∧ (iv S 8 1 ≤ iv S1 8 1) ∧ (iv S 10 1 ≤ iv S1 10 1)) (fun S1 => TH aw 2000 S S1)) := by
  refine am_e2 (v := 7) hi_144_0 rfl ?_
  refine cm_20f (r := 2) h hi_144_1 (h.1.s (7, 6) (by decide)) (by decide) rfl ?_
  refine am_e32x (as := [.ref 2]) (la := [some (.ref 2)]) (rest := []) hi_144_4 (am_hd0 (M := 144) (by decide) 4) (Nat.le_of_ble_eq_true rfl) (Nat.le_of_ble_eq_true rfl) (show 1 ≤ am_P0.2.2.1 63 from by decide +kernel) rfl (cl_recv (h.1.s (2, 2) (by decide))) rfl rfl ?_
  refine am_e2 (v := 2) hi_63_0 rfl ?_
  refine cm_20i h hi_63_1 (h.1.s (2, 2) (by decide)) (by decide) rfl fun v1 hv1 => ?_
  have hv1_ : v1.toInt = nx S := hv1
  refine am_e33 hi_63_4 ?_
  show am_E _ _ _ _ [some (.ref 7), none, none, none, none, none, none, none] [.int v1] _ _
  refine am_e3 (ls' := [some (.ref 7), some (.int v1), none, none, none, none, none, none]) hi_144_7 (Nat.le_of_ble_eq_true rfl) rfl ?_
  refine am_e2 (v := 7) hi_144_8 rfl ?_
  refine cm_20f (r := 2) h hi_144_9 (h.1.s (7, 6) (by decide)) (by decide) rfl ?_
  refine am_e32t (as := [.ref 2]) (la := [some (.ref 2), none]) (rest := []) hi_144_12 (am_hd0 (M := 144) (by decide) 12) (Nat.le_of_ble_eq_true rfl) (Nat.le_of_ble_eq_true rfl) (show 1 ≤ am_P0.2.2.1 55 from by decide +kernel) rfl (cl_recv (h.1.s (2, 2) (by decide))) rfl rfl (ck_skip (d := (d + 6)) h   (by show 0 ≤ nx S; omega) (by show nx S ≤ wr S; omega) (by show wr S ≤ 600; omega) (by show 0 ≤ lv S; omega) (by show lv S ≤ 48; omega) (by show kd aw S ≠ 0; omega)) (fun S18 h19 => (show TH aw 2000 S S18 from ⟨h19.1, (Ex.refl S).trans h19.2.1, ⟨(by have q := h19.2.2.1.1; omega), h19.2.2.1.2.trans rfl⟩, h19.2.2.2.1, h19.2.2.2.2.1, (by have q := h19.2.2.2.2.2; omega)⟩)) ?_
  rintro v2 S3 ⟨r4, rfl, h5, h6, h7, h8, h9⟩
  have h6_ : nx S3 = nx S + 1 := h6
  have h7_ : lv S3 = lv S + c_dl (kd aw S) := h7
  have h8_ : lv S3 ≤ 48 := h8
  have h9_ : nx S3 ≤ wr S3 := h9
  obtain ⟨h20, h21, ⟨h24, h25⟩, ⟨h26, h27, h28⟩, h29, h30⟩ := h5
  have h31 := h29 8 (h.1.s (8, 3) (by decide))
  have h32 := h29 10 (h.1.s (10, 3) (by decide))
  have h33 := os_5 h26 1
  have h34 := os_13 h26 1
  have h35 : c_dl (kd aw S) = 0 := by unfold c_dl; split <;> split <;> omega
  show am_E _ _ _ _ [some (.ref 7), some (.int v1), none, none, none, none, none, none] [.int r4] _ _
  refine am_e6i hi_144_15 ?_
  refine am_e2 (v := 7) hi_144_16 rfl ?_
  refine cm_20f (r := 2) h20 hi_144_17 (h20.1.s (7, 6) (by decide)) (by decide) rfl ?_
  refine am_e32x (as := [.ref 2]) (la := [some (.ref 2)]) (rest := []) hi_144_20 (am_hd0 (M := 144) (by decide) 20) (Nat.le_of_ble_eq_true rfl) (Nat.le_of_ble_eq_true rfl) (show 1 ≤ am_P0.2.2.1 63 from by decide +kernel) rfl (cl_recv (h20.1.s (2, 2) (by decide))) rfl rfl ?_
  refine am_e2 (v := 2) hi_63_0 rfl ?_
  refine cm_20i h20 hi_63_1 (h20.1.s (2, 2) (by decide)) (by decide) rfl fun v36 hv36 => ?_
  have hv36_ : v36.toInt = nx S3 := hv36
  refine am_e33 hi_63_4 ?_
  show am_E _ _ _ _ [some (.ref 7), some (.int v1), none, none, none, none, none, none] [.int v36] _ _
  refine am_e3 (ls' := [some (.ref 7), some (.int v1), some (.int v36), none, none, none, none, none]) hi_144_23 (Nat.le_of_ble_eq_true rfl) rfl ?_
  refine am_e0 hi_144_24 ?_
  refine am_e3 (ls' := [some (.ref 7), some (.int v1), some (.int v36), some (.int 1), none, none, none, none]) hi_144_25 (Nat.le_of_ble_eq_true rfl) rfl ?_
  refine am_e2 (v := 7) hi_144_26 rfl ?_
  refine cm_20f (r := 2) h20 hi_144_27 (h20.1.s (7, 6) (by decide)) (by decide) rfl ?_
  refine am_e0 hi_144_30 ?_
  refine am_e32t (as := [.ref 2, .int 1]) (la := [some (.ref 2), some (.int 1)]) (rest := []) hi_144_31 (am_hd0 (M := 144) (by decide) 31) (Nat.le_of_ble_eq_true rfl) (Nat.le_of_ble_eq_true rfl) (show 2 ≤ am_P0.2.2.1 64 from by decide +kernel) rfl (cl_recv (h20.1.s (2, 2) (by decide))) rfl rfl (ck_take (d := (d + 5)) h20   (by show 0 ≤ nx S3; omega) (by show nx S3 ≤ wr S3; omega) (by show wr S3 ≤ 600; omega) (by show 0 ≤ lv S3; omega) (by show lv S3 ≤ 48; omega) (by show ¬ (1 : Int) = 0; omega)) (fun S54 h55 => (show TH aw 2000 S S54 from ⟨h55.1, h21.trans h55.2.1, ⟨(by have q := h55.2.2.1.1; omega), h55.2.2.1.2.trans h25⟩, h55.2.2.2.1, h55.2.2.2.2.1, (by have q := h55.2.2.2.2.2; omega)⟩)) ?_
  rintro v37 S38 ⟨r39, rfl, h40, h41, h42, h43, h44, h45⟩
  have h41_ : kd aw S3 = (1 : Int) := h41
  have h42_ : nx S38 = nx S3 + 1 := h42
  have h43_ : lv S38 = lv S3 + c_dl (kd aw S3) := h43
  have h44_ : lv S38 ≤ 48 := h44
  have h45_ : nx S38 ≤ wr S38 := h45
  obtain ⟨h56, h57, ⟨h60, h61⟩, ⟨h62, h63, h64⟩, h65, h66⟩ := h40
  have h67 := h65 8 (h20.1.s (8, 3) (by decide))
  have h68 := h65 10 (h20.1.s (10, 3) (by decide))
  have h69 := os_5 h62 1
  have h70 := os_13 h62 1
  have h71 : c_dl (kd aw S3) = 0 := by unfold c_dl; split <;> split <;> omega
  show am_E _ _ _ _ [some (.ref 7), some (.int v1), some (.int v36), some (.int 1), none, none, none, none] [.int r39] _ _
  refine am_e6i hi_144_34 ?_
  refine am_e0 hi_144_35 ?_
  refine am_e3 (ls' := [some (.ref 7), some (.int v1), some (.int v36), some (.int 1), some (.int 0), none, none, none]) hi_144_36 (Nat.le_of_ble_eq_true rfl) rfl ?_
  refine cf_listNames (d := d) (Sb := S38) (fw := v1) (wd := v36) h56   (by show 0 ≤ nx S38; omega) (by show nx S38 ≤ wr S38; omega) (by show wr S38 ≤ 600; omega) (by show 0 ≤ lv S38; omega) (by show lv S38 ≤ 48; omega) (fun S72 h73 => (show TH aw 2000 S S72 from ⟨h73.1, (h21.trans h57).trans h73.2.1, ⟨(by have q := h73.2.2.1.1; omega), h73.2.2.1.2.trans (h61.trans h25)⟩, h73.2.2.2.1, h73.2.2.2.2.1, (by have q := h73.2.2.2.2.2; omega)⟩)) ?_ ((2147483647 - (0 : Int)).toNat + 1) S38 1 0 ⟨h56, Ex.refl _, ⟨rfl, rfl⟩, ⟨rfl, rfl, rfl⟩⟩ (by show nx S38 + 0 ≤ nx S38; omega) (by show nx S38 ≤ wr S38; omega) (by show lv S38 = lv S38 + 0; omega) (by show EN S38 ≤ EN S38; omega) (by show nx S38 + 2 * (1 : Int) ≤ nx S38 + 2; omega) (by show 1 ≤ (1 : Int); omega) (by show (1 : Int) ≤ 20000; omega) (by show iv S38 8 1 = iv S38 8 1; omega) (by show iv S38 10 1 = iv S38 10 1; omega) (by show (1 : Int) = (0 : Int) + 1; omega) (by show 2147483647 - (0 : Int) < _; omega)
  · intro S76 m74 n75 h77 h78 h79 h80 h81 h82 h83 h84 h85 h86
    have h78_ : nx S38 + 0 ≤ nx S76 := h78
    have h79_ : nx S76 ≤ wr S76 := h79
    have h80_ : lv S76 = lv S38 + 0 := h80
    have h81_ : EN S76 ≤ EN S38 := h81
    have h82_ : nx S38 + 2 * m74.toInt ≤ nx S76 + 2 := h82
    have h83_ : 1 ≤ m74.toInt := h83
    have h84_ : m74.toInt ≤ 20000 := h84
    have h85_ : iv S76 8 1 = iv S38 8 1 := h85
    have h86_ : iv S76 10 1 = iv S38 10 1 := h86
    obtain ⟨h87, h88, ⟨h89, h90⟩, ⟨h91, h92, h93⟩⟩ := h77
    have h94 := os_5 h91 1
    have h95 := os_13 h91 1
    show am_E _ _ _ _ [some (.ref 7), some (.int v1), some (.int v36), some (.int m74), some (.int n75), none, none, none] [] _ _
    refine am_e2 (v := 7) hi_144_84 rfl ?_
    refine cm_20f (r := 2) h87 hi_144_85 (h87.1.s (7, 6) (by decide)) (by decide) rfl ?_
    refine am_e32x (as := [.ref 2]) (la := [some (.ref 2)]) (rest := []) hi_144_88 (am_hd0 (M := 144) (by decide) 88) (Nat.le_of_ble_eq_true rfl) (Nat.le_of_ble_eq_true rfl) (show 1 ≤ am_P0.2.2.1 63 from by decide +kernel) rfl (cl_recv (h87.1.s (2, 2) (by decide))) rfl rfl ?_
    refine am_e2 (v := 2) hi_63_0 rfl ?_
    refine cm_20i h87 hi_63_1 (h87.1.s (2, 2) (by decide)) (by decide) rfl fun v96 hv96 => ?_
    have hv96_ : v96.toInt = nx S76 := hv96
    refine am_e33 hi_63_4 ?_
    show am_E _ _ _ _ [some (.ref 7), some (.int v1), some (.int v36), some (.int m74), some (.int n75), none, none, none] [.int v96] _ _
    refine am_e3 (ls' := [some (.ref 7), some (.int v1), some (.int v36), some (.int m74), some (.int v96), none, none, none]) hi_144_91 (Nat.le_of_ble_eq_true rfl) rfl ?_
    refine am_e2 (v := 7) hi_144_93 rfl ?_
    refine cm_20f (r := 2) h87 hi_144_94 (h87.1.s (7, 6) (by decide)) (by decide) rfl ?_
    refine am_e0 hi_144_97 ?_
    refine am_e32t (as := [.ref 2, .int 21]) (la := [some (.ref 2), some (.int 21)]) (rest := []) hi_144_99 (am_hd0 (M := 144) (by decide) 99) (Nat.le_of_ble_eq_true rfl) (Nat.le_of_ble_eq_true rfl) (show 2 ≤ am_P0.2.2.1 64 from by decide +kernel) rfl (cl_recv (h87.1.s (2, 2) (by decide))) rfl rfl (ck_take (d := (d + 5)) h87   (by show 0 ≤ nx S76; omega) (by show nx S76 ≤ wr S76; omega) (by show wr S76 ≤ 600; omega) (by show 0 ≤ lv S76; omega) (by show lv S76 ≤ 48; omega) (by show ¬ (21 : Int) = 0; omega)) (fun S114 h115 => (show TH aw 2000 S S114 from ⟨h115.1, ((h21.trans h57).trans h88).trans h115.2.1, ⟨(by have q := h115.2.2.1.1; omega), h115.2.2.1.2.trans (h90.trans (h61.trans h25))⟩, h115.2.2.2.1, h115.2.2.2.2.1, (by have q := h115.2.2.2.2.2; omega)⟩)) ?_
    rintro v97 S98 ⟨r99, rfl, h100, h101, h102, h103, h104, h105⟩
    have h101_ : kd aw S76 = (21 : Int) := h101
    have h102_ : nx S98 = nx S76 + 1 := h102
    have h103_ : lv S98 = lv S76 + c_dl (kd aw S76) := h103
    have h104_ : lv S98 ≤ 48 := h104
    have h105_ : nx S98 ≤ wr S98 := h105
    obtain ⟨h116, h117, ⟨h120, h121⟩, ⟨h122, h123, h124⟩, h125, h126⟩ := h100
    have h127 := h125 8 (h87.1.s (8, 3) (by decide))
    have h128 := h125 10 (h87.1.s (10, 3) (by decide))
    have h129 := os_5 h122 1
    have h130 := os_13 h122 1
    have h131 : c_dl (kd aw S76) = 0 := by unfold c_dl; split <;> split <;> omega
    show am_E _ _ _ _ [some (.ref 7), some (.int v1), some (.int v36), some (.int m74), some (.int v96), none, none, none] [.int r99] _ _
    refine am_e6i hi_144_102 ?_
    refine am_e2 (v := 7) hi_144_103 rfl ?_
    refine am_e0 hi_144_104 ?_
    refine am_e2 (v := 7) hi_144_105 rfl ?_
    refine am_e32q (d1 := d + 0 + 19) (by omega) (as := [.ref 7]) (la := [some (.ref 7), none, none, none]) (rest := [.int 4, .ref 7]) hi_144_106 (am_hd0 (M := 144) (by decide) 106) (Nat.le_of_ble_eq_true rfl) (Nat.le_of_ble_eq_true rfl) (show 1 ≤ am_P0.2.2.1 112 from by decide +kernel) rfl (cl_recv (h116.1.s (7, 6) (by decide))) rfl rfl (cr_list (d := d + 0) h116  ihR (by show 48 - lv S98 < (NN : Int) + 1; omega) (by show (30 : Int) * (48 - lv S98) ≤ ((d + 0 : Nat) : Int); omega) (by show 0 ≤ nx S98; omega) (by show nx S98 ≤ wr S98; omega) (by show wr S98 ≤ 600; omega) (by show 0 ≤ lv S98; omega) (by show lv S98 ≤ 48; omega) (by show 1 ≤ iv S98 13 1; omega) (by show iv S98 13 1 ≤ lv S98 + 1; omega) (by show iv S98 5 1 ≤ nx S98 + 1; omega)) (fun S144 h145 => (show TH aw 2000 S S144 from ⟨h145.1, (((h21.trans h57).trans h88).trans h117).trans h145.2.1, ⟨(by have q := h145.2.2.1.1; omega), h145.2.2.1.2.trans (h121.trans (h90.trans (h61.trans h25)))⟩, h145.2.2.2.1, h145.2.2.2.2.1, (by have q := h145.2.2.2.2.2; omega)⟩)) ?_
    rintro v132 S133 ⟨r134, rfl, h135, h136, h137, h138, h139, h140, h141, h142⟩
    have h136_ : nx S98 + 1 ≤ nx S133 := h136
    have h137_ : nx S133 ≤ wr S133 := h137
    have h138_ : lv S133 = lv S98 + 0 := h138
    have h139_ : EN S133 + -10000 * nx S133 ≤ EN S98 + -10000 * nx S98 + (-2000) := h139
    have h140_ : iv S98 8 1 ≤ iv S133 8 1 := h140
    have h141_ : iv S98 10 1 ≤ iv S133 10 1 := h141
    have h142_ : 0 ≤ r134.toInt := h142
    obtain ⟨h146, h147, ⟨h150, h151⟩, ⟨h152, h153⟩⟩ := h135
    show am_E _ _ _ _ [some (.ref 7), some (.int v1), some (.int v36), some (.int m74), some (.int v96), none, none, none] [.int r134, .int 4, .ref 7] _ _
    refine am_e32n (as := [.ref 7, .int 4, .int r134]) (la := [some (.ref 7), some (.int 4), some (.int r134), none]) (rest := []) hi_144_109 (am_hd0 (M := 144) (by decide) 109) (Nat.le_of_ble_eq_true rfl) (Nat.le_of_ble_eq_true rfl) (show 3 ≤ am_P0.2.2.1 117 from by decide +kernel) rfl (cl_recv (h146.1.s (7, 6) (by decide))) rfl rfl (ck_fit (d := (d + 15)) h146   (by show 0 ≤ r134.toInt; omega) (by show 0 ≤ (4 : Int); omega) (by show (4 : Int) ≤ 3000000; omega)) ?_
    rintro v157 S158 ⟨rfl, h160, h161, h162, h163, h164⟩
    have h161_ : EN S158 ≤ EN S133 + 160 * (4 : Int) + 320 := h161
    have h162_ : iv S158 8 1 = iv S133 8 1 := h162
    have h163_ : iv S158 10 1 = iv S133 10 1 := h163
    have h164_ : iv S158 14 1 = iv S133 14 1 := h164
    obtain ⟨h166, h167, ⟨h168, h169, h170, h171⟩, ⟨h172, h173, h174⟩⟩ := h160
    have h177 : kd aw S158 = kd aw S133 := kd_eq h168 h171
    have h178 := os_5 h172 1
    have h179 := os_13 h172 1
    show am_E _ _ _ _ [some (.ref 7), some (.int v1), some (.int v36), some (.int m74), some (.int v96), none, none, none] [] _ _
    refine am_e2 (v := 7) hi_144_112 rfl ?_
    refine cm_20f (r := 2) h166 hi_144_113 (h166.1.s (7, 6) (by decide)) (by decide) rfl ?_
    refine am_e0 hi_144_116 ?_
    refine am_e32t (as := [.ref 2, .int 12]) (la := [some (.ref 2), some (.int 12)]) (rest := []) hi_144_118 (am_hd0 (M := 144) (by decide) 118) (Nat.le_of_ble_eq_true rfl) (Nat.le_of_ble_eq_true rfl) (show 2 ≤ am_P0.2.2.1 64 from by decide +kernel) rfl (cl_recv (h166.1.s (2, 2) (by decide))) rfl rfl (ck_take (d := (d + 5)) h166   (by show 0 ≤ nx S158; omega) (by show nx S158 ≤ wr S158; omega) (by show wr S158 ≤ 600; omega) (by show 0 ≤ lv S158; omega) (by show lv S158 ≤ 48; omega) (by show ¬ (12 : Int) = 0; omega)) (fun S197 h198 => (show TH aw 2000 S S197 from ⟨h198.1, (((((h21.trans h57).trans h88).trans h117).trans h147).trans h167).trans h198.2.1, ⟨(by have q := h198.2.2.1.1; omega), h198.2.2.1.2.trans (h171.trans (h151.trans (h121.trans (h90.trans (h61.trans h25)))))⟩, h198.2.2.2.1, h198.2.2.2.2.1, (by have q := h198.2.2.2.2.2; omega)⟩)) ?_
    rintro v180 S181 ⟨r182, rfl, h183, h184, h185, h186, h187, h188⟩
    have h184_ : kd aw S158 = (12 : Int) := h184
    have h185_ : nx S181 = nx S158 + 1 := h185
    have h186_ : lv S181 = lv S158 + c_dl (kd aw S158) := h186
    have h187_ : lv S181 ≤ 48 := h187
    have h188_ : nx S181 ≤ wr S181 := h188
    obtain ⟨h199, h200, ⟨h203, h204⟩, ⟨h205, h206, h207⟩, h208, h209⟩ := h183
    have h210 := h208 8 (h166.1.s (8, 3) (by decide))
    have h211 := h208 10 (h166.1.s (10, 3) (by decide))
    have h212 := os_5 h205 1
    have h213 := os_13 h205 1
    have h214 : c_dl (kd aw S158) = 1 := by unfold c_dl; split <;> split <;> omega
    show am_E _ _ _ _ [some (.ref 7), some (.int v1), some (.int v36), some (.int m74), some (.int v96), none, none, none] [.int r182] _ _
    refine am_e6i hi_144_121 ?_
    refine am_e2 (v := 7) hi_144_122 rfl ?_
    refine am_e0 hi_144_123 ?_
    refine am_e0 hi_144_124 ?_
    refine am_e1 (v := v1) hi_144_125 rfl ?_
    refine am_e32n (as := [.ref 7, .int 4, .int 4, .int v1]) (la := [some (.ref 7), some (.int 4), some (.int 4), some (.int v1), none, none]) (rest := []) hi_144_126 (am_hd0 (M := 144) (by decide) 126) (Nat.le_of_ble_eq_true rfl) (Nat.le_of_ble_eq_true rfl) (show 4 ≤ am_P0.2.2.1 140 from by decide +kernel) rfl (cl_recv (h199.1.s (7, 6) (by decide))) rfl rfl (ck_openHidden (d := (d + 15)) h199   (by show (4 : Int) ≤ 4; omega)) ?_
    rintro v215 S216 ⟨r217, rfl, h218, h219, h220⟩
    have h219_ : iv S216 8 1 = iv S181 8 1 := h219
    have h220_ : iv S216 10 1 = iv S181 10 1 := h220
    obtain ⟨h222, h223, ⟨h224, h225, h226, h227⟩, ⟨h228, h229, h230⟩, h232⟩ := h218
    have h233 : kd aw S216 = kd aw S181 := kd_eq h224 h227
    have h234 := os_5 h228 1
    have h235 := os_13 h228 1
    show am_E _ _ _ _ [some (.ref 7), some (.int v1), some (.int v36), some (.int m74), some (.int v96), none, none, none] [.int r217] _ _
    refine am_e3 (ls' := [some (.ref 7), some (.int v1), some (.int v36), some (.int m74), some (.int v96), some (.int r217), none, none]) hi_144_129 (Nat.le_of_ble_eq_true rfl) rfl ?_
    refine am_e2 (v := 7) hi_144_131 rfl ?_
    refine am_e0 hi_144_132 ?_
    refine am_e1 (v := r217) hi_144_134 rfl ?_
    refine am_e0 hi_144_136 ?_
    refine am_e1 (v := v1) hi_144_137 rfl ?_
    refine am_e32n (as := [.ref 7, .int 42, .int r217, .int 0, .int v1]) (la := [some (.ref 7), some (.int 42), some (.int r217), some (.int 0), some (.int v1)]) (rest := []) hi_144_138 (am_hd0 (M := 144) (by decide) 138) (Nat.le_of_ble_eq_true rfl) (Nat.le_of_ble_eq_true rfl) (show 5 ≤ am_P0.2.2.1 78 from by decide +kernel) rfl (cl_recv (h222.1.s (7, 6) (by decide))) rfl rfl (ck_emit (d := (d + 16)) h222   ) ?_
    rintro v236 S237 ⟨r238, rfl, h239, h240, h241, h242⟩
    have h240_ : iv S237 8 1 = iv S216 8 1 := h240
    have h241_ : iv S237 10 1 = iv S216 10 1 := h241
    have h242_ : iv S237 14 1 = iv S216 14 1 := h242
    obtain ⟨h244, h245, ⟨h246, h247, h248, h249⟩, ⟨h250, h251, h252⟩, h254⟩ := h239
    have h255 : kd aw S237 = kd aw S216 := kd_eq h246 h249
    have h256 := os_5 h250 1
    have h257 := os_13 h250 1
    show am_E _ _ _ _ [some (.ref 7), some (.int v1), some (.int v36), some (.int m74), some (.int v96), some (.int r217), none, none] [.int r238] _ _
    refine am_e6i hi_144_141 ?_
    refine am_e2 (v := 7) hi_144_142 rfl ?_
    refine am_e0 hi_144_143 ?_
    refine am_e0 hi_144_145 ?_
    refine am_e0 hi_144_146 ?_
    refine am_e1 (v := v1) hi_144_147 rfl ?_
    refine am_e32n (as := [.ref 7, .int 34, .int 0, .int 0, .int v1]) (la := [some (.ref 7), some (.int 34), some (.int 0), some (.int 0), some (.int v1)]) (rest := []) hi_144_148 (am_hd0 (M := 144) (by decide) 148) (Nat.le_of_ble_eq_true rfl) (Nat.le_of_ble_eq_true rfl) (show 5 ≤ am_P0.2.2.1 78 from by decide +kernel) rfl (cl_recv (h244.1.s (7, 6) (by decide))) rfl rfl (ck_emit (d := (d + 16)) h244   ) ?_
    rintro v258 S259 ⟨r260, rfl, h261, h262, h263, h264⟩
    have h262_ : iv S259 8 1 = iv S237 8 1 := h262
    have h263_ : iv S259 10 1 = iv S237 10 1 := h263
    have h264_ : iv S259 14 1 = iv S237 14 1 := h264
    obtain ⟨h266, h267, ⟨h268, h269, h270, h271⟩, ⟨h272, h273, h274⟩, h276⟩ := h261
    have h277 : kd aw S259 = kd aw S237 := kd_eq h268 h271
    have h278 := os_5 h272 1
    have h279 := os_13 h272 1
    show am_E _ _ _ _ [some (.ref 7), some (.int v1), some (.int v36), some (.int m74), some (.int v96), some (.int r217), none, none] [.int r260] _ _
    refine am_e3 (ls' := [some (.ref 7), some (.int v1), some (.int v36), some (.int m74), some (.int v96), some (.int r217), some (.int r260), none]) hi_144_151 (Nat.le_of_ble_eq_true rfl) rfl ?_
    refine am_e2 (v := 7) hi_144_153 rfl ?_
    refine am_e0 hi_144_154 ?_
    refine am_e1 (v := r217) hi_144_156 rfl ?_
    refine am_e1 (v := m74) hi_144_158 rfl ?_
    refine am_e1 (v := v96) hi_144_159 rfl ?_
    refine am_e32n (as := [.ref 7, .int 43, .int r217, .int m74, .int v96]) (la := [some (.ref 7), some (.int 43), some (.int r217), some (.int m74), some (.int v96)]) (rest := []) hi_144_161 (am_hd0 (M := 144) (by decide) 161) (Nat.le_of_ble_eq_true rfl) (Nat.le_of_ble_eq_true rfl) (show 5 ≤ am_P0.2.2.1 78 from by decide +kernel) rfl (cl_recv (h266.1.s (7, 6) (by decide))) rfl rfl (ck_emit (d := (d + 16)) h266   ) ?_
    rintro v280 S281 ⟨r282, rfl, h283, h284, h285, h286⟩
    have h284_ : iv S281 8 1 = iv S259 8 1 := h284
    have h285_ : iv S281 10 1 = iv S259 10 1 := h285
    have h286_ : iv S281 14 1 = iv S259 14 1 := h286
    obtain ⟨h288, h289, ⟨h290, h291, h292, h293⟩, ⟨h294, h295, h296⟩, h298⟩ := h283
    have h299 : kd aw S281 = kd aw S259 := kd_eq h290 h293
    have h300 := os_5 h294 1
    have h301 := os_13 h294 1
    show am_E _ _ _ _ [some (.ref 7), some (.int v1), some (.int v36), some (.int m74), some (.int v96), some (.int r217), some (.int r260), none] [.int r282] _ _
    refine am_e6i hi_144_164 ?_
    refine am_e2 (v := 7) hi_144_165 rfl ?_
    refine am_e0 hi_144_166 ?_
    refine am_e1 (v := r217) hi_144_168 rfl ?_
    refine am_e0 hi_144_170 ?_
    refine am_e0 hi_144_171 ?_
    refine am_e32n (as := [.ref 7, .int 44, .int r217, .int 0, .int 0]) (la := [some (.ref 7), some (.int 44), some (.int r217), some (.int 0), some (.int 0)]) (rest := []) hi_144_172 (am_hd0 (M := 144) (by decide) 172) (Nat.le_of_ble_eq_true rfl) (Nat.le_of_ble_eq_true rfl) (show 5 ≤ am_P0.2.2.1 78 from by decide +kernel) rfl (cl_recv (h288.1.s (7, 6) (by decide))) rfl rfl (ck_emit (d := (d + 16)) h288   ) ?_
    rintro v302 S303 ⟨r304, rfl, h305, h306, h307, h308⟩
    have h306_ : iv S303 8 1 = iv S281 8 1 := h306
    have h307_ : iv S303 10 1 = iv S281 10 1 := h307
    have h308_ : iv S303 14 1 = iv S281 14 1 := h308
    obtain ⟨h310, h311, ⟨h312, h313, h314, h315⟩, ⟨h316, h317, h318⟩, h320⟩ := h305
    have h321 : kd aw S303 = kd aw S281 := kd_eq h312 h315
    have h322 := os_5 h316 1
    have h323 := os_13 h316 1
    show am_E _ _ _ _ [some (.ref 7), some (.int v1), some (.int v36), some (.int m74), some (.int v96), some (.int r217), some (.int r260), none] [.int r304] _ _
    refine am_e3 (ls' := [some (.ref 7), some (.int v1), some (.int v36), some (.int m74), some (.int v96), some (.int r217), some (.int r260), some (.int r304)]) hi_144_175 (Nat.le_of_ble_eq_true rfl) rfl ?_
    refine am_e2 (v := 7) hi_144_177 rfl ?_
    refine am_e1 (v := v36) hi_144_178 rfl ?_
    refine am_e1 (v := m74) hi_144_179 rfl ?_
    refine am_e32x (as := [.ref 7, .int v36, .int m74]) (la := [some (.ref 7), some (.int v36), some (.int m74), none, none]) (rest := []) hi_144_180 (am_hd0 (M := 144) (by decide) 180) (Nat.le_of_ble_eq_true rfl) (Nat.le_of_ble_eq_true rfl) (show 3 ≤ am_P0.2.2.1 142 from by decide +kernel) rfl (cl_recv (h310.1.s (7, 6) (by decide))) rfl rfl ?_
    refine am_e2 (v := 7) hi_142_0 rfl ?_
    refine cm_20f (r := 12) h310 hi_142_1 (h310.1.s (7, 6) (by decide)) (by decide) rfl ?_
    refine am_e32n (as := [.ref 12]) (la := [some (.ref 12)]) (rest := []) hi_142_4 (am_hd0 (M := 142) (by decide) 4) (Nat.le_of_ble_eq_true rfl) (Nat.le_of_ble_eq_true rfl) (show 1 ≤ am_P0.2.2.1 51 from by decide +kernel) rfl (cl_recv (h310.1.s (12, 7) (by decide))) rfl rfl (ck_openBlock (d := (d + 15)) h310   ) ?_
    rintro v324 S325 ⟨rfl, h327, h328, h329, h330⟩
    have h328_ : iv S325 8 1 = iv S303 8 1 := h328
    have h329_ : iv S325 10 1 = iv S303 10 1 := h329
    have h330_ : iv S325 14 1 = iv S303 14 1 := h330
    obtain ⟨h332, h333, ⟨h334, h335, h336, h337⟩, ⟨h338, h339, h340⟩, h342⟩ := h327
    have h343 : kd aw S325 = kd aw S303 := kd_eq h334 h337
    have h344 := os_5 h338 1
    have h345 := os_13 h338 1
    show am_E _ _ _ _ [some (.ref 7), some (.int v36), some (.int m74), none, none] [] _ _
    refine am_e0 hi_142_7 ?_
    refine am_e3 (ls' := [some (.ref 7), some (.int v36), some (.int m74), some (.int 0), none]) hi_142_8 (Nat.le_of_ble_eq_true rfl) rfl ?_
    refine cf_loopNames (d := (d + 4)) (Sb := S325) (w := v36) (m := m74) h332   (by show 0 ≤ m74.toInt; omega) ?_ ((2147483647 - (0 : Int)).toNat + 1) S325 none 0 ⟨h332, Ex.refl _, ⟨rfl, rfl, rfl, rfl⟩, ⟨rfl, rfl, rfl⟩⟩ (by show 0 ≤ (0 : Int); omega) (by show (0 : Int) ≤ m74.toInt; omega) (by show EN S325 ≤ EN S325 + 160 * (0 : Int); omega) (by show iv S325 8 1 = iv S325 8 1; omega) (by show iv S325 10 1 = iv S325 10 1; omega) (by show 2147483647 - (0 : Int) < _; omega)
    · intro S347 x4352 i346 h348 h349 h350 h351
      have h349_ : EN S347 ≤ EN S325 + 160 * m74.toInt := h349
      have h350_ : iv S347 8 1 = iv S325 8 1 := h350
      have h351_ : iv S347 10 1 = iv S325 10 1 := h351
      obtain ⟨h353, h354, ⟨h355, h356, h357, h358⟩, ⟨h359, h360, h361⟩⟩ := h348
      have h364 : kd aw S347 = kd aw S325 := kd_eq h355 h358
      have h365 := os_5 h359 1
      have h366 := os_13 h359 1
      show am_E _ _ _ _ [some (.ref 7), some (.int v36), some (.int m74), some (.int i346), x4352] [] _ _
      refine am_e2 (v := 7) hi_142_53 rfl ?_
      refine am_e32q (d1 := d - 30 + 27 + 21) (by omega) (as := [.ref 7]) (la := [some (.ref 7), none]) (rest := []) hi_142_54 (am_hd0 (M := 142) (by decide) 54) (Nat.le_of_ble_eq_true rfl) (Nat.le_of_ble_eq_true rfl) (show 1 ≤ am_P0.2.2.1 52 from by decide +kernel) rfl (cl_recv (h353.1.s (7, 6) (by decide))) rfl rfl (rc_52 ihR (d - 30 + 27) _  h353  (by show 48 - lv S347 < (NN : Int); omega) (by show (30 : Int) * (48 - lv S347) ≤ ((d - 30 + 27 : Nat) : Int); omega) (by show 0 ≤ nx S347; omega) (by show nx S347 ≤ wr S347; omega) (by show wr S347 ≤ 600; omega) (by show 0 ≤ lv S347; omega) (by show lv S347 ≤ 48; omega) (by show 1 ≤ iv S347 13 1; omega) (by show iv S347 13 1 ≤ lv S347 + 1; omega) (by show iv S347 5 1 ≤ nx S347 + 1; omega)) (fun S378 h379 => (show TH aw 2000 S S378 from ⟨h379.1, (((((((((((((h21.trans h57).trans h88).trans h117).trans h147).trans h167).trans h200).trans h223).trans h245).trans h267).trans h289).trans h311).trans h333).trans h354).trans h379.2.1, ⟨(by have q := h379.2.2.1.1; omega), h379.2.2.1.2.trans (h358.trans (h337.trans (h315.trans (h293.trans (h271.trans (h249.trans (h227.trans (h204.trans (h171.trans (h151.trans (h121.trans (h90.trans (h61.trans h25)))))))))))))⟩, h379.2.2.2.1, h379.2.2.2.2.1, (by have q := h379.2.2.2.2.2; omega)⟩)) ?_
      rintro v367 S368 ⟨rfl, h370, h371, h372, h373, h374, h375, h376⟩
      have h371_ : nx S347 + 0 ≤ nx S368 := h371
      have h372_ : nx S368 ≤ wr S368 := h372
      have h373_ : lv S368 = lv S347 + 0 := h373
      have h374_ : EN S368 + -10000 * nx S368 ≤ EN S347 + -10000 * nx S347 + 0 := h374
      have h375_ : iv S347 8 1 ≤ iv S368 8 1 := h375
      have h376_ : iv S347 10 1 ≤ iv S368 10 1 := h376
      obtain ⟨h380, h381, ⟨h384, h385⟩, ⟨h386, h387⟩⟩ := h370
      show am_E _ _ _ _ [some (.ref 7), some (.int v36), some (.int m74), some (.int i346), x4352] [] _ _
      refine am_e2 (v := 7) hi_142_57 rfl ?_
      refine cm_20f (r := 2) h380 hi_142_58 (h380.1.s (7, 6) (by decide)) (by decide) rfl ?_
      refine am_e0 hi_142_61 ?_
      refine am_e32t (as := [.ref 2, .int 15]) (la := [some (.ref 2), some (.int 15)]) (rest := []) hi_142_63 (am_hd0 (M := 142) (by decide) 63) (Nat.le_of_ble_eq_true rfl) (Nat.le_of_ble_eq_true rfl) (show 2 ≤ am_P0.2.2.1 64 from by decide +kernel) rfl (cl_recv (h380.1.s (2, 2) (by decide))) rfl rfl (ck_take (d := (d + 4)) h380   (by show 0 ≤ nx S368; omega) (by show nx S368 ≤ wr S368; omega) (by show wr S368 ≤ 600; omega) (by show 0 ≤ lv S368; omega) (by show lv S368 ≤ 48; omega) (by show ¬ (15 : Int) = 0; omega)) (fun S408 h409 => (show TH aw 2000 S S408 from ⟨h409.1, ((((((((((((((h21.trans h57).trans h88).trans h117).trans h147).trans h167).trans h200).trans h223).trans h245).trans h267).trans h289).trans h311).trans h333).trans h354).trans h381).trans h409.2.1, ⟨(by have q := h409.2.2.1.1; omega), h409.2.2.1.2.trans (h385.trans (h358.trans (h337.trans (h315.trans (h293.trans (h271.trans (h249.trans (h227.trans (h204.trans (h171.trans (h151.trans (h121.trans (h90.trans (h61.trans h25))))))))))))))⟩, h409.2.2.2.1, h409.2.2.2.2.1, (by have q := h409.2.2.2.2.2; omega)⟩)) ?_
      rintro v391 S392 ⟨r393, rfl, h394, h395, h396, h397, h398, h399⟩
      have h395_ : kd aw S368 = (15 : Int) := h395
      have h396_ : nx S392 = nx S368 + 1 := h396
      have h397_ : lv S392 = lv S368 + c_dl (kd aw S368) := h397
      have h398_ : lv S392 ≤ 48 := h398
      have h399_ : nx S392 ≤ wr S392 := h399
      obtain ⟨h410, h411, ⟨h414, h415⟩, ⟨h416, h417, h418⟩, h419, h420⟩ := h394
      have h421 := h419 8 (h380.1.s (8, 3) (by decide))
      have h422 := h419 10 (h380.1.s (10, 3) (by decide))
      have h423 := os_5 h416 1
      have h424 := os_13 h416 1
      have h425 : c_dl (kd aw S368) = -1 := by unfold c_dl; split <;> split <;> omega
      show am_E _ _ _ _ [some (.ref 7), some (.int v36), some (.int m74), some (.int i346), x4352] [.int r393] _ _
      refine am_e6i hi_142_66 ?_
      refine am_e2 (v := 7) hi_142_67 rfl ?_
      refine am_e0 hi_142_68 ?_
      refine am_e2 (v := 7) hi_142_70 rfl ?_
      refine cm_20f (r := 12) h410 hi_142_71 (h410.1.s (7, 6) (by decide)) (by decide) rfl ?_
      refine am_e32n (as := [.ref 12]) (la := [some (.ref 12)]) (rest := [.int 33, .ref 7]) hi_142_74 (am_hd0 (M := 142) (by decide) 74) (Nat.le_of_ble_eq_true rfl) (Nat.le_of_ble_eq_true rfl) (show 1 ≤ am_P0.2.2.1 82 from by decide +kernel) rfl (cl_recv (h410.1.s (12, 7) (by decide))) rfl rfl (ck_before (d := (d + 17)) h410   ) ?_
      rintro v426 S427 ⟨r428, rfl, rfl⟩
      show am_E _ _ _ _ [some (.ref 7), some (.int v36), some (.int m74), some (.int i346), x4352] [.int r428, .int 33, .ref 7] _ _
      refine am_e0 hi_142_77 ?_
      refine am_e0 hi_142_78 ?_
      refine am_e32n (as := [.ref 7, .int 33, .int r428, .int 0, .int 0]) (la := [some (.ref 7), some (.int 33), some (.int r428), some (.int 0), some (.int 0)]) (rest := []) hi_142_79 (am_hd0 (M := 142) (by decide) 79) (Nat.le_of_ble_eq_true rfl) (Nat.le_of_ble_eq_true rfl) (show 5 ≤ am_P0.2.2.1 78 from by decide +kernel) rfl (cl_recv (h410.1.s (7, 6) (by decide))) rfl rfl (ck_emit (d := (d + 15)) h410   ) ?_
      rintro v431 S432 ⟨r433, rfl, h434, h435, h436, h437⟩
      have h435_ : iv S432 8 1 = iv S392 8 1 := h435
      have h436_ : iv S432 10 1 = iv S392 10 1 := h436
      have h437_ : iv S432 14 1 = iv S392 14 1 := h437
      obtain ⟨h439, h440, ⟨h441, h442, h443, h444⟩, ⟨h445, h446, h447⟩, h449⟩ := h434
      have h450 : kd aw S432 = kd aw S392 := kd_eq h441 h444
      have h451 := os_5 h445 1
      have h452 := os_13 h445 1
      show am_E _ _ _ _ [some (.ref 7), some (.int v36), some (.int m74), some (.int i346), x4352] [.int r433] _ _
      refine am_e6i hi_142_82 ?_
      refine am_e2 (v := 7) hi_142_83 rfl ?_
      refine cm_20f (r := 12) h439 hi_142_84 (h439.1.s (7, 6) (by decide)) (by decide) rfl ?_
      refine am_e32n (as := [.ref 12]) (la := [some (.ref 12), none]) (rest := []) hi_142_87 (am_hd0 (M := 142) (by decide) 87) (Nat.le_of_ble_eq_true rfl) (Nat.le_of_ble_eq_true rfl) (show 1 ≤ am_P0.2.2.1 81 from by decide +kernel) rfl (cl_recv (h439.1.s (12, 7) (by decide))) rfl rfl (ck_closeBlock (d := (d + 15)) h439   ) ?_
      rintro v453 S454 ⟨rfl, h456, h457, h458⟩
      have h457_ : iv S454 8 1 = iv S432 8 1 := h457
      have h458_ : iv S454 10 1 = iv S432 10 1 := h458
      obtain ⟨h460, h461, ⟨h462, h463, h464, h465⟩, ⟨h466, h467, h468⟩, h470⟩ := h456
      have h471 : kd aw S454 = kd aw S432 := kd_eq h462 h465
      have h472 := os_5 h466 1
      have h473 := os_13 h466 1
      show am_E _ _ _ _ [some (.ref 7), some (.int v36), some (.int m74), some (.int i346), x4352] [] _ _
      refine am_e35 hi_142_90 ?_
      show am_E _ _ _ _ [some (.ref 7), some (.int v1), some (.int v36), some (.int m74), some (.int v96), some (.int r217), some (.int r260), some (.int r304)] [] _ _
      refine am_e2 (v := 7) hi_144_183 rfl ?_
      refine am_e0 hi_144_184 ?_
      refine am_e1 (v := r260) hi_144_186 rfl ?_
      refine am_e0 hi_144_188 ?_
      refine am_e0 hi_144_189 ?_
      refine am_e32n (as := [.ref 7, .int 36, .int r260, .int 0, .int 0]) (la := [some (.ref 7), some (.int 36), some (.int r260), some (.int 0), some (.int 0)]) (rest := []) hi_144_190 (am_hd0 (M := 144) (by decide) 190) (Nat.le_of_ble_eq_true rfl) (Nat.le_of_ble_eq_true rfl) (show 5 ≤ am_P0.2.2.1 78 from by decide +kernel) rfl (cl_recv (h460.1.s (7, 6) (by decide))) rfl rfl (ck_emit (d := (d + 16)) h460   ) ?_
      rintro v474 S475 ⟨r476, rfl, h477, h478, h479, h480⟩
      have h478_ : iv S475 8 1 = iv S454 8 1 := h478
      have h479_ : iv S475 10 1 = iv S454 10 1 := h479
      have h480_ : iv S475 14 1 = iv S454 14 1 := h480
      obtain ⟨h482, h483, ⟨h484, h485, h486, h487⟩, ⟨h488, h489, h490⟩, h492⟩ := h477
      have h493 : kd aw S475 = kd aw S454 := kd_eq h484 h487
      have h494 := os_5 h488 1
      have h495 := os_13 h488 1
      show am_E _ _ _ _ [some (.ref 7), some (.int v1), some (.int v36), some (.int m74), some (.int v96), some (.int r217), some (.int r260), some (.int r304)] [.int r476] _ _
      refine am_e6i hi_144_193 ?_
      refine am_e2 (v := 7) hi_144_194 rfl ?_
      refine cm_20f (r := 12) h482 hi_144_195 (h482.1.s (7, 6) (by decide)) (by decide) rfl ?_
      refine am_e32x (as := [.ref 12]) (la := [some (.ref 12)]) (rest := []) hi_144_198 (am_hd0 (M := 144) (by decide) 198) (Nat.le_of_ble_eq_true rfl) (Nat.le_of_ble_eq_true rfl) (show 1 ≤ am_P0.2.2.1 79 from by decide +kernel) rfl (cl_recv (h482.1.s (12, 7) (by decide))) rfl rfl ?_
      refine am_e2 (v := 12) hi_79_0 rfl ?_
      refine cm_20n h482 hi_79_1 fun hb496 => ?_
      refine am_e34 hi_79_4 ?_
      show am_E _ _ _ _ [some (.ref 7), some (.int v1), some (.int v36), some (.int m74), some (.int v96), some (.int r217), some (.int r260), some (.int r304)] [.ref (nw S475)] _ _
      refine am_e1 (v := r304) hi_144_201 rfl ?_
      refine am_e0 hi_144_203 ?_
      refine am_e32n (as := [.ref (nw S475), .int r304, .int 2]) (la := [some (.ref (nw S475)), some (.int r304), some (.int 2)]) (rest := []) hi_144_204 (am_hd0 (M := 144) (by decide) 204) (Nat.le_of_ble_eq_true rfl) (Nat.le_of_ble_eq_true rfl) (show 3 ≤ am_P0.2.2.1 109 from by decide +kernel) rfl (cl_recv hb496) rfl rfl (ck_leadHere (d := (d + 18)) h482 hb496  ) ?_
      rintro v497 S498 ⟨rfl, h500⟩
      obtain ⟨h502, h503, ⟨h504, h505, h506, h507⟩, ⟨h508, h509, h510⟩, h511, h512⟩ := h500
      have h513 : kd aw S498 = kd aw S475 := kd_eq h504 h507
      have h514 := h511 8 (h482.1.s (8, 3) (by decide))
      have h515 := h511 10 (h482.1.s (10, 3) (by decide))
      have h516 := os_5 h508 1
      have h517 := os_13 h508 1
      show am_E _ _ _ _ [some (.ref 7), some (.int v1), some (.int v36), some (.int m74), some (.int v96), some (.int r217), some (.int r260), some (.int r304)] [] _ _
      refine am_e2 (v := 7) hi_144_207 rfl ?_
      refine am_e0 hi_144_208 ?_
      refine am_e1 (v := r217) hi_144_210 rfl ?_
      refine am_e0 hi_144_212 ?_
      obtain ⟨z518, hz518⟩ : ∃ q__, am_bin 0 r217 4 = q__ := ⟨_, rfl⟩
      refine am_e10 (z := z518) hi_144_213 hz518 ?_
      refine am_e0 hi_144_214 ?_
      refine am_e0 hi_144_215 ?_
      refine am_e32n (as := [.ref 7, .int 33, .int z518, .int 0, .int 0]) (la := [some (.ref 7), some (.int 33), some (.int z518), some (.int 0), some (.int 0)]) (rest := []) hi_144_216 (am_hd0 (M := 144) (by decide) 216) (Nat.le_of_ble_eq_true rfl) (Nat.le_of_ble_eq_true rfl) (show 5 ≤ am_P0.2.2.1 78 from by decide +kernel) rfl (cl_recv (h502.1.s (7, 6) (by decide))) rfl rfl (ck_emit (d := (d + 16)) h502   ) ?_
      rintro v519 S520 ⟨r521, rfl, h522, h523, h524, h525⟩
      have h523_ : iv S520 8 1 = iv S498 8 1 := h523
      have h524_ : iv S520 10 1 = iv S498 10 1 := h524
      have h525_ : iv S520 14 1 = iv S498 14 1 := h525
      obtain ⟨h527, h528, ⟨h529, h530, h531, h532⟩, ⟨h533, h534, h535⟩, h537⟩ := h522
      have h538 : kd aw S520 = kd aw S498 := kd_eq h529 h532
      have h539 := os_5 h533 1
      have h540 := os_13 h533 1
      show am_E _ _ _ _ [some (.ref 7), some (.int v1), some (.int v36), some (.int m74), some (.int v96), some (.int r217), some (.int r260), some (.int r304)] [.int r521] _ _
      refine am_e6i hi_144_219 ?_
      refine am_e2 (v := 7) hi_144_220 rfl ?_
      refine am_e32n (as := [.ref 7]) (la := [some (.ref 7)]) (rest := []) hi_144_221 (am_hd0 (M := 144) (by decide) 221) (Nat.le_of_ble_eq_true rfl) (Nat.le_of_ble_eq_true rfl) (show 1 ≤ am_P0.2.2.1 143 from by decide +kernel) rfl (cl_recv (h527.1.s (7, 6) (by decide))) rfl rfl (ck_closeHidden (d := (d + 15)) h527   ) ?_
      rintro v541 S542 ⟨rfl, h544, h545, h546⟩
      have h545_ : iv S542 8 1 = iv S520 8 1 := h545
      have h546_ : iv S542 10 1 = iv S520 10 1 := h546
      obtain ⟨h548, h549, ⟨h550, h551, h552, h553⟩, ⟨h554, h555, h556⟩, h558⟩ := h544
      have h559 : kd aw S542 = kd aw S520 := kd_eq h550 h553
      have h560 := os_5 h554 1
      have h561 := os_13 h554 1
      show am_E _ _ _ _ [some (.ref 7), some (.int v1), some (.int v36), some (.int m74), some (.int v96), some (.int r217), some (.int r260), some (.int r304)] [] _ _
      refine am_e2 (v := 7) hi_144_224 rfl ?_
      refine am_e0 hi_144_225 ?_
      refine am_e1 (v := r217) hi_144_227 rfl ?_
      refine am_e0 hi_144_229 ?_
      refine am_e0 hi_144_230 ?_
      refine am_e32n (as := [.ref 7, .int 41, .int r217, .int 0, .int 0]) (la := [some (.ref 7), some (.int 41), some (.int r217), some (.int 0), some (.int 0)]) (rest := []) hi_144_231 (am_hd0 (M := 144) (by decide) 231) (Nat.le_of_ble_eq_true rfl) (Nat.le_of_ble_eq_true rfl) (show 5 ≤ am_P0.2.2.1 78 from by decide +kernel) rfl (cl_recv (h548.1.s (7, 6) (by decide))) rfl rfl (ck_emit (d := (d + 16)) h548   ) ?_
      rintro v562 S563 ⟨r564, rfl, h565, h566, h567, h568⟩
      have h566_ : iv S563 8 1 = iv S542 8 1 := h566
      have h567_ : iv S563 10 1 = iv S542 10 1 := h567
      have h568_ : iv S563 14 1 = iv S542 14 1 := h568
      obtain ⟨h570, h571, ⟨h572, h573, h574, h575⟩, ⟨h576, h577, h578⟩, h580⟩ := h565
      have h581 : kd aw S563 = kd aw S542 := kd_eq h572 h575
      have h582 := os_5 h576 1
      have h583 := os_13 h576 1
      show am_E _ _ _ _ [some (.ref 7), some (.int v1), some (.int v36), some (.int m74), some (.int v96), some (.int r217), some (.int r260), some (.int r304)] [.int r564] _ _
      refine am_e6i hi_144_234 ?_
      refine am_e35 hi_144_235 ?_
      exact ⟨rfl, ⟨h570, ((((((((((((((((((((((h21.trans h57).trans h88).trans h117).trans h147).trans h167).trans h200).trans h223).trans h245).trans h267).trans h289).trans h311).trans h333).trans h354).trans h381).trans h411).trans h440).trans h461).trans h483).trans h503).trans h528).trans h549).trans h571), ⟨(by show wr S563 = wr S; omega), (h575.trans (h553.trans (h532.trans (h507.trans (h487.trans (h465.trans (h444.trans (h415.trans (h385.trans (h358.trans (h337.trans (h315.trans (h293.trans (h271.trans (h249.trans (h227.trans (h204.trans (h171.trans (h151.trans (h121.trans (h90.trans (h61.trans h25))))))))))))))))))))))⟩, ⟨(by show iv S563 13 1 = iv S 13 1; omega), (by show iv S563 5 1 - nx S563 ≤ iv S 5 1 - nx S; omega)⟩⟩, (by show nx S + 1 ≤ nx S563; omega), (by show nx S563 ≤ wr S563; omega), (by show lv S563 = lv S + 0; omega), (by show EN S563 + -10000 * nx S563 ≤ EN S + -10000 * nx S + (-5000); omega), (by show iv S 8 1 ≤ iv S563 8 1; omega), (by show iv S 10 1 ≤ iv S563 10 1; omega)⟩
theorem cf_funNames {sc : Nat × (Nat → Int32)} {d aw : Nat} {Sb : am_S} {fw : Int32} {Q : Option (Option Value) → am_S → Prop} (h : SH aw Sb) (p0 : 0 ≤ nx Sb) (p1 : nx Sb ≤ wr Sb) (p2 : wr Sb ≤ 600) (p3 : 0 ≤ lv Sb) (p4 : lv Sb ≤ 48) (hq : ∀ S1, TH aw 300 Sb S1 → Q none S1) (hx0 : ∀ (S : am_S) (f n : Int32), Wv aw Sb S → (nx Sb + 0 ≤ nx S) → (nx S ≤ wr S) → (lv S = lv Sb + 0) → (EN S + -10000 * nx S ≤ EN Sb + -10000 * nx Sb + 0) → (iv S 8 1 = iv Sb 8 1) → (iv S 10 1 = iv Sb 10 1) → am_E (am_PP sc) (d + 16) 145 58 [some (.ref 7), some (.int fw), some (.int f), some (.int n), none] [] S Q) : ∀ (N : Nat) (S : am_S) (f n : Int32), Wv aw Sb S → (nx Sb + 0 ≤ nx S) → (nx S ≤ wr S) → (lv S = lv Sb + 0) → (EN S + -10000 * nx S ≤ EN Sb + -10000 * nx Sb + 0) → (iv S 8 1 = iv Sb 8 1) → (iv S 10 1 = iv Sb 10 1) → 2147483647 - n.toInt < (N : Int) → am_E (am_PP sc) (d + 16) 145 23 [some (.ref 7), some (.int fw), some (.int f), some (.int n), none] [] S Q := by
  intro N
  induction N with
  | zero =>
    intro S  f n hrel  i0 i1 i2 i3 i4 i5 hN
    have := i32_le f
    have := i32_le n
    have := i32_ge f
    have := i32_ge n
    exfalso
    omega
  | succ N ih =>
    intro S  f n hrel  i0 i1 i2 i3 i4 i5 hN
    have hl_f := i32_le f
    have hg_f := i32_ge f
    have hl_n := i32_le n
    have hg_n := i32_ge n
    obtain ⟨h1, h2, ⟨h3, h4⟩, ⟨h5, h6, h7⟩⟩ := hrel
    refine am_e2 (v := 7) hi_145_23 rfl ?_
    refine cm_20f (r := 2) h1 hi_145_24 (h1.1.s (7, 6) (by decide)) (by decide) rfl ?_
    refine am_e32n (as := [.ref 2]) (la := [some (.ref 2)]) (rest := []) hi_145_27 (am_hd0 (M := 145) (by decide) 27) (Nat.le_of_ble_eq_true rfl) (Nat.le_of_ble_eq_true rfl) (show 1 ≤ am_P0.2.2.1 53 from by decide +kernel) rfl (cl_recv (h1.1.s (2, 2) (by decide))) rfl rfl (ck_kind (d := (d + 14)) h1   ) ?_
    rintro v8 S9 ⟨r10, rfl, rfl, h12⟩
    have h12_ : r10.toInt = kd aw S := h12
    show am_E _ _ _ _ [some (.ref 7), some (.int fw), some (.int f), some (.int n), none] [.int r10] _ _
    refine am_e0 hi_145_30 ?_
    by_cases c14 : ¬ r10.toInt = (70 : Int)
    · refine am_e13t hi_145_32 (am_cT (m := r10.toInt) (n := (70 : Int)) rfl (by decide) c14) ?_
      exact hx0 _ f n ⟨h1, h2, ⟨(by show wr S = wr Sb; omega), h4⟩, ⟨h5, h6, (by show fl S = fl Sb; omega)⟩⟩ (by show nx Sb + 0 ≤ nx S; omega) (by show nx S ≤ wr S; omega) (by show lv S = lv Sb + 0; omega) (by show EN S + -10000 * nx S ≤ EN Sb + -10000 * nx Sb + 0; omega) (by show iv S 8 1 = iv Sb 8 1; omega) (by show iv S 10 1 = iv Sb 10 1; omega)
    · refine am_e13f hi_145_32 (am_cF (m := r10.toInt) (n := (70 : Int)) rfl (by decide) c14) ?_
      refine am_e1 (v := n) hi_145_35 rfl ?_
      refine am_e0 hi_145_36 ?_
      by_cases c15 : (16384 : Int) < n.toInt
      · refine am_e13t hi_145_39 (am_cT (m := n.toInt) (n := (16384 : Int)) rfl (by decide) c15) ?_
        exact hx0 _ f n ⟨h1, h2, ⟨(by show wr S = wr Sb; omega), h4⟩, ⟨h5, h6, (by show fl S = fl Sb; omega)⟩⟩ (by show nx Sb + 0 ≤ nx S; omega) (by show nx S ≤ wr S; omega) (by show lv S = lv Sb + 0; omega) (by show EN S + -10000 * nx S ≤ EN Sb + -10000 * nx Sb + 0; omega) (by show iv S 8 1 = iv Sb 8 1; omega) (by show iv S 10 1 = iv Sb 10 1; omega)
      · refine am_e13f hi_145_39 (am_cF (m := n.toInt) (n := (16384 : Int)) rfl (by decide) c15) ?_
        refine am_e2 (v := 7) hi_145_42 rfl ?_
        refine am_e1 (v := f) hi_145_43 rfl ?_
        refine am_e32n (as := [.ref 7, .int f]) (la := [some (.ref 7), some (.int f)]) (rest := []) hi_145_44 (am_hd0 (M := 145) (by decide) 44) (Nat.le_of_ble_eq_true rfl) (Nat.le_of_ble_eq_true rfl) (show 2 ≤ am_P0.2.2.1 100 from by decide +kernel) rfl (cl_recv (h1.1.s (7, 6) (by decide))) rfl rfl (ck_settle (d := (d + 11)) h1   ) ?_
        rintro v16 S17 ⟨rfl, h19, h20, h21, h22⟩
        have h20_ : iv S17 8 1 = iv S 8 1 := h20
        have h21_ : iv S17 10 1 = iv S 10 1 := h21
        have h22_ : iv S17 14 1 = iv S 14 1 := h22
        obtain ⟨h24, h25, ⟨h26, h27, h28, h29⟩, ⟨h30, h31, h32⟩, h34⟩ := h19
        have h35 : kd aw S17 = kd aw S := kd_eq h26 h29
        show am_E _ _ _ _ [some (.ref 7), some (.int fw), some (.int f), some (.int n), none] [] _ _
        refine am_e2 (v := 7) hi_145_47 rfl ?_
        refine am_e32t (as := [.ref 7]) (la := [some (.ref 7), none]) (rest := []) hi_145_48 (am_hd0 (M := 145) (by decide) 48) (Nat.le_of_ble_eq_true rfl) (Nat.le_of_ble_eq_true rfl) (show 1 ≤ am_P0.2.2.1 110 from by decide +kernel) rfl (cl_recv (h24.1.s (7, 6) (by decide))) rfl rfl (ck_fieldStep (d := d) h24   (by show 0 ≤ nx S17; omega) (by show nx S17 ≤ wr S17; omega) (by show wr S17 ≤ 600; omega) (by show 0 ≤ lv S17; omega) (by show lv S17 ≤ 48; omega) (by show kd aw S17 = 70 ∨ kd aw S17 = 68; omega)) (fun S51 h52 => hq S51 (show TH aw 300 Sb S51 from ⟨h52.1, (h2.trans h25).trans h52.2.1, ⟨(by have q := h52.2.2.1.1; omega), h52.2.2.1.2.trans (h29.trans h4)⟩, h52.2.2.2.1, h52.2.2.2.2.1, (by have q := h52.2.2.2.2.2; omega)⟩)) ?_
        rintro v36 S37 ⟨r38, rfl, h39, h40, h41, h42⟩
        have h40_ : nx S17 + 2 ≤ nx S37 := h40
        have h41_ : nx S37 ≤ wr S37 := h41
        have h42_ : lv S37 = lv S17 + 0 := h42
        obtain ⟨h53, h54, ⟨h57, h58⟩, ⟨h59, h60, h61⟩, h62, h63⟩ := h39
        have h64 := h62 8 (h24.1.s (8, 3) (by decide))
        have h65 := h62 10 (h24.1.s (10, 3) (by decide))
        show am_E _ _ _ _ [some (.ref 7), some (.int fw), some (.int f), some (.int n), none] [.int r38] _ _
        refine am_e3 (ls' := [some (.ref 7), some (.int fw), some (.int r38), some (.int n), none]) hi_145_51 (Nat.le_of_ble_eq_true rfl) rfl ?_
        obtain ⟨z66, hz66, tz66⟩ := am_addI (x := n) (y := 1) (m := n.toInt) (n := (1 : Int)) rfl (by decide) (by omega) (by omega)
        refine am_e5 (v := n) (z := z66) (ls' := [some (.ref 7), some (.int fw), some (.int r38), some (.int z66), none]) hi_145_52 rfl hz66 rfl ?_
        refine am_e18 hi_145_55 ?_
        exact ih _ r38 z66 ⟨h53, ((h2.trans h25).trans h54), ⟨(by show wr S37 = wr Sb; omega), (h58.trans (h29.trans h4))⟩, ⟨(h59.trans (h30.trans h5)), (h60.trans (h31.trans h6)), (by show fl S37 = fl Sb; omega)⟩⟩ (by show nx Sb + 0 ≤ nx S37; omega) (by show nx S37 ≤ wr S37; omega) (by show lv S37 = lv Sb + 0; omega) (by show EN S37 + -10000 * nx S37 ≤ EN Sb + -10000 * nx Sb + 0; omega) (by show iv S37 8 1 = iv Sb 8 1; omega) (by show iv S37 10 1 = iv Sb 10 1; omega) (by show 2147483647 - z66.toInt < (N : Int); omega)
theorem cr_funStat {sc : Nat × (Nat → Int32)} {d aw NN : Nat} {S : am_S} (h : SH aw S) (ihR : RC sc aw NN) (hN : 48 - lv S < (NN : Int) + 1) (hd : (30 : Int) * (48 - lv S) ≤ (d : Int)) (p0 : 0 ≤ nx S) (p1 : nx S ≤ wr S) (p2 : wr S ≤ 600) (p3 : 0 ≤ lv S) (p4 : lv S ≤ 48) (p5 : 1 ≤ iv S 13 1) (p6 : iv S 13 1 ≤ lv S + 1) (p7 : iv S 5 1 ≤ nx S + 1) (p8 : kd aw S = 18) : am_E (am_PP sc) (d + 16) 145 0 [some (.ref 7), none, none, none, none] [] S (am_T (fun v S1 => v = none ∧ Ad aw S S1 ∧ (nx S + 1 ≤ nx S1) ∧ (nx S1 ≤ wr S1) ∧ (lv S1 = lv S + 0) ∧ (EN S1 + -10000 * nx S1 ≤ EN S + -10000 * nx S + (-5000)) ∧ (iv S 8 1 ≤ iv S1 8 1) ∧ (iv S 10 1 ≤ iv S1 10 1)) (fun S1 => TH aw 2000 S S1)) := by
  refine am_e2 (v := 7) hi_145_0 rfl ?_
  refine cm_20f (r := 2) h hi_145_1 (h.1.s (7, 6) (by decide)) (by decide) rfl ?_
  refine am_e32x (as := [.ref 2]) (la := [some (.ref 2)]) (rest := []) hi_145_4 (am_hd0 (M := 145) (by decide) 4) (Nat.le_of_ble_eq_true rfl) (Nat.le_of_ble_eq_true rfl) (show 1 ≤ am_P0.2.2.1 63 from by decide +kernel) rfl (cl_recv (h.1.s (2, 2) (by decide))) rfl rfl ?_
  refine am_e2 (v := 2) hi_63_0 rfl ?_
  refine cm_20i h hi_63_1 (h.1.s (2, 2) (by decide)) (by decide) rfl fun v1 hv1 => ?_
  have hv1_ : v1.toInt = nx S := hv1
  refine am_e33 hi_63_4 ?_
  show am_E _ _ _ _ [some (.ref 7), none, none, none, none] [.int v1] _ _
  refine am_e3 (ls' := [some (.ref 7), some (.int v1), none, none, none]) hi_145_7 (Nat.le_of_ble_eq_true rfl) rfl ?_
  refine am_e2 (v := 7) hi_145_8 rfl ?_
  refine cm_20f (r := 2) h hi_145_9 (h.1.s (7, 6) (by decide)) (by decide) rfl ?_
  refine am_e32t (as := [.ref 2]) (la := [some (.ref 2), none]) (rest := []) hi_145_12 (am_hd0 (M := 145) (by decide) 12) (Nat.le_of_ble_eq_true rfl) (Nat.le_of_ble_eq_true rfl) (show 1 ≤ am_P0.2.2.1 55 from by decide +kernel) rfl (cl_recv (h.1.s (2, 2) (by decide))) rfl rfl (ck_skip (d := (d + 2)) h   (by show 0 ≤ nx S; omega) (by show nx S ≤ wr S; omega) (by show wr S ≤ 600; omega) (by show 0 ≤ lv S; omega) (by show lv S ≤ 48; omega) (by show kd aw S ≠ 0; omega)) (fun S18 h19 => (show TH aw 2000 S S18 from ⟨h19.1, (Ex.refl S).trans h19.2.1, ⟨(by have q := h19.2.2.1.1; omega), h19.2.2.1.2.trans rfl⟩, h19.2.2.2.1, h19.2.2.2.2.1, (by have q := h19.2.2.2.2.2; omega)⟩)) ?_
  rintro v2 S3 ⟨r4, rfl, h5, h6, h7, h8, h9⟩
  have h6_ : nx S3 = nx S + 1 := h6
  have h7_ : lv S3 = lv S + c_dl (kd aw S) := h7
  have h8_ : lv S3 ≤ 48 := h8
  have h9_ : nx S3 ≤ wr S3 := h9
  obtain ⟨h20, h21, ⟨h24, h25⟩, ⟨h26, h27, h28⟩, h29, h30⟩ := h5
  have h31 := h29 8 (h.1.s (8, 3) (by decide))
  have h32 := h29 10 (h.1.s (10, 3) (by decide))
  have h33 := os_5 h26 1
  have h34 := os_13 h26 1
  have h35 : c_dl (kd aw S) = 1 := by unfold c_dl; split <;> split <;> omega
  show am_E _ _ _ _ [some (.ref 7), some (.int v1), none, none, none] [.int r4] _ _
  refine am_e6i hi_145_15 ?_
  refine am_e2 (v := 7) hi_145_16 rfl ?_
  refine am_e32t (as := [.ref 7]) (la := [some (.ref 7)]) (rest := []) hi_145_17 (am_hd0 (M := 145) (by decide) 17) (Nat.le_of_ble_eq_true rfl) (Nat.le_of_ble_eq_true rfl) (show 1 ≤ am_P0.2.2.1 62 from by decide +kernel) rfl (cl_recv (h20.1.s (7, 6) (by decide))) rfl rfl (ck_nameAlone (d := d) h20   (by show 0 ≤ nx S3; omega) (by show nx S3 ≤ wr S3; omega) (by show wr S3 ≤ 600; omega) (by show 0 ≤ lv S3; omega) (by show lv S3 ≤ 48; omega) (by show iv S3 13 1 ≤ 49; omega) (by show 0 ≤ iv S3 13 1; omega)) (fun S55 h56 => (show TH aw 2000 S S55 from ⟨h56.1, h21.trans h56.2.1, ⟨(by have q := h56.2.2.1.1; omega), h56.2.2.1.2.trans h25⟩, h56.2.2.2.1, h56.2.2.2.2.1, (by have q := h56.2.2.2.2.2; omega)⟩)) ?_
  rintro v36 S37 ⟨r38, rfl, h39, h40, h41, h42, h43, h44, h45, h46⟩
  have h40_ : nx S3 + 1 ≤ nx S37 := h40
  have h41_ : nx S37 ≤ wr S37 := h41
  have h42_ : lv S37 = lv S3 + 0 := h42
  have h43_ : EN S37 + -10000 * nx S37 ≤ EN S3 + -10000 * nx S3 + (-2160) := h43
  have h44_ : iv S37 8 1 = iv S3 8 1 := h44
  have h45_ : iv S37 10 1 = iv S3 10 1 := h45
  have h46_ : iv S37 14 1 = iv S3 14 1 := h46
  obtain ⟨h57, h58, ⟨h59, h60⟩, ⟨h61, h62, h63⟩⟩ := h39
  have h64 := os_5 h61 1
  have h65 := os_13 h61 1
  show am_E _ _ _ _ [some (.ref 7), some (.int v1), none, none, none] [.int r38] _ _
  refine am_e3 (ls' := [some (.ref 7), some (.int v1), some (.int r38), none, none]) hi_145_20 (Nat.le_of_ble_eq_true rfl) rfl ?_
  refine am_e0 hi_145_21 ?_
  refine am_e3 (ls' := [some (.ref 7), some (.int v1), some (.int r38), some (.int 0), none]) hi_145_22 (Nat.le_of_ble_eq_true rfl) rfl ?_
  refine cf_funNames (d := d) (Sb := S37) (fw := v1) h57   (by show 0 ≤ nx S37; omega) (by show nx S37 ≤ wr S37; omega) (by show wr S37 ≤ 600; omega) (by show 0 ≤ lv S37; omega) (by show lv S37 ≤ 48; omega) (fun S66 h67 => (show TH aw 2000 S S66 from ⟨h67.1, (h21.trans h58).trans h67.2.1, ⟨(by have q := h67.2.2.1.1; omega), h67.2.2.1.2.trans (h60.trans h25)⟩, h67.2.2.2.1, h67.2.2.2.2.1, (by have q := h67.2.2.2.2.2; omega)⟩)) ?_ ((2147483647 - (0 : Int)).toNat + 1) S37 r38 0 ⟨h57, Ex.refl _, ⟨rfl, rfl⟩, ⟨rfl, rfl, rfl⟩⟩ (by show nx S37 + 0 ≤ nx S37; omega) (by show nx S37 ≤ wr S37; omega) (by show lv S37 = lv S37 + 0; omega) (by show EN S37 + -10000 * nx S37 ≤ EN S37 + -10000 * nx S37 + 0; omega) (by show iv S37 8 1 = iv S37 8 1; omega) (by show iv S37 10 1 = iv S37 10 1; omega) (by show 2147483647 - (0 : Int) < _; omega)
  · intro S70 f68 n69 h71 h72 h73 h74 h75 h76 h77
    have h72_ : nx S37 + 0 ≤ nx S70 := h72
    have h73_ : nx S70 ≤ wr S70 := h73
    have h74_ : lv S70 = lv S37 + 0 := h74
    have h75_ : EN S70 + -10000 * nx S70 ≤ EN S37 + -10000 * nx S37 + 0 := h75
    have h76_ : iv S70 8 1 = iv S37 8 1 := h76
    have h77_ : iv S70 10 1 = iv S37 10 1 := h77
    obtain ⟨h78, h79, ⟨h80, h81⟩, ⟨h82, h83, h84⟩⟩ := h71
    have h85 := os_5 h82 1
    have h86 := os_13 h82 1
    show am_E _ _ _ _ [some (.ref 7), some (.int v1), some (.int f68), some (.int n69), none] [] _ _
    refine am_e2 (v := 7) hi_145_58 rfl ?_
    refine cm_20f (r := 2) h78 hi_145_59 (h78.1.s (7, 6) (by decide)) (by decide) rfl ?_
    refine am_e32n (as := [.ref 2]) (la := [some (.ref 2)]) (rest := []) hi_145_62 (am_hd0 (M := 145) (by decide) 62) (Nat.le_of_ble_eq_true rfl) (Nat.le_of_ble_eq_true rfl) (show 1 ≤ am_P0.2.2.1 53 from by decide +kernel) rfl (cl_recv (h78.1.s (2, 2) (by decide))) rfl rfl (ck_kind (d := (d + 14)) h78   ) ?_
    rintro v87 S88 ⟨r89, rfl, rfl, h91⟩
    have h91_ : r89.toInt = kd aw S70 := h91
    show am_E _ _ _ _ [some (.ref 7), some (.int v1), some (.int f68), some (.int n69), none] [.int r89] _ _
    refine am_e0 hi_145_65 ?_
    by_cases c93 : ¬ r89.toInt = (68 : Int)
    · refine am_e13t hi_145_67 (am_cT (m := r89.toInt) (n := (68 : Int)) rfl (by decide) c93) ?_
      refine am_e0 hi_145_74 ?_
      refine am_e3 (ls' := [some (.ref 7), some (.int v1), some (.int f68), some (.int 0), none]) hi_145_75 (Nat.le_of_ble_eq_true rfl) rfl ?_
      refine am_e1 (v := 0) hi_145_76 rfl ?_
      refine am_e12t hi_145_77 (by decide) ?_
      refine am_e2 (v := 7) hi_145_90 rfl ?_
      refine cm_20f (r := 10) h78 hi_145_91 (h78.1.s (7, 6) (by decide)) (by decide) rfl ?_
      refine am_e32n (as := [.ref 10]) (la := [some (.ref 10)]) (rest := []) hi_145_94 (am_hd0 (M := 145) (by decide) 94) (Nat.le_of_ble_eq_true rfl) (Nat.le_of_ble_eq_true rfl) (show 1 ≤ am_P0.2.2.1 36 from by decide +kernel) rfl (cl_recv (h78.1.s (10, 3) (by decide))) rfl rfl (ck_rows (d := (d + 15)) h78 (h78.1.s (10, 3) (by decide))  ) ?_
      rintro v94 S95 ⟨r96, rfl, rfl, h98, h99, h100⟩
      have h98_ : r96.toInt = iv S70 10 1 := h98
      have h99_ : 0 ≤ r96.toInt := h99
      have h100_ : r96.toInt ≤ 2097154 := h100
      show am_E _ _ _ _ [some (.ref 7), some (.int v1), some (.int f68), some (.int 0), none] [.int r96] _ _
      refine am_e3 (ls' := [some (.ref 7), some (.int v1), some (.int f68), some (.int 0), some (.int r96)]) hi_145_97 (Nat.le_of_ble_eq_true rfl) rfl ?_
      refine am_e2 (v := 7) hi_145_99 rfl ?_
      refine am_e1 (v := f68) hi_145_100 rfl ?_
      refine am_e32t (as := [.ref 7, .int f68]) (la := [some (.ref 7), some (.int f68)]) (rest := []) hi_145_101 (am_hd0 (M := 145) (by decide) 101) (Nat.le_of_ble_eq_true rfl) (Nat.le_of_ble_eq_true rfl) (show 2 ≤ am_P0.2.2.1 113 from by decide +kernel) rfl (cl_recv (h78.1.s (7, 6) (by decide))) rfl rfl (ck_addTarget (d := (d + 2)) h78   (by show 0 ≤ nx S70; omega) (by show nx S70 ≤ wr S70; omega)) (fun S117 h118 => (show TH aw 2000 S S117 from ⟨h118.1, ((h21.trans h58).trans h79).trans h118.2.1, ⟨(by have q := h118.2.2.1.1; omega), h118.2.2.1.2.trans (h81.trans (h60.trans h25))⟩, h118.2.2.2.1, h118.2.2.2.2.1, (by have q := h118.2.2.2.2.2; omega)⟩)) ?_
      rintro v102 S103 ⟨rfl, h105, h106, h107, h108⟩
      have h106_ : iv S103 8 1 = iv S70 8 1 := h106
      have h107_ : iv S103 14 1 = iv S70 14 1 := h107
      have h108_ : iv S70 10 1 ≤ iv S103 10 1 := h108
      obtain ⟨h119, h120, ⟨h121, h122, h123, h124⟩, ⟨h125, h126, h127⟩, h129⟩ := h105
      have h130 : kd aw S103 = kd aw S70 := kd_eq h121 h124
      have h131 := os_5 h125 1
      have h132 := os_13 h125 1
      show am_E _ _ _ _ [some (.ref 7), some (.int v1), some (.int f68), some (.int 0), some (.int r96)] [] _ _
      refine am_e2 (v := 7) hi_145_104 rfl ?_
      refine am_e1 (v := v1) hi_145_105 rfl ?_
      refine am_e1 (v := 0) hi_145_106 rfl ?_
      refine am_e32q (d1 := d - 30 + 23 + 22) (by omega) (as := [.ref 7, .int v1, .int 0]) (la := [some (.ref 7), some (.int v1), some (.int 0), none, none, none]) (rest := []) hi_145_107 (am_hd0 (M := 145) (by decide) 107) (Nat.le_of_ble_eq_true rfl) (Nat.le_of_ble_eq_true rfl) (show 3 ≤ am_P0.2.2.1 73 from by decide +kernel) rfl (cl_recv (h119.1.s (7, 6) (by decide))) rfl rfl (rc_73 ihR (d - 30 + 23) _ v1 0 h119 (by decide) (by show 48 - lv S103 < (NN : Int); omega) (by show (30 : Int) * (48 - lv S103) ≤ ((d - 30 + 23 : Nat) : Int); omega) (by show 0 ≤ nx S103; omega) (by show nx S103 ≤ wr S103; omega) (by show wr S103 ≤ 600; omega) (by show 0 ≤ lv S103; omega) (by show lv S103 ≤ 48; omega) (by show 1 ≤ iv S103 13 1; omega) (by show iv S103 13 1 ≤ lv S103 + 0; omega) (by show iv S103 5 1 ≤ nx S103 + 1; omega)) (fun S144 h145 => (show TH aw 2000 S S144 from ⟨h145.1, (((h21.trans h58).trans h79).trans h120).trans h145.2.1, ⟨(by have q := h145.2.2.1.1; omega), h145.2.2.1.2.trans (h124.trans (h81.trans (h60.trans h25)))⟩, h145.2.2.2.1, h145.2.2.2.2.1, (by have q := h145.2.2.2.2.2; omega)⟩)) ?_
      rintro v133 S134 ⟨rfl, h136, h137, h138, h139, h140, h141, h142⟩
      have h137_ : nx S103 + 1 ≤ nx S134 := h137
      have h138_ : nx S134 ≤ wr S134 := h138
      have h139_ : lv S134 = lv S103 + (-1) := h139
      have h140_ : EN S134 + -10000 * nx S134 ≤ EN S103 + -10000 * nx S103 + (-15000) := h140
      have h141_ : iv S103 8 1 ≤ iv S134 8 1 := h141
      have h142_ : iv S103 10 1 ≤ iv S134 10 1 := h142
      obtain ⟨h146, h147, ⟨h150, h151⟩, ⟨h152, h153⟩⟩ := h136
      show am_E _ _ _ _ [some (.ref 7), some (.int v1), some (.int f68), some (.int 0), some (.int r96)] [] _ _
      refine am_e2 (v := 7) hi_145_110 rfl ?_
      refine am_e1 (v := r96) hi_145_111 rfl ?_
      refine am_e32n (as := [.ref 7, .int r96]) (la := [some (.ref 7), some (.int r96), none, none, none]) (rest := []) hi_145_113 (am_hd0 (M := 145) (by decide) 113) (Nat.le_of_ble_eq_true rfl) (Nat.le_of_ble_eq_true rfl) (show 2 ≤ am_P0.2.2.1 118 from by decide +kernel) rfl (cl_recv (h146.1.s (7, 6) (by decide))) rfl rfl (ck_store (d := (d + 11)) h146   (by show 0 ≤ r96.toInt; omega) (by show r96.toInt ≤ iv S134 10 1; omega)) ?_
      rintro v157 S158 ⟨rfl, h160, h161, h162, h163, h164⟩
      have h161_ : iv S158 10 1 = r96.toInt := h161
      have h162_ : EN S158 ≤ EN S134 + 160 + -160 * iv S134 10 1 + 160 * r96.toInt := h162
      have h163_ : iv S158 8 1 = iv S134 8 1 := h163
      have h164_ : iv S158 14 1 = iv S134 14 1 := h164
      obtain ⟨h166, h167, ⟨h168, h169, h170, h171⟩, ⟨h172, h173, h174⟩⟩ := h160
      have h177 : kd aw S158 = kd aw S134 := kd_eq h168 h171
      have h178 := os_5 h172 1
      have h179 := os_13 h172 1
      show am_E _ _ _ _ [some (.ref 7), some (.int v1), some (.int f68), some (.int 0), some (.int r96)] [] _ _
      refine am_e35 hi_145_116 ?_
      exact ⟨rfl, ⟨h166, (((((h21.trans h58).trans h79).trans h120).trans h147).trans h167), ⟨(by show wr S158 = wr S; omega), (h171.trans (h151.trans (h124.trans (h81.trans (h60.trans h25)))))⟩, ⟨(by show iv S158 13 1 = iv S 13 1; omega), (by show iv S158 5 1 - nx S158 ≤ iv S 5 1 - nx S; omega)⟩⟩, (by show nx S + 1 ≤ nx S158; omega), (by show nx S158 ≤ wr S158; omega), (by show lv S158 = lv S + 0; omega), (by show EN S158 + -10000 * nx S158 ≤ EN S + -10000 * nx S + (-5000); omega), (by show iv S 8 1 ≤ iv S158 8 1; omega), (by show iv S 10 1 ≤ iv S158 10 1; omega)⟩
    · refine am_e13f hi_145_67 (am_cF (m := r89.toInt) (n := (68 : Int)) rfl (by decide) c93) ?_
      refine am_e0 hi_145_70 ?_
      refine am_e18 hi_145_71 ?_
      refine am_e3 (ls' := [some (.ref 7), some (.int v1), some (.int f68), some (.int 1), none]) hi_145_75 (Nat.le_of_ble_eq_true rfl) rfl ?_
      refine am_e1 (v := 1) hi_145_76 rfl ?_
      refine am_e12f hi_145_77 (by decide) ?_
      refine am_e2 (v := 7) hi_145_80 rfl ?_
      refine am_e1 (v := f68) hi_145_81 rfl ?_
      refine am_e32n (as := [.ref 7, .int f68]) (la := [some (.ref 7), some (.int f68)]) (rest := []) hi_145_82 (am_hd0 (M := 145) (by decide) 82) (Nat.le_of_ble_eq_true rfl) (Nat.le_of_ble_eq_true rfl) (show 2 ≤ am_P0.2.2.1 100 from by decide +kernel) rfl (cl_recv (h78.1.s (7, 6) (by decide))) rfl rfl (ck_settle (d := (d + 11)) h78   ) ?_
      rintro v180 S181 ⟨rfl, h183, h184, h185, h186⟩
      have h184_ : iv S181 8 1 = iv S70 8 1 := h184
      have h185_ : iv S181 10 1 = iv S70 10 1 := h185
      have h186_ : iv S181 14 1 = iv S70 14 1 := h186
      obtain ⟨h188, h189, ⟨h190, h191, h192, h193⟩, ⟨h194, h195, h196⟩, h198⟩ := h183
      have h199 : kd aw S181 = kd aw S70 := kd_eq h190 h193
      have h200 := os_5 h194 1
      have h201 := os_13 h194 1
      show am_E _ _ _ _ [some (.ref 7), some (.int v1), some (.int f68), some (.int 1), none] [] _ _
      refine am_e2 (v := 7) hi_145_85 rfl ?_
      refine am_e32t (as := [.ref 7]) (la := [some (.ref 7), none]) (rest := []) hi_145_86 (am_hd0 (M := 145) (by decide) 86) (Nat.le_of_ble_eq_true rfl) (Nat.le_of_ble_eq_true rfl) (show 1 ≤ am_P0.2.2.1 110 from by decide +kernel) rfl (cl_recv (h188.1.s (7, 6) (by decide))) rfl rfl (ck_fieldStep (d := d) h188   (by show 0 ≤ nx S181; omega) (by show nx S181 ≤ wr S181; omega) (by show wr S181 ≤ 600; omega) (by show 0 ≤ lv S181; omega) (by show lv S181 ≤ 48; omega) (by show kd aw S181 = 70 ∨ kd aw S181 = 68; omega)) (fun S217 h218 => (show TH aw 2000 S S217 from ⟨h218.1, (((h21.trans h58).trans h79).trans h189).trans h218.2.1, ⟨(by have q := h218.2.2.1.1; omega), h218.2.2.1.2.trans (h193.trans (h81.trans (h60.trans h25)))⟩, h218.2.2.2.1, h218.2.2.2.2.1, (by have q := h218.2.2.2.2.2; omega)⟩)) ?_
      rintro v202 S203 ⟨r204, rfl, h205, h206, h207, h208⟩
      have h206_ : nx S181 + 2 ≤ nx S203 := h206
      have h207_ : nx S203 ≤ wr S203 := h207
      have h208_ : lv S203 = lv S181 + 0 := h208
      obtain ⟨h219, h220, ⟨h223, h224⟩, ⟨h225, h226, h227⟩, h228, h229⟩ := h205
      have h230 := h228 8 (h188.1.s (8, 3) (by decide))
      have h231 := h228 10 (h188.1.s (10, 3) (by decide))
      have h232 := os_5 h225 1
      have h233 := os_13 h225 1
      show am_E _ _ _ _ [some (.ref 7), some (.int v1), some (.int f68), some (.int 1), none] [.int r204] _ _
      refine am_e3 (ls' := [some (.ref 7), some (.int v1), some (.int r204), some (.int 1), none]) hi_145_89 (Nat.le_of_ble_eq_true rfl) rfl ?_
      refine am_e2 (v := 7) hi_145_90 rfl ?_
      refine cm_20f (r := 10) h219 hi_145_91 (h219.1.s (7, 6) (by decide)) (by decide) rfl ?_
      refine am_e32n (as := [.ref 10]) (la := [some (.ref 10)]) (rest := []) hi_145_94 (am_hd0 (M := 145) (by decide) 94) (Nat.le_of_ble_eq_true rfl) (Nat.le_of_ble_eq_true rfl) (show 1 ≤ am_P0.2.2.1 36 from by decide +kernel) rfl (cl_recv (h219.1.s (10, 3) (by decide))) rfl rfl (ck_rows (d := (d + 15)) h219 (h219.1.s (10, 3) (by decide))  ) ?_
      rintro v234 S235 ⟨r236, rfl, rfl, h238, h239, h240⟩
      have h238_ : r236.toInt = iv S203 10 1 := h238
      have h239_ : 0 ≤ r236.toInt := h239
      have h240_ : r236.toInt ≤ 2097154 := h240
      show am_E _ _ _ _ [some (.ref 7), some (.int v1), some (.int r204), some (.int 1), none] [.int r236] _ _
      refine am_e3 (ls' := [some (.ref 7), some (.int v1), some (.int r204), some (.int 1), some (.int r236)]) hi_145_97 (Nat.le_of_ble_eq_true rfl) rfl ?_
      refine am_e2 (v := 7) hi_145_99 rfl ?_
      refine am_e1 (v := r204) hi_145_100 rfl ?_
      refine am_e32t (as := [.ref 7, .int r204]) (la := [some (.ref 7), some (.int r204)]) (rest := []) hi_145_101 (am_hd0 (M := 145) (by decide) 101) (Nat.le_of_ble_eq_true rfl) (Nat.le_of_ble_eq_true rfl) (show 2 ≤ am_P0.2.2.1 113 from by decide +kernel) rfl (cl_recv (h219.1.s (7, 6) (by decide))) rfl rfl (ck_addTarget (d := (d + 2)) h219   (by show 0 ≤ nx S203; omega) (by show nx S203 ≤ wr S203; omega)) (fun S257 h258 => (show TH aw 2000 S S257 from ⟨h258.1, ((((h21.trans h58).trans h79).trans h189).trans h220).trans h258.2.1, ⟨(by have q := h258.2.2.1.1; omega), h258.2.2.1.2.trans (h224.trans (h193.trans (h81.trans (h60.trans h25))))⟩, h258.2.2.2.1, h258.2.2.2.2.1, (by have q := h258.2.2.2.2.2; omega)⟩)) ?_
      rintro v242 S243 ⟨rfl, h245, h246, h247, h248⟩
      have h246_ : iv S243 8 1 = iv S203 8 1 := h246
      have h247_ : iv S243 14 1 = iv S203 14 1 := h247
      have h248_ : iv S203 10 1 ≤ iv S243 10 1 := h248
      obtain ⟨h259, h260, ⟨h261, h262, h263, h264⟩, ⟨h265, h266, h267⟩, h269⟩ := h245
      have h270 : kd aw S243 = kd aw S203 := kd_eq h261 h264
      have h271 := os_5 h265 1
      have h272 := os_13 h265 1
      show am_E _ _ _ _ [some (.ref 7), some (.int v1), some (.int r204), some (.int 1), some (.int r236)] [] _ _
      refine am_e2 (v := 7) hi_145_104 rfl ?_
      refine am_e1 (v := v1) hi_145_105 rfl ?_
      refine am_e1 (v := 1) hi_145_106 rfl ?_
      refine am_e32q (d1 := d - 30 + 23 + 22) (by omega) (as := [.ref 7, .int v1, .int 1]) (la := [some (.ref 7), some (.int v1), some (.int 1), none, none, none]) (rest := []) hi_145_107 (am_hd0 (M := 145) (by decide) 107) (Nat.le_of_ble_eq_true rfl) (Nat.le_of_ble_eq_true rfl) (show 3 ≤ am_P0.2.2.1 73 from by decide +kernel) rfl (cl_recv (h259.1.s (7, 6) (by decide))) rfl rfl (rc_73 ihR (d - 30 + 23) _ v1 1 h259 (by decide) (by show 48 - lv S243 < (NN : Int); omega) (by show (30 : Int) * (48 - lv S243) ≤ ((d - 30 + 23 : Nat) : Int); omega) (by show 0 ≤ nx S243; omega) (by show nx S243 ≤ wr S243; omega) (by show wr S243 ≤ 600; omega) (by show 0 ≤ lv S243; omega) (by show lv S243 ≤ 48; omega) (by show 1 ≤ iv S243 13 1; omega) (by show iv S243 13 1 ≤ lv S243 + 0; omega) (by show iv S243 5 1 ≤ nx S243 + 1; omega)) (fun S284 h285 => (show TH aw 2000 S S284 from ⟨h285.1, (((((h21.trans h58).trans h79).trans h189).trans h220).trans h260).trans h285.2.1, ⟨(by have q := h285.2.2.1.1; omega), h285.2.2.1.2.trans (h264.trans (h224.trans (h193.trans (h81.trans (h60.trans h25)))))⟩, h285.2.2.2.1, h285.2.2.2.2.1, (by have q := h285.2.2.2.2.2; omega)⟩)) ?_
      rintro v273 S274 ⟨rfl, h276, h277, h278, h279, h280, h281, h282⟩
      have h277_ : nx S243 + 1 ≤ nx S274 := h277
      have h278_ : nx S274 ≤ wr S274 := h278
      have h279_ : lv S274 = lv S243 + (-1) := h279
      have h280_ : EN S274 + -10000 * nx S274 ≤ EN S243 + -10000 * nx S243 + (-15000) := h280
      have h281_ : iv S243 8 1 ≤ iv S274 8 1 := h281
      have h282_ : iv S243 10 1 ≤ iv S274 10 1 := h282
      obtain ⟨h286, h287, ⟨h290, h291⟩, ⟨h292, h293⟩⟩ := h276
      show am_E _ _ _ _ [some (.ref 7), some (.int v1), some (.int r204), some (.int 1), some (.int r236)] [] _ _
      refine am_e2 (v := 7) hi_145_110 rfl ?_
      refine am_e1 (v := r236) hi_145_111 rfl ?_
      refine am_e32n (as := [.ref 7, .int r236]) (la := [some (.ref 7), some (.int r236), none, none, none]) (rest := []) hi_145_113 (am_hd0 (M := 145) (by decide) 113) (Nat.le_of_ble_eq_true rfl) (Nat.le_of_ble_eq_true rfl) (show 2 ≤ am_P0.2.2.1 118 from by decide +kernel) rfl (cl_recv (h286.1.s (7, 6) (by decide))) rfl rfl (ck_store (d := (d + 11)) h286   (by show 0 ≤ r236.toInt; omega) (by show r236.toInt ≤ iv S274 10 1; omega)) ?_
      rintro v297 S298 ⟨rfl, h300, h301, h302, h303, h304⟩
      have h301_ : iv S298 10 1 = r236.toInt := h301
      have h302_ : EN S298 ≤ EN S274 + 160 + -160 * iv S274 10 1 + 160 * r236.toInt := h302
      have h303_ : iv S298 8 1 = iv S274 8 1 := h303
      have h304_ : iv S298 14 1 = iv S274 14 1 := h304
      obtain ⟨h306, h307, ⟨h308, h309, h310, h311⟩, ⟨h312, h313, h314⟩⟩ := h300
      have h317 : kd aw S298 = kd aw S274 := kd_eq h308 h311
      have h318 := os_5 h312 1
      have h319 := os_13 h312 1
      show am_E _ _ _ _ [some (.ref 7), some (.int v1), some (.int r204), some (.int 1), some (.int r236)] [] _ _
      refine am_e35 hi_145_116 ?_
      exact ⟨rfl, ⟨h306, (((((((h21.trans h58).trans h79).trans h189).trans h220).trans h260).trans h287).trans h307), ⟨(by show wr S298 = wr S; omega), (h311.trans (h291.trans (h264.trans (h224.trans (h193.trans (h81.trans (h60.trans h25)))))))⟩, ⟨(by show iv S298 13 1 = iv S 13 1; omega), (by show iv S298 5 1 - nx S298 ≤ iv S 5 1 - nx S; omega)⟩⟩, (by show nx S + 1 ≤ nx S298; omega), (by show nx S298 ≤ wr S298; omega), (by show lv S298 = lv S + 0; omega), (by show EN S298 + -10000 * nx S298 ≤ EN S + -10000 * nx S + (-5000); omega), (by show iv S 8 1 ≤ iv S298 8 1; omega), (by show iv S 10 1 ≤ iv S298 10 1; omega)⟩
theorem cr_localFun {sc : Nat × (Nat → Int32)} {d aw NN : Nat} {S : am_S} (h : SH aw S) (ihR : RC sc aw NN) (hN : 48 - lv S < (NN : Int) + 1) (hd : (30 : Int) * (48 - lv S) ≤ (d : Int)) (p0 : 0 ≤ nx S) (p1 : nx S ≤ wr S) (p2 : wr S ≤ 600) (p3 : 0 ≤ lv S) (p4 : lv S ≤ 48) (p5 : 1 ≤ iv S 13 1) (p6 : iv S 13 1 ≤ lv S + 1) (p7 : iv S 5 1 ≤ nx S + 1) (p8 : kd aw S = 22) (p9 : kA aw S (nx S + 1) = 18) : am_E (am_PP sc) (d + 15) 146 0 [some (.ref 7), none, none, none, none, none] [] S (am_T (fun v S1 => v = none ∧ Ad aw S S1 ∧ (nx S + 1 ≤ nx S1) ∧ (nx S1 ≤ wr S1) ∧ (lv S1 = lv S + 0) ∧ (EN S1 + -10000 * nx S1 ≤ EN S + -10000 * nx S + (-5000)) ∧ (iv S 8 1 ≤ iv S1 8 1) ∧ (iv S 10 1 ≤ iv S1 10 1)) (fun S1 => TH aw 2000 S S1)) := by
  refine am_e2 (v := 7) hi_146_0 rfl ?_
  refine cm_20f (r := 2) h hi_146_1 (h.1.s (7, 6) (by decide)) (by decide) rfl ?_
  refine am_e32x (as := [.ref 2]) (la := [some (.ref 2)]) (rest := []) hi_146_4 (am_hd0 (M := 146) (by decide) 4) (Nat.le_of_ble_eq_true rfl) (Nat.le_of_ble_eq_true rfl) (show 1 ≤ am_P0.2.2.1 63 from by decide +kernel) rfl (cl_recv (h.1.s (2, 2) (by decide))) rfl rfl ?_
  refine am_e2 (v := 2) hi_63_0 rfl ?_
  refine cm_20i h hi_63_1 (h.1.s (2, 2) (by decide)) (by decide) rfl fun v1 hv1 => ?_
  have hv1_ : v1.toInt = nx S := hv1
  refine am_e33 hi_63_4 ?_
  show am_E _ _ _ _ [some (.ref 7), none, none, none, none, none] [.int v1] _ _
  refine am_e3 (ls' := [some (.ref 7), some (.int v1), none, none, none, none]) hi_146_7 (Nat.le_of_ble_eq_true rfl) rfl ?_
  refine am_e2 (v := 7) hi_146_8 rfl ?_
  refine cm_20f (r := 2) h hi_146_9 (h.1.s (7, 6) (by decide)) (by decide) rfl ?_
  refine am_e32t (as := [.ref 2]) (la := [some (.ref 2), none]) (rest := []) hi_146_12 (am_hd0 (M := 146) (by decide) 12) (Nat.le_of_ble_eq_true rfl) (Nat.le_of_ble_eq_true rfl) (show 1 ≤ am_P0.2.2.1 55 from by decide +kernel) rfl (cl_recv (h.1.s (2, 2) (by decide))) rfl rfl (ck_skip (d := (d + 1)) h   (by show 0 ≤ nx S; omega) (by show nx S ≤ wr S; omega) (by show wr S ≤ 600; omega) (by show 0 ≤ lv S; omega) (by show lv S ≤ 48; omega) (by show kd aw S ≠ 0; omega)) (fun S18 h19 => (show TH aw 2000 S S18 from ⟨h19.1, (Ex.refl S).trans h19.2.1, ⟨(by have q := h19.2.2.1.1; omega), h19.2.2.1.2.trans rfl⟩, h19.2.2.2.1, h19.2.2.2.2.1, (by have q := h19.2.2.2.2.2; omega)⟩)) ?_
  rintro v2 S3 ⟨r4, rfl, h5, h6, h7, h8, h9⟩
  have h6_ : nx S3 = nx S + 1 := h6
  have h7_ : lv S3 = lv S + c_dl (kd aw S) := h7
  have h8_ : lv S3 ≤ 48 := h8
  have h9_ : nx S3 ≤ wr S3 := h9
  obtain ⟨h20, h21, ⟨h24, h25⟩, ⟨h26, h27, h28⟩, h29, h30⟩ := h5
  have h31 := h29 8 (h.1.s (8, 3) (by decide))
  have h32 := h29 10 (h.1.s (10, 3) (by decide))
  have h33 := os_5 h26 1
  have h34 := os_13 h26 1
  have h35 : c_dl (kd aw S) = 0 := by unfold c_dl; split <;> split <;> omega
  have h36 : kd aw S3 = kA aw S (nx S + 1) := by unfold kd; rw [h25, show nx S3 = nx S + 1 from by omega]
  show am_E _ _ _ _ [some (.ref 7), some (.int v1), none, none, none, none] [.int r4] _ _
  refine am_e6i hi_146_15 ?_
  refine am_e2 (v := 7) hi_146_16 rfl ?_
  refine cm_20f (r := 2) h20 hi_146_17 (h20.1.s (7, 6) (by decide)) (by decide) rfl ?_
  refine am_e32x (as := [.ref 2]) (la := [some (.ref 2)]) (rest := []) hi_146_20 (am_hd0 (M := 146) (by decide) 20) (Nat.le_of_ble_eq_true rfl) (Nat.le_of_ble_eq_true rfl) (show 1 ≤ am_P0.2.2.1 63 from by decide +kernel) rfl (cl_recv (h20.1.s (2, 2) (by decide))) rfl rfl ?_
  refine am_e2 (v := 2) hi_63_0 rfl ?_
  refine cm_20i h20 hi_63_1 (h20.1.s (2, 2) (by decide)) (by decide) rfl fun v37 hv37 => ?_
  have hv37_ : v37.toInt = nx S3 := hv37
  refine am_e33 hi_63_4 ?_
  show am_E _ _ _ _ [some (.ref 7), some (.int v1), none, none, none, none] [.int v37] _ _
  refine am_e3 (ls' := [some (.ref 7), some (.int v1), some (.int v37), none, none, none]) hi_146_23 (Nat.le_of_ble_eq_true rfl) rfl ?_
  refine am_e2 (v := 7) hi_146_24 rfl ?_
  refine cm_20f (r := 2) h20 hi_146_25 (h20.1.s (7, 6) (by decide)) (by decide) rfl ?_
  refine am_e32t (as := [.ref 2]) (la := [some (.ref 2), none]) (rest := []) hi_146_28 (am_hd0 (M := 146) (by decide) 28) (Nat.le_of_ble_eq_true rfl) (Nat.le_of_ble_eq_true rfl) (show 1 ≤ am_P0.2.2.1 55 from by decide +kernel) rfl (cl_recv (h20.1.s (2, 2) (by decide))) rfl rfl (ck_skip (d := (d + 1)) h20   (by show 0 ≤ nx S3; omega) (by show nx S3 ≤ wr S3; omega) (by show wr S3 ≤ 600; omega) (by show 0 ≤ lv S3; omega) (by show lv S3 ≤ 48; omega) (by show kd aw S3 ≠ 0; omega)) (fun S54 h55 => (show TH aw 2000 S S54 from ⟨h55.1, h21.trans h55.2.1, ⟨(by have q := h55.2.2.1.1; omega), h55.2.2.1.2.trans h25⟩, h55.2.2.2.1, h55.2.2.2.2.1, (by have q := h55.2.2.2.2.2; omega)⟩)) ?_
  rintro v38 S39 ⟨r40, rfl, h41, h42, h43, h44, h45⟩
  have h42_ : nx S39 = nx S3 + 1 := h42
  have h43_ : lv S39 = lv S3 + c_dl (kd aw S3) := h43
  have h44_ : lv S39 ≤ 48 := h44
  have h45_ : nx S39 ≤ wr S39 := h45
  obtain ⟨h56, h57, ⟨h60, h61⟩, ⟨h62, h63, h64⟩, h65, h66⟩ := h41
  have h67 := h65 8 (h20.1.s (8, 3) (by decide))
  have h68 := h65 10 (h20.1.s (10, 3) (by decide))
  have h69 := os_5 h62 1
  have h70 := os_13 h62 1
  have h71 : c_dl (kd aw S3) = 1 := by unfold c_dl; split <;> split <;> omega
  show am_E _ _ _ _ [some (.ref 7), some (.int v1), some (.int v37), none, none, none] [.int r40] _ _
  refine am_e6i hi_146_31 ?_
  refine am_e2 (v := 7) hi_146_32 rfl ?_
  refine cm_20f (r := 2) h56 hi_146_33 (h56.1.s (7, 6) (by decide)) (by decide) rfl ?_
  refine am_e32x (as := [.ref 2]) (la := [some (.ref 2)]) (rest := []) hi_146_36 (am_hd0 (M := 146) (by decide) 36) (Nat.le_of_ble_eq_true rfl) (Nat.le_of_ble_eq_true rfl) (show 1 ≤ am_P0.2.2.1 63 from by decide +kernel) rfl (cl_recv (h56.1.s (2, 2) (by decide))) rfl rfl ?_
  refine am_e2 (v := 2) hi_63_0 rfl ?_
  refine cm_20i h56 hi_63_1 (h56.1.s (2, 2) (by decide)) (by decide) rfl fun v72 hv72 => ?_
  have hv72_ : v72.toInt = nx S39 := hv72
  refine am_e33 hi_63_4 ?_
  show am_E _ _ _ _ [some (.ref 7), some (.int v1), some (.int v37), none, none, none] [.int v72] _ _
  refine am_e3 (ls' := [some (.ref 7), some (.int v1), some (.int v37), some (.int v72), none, none]) hi_146_39 (Nat.le_of_ble_eq_true rfl) rfl ?_
  refine am_e2 (v := 7) hi_146_40 rfl ?_
  refine cm_20f (r := 2) h56 hi_146_41 (h56.1.s (7, 6) (by decide)) (by decide) rfl ?_
  refine am_e0 hi_146_44 ?_
  refine am_e32t (as := [.ref 2, .int 1]) (la := [some (.ref 2), some (.int 1)]) (rest := []) hi_146_45 (am_hd0 (M := 146) (by decide) 45) (Nat.le_of_ble_eq_true rfl) (Nat.le_of_ble_eq_true rfl) (show 2 ≤ am_P0.2.2.1 64 from by decide +kernel) rfl (cl_recv (h56.1.s (2, 2) (by decide))) rfl rfl (ck_take (d := d) h56   (by show 0 ≤ nx S39; omega) (by show nx S39 ≤ wr S39; omega) (by show wr S39 ≤ 600; omega) (by show 0 ≤ lv S39; omega) (by show lv S39 ≤ 48; omega) (by show ¬ (1 : Int) = 0; omega)) (fun S90 h91 => (show TH aw 2000 S S90 from ⟨h91.1, (h21.trans h57).trans h91.2.1, ⟨(by have q := h91.2.2.1.1; omega), h91.2.2.1.2.trans (h61.trans h25)⟩, h91.2.2.2.1, h91.2.2.2.2.1, (by have q := h91.2.2.2.2.2; omega)⟩)) ?_
  rintro v73 S74 ⟨r75, rfl, h76, h77, h78, h79, h80, h81⟩
  have h77_ : kd aw S39 = (1 : Int) := h77
  have h78_ : nx S74 = nx S39 + 1 := h78
  have h79_ : lv S74 = lv S39 + c_dl (kd aw S39) := h79
  have h80_ : lv S74 ≤ 48 := h80
  have h81_ : nx S74 ≤ wr S74 := h81
  obtain ⟨h92, h93, ⟨h96, h97⟩, ⟨h98, h99, h100⟩, h101, h102⟩ := h76
  have h103 := h101 8 (h56.1.s (8, 3) (by decide))
  have h104 := h101 10 (h56.1.s (10, 3) (by decide))
  have h105 := os_5 h98 1
  have h106 := os_13 h98 1
  have h107 : c_dl (kd aw S39) = 0 := by unfold c_dl; split <;> split <;> omega
  show am_E _ _ _ _ [some (.ref 7), some (.int v1), some (.int v37), some (.int v72), none, none] [.int r75] _ _
  refine am_e3 (ls' := [some (.ref 7), some (.int v1), some (.int v37), some (.int v72), some (.int r75), none]) hi_146_48 (Nat.le_of_ble_eq_true rfl) rfl ?_
  refine am_e2 (v := 7) hi_146_50 rfl ?_
  refine cm_20f (r := 12) h92 hi_146_51 (h92.1.s (7, 6) (by decide)) (by decide) rfl ?_
  refine am_e32n (as := [.ref 12]) (la := [some (.ref 12)]) (rest := []) hi_146_54 (am_hd0 (M := 146) (by decide) 54) (Nat.le_of_ble_eq_true rfl) (Nat.le_of_ble_eq_true rfl) (show 1 ≤ am_P0.2.2.1 75 from by decide +kernel) rfl (cl_recv (h92.1.s (12, 7) (by decide))) rfl rfl (ck_scount (d := (d + 13)) h92   ) ?_
  rintro v108 S109 ⟨r110, rfl, rfl, h112⟩
  have h112_ : r110.toInt = iv S74 14 1 + -1 * fl S74 := h112
  show am_E _ _ _ _ [some (.ref 7), some (.int v1), some (.int v37), some (.int v72), some (.int r75), none] [.int r110] _ _
  refine am_e3 (ls' := [some (.ref 7), some (.int v1), some (.int v37), some (.int v72), some (.int r75), some (.int r110)]) hi_146_57 (Nat.le_of_ble_eq_true rfl) rfl ?_
  refine am_e2 (v := 7) hi_146_59 rfl ?_
  refine cm_20f (r := 12) h92 hi_146_60 (h92.1.s (7, 6) (by decide)) (by decide) rfl ?_
  refine am_e1 (v := r75) hi_146_63 rfl ?_
  refine am_e0 hi_146_65 ?_
  refine am_e1 (v := v72) hi_146_66 rfl ?_
  refine am_e32n (as := [.ref 12, .int r75, .int 1, .int v72]) (la := [some (.ref 12), some (.int r75), some (.int 1), some (.int v72)]) (rest := []) hi_146_67 (am_hd0 (M := 146) (by decide) 67) (Nat.le_of_ble_eq_true rfl) (Nat.le_of_ble_eq_true rfl) (show 4 ≤ am_P0.2.2.1 74 from by decide +kernel) rfl (cl_recv (h92.1.s (12, 7) (by decide))) rfl rfl (ck_declare (d := (d + 11)) h92   ) ?_
  rintro v114 S115 ⟨rfl, h117, h118, h119, h120, h121⟩
  have h118_ : iv S115 14 1 ≤ iv S74 14 1 + 1 := h118
  have h119_ : iv S74 14 1 ≤ iv S115 14 1 := h119
  have h120_ : iv S115 8 1 = iv S74 8 1 := h120
  have h121_ : iv S115 10 1 = iv S74 10 1 := h121
  obtain ⟨h123, h124, ⟨h125, h126, h127, h128⟩, ⟨h129, h130, h131⟩, h133⟩ := h117
  have h134 : kd aw S115 = kd aw S74 := kd_eq h125 h128
  have h135 := os_5 h129 1
  have h136 := os_13 h129 1
  show am_E _ _ _ _ [some (.ref 7), some (.int v1), some (.int v37), some (.int v72), some (.int r75), some (.int r110)] [] _ _
  refine am_e2 (v := 7) hi_146_70 rfl ?_
  refine am_e0 hi_146_71 ?_
  refine am_e0 hi_146_72 ?_
  refine am_e0 hi_146_73 ?_
  refine am_e0 hi_146_74 ?_
  refine am_e32n (as := [.ref 7, .int 1, .int 0, .int 0, .int 0]) (la := [some (.ref 7), some (.int 1), some (.int 0), some (.int 0), some (.int 0)]) (rest := []) hi_146_75 (am_hd0 (M := 146) (by decide) 75) (Nat.le_of_ble_eq_true rfl) (Nat.le_of_ble_eq_true rfl) (show 5 ≤ am_P0.2.2.1 78 from by decide +kernel) rfl (cl_recv (h123.1.s (7, 6) (by decide))) rfl rfl (ck_emit (d := (d + 11)) h123   ) ?_
  rintro v137 S138 ⟨r139, rfl, h140, h141, h142, h143⟩
  have h141_ : iv S138 8 1 = iv S115 8 1 := h141
  have h142_ : iv S138 10 1 = iv S115 10 1 := h142
  have h143_ : iv S138 14 1 = iv S115 14 1 := h143
  obtain ⟨h145, h146, ⟨h147, h148, h149, h150⟩, ⟨h151, h152, h153⟩, h155⟩ := h140
  have h156 : kd aw S138 = kd aw S115 := kd_eq h147 h150
  have h157 := os_5 h151 1
  have h158 := os_13 h151 1
  show am_E _ _ _ _ [some (.ref 7), some (.int v1), some (.int v37), some (.int v72), some (.int r75), some (.int r110)] [.int r139] _ _
  refine am_e6i hi_146_78 ?_
  refine am_e2 (v := 7) hi_146_79 rfl ?_
  refine am_e0 hi_146_80 ?_
  refine am_e1 (v := r110) hi_146_82 rfl ?_
  refine am_e0 hi_146_84 ?_
  refine am_e1 (v := v1) hi_146_85 rfl ?_
  refine am_e32n (as := [.ref 7, .int 27, .int r110, .int 1, .int v1]) (la := [some (.ref 7), some (.int 27), some (.int r110), some (.int 1), some (.int v1)]) (rest := []) hi_146_86 (am_hd0 (M := 146) (by decide) 86) (Nat.le_of_ble_eq_true rfl) (Nat.le_of_ble_eq_true rfl) (show 5 ≤ am_P0.2.2.1 78 from by decide +kernel) rfl (cl_recv (h145.1.s (7, 6) (by decide))) rfl rfl (ck_emit (d := (d + 11)) h145   ) ?_
  rintro v159 S160 ⟨r161, rfl, h162, h163, h164, h165⟩
  have h163_ : iv S160 8 1 = iv S138 8 1 := h163
  have h164_ : iv S160 10 1 = iv S138 10 1 := h164
  have h165_ : iv S160 14 1 = iv S138 14 1 := h165
  obtain ⟨h167, h168, ⟨h169, h170, h171, h172⟩, ⟨h173, h174, h175⟩, h177⟩ := h162
  have h178 : kd aw S160 = kd aw S138 := kd_eq h169 h172
  have h179 := os_5 h173 1
  have h180 := os_13 h173 1
  show am_E _ _ _ _ [some (.ref 7), some (.int v1), some (.int v37), some (.int v72), some (.int r75), some (.int r110)] [.int r161] _ _
  refine am_e6i hi_146_89 ?_
  refine am_e2 (v := 7) hi_146_90 rfl ?_
  refine am_e1 (v := v37) hi_146_91 rfl ?_
  refine am_e0 hi_146_92 ?_
  refine am_e32q (d1 := d - 30 + 22 + 22) (by omega) (as := [.ref 7, .int v37, .int 0]) (la := [some (.ref 7), some (.int v37), some (.int 0), none, none, none]) (rest := []) hi_146_93 (am_hd0 (M := 146) (by decide) 93) (Nat.le_of_ble_eq_true rfl) (Nat.le_of_ble_eq_true rfl) (show 3 ≤ am_P0.2.2.1 73 from by decide +kernel) rfl (cl_recv (h167.1.s (7, 6) (by decide))) rfl rfl (rc_73 ihR (d - 30 + 22) _ v37 0 h167 (by decide) (by show 48 - lv S160 < (NN : Int); omega) (by show (30 : Int) * (48 - lv S160) ≤ ((d - 30 + 22 : Nat) : Int); omega) (by show 0 ≤ nx S160; omega) (by show nx S160 ≤ wr S160; omega) (by show wr S160 ≤ 600; omega) (by show 0 ≤ lv S160; omega) (by show lv S160 ≤ 48; omega) (by show 1 ≤ iv S160 13 1; omega) (by show iv S160 13 1 ≤ lv S160 + 0; omega) (by show iv S160 5 1 ≤ nx S160 + 1; omega)) (fun S192 h193 => (show TH aw 2000 S S192 from ⟨h193.1, (((((h21.trans h57).trans h93).trans h124).trans h146).trans h168).trans h193.2.1, ⟨(by have q := h193.2.2.1.1; omega), h193.2.2.1.2.trans (h172.trans (h150.trans (h128.trans (h97.trans (h61.trans h25)))))⟩, h193.2.2.2.1, h193.2.2.2.2.1, (by have q := h193.2.2.2.2.2; omega)⟩)) ?_
  rintro v181 S182 ⟨rfl, h184, h185, h186, h187, h188, h189, h190⟩
  have h185_ : nx S160 + 1 ≤ nx S182 := h185
  have h186_ : nx S182 ≤ wr S182 := h186
  have h187_ : lv S182 = lv S160 + (-1) := h187
  have h188_ : EN S182 + -10000 * nx S182 ≤ EN S160 + -10000 * nx S160 + (-15000) := h188
  have h189_ : iv S160 8 1 ≤ iv S182 8 1 := h189
  have h190_ : iv S160 10 1 ≤ iv S182 10 1 := h190
  obtain ⟨h194, h195, ⟨h198, h199⟩, ⟨h200, h201⟩⟩ := h184
  show am_E _ _ _ _ [some (.ref 7), some (.int v1), some (.int v37), some (.int v72), some (.int r75), some (.int r110)] [] _ _
  refine am_e2 (v := 7) hi_146_96 rfl ?_
  refine am_e0 hi_146_97 ?_
  refine am_e1 (v := r110) hi_146_99 rfl ?_
  refine am_e0 hi_146_101 ?_
  refine am_e1 (v := v72) hi_146_102 rfl ?_
  refine am_e32n (as := [.ref 7, .int 29, .int r110, .int 0, .int v72]) (la := [some (.ref 7), some (.int 29), some (.int r110), some (.int 0), some (.int v72)]) (rest := []) hi_146_103 (am_hd0 (M := 146) (by decide) 103) (Nat.le_of_ble_eq_true rfl) (Nat.le_of_ble_eq_true rfl) (show 5 ≤ am_P0.2.2.1 78 from by decide +kernel) rfl (cl_recv (h194.1.s (7, 6) (by decide))) rfl rfl (ck_emit (d := (d + 11)) h194   ) ?_
  rintro v205 S206 ⟨r207, rfl, h208, h209, h210, h211⟩
  have h209_ : iv S206 8 1 = iv S182 8 1 := h209
  have h210_ : iv S206 10 1 = iv S182 10 1 := h210
  have h211_ : iv S206 14 1 = iv S182 14 1 := h211
  obtain ⟨h213, h214, ⟨h215, h216, h217, h218⟩, ⟨h219, h220, h221⟩, h223⟩ := h208
  have h224 : kd aw S206 = kd aw S182 := kd_eq h215 h218
  have h225 := os_5 h219 1
  have h226 := os_13 h219 1
  show am_E _ _ _ _ [some (.ref 7), some (.int v1), some (.int v37), some (.int v72), some (.int r75), some (.int r110)] [.int r207] _ _
  refine am_e6i hi_146_106 ?_
  refine am_e35 hi_146_107 ?_
  exact ⟨rfl, ⟨h213, (((((((h21.trans h57).trans h93).trans h124).trans h146).trans h168).trans h195).trans h214), ⟨(by show wr S206 = wr S; omega), (h218.trans (h199.trans (h172.trans (h150.trans (h128.trans (h97.trans (h61.trans h25)))))))⟩, ⟨(by show iv S206 13 1 = iv S 13 1; omega), (by show iv S206 5 1 - nx S206 ≤ iv S 5 1 - nx S; omega)⟩⟩, (by show nx S + 1 ≤ nx S206; omega), (by show nx S206 ≤ wr S206; omega), (by show lv S206 = lv S + 0; omega), (by show EN S206 + -10000 * nx S206 ≤ EN S + -10000 * nx S + (-5000); omega), (by show iv S 8 1 ≤ iv S206 8 1; omega), (by show iv S 10 1 ≤ iv S206 10 1; omega)⟩
theorem cf_localNames {sc : Nat × (Nat → Int32)} {d aw : Nat} {Sb : am_S} {lw : Int32} {fs : Int32} {Q : Option (Option Value) → am_S → Prop} (h : SH aw Sb) (p0 : 0 ≤ nx Sb) (p1 : nx Sb ≤ wr Sb) (p2 : wr Sb ≤ 600) (p3 : 0 ≤ lv Sb) (p4 : lv Sb ≤ 48) (hq : ∀ S1, TH aw 300 Sb S1 → Q none S1) (hx0 : ∀ (S : am_S) (x7 : Option Value) (cw cs m n : Int32), Wv aw Sb S → (m = 0 ∨ m = 1) → (nx Sb + 0 ≤ nx S) → (nx S ≤ wr S) → (lv S = lv Sb + 0) → (EN S ≤ EN Sb + 160 * n.toInt) → (nx Sb + 2 * n.toInt ≤ nx S) → (0 ≤ n.toInt) → (n.toInt ≤ 20000) → (iv S 14 1 ≤ iv Sb 14 1 + n.toInt) → (iv Sb 14 1 ≤ iv S 14 1) → (iv S 8 1 = iv Sb 8 1) → (iv S 10 1 = iv Sb 10 1) → (1 ≤ n.toInt) → am_E (am_PP sc) (d + 20) 147 142 [some (.ref 7), some (.int lw), some (.int fs), some (.int cw), some (.int cs), some (.int m), some (.int n), x7] [] S Q) : ∀ (N : Nat) (S : am_S) (x7 : Option Value) (cw cs m n : Int32), Wv aw Sb S → (m = 0 ∨ m = 1) → (nx Sb + 0 ≤ nx S) → (nx S ≤ wr S) → (lv S = lv Sb + 0) → (EN S ≤ EN Sb + 160 * n.toInt) → (nx Sb + 2 * n.toInt ≤ nx S) → (0 ≤ n.toInt) → (n.toInt ≤ 20000) → (iv S 14 1 ≤ iv Sb 14 1 + n.toInt) → (iv Sb 14 1 ≤ iv S 14 1) → (iv S 8 1 = iv Sb 8 1) → (iv S 10 1 = iv Sb 10 1) → (m.toInt = 0 ∨ kd aw S = 22 ∨ kd aw S = 69) → ((n.toInt = 0 ∧ m.toInt = 1) ∨ 1 ≤ n.toInt) → 2147483647 - n.toInt < (N : Int) → am_E (am_PP sc) (d + 20) 147 27 [some (.ref 7), some (.int lw), some (.int fs), some (.int cw), some (.int cs), some (.int m), some (.int n), x7] [] S Q := by
  intro N
  induction N with
  | zero =>
    intro S x7 cw cs m n hrel hB_m i0 i1 i2 i3 i4 i5 i6 i7 i8 i9 i10 i11 i12 hN
    have := i32_le cw
    have := i32_le cs
    have := i32_le m
    have := i32_le n
    have := i32_ge cw
    have := i32_ge cs
    have := i32_ge m
    have := i32_ge n
    exfalso
    omega
  | succ N ih =>
    intro S x7 cw cs m n hrel hB_m i0 i1 i2 i3 i4 i5 i6 i7 i8 i9 i10 i11 i12 hN
    have hB_m_ : m.toInt = 0 ∨ m.toInt = 1 := hB_m.elim (fun e => Or.inl (by rw [e]; rfl)) (fun e => Or.inr (by rw [e]; rfl))
    have hl_cw := i32_le cw
    have hg_cw := i32_ge cw
    have hl_cs := i32_le cs
    have hg_cs := i32_ge cs
    have hl_m := i32_le m
    have hg_m := i32_ge m
    have hl_n := i32_le n
    have hg_n := i32_ge n
    obtain ⟨h1, h2, ⟨h3, h4⟩, ⟨h5, h6, h7⟩⟩ := hrel
    refine am_e1 (v := m) hi_147_27 rfl ?_
    by_cases c8 : m.toInt = (0 : Int)
    · refine am_e12t hi_147_29 (am_cT (m := m.toInt) (n := (0 : Int)) rfl (by decide) c8) ?_
      exact hx0 _ x7 cw cs m n ⟨h1, h2, ⟨(by show wr S = wr Sb; omega), h4⟩, ⟨h5, h6, (by show fl S = fl Sb; omega)⟩⟩ hB_m (by show nx Sb + 0 ≤ nx S; omega) (by show nx S ≤ wr S; omega) (by show lv S = lv Sb + 0; omega) (by show EN S ≤ EN Sb + 160 * n.toInt; omega) (by show nx Sb + 2 * n.toInt ≤ nx S; omega) (by show 0 ≤ n.toInt; omega) (by show n.toInt ≤ 20000; omega) (by show iv S 14 1 ≤ iv Sb 14 1 + n.toInt; omega) (by show iv Sb 14 1 ≤ iv S 14 1; omega) (by show iv S 8 1 = iv Sb 8 1; omega) (by show iv S 10 1 = iv Sb 10 1; omega) (by show 1 ≤ n.toInt; omega)
    · refine am_e12f hi_147_29 (am_cF (m := m.toInt) (n := (0 : Int)) rfl (by decide) c8) ?_
      refine am_e1 (v := n) hi_147_32 rfl ?_
      refine am_e0 hi_147_34 ?_
      refine am_e13f hi_147_37 (am_cF (m := n.toInt) (n := (16384 : Int)) rfl (by decide) (by simp only [am_cI]; omega)) ?_
      refine am_e2 (v := 7) hi_147_40 rfl ?_
      refine cm_20f (r := 2) h1 hi_147_41 (h1.1.s (7, 6) (by decide)) (by decide) rfl ?_
      refine am_e32t (as := [.ref 2]) (la := [some (.ref 2), none]) (rest := []) hi_147_44 (am_hd0 (M := 147) (by decide) 44) (Nat.le_of_ble_eq_true rfl) (Nat.le_of_ble_eq_true rfl) (show 1 ≤ am_P0.2.2.1 55 from by decide +kernel) rfl (cl_recv (h1.1.s (2, 2) (by decide))) rfl rfl (ck_skip (d := (d + 6)) h1   (by show 0 ≤ nx S; omega) (by show nx S ≤ wr S; omega) (by show wr S ≤ 600; omega) (by show 0 ≤ lv S; omega) (by show lv S ≤ 48; omega) (by show kd aw S ≠ 0; omega)) (fun S25 h26 => hq S25 (show TH aw 300 Sb S25 from ⟨h26.1, h2.trans h26.2.1, ⟨(by have q := h26.2.2.1.1; omega), h26.2.2.1.2.trans h4⟩, h26.2.2.2.1, h26.2.2.2.2.1, (by have q := h26.2.2.2.2.2; omega)⟩)) ?_
      rintro v9 S10 ⟨r11, rfl, h12, h13, h14, h15, h16⟩
      have h13_ : nx S10 = nx S + 1 := h13
      have h14_ : lv S10 = lv S + c_dl (kd aw S) := h14
      have h15_ : lv S10 ≤ 48 := h15
      have h16_ : nx S10 ≤ wr S10 := h16
      obtain ⟨h27, h28, ⟨h31, h32⟩, ⟨h33, h34, h35⟩, h36, h37⟩ := h12
      have h38 := h36 8 (h1.1.s (8, 3) (by decide))
      have h39 := h36 10 (h1.1.s (10, 3) (by decide))
      have h40 := h36 14 (h1.1.s (14, 3) (by decide))
      have h41 : c_dl (kd aw S) = 0 := by unfold c_dl; split <;> split <;> omega
      show am_E _ _ _ _ [some (.ref 7), some (.int lw), some (.int fs), some (.int cw), some (.int cs), some (.int m), some (.int n), x7] [.int r11] _ _
      refine am_e6i hi_147_47 ?_
      refine am_e2 (v := 7) hi_147_48 rfl ?_
      refine cm_20f (r := 2) h27 hi_147_49 (h27.1.s (7, 6) (by decide)) (by decide) rfl ?_
      refine am_e32x (as := [.ref 2]) (la := [some (.ref 2)]) (rest := []) hi_147_52 (am_hd0 (M := 147) (by decide) 52) (Nat.le_of_ble_eq_true rfl) (Nat.le_of_ble_eq_true rfl) (show 1 ≤ am_P0.2.2.1 63 from by decide +kernel) rfl (cl_recv (h27.1.s (2, 2) (by decide))) rfl rfl ?_
      refine am_e2 (v := 2) hi_63_0 rfl ?_
      refine cm_20i h27 hi_63_1 (h27.1.s (2, 2) (by decide)) (by decide) rfl fun v42 hv42 => ?_
      have hv42_ : v42.toInt = nx S10 := hv42
      refine am_e33 hi_63_4 ?_
      show am_E _ _ _ _ [some (.ref 7), some (.int lw), some (.int fs), some (.int cw), some (.int cs), some (.int m), some (.int n), x7] [.int v42] _ _
      refine am_e3 (ls' := [some (.ref 7), some (.int lw), some (.int fs), some (.int cw), some (.int cs), some (.int m), some (.int n), some (.int v42)]) hi_147_55 (Nat.le_of_ble_eq_true rfl) rfl ?_
      refine am_e2 (v := 7) hi_147_57 rfl ?_
      refine cm_20f (r := 12) h27 hi_147_58 (h27.1.s (7, 6) (by decide)) (by decide) rfl ?_
      refine am_e2 (v := 7) hi_147_61 rfl ?_
      refine cm_20f (r := 2) h27 hi_147_62 (h27.1.s (7, 6) (by decide)) (by decide) rfl ?_
      refine am_e0 hi_147_65 ?_
      refine am_e32t (as := [.ref 2, .int 1]) (la := [some (.ref 2), some (.int 1)]) (rest := [.ref 12]) hi_147_66 (am_hd0 (M := 147) (by decide) 66) (Nat.le_of_ble_eq_true rfl) (Nat.le_of_ble_eq_true rfl) (show 2 ≤ am_P0.2.2.1 64 from by decide +kernel) rfl (cl_recv (h27.1.s (2, 2) (by decide))) rfl rfl (ck_take (d := (d + 5)) h27   (by show 0 ≤ nx S10; omega) (by show nx S10 ≤ wr S10; omega) (by show wr S10 ≤ 600; omega) (by show 0 ≤ lv S10; omega) (by show lv S10 ≤ 48; omega) (by show ¬ (1 : Int) = 0; omega)) (fun S60 h61 => hq S60 (show TH aw 300 Sb S60 from ⟨h61.1, (h2.trans h28).trans h61.2.1, ⟨(by have q := h61.2.2.1.1; omega), h61.2.2.1.2.trans (h32.trans h4)⟩, h61.2.2.2.1, h61.2.2.2.2.1, (by have q := h61.2.2.2.2.2; omega)⟩)) ?_
      rintro v43 S44 ⟨r45, rfl, h46, h47, h48, h49, h50, h51⟩
      have h47_ : kd aw S10 = (1 : Int) := h47
      have h48_ : nx S44 = nx S10 + 1 := h48
      have h49_ : lv S44 = lv S10 + c_dl (kd aw S10) := h49
      have h50_ : lv S44 ≤ 48 := h50
      have h51_ : nx S44 ≤ wr S44 := h51
      obtain ⟨h62, h63, ⟨h66, h67⟩, ⟨h68, h69, h70⟩, h71, h72⟩ := h46
      have h73 := h71 8 (h27.1.s (8, 3) (by decide))
      have h74 := h71 10 (h27.1.s (10, 3) (by decide))
      have h75 := h71 14 (h27.1.s (14, 3) (by decide))
      have h76 : c_dl (kd aw S10) = 0 := by unfold c_dl; split <;> split <;> omega
      show am_E _ _ _ _ [some (.ref 7), some (.int lw), some (.int fs), some (.int cw), some (.int cs), some (.int m), some (.int n), some (.int v42)] [.int r45, .ref 12] _ _
      refine am_e0 hi_147_69 ?_
      refine am_e1 (v := v42) hi_147_70 rfl ?_
      refine am_e32n (as := [.ref 12, .int r45, .int 0, .int v42]) (la := [some (.ref 12), some (.int r45), some (.int 0), some (.int v42)]) (rest := []) hi_147_72 (am_hd0 (M := 147) (by decide) 72) (Nat.le_of_ble_eq_true rfl) (Nat.le_of_ble_eq_true rfl) (show 4 ≤ am_P0.2.2.1 74 from by decide +kernel) rfl (cl_recv (h62.1.s (12, 7) (by decide))) rfl rfl (ck_declare (d := (d + 16)) h62   ) ?_
      rintro v77 S78 ⟨rfl, h80, h81, h82, h83, h84⟩
      have h81_ : iv S78 14 1 ≤ iv S44 14 1 + 1 := h81
      have h82_ : iv S44 14 1 ≤ iv S78 14 1 := h82
      have h83_ : iv S78 8 1 = iv S44 8 1 := h83
      have h84_ : iv S78 10 1 = iv S44 10 1 := h84
      obtain ⟨h86, h87, ⟨h88, h89, h90, h91⟩, ⟨h92, h93, h94⟩, h96⟩ := h80
      have h97 : kd aw S78 = kd aw S44 := kd_eq h88 h91
      show am_E _ _ _ _ [some (.ref 7), some (.int lw), some (.int fs), some (.int cw), some (.int cs), some (.int m), some (.int n), some (.int v42)] [] _ _
      refine am_e2 (v := 7) hi_147_75 rfl ?_
      refine cm_20f (r := 2) h86 hi_147_76 (h86.1.s (7, 6) (by decide)) (by decide) rfl ?_
      refine am_e32n (as := [.ref 2]) (la := [some (.ref 2)]) (rest := []) hi_147_79 (am_hd0 (M := 147) (by decide) 79) (Nat.le_of_ble_eq_true rfl) (Nat.le_of_ble_eq_true rfl) (show 1 ≤ am_P0.2.2.1 53 from by decide +kernel) rfl (cl_recv (h86.1.s (2, 2) (by decide))) rfl rfl (ck_kind (d := (d + 18)) h86   ) ?_
      rintro v98 S99 ⟨r100, rfl, rfl, h102⟩
      have h102_ : r100.toInt = kd aw S78 := h102
      show am_E _ _ _ _ [some (.ref 7), some (.int lw), some (.int fs), some (.int cw), some (.int cs), some (.int m), some (.int n), some (.int v42)] [.int r100] _ _
      refine am_e0 hi_147_82 ?_
      by_cases c104 : ¬ r100.toInt = (57 : Int)
      · refine am_e13t hi_147_84 (am_cT (m := r100.toInt) (n := (57 : Int)) rfl (by decide) c104) ?_
        refine am_e2 (v := 7) hi_147_117 rfl ?_
        refine cm_20f (r := 2) h86 hi_147_118 (h86.1.s (7, 6) (by decide)) (by decide) rfl ?_
        refine am_e32n (as := [.ref 2]) (la := [some (.ref 2)]) (rest := []) hi_147_121 (am_hd0 (M := 147) (by decide) 121) (Nat.le_of_ble_eq_true rfl) (Nat.le_of_ble_eq_true rfl) (show 1 ≤ am_P0.2.2.1 53 from by decide +kernel) rfl (cl_recv (h86.1.s (2, 2) (by decide))) rfl rfl (ck_kind (d := (d + 18)) h86   ) ?_
        rintro v105 S106 ⟨r107, rfl, rfl, h109⟩
        have h109_ : r107.toInt = kd aw S78 := h109
        show am_E _ _ _ _ [some (.ref 7), some (.int lw), some (.int fs), some (.int cw), some (.int cs), some (.int m), some (.int n), some (.int v42)] [.int r107] _ _
        refine am_e0 hi_147_124 ?_
        by_cases c111 : ¬ r107.toInt = (69 : Int)
        · refine am_e13t hi_147_126 (am_cT (m := r107.toInt) (n := (69 : Int)) rfl (by decide) c111) ?_
          refine am_e0 hi_147_133 ?_
          refine am_e3 (ls' := [some (.ref 7), some (.int lw), some (.int fs), some (.int cw), some (.int cs), some (.int 0), some (.int n), some (.int v42)]) hi_147_134 (Nat.le_of_ble_eq_true rfl) rfl ?_
          obtain ⟨z112, hz112, tz112⟩ := am_addI (x := n) (y := 1) (m := n.toInt) (n := (1 : Int)) rfl (by decide) (by omega) (by omega)
          refine am_e5 (v := n) (z := z112) (ls' := [some (.ref 7), some (.int lw), some (.int fs), some (.int cw), some (.int cs), some (.int 0), some (.int z112), some (.int v42)]) hi_147_136 rfl hz112 rfl ?_
          refine am_e18 hi_147_139 ?_
          exact ih _ (some (.int v42)) cw cs 0 z112 ⟨h86, (((h2.trans h28).trans h63).trans h87), ⟨(by show wr S78 = wr Sb; omega), (h91.trans (h67.trans (h32.trans h4)))⟩, ⟨(h92.trans (h68.trans (h33.trans h5))), (h93.trans (h69.trans (h34.trans h6))), (by show fl S78 = fl Sb; omega)⟩⟩ (by decide) (by show nx Sb + 0 ≤ nx S78; omega) (by show nx S78 ≤ wr S78; omega) (by show lv S78 = lv Sb + 0; omega) (by show EN S78 ≤ EN Sb + 160 * z112.toInt; omega) (by show nx Sb + 2 * z112.toInt ≤ nx S78; omega) (by show 0 ≤ z112.toInt; omega) (by show z112.toInt ≤ 20000; omega) (by show iv S78 14 1 ≤ iv Sb 14 1 + z112.toInt; omega) (by show iv Sb 14 1 ≤ iv S78 14 1; omega) (by show iv S78 8 1 = iv Sb 8 1; omega) (by show iv S78 10 1 = iv Sb 10 1; omega) (by show (0 : Int) = 0 ∨ kd aw S78 = 22 ∨ kd aw S78 = 69; omega) (by show (z112.toInt = 0 ∧ (0 : Int) = 1) ∨ 1 ≤ z112.toInt; omega) (by show 2147483647 - z112.toInt < (N : Int); omega)
        · refine am_e13f hi_147_126 (am_cF (m := r107.toInt) (n := (69 : Int)) rfl (by decide) c111) ?_
          refine am_e0 hi_147_129 ?_
          refine am_e18 hi_147_130 ?_
          refine am_e3 (ls' := [some (.ref 7), some (.int lw), some (.int fs), some (.int cw), some (.int cs), some (.int 1), some (.int n), some (.int v42)]) hi_147_134 (Nat.le_of_ble_eq_true rfl) rfl ?_
          obtain ⟨z113, hz113, tz113⟩ := am_addI (x := n) (y := 1) (m := n.toInt) (n := (1 : Int)) rfl (by decide) (by omega) (by omega)
          refine am_e5 (v := n) (z := z113) (ls' := [some (.ref 7), some (.int lw), some (.int fs), some (.int cw), some (.int cs), some (.int 1), some (.int z113), some (.int v42)]) hi_147_136 rfl hz113 rfl ?_
          refine am_e18 hi_147_139 ?_
          exact ih _ (some (.int v42)) cw cs 1 z113 ⟨h86, (((h2.trans h28).trans h63).trans h87), ⟨(by show wr S78 = wr Sb; omega), (h91.trans (h67.trans (h32.trans h4)))⟩, ⟨(h92.trans (h68.trans (h33.trans h5))), (h93.trans (h69.trans (h34.trans h6))), (by show fl S78 = fl Sb; omega)⟩⟩ (by decide) (by show nx Sb + 0 ≤ nx S78; omega) (by show nx S78 ≤ wr S78; omega) (by show lv S78 = lv Sb + 0; omega) (by show EN S78 ≤ EN Sb + 160 * z113.toInt; omega) (by show nx Sb + 2 * z113.toInt ≤ nx S78; omega) (by show 0 ≤ z113.toInt; omega) (by show z113.toInt ≤ 20000; omega) (by show iv S78 14 1 ≤ iv Sb 14 1 + z113.toInt; omega) (by show iv Sb 14 1 ≤ iv S78 14 1; omega) (by show iv S78 8 1 = iv Sb 8 1; omega) (by show iv S78 10 1 = iv Sb 10 1; omega) (by show (1 : Int) = 0 ∨ kd aw S78 = 22 ∨ kd aw S78 = 69; omega) (by show (z113.toInt = 0 ∧ (1 : Int) = 1) ∨ 1 ≤ z113.toInt; omega) (by show 2147483647 - z113.toInt < (N : Int); omega)
      · refine am_e13f hi_147_84 (am_cF (m := r100.toInt) (n := (57 : Int)) rfl (by decide) c104) ?_
        refine am_e2 (v := 7) hi_147_87 rfl ?_
        refine am_e1 (v := cw) hi_147_88 rfl ?_
        by_cases c114 : cw.toInt < (0 : Int)
        · refine am_e12t hi_147_89 (am_cT (m := cw.toInt) (n := (0 : Int)) rfl (by decide) c114) ?_
          refine am_e0 hi_147_96 ?_
          refine am_e32t (as := [.ref 7, .int 0]) (la := [some (.ref 7), some (.int 0), none, none, none]) (rest := []) hi_147_97 (am_hd0 (M := 147) (by decide) 97) (Nat.le_of_ble_eq_true rfl) (Nat.le_of_ble_eq_true rfl) (show 2 ≤ am_P0.2.2.1 148 from by decide +kernel) rfl (cl_recv (h86.1.s (7, 6) (by decide))) rfl rfl (ck_attribute (d := (d + 4)) h86 (by decide)  (by show 0 ≤ nx S78; omega) (by show nx S78 ≤ wr S78; omega) (by show wr S78 ≤ 600; omega) (by show 0 ≤ lv S78; omega) (by show lv S78 ≤ 48; omega) (by show kd aw S78 = 57; omega)) (fun S130 h131 => hq S130 (show TH aw 300 Sb S130 from ⟨h131.1, (((h2.trans h28).trans h63).trans h87).trans h131.2.1, ⟨(by have q := h131.2.2.1.1; omega), h131.2.2.1.2.trans (h91.trans (h67.trans (h32.trans h4)))⟩, h131.2.2.2.1, h131.2.2.2.2.1, (by have q := h131.2.2.2.2.2; omega)⟩)) ?_
          rintro v115 S116 ⟨r117, rfl, hb122, h118, h119, h120, h121⟩
          have h119_ : nx S78 + 3 ≤ nx S116 := h119
          have h120_ : nx S116 ≤ wr S116 := h120
          have h121_ : lv S116 = lv S78 + 0 := h121
          obtain ⟨h132, h133, ⟨h136, h137⟩, ⟨h138, h139, h140⟩, h141, h142⟩ := h118
          have h143 := h141 8 (h86.1.s (8, 3) (by decide))
          have h144 := h141 10 (h86.1.s (10, 3) (by decide))
          have h145 := h141 14 (h86.1.s (14, 3) (by decide))
          have hb122_ : r117.toInt = 0 ∨ r117.toInt = 1 := hb122.elim (fun e => Or.inl (by rw [e]; rfl)) (fun e => Or.inr (by rw [e]; rfl))
          show am_E _ _ _ _ [some (.ref 7), some (.int lw), some (.int fs), some (.int cw), some (.int cs), some (.int m), some (.int n), some (.int v42)] [.int r117] _ _
          by_cases c146 : r117.toInt = (0 : Int)
          · refine am_e12t hi_147_100 (am_cT (m := r117.toInt) (n := (0 : Int)) rfl (by decide) c146) ?_
            refine am_e2 (v := 7) hi_147_117 rfl ?_
            refine cm_20f (r := 2) h132 hi_147_118 (h132.1.s (7, 6) (by decide)) (by decide) rfl ?_
            refine am_e32n (as := [.ref 2]) (la := [some (.ref 2)]) (rest := []) hi_147_121 (am_hd0 (M := 147) (by decide) 121) (Nat.le_of_ble_eq_true rfl) (Nat.le_of_ble_eq_true rfl) (show 1 ≤ am_P0.2.2.1 53 from by decide +kernel) rfl (cl_recv (h132.1.s (2, 2) (by decide))) rfl rfl (ck_kind (d := (d + 18)) h132   ) ?_
            rintro v147 S148 ⟨r149, rfl, rfl, h151⟩
            have h151_ : r149.toInt = kd aw S116 := h151
            show am_E _ _ _ _ [some (.ref 7), some (.int lw), some (.int fs), some (.int cw), some (.int cs), some (.int m), some (.int n), some (.int v42)] [.int r149] _ _
            refine am_e0 hi_147_124 ?_
            by_cases c153 : ¬ r149.toInt = (69 : Int)
            · refine am_e13t hi_147_126 (am_cT (m := r149.toInt) (n := (69 : Int)) rfl (by decide) c153) ?_
              refine am_e0 hi_147_133 ?_
              refine am_e3 (ls' := [some (.ref 7), some (.int lw), some (.int fs), some (.int cw), some (.int cs), some (.int 0), some (.int n), some (.int v42)]) hi_147_134 (Nat.le_of_ble_eq_true rfl) rfl ?_
              obtain ⟨z154, hz154, tz154⟩ := am_addI (x := n) (y := 1) (m := n.toInt) (n := (1 : Int)) rfl (by decide) (by omega) (by omega)
              refine am_e5 (v := n) (z := z154) (ls' := [some (.ref 7), some (.int lw), some (.int fs), some (.int cw), some (.int cs), some (.int 0), some (.int z154), some (.int v42)]) hi_147_136 rfl hz154 rfl ?_
              refine am_e18 hi_147_139 ?_
              exact ih _ (some (.int v42)) cw cs 0 z154 ⟨h132, ((((h2.trans h28).trans h63).trans h87).trans h133), ⟨(by show wr S116 = wr Sb; omega), (h137.trans (h91.trans (h67.trans (h32.trans h4))))⟩, ⟨(h138.trans (h92.trans (h68.trans (h33.trans h5)))), (h139.trans (h93.trans (h69.trans (h34.trans h6)))), (by show fl S116 = fl Sb; omega)⟩⟩ (by decide) (by show nx Sb + 0 ≤ nx S116; omega) (by show nx S116 ≤ wr S116; omega) (by show lv S116 = lv Sb + 0; omega) (by show EN S116 ≤ EN Sb + 160 * z154.toInt; omega) (by show nx Sb + 2 * z154.toInt ≤ nx S116; omega) (by show 0 ≤ z154.toInt; omega) (by show z154.toInt ≤ 20000; omega) (by show iv S116 14 1 ≤ iv Sb 14 1 + z154.toInt; omega) (by show iv Sb 14 1 ≤ iv S116 14 1; omega) (by show iv S116 8 1 = iv Sb 8 1; omega) (by show iv S116 10 1 = iv Sb 10 1; omega) (by show (0 : Int) = 0 ∨ kd aw S116 = 22 ∨ kd aw S116 = 69; omega) (by show (z154.toInt = 0 ∧ (0 : Int) = 1) ∨ 1 ≤ z154.toInt; omega) (by show 2147483647 - z154.toInt < (N : Int); omega)
            · refine am_e13f hi_147_126 (am_cF (m := r149.toInt) (n := (69 : Int)) rfl (by decide) c153) ?_
              refine am_e0 hi_147_129 ?_
              refine am_e18 hi_147_130 ?_
              refine am_e3 (ls' := [some (.ref 7), some (.int lw), some (.int fs), some (.int cw), some (.int cs), some (.int 1), some (.int n), some (.int v42)]) hi_147_134 (Nat.le_of_ble_eq_true rfl) rfl ?_
              obtain ⟨z155, hz155, tz155⟩ := am_addI (x := n) (y := 1) (m := n.toInt) (n := (1 : Int)) rfl (by decide) (by omega) (by omega)
              refine am_e5 (v := n) (z := z155) (ls' := [some (.ref 7), some (.int lw), some (.int fs), some (.int cw), some (.int cs), some (.int 1), some (.int z155), some (.int v42)]) hi_147_136 rfl hz155 rfl ?_
              refine am_e18 hi_147_139 ?_
              exact ih _ (some (.int v42)) cw cs 1 z155 ⟨h132, ((((h2.trans h28).trans h63).trans h87).trans h133), ⟨(by show wr S116 = wr Sb; omega), (h137.trans (h91.trans (h67.trans (h32.trans h4))))⟩, ⟨(h138.trans (h92.trans (h68.trans (h33.trans h5)))), (h139.trans (h93.trans (h69.trans (h34.trans h6)))), (by show fl S116 = fl Sb; omega)⟩⟩ (by decide) (by show nx Sb + 0 ≤ nx S116; omega) (by show nx S116 ≤ wr S116; omega) (by show lv S116 = lv Sb + 0; omega) (by show EN S116 ≤ EN Sb + 160 * z155.toInt; omega) (by show nx Sb + 2 * z155.toInt ≤ nx S116; omega) (by show 0 ≤ z155.toInt; omega) (by show z155.toInt ≤ 20000; omega) (by show iv S116 14 1 ≤ iv Sb 14 1 + z155.toInt; omega) (by show iv Sb 14 1 ≤ iv S116 14 1; omega) (by show iv S116 8 1 = iv Sb 8 1; omega) (by show iv S116 10 1 = iv Sb 10 1; omega) (by show (1 : Int) = 0 ∨ kd aw S116 = 22 ∨ kd aw S116 = 69; omega) (by show (z155.toInt = 0 ∧ (1 : Int) = 1) ∨ 1 ≤ z155.toInt; omega) (by show 2147483647 - z155.toInt < (N : Int); omega)
          · refine am_e12f hi_147_100 (am_cF (m := r117.toInt) (n := (0 : Int)) rfl (by decide) c146) ?_
            refine am_e1 (v := v42) hi_147_103 rfl ?_
            refine am_e3 (ls' := [some (.ref 7), some (.int lw), some (.int fs), some (.int v42), some (.int cs), some (.int m), some (.int n), some (.int v42)]) hi_147_105 (Nat.le_of_ble_eq_true rfl) rfl ?_
            refine am_e2 (v := 7) hi_147_106 rfl ?_
            refine cm_20f (r := 12) h132 hi_147_107 (h132.1.s (7, 6) (by decide)) (by decide) rfl ?_
            refine am_e32n (as := [.ref 12]) (la := [some (.ref 12)]) (rest := []) hi_147_110 (am_hd0 (M := 147) (by decide) 110) (Nat.le_of_ble_eq_true rfl) (Nat.le_of_ble_eq_true rfl) (show 1 ≤ am_P0.2.2.1 75 from by decide +kernel) rfl (cl_recv (h132.1.s (12, 7) (by decide))) rfl rfl (ck_scount (d := (d + 18)) h132   ) ?_
            rintro v156 S157 ⟨r158, rfl, rfl, h160⟩
            have h160_ : r158.toInt = iv S116 14 1 + -1 * fl S116 := h160
            show am_E _ _ _ _ [some (.ref 7), some (.int lw), some (.int fs), some (.int v42), some (.int cs), some (.int m), some (.int n), some (.int v42)] [.int r158] _ _
            refine am_e0 hi_147_113 ?_
            obtain ⟨z162, hz162⟩ : ∃ q__, am_bin 1 r158 1 = q__ := ⟨_, rfl⟩
            refine am_e10 (z := z162) hi_147_114 hz162 ?_
            refine am_e3 (ls' := [some (.ref 7), some (.int lw), some (.int fs), some (.int v42), some (.int z162), some (.int m), some (.int n), some (.int v42)]) hi_147_115 (Nat.le_of_ble_eq_true rfl) rfl ?_
            refine am_e2 (v := 7) hi_147_117 rfl ?_
            refine cm_20f (r := 2) h132 hi_147_118 (h132.1.s (7, 6) (by decide)) (by decide) rfl ?_
            refine am_e32n (as := [.ref 2]) (la := [some (.ref 2)]) (rest := []) hi_147_121 (am_hd0 (M := 147) (by decide) 121) (Nat.le_of_ble_eq_true rfl) (Nat.le_of_ble_eq_true rfl) (show 1 ≤ am_P0.2.2.1 53 from by decide +kernel) rfl (cl_recv (h132.1.s (2, 2) (by decide))) rfl rfl (ck_kind (d := (d + 18)) h132   ) ?_
            rintro v163 S164 ⟨r165, rfl, rfl, h167⟩
            have h167_ : r165.toInt = kd aw S116 := h167
            show am_E _ _ _ _ [some (.ref 7), some (.int lw), some (.int fs), some (.int v42), some (.int z162), some (.int m), some (.int n), some (.int v42)] [.int r165] _ _
            refine am_e0 hi_147_124 ?_
            by_cases c169 : ¬ r165.toInt = (69 : Int)
            · refine am_e13t hi_147_126 (am_cT (m := r165.toInt) (n := (69 : Int)) rfl (by decide) c169) ?_
              refine am_e0 hi_147_133 ?_
              refine am_e3 (ls' := [some (.ref 7), some (.int lw), some (.int fs), some (.int v42), some (.int z162), some (.int 0), some (.int n), some (.int v42)]) hi_147_134 (Nat.le_of_ble_eq_true rfl) rfl ?_
              obtain ⟨z170, hz170, tz170⟩ := am_addI (x := n) (y := 1) (m := n.toInt) (n := (1 : Int)) rfl (by decide) (by omega) (by omega)
              refine am_e5 (v := n) (z := z170) (ls' := [some (.ref 7), some (.int lw), some (.int fs), some (.int v42), some (.int z162), some (.int 0), some (.int z170), some (.int v42)]) hi_147_136 rfl hz170 rfl ?_
              refine am_e18 hi_147_139 ?_
              exact ih _ (some (.int v42)) v42 z162 0 z170 ⟨h132, ((((h2.trans h28).trans h63).trans h87).trans h133), ⟨(by show wr S116 = wr Sb; omega), (h137.trans (h91.trans (h67.trans (h32.trans h4))))⟩, ⟨(h138.trans (h92.trans (h68.trans (h33.trans h5)))), (h139.trans (h93.trans (h69.trans (h34.trans h6)))), (by show fl S116 = fl Sb; omega)⟩⟩ (by decide) (by show nx Sb + 0 ≤ nx S116; omega) (by show nx S116 ≤ wr S116; omega) (by show lv S116 = lv Sb + 0; omega) (by show EN S116 ≤ EN Sb + 160 * z170.toInt; omega) (by show nx Sb + 2 * z170.toInt ≤ nx S116; omega) (by show 0 ≤ z170.toInt; omega) (by show z170.toInt ≤ 20000; omega) (by show iv S116 14 1 ≤ iv Sb 14 1 + z170.toInt; omega) (by show iv Sb 14 1 ≤ iv S116 14 1; omega) (by show iv S116 8 1 = iv Sb 8 1; omega) (by show iv S116 10 1 = iv Sb 10 1; omega) (by show (0 : Int) = 0 ∨ kd aw S116 = 22 ∨ kd aw S116 = 69; omega) (by show (z170.toInt = 0 ∧ (0 : Int) = 1) ∨ 1 ≤ z170.toInt; omega) (by show 2147483647 - z170.toInt < (N : Int); omega)
            · refine am_e13f hi_147_126 (am_cF (m := r165.toInt) (n := (69 : Int)) rfl (by decide) c169) ?_
              refine am_e0 hi_147_129 ?_
              refine am_e18 hi_147_130 ?_
              refine am_e3 (ls' := [some (.ref 7), some (.int lw), some (.int fs), some (.int v42), some (.int z162), some (.int 1), some (.int n), some (.int v42)]) hi_147_134 (Nat.le_of_ble_eq_true rfl) rfl ?_
              obtain ⟨z171, hz171, tz171⟩ := am_addI (x := n) (y := 1) (m := n.toInt) (n := (1 : Int)) rfl (by decide) (by omega) (by omega)
              refine am_e5 (v := n) (z := z171) (ls' := [some (.ref 7), some (.int lw), some (.int fs), some (.int v42), some (.int z162), some (.int 1), some (.int z171), some (.int v42)]) hi_147_136 rfl hz171 rfl ?_
              refine am_e18 hi_147_139 ?_
              exact ih _ (some (.int v42)) v42 z162 1 z171 ⟨h132, ((((h2.trans h28).trans h63).trans h87).trans h133), ⟨(by show wr S116 = wr Sb; omega), (h137.trans (h91.trans (h67.trans (h32.trans h4))))⟩, ⟨(h138.trans (h92.trans (h68.trans (h33.trans h5)))), (h139.trans (h93.trans (h69.trans (h34.trans h6)))), (by show fl S116 = fl Sb; omega)⟩⟩ (by decide) (by show nx Sb + 0 ≤ nx S116; omega) (by show nx S116 ≤ wr S116; omega) (by show lv S116 = lv Sb + 0; omega) (by show EN S116 ≤ EN Sb + 160 * z171.toInt; omega) (by show nx Sb + 2 * z171.toInt ≤ nx S116; omega) (by show 0 ≤ z171.toInt; omega) (by show z171.toInt ≤ 20000; omega) (by show iv S116 14 1 ≤ iv Sb 14 1 + z171.toInt; omega) (by show iv Sb 14 1 ≤ iv S116 14 1; omega) (by show iv S116 8 1 = iv Sb 8 1; omega) (by show iv S116 10 1 = iv Sb 10 1; omega) (by show (1 : Int) = 0 ∨ kd aw S116 = 22 ∨ kd aw S116 = 69; omega) (by show (z171.toInt = 0 ∧ (1 : Int) = 1) ∨ 1 ≤ z171.toInt; omega) (by show 2147483647 - z171.toInt < (N : Int); omega)
        · refine am_e12f hi_147_89 (am_cF (m := cw.toInt) (n := (0 : Int)) rfl (by decide) c114) ?_
          refine am_e0 hi_147_92 ?_
          refine am_e18 hi_147_93 ?_
          refine am_e32t (as := [.ref 7, .int 1]) (la := [some (.ref 7), some (.int 1), none, none, none]) (rest := []) hi_147_97 (am_hd0 (M := 147) (by decide) 97) (Nat.le_of_ble_eq_true rfl) (Nat.le_of_ble_eq_true rfl) (show 2 ≤ am_P0.2.2.1 148 from by decide +kernel) rfl (cl_recv (h86.1.s (7, 6) (by decide))) rfl rfl (ck_attribute (d := (d + 4)) h86 (by decide)  (by show 0 ≤ nx S78; omega) (by show nx S78 ≤ wr S78; omega) (by show wr S78 ≤ 600; omega) (by show 0 ≤ lv S78; omega) (by show lv S78 ≤ 48; omega) (by show kd aw S78 = 57; omega)) (fun S187 h188 => hq S187 (show TH aw 300 Sb S187 from ⟨h188.1, (((h2.trans h28).trans h63).trans h87).trans h188.2.1, ⟨(by have q := h188.2.2.1.1; omega), h188.2.2.1.2.trans (h91.trans (h67.trans (h32.trans h4)))⟩, h188.2.2.2.1, h188.2.2.2.2.1, (by have q := h188.2.2.2.2.2; omega)⟩)) ?_
          rintro v172 S173 ⟨r174, rfl, hb179, h175, h176, h177, h178⟩
          have h176_ : nx S78 + 3 ≤ nx S173 := h176
          have h177_ : nx S173 ≤ wr S173 := h177
          have h178_ : lv S173 = lv S78 + 0 := h178
          obtain ⟨h189, h190, ⟨h193, h194⟩, ⟨h195, h196, h197⟩, h198, h199⟩ := h175
          have h200 := h198 8 (h86.1.s (8, 3) (by decide))
          have h201 := h198 10 (h86.1.s (10, 3) (by decide))
          have h202 := h198 14 (h86.1.s (14, 3) (by decide))
          have hb179_ : r174.toInt = 0 ∨ r174.toInt = 1 := hb179.elim (fun e => Or.inl (by rw [e]; rfl)) (fun e => Or.inr (by rw [e]; rfl))
          show am_E _ _ _ _ [some (.ref 7), some (.int lw), some (.int fs), some (.int cw), some (.int cs), some (.int m), some (.int n), some (.int v42)] [.int r174] _ _
          by_cases c203 : r174.toInt = (0 : Int)
          · refine am_e12t hi_147_100 (am_cT (m := r174.toInt) (n := (0 : Int)) rfl (by decide) c203) ?_
            refine am_e2 (v := 7) hi_147_117 rfl ?_
            refine cm_20f (r := 2) h189 hi_147_118 (h189.1.s (7, 6) (by decide)) (by decide) rfl ?_
            refine am_e32n (as := [.ref 2]) (la := [some (.ref 2)]) (rest := []) hi_147_121 (am_hd0 (M := 147) (by decide) 121) (Nat.le_of_ble_eq_true rfl) (Nat.le_of_ble_eq_true rfl) (show 1 ≤ am_P0.2.2.1 53 from by decide +kernel) rfl (cl_recv (h189.1.s (2, 2) (by decide))) rfl rfl (ck_kind (d := (d + 18)) h189   ) ?_
            rintro v204 S205 ⟨r206, rfl, rfl, h208⟩
            have h208_ : r206.toInt = kd aw S173 := h208
            show am_E _ _ _ _ [some (.ref 7), some (.int lw), some (.int fs), some (.int cw), some (.int cs), some (.int m), some (.int n), some (.int v42)] [.int r206] _ _
            refine am_e0 hi_147_124 ?_
            by_cases c210 : ¬ r206.toInt = (69 : Int)
            · refine am_e13t hi_147_126 (am_cT (m := r206.toInt) (n := (69 : Int)) rfl (by decide) c210) ?_
              refine am_e0 hi_147_133 ?_
              refine am_e3 (ls' := [some (.ref 7), some (.int lw), some (.int fs), some (.int cw), some (.int cs), some (.int 0), some (.int n), some (.int v42)]) hi_147_134 (Nat.le_of_ble_eq_true rfl) rfl ?_
              obtain ⟨z211, hz211, tz211⟩ := am_addI (x := n) (y := 1) (m := n.toInt) (n := (1 : Int)) rfl (by decide) (by omega) (by omega)
              refine am_e5 (v := n) (z := z211) (ls' := [some (.ref 7), some (.int lw), some (.int fs), some (.int cw), some (.int cs), some (.int 0), some (.int z211), some (.int v42)]) hi_147_136 rfl hz211 rfl ?_
              refine am_e18 hi_147_139 ?_
              exact ih _ (some (.int v42)) cw cs 0 z211 ⟨h189, ((((h2.trans h28).trans h63).trans h87).trans h190), ⟨(by show wr S173 = wr Sb; omega), (h194.trans (h91.trans (h67.trans (h32.trans h4))))⟩, ⟨(h195.trans (h92.trans (h68.trans (h33.trans h5)))), (h196.trans (h93.trans (h69.trans (h34.trans h6)))), (by show fl S173 = fl Sb; omega)⟩⟩ (by decide) (by show nx Sb + 0 ≤ nx S173; omega) (by show nx S173 ≤ wr S173; omega) (by show lv S173 = lv Sb + 0; omega) (by show EN S173 ≤ EN Sb + 160 * z211.toInt; omega) (by show nx Sb + 2 * z211.toInt ≤ nx S173; omega) (by show 0 ≤ z211.toInt; omega) (by show z211.toInt ≤ 20000; omega) (by show iv S173 14 1 ≤ iv Sb 14 1 + z211.toInt; omega) (by show iv Sb 14 1 ≤ iv S173 14 1; omega) (by show iv S173 8 1 = iv Sb 8 1; omega) (by show iv S173 10 1 = iv Sb 10 1; omega) (by show (0 : Int) = 0 ∨ kd aw S173 = 22 ∨ kd aw S173 = 69; omega) (by show (z211.toInt = 0 ∧ (0 : Int) = 1) ∨ 1 ≤ z211.toInt; omega) (by show 2147483647 - z211.toInt < (N : Int); omega)
            · refine am_e13f hi_147_126 (am_cF (m := r206.toInt) (n := (69 : Int)) rfl (by decide) c210) ?_
              refine am_e0 hi_147_129 ?_
              refine am_e18 hi_147_130 ?_
              refine am_e3 (ls' := [some (.ref 7), some (.int lw), some (.int fs), some (.int cw), some (.int cs), some (.int 1), some (.int n), some (.int v42)]) hi_147_134 (Nat.le_of_ble_eq_true rfl) rfl ?_
              obtain ⟨z212, hz212, tz212⟩ := am_addI (x := n) (y := 1) (m := n.toInt) (n := (1 : Int)) rfl (by decide) (by omega) (by omega)
              refine am_e5 (v := n) (z := z212) (ls' := [some (.ref 7), some (.int lw), some (.int fs), some (.int cw), some (.int cs), some (.int 1), some (.int z212), some (.int v42)]) hi_147_136 rfl hz212 rfl ?_
              refine am_e18 hi_147_139 ?_
              exact ih _ (some (.int v42)) cw cs 1 z212 ⟨h189, ((((h2.trans h28).trans h63).trans h87).trans h190), ⟨(by show wr S173 = wr Sb; omega), (h194.trans (h91.trans (h67.trans (h32.trans h4))))⟩, ⟨(h195.trans (h92.trans (h68.trans (h33.trans h5)))), (h196.trans (h93.trans (h69.trans (h34.trans h6)))), (by show fl S173 = fl Sb; omega)⟩⟩ (by decide) (by show nx Sb + 0 ≤ nx S173; omega) (by show nx S173 ≤ wr S173; omega) (by show lv S173 = lv Sb + 0; omega) (by show EN S173 ≤ EN Sb + 160 * z212.toInt; omega) (by show nx Sb + 2 * z212.toInt ≤ nx S173; omega) (by show 0 ≤ z212.toInt; omega) (by show z212.toInt ≤ 20000; omega) (by show iv S173 14 1 ≤ iv Sb 14 1 + z212.toInt; omega) (by show iv Sb 14 1 ≤ iv S173 14 1; omega) (by show iv S173 8 1 = iv Sb 8 1; omega) (by show iv S173 10 1 = iv Sb 10 1; omega) (by show (1 : Int) = 0 ∨ kd aw S173 = 22 ∨ kd aw S173 = 69; omega) (by show (z212.toInt = 0 ∧ (1 : Int) = 1) ∨ 1 ≤ z212.toInt; omega) (by show 2147483647 - z212.toInt < (N : Int); omega)
          · refine am_e12f hi_147_100 (am_cF (m := r174.toInt) (n := (0 : Int)) rfl (by decide) c203) ?_
            refine am_e1 (v := v42) hi_147_103 rfl ?_
            refine am_e3 (ls' := [some (.ref 7), some (.int lw), some (.int fs), some (.int v42), some (.int cs), some (.int m), some (.int n), some (.int v42)]) hi_147_105 (Nat.le_of_ble_eq_true rfl) rfl ?_
            refine am_e2 (v := 7) hi_147_106 rfl ?_
            refine cm_20f (r := 12) h189 hi_147_107 (h189.1.s (7, 6) (by decide)) (by decide) rfl ?_
            refine am_e32n (as := [.ref 12]) (la := [some (.ref 12)]) (rest := []) hi_147_110 (am_hd0 (M := 147) (by decide) 110) (Nat.le_of_ble_eq_true rfl) (Nat.le_of_ble_eq_true rfl) (show 1 ≤ am_P0.2.2.1 75 from by decide +kernel) rfl (cl_recv (h189.1.s (12, 7) (by decide))) rfl rfl (ck_scount (d := (d + 18)) h189   ) ?_
            rintro v213 S214 ⟨r215, rfl, rfl, h217⟩
            have h217_ : r215.toInt = iv S173 14 1 + -1 * fl S173 := h217
            show am_E _ _ _ _ [some (.ref 7), some (.int lw), some (.int fs), some (.int v42), some (.int cs), some (.int m), some (.int n), some (.int v42)] [.int r215] _ _
            refine am_e0 hi_147_113 ?_
            obtain ⟨z219, hz219⟩ : ∃ q__, am_bin 1 r215 1 = q__ := ⟨_, rfl⟩
            refine am_e10 (z := z219) hi_147_114 hz219 ?_
            refine am_e3 (ls' := [some (.ref 7), some (.int lw), some (.int fs), some (.int v42), some (.int z219), some (.int m), some (.int n), some (.int v42)]) hi_147_115 (Nat.le_of_ble_eq_true rfl) rfl ?_
            refine am_e2 (v := 7) hi_147_117 rfl ?_
            refine cm_20f (r := 2) h189 hi_147_118 (h189.1.s (7, 6) (by decide)) (by decide) rfl ?_
            refine am_e32n (as := [.ref 2]) (la := [some (.ref 2)]) (rest := []) hi_147_121 (am_hd0 (M := 147) (by decide) 121) (Nat.le_of_ble_eq_true rfl) (Nat.le_of_ble_eq_true rfl) (show 1 ≤ am_P0.2.2.1 53 from by decide +kernel) rfl (cl_recv (h189.1.s (2, 2) (by decide))) rfl rfl (ck_kind (d := (d + 18)) h189   ) ?_
            rintro v220 S221 ⟨r222, rfl, rfl, h224⟩
            have h224_ : r222.toInt = kd aw S173 := h224
            show am_E _ _ _ _ [some (.ref 7), some (.int lw), some (.int fs), some (.int v42), some (.int z219), some (.int m), some (.int n), some (.int v42)] [.int r222] _ _
            refine am_e0 hi_147_124 ?_
            by_cases c226 : ¬ r222.toInt = (69 : Int)
            · refine am_e13t hi_147_126 (am_cT (m := r222.toInt) (n := (69 : Int)) rfl (by decide) c226) ?_
              refine am_e0 hi_147_133 ?_
              refine am_e3 (ls' := [some (.ref 7), some (.int lw), some (.int fs), some (.int v42), some (.int z219), some (.int 0), some (.int n), some (.int v42)]) hi_147_134 (Nat.le_of_ble_eq_true rfl) rfl ?_
              obtain ⟨z227, hz227, tz227⟩ := am_addI (x := n) (y := 1) (m := n.toInt) (n := (1 : Int)) rfl (by decide) (by omega) (by omega)
              refine am_e5 (v := n) (z := z227) (ls' := [some (.ref 7), some (.int lw), some (.int fs), some (.int v42), some (.int z219), some (.int 0), some (.int z227), some (.int v42)]) hi_147_136 rfl hz227 rfl ?_
              refine am_e18 hi_147_139 ?_
              exact ih _ (some (.int v42)) v42 z219 0 z227 ⟨h189, ((((h2.trans h28).trans h63).trans h87).trans h190), ⟨(by show wr S173 = wr Sb; omega), (h194.trans (h91.trans (h67.trans (h32.trans h4))))⟩, ⟨(h195.trans (h92.trans (h68.trans (h33.trans h5)))), (h196.trans (h93.trans (h69.trans (h34.trans h6)))), (by show fl S173 = fl Sb; omega)⟩⟩ (by decide) (by show nx Sb + 0 ≤ nx S173; omega) (by show nx S173 ≤ wr S173; omega) (by show lv S173 = lv Sb + 0; omega) (by show EN S173 ≤ EN Sb + 160 * z227.toInt; omega) (by show nx Sb + 2 * z227.toInt ≤ nx S173; omega) (by show 0 ≤ z227.toInt; omega) (by show z227.toInt ≤ 20000; omega) (by show iv S173 14 1 ≤ iv Sb 14 1 + z227.toInt; omega) (by show iv Sb 14 1 ≤ iv S173 14 1; omega) (by show iv S173 8 1 = iv Sb 8 1; omega) (by show iv S173 10 1 = iv Sb 10 1; omega) (by show (0 : Int) = 0 ∨ kd aw S173 = 22 ∨ kd aw S173 = 69; omega) (by show (z227.toInt = 0 ∧ (0 : Int) = 1) ∨ 1 ≤ z227.toInt; omega) (by show 2147483647 - z227.toInt < (N : Int); omega)
            · refine am_e13f hi_147_126 (am_cF (m := r222.toInt) (n := (69 : Int)) rfl (by decide) c226) ?_
              refine am_e0 hi_147_129 ?_
              refine am_e18 hi_147_130 ?_
              refine am_e3 (ls' := [some (.ref 7), some (.int lw), some (.int fs), some (.int v42), some (.int z219), some (.int 1), some (.int n), some (.int v42)]) hi_147_134 (Nat.le_of_ble_eq_true rfl) rfl ?_
              obtain ⟨z228, hz228, tz228⟩ := am_addI (x := n) (y := 1) (m := n.toInt) (n := (1 : Int)) rfl (by decide) (by omega) (by omega)
              refine am_e5 (v := n) (z := z228) (ls' := [some (.ref 7), some (.int lw), some (.int fs), some (.int v42), some (.int z219), some (.int 1), some (.int z228), some (.int v42)]) hi_147_136 rfl hz228 rfl ?_
              refine am_e18 hi_147_139 ?_
              exact ih _ (some (.int v42)) v42 z219 1 z228 ⟨h189, ((((h2.trans h28).trans h63).trans h87).trans h190), ⟨(by show wr S173 = wr Sb; omega), (h194.trans (h91.trans (h67.trans (h32.trans h4))))⟩, ⟨(h195.trans (h92.trans (h68.trans (h33.trans h5)))), (h196.trans (h93.trans (h69.trans (h34.trans h6)))), (by show fl S173 = fl Sb; omega)⟩⟩ (by decide) (by show nx Sb + 0 ≤ nx S173; omega) (by show nx S173 ≤ wr S173; omega) (by show lv S173 = lv Sb + 0; omega) (by show EN S173 ≤ EN Sb + 160 * z228.toInt; omega) (by show nx Sb + 2 * z228.toInt ≤ nx S173; omega) (by show 0 ≤ z228.toInt; omega) (by show z228.toInt ≤ 20000; omega) (by show iv S173 14 1 ≤ iv Sb 14 1 + z228.toInt; omega) (by show iv Sb 14 1 ≤ iv S173 14 1; omega) (by show iv S173 8 1 = iv Sb 8 1; omega) (by show iv S173 10 1 = iv Sb 10 1; omega) (by show (1 : Int) = 0 ∨ kd aw S173 = 22 ∨ kd aw S173 = 69; omega) (by show (z228.toInt = 0 ∧ (1 : Int) = 1) ∨ 1 ≤ z228.toInt; omega) (by show 2147483647 - z228.toInt < (N : Int); omega)
theorem cr_localNames {sc : Nat × (Nat → Int32)} {d aw NN : Nat} {S : am_S} (h : SH aw S) (ihR : RC sc aw NN) (hN : 48 - lv S < (NN : Int) + 1) (hd : (30 : Int) * (48 - lv S) ≤ (d : Int)) (p0 : 0 ≤ nx S) (p1 : nx S ≤ wr S) (p2 : wr S ≤ 600) (p3 : 0 ≤ lv S) (p4 : lv S ≤ 48) (p5 : 1 ≤ iv S 13 1) (p6 : iv S 13 1 ≤ lv S + 1) (p7 : iv S 5 1 ≤ nx S + 1) (p8 : kd aw S = 22) : am_E (am_PP sc) (d + 20) 147 0 [some (.ref 7), none, none, none, none, none, none, none] [] S (am_T (fun v S1 => v = none ∧ Ad aw S S1 ∧ (nx S + 1 ≤ nx S1) ∧ (nx S1 ≤ wr S1) ∧ (lv S1 = lv S + 0) ∧ (EN S1 + -10000 * nx S1 ≤ EN S + -10000 * nx S + (-1000)) ∧ (iv S 8 1 ≤ iv S1 8 1) ∧ (iv S 10 1 ≤ iv S1 10 1)) (fun S1 => TH aw 2000 S S1)) := by
  refine am_e2 (v := 7) hi_147_0 rfl ?_
  refine cm_20f (r := 2) h hi_147_1 (h.1.s (7, 6) (by decide)) (by decide) rfl ?_
  refine am_e32x (as := [.ref 2]) (la := [some (.ref 2)]) (rest := []) hi_147_4 (am_hd0 (M := 147) (by decide) 4) (Nat.le_of_ble_eq_true rfl) (Nat.le_of_ble_eq_true rfl) (show 1 ≤ am_P0.2.2.1 63 from by decide +kernel) rfl (cl_recv (h.1.s (2, 2) (by decide))) rfl rfl ?_
  refine am_e2 (v := 2) hi_63_0 rfl ?_
  refine cm_20i h hi_63_1 (h.1.s (2, 2) (by decide)) (by decide) rfl fun v1 hv1 => ?_
  have hv1_ : v1.toInt = nx S := hv1
  refine am_e33 hi_63_4 ?_
  show am_E _ _ _ _ [some (.ref 7), none, none, none, none, none, none, none] [.int v1] _ _
  refine am_e3 (ls' := [some (.ref 7), some (.int v1), none, none, none, none, none, none]) hi_147_7 (Nat.le_of_ble_eq_true rfl) rfl ?_
  refine am_e2 (v := 7) hi_147_8 rfl ?_
  refine cm_20f (r := 12) h hi_147_9 (h.1.s (7, 6) (by decide)) (by decide) rfl ?_
  refine am_e32n (as := [.ref 12]) (la := [some (.ref 12)]) (rest := []) hi_147_12 (am_hd0 (M := 147) (by decide) 12) (Nat.le_of_ble_eq_true rfl) (Nat.le_of_ble_eq_true rfl) (show 1 ≤ am_P0.2.2.1 75 from by decide +kernel) rfl (cl_recv (h.1.s (12, 7) (by decide))) rfl rfl (ck_scount (d := (d + 18)) h   ) ?_
  rintro v2 S3 ⟨r4, rfl, rfl, h6⟩
  have h6_ : r4.toInt = iv S 14 1 + -1 * fl S := h6
  show am_E _ _ _ _ [some (.ref 7), some (.int v1), none, none, none, none, none, none] [.int r4] _ _
  refine am_e3 (ls' := [some (.ref 7), some (.int v1), some (.int r4), none, none, none, none, none]) hi_147_15 (Nat.le_of_ble_eq_true rfl) rfl ?_
  refine am_e0 hi_147_16 ?_
  refine am_e3 (ls' := [some (.ref 7), some (.int v1), some (.int r4), some (.int (-1)), none, none, none, none]) hi_147_17 (Nat.le_of_ble_eq_true rfl) rfl ?_
  refine am_e0 hi_147_18 ?_
  refine am_e3 (ls' := [some (.ref 7), some (.int v1), some (.int r4), some (.int (-1)), some (.int 0), none, none, none]) hi_147_19 (Nat.le_of_ble_eq_true rfl) rfl ?_
  refine am_e0 hi_147_21 ?_
  refine am_e3 (ls' := [some (.ref 7), some (.int v1), some (.int r4), some (.int (-1)), some (.int 0), some (.int 1), none, none]) hi_147_22 (Nat.le_of_ble_eq_true rfl) rfl ?_
  refine am_e0 hi_147_24 ?_
  refine am_e3 (ls' := [some (.ref 7), some (.int v1), some (.int r4), some (.int (-1)), some (.int 0), some (.int 1), some (.int 0), none]) hi_147_25 (Nat.le_of_ble_eq_true rfl) rfl ?_
  refine cf_localNames (d := d) (Sb := S) (lw := v1) (fs := r4) h   (by show 0 ≤ nx S; omega) (by show nx S ≤ wr S; omega) (by show wr S ≤ 600; omega) (by show 0 ≤ lv S; omega) (by show lv S ≤ 48; omega) (fun S8 h9 => (show TH aw 2000 S S8 from ⟨h9.1, (Ex.refl S).trans h9.2.1, ⟨(by have q := h9.2.2.1.1; omega), h9.2.2.1.2.trans rfl⟩, h9.2.2.2.1, h9.2.2.2.2.1, (by have q := h9.2.2.2.2.2; omega)⟩)) ?_ ((2147483647 - (0 : Int)).toNat + 1) S none (-1) 0 1 0 ⟨h, Ex.refl _, ⟨rfl, rfl⟩, ⟨rfl, rfl, rfl⟩⟩ (by decide) (by show nx S + 0 ≤ nx S; omega) (by show nx S ≤ wr S; omega) (by show lv S = lv S + 0; omega) (by show EN S ≤ EN S + 160 * (0 : Int); omega) (by show nx S + 2 * (0 : Int) ≤ nx S; omega) (by show 0 ≤ (0 : Int); omega) (by show (0 : Int) ≤ 20000; omega) (by show iv S 14 1 ≤ iv S 14 1 + (0 : Int); omega) (by show iv S 14 1 ≤ iv S 14 1; omega) (by show iv S 8 1 = iv S 8 1; omega) (by show iv S 10 1 = iv S 10 1; omega) (by show (1 : Int) = 0 ∨ kd aw S = 22 ∨ kd aw S = 69; omega) (by show ((0 : Int) = 0 ∧ (1 : Int) = 1) ∨ 1 ≤ (0 : Int); omega) (by show 2147483647 - (0 : Int) < _; omega)
  · intro S14 x729 cw10 cs11 m12 n13 h15 hb28 h16 h17 h18 h19 h20 h21 h22 h23 h24 h25 h26 h27
    have hb28_ : m12.toInt = 0 ∨ m12.toInt = 1 := hb28.elim (fun e => Or.inl (by rw [e]; rfl)) (fun e => Or.inr (by rw [e]; rfl))
    have h16_ : nx S + 0 ≤ nx S14 := h16
    have h17_ : nx S14 ≤ wr S14 := h17
    have h18_ : lv S14 = lv S + 0 := h18
    have h19_ : EN S14 ≤ EN S + 160 * n13.toInt := h19
    have h20_ : nx S + 2 * n13.toInt ≤ nx S14 := h20
    have h21_ : 0 ≤ n13.toInt := h21
    have h22_ : n13.toInt ≤ 20000 := h22
    have h23_ : iv S14 14 1 ≤ iv S 14 1 + n13.toInt := h23
    have h24_ : iv S 14 1 ≤ iv S14 14 1 := h24
    have h25_ : iv S14 8 1 = iv S 8 1 := h25
    have h26_ : iv S14 10 1 = iv S 10 1 := h26
    have h27_ : 1 ≤ n13.toInt := h27
    obtain ⟨h30, h31, ⟨h32, h33⟩, ⟨h34, h35, h36⟩⟩ := h15
    have h37 := os_5 h34 1
    have h38 := os_13 h34 1
    show am_E _ _ _ _ [some (.ref 7), some (.int v1), some (.int r4), some (.int cw10), some (.int cs11), some (.int m12), some (.int n13), x729] [] _ _
    refine am_e2 (v := 7) hi_147_142 rfl ?_
    refine cm_20f (r := 12) h30 hi_147_143 (h30.1.s (7, 6) (by decide)) (by decide) rfl ?_
    refine am_e32n (as := [.ref 12]) (la := [some (.ref 12)]) (rest := []) hi_147_146 (am_hd0 (M := 147) (by decide) 146) (Nat.le_of_ble_eq_true rfl) (Nat.le_of_ble_eq_true rfl) (show 1 ≤ am_P0.2.2.1 75 from by decide +kernel) rfl (cl_recv (h30.1.s (12, 7) (by decide))) rfl rfl (ck_scount (d := (d + 18)) h30   ) ?_
    rintro v39 S40 ⟨r41, rfl, rfl, h43⟩
    have h43_ : r41.toInt = iv S14 14 1 + -1 * fl S14 := h43
    show am_E _ _ _ _ [some (.ref 7), some (.int v1), some (.int r4), some (.int cw10), some (.int cs11), some (.int m12), some (.int n13), x729] [.int r41] _ _
    refine am_e1 (v := r4) hi_147_149 rfl ?_
    obtain ⟨z45, hz45, tz45⟩ := am_subI (x := r41) (y := r4) (m := r41.toInt) (n := r4.toInt) rfl rfl (by omega) (by omega)
    refine am_e10 (z := z45) hi_147_150 hz45 ?_
    refine am_e3 (ls' := [some (.ref 7), some (.int v1), some (.int r4), some (.int cw10), some (.int cs11), some (.int m12), some (.int z45), x729]) hi_147_151 (Nat.le_of_ble_eq_true rfl) rfl ?_
    refine am_e0 hi_147_153 ?_
    refine am_e3 (ls' := [some (.ref 7), some (.int v1), some (.int r4), some (.int cw10), some (.int cs11), some (.int m12), some (.int z45), some (.int 0)]) hi_147_154 (Nat.le_of_ble_eq_true rfl) rfl ?_
    refine am_e2 (v := 7) hi_147_156 rfl ?_
    refine cm_20f (r := 2) h30 hi_147_157 (h30.1.s (7, 6) (by decide)) (by decide) rfl ?_
    refine am_e32n (as := [.ref 2]) (la := [some (.ref 2)]) (rest := []) hi_147_160 (am_hd0 (M := 147) (by decide) 160) (Nat.le_of_ble_eq_true rfl) (Nat.le_of_ble_eq_true rfl) (show 1 ≤ am_P0.2.2.1 53 from by decide +kernel) rfl (cl_recv (h30.1.s (2, 2) (by decide))) rfl rfl (ck_kind (d := (d + 18)) h30   ) ?_
    rintro v46 S47 ⟨r48, rfl, rfl, h50⟩
    have h50_ : r48.toInt = kd aw S14 := h50
    show am_E _ _ _ _ [some (.ref 7), some (.int v1), some (.int r4), some (.int cw10), some (.int cs11), some (.int m12), some (.int z45), some (.int 0)] [.int r48] _ _
    refine am_e0 hi_147_163 ?_
    by_cases c52 : ¬ r48.toInt = (59 : Int)
    · refine am_e13t hi_147_165 (am_cT (m := r48.toInt) (n := (59 : Int)) rfl (by decide) c52) ?_
      refine am_e2 (v := 7) hi_147_182 rfl ?_
      refine am_e1 (v := z45) hi_147_183 rfl ?_
      refine am_e1 (v := 0) hi_147_185 rfl ?_
      refine am_e32n (as := [.ref 7, .int z45, .int 0]) (la := [some (.ref 7), some (.int z45), some (.int 0), none]) (rest := []) hi_147_187 (am_hd0 (M := 147) (by decide) 187) (Nat.le_of_ble_eq_true rfl) (Nat.le_of_ble_eq_true rfl) (show 3 ≤ am_P0.2.2.1 117 from by decide +kernel) rfl (cl_recv (h30.1.s (7, 6) (by decide))) rfl rfl (ck_fit (d := (d + 15)) h30   (by show 0 ≤ (0 : Int); omega) (by show 0 ≤ z45.toInt; omega) (by show z45.toInt ≤ 3000000; omega)) ?_
      rintro v53 S54 ⟨rfl, h56, h57, h58, h59, h60⟩
      have h57_ : EN S54 ≤ EN S14 + 160 * z45.toInt + 320 := h57
      have h58_ : iv S54 8 1 = iv S14 8 1 := h58
      have h59_ : iv S54 10 1 = iv S14 10 1 := h59
      have h60_ : iv S54 14 1 = iv S14 14 1 := h60
      obtain ⟨h62, h63, ⟨h64, h65, h66, h67⟩, ⟨h68, h69, h70⟩⟩ := h56
      have h73 : kd aw S54 = kd aw S14 := kd_eq h64 h67
      have h74 := os_5 h68 1
      have h75 := os_13 h68 1
      show am_E _ _ _ _ [some (.ref 7), some (.int v1), some (.int r4), some (.int cw10), some (.int cs11), some (.int m12), some (.int z45), some (.int 0)] [] _ _
      refine am_e2 (v := 7) hi_147_190 rfl ?_
      refine am_e0 hi_147_191 ?_
      refine am_e1 (v := r4) hi_147_193 rfl ?_
      refine am_e1 (v := z45) hi_147_194 rfl ?_
      refine am_e1 (v := v1) hi_147_196 rfl ?_
      refine am_e32n (as := [.ref 7, .int 27, .int r4, .int z45, .int v1]) (la := [some (.ref 7), some (.int 27), some (.int r4), some (.int z45), some (.int v1)]) (rest := []) hi_147_197 (am_hd0 (M := 147) (by decide) 197) (Nat.le_of_ble_eq_true rfl) (Nat.le_of_ble_eq_true rfl) (show 5 ≤ am_P0.2.2.1 78 from by decide +kernel) rfl (cl_recv (h62.1.s (7, 6) (by decide))) rfl rfl (ck_emit (d := (d + 16)) h62   ) ?_
      rintro v76 S77 ⟨r78, rfl, h79, h80, h81, h82⟩
      have h80_ : iv S77 8 1 = iv S54 8 1 := h80
      have h81_ : iv S77 10 1 = iv S54 10 1 := h81
      have h82_ : iv S77 14 1 = iv S54 14 1 := h82
      obtain ⟨h84, h85, ⟨h86, h87, h88, h89⟩, ⟨h90, h91, h92⟩, h94⟩ := h79
      have h95 : kd aw S77 = kd aw S54 := kd_eq h86 h89
      have h96 := os_5 h90 1
      have h97 := os_13 h90 1
      show am_E _ _ _ _ [some (.ref 7), some (.int v1), some (.int r4), some (.int cw10), some (.int cs11), some (.int m12), some (.int z45), some (.int 0)] [.int r78] _ _
      refine am_e6i hi_147_200 ?_
      refine am_e2 (v := 7) hi_147_201 rfl ?_
      refine cm_20f (r := 12) h84 hi_147_202 (h84.1.s (7, 6) (by decide)) (by decide) rfl ?_
      refine am_e1 (v := r4) hi_147_205 rfl ?_
      refine am_e32n (as := [.ref 12, .int r4]) (la := [some (.ref 12), some (.int r4), none]) (rest := []) hi_147_206 (am_hd0 (M := 147) (by decide) 206) (Nat.le_of_ble_eq_true rfl) (Nat.le_of_ble_eq_true rfl) (show 2 ≤ am_P0.2.2.1 149 from by decide +kernel) rfl (cl_recv (h84.1.s (12, 7) (by decide))) rfl rfl (ck_reveal (d := (d + 18)) h84   ) ?_
      rintro v98 S99 ⟨rfl, h101⟩
      obtain ⟨h103, h104, ⟨h105, h106, h107, h108⟩, ⟨h109, h110, h111⟩, h112, h113⟩ := h101
      have h114 : kd aw S99 = kd aw S77 := kd_eq h105 h108
      have h115 := h112 8 (h84.1.s (8, 3) (by decide))
      have h116 := h112 10 (h84.1.s (10, 3) (by decide))
      have h117 := h112 14 (h84.1.s (14, 3) (by decide))
      have h118 := os_5 h109 1
      have h119 := os_13 h109 1
      show am_E _ _ _ _ [some (.ref 7), some (.int v1), some (.int r4), some (.int cw10), some (.int cs11), some (.int m12), some (.int z45), some (.int 0)] [] _ _
      refine am_e1 (v := cw10) hi_147_209 rfl ?_
      by_cases c120 : cw10.toInt < (0 : Int)
      · refine am_e12t hi_147_210 (am_cT (m := cw10.toInt) (n := (0 : Int)) rfl (by decide) c120) ?_
        refine am_e35 hi_147_224 ?_
        exact ⟨rfl, ⟨h103, (((h31.trans h63).trans h85).trans h104), ⟨(by show wr S99 = wr S; omega), (h108.trans (h89.trans (h67.trans h33)))⟩, ⟨(by show iv S99 13 1 = iv S 13 1; omega), (by show iv S99 5 1 - nx S99 ≤ iv S 5 1 - nx S; omega)⟩⟩, (by show nx S + 1 ≤ nx S99; omega), (by show nx S99 ≤ wr S99; omega), (by show lv S99 = lv S + 0; omega), (by show EN S99 + -10000 * nx S99 ≤ EN S + -10000 * nx S + (-1000); omega), (by show iv S 8 1 ≤ iv S99 8 1; omega), (by show iv S 10 1 ≤ iv S99 10 1; omega)⟩
      · refine am_e12f hi_147_210 (am_cF (m := cw10.toInt) (n := (0 : Int)) rfl (by decide) c120) ?_
        refine am_e2 (v := 7) hi_147_213 rfl ?_
        refine am_e0 hi_147_214 ?_
        refine am_e1 (v := cs11) hi_147_216 rfl ?_
        refine am_e0 hi_147_218 ?_
        refine am_e1 (v := cw10) hi_147_219 rfl ?_
        refine am_e32n (as := [.ref 7, .int 28, .int cs11, .int 0, .int cw10]) (la := [some (.ref 7), some (.int 28), some (.int cs11), some (.int 0), some (.int cw10)]) (rest := []) hi_147_220 (am_hd0 (M := 147) (by decide) 220) (Nat.le_of_ble_eq_true rfl) (Nat.le_of_ble_eq_true rfl) (show 5 ≤ am_P0.2.2.1 78 from by decide +kernel) rfl (cl_recv (h103.1.s (7, 6) (by decide))) rfl rfl (ck_emit (d := (d + 16)) h103   ) ?_
        rintro v121 S122 ⟨r123, rfl, h124, h125, h126, h127⟩
        have h125_ : iv S122 8 1 = iv S99 8 1 := h125
        have h126_ : iv S122 10 1 = iv S99 10 1 := h126
        have h127_ : iv S122 14 1 = iv S99 14 1 := h127
        obtain ⟨h129, h130, ⟨h131, h132, h133, h134⟩, ⟨h135, h136, h137⟩, h139⟩ := h124
        have h140 : kd aw S122 = kd aw S99 := kd_eq h131 h134
        have h141 := os_5 h135 1
        have h142 := os_13 h135 1
        show am_E _ _ _ _ [some (.ref 7), some (.int v1), some (.int r4), some (.int cw10), some (.int cs11), some (.int m12), some (.int z45), some (.int 0)] [.int r123] _ _
        refine am_e6i hi_147_223 ?_
        refine am_e35 hi_147_224 ?_
        exact ⟨rfl, ⟨h129, ((((h31.trans h63).trans h85).trans h104).trans h130), ⟨(by show wr S122 = wr S; omega), (h134.trans (h108.trans (h89.trans (h67.trans h33))))⟩, ⟨(by show iv S122 13 1 = iv S 13 1; omega), (by show iv S122 5 1 - nx S122 ≤ iv S 5 1 - nx S; omega)⟩⟩, (by show nx S + 1 ≤ nx S122; omega), (by show nx S122 ≤ wr S122; omega), (by show lv S122 = lv S + 0; omega), (by show EN S122 + -10000 * nx S122 ≤ EN S + -10000 * nx S + (-1000); omega), (by show iv S 8 1 ≤ iv S122 8 1; omega), (by show iv S 10 1 ≤ iv S122 10 1; omega)⟩
    · refine am_e13f hi_147_165 (am_cF (m := r48.toInt) (n := (59 : Int)) rfl (by decide) c52) ?_
      refine am_e2 (v := 7) hi_147_168 rfl ?_
      refine cm_20f (r := 2) h30 hi_147_169 (h30.1.s (7, 6) (by decide)) (by decide) rfl ?_
      refine am_e32t (as := [.ref 2]) (la := [some (.ref 2), none]) (rest := []) hi_147_172 (am_hd0 (M := 147) (by decide) 172) (Nat.le_of_ble_eq_true rfl) (Nat.le_of_ble_eq_true rfl) (show 1 ≤ am_P0.2.2.1 55 from by decide +kernel) rfl (cl_recv (h30.1.s (2, 2) (by decide))) rfl rfl (ck_skip (d := (d + 6)) h30   (by show 0 ≤ nx S14; omega) (by show nx S14 ≤ wr S14; omega) (by show wr S14 ≤ 600; omega) (by show 0 ≤ lv S14; omega) (by show lv S14 ≤ 48; omega) (by show kd aw S14 ≠ 0; omega)) (fun S159 h160 => (show TH aw 2000 S S159 from ⟨h160.1, h31.trans h160.2.1, ⟨(by have q := h160.2.2.1.1; omega), h160.2.2.1.2.trans h33⟩, h160.2.2.2.1, h160.2.2.2.2.1, (by have q := h160.2.2.2.2.2; omega)⟩)) ?_
      rintro v143 S144 ⟨r145, rfl, h146, h147, h148, h149, h150⟩
      have h147_ : nx S144 = nx S14 + 1 := h147
      have h148_ : lv S144 = lv S14 + c_dl (kd aw S14) := h148
      have h149_ : lv S144 ≤ 48 := h149
      have h150_ : nx S144 ≤ wr S144 := h150
      obtain ⟨h161, h162, ⟨h165, h166⟩, ⟨h167, h168, h169⟩, h170, h171⟩ := h146
      have h172 := h170 8 (h30.1.s (8, 3) (by decide))
      have h173 := h170 10 (h30.1.s (10, 3) (by decide))
      have h174 := h170 14 (h30.1.s (14, 3) (by decide))
      have h175 := os_5 h167 1
      have h176 := os_13 h167 1
      have h177 : c_dl (kd aw S14) = 0 := by unfold c_dl; split <;> split <;> omega
      show am_E _ _ _ _ [some (.ref 7), some (.int v1), some (.int r4), some (.int cw10), some (.int cs11), some (.int m12), some (.int z45), some (.int 0)] [.int r145] _ _
      refine am_e6i hi_147_175 ?_
      refine am_e2 (v := 7) hi_147_176 rfl ?_
      refine am_e32q (d1 := d + 0 + 19) (by omega) (as := [.ref 7]) (la := [some (.ref 7), none, none, none]) (rest := []) hi_147_177 (am_hd0 (M := 147) (by decide) 177) (Nat.le_of_ble_eq_true rfl) (Nat.le_of_ble_eq_true rfl) (show 1 ≤ am_P0.2.2.1 112 from by decide +kernel) rfl (cl_recv (h161.1.s (7, 6) (by decide))) rfl rfl (cr_list (d := d + 0) h161  ihR (by show 48 - lv S144 < (NN : Int) + 1; omega) (by show (30 : Int) * (48 - lv S144) ≤ ((d + 0 : Nat) : Int); omega) (by show 0 ≤ nx S144; omega) (by show nx S144 ≤ wr S144; omega) (by show wr S144 ≤ 600; omega) (by show 0 ≤ lv S144; omega) (by show lv S144 ≤ 48; omega) (by show 1 ≤ iv S144 13 1; omega) (by show iv S144 13 1 ≤ lv S144 + 1; omega) (by show iv S144 5 1 ≤ nx S144 + 1; omega)) (fun S190 h191 => (show TH aw 2000 S S190 from ⟨h191.1, (h31.trans h162).trans h191.2.1, ⟨(by have q := h191.2.2.1.1; omega), h191.2.2.1.2.trans (h166.trans h33)⟩, h191.2.2.2.1, h191.2.2.2.2.1, (by have q := h191.2.2.2.2.2; omega)⟩)) ?_
      rintro v178 S179 ⟨r180, rfl, h181, h182, h183, h184, h185, h186, h187, h188⟩
      have h182_ : nx S144 + 1 ≤ nx S179 := h182
      have h183_ : nx S179 ≤ wr S179 := h183
      have h184_ : lv S179 = lv S144 + 0 := h184
      have h185_ : EN S179 + -10000 * nx S179 ≤ EN S144 + -10000 * nx S144 + (-2000) := h185
      have h186_ : iv S144 8 1 ≤ iv S179 8 1 := h186
      have h187_ : iv S144 10 1 ≤ iv S179 10 1 := h187
      have h188_ : 0 ≤ r180.toInt := h188
      obtain ⟨h192, h193, ⟨h196, h197⟩, ⟨h198, h199⟩⟩ := h181
      show am_E _ _ _ _ [some (.ref 7), some (.int v1), some (.int r4), some (.int cw10), some (.int cs11), some (.int m12), some (.int z45), some (.int 0)] [.int r180] _ _
      refine am_e3 (ls' := [some (.ref 7), some (.int v1), some (.int r4), some (.int cw10), some (.int cs11), some (.int m12), some (.int z45), some (.int r180)]) hi_147_180 (Nat.le_of_ble_eq_true rfl) rfl ?_
      refine am_e2 (v := 7) hi_147_182 rfl ?_
      refine am_e1 (v := z45) hi_147_183 rfl ?_
      refine am_e1 (v := r180) hi_147_185 rfl ?_
      refine am_e32n (as := [.ref 7, .int z45, .int r180]) (la := [some (.ref 7), some (.int z45), some (.int r180), none]) (rest := []) hi_147_187 (am_hd0 (M := 147) (by decide) 187) (Nat.le_of_ble_eq_true rfl) (Nat.le_of_ble_eq_true rfl) (show 3 ≤ am_P0.2.2.1 117 from by decide +kernel) rfl (cl_recv (h192.1.s (7, 6) (by decide))) rfl rfl (ck_fit (d := (d + 15)) h192   (by show 0 ≤ r180.toInt; omega) (by show 0 ≤ z45.toInt; omega) (by show z45.toInt ≤ 3000000; omega)) ?_
      rintro v203 S204 ⟨rfl, h206, h207, h208, h209, h210⟩
      have h207_ : EN S204 ≤ EN S179 + 160 * z45.toInt + 320 := h207
      have h208_ : iv S204 8 1 = iv S179 8 1 := h208
      have h209_ : iv S204 10 1 = iv S179 10 1 := h209
      have h210_ : iv S204 14 1 = iv S179 14 1 := h210
      obtain ⟨h212, h213, ⟨h214, h215, h216, h217⟩, ⟨h218, h219, h220⟩⟩ := h206
      have h223 : kd aw S204 = kd aw S179 := kd_eq h214 h217
      have h224 := os_5 h218 1
      have h225 := os_13 h218 1
      show am_E _ _ _ _ [some (.ref 7), some (.int v1), some (.int r4), some (.int cw10), some (.int cs11), some (.int m12), some (.int z45), some (.int r180)] [] _ _
      refine am_e2 (v := 7) hi_147_190 rfl ?_
      refine am_e0 hi_147_191 ?_
      refine am_e1 (v := r4) hi_147_193 rfl ?_
      refine am_e1 (v := z45) hi_147_194 rfl ?_
      refine am_e1 (v := v1) hi_147_196 rfl ?_
      refine am_e32n (as := [.ref 7, .int 27, .int r4, .int z45, .int v1]) (la := [some (.ref 7), some (.int 27), some (.int r4), some (.int z45), some (.int v1)]) (rest := []) hi_147_197 (am_hd0 (M := 147) (by decide) 197) (Nat.le_of_ble_eq_true rfl) (Nat.le_of_ble_eq_true rfl) (show 5 ≤ am_P0.2.2.1 78 from by decide +kernel) rfl (cl_recv (h212.1.s (7, 6) (by decide))) rfl rfl (ck_emit (d := (d + 16)) h212   ) ?_
      rintro v226 S227 ⟨r228, rfl, h229, h230, h231, h232⟩
      have h230_ : iv S227 8 1 = iv S204 8 1 := h230
      have h231_ : iv S227 10 1 = iv S204 10 1 := h231
      have h232_ : iv S227 14 1 = iv S204 14 1 := h232
      obtain ⟨h234, h235, ⟨h236, h237, h238, h239⟩, ⟨h240, h241, h242⟩, h244⟩ := h229
      have h245 : kd aw S227 = kd aw S204 := kd_eq h236 h239
      have h246 := os_5 h240 1
      have h247 := os_13 h240 1
      show am_E _ _ _ _ [some (.ref 7), some (.int v1), some (.int r4), some (.int cw10), some (.int cs11), some (.int m12), some (.int z45), some (.int r180)] [.int r228] _ _
      refine am_e6i hi_147_200 ?_
      refine am_e2 (v := 7) hi_147_201 rfl ?_
      refine cm_20f (r := 12) h234 hi_147_202 (h234.1.s (7, 6) (by decide)) (by decide) rfl ?_
      refine am_e1 (v := r4) hi_147_205 rfl ?_
      refine am_e32n (as := [.ref 12, .int r4]) (la := [some (.ref 12), some (.int r4), none]) (rest := []) hi_147_206 (am_hd0 (M := 147) (by decide) 206) (Nat.le_of_ble_eq_true rfl) (Nat.le_of_ble_eq_true rfl) (show 2 ≤ am_P0.2.2.1 149 from by decide +kernel) rfl (cl_recv (h234.1.s (12, 7) (by decide))) rfl rfl (ck_reveal (d := (d + 18)) h234   ) ?_
      rintro v248 S249 ⟨rfl, h251⟩
      obtain ⟨h253, h254, ⟨h255, h256, h257, h258⟩, ⟨h259, h260, h261⟩, h262, h263⟩ := h251
      have h264 : kd aw S249 = kd aw S227 := kd_eq h255 h258
      have h265 := h262 8 (h234.1.s (8, 3) (by decide))
      have h266 := h262 10 (h234.1.s (10, 3) (by decide))
      have h267 := h262 14 (h234.1.s (14, 3) (by decide))
      have h268 := os_5 h259 1
      have h269 := os_13 h259 1
      show am_E _ _ _ _ [some (.ref 7), some (.int v1), some (.int r4), some (.int cw10), some (.int cs11), some (.int m12), some (.int z45), some (.int r180)] [] _ _
      refine am_e1 (v := cw10) hi_147_209 rfl ?_
      by_cases c270 : cw10.toInt < (0 : Int)
      · refine am_e12t hi_147_210 (am_cT (m := cw10.toInt) (n := (0 : Int)) rfl (by decide) c270) ?_
        refine am_e35 hi_147_224 ?_
        exact ⟨rfl, ⟨h253, (((((h31.trans h162).trans h193).trans h213).trans h235).trans h254), ⟨(by show wr S249 = wr S; omega), (h258.trans (h239.trans (h217.trans (h197.trans (h166.trans h33)))))⟩, ⟨(by show iv S249 13 1 = iv S 13 1; omega), (by show iv S249 5 1 - nx S249 ≤ iv S 5 1 - nx S; omega)⟩⟩, (by show nx S + 1 ≤ nx S249; omega), (by show nx S249 ≤ wr S249; omega), (by show lv S249 = lv S + 0; omega), (by show EN S249 + -10000 * nx S249 ≤ EN S + -10000 * nx S + (-1000); omega), (by show iv S 8 1 ≤ iv S249 8 1; omega), (by show iv S 10 1 ≤ iv S249 10 1; omega)⟩
      · refine am_e12f hi_147_210 (am_cF (m := cw10.toInt) (n := (0 : Int)) rfl (by decide) c270) ?_
        refine am_e2 (v := 7) hi_147_213 rfl ?_
        refine am_e0 hi_147_214 ?_
        refine am_e1 (v := cs11) hi_147_216 rfl ?_
        refine am_e0 hi_147_218 ?_
        refine am_e1 (v := cw10) hi_147_219 rfl ?_
        refine am_e32n (as := [.ref 7, .int 28, .int cs11, .int 0, .int cw10]) (la := [some (.ref 7), some (.int 28), some (.int cs11), some (.int 0), some (.int cw10)]) (rest := []) hi_147_220 (am_hd0 (M := 147) (by decide) 220) (Nat.le_of_ble_eq_true rfl) (Nat.le_of_ble_eq_true rfl) (show 5 ≤ am_P0.2.2.1 78 from by decide +kernel) rfl (cl_recv (h253.1.s (7, 6) (by decide))) rfl rfl (ck_emit (d := (d + 16)) h253   ) ?_
        rintro v271 S272 ⟨r273, rfl, h274, h275, h276, h277⟩
        have h275_ : iv S272 8 1 = iv S249 8 1 := h275
        have h276_ : iv S272 10 1 = iv S249 10 1 := h276
        have h277_ : iv S272 14 1 = iv S249 14 1 := h277
        obtain ⟨h279, h280, ⟨h281, h282, h283, h284⟩, ⟨h285, h286, h287⟩, h289⟩ := h274
        have h290 : kd aw S272 = kd aw S249 := kd_eq h281 h284
        have h291 := os_5 h285 1
        have h292 := os_13 h285 1
        show am_E _ _ _ _ [some (.ref 7), some (.int v1), some (.int r4), some (.int cw10), some (.int cs11), some (.int m12), some (.int z45), some (.int r180)] [.int r273] _ _
        refine am_e6i hi_147_223 ?_
        refine am_e35 hi_147_224 ?_
        exact ⟨rfl, ⟨h279, ((((((h31.trans h162).trans h193).trans h213).trans h235).trans h254).trans h280), ⟨(by show wr S272 = wr S; omega), (h284.trans (h258.trans (h239.trans (h217.trans (h197.trans (h166.trans h33))))))⟩, ⟨(by show iv S272 13 1 = iv S 13 1; omega), (by show iv S272 5 1 - nx S272 ≤ iv S 5 1 - nx S; omega)⟩⟩, (by show nx S + 1 ≤ nx S272; omega), (by show nx S272 ≤ wr S272; omega), (by show lv S272 = lv S + 0; omega), (by show EN S272 + -10000 * nx S272 ≤ EN S + -10000 * nx S + (-1000); omega), (by show iv S 8 1 ≤ iv S272 8 1; omega), (by show iv S 10 1 ≤ iv S272 10 1; omega)⟩
theorem cr_return {sc : Nat × (Nat → Int32)} {d aw NN : Nat} {S : am_S} (h : SH aw S) (ihR : RC sc aw NN) (hN : 48 - lv S < (NN : Int) + 1) (hd : (30 : Int) * (48 - lv S) ≤ (d : Int)) (p0 : 0 ≤ nx S) (p1 : nx S ≤ wr S) (p2 : wr S ≤ 600) (p3 : 0 ≤ lv S) (p4 : lv S ≤ 48) (p5 : 1 ≤ iv S 13 1) (p6 : iv S 13 1 ≤ lv S + 1) (p7 : iv S 5 1 ≤ nx S + 1) (p8 : kd aw S = 27) : am_E (am_PP sc) (d + 20) 150 0 [some (.ref 7), none, none, none] [] S (am_T (fun v S1 => v = none ∧ Ad aw S S1 ∧ (nx S + 1 ≤ nx S1) ∧ (nx S1 ≤ wr S1) ∧ (lv S1 = lv S + 0) ∧ (EN S1 + -10000 * nx S1 ≤ EN S + -10000 * nx S + (-5000)) ∧ (iv S 8 1 ≤ iv S1 8 1) ∧ (iv S 10 1 ≤ iv S1 10 1)) (fun S1 => TH aw 2000 S S1)) := by
  refine am_e2 (v := 7) hi_150_0 rfl ?_
  refine cm_20f (r := 2) h hi_150_1 (h.1.s (7, 6) (by decide)) (by decide) rfl ?_
  refine am_e32x (as := [.ref 2]) (la := [some (.ref 2)]) (rest := []) hi_150_4 (am_hd0 (M := 150) (by decide) 4) (Nat.le_of_ble_eq_true rfl) (Nat.le_of_ble_eq_true rfl) (show 1 ≤ am_P0.2.2.1 63 from by decide +kernel) rfl (cl_recv (h.1.s (2, 2) (by decide))) rfl rfl ?_
  refine am_e2 (v := 2) hi_63_0 rfl ?_
  refine cm_20i h hi_63_1 (h.1.s (2, 2) (by decide)) (by decide) rfl fun v1 hv1 => ?_
  have hv1_ : v1.toInt = nx S := hv1
  refine am_e33 hi_63_4 ?_
  show am_E _ _ _ _ [some (.ref 7), none, none, none] [.int v1] _ _
  refine am_e3 (ls' := [some (.ref 7), some (.int v1), none, none]) hi_150_7 (Nat.le_of_ble_eq_true rfl) rfl ?_
  refine am_e2 (v := 7) hi_150_8 rfl ?_
  refine cm_20f (r := 2) h hi_150_9 (h.1.s (7, 6) (by decide)) (by decide) rfl ?_
  refine am_e32t (as := [.ref 2]) (la := [some (.ref 2), none]) (rest := []) hi_150_12 (am_hd0 (M := 150) (by decide) 12) (Nat.le_of_ble_eq_true rfl) (Nat.le_of_ble_eq_true rfl) (show 1 ≤ am_P0.2.2.1 55 from by decide +kernel) rfl (cl_recv (h.1.s (2, 2) (by decide))) rfl rfl (ck_skip (d := (d + 6)) h   (by show 0 ≤ nx S; omega) (by show nx S ≤ wr S; omega) (by show wr S ≤ 600; omega) (by show 0 ≤ lv S; omega) (by show lv S ≤ 48; omega) (by show kd aw S ≠ 0; omega)) (fun S18 h19 => (show TH aw 2000 S S18 from ⟨h19.1, (Ex.refl S).trans h19.2.1, ⟨(by have q := h19.2.2.1.1; omega), h19.2.2.1.2.trans rfl⟩, h19.2.2.2.1, h19.2.2.2.2.1, (by have q := h19.2.2.2.2.2; omega)⟩)) ?_
  rintro v2 S3 ⟨r4, rfl, h5, h6, h7, h8, h9⟩
  have h6_ : nx S3 = nx S + 1 := h6
  have h7_ : lv S3 = lv S + c_dl (kd aw S) := h7
  have h8_ : lv S3 ≤ 48 := h8
  have h9_ : nx S3 ≤ wr S3 := h9
  obtain ⟨h20, h21, ⟨h24, h25⟩, ⟨h26, h27, h28⟩, h29, h30⟩ := h5
  have h31 := h29 8 (h.1.s (8, 3) (by decide))
  have h32 := h29 10 (h.1.s (10, 3) (by decide))
  have h33 := os_5 h26 1
  have h34 := os_13 h26 1
  have h35 : c_dl (kd aw S) = 0 := by unfold c_dl; split <;> split <;> omega
  show am_E _ _ _ _ [some (.ref 7), some (.int v1), none, none] [.int r4] _ _
  refine am_e6i hi_150_15 ?_
  refine am_e0 hi_150_16 ?_
  refine am_e3 (ls' := [some (.ref 7), some (.int v1), some (.int 0), none]) hi_150_17 (Nat.le_of_ble_eq_true rfl) rfl ?_
  refine am_e2 (v := 7) hi_150_18 rfl ?_
  refine cm_20f (r := 2) h20 hi_150_19 (h20.1.s (7, 6) (by decide)) (by decide) rfl ?_
  refine am_e32n (as := [.ref 2]) (la := [some (.ref 2)]) (rest := []) hi_150_22 (am_hd0 (M := 150) (by decide) 22) (Nat.le_of_ble_eq_true rfl) (Nat.le_of_ble_eq_true rfl) (show 1 ≤ am_P0.2.2.1 53 from by decide +kernel) rfl (cl_recv (h20.1.s (2, 2) (by decide))) rfl rfl (ck_kind (d := (d + 18)) h20   ) ?_
  rintro v36 S37 ⟨r38, rfl, rfl, h40⟩
  have h40_ : r38.toInt = kd aw S3 := h40
  show am_E _ _ _ _ [some (.ref 7), some (.int v1), some (.int 0), none] [.int r38] _ _
  refine am_e0 hi_150_25 ?_
  by_cases c42 : r38.toInt = (67 : Int)
  · refine am_e13t hi_150_27 (am_cT (m := r38.toInt) (n := (67 : Int)) rfl (by decide) c42) ?_
    refine am_e1 (v := 0) hi_150_48 rfl ?_
    refine am_e12t hi_150_49 (by decide) ?_
    refine am_e0 hi_150_63 ?_
    refine am_e3 (ls' := [some (.ref 7), some (.int v1), some (.int 0), some (.int 0)]) hi_150_64 (Nat.le_of_ble_eq_true rfl) rfl ?_
    refine am_e1 (v := 0) hi_150_65 rfl ?_
    refine am_e12t hi_150_66 (by decide) ?_
    refine am_e1 (v := 0) hi_150_124 rfl ?_
    refine am_e12t hi_150_125 (by decide) ?_
    refine am_e2 (v := 7) hi_150_147 rfl ?_
    refine am_e0 hi_150_148 ?_
    refine am_e1 (v := 0) hi_150_150 rfl ?_
    refine am_e0 hi_150_151 ?_
    refine am_e1 (v := v1) hi_150_152 rfl ?_
    refine am_e32n (as := [.ref 7, .int 45, .int 0, .int 0, .int v1]) (la := [some (.ref 7), some (.int 45), some (.int 0), some (.int 0), some (.int v1)]) (rest := []) hi_150_153 (am_hd0 (M := 150) (by decide) 153) (Nat.le_of_ble_eq_true rfl) (Nat.le_of_ble_eq_true rfl) (show 5 ≤ am_P0.2.2.1 78 from by decide +kernel) rfl (cl_recv (h20.1.s (7, 6) (by decide))) rfl rfl (ck_emit (d := (d + 16)) h20   ) ?_
    rintro v43 S44 ⟨r45, rfl, h46, h47, h48, h49⟩
    have h47_ : iv S44 8 1 = iv S3 8 1 := h47
    have h48_ : iv S44 10 1 = iv S3 10 1 := h48
    have h49_ : iv S44 14 1 = iv S3 14 1 := h49
    obtain ⟨h51, h52, ⟨h53, h54, h55, h56⟩, ⟨h57, h58, h59⟩, h61⟩ := h46
    have h62 : kd aw S44 = kd aw S3 := kd_eq h53 h56
    have h63 := os_5 h57 1
    have h64 := os_13 h57 1
    show am_E _ _ _ _ [some (.ref 7), some (.int v1), some (.int 0), some (.int 0)] [.int r45] _ _
    refine am_e6i hi_150_156 ?_
    refine am_e2 (v := 7) hi_150_157 rfl ?_
    refine cm_20f (r := 2) h51 hi_150_158 (h51.1.s (7, 6) (by decide)) (by decide) rfl ?_
    refine am_e32n (as := [.ref 2]) (la := [some (.ref 2)]) (rest := []) hi_150_161 (am_hd0 (M := 150) (by decide) 161) (Nat.le_of_ble_eq_true rfl) (Nat.le_of_ble_eq_true rfl) (show 1 ≤ am_P0.2.2.1 53 from by decide +kernel) rfl (cl_recv (h51.1.s (2, 2) (by decide))) rfl rfl (ck_kind (d := (d + 18)) h51   ) ?_
    rintro v65 S66 ⟨r67, rfl, rfl, h69⟩
    have h69_ : r67.toInt = kd aw S44 := h69
    show am_E _ _ _ _ [some (.ref 7), some (.int v1), some (.int 0), some (.int 0)] [.int r67] _ _
    refine am_e0 hi_150_164 ?_
    refine am_e13f hi_150_166 (am_cF (m := r67.toInt) (n := (67 : Int)) rfl (by decide) (by simp only [am_cI]; omega)) ?_
    refine am_e2 (v := 7) hi_150_169 rfl ?_
    refine cm_20f (r := 2) h51 hi_150_170 (h51.1.s (7, 6) (by decide)) (by decide) rfl ?_
    refine am_e32t (as := [.ref 2]) (la := [some (.ref 2), none]) (rest := []) hi_150_173 (am_hd0 (M := 150) (by decide) 173) (Nat.le_of_ble_eq_true rfl) (Nat.le_of_ble_eq_true rfl) (show 1 ≤ am_P0.2.2.1 55 from by decide +kernel) rfl (cl_recv (h51.1.s (2, 2) (by decide))) rfl rfl (ck_skip (d := (d + 6)) h51   (by show 0 ≤ nx S44; omega) (by show nx S44 ≤ wr S44; omega) (by show wr S44 ≤ 600; omega) (by show 0 ≤ lv S44; omega) (by show lv S44 ≤ 48; omega) (by show kd aw S44 ≠ 0; omega)) (fun S87 h88 => (show TH aw 2000 S S87 from ⟨h88.1, (h21.trans h52).trans h88.2.1, ⟨(by have q := h88.2.2.1.1; omega), h88.2.2.1.2.trans (h56.trans h25)⟩, h88.2.2.2.1, h88.2.2.2.2.1, (by have q := h88.2.2.2.2.2; omega)⟩)) ?_
    rintro v71 S72 ⟨r73, rfl, h74, h75, h76, h77, h78⟩
    have h75_ : nx S72 = nx S44 + 1 := h75
    have h76_ : lv S72 = lv S44 + c_dl (kd aw S44) := h76
    have h77_ : lv S72 ≤ 48 := h77
    have h78_ : nx S72 ≤ wr S72 := h78
    obtain ⟨h89, h90, ⟨h93, h94⟩, ⟨h95, h96, h97⟩, h98, h99⟩ := h74
    have h100 := h98 8 (h51.1.s (8, 3) (by decide))
    have h101 := h98 10 (h51.1.s (10, 3) (by decide))
    have h102 := os_5 h95 1
    have h103 := os_13 h95 1
    have h104 : c_dl (kd aw S44) = 0 := by unfold c_dl; split <;> split <;> omega
    show am_E _ _ _ _ [some (.ref 7), some (.int v1), some (.int 0), some (.int 0)] [.int r73] _ _
    refine am_e6i hi_150_176 ?_
    refine am_e35 hi_150_177 ?_
    exact ⟨rfl, ⟨h89, ((h21.trans h52).trans h90), ⟨(by show wr S72 = wr S; omega), (h94.trans (h56.trans h25))⟩, ⟨(by show iv S72 13 1 = iv S 13 1; omega), (by show iv S72 5 1 - nx S72 ≤ iv S 5 1 - nx S; omega)⟩⟩, (by show nx S + 1 ≤ nx S72; omega), (by show nx S72 ≤ wr S72; omega), (by show lv S72 = lv S + 0; omega), (by show EN S72 + -10000 * nx S72 ≤ EN S + -10000 * nx S + (-5000); omega), (by show iv S 8 1 ≤ iv S72 8 1; omega), (by show iv S 10 1 ≤ iv S72 10 1; omega)⟩
  · refine am_e13f hi_150_27 (am_cF (m := r38.toInt) (n := (67 : Int)) rfl (by decide) c42) ?_
    refine am_e2 (v := 7) hi_150_30 rfl ?_
    refine cm_20f (r := 2) h20 hi_150_31 (h20.1.s (7, 6) (by decide)) (by decide) rfl ?_
    refine am_e32n (as := [.ref 2]) (la := [some (.ref 2)]) (rest := []) hi_150_34 (am_hd0 (M := 150) (by decide) 34) (Nat.le_of_ble_eq_true rfl) (Nat.le_of_ble_eq_true rfl) (show 1 ≤ am_P0.2.2.1 53 from by decide +kernel) rfl (cl_recv (h20.1.s (2, 2) (by decide))) rfl rfl (ck_kind (d := (d + 18)) h20   ) ?_
    rintro v105 S106 ⟨r107, rfl, rfl, h109⟩
    have h109_ : r107.toInt = kd aw S3 := h109
    show am_E _ _ _ _ [some (.ref 7), some (.int v1), some (.int 0), none] [.int r107] _ _
    refine am_e32n (as := [.int r107]) (la := [some (.int r107)]) (rest := []) hi_150_37 (am_hd0 (M := 150) (by decide) 37) (Nat.le_of_ble_eq_true rfl) (Nat.le_of_ble_eq_true rfl) (show 1 ≤ am_P0.2.2.1 121 from by decide +kernel) rfl rfl rfl rfl (ck_ends (d := (d + 19)) h20   ) ?_
    rintro v111 S112 ⟨r113, rfl, hb116, rfl, h115⟩
    have h115_ : (r113.toInt = 1 ∧ (r107.toInt = 0 ∨ r107.toInt = 15 ∨ r107.toInt = 13 ∨ r107.toInt = 14 ∨ r107.toInt = 30)) ∨ (r113.toInt = 0 ∧ ¬ (r107.toInt = 0 ∨ r107.toInt = 15 ∨ r107.toInt = 13 ∨ r107.toInt = 14 ∨ r107.toInt = 30)) := h115
    have hb116_ : r113.toInt = 0 ∨ r113.toInt = 1 := hb116.elim (fun e => Or.inl (by rw [e]; rfl)) (fun e => Or.inr (by rw [e]; rfl))
    show am_E _ _ _ _ [some (.ref 7), some (.int v1), some (.int 0), none] [.int r113] _ _
    by_cases c117 : ¬ r113.toInt = (0 : Int)
    · refine am_e12t hi_150_40 (am_cT (m := r113.toInt) (n := (0 : Int)) rfl (by decide) c117) ?_
      refine am_e1 (v := 0) hi_150_48 rfl ?_
      refine am_e12t hi_150_49 (by decide) ?_
      refine am_e0 hi_150_63 ?_
      refine am_e3 (ls' := [some (.ref 7), some (.int v1), some (.int 0), some (.int 0)]) hi_150_64 (Nat.le_of_ble_eq_true rfl) rfl ?_
      refine am_e1 (v := 0) hi_150_65 rfl ?_
      refine am_e12t hi_150_66 (by decide) ?_
      refine am_e1 (v := 0) hi_150_124 rfl ?_
      refine am_e12t hi_150_125 (by decide) ?_
      refine am_e2 (v := 7) hi_150_147 rfl ?_
      refine am_e0 hi_150_148 ?_
      refine am_e1 (v := 0) hi_150_150 rfl ?_
      refine am_e0 hi_150_151 ?_
      refine am_e1 (v := v1) hi_150_152 rfl ?_
      refine am_e32n (as := [.ref 7, .int 45, .int 0, .int 0, .int v1]) (la := [some (.ref 7), some (.int 45), some (.int 0), some (.int 0), some (.int v1)]) (rest := []) hi_150_153 (am_hd0 (M := 150) (by decide) 153) (Nat.le_of_ble_eq_true rfl) (Nat.le_of_ble_eq_true rfl) (show 5 ≤ am_P0.2.2.1 78 from by decide +kernel) rfl (cl_recv (h20.1.s (7, 6) (by decide))) rfl rfl (ck_emit (d := (d + 16)) h20   ) ?_
      rintro v118 S119 ⟨r120, rfl, h121, h122, h123, h124⟩
      have h122_ : iv S119 8 1 = iv S3 8 1 := h122
      have h123_ : iv S119 10 1 = iv S3 10 1 := h123
      have h124_ : iv S119 14 1 = iv S3 14 1 := h124
      obtain ⟨h126, h127, ⟨h128, h129, h130, h131⟩, ⟨h132, h133, h134⟩, h136⟩ := h121
      have h137 : kd aw S119 = kd aw S3 := kd_eq h128 h131
      have h138 := os_5 h132 1
      have h139 := os_13 h132 1
      show am_E _ _ _ _ [some (.ref 7), some (.int v1), some (.int 0), some (.int 0)] [.int r120] _ _
      refine am_e6i hi_150_156 ?_
      refine am_e2 (v := 7) hi_150_157 rfl ?_
      refine cm_20f (r := 2) h126 hi_150_158 (h126.1.s (7, 6) (by decide)) (by decide) rfl ?_
      refine am_e32n (as := [.ref 2]) (la := [some (.ref 2)]) (rest := []) hi_150_161 (am_hd0 (M := 150) (by decide) 161) (Nat.le_of_ble_eq_true rfl) (Nat.le_of_ble_eq_true rfl) (show 1 ≤ am_P0.2.2.1 53 from by decide +kernel) rfl (cl_recv (h126.1.s (2, 2) (by decide))) rfl rfl (ck_kind (d := (d + 18)) h126   ) ?_
      rintro v140 S141 ⟨r142, rfl, rfl, h144⟩
      have h144_ : r142.toInt = kd aw S119 := h144
      show am_E _ _ _ _ [some (.ref 7), some (.int v1), some (.int 0), some (.int 0)] [.int r142] _ _
      refine am_e0 hi_150_164 ?_
      refine am_e13t hi_150_166 (am_cT (m := r142.toInt) (n := (67 : Int)) rfl (by decide) (by simp only [am_cI]; omega)) ?_
      refine am_e35 hi_150_177 ?_
      exact ⟨rfl, ⟨h126, (h21.trans h127), ⟨(by show wr S119 = wr S; omega), (h131.trans h25)⟩, ⟨(by show iv S119 13 1 = iv S 13 1; omega), (by show iv S119 5 1 - nx S119 ≤ iv S 5 1 - nx S; omega)⟩⟩, (by show nx S + 1 ≤ nx S119; omega), (by show nx S119 ≤ wr S119; omega), (by show lv S119 = lv S + 0; omega), (by show EN S119 + -10000 * nx S119 ≤ EN S + -10000 * nx S + (-5000); omega), (by show iv S 8 1 ≤ iv S119 8 1; omega), (by show iv S 10 1 ≤ iv S119 10 1; omega)⟩
    · refine am_e12f hi_150_40 (am_cF (m := r113.toInt) (n := (0 : Int)) rfl (by decide) c117) ?_
      refine am_e2 (v := 7) hi_150_43 rfl ?_
      refine am_e32q (d1 := d + 0 + 19) (by omega) (as := [.ref 7]) (la := [some (.ref 7), none, none, none]) (rest := []) hi_150_44 (am_hd0 (M := 150) (by decide) 44) (Nat.le_of_ble_eq_true rfl) (Nat.le_of_ble_eq_true rfl) (show 1 ≤ am_P0.2.2.1 112 from by decide +kernel) rfl (cl_recv (h20.1.s (7, 6) (by decide))) rfl rfl (cr_list (d := d + 0) h20  ihR (by show 48 - lv S3 < (NN : Int) + 1; omega) (by show (30 : Int) * (48 - lv S3) ≤ ((d + 0 : Nat) : Int); omega) (by show 0 ≤ nx S3; omega) (by show nx S3 ≤ wr S3; omega) (by show wr S3 ≤ 600; omega) (by show 0 ≤ lv S3; omega) (by show lv S3 ≤ 48; omega) (by show 1 ≤ iv S3 13 1; omega) (by show iv S3 13 1 ≤ lv S3 + 1; omega) (by show iv S3 5 1 ≤ nx S3 + 1; omega)) (fun S158 h159 => (show TH aw 2000 S S158 from ⟨h159.1, h21.trans h159.2.1, ⟨(by have q := h159.2.2.1.1; omega), h159.2.2.1.2.trans h25⟩, h159.2.2.2.1, h159.2.2.2.2.1, (by have q := h159.2.2.2.2.2; omega)⟩)) ?_
      rintro v146 S147 ⟨r148, rfl, h149, h150, h151, h152, h153, h154, h155, h156⟩
      have h150_ : nx S3 + 1 ≤ nx S147 := h150
      have h151_ : nx S147 ≤ wr S147 := h151
      have h152_ : lv S147 = lv S3 + 0 := h152
      have h153_ : EN S147 + -10000 * nx S147 ≤ EN S3 + -10000 * nx S3 + (-2000) := h153
      have h154_ : iv S3 8 1 ≤ iv S147 8 1 := h154
      have h155_ : iv S3 10 1 ≤ iv S147 10 1 := h155
      have h156_ : 0 ≤ r148.toInt := h156
      obtain ⟨h160, h161, ⟨h164, h165⟩, ⟨h166, h167⟩⟩ := h149
      show am_E _ _ _ _ [some (.ref 7), some (.int v1), some (.int 0), none] [.int r148] _ _
      refine am_e3 (ls' := [some (.ref 7), some (.int v1), some (.int r148), none]) hi_150_47 (Nat.le_of_ble_eq_true rfl) rfl ?_
      refine am_e1 (v := r148) hi_150_48 rfl ?_
      by_cases c171 : r148.toInt ≤ (0 : Int)
      · refine am_e12t hi_150_49 (am_cT (m := r148.toInt) (n := (0 : Int)) rfl (by decide) c171) ?_
        refine am_e0 hi_150_63 ?_
        refine am_e3 (ls' := [some (.ref 7), some (.int v1), some (.int r148), some (.int 0)]) hi_150_64 (Nat.le_of_ble_eq_true rfl) rfl ?_
        refine am_e1 (v := 0) hi_150_65 rfl ?_
        refine am_e12t hi_150_66 (by decide) ?_
        refine am_e1 (v := 0) hi_150_124 rfl ?_
        refine am_e12t hi_150_125 (by decide) ?_
        refine am_e2 (v := 7) hi_150_147 rfl ?_
        refine am_e0 hi_150_148 ?_
        refine am_e1 (v := r148) hi_150_150 rfl ?_
        refine am_e0 hi_150_151 ?_
        refine am_e1 (v := v1) hi_150_152 rfl ?_
        refine am_e32n (as := [.ref 7, .int 45, .int r148, .int 0, .int v1]) (la := [some (.ref 7), some (.int 45), some (.int r148), some (.int 0), some (.int v1)]) (rest := []) hi_150_153 (am_hd0 (M := 150) (by decide) 153) (Nat.le_of_ble_eq_true rfl) (Nat.le_of_ble_eq_true rfl) (show 5 ≤ am_P0.2.2.1 78 from by decide +kernel) rfl (cl_recv (h160.1.s (7, 6) (by decide))) rfl rfl (ck_emit (d := (d + 16)) h160   ) ?_
        rintro v172 S173 ⟨r174, rfl, h175, h176, h177, h178⟩
        have h176_ : iv S173 8 1 = iv S147 8 1 := h176
        have h177_ : iv S173 10 1 = iv S147 10 1 := h177
        have h178_ : iv S173 14 1 = iv S147 14 1 := h178
        obtain ⟨h180, h181, ⟨h182, h183, h184, h185⟩, ⟨h186, h187, h188⟩, h190⟩ := h175
        have h191 : kd aw S173 = kd aw S147 := kd_eq h182 h185
        have h192 := os_5 h186 1
        have h193 := os_13 h186 1
        show am_E _ _ _ _ [some (.ref 7), some (.int v1), some (.int r148), some (.int 0)] [.int r174] _ _
        refine am_e6i hi_150_156 ?_
        refine am_e2 (v := 7) hi_150_157 rfl ?_
        refine cm_20f (r := 2) h180 hi_150_158 (h180.1.s (7, 6) (by decide)) (by decide) rfl ?_
        refine am_e32n (as := [.ref 2]) (la := [some (.ref 2)]) (rest := []) hi_150_161 (am_hd0 (M := 150) (by decide) 161) (Nat.le_of_ble_eq_true rfl) (Nat.le_of_ble_eq_true rfl) (show 1 ≤ am_P0.2.2.1 53 from by decide +kernel) rfl (cl_recv (h180.1.s (2, 2) (by decide))) rfl rfl (ck_kind (d := (d + 18)) h180   ) ?_
        rintro v194 S195 ⟨r196, rfl, rfl, h198⟩
        have h198_ : r196.toInt = kd aw S173 := h198
        show am_E _ _ _ _ [some (.ref 7), some (.int v1), some (.int r148), some (.int 0)] [.int r196] _ _
        refine am_e0 hi_150_164 ?_
        by_cases c200 : ¬ r196.toInt = (67 : Int)
        · refine am_e13t hi_150_166 (am_cT (m := r196.toInt) (n := (67 : Int)) rfl (by decide) c200) ?_
          refine am_e35 hi_150_177 ?_
          exact ⟨rfl, ⟨h180, ((h21.trans h161).trans h181), ⟨(by show wr S173 = wr S; omega), (h185.trans (h165.trans h25))⟩, ⟨(by show iv S173 13 1 = iv S 13 1; omega), (by show iv S173 5 1 - nx S173 ≤ iv S 5 1 - nx S; omega)⟩⟩, (by show nx S + 1 ≤ nx S173; omega), (by show nx S173 ≤ wr S173; omega), (by show lv S173 = lv S + 0; omega), (by show EN S173 + -10000 * nx S173 ≤ EN S + -10000 * nx S + (-5000); omega), (by show iv S 8 1 ≤ iv S173 8 1; omega), (by show iv S 10 1 ≤ iv S173 10 1; omega)⟩
        · refine am_e13f hi_150_166 (am_cF (m := r196.toInt) (n := (67 : Int)) rfl (by decide) c200) ?_
          refine am_e2 (v := 7) hi_150_169 rfl ?_
          refine cm_20f (r := 2) h180 hi_150_170 (h180.1.s (7, 6) (by decide)) (by decide) rfl ?_
          refine am_e32t (as := [.ref 2]) (la := [some (.ref 2), none]) (rest := []) hi_150_173 (am_hd0 (M := 150) (by decide) 173) (Nat.le_of_ble_eq_true rfl) (Nat.le_of_ble_eq_true rfl) (show 1 ≤ am_P0.2.2.1 55 from by decide +kernel) rfl (cl_recv (h180.1.s (2, 2) (by decide))) rfl rfl (ck_skip (d := (d + 6)) h180   (by show 0 ≤ nx S173; omega) (by show nx S173 ≤ wr S173; omega) (by show wr S173 ≤ 600; omega) (by show 0 ≤ lv S173; omega) (by show lv S173 ≤ 48; omega) (by show kd aw S173 ≠ 0; omega)) (fun S217 h218 => (show TH aw 2000 S S217 from ⟨h218.1, ((h21.trans h161).trans h181).trans h218.2.1, ⟨(by have q := h218.2.2.1.1; omega), h218.2.2.1.2.trans (h185.trans (h165.trans h25))⟩, h218.2.2.2.1, h218.2.2.2.2.1, (by have q := h218.2.2.2.2.2; omega)⟩)) ?_
          rintro v201 S202 ⟨r203, rfl, h204, h205, h206, h207, h208⟩
          have h205_ : nx S202 = nx S173 + 1 := h205
          have h206_ : lv S202 = lv S173 + c_dl (kd aw S173) := h206
          have h207_ : lv S202 ≤ 48 := h207
          have h208_ : nx S202 ≤ wr S202 := h208
          obtain ⟨h219, h220, ⟨h223, h224⟩, ⟨h225, h226, h227⟩, h228, h229⟩ := h204
          have h230 := h228 8 (h180.1.s (8, 3) (by decide))
          have h231 := h228 10 (h180.1.s (10, 3) (by decide))
          have h232 := os_5 h225 1
          have h233 := os_13 h225 1
          have h234 : c_dl (kd aw S173) = 0 := by unfold c_dl; split <;> split <;> omega
          show am_E _ _ _ _ [some (.ref 7), some (.int v1), some (.int r148), some (.int 0)] [.int r203] _ _
          refine am_e6i hi_150_176 ?_
          refine am_e35 hi_150_177 ?_
          exact ⟨rfl, ⟨h219, (((h21.trans h161).trans h181).trans h220), ⟨(by show wr S202 = wr S; omega), (h224.trans (h185.trans (h165.trans h25)))⟩, ⟨(by show iv S202 13 1 = iv S 13 1; omega), (by show iv S202 5 1 - nx S202 ≤ iv S 5 1 - nx S; omega)⟩⟩, (by show nx S + 1 ≤ nx S202; omega), (by show nx S202 ≤ wr S202; omega), (by show lv S202 = lv S + 0; omega), (by show EN S202 + -10000 * nx S202 ≤ EN S + -10000 * nx S + (-5000); omega), (by show iv S 8 1 ≤ iv S202 8 1; omega), (by show iv S 10 1 ≤ iv S202 10 1; omega)⟩
      · refine am_e12f hi_150_49 (am_cF (m := r148.toInt) (n := (0 : Int)) rfl (by decide) c171) ?_
        refine am_e2 (v := 7) hi_150_52 rfl ?_
        refine cm_20z h160 hi_150_53 (h160.1.s (7, 6) (by decide)) (by decide) rfl fun v235 hv235 => ?_
        have hv235_ : v235.toInt = 0 ∨ v235.toInt = 1 := hv235.elim (fun e => Or.inl (by rw [e]; rfl)) (fun e => Or.inr (by rw [e]; rfl))
        by_cases c236 : v235.toInt = (0 : Int)
        · refine am_e12t hi_150_56 (am_cT (m := v235.toInt) (n := (0 : Int)) rfl (by decide) c236) ?_
          refine am_e0 hi_150_63 ?_
          refine am_e3 (ls' := [some (.ref 7), some (.int v1), some (.int r148), some (.int 0)]) hi_150_64 (Nat.le_of_ble_eq_true rfl) rfl ?_
          refine am_e1 (v := 0) hi_150_65 rfl ?_
          refine am_e12t hi_150_66 (by decide) ?_
          refine am_e1 (v := 0) hi_150_124 rfl ?_
          refine am_e12t hi_150_125 (by decide) ?_
          refine am_e2 (v := 7) hi_150_147 rfl ?_
          refine am_e0 hi_150_148 ?_
          refine am_e1 (v := r148) hi_150_150 rfl ?_
          refine am_e0 hi_150_151 ?_
          refine am_e1 (v := v1) hi_150_152 rfl ?_
          refine am_e32n (as := [.ref 7, .int 45, .int r148, .int 0, .int v1]) (la := [some (.ref 7), some (.int 45), some (.int r148), some (.int 0), some (.int v1)]) (rest := []) hi_150_153 (am_hd0 (M := 150) (by decide) 153) (Nat.le_of_ble_eq_true rfl) (Nat.le_of_ble_eq_true rfl) (show 5 ≤ am_P0.2.2.1 78 from by decide +kernel) rfl (cl_recv (h160.1.s (7, 6) (by decide))) rfl rfl (ck_emit (d := (d + 16)) h160   ) ?_
          rintro v237 S238 ⟨r239, rfl, h240, h241, h242, h243⟩
          have h241_ : iv S238 8 1 = iv S147 8 1 := h241
          have h242_ : iv S238 10 1 = iv S147 10 1 := h242
          have h243_ : iv S238 14 1 = iv S147 14 1 := h243
          obtain ⟨h245, h246, ⟨h247, h248, h249, h250⟩, ⟨h251, h252, h253⟩, h255⟩ := h240
          have h256 : kd aw S238 = kd aw S147 := kd_eq h247 h250
          have h257 := os_5 h251 1
          have h258 := os_13 h251 1
          show am_E _ _ _ _ [some (.ref 7), some (.int v1), some (.int r148), some (.int 0)] [.int r239] _ _
          refine am_e6i hi_150_156 ?_
          refine am_e2 (v := 7) hi_150_157 rfl ?_
          refine cm_20f (r := 2) h245 hi_150_158 (h245.1.s (7, 6) (by decide)) (by decide) rfl ?_
          refine am_e32n (as := [.ref 2]) (la := [some (.ref 2)]) (rest := []) hi_150_161 (am_hd0 (M := 150) (by decide) 161) (Nat.le_of_ble_eq_true rfl) (Nat.le_of_ble_eq_true rfl) (show 1 ≤ am_P0.2.2.1 53 from by decide +kernel) rfl (cl_recv (h245.1.s (2, 2) (by decide))) rfl rfl (ck_kind (d := (d + 18)) h245   ) ?_
          rintro v259 S260 ⟨r261, rfl, rfl, h263⟩
          have h263_ : r261.toInt = kd aw S238 := h263
          show am_E _ _ _ _ [some (.ref 7), some (.int v1), some (.int r148), some (.int 0)] [.int r261] _ _
          refine am_e0 hi_150_164 ?_
          by_cases c265 : ¬ r261.toInt = (67 : Int)
          · refine am_e13t hi_150_166 (am_cT (m := r261.toInt) (n := (67 : Int)) rfl (by decide) c265) ?_
            refine am_e35 hi_150_177 ?_
            exact ⟨rfl, ⟨h245, ((h21.trans h161).trans h246), ⟨(by show wr S238 = wr S; omega), (h250.trans (h165.trans h25))⟩, ⟨(by show iv S238 13 1 = iv S 13 1; omega), (by show iv S238 5 1 - nx S238 ≤ iv S 5 1 - nx S; omega)⟩⟩, (by show nx S + 1 ≤ nx S238; omega), (by show nx S238 ≤ wr S238; omega), (by show lv S238 = lv S + 0; omega), (by show EN S238 + -10000 * nx S238 ≤ EN S + -10000 * nx S + (-5000); omega), (by show iv S 8 1 ≤ iv S238 8 1; omega), (by show iv S 10 1 ≤ iv S238 10 1; omega)⟩
          · refine am_e13f hi_150_166 (am_cF (m := r261.toInt) (n := (67 : Int)) rfl (by decide) c265) ?_
            refine am_e2 (v := 7) hi_150_169 rfl ?_
            refine cm_20f (r := 2) h245 hi_150_170 (h245.1.s (7, 6) (by decide)) (by decide) rfl ?_
            refine am_e32t (as := [.ref 2]) (la := [some (.ref 2), none]) (rest := []) hi_150_173 (am_hd0 (M := 150) (by decide) 173) (Nat.le_of_ble_eq_true rfl) (Nat.le_of_ble_eq_true rfl) (show 1 ≤ am_P0.2.2.1 55 from by decide +kernel) rfl (cl_recv (h245.1.s (2, 2) (by decide))) rfl rfl (ck_skip (d := (d + 6)) h245   (by show 0 ≤ nx S238; omega) (by show nx S238 ≤ wr S238; omega) (by show wr S238 ≤ 600; omega) (by show 0 ≤ lv S238; omega) (by show lv S238 ≤ 48; omega) (by show kd aw S238 ≠ 0; omega)) (fun S282 h283 => (show TH aw 2000 S S282 from ⟨h283.1, ((h21.trans h161).trans h246).trans h283.2.1, ⟨(by have q := h283.2.2.1.1; omega), h283.2.2.1.2.trans (h250.trans (h165.trans h25))⟩, h283.2.2.2.1, h283.2.2.2.2.1, (by have q := h283.2.2.2.2.2; omega)⟩)) ?_
            rintro v266 S267 ⟨r268, rfl, h269, h270, h271, h272, h273⟩
            have h270_ : nx S267 = nx S238 + 1 := h270
            have h271_ : lv S267 = lv S238 + c_dl (kd aw S238) := h271
            have h272_ : lv S267 ≤ 48 := h272
            have h273_ : nx S267 ≤ wr S267 := h273
            obtain ⟨h284, h285, ⟨h288, h289⟩, ⟨h290, h291, h292⟩, h293, h294⟩ := h269
            have h295 := h293 8 (h245.1.s (8, 3) (by decide))
            have h296 := h293 10 (h245.1.s (10, 3) (by decide))
            have h297 := os_5 h290 1
            have h298 := os_13 h290 1
            have h299 : c_dl (kd aw S238) = 0 := by unfold c_dl; split <;> split <;> omega
            show am_E _ _ _ _ [some (.ref 7), some (.int v1), some (.int r148), some (.int 0)] [.int r268] _ _
            refine am_e6i hi_150_176 ?_
            refine am_e35 hi_150_177 ?_
            exact ⟨rfl, ⟨h284, (((h21.trans h161).trans h246).trans h285), ⟨(by show wr S267 = wr S; omega), (h289.trans (h250.trans (h165.trans h25)))⟩, ⟨(by show iv S267 13 1 = iv S 13 1; omega), (by show iv S267 5 1 - nx S267 ≤ iv S 5 1 - nx S; omega)⟩⟩, (by show nx S + 1 ≤ nx S267; omega), (by show nx S267 ≤ wr S267; omega), (by show lv S267 = lv S + 0; omega), (by show EN S267 + -10000 * nx S267 ≤ EN S + -10000 * nx S + (-5000); omega), (by show iv S 8 1 ≤ iv S267 8 1; omega), (by show iv S 10 1 ≤ iv S267 10 1; omega)⟩
        · refine am_e12f hi_150_56 (am_cF (m := v235.toInt) (n := (0 : Int)) rfl (by decide) c236) ?_
          refine am_e0 hi_150_59 ?_
          refine am_e18 hi_150_60 ?_
          refine am_e3 (ls' := [some (.ref 7), some (.int v1), some (.int r148), some (.int 1)]) hi_150_64 (Nat.le_of_ble_eq_true rfl) rfl ?_
          refine am_e1 (v := 1) hi_150_65 rfl ?_
          refine am_e12f hi_150_66 (by decide) ?_
          refine am_e1 (v := r148) hi_150_69 rfl ?_
          refine am_e0 hi_150_70 ?_
          by_cases c300 : ¬ r148.toInt = (1 : Int)
          · refine am_e13t hi_150_71 (am_cT (m := r148.toInt) (n := (1 : Int)) rfl (by decide) c300) ?_
            refine am_e1 (v := 1) hi_150_124 rfl ?_
            refine am_e12f hi_150_125 (by decide) ?_
            refine am_e2 (v := 7) hi_150_128 rfl ?_
            refine am_e32n (as := [.ref 7]) (la := [some (.ref 7)]) (rest := []) hi_150_129 (am_hd0 (M := 150) (by decide) 129) (Nat.le_of_ble_eq_true rfl) (Nat.le_of_ble_eq_true rfl) (show 1 ≤ am_P0.2.2.1 96 from by decide +kernel) rfl (cl_recv (h160.1.s (7, 6) (by decide))) rfl rfl (ck_widen (d := (d + 16)) h160   ) ?_
            rintro v301 S302 ⟨rfl, h304⟩
            obtain ⟨h306, h307, ⟨h308, h309, h310, h311⟩, ⟨h312, h313, h314⟩, h315, h316⟩ := h304
            have h317 : kd aw S302 = kd aw S147 := kd_eq h308 h311
            have h318 := h315 8 (h160.1.s (8, 3) (by decide))
            have h319 := h315 10 (h160.1.s (10, 3) (by decide))
            have h320 := os_5 h312 1
            have h321 := os_13 h312 1
            show am_E _ _ _ _ [some (.ref 7), some (.int v1), some (.int r148), some (.int 1)] [] _ _
            refine am_e2 (v := 7) hi_150_132 rfl ?_
            refine am_e0 hi_150_133 ?_
            refine am_e1 (v := r148) hi_150_135 rfl ?_
            refine am_e0 hi_150_136 ?_
            obtain ⟨z322, hz322⟩ : ∃ q__, am_bin 1 r148 1 = q__ := ⟨_, rfl⟩
            refine am_e10 (z := z322) hi_150_137 hz322 ?_
            refine am_e0 hi_150_138 ?_
            refine am_e1 (v := v1) hi_150_139 rfl ?_
            refine am_e32n (as := [.ref 7, .int 45, .int z322, .int 1, .int v1]) (la := [some (.ref 7), some (.int 45), some (.int z322), some (.int 1), some (.int v1)]) (rest := []) hi_150_140 (am_hd0 (M := 150) (by decide) 140) (Nat.le_of_ble_eq_true rfl) (Nat.le_of_ble_eq_true rfl) (show 5 ≤ am_P0.2.2.1 78 from by decide +kernel) rfl (cl_recv (h306.1.s (7, 6) (by decide))) rfl rfl (ck_emit (d := (d + 16)) h306   ) ?_
            rintro v323 S324 ⟨r325, rfl, h326, h327, h328, h329⟩
            have h327_ : iv S324 8 1 = iv S302 8 1 := h327
            have h328_ : iv S324 10 1 = iv S302 10 1 := h328
            have h329_ : iv S324 14 1 = iv S302 14 1 := h329
            obtain ⟨h331, h332, ⟨h333, h334, h335, h336⟩, ⟨h337, h338, h339⟩, h341⟩ := h326
            have h342 : kd aw S324 = kd aw S302 := kd_eq h333 h336
            have h343 := os_5 h337 1
            have h344 := os_13 h337 1
            show am_E _ _ _ _ [some (.ref 7), some (.int v1), some (.int r148), some (.int 1)] [.int r325] _ _
            refine am_e6i hi_150_143 ?_
            refine am_e18 hi_150_144 ?_
            refine am_e2 (v := 7) hi_150_157 rfl ?_
            refine cm_20f (r := 2) h331 hi_150_158 (h331.1.s (7, 6) (by decide)) (by decide) rfl ?_
            refine am_e32n (as := [.ref 2]) (la := [some (.ref 2)]) (rest := []) hi_150_161 (am_hd0 (M := 150) (by decide) 161) (Nat.le_of_ble_eq_true rfl) (Nat.le_of_ble_eq_true rfl) (show 1 ≤ am_P0.2.2.1 53 from by decide +kernel) rfl (cl_recv (h331.1.s (2, 2) (by decide))) rfl rfl (ck_kind (d := (d + 18)) h331   ) ?_
            rintro v345 S346 ⟨r347, rfl, rfl, h349⟩
            have h349_ : r347.toInt = kd aw S324 := h349
            show am_E _ _ _ _ [some (.ref 7), some (.int v1), some (.int r148), some (.int 1)] [.int r347] _ _
            refine am_e0 hi_150_164 ?_
            by_cases c351 : ¬ r347.toInt = (67 : Int)
            · refine am_e13t hi_150_166 (am_cT (m := r347.toInt) (n := (67 : Int)) rfl (by decide) c351) ?_
              refine am_e35 hi_150_177 ?_
              exact ⟨rfl, ⟨h331, (((h21.trans h161).trans h307).trans h332), ⟨(by show wr S324 = wr S; omega), (h336.trans (h311.trans (h165.trans h25)))⟩, ⟨(by show iv S324 13 1 = iv S 13 1; omega), (by show iv S324 5 1 - nx S324 ≤ iv S 5 1 - nx S; omega)⟩⟩, (by show nx S + 1 ≤ nx S324; omega), (by show nx S324 ≤ wr S324; omega), (by show lv S324 = lv S + 0; omega), (by show EN S324 + -10000 * nx S324 ≤ EN S + -10000 * nx S + (-5000); omega), (by show iv S 8 1 ≤ iv S324 8 1; omega), (by show iv S 10 1 ≤ iv S324 10 1; omega)⟩
            · refine am_e13f hi_150_166 (am_cF (m := r347.toInt) (n := (67 : Int)) rfl (by decide) c351) ?_
              refine am_e2 (v := 7) hi_150_169 rfl ?_
              refine cm_20f (r := 2) h331 hi_150_170 (h331.1.s (7, 6) (by decide)) (by decide) rfl ?_
              refine am_e32t (as := [.ref 2]) (la := [some (.ref 2), none]) (rest := []) hi_150_173 (am_hd0 (M := 150) (by decide) 173) (Nat.le_of_ble_eq_true rfl) (Nat.le_of_ble_eq_true rfl) (show 1 ≤ am_P0.2.2.1 55 from by decide +kernel) rfl (cl_recv (h331.1.s (2, 2) (by decide))) rfl rfl (ck_skip (d := (d + 6)) h331   (by show 0 ≤ nx S324; omega) (by show nx S324 ≤ wr S324; omega) (by show wr S324 ≤ 600; omega) (by show 0 ≤ lv S324; omega) (by show lv S324 ≤ 48; omega) (by show kd aw S324 ≠ 0; omega)) (fun S368 h369 => (show TH aw 2000 S S368 from ⟨h369.1, (((h21.trans h161).trans h307).trans h332).trans h369.2.1, ⟨(by have q := h369.2.2.1.1; omega), h369.2.2.1.2.trans (h336.trans (h311.trans (h165.trans h25)))⟩, h369.2.2.2.1, h369.2.2.2.2.1, (by have q := h369.2.2.2.2.2; omega)⟩)) ?_
              rintro v352 S353 ⟨r354, rfl, h355, h356, h357, h358, h359⟩
              have h356_ : nx S353 = nx S324 + 1 := h356
              have h357_ : lv S353 = lv S324 + c_dl (kd aw S324) := h357
              have h358_ : lv S353 ≤ 48 := h358
              have h359_ : nx S353 ≤ wr S353 := h359
              obtain ⟨h370, h371, ⟨h374, h375⟩, ⟨h376, h377, h378⟩, h379, h380⟩ := h355
              have h381 := h379 8 (h331.1.s (8, 3) (by decide))
              have h382 := h379 10 (h331.1.s (10, 3) (by decide))
              have h383 := os_5 h376 1
              have h384 := os_13 h376 1
              have h385 : c_dl (kd aw S324) = 0 := by unfold c_dl; split <;> split <;> omega
              show am_E _ _ _ _ [some (.ref 7), some (.int v1), some (.int r148), some (.int 1)] [.int r354] _ _
              refine am_e6i hi_150_176 ?_
              refine am_e35 hi_150_177 ?_
              exact ⟨rfl, ⟨h370, ((((h21.trans h161).trans h307).trans h332).trans h371), ⟨(by show wr S353 = wr S; omega), (h375.trans (h336.trans (h311.trans (h165.trans h25))))⟩, ⟨(by show iv S353 13 1 = iv S 13 1; omega), (by show iv S353 5 1 - nx S353 ≤ iv S 5 1 - nx S; omega)⟩⟩, (by show nx S + 1 ≤ nx S353; omega), (by show nx S353 ≤ wr S353; omega), (by show lv S353 = lv S + 0; omega), (by show EN S353 + -10000 * nx S353 ≤ EN S + -10000 * nx S + (-5000); omega), (by show iv S 8 1 ≤ iv S353 8 1; omega), (by show iv S 10 1 ≤ iv S353 10 1; omega)⟩
          · refine am_e13f hi_150_71 (am_cF (m := r148.toInt) (n := (1 : Int)) rfl (by decide) c300) ?_
            refine am_e2 (v := 7) hi_150_74 rfl ?_
            refine am_e32n (as := [.ref 7]) (la := [some (.ref 7)]) (rest := []) hi_150_75 (am_hd0 (M := 150) (by decide) 75) (Nat.le_of_ble_eq_true rfl) (Nat.le_of_ble_eq_true rfl) (show 1 ≤ am_P0.2.2.1 97 from by decide +kernel) rfl (cl_recv (h160.1.s (7, 6) (by decide))) rfl rfl (ck_lastOp (d := (d + 17)) h160   ) ?_
            rintro v386 S387 ⟨r388, rfl, rfl⟩
            show am_E _ _ _ _ [some (.ref 7), some (.int v1), some (.int r148), some (.int 1)] [.int r388] _ _
            refine am_e0 hi_150_78 ?_
            by_cases c391 : ¬ r388.toInt = (13 : Int)
            · refine am_e13t hi_150_80 (am_cT (m := r388.toInt) (n := (13 : Int)) rfl (by decide) c391) ?_
              refine am_e1 (v := 1) hi_150_124 rfl ?_
              refine am_e12f hi_150_125 (by decide) ?_
              refine am_e2 (v := 7) hi_150_128 rfl ?_
              refine am_e32n (as := [.ref 7]) (la := [some (.ref 7)]) (rest := []) hi_150_129 (am_hd0 (M := 150) (by decide) 129) (Nat.le_of_ble_eq_true rfl) (Nat.le_of_ble_eq_true rfl) (show 1 ≤ am_P0.2.2.1 96 from by decide +kernel) rfl (cl_recv (h160.1.s (7, 6) (by decide))) rfl rfl (ck_widen (d := (d + 16)) h160   ) ?_
              rintro v392 S393 ⟨rfl, h395⟩
              obtain ⟨h397, h398, ⟨h399, h400, h401, h402⟩, ⟨h403, h404, h405⟩, h406, h407⟩ := h395
              have h408 : kd aw S393 = kd aw S147 := kd_eq h399 h402
              have h409 := h406 8 (h160.1.s (8, 3) (by decide))
              have h410 := h406 10 (h160.1.s (10, 3) (by decide))
              have h411 := os_5 h403 1
              have h412 := os_13 h403 1
              show am_E _ _ _ _ [some (.ref 7), some (.int v1), some (.int r148), some (.int 1)] [] _ _
              refine am_e2 (v := 7) hi_150_132 rfl ?_
              refine am_e0 hi_150_133 ?_
              refine am_e1 (v := r148) hi_150_135 rfl ?_
              refine am_e0 hi_150_136 ?_
              obtain ⟨z413, hz413, tz413⟩ := am_subI (x := r148) (y := 1) (m := r148.toInt) (n := (1 : Int)) rfl (by decide) (by omega) (by omega)
              refine am_e10 (z := z413) hi_150_137 hz413 ?_
              refine am_e0 hi_150_138 ?_
              refine am_e1 (v := v1) hi_150_139 rfl ?_
              refine am_e32n (as := [.ref 7, .int 45, .int z413, .int 1, .int v1]) (la := [some (.ref 7), some (.int 45), some (.int z413), some (.int 1), some (.int v1)]) (rest := []) hi_150_140 (am_hd0 (M := 150) (by decide) 140) (Nat.le_of_ble_eq_true rfl) (Nat.le_of_ble_eq_true rfl) (show 5 ≤ am_P0.2.2.1 78 from by decide +kernel) rfl (cl_recv (h397.1.s (7, 6) (by decide))) rfl rfl (ck_emit (d := (d + 16)) h397   ) ?_
              rintro v414 S415 ⟨r416, rfl, h417, h418, h419, h420⟩
              have h418_ : iv S415 8 1 = iv S393 8 1 := h418
              have h419_ : iv S415 10 1 = iv S393 10 1 := h419
              have h420_ : iv S415 14 1 = iv S393 14 1 := h420
              obtain ⟨h422, h423, ⟨h424, h425, h426, h427⟩, ⟨h428, h429, h430⟩, h432⟩ := h417
              have h433 : kd aw S415 = kd aw S393 := kd_eq h424 h427
              have h434 := os_5 h428 1
              have h435 := os_13 h428 1
              show am_E _ _ _ _ [some (.ref 7), some (.int v1), some (.int r148), some (.int 1)] [.int r416] _ _
              refine am_e6i hi_150_143 ?_
              refine am_e18 hi_150_144 ?_
              refine am_e2 (v := 7) hi_150_157 rfl ?_
              refine cm_20f (r := 2) h422 hi_150_158 (h422.1.s (7, 6) (by decide)) (by decide) rfl ?_
              refine am_e32n (as := [.ref 2]) (la := [some (.ref 2)]) (rest := []) hi_150_161 (am_hd0 (M := 150) (by decide) 161) (Nat.le_of_ble_eq_true rfl) (Nat.le_of_ble_eq_true rfl) (show 1 ≤ am_P0.2.2.1 53 from by decide +kernel) rfl (cl_recv (h422.1.s (2, 2) (by decide))) rfl rfl (ck_kind (d := (d + 18)) h422   ) ?_
              rintro v436 S437 ⟨r438, rfl, rfl, h440⟩
              have h440_ : r438.toInt = kd aw S415 := h440
              show am_E _ _ _ _ [some (.ref 7), some (.int v1), some (.int r148), some (.int 1)] [.int r438] _ _
              refine am_e0 hi_150_164 ?_
              by_cases c442 : ¬ r438.toInt = (67 : Int)
              · refine am_e13t hi_150_166 (am_cT (m := r438.toInt) (n := (67 : Int)) rfl (by decide) c442) ?_
                refine am_e35 hi_150_177 ?_
                exact ⟨rfl, ⟨h422, (((h21.trans h161).trans h398).trans h423), ⟨(by show wr S415 = wr S; omega), (h427.trans (h402.trans (h165.trans h25)))⟩, ⟨(by show iv S415 13 1 = iv S 13 1; omega), (by show iv S415 5 1 - nx S415 ≤ iv S 5 1 - nx S; omega)⟩⟩, (by show nx S + 1 ≤ nx S415; omega), (by show nx S415 ≤ wr S415; omega), (by show lv S415 = lv S + 0; omega), (by show EN S415 + -10000 * nx S415 ≤ EN S + -10000 * nx S + (-5000); omega), (by show iv S 8 1 ≤ iv S415 8 1; omega), (by show iv S 10 1 ≤ iv S415 10 1; omega)⟩
              · refine am_e13f hi_150_166 (am_cF (m := r438.toInt) (n := (67 : Int)) rfl (by decide) c442) ?_
                refine am_e2 (v := 7) hi_150_169 rfl ?_
                refine cm_20f (r := 2) h422 hi_150_170 (h422.1.s (7, 6) (by decide)) (by decide) rfl ?_
                refine am_e32t (as := [.ref 2]) (la := [some (.ref 2), none]) (rest := []) hi_150_173 (am_hd0 (M := 150) (by decide) 173) (Nat.le_of_ble_eq_true rfl) (Nat.le_of_ble_eq_true rfl) (show 1 ≤ am_P0.2.2.1 55 from by decide +kernel) rfl (cl_recv (h422.1.s (2, 2) (by decide))) rfl rfl (ck_skip (d := (d + 6)) h422   (by show 0 ≤ nx S415; omega) (by show nx S415 ≤ wr S415; omega) (by show wr S415 ≤ 600; omega) (by show 0 ≤ lv S415; omega) (by show lv S415 ≤ 48; omega) (by show kd aw S415 ≠ 0; omega)) (fun S459 h460 => (show TH aw 2000 S S459 from ⟨h460.1, (((h21.trans h161).trans h398).trans h423).trans h460.2.1, ⟨(by have q := h460.2.2.1.1; omega), h460.2.2.1.2.trans (h427.trans (h402.trans (h165.trans h25)))⟩, h460.2.2.2.1, h460.2.2.2.2.1, (by have q := h460.2.2.2.2.2; omega)⟩)) ?_
                rintro v443 S444 ⟨r445, rfl, h446, h447, h448, h449, h450⟩
                have h447_ : nx S444 = nx S415 + 1 := h447
                have h448_ : lv S444 = lv S415 + c_dl (kd aw S415) := h448
                have h449_ : lv S444 ≤ 48 := h449
                have h450_ : nx S444 ≤ wr S444 := h450
                obtain ⟨h461, h462, ⟨h465, h466⟩, ⟨h467, h468, h469⟩, h470, h471⟩ := h446
                have h472 := h470 8 (h422.1.s (8, 3) (by decide))
                have h473 := h470 10 (h422.1.s (10, 3) (by decide))
                have h474 := os_5 h467 1
                have h475 := os_13 h467 1
                have h476 : c_dl (kd aw S415) = 0 := by unfold c_dl; split <;> split <;> omega
                show am_E _ _ _ _ [some (.ref 7), some (.int v1), some (.int r148), some (.int 1)] [.int r445] _ _
                refine am_e6i hi_150_176 ?_
                refine am_e35 hi_150_177 ?_
                exact ⟨rfl, ⟨h461, ((((h21.trans h161).trans h398).trans h423).trans h462), ⟨(by show wr S444 = wr S; omega), (h466.trans (h427.trans (h402.trans (h165.trans h25))))⟩, ⟨(by show iv S444 13 1 = iv S 13 1; omega), (by show iv S444 5 1 - nx S444 ≤ iv S 5 1 - nx S; omega)⟩⟩, (by show nx S + 1 ≤ nx S444; omega), (by show nx S444 ≤ wr S444; omega), (by show lv S444 = lv S + 0; omega), (by show EN S444 + -10000 * nx S444 ≤ EN S + -10000 * nx S + (-5000); omega), (by show iv S 8 1 ≤ iv S444 8 1; omega), (by show iv S 10 1 ≤ iv S444 10 1; omega)⟩
            · refine am_e13f hi_150_80 (am_cF (m := r388.toInt) (n := (13 : Int)) rfl (by decide) c391) ?_
              refine am_e2 (v := 7) hi_150_83 rfl ?_
              refine cm_20f (r := 12) h160 hi_150_84 (h160.1.s (7, 6) (by decide)) (by decide) rfl ?_
              refine am_e32n (as := [.ref 12]) (la := [some (.ref 12), none]) (rest := []) hi_150_87 (am_hd0 (M := 150) (by decide) 87) (Nat.le_of_ble_eq_true rfl) (Nat.le_of_ble_eq_true rfl) (show 1 ≤ am_P0.2.2.1 151 from by decide +kernel) rfl (cl_recv (h160.1.s (12, 7) (by decide))) rfl rfl (ck_hasClosing (d := (d + 18)) h160   ) ?_
              rintro v477 S478 ⟨r479, rfl, hb481, rfl⟩
              have hb481_ : r479.toInt = 0 ∨ r479.toInt = 1 := hb481.elim (fun e => Or.inl (by rw [e]; rfl)) (fun e => Or.inr (by rw [e]; rfl))
              show am_E _ _ _ _ [some (.ref 7), some (.int v1), some (.int r148), some (.int 1)] [.int r479] _ _
              by_cases c482 : ¬ r479.toInt = (0 : Int)
              · refine am_e12t hi_150_90 (am_cT (m := r479.toInt) (n := (0 : Int)) rfl (by decide) c482) ?_
                refine am_e1 (v := 1) hi_150_124 rfl ?_
                refine am_e12f hi_150_125 (by decide) ?_
                refine am_e2 (v := 7) hi_150_128 rfl ?_
                refine am_e32n (as := [.ref 7]) (la := [some (.ref 7)]) (rest := []) hi_150_129 (am_hd0 (M := 150) (by decide) 129) (Nat.le_of_ble_eq_true rfl) (Nat.le_of_ble_eq_true rfl) (show 1 ≤ am_P0.2.2.1 96 from by decide +kernel) rfl (cl_recv (h160.1.s (7, 6) (by decide))) rfl rfl (ck_widen (d := (d + 16)) h160   ) ?_
                rintro v483 S484 ⟨rfl, h486⟩
                obtain ⟨h488, h489, ⟨h490, h491, h492, h493⟩, ⟨h494, h495, h496⟩, h497, h498⟩ := h486
                have h499 : kd aw S484 = kd aw S147 := kd_eq h490 h493
                have h500 := h497 8 (h160.1.s (8, 3) (by decide))
                have h501 := h497 10 (h160.1.s (10, 3) (by decide))
                have h502 := os_5 h494 1
                have h503 := os_13 h494 1
                show am_E _ _ _ _ [some (.ref 7), some (.int v1), some (.int r148), some (.int 1)] [] _ _
                refine am_e2 (v := 7) hi_150_132 rfl ?_
                refine am_e0 hi_150_133 ?_
                refine am_e1 (v := r148) hi_150_135 rfl ?_
                refine am_e0 hi_150_136 ?_
                obtain ⟨z504, hz504, tz504⟩ := am_subI (x := r148) (y := 1) (m := r148.toInt) (n := (1 : Int)) rfl (by decide) (by omega) (by omega)
                refine am_e10 (z := z504) hi_150_137 hz504 ?_
                refine am_e0 hi_150_138 ?_
                refine am_e1 (v := v1) hi_150_139 rfl ?_
                refine am_e32n (as := [.ref 7, .int 45, .int z504, .int 1, .int v1]) (la := [some (.ref 7), some (.int 45), some (.int z504), some (.int 1), some (.int v1)]) (rest := []) hi_150_140 (am_hd0 (M := 150) (by decide) 140) (Nat.le_of_ble_eq_true rfl) (Nat.le_of_ble_eq_true rfl) (show 5 ≤ am_P0.2.2.1 78 from by decide +kernel) rfl (cl_recv (h488.1.s (7, 6) (by decide))) rfl rfl (ck_emit (d := (d + 16)) h488   ) ?_
                rintro v505 S506 ⟨r507, rfl, h508, h509, h510, h511⟩
                have h509_ : iv S506 8 1 = iv S484 8 1 := h509
                have h510_ : iv S506 10 1 = iv S484 10 1 := h510
                have h511_ : iv S506 14 1 = iv S484 14 1 := h511
                obtain ⟨h513, h514, ⟨h515, h516, h517, h518⟩, ⟨h519, h520, h521⟩, h523⟩ := h508
                have h524 : kd aw S506 = kd aw S484 := kd_eq h515 h518
                have h525 := os_5 h519 1
                have h526 := os_13 h519 1
                show am_E _ _ _ _ [some (.ref 7), some (.int v1), some (.int r148), some (.int 1)] [.int r507] _ _
                refine am_e6i hi_150_143 ?_
                refine am_e18 hi_150_144 ?_
                refine am_e2 (v := 7) hi_150_157 rfl ?_
                refine cm_20f (r := 2) h513 hi_150_158 (h513.1.s (7, 6) (by decide)) (by decide) rfl ?_
                refine am_e32n (as := [.ref 2]) (la := [some (.ref 2)]) (rest := []) hi_150_161 (am_hd0 (M := 150) (by decide) 161) (Nat.le_of_ble_eq_true rfl) (Nat.le_of_ble_eq_true rfl) (show 1 ≤ am_P0.2.2.1 53 from by decide +kernel) rfl (cl_recv (h513.1.s (2, 2) (by decide))) rfl rfl (ck_kind (d := (d + 18)) h513   ) ?_
                rintro v527 S528 ⟨r529, rfl, rfl, h531⟩
                have h531_ : r529.toInt = kd aw S506 := h531
                show am_E _ _ _ _ [some (.ref 7), some (.int v1), some (.int r148), some (.int 1)] [.int r529] _ _
                refine am_e0 hi_150_164 ?_
                by_cases c533 : ¬ r529.toInt = (67 : Int)
                · refine am_e13t hi_150_166 (am_cT (m := r529.toInt) (n := (67 : Int)) rfl (by decide) c533) ?_
                  refine am_e35 hi_150_177 ?_
                  exact ⟨rfl, ⟨h513, (((h21.trans h161).trans h489).trans h514), ⟨(by show wr S506 = wr S; omega), (h518.trans (h493.trans (h165.trans h25)))⟩, ⟨(by show iv S506 13 1 = iv S 13 1; omega), (by show iv S506 5 1 - nx S506 ≤ iv S 5 1 - nx S; omega)⟩⟩, (by show nx S + 1 ≤ nx S506; omega), (by show nx S506 ≤ wr S506; omega), (by show lv S506 = lv S + 0; omega), (by show EN S506 + -10000 * nx S506 ≤ EN S + -10000 * nx S + (-5000); omega), (by show iv S 8 1 ≤ iv S506 8 1; omega), (by show iv S 10 1 ≤ iv S506 10 1; omega)⟩
                · refine am_e13f hi_150_166 (am_cF (m := r529.toInt) (n := (67 : Int)) rfl (by decide) c533) ?_
                  refine am_e2 (v := 7) hi_150_169 rfl ?_
                  refine cm_20f (r := 2) h513 hi_150_170 (h513.1.s (7, 6) (by decide)) (by decide) rfl ?_
                  refine am_e32t (as := [.ref 2]) (la := [some (.ref 2), none]) (rest := []) hi_150_173 (am_hd0 (M := 150) (by decide) 173) (Nat.le_of_ble_eq_true rfl) (Nat.le_of_ble_eq_true rfl) (show 1 ≤ am_P0.2.2.1 55 from by decide +kernel) rfl (cl_recv (h513.1.s (2, 2) (by decide))) rfl rfl (ck_skip (d := (d + 6)) h513   (by show 0 ≤ nx S506; omega) (by show nx S506 ≤ wr S506; omega) (by show wr S506 ≤ 600; omega) (by show 0 ≤ lv S506; omega) (by show lv S506 ≤ 48; omega) (by show kd aw S506 ≠ 0; omega)) (fun S550 h551 => (show TH aw 2000 S S550 from ⟨h551.1, (((h21.trans h161).trans h489).trans h514).trans h551.2.1, ⟨(by have q := h551.2.2.1.1; omega), h551.2.2.1.2.trans (h518.trans (h493.trans (h165.trans h25)))⟩, h551.2.2.2.1, h551.2.2.2.2.1, (by have q := h551.2.2.2.2.2; omega)⟩)) ?_
                  rintro v534 S535 ⟨r536, rfl, h537, h538, h539, h540, h541⟩
                  have h538_ : nx S535 = nx S506 + 1 := h538
                  have h539_ : lv S535 = lv S506 + c_dl (kd aw S506) := h539
                  have h540_ : lv S535 ≤ 48 := h540
                  have h541_ : nx S535 ≤ wr S535 := h541
                  obtain ⟨h552, h553, ⟨h556, h557⟩, ⟨h558, h559, h560⟩, h561, h562⟩ := h537
                  have h563 := h561 8 (h513.1.s (8, 3) (by decide))
                  have h564 := h561 10 (h513.1.s (10, 3) (by decide))
                  have h565 := os_5 h558 1
                  have h566 := os_13 h558 1
                  have h567 : c_dl (kd aw S506) = 0 := by unfold c_dl; split <;> split <;> omega
                  show am_E _ _ _ _ [some (.ref 7), some (.int v1), some (.int r148), some (.int 1)] [.int r536] _ _
                  refine am_e6i hi_150_176 ?_
                  refine am_e35 hi_150_177 ?_
                  exact ⟨rfl, ⟨h552, ((((h21.trans h161).trans h489).trans h514).trans h553), ⟨(by show wr S535 = wr S; omega), (h557.trans (h518.trans (h493.trans (h165.trans h25))))⟩, ⟨(by show iv S535 13 1 = iv S 13 1; omega), (by show iv S535 5 1 - nx S535 ≤ iv S 5 1 - nx S; omega)⟩⟩, (by show nx S + 1 ≤ nx S535; omega), (by show nx S535 ≤ wr S535; omega), (by show lv S535 = lv S + 0; omega), (by show EN S535 + -10000 * nx S535 ≤ EN S + -10000 * nx S + (-5000); omega), (by show iv S 8 1 ≤ iv S535 8 1; omega), (by show iv S 10 1 ≤ iv S535 10 1; omega)⟩
              · refine am_e12f hi_150_90 (am_cF (m := r479.toInt) (n := (0 : Int)) rfl (by decide) c482) ?_
                refine am_e2 (v := 7) hi_150_93 rfl ?_
                refine am_e0 hi_150_94 ?_
                refine am_e0 hi_150_95 ?_
                refine am_e32n (as := [.ref 7, .int 1, .int 0]) (la := [some (.ref 7), some (.int 1), some (.int 0), none]) (rest := []) hi_150_96 (am_hd0 (M := 150) (by decide) 96) (Nat.le_of_ble_eq_true rfl) (Nat.le_of_ble_eq_true rfl) (show 3 ≤ am_P0.2.2.1 99 from by decide +kernel) rfl (cl_recv (h160.1.s (7, 6) (by decide))) rfl rfl (ck_keepFlags (d := (d + 17)) h160   ) ?_
                rintro v568 S569 ⟨rfl, h571⟩
                obtain ⟨h573, h574, ⟨h575, h576, h577, h578⟩, ⟨h579, h580, h581⟩, h582, h583⟩ := h571
                have h584 : kd aw S569 = kd aw S147 := kd_eq h575 h578
                have h585 := h582 8 (h160.1.s (8, 3) (by decide))
                have h586 := h582 10 (h160.1.s (10, 3) (by decide))
                have h587 := os_5 h579 1
                have h588 := os_13 h579 1
                show am_E _ _ _ _ [some (.ref 7), some (.int v1), some (.int r148), some (.int 1)] [] _ _
                refine am_e2 (v := 7) hi_150_99 rfl ?_
                refine cm_20f (r := 12) h573 hi_150_100 (h573.1.s (7, 6) (by decide)) (by decide) rfl ?_
                refine am_e32x (as := [.ref 12]) (la := [some (.ref 12)]) (rest := []) hi_150_103 (am_hd0 (M := 150) (by decide) 103) (Nat.le_of_ble_eq_true rfl) (Nat.le_of_ble_eq_true rfl) (show 1 ≤ am_P0.2.2.1 79 from by decide +kernel) rfl (cl_recv (h573.1.s (12, 7) (by decide))) rfl rfl ?_
                refine am_e2 (v := 12) hi_79_0 rfl ?_
                refine cm_20n h573 hi_79_1 fun hb589 => ?_
                refine am_e34 hi_79_4 ?_
                show am_E _ _ _ _ [some (.ref 7), some (.int v1), some (.int r148), some (.int 1)] [.ref (nw S569)] _ _
                refine cm_20t h573 hi_150_106 hb589 (by decide) rfl fun t590 ht590 ht590b => ?_
                refine am_e2 (v := 7) hi_150_109 rfl ?_
                refine am_e32n (as := [.ref 7]) (la := [some (.ref 7)]) (rest := [.ref t590]) hi_150_110 (am_hd0 (M := 150) (by decide) 110) (Nat.le_of_ble_eq_true rfl) (Nat.le_of_ble_eq_true rfl) (show 1 ≤ am_P0.2.2.1 98 from by decide +kernel) rfl (cl_recv (h573.1.s (7, 6) (by decide))) rfl rfl (ck_here (d := (d + 18)) h573   ) ?_
                rintro v591 S592 ⟨r593, rfl, rfl, h595, h596⟩
                have h595_ : 0 ≤ r593.toInt := h595
                have h596_ : r593.toInt ≤ 2097154 := h596
                show am_E _ _ _ _ [some (.ref 7), some (.int v1), some (.int r148), some (.int 1)] [.int r593, .ref t590] _ _
                refine am_e0 hi_150_113 ?_
                obtain ⟨z598, hz598, tz598⟩ := am_subI (x := r593) (y := 1) (m := r593.toInt) (n := (1 : Int)) rfl (by decide) (by omega) (by omega)
                refine am_e10 (z := z598) hi_150_114 hz598 ?_
                refine am_e0 hi_150_115 ?_
                refine am_e0 hi_150_116 ?_
                refine am_e32n (as := [.ref t590, .int z598, .int 0, .int 46]) (la := [some (.ref t590), some (.int z598), some (.int 0), some (.int 46)]) (rest := []) hi_150_118 (am_hd0 (M := 150) (by decide) 118) (Nat.le_of_ble_eq_true rfl) (Nat.le_of_ble_eq_true rfl) (show 4 ≤ am_P0.2.2.1 86 from by decide +kernel) rfl (cl_recv ht590) rfl rfl (ck_set (d := (d + 19)) h573 ht590 (bt_ne ht590b).1  ) ?_
                rintro v599 S600 ⟨rfl, h602⟩
                obtain ⟨h604, h605, ⟨h606, h607, h608, h609⟩, ⟨h610, h611, h612⟩, h613, h614⟩ := h602
                have h615 : kd aw S600 = kd aw S569 := kd_eq h606 h609
                have h616 := h613 8 (h573.1.s (8, 3) (by decide))
                have h617 := h613 10 (h573.1.s (10, 3) (by decide))
                have h618 := os_5 h610 1
                have h619 := os_13 h610 1
                show am_E _ _ _ _ [some (.ref 7), some (.int v1), some (.int r148), some (.int 1)] [] _ _
                refine am_e18 hi_150_121 ?_
                refine am_e2 (v := 7) hi_150_157 rfl ?_
                refine cm_20f (r := 2) h604 hi_150_158 (h604.1.s (7, 6) (by decide)) (by decide) rfl ?_
                refine am_e32n (as := [.ref 2]) (la := [some (.ref 2)]) (rest := []) hi_150_161 (am_hd0 (M := 150) (by decide) 161) (Nat.le_of_ble_eq_true rfl) (Nat.le_of_ble_eq_true rfl) (show 1 ≤ am_P0.2.2.1 53 from by decide +kernel) rfl (cl_recv (h604.1.s (2, 2) (by decide))) rfl rfl (ck_kind (d := (d + 18)) h604   ) ?_
                rintro v620 S621 ⟨r622, rfl, rfl, h624⟩
                have h624_ : r622.toInt = kd aw S600 := h624
                show am_E _ _ _ _ [some (.ref 7), some (.int v1), some (.int r148), some (.int 1)] [.int r622] _ _
                refine am_e0 hi_150_164 ?_
                by_cases c626 : ¬ r622.toInt = (67 : Int)
                · refine am_e13t hi_150_166 (am_cT (m := r622.toInt) (n := (67 : Int)) rfl (by decide) c626) ?_
                  refine am_e35 hi_150_177 ?_
                  exact ⟨rfl, ⟨h604, (((h21.trans h161).trans h574).trans h605), ⟨(by show wr S600 = wr S; omega), (h609.trans (h578.trans (h165.trans h25)))⟩, ⟨(by show iv S600 13 1 = iv S 13 1; omega), (by show iv S600 5 1 - nx S600 ≤ iv S 5 1 - nx S; omega)⟩⟩, (by show nx S + 1 ≤ nx S600; omega), (by show nx S600 ≤ wr S600; omega), (by show lv S600 = lv S + 0; omega), (by show EN S600 + -10000 * nx S600 ≤ EN S + -10000 * nx S + (-5000); omega), (by show iv S 8 1 ≤ iv S600 8 1; omega), (by show iv S 10 1 ≤ iv S600 10 1; omega)⟩
                · refine am_e13f hi_150_166 (am_cF (m := r622.toInt) (n := (67 : Int)) rfl (by decide) c626) ?_
                  refine am_e2 (v := 7) hi_150_169 rfl ?_
                  refine cm_20f (r := 2) h604 hi_150_170 (h604.1.s (7, 6) (by decide)) (by decide) rfl ?_
                  refine am_e32t (as := [.ref 2]) (la := [some (.ref 2), none]) (rest := []) hi_150_173 (am_hd0 (M := 150) (by decide) 173) (Nat.le_of_ble_eq_true rfl) (Nat.le_of_ble_eq_true rfl) (show 1 ≤ am_P0.2.2.1 55 from by decide +kernel) rfl (cl_recv (h604.1.s (2, 2) (by decide))) rfl rfl (ck_skip (d := (d + 6)) h604   (by show 0 ≤ nx S600; omega) (by show nx S600 ≤ wr S600; omega) (by show wr S600 ≤ 600; omega) (by show 0 ≤ lv S600; omega) (by show lv S600 ≤ 48; omega) (by show kd aw S600 ≠ 0; omega)) (fun S643 h644 => (show TH aw 2000 S S643 from ⟨h644.1, (((h21.trans h161).trans h574).trans h605).trans h644.2.1, ⟨(by have q := h644.2.2.1.1; omega), h644.2.2.1.2.trans (h609.trans (h578.trans (h165.trans h25)))⟩, h644.2.2.2.1, h644.2.2.2.2.1, (by have q := h644.2.2.2.2.2; omega)⟩)) ?_
                  rintro v627 S628 ⟨r629, rfl, h630, h631, h632, h633, h634⟩
                  have h631_ : nx S628 = nx S600 + 1 := h631
                  have h632_ : lv S628 = lv S600 + c_dl (kd aw S600) := h632
                  have h633_ : lv S628 ≤ 48 := h633
                  have h634_ : nx S628 ≤ wr S628 := h634
                  obtain ⟨h645, h646, ⟨h649, h650⟩, ⟨h651, h652, h653⟩, h654, h655⟩ := h630
                  have h656 := h654 8 (h604.1.s (8, 3) (by decide))
                  have h657 := h654 10 (h604.1.s (10, 3) (by decide))
                  have h658 := os_5 h651 1
                  have h659 := os_13 h651 1
                  have h660 : c_dl (kd aw S600) = 0 := by unfold c_dl; split <;> split <;> omega
                  show am_E _ _ _ _ [some (.ref 7), some (.int v1), some (.int r148), some (.int 1)] [.int r629] _ _
                  refine am_e6i hi_150_176 ?_
                  refine am_e35 hi_150_177 ?_
                  exact ⟨rfl, ⟨h645, ((((h21.trans h161).trans h574).trans h605).trans h646), ⟨(by show wr S628 = wr S; omega), (h650.trans (h609.trans (h578.trans (h165.trans h25))))⟩, ⟨(by show iv S628 13 1 = iv S 13 1; omega), (by show iv S628 5 1 - nx S628 ≤ iv S 5 1 - nx S; omega)⟩⟩, (by show nx S + 1 ≤ nx S628; omega), (by show nx S628 ≤ wr S628; omega), (by show lv S628 = lv S + 0; omega), (by show EN S628 + -10000 * nx S628 ≤ EN S + -10000 * nx S + (-5000); omega), (by show iv S 8 1 ≤ iv S628 8 1; omega), (by show iv S 10 1 ≤ iv S628 10 1; omega)⟩
