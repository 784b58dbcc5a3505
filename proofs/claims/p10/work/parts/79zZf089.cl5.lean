/-! THE CLASS: instructions, targets, operators (printed by wip/p2/cl5.py) -/
theorem ck_emit {sc : Nat × (Nat → Int32)} {d aw : Nat} {S : am_S} {o1 : Int32} {a1 : Int32} {b1 : Int32} {w1 : Int32} (h : SH aw S) : am_E (am_PP sc) (d + 3) 78 0 [some (.ref 7), some (.int o1), some (.int a1), some (.int b1), some (.int w1)] [] S (am_N fun v S1 => ∃ r : Int32, v = some (.int r) ∧ Qu aw (160) S S1 ∧ (iv S1 8 1 = iv S 8 1) ∧ (iv S1 10 1 = iv S 10 1) ∧ (iv S1 14 1 = iv S 14 1)) := by
  refine am_e2 (v := 7) hi_78_0 rfl ?_
  refine cm_20f (r := 12) h hi_78_1 (h.1.s (7, 6) (by decide)) (by decide) rfl ?_
  refine am_e32w (as := [.ref 12]) (la := [some (.ref 12)]) (rest := []) hi_78_4 (am_hd0 (M := 78) (by decide) 4) (Nat.le_of_ble_eq_true rfl) (Nat.le_of_ble_eq_true rfl) (show 1 ≤ am_P0.2.2.1 79 from by decide +kernel) rfl (cl_recv (h.1.s (12, 7) (by decide))) rfl rfl ?_
  refine am_e2 (v := 12) hi_79_0 rfl ?_
  refine cm_20n h hi_79_1 fun hb1 => ?_
  refine am_e34 hi_79_4 ?_
  show am_E _ _ _ _ [some (.ref 7), some (.int o1), some (.int a1), some (.int b1), some (.int w1)] [.ref (nw S)] _ _
  refine cm_20t h hi_78_7 hb1 (by decide) rfl fun t2 ht2 ht2b => ?_
  refine am_e1 (v := o1) hi_78_10 rfl ?_
  refine am_e1 (v := a1) hi_78_11 rfl ?_
  refine am_e1 (v := b1) hi_78_12 rfl ?_
  refine am_e1 (v := w1) hi_78_13 rfl ?_
  have h3 : c_w t2 = 0 := bt_w ht2b
  refine am_e32n (as := [.ref t2, .int o1, .int a1, .int b1, .int w1]) (la := [some (.ref t2), some (.int o1), some (.int a1), some (.int b1), some (.int w1), none]) (rest := []) hi_78_15 (am_hd0 (M := 78) (by decide) 15) (Nat.le_of_ble_eq_true rfl) (Nat.le_of_ble_eq_true rfl) (show 5 ≤ am_P0.2.2.1 31 from by decide +kernel) rfl (cl_recv ht2) rfl rfl (ck_add (d := d) h ht2 (bt_ne ht2b).1  ) ?_
  rintro v4 S5 ⟨r6, rfl, h7, h8, h9⟩
  have h8_ : iv S t2 1 ≤ iv S5 t2 1 ∧ iv S5 t2 1 ≤ iv S t2 1 + 1 := h8
  have h9_ : ∀ j, cl (am_fs S) j = some 3 → j ≠ t2 → iv S5 j 1 = iv S j 1 := h9
  obtain ⟨h11, h12, ⟨h13, h14, h15, h16⟩, ⟨h17, h18, h19⟩, h21⟩ := h7
  have h22 : kd aw S5 = kd aw S := kd_eq h13 h16
  have h23 := h9_ 8 (h.1.s (8, 3) (by decide)) (by have := bt_ne ht2b; omega)
  have h24 := h9_ 10 (h.1.s (10, 3) (by decide)) (by have := bt_ne ht2b; omega)
  have h25 := h9_ 14 (h.1.s (14, 3) (by decide)) (by have := bt_ne ht2b; omega)
  show am_E _ _ _ _ [some (.ref 7), some (.int o1), some (.int a1), some (.int b1), some (.int w1)] [.int r6] _ _
  refine am_e33 hi_78_18 ?_
  exact ⟨r6, rfl, ⟨h11, h12, ⟨(by show nx S5 = nx S; omega), (by show lv S5 = lv S; omega), (by show wr S5 = wr S; omega), h16⟩, ⟨h17, h18, (by show fl S5 = fl S; omega)⟩, (by show EN S5 ≤ EN S + (160); omega)⟩, (by show iv S5 8 1 = iv S 8 1; omega), (by show iv S5 10 1 = iv S 10 1; omega), (by show iv S5 14 1 = iv S 14 1; omega)⟩
theorem ck_here {sc : Nat × (Nat → Int32)} {d aw : Nat} {S : am_S} (h : SH aw S) : am_E (am_PP sc) (d + 1) 98 0 [some (.ref 7)] [] S (am_N fun v S1 => ∃ r : Int32, v = some (.int r) ∧ S = S1 ∧ (0 ≤ r.toInt) ∧ (r.toInt ≤ 2097154)) := by
  refine am_e2 (v := 7) hi_98_0 rfl ?_
  refine cm_20f (r := 12) h hi_98_1 (h.1.s (7, 6) (by decide)) (by decide) rfl ?_
  refine am_e32w (as := [.ref 12]) (la := [some (.ref 12)]) (rest := []) hi_98_4 (am_hd0 (M := 98) (by decide) 4) (Nat.le_of_ble_eq_true rfl) (Nat.le_of_ble_eq_true rfl) (show 1 ≤ am_P0.2.2.1 79 from by decide +kernel) rfl (cl_recv (h.1.s (12, 7) (by decide))) rfl rfl ?_
  refine am_e2 (v := 12) hi_79_0 rfl ?_
  refine cm_20n h hi_79_1 fun hb1 => ?_
  refine am_e34 hi_79_4 ?_
  show am_E _ _ _ _ [some (.ref 7)] [.ref (nw S)] _ _
  refine cm_20t h hi_98_7 hb1 (by decide) rfl fun t2 ht2 ht2b => ?_
  refine am_e32n (as := [.ref t2]) (la := [some (.ref t2)]) (rest := []) hi_98_10 (am_hd0 (M := 98) (by decide) 10) (Nat.le_of_ble_eq_true rfl) (Nat.le_of_ble_eq_true rfl) (show 1 ≤ am_P0.2.2.1 36 from by decide +kernel) rfl (cl_recv ht2) rfl rfl (ck_rows (d := d) h ht2  ) ?_
  rintro v3 S4 ⟨r5, rfl, rfl, h7, h8, h9⟩
  have h7_ : r5.toInt = iv S t2 1 := h7
  have h8_ : 0 ≤ r5.toInt := h8
  have h9_ : r5.toInt ≤ 2097154 := h9
  show am_E _ _ _ _ [some (.ref 7)] [.int r5] _ _
  refine am_e33 hi_98_13 ?_
  exact ⟨r5, rfl, rfl, (by show 0 ≤ r5.toInt; omega), (by show r5.toInt ≤ 2097154; omega)⟩
theorem ck_lastOp {sc : Nat × (Nat → Int32)} {d aw : Nat} {S : am_S} (h : SH aw S) : am_E (am_PP sc) (d + 2) 97 0 [some (.ref 7)] [] S (am_N fun v S1 => ∃ r : Int32, v = some (.int r) ∧ S = S1) := by
  refine am_e2 (v := 7) hi_97_0 rfl ?_
  refine cm_20f (r := 12) h hi_97_1 (h.1.s (7, 6) (by decide)) (by decide) rfl ?_
  refine am_e32w (as := [.ref 12]) (la := [some (.ref 12)]) (rest := []) hi_97_4 (am_hd0 (M := 97) (by decide) 4) (Nat.le_of_ble_eq_true rfl) (Nat.le_of_ble_eq_true rfl) (show 1 ≤ am_P0.2.2.1 79 from by decide +kernel) rfl (cl_recv (h.1.s (12, 7) (by decide))) rfl rfl ?_
  refine am_e2 (v := 12) hi_79_0 rfl ?_
  refine cm_20n h hi_79_1 fun hb1 => ?_
  refine am_e34 hi_79_4 ?_
  show am_E _ _ _ _ [some (.ref 7)] [.ref (nw S)] _ _
  refine cm_20t h hi_97_7 hb1 (by decide) rfl fun t2 ht2 ht2b => ?_
  refine am_e2 (v := 7) hi_97_10 rfl ?_
  refine am_e32n (as := [.ref 7]) (la := [some (.ref 7)]) (rest := [.ref t2]) hi_97_11 (am_hd0 (M := 97) (by decide) 11) (Nat.le_of_ble_eq_true rfl) (Nat.le_of_ble_eq_true rfl) (show 1 ≤ am_P0.2.2.1 98 from by decide +kernel) rfl (cl_recv (h.1.s (7, 6) (by decide))) rfl rfl (ck_here (d := d) h   ) ?_
  rintro v3 S4 ⟨r5, rfl, rfl, h7, h8⟩
  have h7_ : 0 ≤ r5.toInt := h7
  have h8_ : r5.toInt ≤ 2097154 := h8
  show am_E _ _ _ _ [some (.ref 7)] [.int r5, .ref t2] _ _
  refine am_e0 hi_97_14 ?_
  obtain ⟨z10, hz10, tz10⟩ := am_subI (x := r5) (y := 1) (m := r5.toInt) (n := (1 : Int)) rfl (by decide) (by omega) (by omega)
  refine am_e10 (z := z10) hi_97_15 hz10 ?_
  refine am_e0 hi_97_16 ?_
  refine am_e32n (as := [.ref t2, .int z10, .int 0]) (la := [some (.ref t2), some (.int z10), some (.int 0)]) (rest := []) hi_97_17 (am_hd0 (M := 97) (by decide) 17) (Nat.le_of_ble_eq_true rfl) (Nat.le_of_ble_eq_true rfl) (show 3 ≤ am_P0.2.2.1 54 from by decide +kernel) rfl (cl_recv ht2) rfl rfl (ck_get (d := (d + 1)) h ht2  ) ?_
  rintro v11 S12 ⟨r13, rfl, rfl⟩
  show am_E _ _ _ _ [some (.ref 7)] [.int r13] _ _
  refine am_e33 hi_97_20 ?_
  exact ⟨r13, rfl, rfl⟩
theorem ck_keepFlags {sc : Nat × (Nat → Int32)} {d aw : Nat} {S : am_S} {x : Int32} {y : Int32} (h : SH aw S) : am_E (am_PP sc) (d + 2) 99 0 [some (.ref 7), some (.int x), some (.int y), none] [] S (am_N fun v S1 => v = none ∧ Sm aw S S1) := by
  refine am_e2 (v := 7) hi_99_0 rfl ?_
  refine am_e32n (as := [.ref 7]) (la := [some (.ref 7)]) (rest := []) hi_99_1 (am_hd0 (M := 99) (by decide) 1) (Nat.le_of_ble_eq_true rfl) (Nat.le_of_ble_eq_true rfl) (show 1 ≤ am_P0.2.2.1 98 from by decide +kernel) rfl (cl_recv (h.1.s (7, 6) (by decide))) rfl rfl (ck_here (d := d) h   ) ?_
  rintro v1 S2 ⟨r3, rfl, rfl, h5, h6⟩
  have h5_ : 0 ≤ r3.toInt := h5
  have h6_ : r3.toInt ≤ 2097154 := h6
  show am_E _ _ _ _ [some (.ref 7), some (.int x), some (.int y), none] [.int r3] _ _
  refine am_e0 hi_99_4 ?_
  obtain ⟨z8, hz8, tz8⟩ := am_subI (x := r3) (y := 1) (m := r3.toInt) (n := (1 : Int)) rfl (by decide) (by omega) (by omega)
  refine am_e10 (z := z8) hi_99_5 hz8 ?_
  refine am_e3 (ls' := [some (.ref 7), some (.int x), some (.int y), some (.int z8)]) hi_99_6 (Nat.le_of_ble_eq_true rfl) rfl ?_
  refine am_e2 (v := 7) hi_99_7 rfl ?_
  refine cm_20f (r := 12) h hi_99_8 (h.1.s (7, 6) (by decide)) (by decide) rfl ?_
  refine am_e32w (as := [.ref 12]) (la := [some (.ref 12)]) (rest := []) hi_99_11 (am_hd0 (M := 99) (by decide) 11) (Nat.le_of_ble_eq_true rfl) (Nat.le_of_ble_eq_true rfl) (show 1 ≤ am_P0.2.2.1 79 from by decide +kernel) rfl (cl_recv (h.1.s (12, 7) (by decide))) rfl rfl ?_
  refine am_e2 (v := 12) hi_79_0 rfl ?_
  refine cm_20n h hi_79_1 fun hb9 => ?_
  refine am_e34 hi_79_4 ?_
  show am_E _ _ _ _ [some (.ref 7), some (.int x), some (.int y), some (.int z8)] [.ref (nw S)] _ _
  refine cm_20t h hi_99_14 hb9 (by decide) rfl fun t10 ht10 ht10b => ?_
  refine am_e1 (v := z8) hi_99_17 rfl ?_
  refine am_e0 hi_99_18 ?_
  refine am_e2 (v := 7) hi_99_19 rfl ?_
  refine cm_20f (r := 12) h hi_99_20 (h.1.s (7, 6) (by decide)) (by decide) rfl ?_
  refine am_e32w (as := [.ref 12]) (la := [some (.ref 12)]) (rest := [.int 2, .int z8, .ref t10]) hi_99_23 (am_hd0 (M := 99) (by decide) 23) (Nat.le_of_ble_eq_true rfl) (Nat.le_of_ble_eq_true rfl) (show 1 ≤ am_P0.2.2.1 79 from by decide +kernel) rfl (cl_recv (h.1.s (12, 7) (by decide))) rfl rfl ?_
  refine am_e2 (v := 12) hi_79_0 rfl ?_
  refine cm_20n h hi_79_1 fun hb11 => ?_
  refine am_e34 hi_79_4 ?_
  show am_E _ _ _ _ [some (.ref 7), some (.int x), some (.int y), some (.int z8)] [.ref (nw S), .int 2, .int z8, .ref t10] _ _
  refine cm_20t h hi_99_26 hb11 (by decide) rfl fun t12 ht12 ht12b => ?_
  refine am_e1 (v := z8) hi_99_29 rfl ?_
  refine am_e0 hi_99_30 ?_
  refine am_e32n (as := [.ref t12, .int z8, .int 2]) (la := [some (.ref t12), some (.int z8), some (.int 2)]) (rest := [.int 2, .int z8, .ref t10]) hi_99_31 (am_hd0 (M := 99) (by decide) 31) (Nat.le_of_ble_eq_true rfl) (Nat.le_of_ble_eq_true rfl) (show 3 ≤ am_P0.2.2.1 54 from by decide +kernel) rfl (cl_recv ht12) rfl rfl (ck_get (d := (d + 1)) h ht12  ) ?_
  rintro v13 S14 ⟨r15, rfl, rfl⟩
  show am_E _ _ _ _ [some (.ref 7), some (.int x), some (.int y), some (.int z8)] [.int r15, .int 2, .int z8, .ref t10] _ _
  refine am_e1 (v := x) hi_99_34 rfl ?_
  obtain ⟨z18, hz18⟩ : ∃ q__, am_bin 3 r15 x = q__ := ⟨_, rfl⟩
  refine am_e10 (z := z18) hi_99_35 hz18 ?_
  refine am_e1 (v := y) hi_99_36 rfl ?_
  obtain ⟨z19, hz19⟩ : ∃ q__, am_bin 4 z18 y = q__ := ⟨_, rfl⟩
  refine am_e10 (z := z19) hi_99_37 hz19 ?_
  refine am_e32n (as := [.ref t10, .int z8, .int 2, .int z19]) (la := [some (.ref t10), some (.int z8), some (.int 2), some (.int z19)]) (rest := []) hi_99_38 (am_hd0 (M := 99) (by decide) 38) (Nat.le_of_ble_eq_true rfl) (Nat.le_of_ble_eq_true rfl) (show 4 ≤ am_P0.2.2.1 86 from by decide +kernel) rfl (cl_recv ht10) rfl rfl (ck_set (d := (d + 1)) h ht10 (bt_ne ht10b).1  ) ?_
  rintro v20 S21 ⟨rfl, h23⟩
  obtain ⟨h25, h26, ⟨h27, h28, h29, h30⟩, ⟨h31, h32, h33⟩, h34, h35⟩ := h23
  have h36 : kd aw S21 = kd aw S := kd_eq h27 h30
  show am_E _ _ _ _ [some (.ref 7), some (.int x), some (.int y), some (.int z8)] [] _ _
  refine am_e35 hi_99_41 ?_
  exact ⟨rfl, ⟨h25, h26, ⟨(by show nx S21 = nx S; omega), (by show lv S21 = lv S; omega), (by show wr S21 = wr S; omega), h30⟩, ⟨h31, h32, (by show fl S21 = fl S; omega)⟩, (fun t ht => (h34 t ht)), (by show EN S21 ≤ EN S; omega)⟩⟩
theorem ck_widen {sc : Nat × (Nat → Int32)} {d aw : Nat} {S : am_S} (h : SH aw S) : am_E (am_PP sc) (d + 3) 96 0 [some (.ref 7)] [] S (am_N fun v S1 => v = none ∧ Sm aw S S1) := by
  refine am_e2 (v := 7) hi_96_0 rfl ?_
  refine am_e32n (as := [.ref 7]) (la := [some (.ref 7)]) (rest := []) hi_96_1 (am_hd0 (M := 96) (by decide) 1) (Nat.le_of_ble_eq_true rfl) (Nat.le_of_ble_eq_true rfl) (show 1 ≤ am_P0.2.2.1 97 from by decide +kernel) rfl (cl_recv (h.1.s (7, 6) (by decide))) rfl rfl (ck_lastOp (d := d) h   ) ?_
  rintro v1 S2 ⟨r3, rfl, rfl⟩
  show am_E _ _ _ _ [some (.ref 7)] [.int r3] _ _
  refine am_e0 hi_96_4 ?_
  by_cases c6 : ¬ r3.toInt = (6 : Int)
  · refine am_e13t hi_96_6 (am_cT (m := r3.toInt) (n := (6 : Int)) rfl (by decide) c6) ?_
    refine am_e2 (v := 7) hi_96_33 rfl ?_
    refine am_e0 hi_96_34 ?_
    refine am_e0 hi_96_35 ?_
    refine am_e32n (as := [.ref 7, .int 1, .int 4]) (la := [some (.ref 7), some (.int 1), some (.int 4), none]) (rest := []) hi_96_36 (am_hd0 (M := 96) (by decide) 36) (Nat.le_of_ble_eq_true rfl) (Nat.le_of_ble_eq_true rfl) (show 3 ≤ am_P0.2.2.1 99 from by decide +kernel) rfl (cl_recv (h.1.s (7, 6) (by decide))) rfl rfl (ck_keepFlags (d := d) h   ) ?_
    rintro v7 S8 ⟨rfl, h10⟩
    obtain ⟨h12, h13, ⟨h14, h15, h16, h17⟩, ⟨h18, h19, h20⟩, h21, h22⟩ := h10
    have h23 : kd aw S8 = kd aw S := kd_eq h14 h17
    show am_E _ _ _ _ [some (.ref 7)] [] _ _
    refine am_e35 hi_96_39 ?_
    exact ⟨rfl, ⟨h12, h13, ⟨(by show nx S8 = nx S; omega), (by show lv S8 = lv S; omega), (by show wr S8 = wr S; omega), h17⟩, ⟨h18, h19, (by show fl S8 = fl S; omega)⟩, (fun t ht => (h21 t ht)), (by show EN S8 ≤ EN S; omega)⟩⟩
  · refine am_e13f hi_96_6 (am_cF (m := r3.toInt) (n := (6 : Int)) rfl (by decide) c6) ?_
    refine am_e2 (v := 7) hi_96_9 rfl ?_
    refine cm_20f (r := 12) h hi_96_10 (h.1.s (7, 6) (by decide)) (by decide) rfl ?_
    refine am_e32w (as := [.ref 12]) (la := [some (.ref 12)]) (rest := []) hi_96_13 (am_hd0 (M := 96) (by decide) 13) (Nat.le_of_ble_eq_true rfl) (Nat.le_of_ble_eq_true rfl) (show 1 ≤ am_P0.2.2.1 79 from by decide +kernel) rfl (cl_recv (h.1.s (12, 7) (by decide))) rfl rfl ?_
    refine am_e2 (v := 12) hi_79_0 rfl ?_
    refine cm_20n h hi_79_1 fun hb24 => ?_
    refine am_e34 hi_79_4 ?_
    show am_E _ _ _ _ [some (.ref 7)] [.ref (nw S)] _ _
    refine cm_20t h hi_96_16 hb24 (by decide) rfl fun t25 ht25 ht25b => ?_
    refine am_e2 (v := 7) hi_96_19 rfl ?_
    refine am_e32n (as := [.ref 7]) (la := [some (.ref 7)]) (rest := [.ref t25]) hi_96_20 (am_hd0 (M := 96) (by decide) 20) (Nat.le_of_ble_eq_true rfl) (Nat.le_of_ble_eq_true rfl) (show 1 ≤ am_P0.2.2.1 98 from by decide +kernel) rfl (cl_recv (h.1.s (7, 6) (by decide))) rfl rfl (ck_here (d := (d + 1)) h   ) ?_
    rintro v26 S27 ⟨r28, rfl, rfl, h30, h31⟩
    have h30_ : 0 ≤ r28.toInt := h30
    have h31_ : r28.toInt ≤ 2097154 := h31
    show am_E _ _ _ _ [some (.ref 7)] [.int r28, .ref t25] _ _
    refine am_e0 hi_96_23 ?_
    obtain ⟨z33, hz33, tz33⟩ := am_subI (x := r28) (y := 1) (m := r28.toInt) (n := (1 : Int)) rfl (by decide) (by omega) (by omega)
    refine am_e10 (z := z33) hi_96_24 hz33 ?_
    refine am_e0 hi_96_25 ?_
    refine am_e0 hi_96_26 ?_
    refine am_e32n (as := [.ref t25, .int z33, .int 2, .int 0]) (la := [some (.ref t25), some (.int z33), some (.int 2), some (.int 0)]) (rest := []) hi_96_27 (am_hd0 (M := 96) (by decide) 27) (Nat.le_of_ble_eq_true rfl) (Nat.le_of_ble_eq_true rfl) (show 4 ≤ am_P0.2.2.1 86 from by decide +kernel) rfl (cl_recv ht25) rfl rfl (ck_set (d := (d + 2)) h ht25 (bt_ne ht25b).1  ) ?_
    rintro v34 S35 ⟨rfl, h37⟩
    obtain ⟨h39, h40, ⟨h41, h42, h43, h44⟩, ⟨h45, h46, h47⟩, h48, h49⟩ := h37
    have h50 : kd aw S35 = kd aw S := kd_eq h41 h44
    show am_E _ _ _ _ [some (.ref 7)] [] _ _
    refine am_e18 hi_96_30 ?_
    refine am_e35 hi_96_39 ?_
    exact ⟨rfl, ⟨h39, h40, ⟨(by show nx S35 = nx S; omega), (by show lv S35 = lv S; omega), (by show wr S35 = wr S; omega), h44⟩, ⟨h45, h46, (by show fl S35 = fl S; omega)⟩, (fun t ht => (h48 t ht)), (by show EN S35 ≤ EN S; omega)⟩⟩
theorem ck_settle {sc : Nat × (Nat → Int32)} {d aw : Nat} {S : am_S} {x : Int32} (h : SH aw S) : am_E (am_PP sc) (d + 4) 100 0 [some (.ref 7), some (.int x)] [] S (am_N fun v S1 => v = none ∧ Qu aw (160) S S1 ∧ (iv S1 8 1 = iv S 8 1) ∧ (iv S1 10 1 = iv S 10 1) ∧ (iv S1 14 1 = iv S 14 1)) := by
  refine am_e1 (v := x) hi_100_0 rfl ?_
  refine am_e0 hi_100_1 ?_
  by_cases c1 : ¬ x.toInt = (1 : Int)
  · refine am_e13t hi_100_2 (am_cT (m := x.toInt) (n := (1 : Int)) rfl (by decide) c1) ?_
    refine am_e1 (v := x) hi_100_32 rfl ?_
    refine am_e0 hi_100_33 ?_
    by_cases c2 : ¬ x.toInt = (2 : Int)
    · refine am_e13t hi_100_34 (am_cT (m := x.toInt) (n := (2 : Int)) rfl (by decide) c2) ?_
      refine am_e1 (v := x) hi_100_56 rfl ?_
      refine am_e0 hi_100_57 ?_
      by_cases c3 : ¬ x.toInt = (3 : Int)
      · refine am_e13t hi_100_58 (am_cT (m := x.toInt) (n := (3 : Int)) rfl (by decide) c3) ?_
        refine am_e35 hi_100_74 ?_
        exact ⟨rfl, ⟨h, (Ex.refl S), ⟨(by show nx S = nx S; omega), (by show lv S = lv S; omega), (by show wr S = wr S; omega), rfl⟩, ⟨rfl, rfl, (by show fl S = fl S; omega)⟩, (by show EN S ≤ EN S + (160); omega)⟩, (by show iv S 8 1 = iv S 8 1; omega), (by show iv S 10 1 = iv S 10 1; omega), (by show iv S 14 1 = iv S 14 1; omega)⟩
      · refine am_e13f hi_100_58 (am_cF (m := x.toInt) (n := (3 : Int)) rfl (by decide) c3) ?_
        refine am_e2 (v := 7) hi_100_61 rfl ?_
        refine am_e0 hi_100_62 ?_
        refine am_e0 hi_100_64 ?_
        refine am_e0 hi_100_65 ?_
        refine am_e2 (v := 7) hi_100_66 rfl ?_
        refine cm_20i h hi_100_67 (h.1.s (7, 6) (by decide)) (by decide) rfl fun v4 hv4 => ?_
        have hv4_ : v4.toInt = iv S 7 6 := hv4
        refine am_e32n (as := [.ref 7, .int 11, .int 0, .int 0, .int v4]) (la := [some (.ref 7), some (.int 11), some (.int 0), some (.int 0), some (.int v4)]) (rest := []) hi_100_70 (am_hd0 (M := 100) (by decide) 70) (Nat.le_of_ble_eq_true rfl) (Nat.le_of_ble_eq_true rfl) (show 5 ≤ am_P0.2.2.1 78 from by decide +kernel) rfl (cl_recv (h.1.s (7, 6) (by decide))) rfl rfl (ck_emit (d := d) h   ) ?_
        rintro v5 S6 ⟨r7, rfl, h8, h9, h10, h11⟩
        have h9_ : iv S6 8 1 = iv S 8 1 := h9
        have h10_ : iv S6 10 1 = iv S 10 1 := h10
        have h11_ : iv S6 14 1 = iv S 14 1 := h11
        obtain ⟨h13, h14, ⟨h15, h16, h17, h18⟩, ⟨h19, h20, h21⟩, h23⟩ := h8
        have h24 : kd aw S6 = kd aw S := kd_eq h15 h18
        show am_E _ _ _ _ [some (.ref 7), some (.int x)] [.int r7] _ _
        refine am_e6i hi_100_73 ?_
        refine am_e35 hi_100_74 ?_
        exact ⟨rfl, ⟨h13, h14, ⟨(by show nx S6 = nx S; omega), (by show lv S6 = lv S; omega), (by show wr S6 = wr S; omega), h18⟩, ⟨h19, h20, (by show fl S6 = fl S; omega)⟩, (by show EN S6 ≤ EN S + (160); omega)⟩, (by show iv S6 8 1 = iv S 8 1; omega), (by show iv S6 10 1 = iv S 10 1; omega), (by show iv S6 14 1 = iv S 14 1; omega)⟩
    · refine am_e13f hi_100_34 (am_cF (m := x.toInt) (n := (2 : Int)) rfl (by decide) c2) ?_
      refine am_e2 (v := 7) hi_100_37 rfl ?_
      refine am_e0 hi_100_38 ?_
      refine am_e2 (v := 7) hi_100_40 rfl ?_
      refine cm_20i h hi_100_41 (h.1.s (7, 6) (by decide)) (by decide) rfl fun v25 hv25 => ?_
      have hv25_ : v25.toInt = iv S 7 7 := hv25
      refine am_e0 hi_100_44 ?_
      refine am_e2 (v := 7) hi_100_45 rfl ?_
      refine cm_20i h hi_100_46 (h.1.s (7, 6) (by decide)) (by decide) rfl fun v26 hv26 => ?_
      have hv26_ : v26.toInt = iv S 7 6 := hv26
      refine am_e32n (as := [.ref 7, .int 12, .int v25, .int 0, .int v26]) (la := [some (.ref 7), some (.int 12), some (.int v25), some (.int 0), some (.int v26)]) (rest := []) hi_100_49 (am_hd0 (M := 100) (by decide) 49) (Nat.le_of_ble_eq_true rfl) (Nat.le_of_ble_eq_true rfl) (show 5 ≤ am_P0.2.2.1 78 from by decide +kernel) rfl (cl_recv (h.1.s (7, 6) (by decide))) rfl rfl (ck_emit (d := d) h   ) ?_
      rintro v27 S28 ⟨r29, rfl, h30, h31, h32, h33⟩
      have h31_ : iv S28 8 1 = iv S 8 1 := h31
      have h32_ : iv S28 10 1 = iv S 10 1 := h32
      have h33_ : iv S28 14 1 = iv S 14 1 := h33
      obtain ⟨h35, h36, ⟨h37, h38, h39, h40⟩, ⟨h41, h42, h43⟩, h45⟩ := h30
      have h46 : kd aw S28 = kd aw S := kd_eq h37 h40
      show am_E _ _ _ _ [some (.ref 7), some (.int x)] [.int r29] _ _
      refine am_e6i hi_100_52 ?_
      refine am_e18 hi_100_53 ?_
      refine am_e35 hi_100_74 ?_
      exact ⟨rfl, ⟨h35, h36, ⟨(by show nx S28 = nx S; omega), (by show lv S28 = lv S; omega), (by show wr S28 = wr S; omega), h40⟩, ⟨h41, h42, (by show fl S28 = fl S; omega)⟩, (by show EN S28 ≤ EN S + (160); omega)⟩, (by show iv S28 8 1 = iv S 8 1; omega), (by show iv S28 10 1 = iv S 10 1; omega), (by show iv S28 14 1 = iv S 14 1; omega)⟩
  · refine am_e13f hi_100_2 (am_cF (m := x.toInt) (n := (1 : Int)) rfl (by decide) c1) ?_
    refine am_e2 (v := 7) hi_100_5 rfl ?_
    refine am_e2 (v := 7) hi_100_6 rfl ?_
    refine cm_20f (r := 12) h hi_100_7 (h.1.s (7, 6) (by decide)) (by decide) rfl ?_
    refine am_e32w (as := [.ref 12]) (la := [some (.ref 12)]) (rest := [.ref 7]) hi_100_10 (am_hd0 (M := 100) (by decide) 10) (Nat.le_of_ble_eq_true rfl) (Nat.le_of_ble_eq_true rfl) (show 1 ≤ am_P0.2.2.1 101 from by decide +kernel) rfl (cl_recv (h.1.s (12, 7) (by decide))) rfl rfl ?_
    refine am_e2 (v := 12) hi_101_0 rfl ?_
    refine cm_20i h hi_101_1 (h.1.s (12, 7) (by decide)) (by decide) rfl fun v47 hv47 => ?_
    have hv47_ : v47.toInt = iv S 12 7 := hv47
    refine am_e33 hi_101_4 ?_
    show am_E _ _ _ _ [some (.ref 7), some (.int x)] [.int v47, .ref 7] _ _
    refine am_e2 (v := 7) hi_100_13 rfl ?_
    refine cm_20f (r := 12) h hi_100_14 (h.1.s (7, 6) (by decide)) (by decide) rfl ?_
    refine am_e32w (as := [.ref 12]) (la := [some (.ref 12)]) (rest := [.int v47, .ref 7]) hi_100_17 (am_hd0 (M := 100) (by decide) 17) (Nat.le_of_ble_eq_true rfl) (Nat.le_of_ble_eq_true rfl) (show 1 ≤ am_P0.2.2.1 102 from by decide +kernel) rfl (cl_recv (h.1.s (12, 7) (by decide))) rfl rfl ?_
    refine am_e2 (v := 12) hi_102_0 rfl ?_
    refine cm_20i h hi_102_1 (h.1.s (12, 7) (by decide)) (by decide) rfl fun v48 hv48 => ?_
    have hv48_ : v48.toInt = iv S 12 8 := hv48
    refine am_e33 hi_102_4 ?_
    show am_E _ _ _ _ [some (.ref 7), some (.int x)] [.int v48, .int v47, .ref 7] _ _
    refine am_e0 hi_100_20 ?_
    refine am_e2 (v := 7) hi_100_21 rfl ?_
    refine cm_20i h hi_100_22 (h.1.s (7, 6) (by decide)) (by decide) rfl fun v49 hv49 => ?_
    have hv49_ : v49.toInt = iv S 7 6 := hv49
    refine am_e32n (as := [.ref 7, .int v47, .int v48, .int 0, .int v49]) (la := [some (.ref 7), some (.int v47), some (.int v48), some (.int 0), some (.int v49)]) (rest := []) hi_100_25 (am_hd0 (M := 100) (by decide) 25) (Nat.le_of_ble_eq_true rfl) (Nat.le_of_ble_eq_true rfl) (show 5 ≤ am_P0.2.2.1 78 from by decide +kernel) rfl (cl_recv (h.1.s (7, 6) (by decide))) rfl rfl (ck_emit (d := d) h   ) ?_
    rintro v50 S51 ⟨r52, rfl, h53, h54, h55, h56⟩
    have h54_ : iv S51 8 1 = iv S 8 1 := h54
    have h55_ : iv S51 10 1 = iv S 10 1 := h55
    have h56_ : iv S51 14 1 = iv S 14 1 := h56
    obtain ⟨h58, h59, ⟨h60, h61, h62, h63⟩, ⟨h64, h65, h66⟩, h68⟩ := h53
    have h69 : kd aw S51 = kd aw S := kd_eq h60 h63
    show am_E _ _ _ _ [some (.ref 7), some (.int x)] [.int r52] _ _
    refine am_e6i hi_100_28 ?_
    refine am_e18 hi_100_29 ?_
    refine am_e35 hi_100_74 ?_
    exact ⟨rfl, ⟨h58, h59, ⟨(by show nx S51 = nx S; omega), (by show lv S51 = lv S; omega), (by show wr S51 = wr S; omega), h63⟩, ⟨h64, h65, (by show fl S51 = fl S; omega)⟩, (by show EN S51 ≤ EN S + (160); omega)⟩, (by show iv S51 8 1 = iv S 8 1; omega), (by show iv S51 10 1 = iv S 10 1; omega), (by show iv S51 14 1 = iv S 14 1; omega)⟩
theorem ck_refuseConst {sc : Nat × (Nat → Int32)} {d aw : Nat} {S : am_S} {x : Int32} (h : SH aw S) : am_E (am_PP sc) (d + 1) 114 0 [some (.ref 7), some (.int x)] [] S (am_N fun v S1 => v = none ∧ Sm aw S S1) := by
  refine am_e2 (v := 7) hi_114_0 rfl ?_
  refine cm_20f (r := 12) h hi_114_1 (h.1.s (7, 6) (by decide)) (by decide) rfl ?_
  refine am_e32w (as := [.ref 12]) (la := [some (.ref 12)]) (rest := []) hi_114_4 (am_hd0 (M := 114) (by decide) 4) (Nat.le_of_ble_eq_true rfl) (Nat.le_of_ble_eq_true rfl) (show 1 ≤ am_P0.2.2.1 115 from by decide +kernel) rfl (cl_recv (h.1.s (12, 7) (by decide))) rfl rfl ?_
  refine am_e2 (v := 12) hi_115_0 rfl ?_
  refine cm_20z h hi_115_1 (h.1.s (12, 7) (by decide)) (by decide) rfl fun v1 hv1 => ?_
  have hv1_ : v1.toInt = 0 ∨ v1.toInt = 1 := hv1.elim (fun e => Or.inl (by rw [e]; rfl)) (fun e => Or.inr (by rw [e]; rfl))
  refine am_e36 hi_115_4 hv1 ?_
  show am_E _ _ _ _ [some (.ref 7), some (.int x)] [.int v1] _ _
  by_cases c2 : v1.toInt = (0 : Int)
  · refine am_e12t hi_114_7 (am_cT (m := v1.toInt) (n := (0 : Int)) rfl (by decide) c2) ?_
    refine am_e35 hi_114_20 ?_
    exact ⟨rfl, ⟨h, (Ex.refl S), ⟨(by show nx S = nx S; omega), (by show lv S = lv S; omega), (by show wr S = wr S; omega), rfl⟩, ⟨rfl, rfl, (by show fl S = fl S; omega)⟩, (fun _ _ => rfl), (by show EN S ≤ EN S; omega)⟩⟩
  · refine am_e12f hi_114_7 (am_cF (m := v1.toInt) (n := (0 : Int)) rfl (by decide) c2) ?_
    refine am_e2 (v := 7) hi_114_10 rfl ?_
    refine cm_20f (r := 1) h hi_114_11 (h.1.s (7, 6) (by decide)) (by decide) rfl ?_
    refine am_e0 hi_114_14 ?_
    refine am_e1 (v := x) hi_114_16 rfl ?_
    refine am_e32n (as := [.ref 1, .int 10, .int x]) (la := [some (.ref 1), some (.int 10), some (.int x)]) (rest := []) hi_114_17 (am_hd0 (M := 114) (by decide) 17) (Nat.le_of_ble_eq_true rfl) (Nat.le_of_ble_eq_true rfl) (show 3 ≤ am_P0.2.2.1 76 from by decide +kernel) rfl (cl_recv (h.1.s (1, 1) (by decide))) rfl rfl (ck_note (d := d) h   ) ?_
    rintro v3 S4 ⟨rfl, h6⟩
    obtain ⟨h8, h9, ⟨h10, h11, h12, h13⟩, ⟨h14, h15, h16⟩, h17, h18⟩ := h6
    have h19 : kd aw S4 = kd aw S := kd_eq h10 h13
    show am_E _ _ _ _ [some (.ref 7), some (.int x)] [] _ _
    refine am_e35 hi_114_20 ?_
    exact ⟨rfl, ⟨h8, h9, ⟨(by show nx S4 = nx S; omega), (by show lv S4 = lv S; omega), (by show wr S4 = wr S; omega), h13⟩, ⟨h14, h15, (by show fl S4 = fl S; omega)⟩, (fun t ht => (h17 t ht)), (by show EN S4 ≤ EN S; omega)⟩⟩
theorem ck_tableEnds {sc : Nat × (Nat → Int32)} {d aw : Nat} {S : am_S} (h : SH aw S) : am_E (am_PP sc) (d + 2) 94 0 [some (.ref 7), none] [] S (am_N fun v S1 => ∃ r : Int32, v = some (.int r) ∧ (r = 0 ∨ r = 1) ∧ S = S1) := by
  refine am_e2 (v := 7) hi_94_0 rfl ?_
  refine cm_20f (r := 2) h hi_94_1 (h.1.s (7, 6) (by decide)) (by decide) rfl ?_
  refine am_e32w (as := [.ref 2]) (la := [some (.ref 2)]) (rest := []) hi_94_4 (am_hd0 (M := 94) (by decide) 4) (Nat.le_of_ble_eq_true rfl) (Nat.le_of_ble_eq_true rfl) (show 1 ≤ am_P0.2.2.1 63 from by decide +kernel) rfl (cl_recv (h.1.s (2, 2) (by decide))) rfl rfl ?_
  refine am_e2 (v := 2) hi_63_0 rfl ?_
  refine cm_20i h hi_63_1 (h.1.s (2, 2) (by decide)) (by decide) rfl fun v1 hv1 => ?_
  have hv1_ : v1.toInt = nx S := hv1
  refine am_e33 hi_63_4 ?_
  show am_E _ _ _ _ [some (.ref 7), none] [.int v1] _ _
  refine am_e3 (ls' := [some (.ref 7), some (.int v1)]) hi_94_7 (Nat.le_of_ble_eq_true rfl) rfl ?_
  refine am_e2 (v := 7) hi_94_8 rfl ?_
  refine cm_20f (r := 2) h hi_94_9 (h.1.s (7, 6) (by decide)) (by decide) rfl ?_
  refine am_e1 (v := v1) hi_94_12 rfl ?_
  refine am_e32n (as := [.ref 2, .int v1]) (la := [some (.ref 2), some (.int v1)]) (rest := []) hi_94_13 (am_hd0 (M := 94) (by decide) 13) (Nat.le_of_ble_eq_true rfl) (Nat.le_of_ble_eq_true rfl) (show 2 ≤ am_P0.2.2.1 93 from by decide +kernel) rfl (cl_recv (h.1.s (2, 2) (by decide))) rfl rfl (ck_kindAt (d := d) h   ) ?_
  rintro v2 S3 ⟨r4, rfl, rfl, h6⟩
  have h6_ : r4.toInt = kA aw S v1.toInt := h6
  have h8 : r4.toInt = kd aw S := by have q := h6_; rw [show v1.toInt = nx S from by omega] at q; exact q
  show am_E _ _ _ _ [some (.ref 7), some (.int v1)] [.int r4] _ _
  refine am_e32n (as := [.int r4]) (la := [some (.int r4)]) (rest := []) hi_94_16 (am_hd0 (M := 94) (by decide) 16) (Nat.le_of_ble_eq_true rfl) (Nat.le_of_ble_eq_true rfl) (show 1 ≤ am_P0.2.2.1 95 from by decide +kernel) rfl rfl rfl rfl (ck_sep (d := (d + 1)) h   ) ?_
  rintro v9 S10 ⟨r11, rfl, hb14, rfl, h13⟩
  have h13_ : (r11.toInt = 1 ∧ (r4.toInt = 69 ∨ r4.toInt = 67)) ∨ (r11.toInt = 0 ∧ ¬ (r4.toInt = 69 ∨ r4.toInt = 67)) := h13
  have hb14_ : r11.toInt = 0 ∨ r11.toInt = 1 := hb14.elim (fun e => Or.inl (by rw [e]; rfl)) (fun e => Or.inr (by rw [e]; rfl))
  show am_E _ _ _ _ [some (.ref 7), some (.int v1)] [.int r11] _ _
  by_cases c15 : r11.toInt = (0 : Int)
  · refine am_e12t hi_94_19 (am_cT (m := r11.toInt) (n := (0 : Int)) rfl (by decide) c15) ?_
    refine am_e2 (v := 7) hi_94_25 rfl ?_
    refine cm_20f (r := 2) h hi_94_26 (h.1.s (7, 6) (by decide)) (by decide) rfl ?_
    refine am_e1 (v := v1) hi_94_29 rfl ?_
    refine am_e32n (as := [.ref 2, .int v1]) (la := [some (.ref 2), some (.int v1)]) (rest := []) hi_94_30 (am_hd0 (M := 94) (by decide) 30) (Nat.le_of_ble_eq_true rfl) (Nat.le_of_ble_eq_true rfl) (show 2 ≤ am_P0.2.2.1 93 from by decide +kernel) rfl (cl_recv (h.1.s (2, 2) (by decide))) rfl rfl (ck_kindAt (d := d) h   ) ?_
    rintro v16 S17 ⟨r18, rfl, rfl, h20⟩
    have h20_ : r18.toInt = kA aw S v1.toInt := h20
    have h22 : r18.toInt = kd aw S := by have q := h20_; rw [show v1.toInt = nx S from by omega] at q; exact q
    show am_E _ _ _ _ [some (.ref 7), some (.int v1)] [.int r18] _ _
    refine am_e0 hi_94_33 ?_
    by_cases c23 : ¬ r18.toInt = (63 : Int)
    · refine am_e13t hi_94_35 (am_cT (m := r18.toInt) (n := (63 : Int)) rfl (by decide) c23) ?_
      refine am_e0 hi_94_42 ?_
      refine am_e36 hi_94_43 (by decide) ?_
      exact ⟨0, rfl, (by decide), rfl⟩
    · refine am_e13f hi_94_35 (am_cF (m := r18.toInt) (n := (63 : Int)) rfl (by decide) c23) ?_
      refine am_e0 hi_94_38 ?_
      refine am_e18 hi_94_39 ?_
      refine am_e36 hi_94_43 (by decide) ?_
      exact ⟨1, rfl, (by decide), rfl⟩
  · refine am_e12f hi_94_19 (am_cF (m := r11.toInt) (n := (0 : Int)) rfl (by decide) c15) ?_
    obtain ⟨z24, hz24⟩ : ∃ q__, am_bin 0 v1 1 = q__ := ⟨_, rfl⟩
    refine am_e5 (v := v1) (z := z24) (ls' := [some (.ref 7), some (.int z24)]) hi_94_22 rfl hz24 rfl ?_
    refine am_e2 (v := 7) hi_94_25 rfl ?_
    refine cm_20f (r := 2) h hi_94_26 (h.1.s (7, 6) (by decide)) (by decide) rfl ?_
    refine am_e1 (v := z24) hi_94_29 rfl ?_
    refine am_e32n (as := [.ref 2, .int z24]) (la := [some (.ref 2), some (.int z24)]) (rest := []) hi_94_30 (am_hd0 (M := 94) (by decide) 30) (Nat.le_of_ble_eq_true rfl) (Nat.le_of_ble_eq_true rfl) (show 2 ≤ am_P0.2.2.1 93 from by decide +kernel) rfl (cl_recv (h.1.s (2, 2) (by decide))) rfl rfl (ck_kindAt (d := d) h   ) ?_
    rintro v25 S26 ⟨r27, rfl, rfl, h29⟩
    have h29_ : r27.toInt = kA aw S z24.toInt := h29
    show am_E _ _ _ _ [some (.ref 7), some (.int z24)] [.int r27] _ _
    refine am_e0 hi_94_33 ?_
    by_cases c31 : ¬ r27.toInt = (63 : Int)
    · refine am_e13t hi_94_35 (am_cT (m := r27.toInt) (n := (63 : Int)) rfl (by decide) c31) ?_
      refine am_e0 hi_94_42 ?_
      refine am_e36 hi_94_43 (by decide) ?_
      exact ⟨0, rfl, (by decide), rfl⟩
    · refine am_e13f hi_94_35 (am_cF (m := r27.toInt) (n := (63 : Int)) rfl (by decide) c31) ?_
      refine am_e0 hi_94_38 ?_
      refine am_e18 hi_94_39 ?_
      refine am_e36 hi_94_43 (by decide) ?_
      exact ⟨1, rfl, (by decide), rfl⟩
theorem ck_addTarget {sc : Nat × (Nat → Int32)} {d aw : Nat} {S : am_S} {x : Int32} (h : SH aw S) (p0 : 0 ≤ nx S) (p1 : nx S ≤ wr S) : am_E (am_PP sc) (d + 13) 113 0 [some (.ref 7), some (.int x)] [] S (am_T (fun v S1 => v = none ∧ Qu aw (640) S S1 ∧ (iv S1 8 1 = iv S 8 1) ∧ (iv S1 14 1 = iv S 14 1) ∧ (iv S 10 1 ≤ iv S1 10 1)) (fun S1 => TH aw 134 S S1)) := by
  refine am_e1 (v := x) hi_113_0 rfl ?_
  by_cases c1 : x.toInt = 1
  · refine am_e19 (t := 28) hi_113_1 (am_swI (v := x) (w := 1) (by decide) (by decide) c1) ?_
    refine am_e2 (v := 7) hi_113_28 rfl ?_
    refine am_e2 (v := 7) hi_113_29 rfl ?_
    refine cm_20i h hi_113_30 (h.1.s (7, 6) (by decide)) (by decide) rfl fun v2 hv2 => ?_
    have hv2_ : v2.toInt = iv S 7 6 := hv2
    refine am_e32n (as := [.ref 7, .int v2]) (la := [some (.ref 7), some (.int v2)]) (rest := []) hi_113_33 (am_hd0 (M := 113) (by decide) 33) (Nat.le_of_ble_eq_true rfl) (Nat.le_of_ble_eq_true rfl) (show 2 ≤ am_P0.2.2.1 114 from by decide +kernel) rfl (cl_recv (h.1.s (7, 6) (by decide))) rfl rfl (ck_refuseConst (d := (d + 11)) h   ) ?_
    rintro v3 S4 ⟨rfl, h6⟩
    obtain ⟨h8, h9, ⟨h10, h11, h12, h13⟩, ⟨h14, h15, h16⟩, h17, h18⟩ := h6
    have h19 : kd aw S4 = kd aw S := kd_eq h10 h13
    have h20 := h17 8 (h.1.s (8, 3) (by decide))
    have h21 := h17 10 (h.1.s (10, 3) (by decide))
    have h22 := h17 14 (h.1.s (14, 3) (by decide))
    show am_E _ _ _ _ [some (.ref 7), some (.int x)] [] _ _
    refine am_e2 (v := 7) hi_113_36 rfl ?_
    refine cm_20f (r := 10) h8 hi_113_37 (h8.1.s (7, 6) (by decide)) (by decide) rfl ?_
    refine am_e2 (v := 7) hi_113_40 rfl ?_
    refine cm_20f (r := 12) h8 hi_113_41 (h8.1.s (7, 6) (by decide)) (by decide) rfl ?_
    refine am_e32x (as := [.ref 12]) (la := [some (.ref 12)]) (rest := [.ref 10]) hi_113_44 (am_hd0 (M := 113) (by decide) 44) (Nat.le_of_ble_eq_true rfl) (Nat.le_of_ble_eq_true rfl) (show 1 ≤ am_P0.2.2.1 101 from by decide +kernel) rfl (cl_recv (h8.1.s (12, 7) (by decide))) rfl rfl ?_
    refine am_e2 (v := 12) hi_101_0 rfl ?_
    refine cm_20i h8 hi_101_1 (h8.1.s (12, 7) (by decide)) (by decide) rfl fun v23 hv23 => ?_
    have hv23_ : v23.toInt = iv S4 12 7 := hv23
    refine am_e33 hi_101_4 ?_
    show am_E _ _ _ _ [some (.ref 7), some (.int x)] [.int v23, .ref 10] _ _
    refine am_e32n (as := [.int v23]) (la := [some (.int v23)]) (rest := [.ref 10]) hi_113_47 (am_hd0 (M := 113) (by decide) 47) (Nat.le_of_ble_eq_true rfl) (Nat.le_of_ble_eq_true rfl) (show 1 ≤ am_P0.2.2.1 116 from by decide +kernel) rfl rfl rfl rfl (ck_setting (d := (d + 12)) h8   ) ?_
    rintro v24 S25 ⟨r26, rfl, rfl⟩
    show am_E _ _ _ _ [some (.ref 7), some (.int x)] [.int r26, .ref 10] _ _
    refine am_e2 (v := 7) hi_113_50 rfl ?_
    refine cm_20f (r := 12) h8 hi_113_51 (h8.1.s (7, 6) (by decide)) (by decide) rfl ?_
    refine am_e32x (as := [.ref 12]) (la := [some (.ref 12)]) (rest := [.int r26, .ref 10]) hi_113_54 (am_hd0 (M := 113) (by decide) 54) (Nat.le_of_ble_eq_true rfl) (Nat.le_of_ble_eq_true rfl) (show 1 ≤ am_P0.2.2.1 102 from by decide +kernel) rfl (cl_recv (h8.1.s (12, 7) (by decide))) rfl rfl ?_
    refine am_e2 (v := 12) hi_102_0 rfl ?_
    refine cm_20i h8 hi_102_1 (h8.1.s (12, 7) (by decide)) (by decide) rfl fun v29 hv29 => ?_
    have hv29_ : v29.toInt = iv S4 12 8 := hv29
    refine am_e33 hi_102_4 ?_
    show am_E _ _ _ _ [some (.ref 7), some (.int x)] [.int v29, .int r26, .ref 10] _ _
    refine am_e2 (v := 7) hi_113_57 rfl ?_
    refine cm_20i h8 hi_113_58 (h8.1.s (7, 6) (by decide)) (by decide) rfl fun v30 hv30 => ?_
    have hv30_ : v30.toInt = iv S4 7 6 := hv30
    refine am_e0 hi_113_61 ?_
    have h31 : c_w 10 = 320 := rfl
    refine am_e32n (as := [.ref 10, .int r26, .int v29, .int v30, .int 0]) (la := [some (.ref 10), some (.int r26), some (.int v29), some (.int v30), some (.int 0), none]) (rest := []) hi_113_62 (am_hd0 (M := 113) (by decide) 62) (Nat.le_of_ble_eq_true rfl) (Nat.le_of_ble_eq_true rfl) (show 5 ≤ am_P0.2.2.1 31 from by decide +kernel) rfl (cl_recv (h8.1.s (10, 3) (by decide))) rfl rfl (ck_add (d := (d + 10)) h8 (h8.1.s (10, 3) (by decide)) (by decide)  ) ?_
    rintro v32 S33 ⟨r34, rfl, h35, h36, h37⟩
    have h36_ : iv S4 10 1 ≤ iv S33 10 1 ∧ iv S33 10 1 ≤ iv S4 10 1 + 1 := h36
    have h37_ : ∀ j, cl (am_fs S4) j = some 3 → j ≠ 10 → iv S33 j 1 = iv S4 j 1 := h37
    obtain ⟨h39, h40, ⟨h41, h42, h43, h44⟩, ⟨h45, h46, h47⟩, h49⟩ := h35
    have h50 : kd aw S33 = kd aw S4 := kd_eq h41 h44
    have h51 := h37_ 8 (h8.1.s (8, 3) (by decide)) (by decide)
    have h52 := h37_ 14 (h8.1.s (14, 3) (by decide)) (by decide)
    show am_E _ _ _ _ [some (.ref 7), some (.int x)] [.int r34] _ _
    refine am_e6i hi_113_65 ?_
    refine am_e18 hi_113_66 ?_
    refine am_e35 hi_113_135 ?_
    exact ⟨rfl, ⟨h39, (h9.trans h40), ⟨(by show nx S33 = nx S; omega), (by show lv S33 = lv S; omega), (by show wr S33 = wr S; omega), (h44.trans h13)⟩, ⟨(h45.trans h14), (h46.trans h15), (by show fl S33 = fl S; omega)⟩, (by show EN S33 ≤ EN S + (640); omega)⟩, (by show iv S33 8 1 = iv S 8 1; omega), (by show iv S33 14 1 = iv S 14 1; omega), (by show iv S 10 1 ≤ iv S33 10 1; omega)⟩
  · have c1_ : True := trivial
    by_cases c53 : x.toInt = 2
    · refine am_e19 (t := 69) hi_113_1 (am_swI (v := x) (w := 2) (by decide) (by decide) c53) ?_
      refine am_e2 (v := 7) hi_113_69 rfl ?_
      refine am_e0 hi_113_70 ?_
      refine am_e2 (v := 7) hi_113_71 rfl ?_
      refine cm_20i h hi_113_72 (h.1.s (7, 6) (by decide)) (by decide) rfl fun v54 hv54 => ?_
      have hv54_ : v54.toInt = iv S 7 7 := hv54
      refine am_e0 hi_113_75 ?_
      refine am_e0 hi_113_76 ?_
      refine am_e32n (as := [.ref 7, .int 5, .int v54, .int 0, .int 0]) (la := [some (.ref 7), some (.int 5), some (.int v54), some (.int 0), some (.int 0)]) (rest := []) hi_113_77 (am_hd0 (M := 113) (by decide) 77) (Nat.le_of_ble_eq_true rfl) (Nat.le_of_ble_eq_true rfl) (show 5 ≤ am_P0.2.2.1 78 from by decide +kernel) rfl (cl_recv (h.1.s (7, 6) (by decide))) rfl rfl (ck_emit (d := (d + 9)) h   ) ?_
      rintro v55 S56 ⟨r57, rfl, h58, h59, h60, h61⟩
      have h59_ : iv S56 8 1 = iv S 8 1 := h59
      have h60_ : iv S56 10 1 = iv S 10 1 := h60
      have h61_ : iv S56 14 1 = iv S 14 1 := h61
      obtain ⟨h63, h64, ⟨h65, h66, h67, h68⟩, ⟨h69, h70, h71⟩, h73⟩ := h58
      have h74 : kd aw S56 = kd aw S := kd_eq h65 h68
      show am_E _ _ _ _ [some (.ref 7), some (.int x)] [.int r57] _ _
      refine am_e6i hi_113_80 ?_
      refine am_e2 (v := 7) hi_113_81 rfl ?_
      refine cm_20f (r := 10) h63 hi_113_82 (h63.1.s (7, 6) (by decide)) (by decide) rfl ?_
      refine am_e0 hi_113_85 ?_
      refine am_e0 hi_113_87 ?_
      refine am_e2 (v := 7) hi_113_88 rfl ?_
      refine cm_20i h63 hi_113_89 (h63.1.s (7, 6) (by decide)) (by decide) rfl fun v75 hv75 => ?_
      have hv75_ : v75.toInt = iv S56 7 6 := hv75
      refine am_e0 hi_113_92 ?_
      have h76 : c_w 10 = 320 := rfl
      refine am_e32n (as := [.ref 10, .int 32, .int 0, .int v75, .int 0]) (la := [some (.ref 10), some (.int 32), some (.int 0), some (.int v75), some (.int 0), none]) (rest := []) hi_113_93 (am_hd0 (M := 113) (by decide) 93) (Nat.le_of_ble_eq_true rfl) (Nat.le_of_ble_eq_true rfl) (show 5 ≤ am_P0.2.2.1 31 from by decide +kernel) rfl (cl_recv (h63.1.s (10, 3) (by decide))) rfl rfl (ck_add (d := (d + 10)) h63 (h63.1.s (10, 3) (by decide)) (by decide)  ) ?_
      rintro v77 S78 ⟨r79, rfl, h80, h81, h82⟩
      have h81_ : iv S56 10 1 ≤ iv S78 10 1 ∧ iv S78 10 1 ≤ iv S56 10 1 + 1 := h81
      have h82_ : ∀ j, cl (am_fs S56) j = some 3 → j ≠ 10 → iv S78 j 1 = iv S56 j 1 := h82
      obtain ⟨h84, h85, ⟨h86, h87, h88, h89⟩, ⟨h90, h91, h92⟩, h94⟩ := h80
      have h95 : kd aw S78 = kd aw S56 := kd_eq h86 h89
      have h96 := h82_ 8 (h63.1.s (8, 3) (by decide)) (by decide)
      have h97 := h82_ 14 (h63.1.s (14, 3) (by decide)) (by decide)
      show am_E _ _ _ _ [some (.ref 7), some (.int x)] [.int r79] _ _
      refine am_e6i hi_113_96 ?_
      refine am_e18 hi_113_97 ?_
      refine am_e35 hi_113_135 ?_
      exact ⟨rfl, ⟨h84, (h64.trans h85), ⟨(by show nx S78 = nx S; omega), (by show lv S78 = lv S; omega), (by show wr S78 = wr S; omega), (h89.trans h68)⟩, ⟨(h90.trans h69), (h91.trans h70), (by show fl S78 = fl S; omega)⟩, (by show EN S78 ≤ EN S + (640); omega)⟩, (by show iv S78 8 1 = iv S 8 1; omega), (by show iv S78 14 1 = iv S 14 1; omega), (by show iv S 10 1 ≤ iv S78 10 1; omega)⟩
    · have c53_ : True := trivial
      by_cases c98 : x.toInt = 3
      · refine am_e19 (t := 100) hi_113_1 (am_swI (v := x) (w := 3) (by decide) (by decide) c98) ?_
        refine am_e2 (v := 7) hi_113_100 rfl ?_
        refine cm_20f (r := 10) h hi_113_101 (h.1.s (7, 6) (by decide)) (by decide) rfl ?_
        refine am_e0 hi_113_104 ?_
        refine am_e0 hi_113_106 ?_
        refine am_e2 (v := 7) hi_113_107 rfl ?_
        refine cm_20i h hi_113_108 (h.1.s (7, 6) (by decide)) (by decide) rfl fun v99 hv99 => ?_
        have hv99_ : v99.toInt = iv S 7 6 := hv99
        refine am_e0 hi_113_111 ?_
        have h100 : c_w 10 = 320 := rfl
        refine am_e32n (as := [.ref 10, .int 32, .int 0, .int v99, .int 0]) (la := [some (.ref 10), some (.int 32), some (.int 0), some (.int v99), some (.int 0), none]) (rest := []) hi_113_112 (am_hd0 (M := 113) (by decide) 112) (Nat.le_of_ble_eq_true rfl) (Nat.le_of_ble_eq_true rfl) (show 5 ≤ am_P0.2.2.1 31 from by decide +kernel) rfl (cl_recv (h.1.s (10, 3) (by decide))) rfl rfl (ck_add (d := (d + 10)) h (h.1.s (10, 3) (by decide)) (by decide)  ) ?_
        rintro v101 S102 ⟨r103, rfl, h104, h105, h106⟩
        have h105_ : iv S 10 1 ≤ iv S102 10 1 ∧ iv S102 10 1 ≤ iv S 10 1 + 1 := h105
        have h106_ : ∀ j, cl (am_fs S) j = some 3 → j ≠ 10 → iv S102 j 1 = iv S j 1 := h106
        obtain ⟨h108, h109, ⟨h110, h111, h112, h113⟩, ⟨h114, h115, h116⟩, h118⟩ := h104
        have h119 : kd aw S102 = kd aw S := kd_eq h110 h113
        have h120 := h106_ 8 (h.1.s (8, 3) (by decide)) (by decide)
        have h121 := h106_ 14 (h.1.s (14, 3) (by decide)) (by decide)
        show am_E _ _ _ _ [some (.ref 7), some (.int x)] [.int r103] _ _
        refine am_e6i hi_113_115 ?_
        refine am_e18 hi_113_116 ?_
        refine am_e35 hi_113_135 ?_
        exact ⟨rfl, ⟨h108, h109, ⟨(by show nx S102 = nx S; omega), (by show lv S102 = lv S; omega), (by show wr S102 = wr S; omega), h113⟩, ⟨h114, h115, (by show fl S102 = fl S; omega)⟩, (by show EN S102 ≤ EN S + (640); omega)⟩, (by show iv S102 8 1 = iv S 8 1; omega), (by show iv S102 14 1 = iv S 14 1; omega), (by show iv S 10 1 ≤ iv S102 10 1; omega)⟩
      · have c98_ : True := trivial
        refine am_e19 (t := 119) hi_113_1 (am_swK (v := x) (ks := [1, 2, 3]) (by decide) (by intro k hk; simp only [List.mem_cons, List.not_mem_nil, or_false] at hk; rcases hk with rfl | rfl | rfl <;> omega)) ?_
        refine am_e2 (v := 7) hi_113_119 rfl ?_
        refine cm_20f (r := 1) h hi_113_120 (h.1.s (7, 6) (by decide)) (by decide) rfl ?_
        refine am_e0 hi_113_123 ?_
        refine am_e2 (v := 7) hi_113_125 rfl ?_
        refine cm_20f (r := 2) h hi_113_126 (h.1.s (7, 6) (by decide)) (by decide) rfl ?_
        refine am_e32x (as := [.ref 2]) (la := [some (.ref 2)]) (rest := [.int 7, .ref 1]) hi_113_129 (am_hd0 (M := 113) (by decide) 129) (Nat.le_of_ble_eq_true rfl) (Nat.le_of_ble_eq_true rfl) (show 1 ≤ am_P0.2.2.1 63 from by decide +kernel) rfl (cl_recv (h.1.s (2, 2) (by decide))) rfl rfl ?_
        refine am_e2 (v := 2) hi_63_0 rfl ?_
        refine cm_20i h hi_63_1 (h.1.s (2, 2) (by decide)) (by decide) rfl fun v122 hv122 => ?_
        have hv122_ : v122.toInt = nx S := hv122
        refine am_e33 hi_63_4 ?_
        show am_E _ _ _ _ [some (.ref 7), some (.int x)] [.int v122, .int 7, .ref 1] _ _
        refine am_e32t (as := [.ref 1, .int 7, .int v122]) (la := [some (.ref 1), some (.int 7), some (.int v122)]) (rest := []) hi_113_132 (am_hd0 (M := 113) (by decide) 132) (Nat.le_of_ble_eq_true rfl) (Nat.le_of_ble_eq_true rfl) (show 3 ≤ am_P0.2.2.1 58 from by decide +kernel) rfl (cl_recv (h.1.s (1, 1) (by decide))) rfl rfl (ck_refuse (d := d) h (by show 0 ≤ nx S; omega) (by show nx S ≤ wr S; omega)) (fun S123 h124 => (show TH aw 134 S S123 from ⟨h124.1, (Ex.refl S).trans h124.2.1, ⟨(by have q := h124.2.2.1.1; omega), h124.2.2.1.2.trans rfl⟩, h124.2.2.2.1, h124.2.2.2.2.1, (by have q := h124.2.2.2.2.2; omega)⟩)) (fun _ _ q => q.elim)
theorem cf_fit {sc : Nat × (Nat → Int32)} {d aw : Nat} {Sb : am_S} {w : Int32} {t : Int32} {Q : Option (Option Value) → am_S → Prop} (h : SH aw Sb) (p0 : w.toInt ≤ 3000000) (hx0 : ∀ (S : am_S) (i : Int32), Qv aw Sb S → (i.toInt ≤ w.toInt ∨ i.toInt ≤ t.toInt) → (EN S ≤ EN Sb + 160 * i.toInt + -160 * t.toInt) → (iv S 8 1 = iv Sb 8 1) → (iv S 10 1 = iv Sb 10 1) → (iv S 14 1 = iv Sb 14 1) → am_E (am_PP sc) (d + 4) 117 57 [some (.ref 7), some (.int w), some (.int t), some (.int i)] [] S Q) : ∀ (N : Nat) (S : am_S) (i : Int32), Qv aw Sb S → (i.toInt ≤ w.toInt ∨ i.toInt ≤ t.toInt) → (EN S ≤ EN Sb + 160 * i.toInt + -160 * t.toInt) → (iv S 8 1 = iv Sb 8 1) → (iv S 10 1 = iv Sb 10 1) → (iv S 14 1 = iv Sb 14 1) → 2147483647 - i.toInt < (N : Int) → am_E (am_PP sc) (d + 4) 117 37 [some (.ref 7), some (.int w), some (.int t), some (.int i)] [] S Q := by
  intro N
  induction N with
  | zero =>
    intro S  i hrel  i0 i1 i2 i3 i4 hN
    have := i32_le i
    have := i32_ge i
    exfalso
    omega
  | succ N ih =>
    intro S  i hrel  i0 i1 i2 i3 i4 hN
    have hl_i := i32_le i
    have hg_i := i32_ge i
    obtain ⟨h1, h2, ⟨h3, h4, h5, h6⟩, ⟨h7, h8, h9⟩⟩ := hrel
    have h12 : kd aw S = kd aw Sb := kd_eq h3 h6
    refine am_e1 (v := i) hi_117_37 rfl ?_
    refine am_e1 (v := w) hi_117_38 rfl ?_
    by_cases c13 : w.toInt ≤ i.toInt
    · refine am_e13t hi_117_39 (am_cT (m := i.toInt) (n := w.toInt) rfl rfl c13) ?_
      exact hx0 _ i ⟨h1, h2, ⟨(by show nx S = nx Sb; omega), (by show lv S = lv Sb; omega), (by show wr S = wr Sb; omega), h6⟩, ⟨h7, h8, (by show fl S = fl Sb; omega)⟩⟩ (by show i.toInt ≤ w.toInt ∨ i.toInt ≤ t.toInt; omega) (by show EN S ≤ EN Sb + 160 * i.toInt + -160 * t.toInt; omega) (by show iv S 8 1 = iv Sb 8 1; omega) (by show iv S 10 1 = iv Sb 10 1; omega) (by show iv S 14 1 = iv Sb 14 1; omega)
    · refine am_e13f hi_117_39 (am_cF (m := i.toInt) (n := w.toInt) rfl rfl c13) ?_
      refine am_e2 (v := 7) hi_117_42 rfl ?_
      refine am_e0 hi_117_43 ?_
      refine am_e0 hi_117_44 ?_
      refine am_e0 hi_117_45 ?_
      refine am_e0 hi_117_46 ?_
      refine am_e32n (as := [.ref 7, .int 1, .int 0, .int 0, .int 0]) (la := [some (.ref 7), some (.int 1), some (.int 0), some (.int 0), some (.int 0)]) (rest := []) hi_117_47 (am_hd0 (M := 117) (by decide) 47) (Nat.le_of_ble_eq_true rfl) (Nat.le_of_ble_eq_true rfl) (show 5 ≤ am_P0.2.2.1 78 from by decide +kernel) rfl (cl_recv (h1.1.s (7, 6) (by decide))) rfl rfl (ck_emit (d := d) h1   ) ?_
      rintro v14 S15 ⟨r16, rfl, h17, h18, h19, h20⟩
      have h18_ : iv S15 8 1 = iv S 8 1 := h18
      have h19_ : iv S15 10 1 = iv S 10 1 := h19
      have h20_ : iv S15 14 1 = iv S 14 1 := h20
      obtain ⟨h22, h23, ⟨h24, h25, h26, h27⟩, ⟨h28, h29, h30⟩, h32⟩ := h17
      have h33 : kd aw S15 = kd aw S := kd_eq h24 h27
      show am_E _ _ _ _ [some (.ref 7), some (.int w), some (.int t), some (.int i)] [.int r16] _ _
      refine am_e6i hi_117_50 ?_
      obtain ⟨z34, hz34, tz34⟩ := am_addI (x := i) (y := 1) (m := i.toInt) (n := (1 : Int)) rfl (by decide) (by omega) (by omega)
      refine am_e5 (v := i) (z := z34) (ls' := [some (.ref 7), some (.int w), some (.int t), some (.int z34)]) hi_117_51 rfl hz34 rfl ?_
      refine am_e18 hi_117_54 ?_
      exact ih _ z34 ⟨h22, (h2.trans h23), ⟨(by show nx S15 = nx Sb; omega), (by show lv S15 = lv Sb; omega), (by show wr S15 = wr Sb; omega), (h27.trans h6)⟩, ⟨(h28.trans h7), (h29.trans h8), (by show fl S15 = fl Sb; omega)⟩⟩ (by show z34.toInt ≤ w.toInt ∨ z34.toInt ≤ t.toInt; omega) (by show EN S15 ≤ EN Sb + 160 * z34.toInt + -160 * t.toInt; omega) (by show iv S15 8 1 = iv Sb 8 1; omega) (by show iv S15 10 1 = iv Sb 10 1; omega) (by show iv S15 14 1 = iv Sb 14 1; omega) (by show 2147483647 - z34.toInt < (N : Int); omega)
theorem ck_fit {sc : Nat × (Nat → Int32)} {d aw : Nat} {S : am_S} {w : Int32} {t : Int32} (h : SH aw S) (p0 : 0 ≤ t.toInt) (p1 : 0 ≤ w.toInt) (p2 : w.toInt ≤ 3000000) : am_E (am_PP sc) (d + 4) 117 0 [some (.ref 7), some (.int w), some (.int t), none] [] S (am_N fun v S1 => v = none ∧ Qv aw S S1 ∧ (EN S1 ≤ EN S + 160 * w.toInt + 320) ∧ (iv S1 8 1 = iv S 8 1) ∧ (iv S1 10 1 = iv S 10 1) ∧ (iv S1 14 1 = iv S 14 1)) := by
  refine am_e1 (v := t) hi_117_0 rfl ?_
  by_cases c1 : t.toInt ≤ (0 : Int)
  · refine am_e12t hi_117_1 (am_cT (m := t.toInt) (n := (0 : Int)) rfl (by decide) c1) ?_
    refine am_e1 (v := t) hi_117_35 rfl ?_
    refine am_e3 (ls' := [some (.ref 7), some (.int w), some (.int t), some (.int t)]) hi_117_36 (Nat.le_of_ble_eq_true rfl) rfl ?_
    refine cf_fit (d := d) (Sb := S) (w := w) (t := t) h   (by show w.toInt ≤ 3000000; omega) ?_ ((2147483647 - t.toInt).toNat + 1) S t ⟨h, Ex.refl _, ⟨rfl, rfl, rfl, rfl⟩, ⟨rfl, rfl, rfl⟩⟩ (by show t.toInt ≤ w.toInt ∨ t.toInt ≤ t.toInt; omega) (by show EN S ≤ EN S + 160 * t.toInt + -160 * t.toInt; omega) (by show iv S 8 1 = iv S 8 1; omega) (by show iv S 10 1 = iv S 10 1; omega) (by show iv S 14 1 = iv S 14 1; omega) (by show 2147483647 - t.toInt < _; omega)
    · intro S3 i2 h4 h5 h6 h7 h8 h9
      have h5_ : i2.toInt ≤ w.toInt ∨ i2.toInt ≤ t.toInt := h5
      have h6_ : EN S3 ≤ EN S + 160 * i2.toInt + -160 * t.toInt := h6
      have h7_ : iv S3 8 1 = iv S 8 1 := h7
      have h8_ : iv S3 10 1 = iv S 10 1 := h8
      have h9_ : iv S3 14 1 = iv S 14 1 := h9
      obtain ⟨h10, h11, ⟨h12, h13, h14, h15⟩, ⟨h16, h17, h18⟩⟩ := h4
      have h21 : kd aw S3 = kd aw S := kd_eq h12 h15
      show am_E _ _ _ _ [some (.ref 7), some (.int w), some (.int t), some (.int i2)] [] _ _
      refine am_e1 (v := t) hi_117_57 rfl ?_
      refine am_e1 (v := w) hi_117_58 rfl ?_
      refine am_e13t hi_117_59 (am_cT (m := t.toInt) (n := w.toInt) rfl rfl (by simp only [am_cI]; omega)) ?_
      refine am_e35 hi_117_74 ?_
      exact ⟨rfl, ⟨h10, h11, ⟨(by show nx S3 = nx S; omega), (by show lv S3 = lv S; omega), (by show wr S3 = wr S; omega), h15⟩, ⟨h16, h17, (by show fl S3 = fl S; omega)⟩⟩, (by show EN S3 ≤ EN S + 160 * w.toInt + 320; omega), (by show iv S3 8 1 = iv S 8 1; omega), (by show iv S3 10 1 = iv S 10 1; omega), (by show iv S3 14 1 = iv S 14 1; omega)⟩
  · refine am_e12f hi_117_1 (am_cF (m := t.toInt) (n := (0 : Int)) rfl (by decide) c1) ?_
    refine am_e1 (v := t) hi_117_4 rfl ?_
    refine am_e1 (v := w) hi_117_5 rfl ?_
    by_cases c22 : w.toInt < t.toInt
    · refine am_e13t hi_117_6 (am_cT (m := t.toInt) (n := w.toInt) rfl rfl c22) ?_
      refine am_e1 (v := t) hi_117_35 rfl ?_
      refine am_e3 (ls' := [some (.ref 7), some (.int w), some (.int t), some (.int t)]) hi_117_36 (Nat.le_of_ble_eq_true rfl) rfl ?_
      refine cf_fit (d := d) (Sb := S) (w := w) (t := t) h   (by show w.toInt ≤ 3000000; omega) ?_ ((2147483647 - t.toInt).toNat + 1) S t ⟨h, Ex.refl _, ⟨rfl, rfl, rfl, rfl⟩, ⟨rfl, rfl, rfl⟩⟩ (by show t.toInt ≤ w.toInt ∨ t.toInt ≤ t.toInt; omega) (by show EN S ≤ EN S + 160 * t.toInt + -160 * t.toInt; omega) (by show iv S 8 1 = iv S 8 1; omega) (by show iv S 10 1 = iv S 10 1; omega) (by show iv S 14 1 = iv S 14 1; omega) (by show 2147483647 - t.toInt < _; omega)
      · intro S24 i23 h25 h26 h27 h28 h29 h30
        have h26_ : i23.toInt ≤ w.toInt ∨ i23.toInt ≤ t.toInt := h26
        have h27_ : EN S24 ≤ EN S + 160 * i23.toInt + -160 * t.toInt := h27
        have h28_ : iv S24 8 1 = iv S 8 1 := h28
        have h29_ : iv S24 10 1 = iv S 10 1 := h29
        have h30_ : iv S24 14 1 = iv S 14 1 := h30
        obtain ⟨h31, h32, ⟨h33, h34, h35, h36⟩, ⟨h37, h38, h39⟩⟩ := h25
        have h42 : kd aw S24 = kd aw S := kd_eq h33 h36
        show am_E _ _ _ _ [some (.ref 7), some (.int w), some (.int t), some (.int i23)] [] _ _
        refine am_e1 (v := t) hi_117_57 rfl ?_
        refine am_e1 (v := w) hi_117_58 rfl ?_
        refine am_e13f hi_117_59 (am_cF (m := t.toInt) (n := w.toInt) rfl rfl (by simp only [am_cI]; omega)) ?_
        refine am_e2 (v := 7) hi_117_62 rfl ?_
        refine am_e0 hi_117_63 ?_
        refine am_e1 (v := t) hi_117_65 rfl ?_
        refine am_e1 (v := w) hi_117_66 rfl ?_
        obtain ⟨z43, hz43⟩ : ∃ q__, am_bin 1 t w = q__ := ⟨_, rfl⟩
        refine am_e10 (z := z43) hi_117_67 hz43 ?_
        refine am_e0 hi_117_68 ?_
        refine am_e0 hi_117_69 ?_
        refine am_e32n (as := [.ref 7, .int 26, .int z43, .int 0, .int 0]) (la := [some (.ref 7), some (.int 26), some (.int z43), some (.int 0), some (.int 0)]) (rest := []) hi_117_70 (am_hd0 (M := 117) (by decide) 70) (Nat.le_of_ble_eq_true rfl) (Nat.le_of_ble_eq_true rfl) (show 5 ≤ am_P0.2.2.1 78 from by decide +kernel) rfl (cl_recv (h31.1.s (7, 6) (by decide))) rfl rfl (ck_emit (d := d) h31   ) ?_
        rintro v44 S45 ⟨r46, rfl, h47, h48, h49, h50⟩
        have h48_ : iv S45 8 1 = iv S24 8 1 := h48
        have h49_ : iv S45 10 1 = iv S24 10 1 := h49
        have h50_ : iv S45 14 1 = iv S24 14 1 := h50
        obtain ⟨h52, h53, ⟨h54, h55, h56, h57⟩, ⟨h58, h59, h60⟩, h62⟩ := h47
        have h63 : kd aw S45 = kd aw S24 := kd_eq h54 h57
        show am_E _ _ _ _ [some (.ref 7), some (.int w), some (.int t), some (.int i23)] [.int r46] _ _
        refine am_e6i hi_117_73 ?_
        refine am_e35 hi_117_74 ?_
        exact ⟨rfl, ⟨h52, (h32.trans h53), ⟨(by show nx S45 = nx S; omega), (by show lv S45 = lv S; omega), (by show wr S45 = wr S; omega), (h57.trans h36)⟩, ⟨(h58.trans h37), (h59.trans h38), (by show fl S45 = fl S; omega)⟩⟩, (by show EN S45 ≤ EN S + 160 * w.toInt + 320; omega), (by show iv S45 8 1 = iv S 8 1; omega), (by show iv S45 10 1 = iv S 10 1; omega), (by show iv S45 14 1 = iv S 14 1; omega)⟩
    · refine am_e13f hi_117_6 (am_cF (m := t.toInt) (n := w.toInt) rfl rfl c22) ?_
      refine am_e2 (v := 7) hi_117_9 rfl ?_
      refine cm_20z h hi_117_10 (h.1.s (7, 6) (by decide)) (by decide) rfl fun v64 hv64 => ?_
      have hv64_ : v64.toInt = 0 ∨ v64.toInt = 1 := hv64.elim (fun e => Or.inl (by rw [e]; rfl)) (fun e => Or.inr (by rw [e]; rfl))
      by_cases c65 : v64.toInt = (0 : Int)
      · refine am_e12t hi_117_13 (am_cT (m := v64.toInt) (n := (0 : Int)) rfl (by decide) c65) ?_
        refine am_e1 (v := t) hi_117_35 rfl ?_
        refine am_e3 (ls' := [some (.ref 7), some (.int w), some (.int t), some (.int t)]) hi_117_36 (Nat.le_of_ble_eq_true rfl) rfl ?_
        refine cf_fit (d := d) (Sb := S) (w := w) (t := t) h   (by show w.toInt ≤ 3000000; omega) ?_ ((2147483647 - t.toInt).toNat + 1) S t ⟨h, Ex.refl _, ⟨rfl, rfl, rfl, rfl⟩, ⟨rfl, rfl, rfl⟩⟩ (by show t.toInt ≤ w.toInt ∨ t.toInt ≤ t.toInt; omega) (by show EN S ≤ EN S + 160 * t.toInt + -160 * t.toInt; omega) (by show iv S 8 1 = iv S 8 1; omega) (by show iv S 10 1 = iv S 10 1; omega) (by show iv S 14 1 = iv S 14 1; omega) (by show 2147483647 - t.toInt < _; omega)
        · intro S67 i66 h68 h69 h70 h71 h72 h73
          have h69_ : i66.toInt ≤ w.toInt ∨ i66.toInt ≤ t.toInt := h69
          have h70_ : EN S67 ≤ EN S + 160 * i66.toInt + -160 * t.toInt := h70
          have h71_ : iv S67 8 1 = iv S 8 1 := h71
          have h72_ : iv S67 10 1 = iv S 10 1 := h72
          have h73_ : iv S67 14 1 = iv S 14 1 := h73
          obtain ⟨h74, h75, ⟨h76, h77, h78, h79⟩, ⟨h80, h81, h82⟩⟩ := h68
          have h85 : kd aw S67 = kd aw S := kd_eq h76 h79
          show am_E _ _ _ _ [some (.ref 7), some (.int w), some (.int t), some (.int i66)] [] _ _
          refine am_e1 (v := t) hi_117_57 rfl ?_
          refine am_e1 (v := w) hi_117_58 rfl ?_
          refine am_e13t hi_117_59 (am_cT (m := t.toInt) (n := w.toInt) rfl rfl (by simp only [am_cI]; omega)) ?_
          refine am_e35 hi_117_74 ?_
          exact ⟨rfl, ⟨h74, h75, ⟨(by show nx S67 = nx S; omega), (by show lv S67 = lv S; omega), (by show wr S67 = wr S; omega), h79⟩, ⟨h80, h81, (by show fl S67 = fl S; omega)⟩⟩, (by show EN S67 ≤ EN S + 160 * w.toInt + 320; omega), (by show iv S67 8 1 = iv S 8 1; omega), (by show iv S67 10 1 = iv S 10 1; omega), (by show iv S67 14 1 = iv S 14 1; omega)⟩
      · refine am_e12f hi_117_13 (am_cF (m := v64.toInt) (n := (0 : Int)) rfl (by decide) c65) ?_
        refine am_e2 (v := 7) hi_117_16 rfl ?_
        refine am_e32n (as := [.ref 7]) (la := [some (.ref 7)]) (rest := []) hi_117_17 (am_hd0 (M := 117) (by decide) 17) (Nat.le_of_ble_eq_true rfl) (Nat.le_of_ble_eq_true rfl) (show 1 ≤ am_P0.2.2.1 96 from by decide +kernel) rfl (cl_recv (h.1.s (7, 6) (by decide))) rfl rfl (ck_widen (d := d) h   ) ?_
        rintro v86 S87 ⟨rfl, h89⟩
        obtain ⟨h91, h92, ⟨h93, h94, h95, h96⟩, ⟨h97, h98, h99⟩, h100, h101⟩ := h89
        have h102 : kd aw S87 = kd aw S := kd_eq h93 h96
        have h103 := h100 8 (h.1.s (8, 3) (by decide))
        have h104 := h100 10 (h.1.s (10, 3) (by decide))
        have h105 := h100 14 (h.1.s (14, 3) (by decide))
        show am_E _ _ _ _ [some (.ref 7), some (.int w), some (.int t), none] [] _ _
        refine am_e2 (v := 7) hi_117_20 rfl ?_
        refine am_e0 hi_117_21 ?_
        refine am_e1 (v := w) hi_117_23 rfl ?_
        refine am_e1 (v := t) hi_117_24 rfl ?_
        obtain ⟨z106, hz106, tz106⟩ := am_subI (x := w) (y := t) (m := w.toInt) (n := t.toInt) rfl rfl (by omega) (by omega)
        refine am_e10 (z := z106) hi_117_25 hz106 ?_
        refine am_e0 hi_117_26 ?_
        obtain ⟨z107, hz107, tz107⟩ := am_addI (x := z106) (y := 1) (m := z106.toInt) (n := (1 : Int)) rfl (by decide) (by omega) (by omega)
        refine am_e10 (z := z107) hi_117_27 hz107 ?_
        refine am_e0 hi_117_28 ?_
        refine am_e0 hi_117_29 ?_
        refine am_e32n (as := [.ref 7, .int 25, .int z107, .int 0, .int 0]) (la := [some (.ref 7), some (.int 25), some (.int z107), some (.int 0), some (.int 0)]) (rest := []) hi_117_30 (am_hd0 (M := 117) (by decide) 30) (Nat.le_of_ble_eq_true rfl) (Nat.le_of_ble_eq_true rfl) (show 5 ≤ am_P0.2.2.1 78 from by decide +kernel) rfl (cl_recv (h91.1.s (7, 6) (by decide))) rfl rfl (ck_emit (d := d) h91   ) ?_
        rintro v108 S109 ⟨r110, rfl, h111, h112, h113, h114⟩
        have h112_ : iv S109 8 1 = iv S87 8 1 := h112
        have h113_ : iv S109 10 1 = iv S87 10 1 := h113
        have h114_ : iv S109 14 1 = iv S87 14 1 := h114
        obtain ⟨h116, h117, ⟨h118, h119, h120, h121⟩, ⟨h122, h123, h124⟩, h126⟩ := h111
        have h127 : kd aw S109 = kd aw S87 := kd_eq h118 h121
        show am_E _ _ _ _ [some (.ref 7), some (.int w), some (.int t), none] [.int r110] _ _
        refine am_e6i hi_117_33 ?_
        refine am_e35 hi_117_34 ?_
        exact ⟨rfl, ⟨h116, (h92.trans h117), ⟨(by show nx S109 = nx S; omega), (by show lv S109 = lv S; omega), (by show wr S109 = wr S; omega), (h121.trans h96)⟩, ⟨(h122.trans h97), (h123.trans h98), (by show fl S109 = fl S; omega)⟩⟩, (by show EN S109 ≤ EN S + 160 * w.toInt + 320; omega), (by show iv S109 8 1 = iv S 8 1; omega), (by show iv S109 10 1 = iv S 10 1; omega), (by show iv S109 14 1 = iv S 14 1; omega)⟩
theorem cf_store {sc : Nat × (Nat → Int32)} {d aw : Nat} {Sb : am_S} {f : Int32} {Q : Option (Option Value) → am_S → Prop} (h : SH aw Sb) (p0 : 0 ≤ f.toInt) (hx0 : ∀ (S : am_S) (x4 : Option Value) (p i : Int32), Qv aw Sb S → (EN S ≤ EN Sb + 160 * iv Sb 10 1 + -160 * f.toInt) → (iv S 8 1 = iv Sb 8 1) → (iv S 10 1 = iv Sb 10 1) → (iv S 14 1 = iv Sb 14 1) → am_E (am_PP sc) (d + 4) 118 86 [some (.ref 7), some (.int f), some (.int p), some (.int i), x4] [] S Q) : ∀ (N : Nat) (S : am_S) (x4 : Option Value) (p i : Int32), Qv aw Sb S → (f.toInt + (-1) ≤ i.toInt) → (i.toInt + 1 ≤ iv Sb 10 1) → (EN S ≤ EN Sb + 160 * iv Sb 10 1 + (-160) + -160 * i.toInt) → (iv S 8 1 = iv Sb 8 1) → (iv S 10 1 = iv Sb 10 1) → (iv S 14 1 = iv Sb 14 1) → i.toInt - f.toInt + 1 < (N : Int) → am_E (am_PP sc) (d + 4) 118 12 [some (.ref 7), some (.int f), some (.int p), some (.int i), x4] [] S Q := by
  intro N
  induction N with
  | zero =>
    intro S x4 p i hrel  i0 i1 i2 i3 i4 i5 hN
    have := i32_le p
    have := i32_le i
    have := i32_ge p
    have := i32_ge i
    exfalso
    omega
  | succ N ih =>
    intro S x4 p i hrel  i0 i1 i2 i3 i4 i5 hN
    have hl_p := i32_le p
    have hg_p := i32_ge p
    have hl_i := i32_le i
    have hg_i := i32_ge i
    obtain ⟨h1, h2, ⟨h3, h4, h5, h6⟩, ⟨h7, h8, h9⟩⟩ := hrel
    have h12 : kd aw S = kd aw Sb := kd_eq h3 h6
    refine am_e1 (v := i) hi_118_12 rfl ?_
    refine am_e1 (v := f) hi_118_13 rfl ?_
    by_cases c13 : i.toInt < f.toInt
    · refine am_e13t hi_118_14 (am_cT (m := i.toInt) (n := f.toInt) rfl rfl c13) ?_
      exact hx0 _ x4 p i ⟨h1, h2, ⟨(by show nx S = nx Sb; omega), (by show lv S = lv Sb; omega), (by show wr S = wr Sb; omega), h6⟩, ⟨h7, h8, (by show fl S = fl Sb; omega)⟩⟩ (by show EN S ≤ EN Sb + 160 * iv Sb 10 1 + -160 * f.toInt; omega) (by show iv S 8 1 = iv Sb 8 1; omega) (by show iv S 10 1 = iv Sb 10 1; omega) (by show iv S 14 1 = iv Sb 14 1; omega)
    · refine am_e13f hi_118_14 (am_cF (m := i.toInt) (n := f.toInt) rfl rfl c13) ?_
      refine am_e2 (v := 7) hi_118_17 rfl ?_
      refine cm_20f (r := 10) h1 hi_118_18 (h1.1.s (7, 6) (by decide)) (by decide) rfl ?_
      refine am_e1 (v := i) hi_118_21 rfl ?_
      refine am_e0 hi_118_22 ?_
      refine am_e32n (as := [.ref 10, .int i, .int 1]) (la := [some (.ref 10), some (.int i), some (.int 1)]) (rest := []) hi_118_23 (am_hd0 (M := 118) (by decide) 23) (Nat.le_of_ble_eq_true rfl) (Nat.le_of_ble_eq_true rfl) (show 3 ≤ am_P0.2.2.1 54 from by decide +kernel) rfl (cl_recv (h1.1.s (10, 3) (by decide))) rfl rfl (ck_get (d := (d + 3)) h1 (h1.1.s (10, 3) (by decide))  ) ?_
      rintro v14 S15 ⟨r16, rfl, rfl⟩
      show am_E _ _ _ _ [some (.ref 7), some (.int f), some (.int p), some (.int i), x4] [.int r16] _ _
      refine am_e3 (ls' := [some (.ref 7), some (.int f), some (.int p), some (.int i), some (.int r16)]) hi_118_26 (Nat.le_of_ble_eq_true rfl) rfl ?_
      refine am_e2 (v := 7) hi_118_28 rfl ?_
      refine cm_20f (r := 10) h1 hi_118_29 (h1.1.s (7, 6) (by decide)) (by decide) rfl ?_
      refine am_e1 (v := i) hi_118_32 rfl ?_
      refine am_e0 hi_118_33 ?_
      refine am_e32n (as := [.ref 10, .int i, .int 0]) (la := [some (.ref 10), some (.int i), some (.int 0)]) (rest := []) hi_118_34 (am_hd0 (M := 118) (by decide) 34) (Nat.le_of_ble_eq_true rfl) (Nat.le_of_ble_eq_true rfl) (show 3 ≤ am_P0.2.2.1 54 from by decide +kernel) rfl (cl_recv (h1.1.s (10, 3) (by decide))) rfl rfl (ck_get (d := (d + 3)) h1 (h1.1.s (10, 3) (by decide))  ) ?_
      rintro v19 S20 ⟨r21, rfl, rfl⟩
      show am_E _ _ _ _ [some (.ref 7), some (.int f), some (.int p), some (.int i), some (.int r16)] [.int r21] _ _
      refine am_e0 hi_118_37 ?_
      by_cases c24 : ¬ r21.toInt = (32 : Int)
      · refine am_e13t hi_118_39 (am_cT (m := r21.toInt) (n := (32 : Int)) rfl (by decide) c24) ?_
        refine am_e2 (v := 7) hi_118_54 rfl ?_
        refine am_e2 (v := 7) hi_118_55 rfl ?_
        refine cm_20f (r := 10) h1 hi_118_56 (h1.1.s (7, 6) (by decide)) (by decide) rfl ?_
        refine am_e1 (v := i) hi_118_59 rfl ?_
        refine am_e0 hi_118_60 ?_
        refine am_e32n (as := [.ref 10, .int i, .int 0]) (la := [some (.ref 10), some (.int i), some (.int 0)]) (rest := [.ref 7]) hi_118_61 (am_hd0 (M := 118) (by decide) 61) (Nat.le_of_ble_eq_true rfl) (Nat.le_of_ble_eq_true rfl) (show 3 ≤ am_P0.2.2.1 54 from by decide +kernel) rfl (cl_recv (h1.1.s (10, 3) (by decide))) rfl rfl (ck_get (d := (d + 3)) h1 (h1.1.s (10, 3) (by decide))  ) ?_
        rintro v25 S26 ⟨r27, rfl, rfl⟩
        show am_E _ _ _ _ [some (.ref 7), some (.int f), some (.int p), some (.int i), some (.int r16)] [.int r27, .ref 7] _ _
        refine am_e1 (v := r16) hi_118_64 rfl ?_
        refine am_e0 hi_118_66 ?_
        refine am_e2 (v := 7) hi_118_67 rfl ?_
        refine cm_20f (r := 10) h1 hi_118_68 (h1.1.s (7, 6) (by decide)) (by decide) rfl ?_
        refine am_e1 (v := i) hi_118_71 rfl ?_
        refine am_e0 hi_118_72 ?_
        refine am_e32n (as := [.ref 10, .int i, .int 2]) (la := [some (.ref 10), some (.int i), some (.int 2)]) (rest := [.int 0, .int r16, .int r27, .ref 7]) hi_118_73 (am_hd0 (M := 118) (by decide) 73) (Nat.le_of_ble_eq_true rfl) (Nat.le_of_ble_eq_true rfl) (show 3 ≤ am_P0.2.2.1 54 from by decide +kernel) rfl (cl_recv (h1.1.s (10, 3) (by decide))) rfl rfl (ck_get (d := (d + 3)) h1 (h1.1.s (10, 3) (by decide))  ) ?_
        rintro v30 S31 ⟨r32, rfl, rfl⟩
        show am_E _ _ _ _ [some (.ref 7), some (.int f), some (.int p), some (.int i), some (.int r16)] [.int r32, .int 0, .int r16, .int r27, .ref 7] _ _
        refine am_e32n (as := [.ref 7, .int r27, .int r16, .int 0, .int r32]) (la := [some (.ref 7), some (.int r27), some (.int r16), some (.int 0), some (.int r32)]) (rest := []) hi_118_76 (am_hd0 (M := 118) (by decide) 76) (Nat.le_of_ble_eq_true rfl) (Nat.le_of_ble_eq_true rfl) (show 5 ≤ am_P0.2.2.1 78 from by decide +kernel) rfl (cl_recv (h1.1.s (7, 6) (by decide))) rfl rfl (ck_emit (d := d) h1   ) ?_
        rintro v35 S36 ⟨r37, rfl, h38, h39, h40, h41⟩
        have h39_ : iv S36 8 1 = iv S 8 1 := h39
        have h40_ : iv S36 10 1 = iv S 10 1 := h40
        have h41_ : iv S36 14 1 = iv S 14 1 := h41
        obtain ⟨h43, h44, ⟨h45, h46, h47, h48⟩, ⟨h49, h50, h51⟩, h53⟩ := h38
        have h54 : kd aw S36 = kd aw S := kd_eq h45 h48
        show am_E _ _ _ _ [some (.ref 7), some (.int f), some (.int p), some (.int i), some (.int r16)] [.int r37] _ _
        refine am_e6i hi_118_79 ?_
        obtain ⟨z55, hz55, tz55⟩ := am_addI (x := i) (y := (-1)) (m := i.toInt) (n := (-1 : Int)) rfl (by decide) (by omega) (by omega)
        refine am_e5 (v := i) (z := z55) (ls' := [some (.ref 7), some (.int f), some (.int p), some (.int z55), some (.int r16)]) hi_118_80 rfl hz55 rfl ?_
        refine am_e18 hi_118_83 ?_
        exact ih _ (some (.int r16)) p z55 ⟨h43, (h2.trans h44), ⟨(by show nx S36 = nx Sb; omega), (by show lv S36 = lv Sb; omega), (by show wr S36 = wr Sb; omega), (h48.trans h6)⟩, ⟨(h49.trans h7), (h50.trans h8), (by show fl S36 = fl Sb; omega)⟩⟩ (by show f.toInt + (-1) ≤ z55.toInt; omega) (by show z55.toInt + 1 ≤ iv Sb 10 1; omega) (by show EN S36 ≤ EN Sb + 160 * iv Sb 10 1 + (-160) + -160 * z55.toInt; omega) (by show iv S36 8 1 = iv Sb 8 1; omega) (by show iv S36 10 1 = iv Sb 10 1; omega) (by show iv S36 14 1 = iv Sb 14 1; omega) (by show z55.toInt - f.toInt + 1 < (N : Int); omega)
      · refine am_e13f hi_118_39 (am_cF (m := r21.toInt) (n := (32 : Int)) rfl (by decide) c24) ?_
        refine am_e0 hi_118_42 ?_
        refine am_e1 (v := p) hi_118_43 rfl ?_
        obtain ⟨z56, hz56⟩ : ∃ q__, am_bin 2 2 p = q__ := ⟨_, rfl⟩
        refine am_e10 (z := z56) hi_118_44 hz56 ?_
        refine am_e1 (v := i) hi_118_45 rfl ?_
        obtain ⟨z57, hz57⟩ : ∃ q__, am_bin 0 z56 i = q__ := ⟨_, rfl⟩
        refine am_e10 (z := z57) hi_118_46 hz57 ?_
        refine am_e1 (v := f) hi_118_47 rfl ?_
        obtain ⟨z58, hz58⟩ : ∃ q__, am_bin 1 z57 f = q__ := ⟨_, rfl⟩
        refine am_e10 (z := z58) hi_118_48 hz58 ?_
        refine am_e3 (ls' := [some (.ref 7), some (.int f), some (.int p), some (.int i), some (.int z58)]) hi_118_49 (Nat.le_of_ble_eq_true rfl) rfl ?_
        obtain ⟨z59, hz59⟩ : ∃ q__, am_bin 0 p 1 = q__ := ⟨_, rfl⟩
        refine am_e5 (v := p) (z := z59) (ls' := [some (.ref 7), some (.int f), some (.int z59), some (.int i), some (.int z58)]) hi_118_51 rfl hz59 rfl ?_
        refine am_e2 (v := 7) hi_118_54 rfl ?_
        refine am_e2 (v := 7) hi_118_55 rfl ?_
        refine cm_20f (r := 10) h1 hi_118_56 (h1.1.s (7, 6) (by decide)) (by decide) rfl ?_
        refine am_e1 (v := i) hi_118_59 rfl ?_
        refine am_e0 hi_118_60 ?_
        refine am_e32n (as := [.ref 10, .int i, .int 0]) (la := [some (.ref 10), some (.int i), some (.int 0)]) (rest := [.ref 7]) hi_118_61 (am_hd0 (M := 118) (by decide) 61) (Nat.le_of_ble_eq_true rfl) (Nat.le_of_ble_eq_true rfl) (show 3 ≤ am_P0.2.2.1 54 from by decide +kernel) rfl (cl_recv (h1.1.s (10, 3) (by decide))) rfl rfl (ck_get (d := (d + 3)) h1 (h1.1.s (10, 3) (by decide))  ) ?_
        rintro v60 S61 ⟨r62, rfl, rfl⟩
        show am_E _ _ _ _ [some (.ref 7), some (.int f), some (.int z59), some (.int i), some (.int z58)] [.int r62, .ref 7] _ _
        refine am_e1 (v := z58) hi_118_64 rfl ?_
        refine am_e0 hi_118_66 ?_
        refine am_e2 (v := 7) hi_118_67 rfl ?_
        refine cm_20f (r := 10) h1 hi_118_68 (h1.1.s (7, 6) (by decide)) (by decide) rfl ?_
        refine am_e1 (v := i) hi_118_71 rfl ?_
        refine am_e0 hi_118_72 ?_
        refine am_e32n (as := [.ref 10, .int i, .int 2]) (la := [some (.ref 10), some (.int i), some (.int 2)]) (rest := [.int 0, .int z58, .int r62, .ref 7]) hi_118_73 (am_hd0 (M := 118) (by decide) 73) (Nat.le_of_ble_eq_true rfl) (Nat.le_of_ble_eq_true rfl) (show 3 ≤ am_P0.2.2.1 54 from by decide +kernel) rfl (cl_recv (h1.1.s (10, 3) (by decide))) rfl rfl (ck_get (d := (d + 3)) h1 (h1.1.s (10, 3) (by decide))  ) ?_
        rintro v65 S66 ⟨r67, rfl, rfl⟩
        show am_E _ _ _ _ [some (.ref 7), some (.int f), some (.int z59), some (.int i), some (.int z58)] [.int r67, .int 0, .int z58, .int r62, .ref 7] _ _
        refine am_e32n (as := [.ref 7, .int r62, .int z58, .int 0, .int r67]) (la := [some (.ref 7), some (.int r62), some (.int z58), some (.int 0), some (.int r67)]) (rest := []) hi_118_76 (am_hd0 (M := 118) (by decide) 76) (Nat.le_of_ble_eq_true rfl) (Nat.le_of_ble_eq_true rfl) (show 5 ≤ am_P0.2.2.1 78 from by decide +kernel) rfl (cl_recv (h1.1.s (7, 6) (by decide))) rfl rfl (ck_emit (d := d) h1   ) ?_
        rintro v70 S71 ⟨r72, rfl, h73, h74, h75, h76⟩
        have h74_ : iv S71 8 1 = iv S 8 1 := h74
        have h75_ : iv S71 10 1 = iv S 10 1 := h75
        have h76_ : iv S71 14 1 = iv S 14 1 := h76
        obtain ⟨h78, h79, ⟨h80, h81, h82, h83⟩, ⟨h84, h85, h86⟩, h88⟩ := h73
        have h89 : kd aw S71 = kd aw S := kd_eq h80 h83
        show am_E _ _ _ _ [some (.ref 7), some (.int f), some (.int z59), some (.int i), some (.int z58)] [.int r72] _ _
        refine am_e6i hi_118_79 ?_
        obtain ⟨z90, hz90, tz90⟩ := am_addI (x := i) (y := (-1)) (m := i.toInt) (n := (-1 : Int)) rfl (by decide) (by omega) (by omega)
        refine am_e5 (v := i) (z := z90) (ls' := [some (.ref 7), some (.int f), some (.int z59), some (.int z90), some (.int z58)]) hi_118_80 rfl hz90 rfl ?_
        refine am_e18 hi_118_83 ?_
        exact ih _ (some (.int z58)) z59 z90 ⟨h78, (h2.trans h79), ⟨(by show nx S71 = nx Sb; omega), (by show lv S71 = lv Sb; omega), (by show wr S71 = wr Sb; omega), (h83.trans h6)⟩, ⟨(h84.trans h7), (h85.trans h8), (by show fl S71 = fl Sb; omega)⟩⟩ (by show f.toInt + (-1) ≤ z90.toInt; omega) (by show z90.toInt + 1 ≤ iv Sb 10 1; omega) (by show EN S71 ≤ EN Sb + 160 * iv Sb 10 1 + (-160) + -160 * z90.toInt; omega) (by show iv S71 8 1 = iv Sb 8 1; omega) (by show iv S71 10 1 = iv Sb 10 1; omega) (by show iv S71 14 1 = iv Sb 14 1; omega) (by show z90.toInt - f.toInt + 1 < (N : Int); omega)
theorem ck_store {sc : Nat × (Nat → Int32)} {d aw : Nat} {S : am_S} {f : Int32} (h : SH aw S) (p0 : 0 ≤ f.toInt) (p1 : f.toInt ≤ iv S 10 1) : am_E (am_PP sc) (d + 4) 118 0 [some (.ref 7), some (.int f), none, none, none] [] S (am_N fun v S1 => v = none ∧ Qv aw S S1 ∧ (iv S1 10 1 = f.toInt) ∧ (EN S1 ≤ EN S + 160 + -160 * iv S 10 1 + 160 * f.toInt) ∧ (iv S1 8 1 = iv S 8 1) ∧ (iv S1 14 1 = iv S 14 1)) := by
  refine am_e0 hi_118_0 ?_
  refine am_e3 (ls' := [some (.ref 7), some (.int f), some (.int 0), none, none]) hi_118_1 (Nat.le_of_ble_eq_true rfl) rfl ?_
  refine am_e2 (v := 7) hi_118_2 rfl ?_
  refine cm_20f (r := 10) h hi_118_3 (h.1.s (7, 6) (by decide)) (by decide) rfl ?_
  refine am_e32n (as := [.ref 10]) (la := [some (.ref 10)]) (rest := []) hi_118_6 (am_hd0 (M := 118) (by decide) 6) (Nat.le_of_ble_eq_true rfl) (Nat.le_of_ble_eq_true rfl) (show 1 ≤ am_P0.2.2.1 36 from by decide +kernel) rfl (cl_recv (h.1.s (10, 3) (by decide))) rfl rfl (ck_rows (d := (d + 3)) h (h.1.s (10, 3) (by decide))  ) ?_
  rintro v1 S2 ⟨r3, rfl, rfl, h5, h6, h7⟩
  have h5_ : r3.toInt = iv S 10 1 := h5
  have h6_ : 0 ≤ r3.toInt := h6
  have h7_ : r3.toInt ≤ 2097154 := h7
  show am_E _ _ _ _ [some (.ref 7), some (.int f), some (.int 0), none, none] [.int r3] _ _
  refine am_e0 hi_118_9 ?_
  obtain ⟨z9, hz9, tz9⟩ := am_subI (x := r3) (y := 1) (m := r3.toInt) (n := (1 : Int)) rfl (by decide) (by omega) (by omega)
  refine am_e10 (z := z9) hi_118_10 hz9 ?_
  refine am_e3 (ls' := [some (.ref 7), some (.int f), some (.int 0), some (.int z9), none]) hi_118_11 (Nat.le_of_ble_eq_true rfl) rfl ?_
  refine cf_store (d := d) (Sb := S) (f := f) h   (by show 0 ≤ f.toInt; omega) ?_ ((z9.toInt - f.toInt + 1).toNat + 1) S none 0 z9 ⟨h, Ex.refl _, ⟨rfl, rfl, rfl, rfl⟩, ⟨rfl, rfl, rfl⟩⟩ (by show f.toInt + (-1) ≤ z9.toInt; omega) (by show z9.toInt + 1 ≤ iv S 10 1; omega) (by show EN S ≤ EN S + 160 * iv S 10 1 + (-160) + -160 * z9.toInt; omega) (by show iv S 8 1 = iv S 8 1; omega) (by show iv S 10 1 = iv S 10 1; omega) (by show iv S 14 1 = iv S 14 1; omega) (by show z9.toInt - f.toInt + 1 < _; omega)
  · intro S12 x418 p10 i11 h13 h14 h15 h16 h17
    have h14_ : EN S12 ≤ EN S + 160 * iv S 10 1 + -160 * f.toInt := h14
    have h15_ : iv S12 8 1 = iv S 8 1 := h15
    have h16_ : iv S12 10 1 = iv S 10 1 := h16
    have h17_ : iv S12 14 1 = iv S 14 1 := h17
    obtain ⟨h19, h20, ⟨h21, h22, h23, h24⟩, ⟨h25, h26, h27⟩⟩ := h13
    have h30 : kd aw S12 = kd aw S := kd_eq h21 h24
    show am_E _ _ _ _ [some (.ref 7), some (.int f), some (.int p10), some (.int i11), x418] [] _ _
    refine am_e1 (v := p10) hi_118_86 rfl ?_
    by_cases c31 : p10.toInt ≤ (0 : Int)
    · refine am_e12t hi_118_87 (am_cT (m := p10.toInt) (n := (0 : Int)) rfl (by decide) c31) ?_
      refine am_e2 (v := 7) hi_118_102 rfl ?_
      refine cm_20f (r := 10) h19 hi_118_103 (h19.1.s (7, 6) (by decide)) (by decide) rfl ?_
      refine am_e1 (v := f) hi_118_106 rfl ?_
      refine am_e32n (as := [.ref 10, .int f]) (la := [some (.ref 10), some (.int f)]) (rest := []) hi_118_107 (am_hd0 (M := 118) (by decide) 107) (Nat.le_of_ble_eq_true rfl) (Nat.le_of_ble_eq_true rfl) (show 2 ≤ am_P0.2.2.1 30 from by decide +kernel) rfl (cl_recv (h19.1.s (10, 3) (by decide))) rfl rfl (ck_cut (d := (d + 3)) h19 (h19.1.s (10, 3) (by decide)) (by decide)  ) ?_
      rintro v32 S33 ⟨rfl, h35, h36, h37, h38⟩
      have h36_ : (0 ≤ f.toInt ∧ f.toInt < iv S12 10 1 ∧ iv S33 10 1 = f.toInt) ∨ ((f.toInt < 0 ∨ iv S12 10 1 ≤ f.toInt) ∧ iv S33 10 1 = iv S12 10 1) := h36
      have h37_ : EN S33 ≤ EN S12 + c_w 10 * (iv S33 10 1 - iv S12 10 1) := h37
      have h38_ : ∀ j, cl (am_fs S12) j = some 3 → j ≠ 10 → iv S33 j 1 = iv S12 j 1 := h38
      obtain ⟨h40, h41, ⟨h42, h43, h44, h45⟩, ⟨h46, h47, h48⟩⟩ := h35
      have h51 : kd aw S33 = kd aw S12 := kd_eq h42 h45
      have h52 := h38_ 8 (h19.1.s (8, 3) (by decide)) (by decide)
      have h53 := h38_ 14 (h19.1.s (14, 3) (by decide)) (by decide)
      have h54 : EN S33 ≤ EN S12 + 320 * (iv S33 10 1 - iv S12 10 1) := by have q := h37_; rw [show c_w 10 = 320 from rfl] at q; exact q
      show am_E _ _ _ _ [some (.ref 7), some (.int f), some (.int p10), some (.int i11), x418] [] _ _
      refine am_e35 hi_118_110 ?_
      exact ⟨rfl, ⟨h40, (h20.trans h41), ⟨(by show nx S33 = nx S; omega), (by show lv S33 = lv S; omega), (by show wr S33 = wr S; omega), (h45.trans h24)⟩, ⟨(h46.trans h25), (h47.trans h26), (by show fl S33 = fl S; omega)⟩⟩, (by show iv S33 10 1 = f.toInt; omega), (by show EN S33 ≤ EN S + 160 + -160 * iv S 10 1 + 160 * f.toInt; omega), (by show iv S33 8 1 = iv S 8 1; omega), (by show iv S33 14 1 = iv S 14 1; omega)⟩
    · refine am_e12f hi_118_87 (am_cF (m := p10.toInt) (n := (0 : Int)) rfl (by decide) c31) ?_
      refine am_e2 (v := 7) hi_118_90 rfl ?_
      refine am_e0 hi_118_91 ?_
      refine am_e0 hi_118_93 ?_
      refine am_e1 (v := p10) hi_118_94 rfl ?_
      obtain ⟨z55, hz55⟩ : ∃ q__, am_bin 2 2 p10 = q__ := ⟨_, rfl⟩
      refine am_e10 (z := z55) hi_118_95 hz55 ?_
      refine am_e0 hi_118_96 ?_
      refine am_e0 hi_118_97 ?_
      refine am_e32n (as := [.ref 7, .int 26, .int z55, .int 0, .int 0]) (la := [some (.ref 7), some (.int 26), some (.int z55), some (.int 0), some (.int 0)]) (rest := []) hi_118_98 (am_hd0 (M := 118) (by decide) 98) (Nat.le_of_ble_eq_true rfl) (Nat.le_of_ble_eq_true rfl) (show 5 ≤ am_P0.2.2.1 78 from by decide +kernel) rfl (cl_recv (h19.1.s (7, 6) (by decide))) rfl rfl (ck_emit (d := d) h19   ) ?_
      rintro v56 S57 ⟨r58, rfl, h59, h60, h61, h62⟩
      have h60_ : iv S57 8 1 = iv S12 8 1 := h60
      have h61_ : iv S57 10 1 = iv S12 10 1 := h61
      have h62_ : iv S57 14 1 = iv S12 14 1 := h62
      obtain ⟨h64, h65, ⟨h66, h67, h68, h69⟩, ⟨h70, h71, h72⟩, h74⟩ := h59
      have h75 : kd aw S57 = kd aw S12 := kd_eq h66 h69
      show am_E _ _ _ _ [some (.ref 7), some (.int f), some (.int p10), some (.int i11), x418] [.int r58] _ _
      refine am_e6i hi_118_101 ?_
      refine am_e2 (v := 7) hi_118_102 rfl ?_
      refine cm_20f (r := 10) h64 hi_118_103 (h64.1.s (7, 6) (by decide)) (by decide) rfl ?_
      refine am_e1 (v := f) hi_118_106 rfl ?_
      refine am_e32n (as := [.ref 10, .int f]) (la := [some (.ref 10), some (.int f)]) (rest := []) hi_118_107 (am_hd0 (M := 118) (by decide) 107) (Nat.le_of_ble_eq_true rfl) (Nat.le_of_ble_eq_true rfl) (show 2 ≤ am_P0.2.2.1 30 from by decide +kernel) rfl (cl_recv (h64.1.s (10, 3) (by decide))) rfl rfl (ck_cut (d := (d + 3)) h64 (h64.1.s (10, 3) (by decide)) (by decide)  ) ?_
      rintro v76 S77 ⟨rfl, h79, h80, h81, h82⟩
      have h80_ : (0 ≤ f.toInt ∧ f.toInt < iv S57 10 1 ∧ iv S77 10 1 = f.toInt) ∨ ((f.toInt < 0 ∨ iv S57 10 1 ≤ f.toInt) ∧ iv S77 10 1 = iv S57 10 1) := h80
      have h81_ : EN S77 ≤ EN S57 + c_w 10 * (iv S77 10 1 - iv S57 10 1) := h81
      have h82_ : ∀ j, cl (am_fs S57) j = some 3 → j ≠ 10 → iv S77 j 1 = iv S57 j 1 := h82
      obtain ⟨h84, h85, ⟨h86, h87, h88, h89⟩, ⟨h90, h91, h92⟩⟩ := h79
      have h95 : kd aw S77 = kd aw S57 := kd_eq h86 h89
      have h96 := h82_ 8 (h64.1.s (8, 3) (by decide)) (by decide)
      have h97 := h82_ 14 (h64.1.s (14, 3) (by decide)) (by decide)
      have h98 : EN S77 ≤ EN S57 + 320 * (iv S77 10 1 - iv S57 10 1) := by have q := h81_; rw [show c_w 10 = 320 from rfl] at q; exact q
      show am_E _ _ _ _ [some (.ref 7), some (.int f), some (.int p10), some (.int i11), x418] [] _ _
      refine am_e35 hi_118_110 ?_
      exact ⟨rfl, ⟨h84, ((h20.trans h65).trans h85), ⟨(by show nx S77 = nx S; omega), (by show lv S77 = lv S; omega), (by show wr S77 = wr S; omega), (h89.trans (h69.trans h24))⟩, ⟨(h90.trans (h70.trans h25)), (h91.trans (h71.trans h26)), (by show fl S77 = fl S; omega)⟩⟩, (by show iv S77 10 1 = f.toInt; omega), (by show EN S77 ≤ EN S + 160 + -160 * iv S 10 1 + 160 * f.toInt; omega), (by show iv S77 8 1 = iv S 8 1; omega), (by show iv S77 14 1 = iv S 14 1; omega)⟩
theorem cf_reduce {sc : Nat × (Nat → Int32)} {d aw : Nat} {Sb : am_S} {b : Int32} {k : Int32} {Q : Option (Option Value) → am_S → Prop} (h : SH aw Sb) (p0 : 0 ≤ b.toInt) (hx0 : ∀ (S : am_S) (x4 : Option Value) (x5 : Option Value) (t : Int32), Qv aw Sb S → (b.toInt ≤ t.toInt + 1) → (iv S 8 1 = t.toInt + 1) → (EN S ≤ EN Sb) → (iv S 10 1 = iv Sb 10 1) → (iv S 14 1 = iv Sb 14 1) → am_E (am_PP sc) (d + 4) 108 163 [some (.ref 7), some (.int b), some (.int k), some (.int t), x4, x5] [] S Q) : ∀ (N : Nat) (S : am_S) (x4 : Option Value) (x5 : Option Value) (t : Int32), Qv aw Sb S → (b.toInt ≤ t.toInt + 1) → (iv S 8 1 = t.toInt + 1) → (EN S ≤ EN Sb) → (iv S 10 1 = iv Sb 10 1) → (iv S 14 1 = iv Sb 14 1) → t.toInt - b.toInt + 1 < (N : Int) → am_E (am_PP sc) (d + 4) 108 10 [some (.ref 7), some (.int b), some (.int k), some (.int t), x4, x5] [] S Q := by
  intro N
  induction N with
  | zero =>
    intro S x4 x5 t hrel  i0 i1 i2 i3 i4 hN
    have := i32_le t
    have := i32_ge t
    exfalso
    omega
  | succ N ih =>
    intro S x4 x5 t hrel  i0 i1 i2 i3 i4 hN
    have hl_t := i32_le t
    have hg_t := i32_ge t
    obtain ⟨h1, h2, ⟨h3, h4, h5, h6⟩, ⟨h7, h8, h9⟩⟩ := hrel
    have h12 : kd aw S = kd aw Sb := kd_eq h3 h6
    refine am_e1 (v := t) hi_108_10 rfl ?_
    refine am_e1 (v := b) hi_108_11 rfl ?_
    by_cases c13 : t.toInt < b.toInt
    · refine am_e13t hi_108_12 (am_cT (m := t.toInt) (n := b.toInt) rfl rfl c13) ?_
      exact hx0 _ x4 x5 t ⟨h1, h2, ⟨(by show nx S = nx Sb; omega), (by show lv S = lv Sb; omega), (by show wr S = wr Sb; omega), h6⟩, ⟨h7, h8, (by show fl S = fl Sb; omega)⟩⟩ (by show b.toInt ≤ t.toInt + 1; omega) (by show iv S 8 1 = t.toInt + 1; omega) (by show EN S ≤ EN Sb; omega) (by show iv S 10 1 = iv Sb 10 1; omega) (by show iv S 14 1 = iv Sb 14 1; omega)
    · refine am_e13f hi_108_12 (am_cF (m := t.toInt) (n := b.toInt) rfl rfl c13) ?_
      refine am_e2 (v := 7) hi_108_15 rfl ?_
      refine cm_20f (r := 8) h1 hi_108_16 (h1.1.s (7, 6) (by decide)) (by decide) rfl ?_
      refine am_e1 (v := t) hi_108_19 rfl ?_
      refine am_e0 hi_108_20 ?_
      refine am_e32n (as := [.ref 8, .int t, .int 0]) (la := [some (.ref 8), some (.int t), some (.int 0)]) (rest := []) hi_108_21 (am_hd0 (M := 108) (by decide) 21) (Nat.le_of_ble_eq_true rfl) (Nat.le_of_ble_eq_true rfl) (show 3 ≤ am_P0.2.2.1 54 from by decide +kernel) rfl (cl_recv (h1.1.s (8, 3) (by decide))) rfl rfl (ck_get (d := (d + 3)) h1 (h1.1.s (8, 3) (by decide))  ) ?_
      rintro v14 S15 ⟨r16, rfl, rfl⟩
      show am_E _ _ _ _ [some (.ref 7), some (.int b), some (.int k), some (.int t), x4, x5] [.int r16] _ _
      refine am_e1 (v := k) hi_108_24 rfl ?_
      by_cases c19 : r16.toInt < k.toInt
      · refine am_e13t hi_108_25 (am_cT (m := r16.toInt) (n := k.toInt) rfl rfl c19) ?_
        exact hx0 _ x4 x5 t ⟨h1, h2, ⟨(by show nx S = nx Sb; omega), (by show lv S = lv Sb; omega), (by show wr S = wr Sb; omega), h6⟩, ⟨h7, h8, (by show fl S = fl Sb; omega)⟩⟩ (by show b.toInt ≤ t.toInt + 1; omega) (by show iv S 8 1 = t.toInt + 1; omega) (by show EN S ≤ EN Sb; omega) (by show iv S 10 1 = iv Sb 10 1; omega) (by show iv S 14 1 = iv Sb 14 1; omega)
      · refine am_e13f hi_108_25 (am_cF (m := r16.toInt) (n := k.toInt) rfl rfl c19) ?_
        refine am_e2 (v := 7) hi_108_28 rfl ?_
        refine cm_20f (r := 8) h1 hi_108_29 (h1.1.s (7, 6) (by decide)) (by decide) rfl ?_
        refine am_e1 (v := t) hi_108_32 rfl ?_
        refine am_e0 hi_108_33 ?_
        refine am_e32n (as := [.ref 8, .int t, .int 1]) (la := [some (.ref 8), some (.int t), some (.int 1)]) (rest := []) hi_108_34 (am_hd0 (M := 108) (by decide) 34) (Nat.le_of_ble_eq_true rfl) (Nat.le_of_ble_eq_true rfl) (show 3 ≤ am_P0.2.2.1 54 from by decide +kernel) rfl (cl_recv (h1.1.s (8, 3) (by decide))) rfl rfl (ck_get (d := (d + 3)) h1 (h1.1.s (8, 3) (by decide))  ) ?_
        rintro v20 S21 ⟨r22, rfl, rfl⟩
        show am_E _ _ _ _ [some (.ref 7), some (.int b), some (.int k), some (.int t), x4, x5] [.int r22] _ _
        refine am_e3 (ls' := [some (.ref 7), some (.int b), some (.int k), some (.int t), some (.int r22), x5]) hi_108_37 (Nat.le_of_ble_eq_true rfl) rfl ?_
        refine am_e2 (v := 7) hi_108_39 rfl ?_
        refine cm_20f (r := 8) h1 hi_108_40 (h1.1.s (7, 6) (by decide)) (by decide) rfl ?_
        refine am_e1 (v := t) hi_108_43 rfl ?_
        refine am_e0 hi_108_44 ?_
        refine am_e32n (as := [.ref 8, .int t, .int 2]) (la := [some (.ref 8), some (.int t), some (.int 2)]) (rest := []) hi_108_45 (am_hd0 (M := 108) (by decide) 45) (Nat.le_of_ble_eq_true rfl) (Nat.le_of_ble_eq_true rfl) (show 3 ≤ am_P0.2.2.1 54 from by decide +kernel) rfl (cl_recv (h1.1.s (8, 3) (by decide))) rfl rfl (ck_get (d := (d + 3)) h1 (h1.1.s (8, 3) (by decide))  ) ?_
        rintro v25 S26 ⟨r27, rfl, rfl⟩
        show am_E _ _ _ _ [some (.ref 7), some (.int b), some (.int k), some (.int t), some (.int r22), x5] [.int r27] _ _
        refine am_e3 (ls' := [some (.ref 7), some (.int b), some (.int k), some (.int t), some (.int r22), some (.int r27)]) hi_108_48 (Nat.le_of_ble_eq_true rfl) rfl ?_
        refine am_e1 (v := r22) hi_108_50 rfl ?_
        refine am_e0 hi_108_52 ?_
        by_cases c30 : r22.toInt = (10 : Int)
        · refine am_e13t hi_108_54 (am_cT (m := r22.toInt) (n := (10 : Int)) rfl (by decide) c30) ?_
          refine am_e2 (v := 7) hi_108_64 rfl ?_
          refine cm_20f (r := 12) h1 hi_108_65 (h1.1.s (7, 6) (by decide)) (by decide) rfl ?_
          refine am_e32w (as := [.ref 12]) (la := [some (.ref 12)]) (rest := []) hi_108_68 (am_hd0 (M := 108) (by decide) 68) (Nat.le_of_ble_eq_true rfl) (Nat.le_of_ble_eq_true rfl) (show 1 ≤ am_P0.2.2.1 79 from by decide +kernel) rfl (cl_recv (h1.1.s (12, 7) (by decide))) rfl rfl ?_
          refine am_e2 (v := 12) hi_79_0 rfl ?_
          refine cm_20n h1 hi_79_1 fun hb31 => ?_
          refine am_e34 hi_79_4 ?_
          show am_E _ _ _ _ [some (.ref 7), some (.int b), some (.int k), some (.int t), some (.int r22), some (.int r27)] [.ref (nw S)] _ _
          refine am_e2 (v := 7) hi_108_71 rfl ?_
          refine cm_20f (r := 8) h1 hi_108_72 (h1.1.s (7, 6) (by decide)) (by decide) rfl ?_
          refine am_e1 (v := t) hi_108_75 rfl ?_
          refine am_e0 hi_108_76 ?_
          refine am_e32n (as := [.ref 8, .int t, .int 3]) (la := [some (.ref 8), some (.int t), some (.int 3)]) (rest := [.ref (nw S)]) hi_108_77 (am_hd0 (M := 108) (by decide) 77) (Nat.le_of_ble_eq_true rfl) (Nat.le_of_ble_eq_true rfl) (show 3 ≤ am_P0.2.2.1 54 from by decide +kernel) rfl (cl_recv (h1.1.s (8, 3) (by decide))) rfl rfl (ck_get (d := (d + 3)) h1 (h1.1.s (8, 3) (by decide))  ) ?_
          rintro v32 S33 ⟨r34, rfl, rfl⟩
          show am_E _ _ _ _ [some (.ref 7), some (.int b), some (.int k), some (.int t), some (.int r22), some (.int r27)] [.int r34, .ref (nw S)] _ _
          refine am_e0 hi_108_80 ?_
          refine am_e32n (as := [.ref (nw S), .int r34, .int 1]) (la := [some (.ref (nw S)), some (.int r34), some (.int 1)]) (rest := []) hi_108_81 (am_hd0 (M := 108) (by decide) 81) (Nat.le_of_ble_eq_true rfl) (Nat.le_of_ble_eq_true rfl) (show 3 ≤ am_P0.2.2.1 109 from by decide +kernel) rfl (cl_recv hb31) rfl rfl (ck_leadHere (d := (d + 2)) h1 hb31  ) ?_
          rintro v37 S38 ⟨rfl, h40⟩
          obtain ⟨h42, h43, ⟨h44, h45, h46, h47⟩, ⟨h48, h49, h50⟩, h51, h52⟩ := h40
          have h53 : kd aw S38 = kd aw S := kd_eq h44 h47
          have h54 := h51 8 (h1.1.s (8, 3) (by decide))
          have h55 := h51 10 (h1.1.s (10, 3) (by decide))
          have h56 := h51 14 (h1.1.s (14, 3) (by decide))
          show am_E _ _ _ _ [some (.ref 7), some (.int b), some (.int k), some (.int t), some (.int r22), some (.int r27)] [] _ _
          refine am_e18 hi_108_84 ?_
          refine am_e2 (v := 7) hi_108_149 rfl ?_
          refine cm_20f (r := 8) h42 hi_108_150 (h42.1.s (7, 6) (by decide)) (by decide) rfl ?_
          refine am_e1 (v := t) hi_108_153 rfl ?_
          refine am_e32n (as := [.ref 8, .int t]) (la := [some (.ref 8), some (.int t)]) (rest := []) hi_108_154 (am_hd0 (M := 108) (by decide) 154) (Nat.le_of_ble_eq_true rfl) (Nat.le_of_ble_eq_true rfl) (show 2 ≤ am_P0.2.2.1 30 from by decide +kernel) rfl (cl_recv (h42.1.s (8, 3) (by decide))) rfl rfl (ck_cut (d := (d + 3)) h42 (h42.1.s (8, 3) (by decide)) (by decide)  ) ?_
          rintro v57 S58 ⟨rfl, h60, h61, h62, h63⟩
          have h61_ : (0 ≤ t.toInt ∧ t.toInt < iv S38 8 1 ∧ iv S58 8 1 = t.toInt) ∨ ((t.toInt < 0 ∨ iv S38 8 1 ≤ t.toInt) ∧ iv S58 8 1 = iv S38 8 1) := h61
          have h62_ : EN S58 ≤ EN S38 + c_w 8 * (iv S58 8 1 - iv S38 8 1) := h62
          have h63_ : ∀ j, cl (am_fs S38) j = some 3 → j ≠ 8 → iv S58 j 1 = iv S38 j 1 := h63
          obtain ⟨h65, h66, ⟨h67, h68, h69, h70⟩, ⟨h71, h72, h73⟩⟩ := h60
          have h76 : kd aw S58 = kd aw S38 := kd_eq h67 h70
          have h77 := h63_ 10 (h42.1.s (10, 3) (by decide)) (by decide)
          have h78 := h63_ 14 (h42.1.s (14, 3) (by decide)) (by decide)
          have h79 : EN S58 ≤ EN S38 + 160 * (iv S58 8 1 - iv S38 8 1) := by have q := h62_; rw [show c_w 8 = 160 from rfl] at q; exact q
          show am_E _ _ _ _ [some (.ref 7), some (.int b), some (.int k), some (.int t), some (.int r22), some (.int r27)] [] _ _
          obtain ⟨z80, hz80, tz80⟩ := am_addI (x := t) (y := (-1)) (m := t.toInt) (n := (-1 : Int)) rfl (by decide) (by omega) (by omega)
          refine am_e5 (v := t) (z := z80) (ls' := [some (.ref 7), some (.int b), some (.int k), some (.int z80), some (.int r22), some (.int r27)]) hi_108_157 rfl hz80 rfl ?_
          refine am_e18 hi_108_160 ?_
          exact ih _ (some (.int r22)) (some (.int r27)) z80 ⟨h65, ((h2.trans h43).trans h66), ⟨(by show nx S58 = nx Sb; omega), (by show lv S58 = lv Sb; omega), (by show wr S58 = wr Sb; omega), (h70.trans (h47.trans h6))⟩, ⟨(h71.trans (h48.trans h7)), (h72.trans (h49.trans h8)), (by show fl S58 = fl Sb; omega)⟩⟩ (by show b.toInt ≤ z80.toInt + 1; omega) (by show iv S58 8 1 = z80.toInt + 1; omega) (by show EN S58 ≤ EN Sb; omega) (by show iv S58 10 1 = iv Sb 10 1; omega) (by show iv S58 14 1 = iv Sb 14 1; omega) (by show z80.toInt - b.toInt + 1 < (N : Int); omega)
        · refine am_e13f hi_108_54 (am_cF (m := r22.toInt) (n := (10 : Int)) rfl (by decide) c30) ?_
          refine am_e1 (v := r22) hi_108_57 rfl ?_
          refine am_e0 hi_108_59 ?_
          by_cases c81 : ¬ r22.toInt = (25 : Int)
          · refine am_e13t hi_108_61 (am_cT (m := r22.toInt) (n := (25 : Int)) rfl (by decide) c81) ?_
            refine am_e1 (v := r22) hi_108_87 rfl ?_
            refine am_e0 hi_108_89 ?_
            by_cases c82 : ¬ r22.toInt = (24 : Int)
            · refine am_e13t hi_108_91 (am_cT (m := r22.toInt) (n := (24 : Int)) rfl (by decide) c82) ?_
              refine am_e2 (v := 7) hi_108_108 rfl ?_
              refine cm_20f (r := 8) h1 hi_108_109 (h1.1.s (7, 6) (by decide)) (by decide) rfl ?_
              refine am_e1 (v := t) hi_108_112 rfl ?_
              refine am_e0 hi_108_113 ?_
              refine am_e32n (as := [.ref 8, .int t, .int 0]) (la := [some (.ref 8), some (.int t), some (.int 0)]) (rest := []) hi_108_114 (am_hd0 (M := 108) (by decide) 114) (Nat.le_of_ble_eq_true rfl) (Nat.le_of_ble_eq_true rfl) (show 3 ≤ am_P0.2.2.1 54 from by decide +kernel) rfl (cl_recv (h1.1.s (8, 3) (by decide))) rfl rfl (ck_get (d := (d + 3)) h1 (h1.1.s (8, 3) (by decide))  ) ?_
              rintro v83 S84 ⟨r85, rfl, rfl⟩
              show am_E _ _ _ _ [some (.ref 7), some (.int b), some (.int k), some (.int t), some (.int r22), some (.int r27)] [.int r85] _ _
              refine am_e0 hi_108_117 ?_
              by_cases c88 : ¬ r85.toInt = (11 : Int)
              · refine am_e13t hi_108_119 (am_cT (m := r85.toInt) (n := (11 : Int)) rfl (by decide) c88) ?_
                refine am_e2 (v := 7) hi_108_137 rfl ?_
                refine am_e0 hi_108_138 ?_
                refine am_e1 (v := r22) hi_108_140 rfl ?_
                refine am_e0 hi_108_142 ?_
                refine am_e1 (v := r27) hi_108_143 rfl ?_
                refine am_e32n (as := [.ref 7, .int 19, .int r22, .int 0, .int r27]) (la := [some (.ref 7), some (.int 19), some (.int r22), some (.int 0), some (.int r27)]) (rest := []) hi_108_145 (am_hd0 (M := 108) (by decide) 145) (Nat.le_of_ble_eq_true rfl) (Nat.le_of_ble_eq_true rfl) (show 5 ≤ am_P0.2.2.1 78 from by decide +kernel) rfl (cl_recv (h1.1.s (7, 6) (by decide))) rfl rfl (ck_emit (d := d) h1   ) ?_
                rintro v89 S90 ⟨r91, rfl, h92, h93, h94, h95⟩
                have h93_ : iv S90 8 1 = iv S 8 1 := h93
                have h94_ : iv S90 10 1 = iv S 10 1 := h94
                have h95_ : iv S90 14 1 = iv S 14 1 := h95
                obtain ⟨h97, h98, ⟨h99, h100, h101, h102⟩, ⟨h103, h104, h105⟩, h107⟩ := h92
                have h108 : kd aw S90 = kd aw S := kd_eq h99 h102
                show am_E _ _ _ _ [some (.ref 7), some (.int b), some (.int k), some (.int t), some (.int r22), some (.int r27)] [.int r91] _ _
                refine am_e6i hi_108_148 ?_
                refine am_e2 (v := 7) hi_108_149 rfl ?_
                refine cm_20f (r := 8) h97 hi_108_150 (h97.1.s (7, 6) (by decide)) (by decide) rfl ?_
                refine am_e1 (v := t) hi_108_153 rfl ?_
                refine am_e32n (as := [.ref 8, .int t]) (la := [some (.ref 8), some (.int t)]) (rest := []) hi_108_154 (am_hd0 (M := 108) (by decide) 154) (Nat.le_of_ble_eq_true rfl) (Nat.le_of_ble_eq_true rfl) (show 2 ≤ am_P0.2.2.1 30 from by decide +kernel) rfl (cl_recv (h97.1.s (8, 3) (by decide))) rfl rfl (ck_cut (d := (d + 3)) h97 (h97.1.s (8, 3) (by decide)) (by decide)  ) ?_
                rintro v109 S110 ⟨rfl, h112, h113, h114, h115⟩
                have h113_ : (0 ≤ t.toInt ∧ t.toInt < iv S90 8 1 ∧ iv S110 8 1 = t.toInt) ∨ ((t.toInt < 0 ∨ iv S90 8 1 ≤ t.toInt) ∧ iv S110 8 1 = iv S90 8 1) := h113
                have h114_ : EN S110 ≤ EN S90 + c_w 8 * (iv S110 8 1 - iv S90 8 1) := h114
                have h115_ : ∀ j, cl (am_fs S90) j = some 3 → j ≠ 8 → iv S110 j 1 = iv S90 j 1 := h115
                obtain ⟨h117, h118, ⟨h119, h120, h121, h122⟩, ⟨h123, h124, h125⟩⟩ := h112
                have h128 : kd aw S110 = kd aw S90 := kd_eq h119 h122
                have h129 := h115_ 10 (h97.1.s (10, 3) (by decide)) (by decide)
                have h130 := h115_ 14 (h97.1.s (14, 3) (by decide)) (by decide)
                have h131 : EN S110 ≤ EN S90 + 160 * (iv S110 8 1 - iv S90 8 1) := by have q := h114_; rw [show c_w 8 = 160 from rfl] at q; exact q
                show am_E _ _ _ _ [some (.ref 7), some (.int b), some (.int k), some (.int t), some (.int r22), some (.int r27)] [] _ _
                obtain ⟨z132, hz132, tz132⟩ := am_addI (x := t) (y := (-1)) (m := t.toInt) (n := (-1 : Int)) rfl (by decide) (by omega) (by omega)
                refine am_e5 (v := t) (z := z132) (ls' := [some (.ref 7), some (.int b), some (.int k), some (.int z132), some (.int r22), some (.int r27)]) hi_108_157 rfl hz132 rfl ?_
                refine am_e18 hi_108_160 ?_
                exact ih _ (some (.int r22)) (some (.int r27)) z132 ⟨h117, ((h2.trans h98).trans h118), ⟨(by show nx S110 = nx Sb; omega), (by show lv S110 = lv Sb; omega), (by show wr S110 = wr Sb; omega), (h122.trans (h102.trans h6))⟩, ⟨(h123.trans (h103.trans h7)), (h124.trans (h104.trans h8)), (by show fl S110 = fl Sb; omega)⟩⟩ (by show b.toInt ≤ z132.toInt + 1; omega) (by show iv S110 8 1 = z132.toInt + 1; omega) (by show EN S110 ≤ EN Sb; omega) (by show iv S110 10 1 = iv Sb 10 1; omega) (by show iv S110 14 1 = iv Sb 14 1; omega) (by show z132.toInt - b.toInt + 1 < (N : Int); omega)
              · refine am_e13f hi_108_119 (am_cF (m := r85.toInt) (n := (11 : Int)) rfl (by decide) c88) ?_
                refine am_e2 (v := 7) hi_108_122 rfl ?_
                refine am_e0 hi_108_123 ?_
                refine am_e1 (v := r22) hi_108_125 rfl ?_
                refine am_e0 hi_108_127 ?_
                refine am_e1 (v := r27) hi_108_128 rfl ?_
                refine am_e32n (as := [.ref 7, .int 18, .int r22, .int 0, .int r27]) (la := [some (.ref 7), some (.int 18), some (.int r22), some (.int 0), some (.int r27)]) (rest := []) hi_108_130 (am_hd0 (M := 108) (by decide) 130) (Nat.le_of_ble_eq_true rfl) (Nat.le_of_ble_eq_true rfl) (show 5 ≤ am_P0.2.2.1 78 from by decide +kernel) rfl (cl_recv (h1.1.s (7, 6) (by decide))) rfl rfl (ck_emit (d := d) h1   ) ?_
                rintro v133 S134 ⟨r135, rfl, h136, h137, h138, h139⟩
                have h137_ : iv S134 8 1 = iv S 8 1 := h137
                have h138_ : iv S134 10 1 = iv S 10 1 := h138
                have h139_ : iv S134 14 1 = iv S 14 1 := h139
                obtain ⟨h141, h142, ⟨h143, h144, h145, h146⟩, ⟨h147, h148, h149⟩, h151⟩ := h136
                have h152 : kd aw S134 = kd aw S := kd_eq h143 h146
                show am_E _ _ _ _ [some (.ref 7), some (.int b), some (.int k), some (.int t), some (.int r22), some (.int r27)] [.int r135] _ _
                refine am_e6i hi_108_133 ?_
                refine am_e18 hi_108_134 ?_
                refine am_e2 (v := 7) hi_108_149 rfl ?_
                refine cm_20f (r := 8) h141 hi_108_150 (h141.1.s (7, 6) (by decide)) (by decide) rfl ?_
                refine am_e1 (v := t) hi_108_153 rfl ?_
                refine am_e32n (as := [.ref 8, .int t]) (la := [some (.ref 8), some (.int t)]) (rest := []) hi_108_154 (am_hd0 (M := 108) (by decide) 154) (Nat.le_of_ble_eq_true rfl) (Nat.le_of_ble_eq_true rfl) (show 2 ≤ am_P0.2.2.1 30 from by decide +kernel) rfl (cl_recv (h141.1.s (8, 3) (by decide))) rfl rfl (ck_cut (d := (d + 3)) h141 (h141.1.s (8, 3) (by decide)) (by decide)  ) ?_
                rintro v153 S154 ⟨rfl, h156, h157, h158, h159⟩
                have h157_ : (0 ≤ t.toInt ∧ t.toInt < iv S134 8 1 ∧ iv S154 8 1 = t.toInt) ∨ ((t.toInt < 0 ∨ iv S134 8 1 ≤ t.toInt) ∧ iv S154 8 1 = iv S134 8 1) := h157
                have h158_ : EN S154 ≤ EN S134 + c_w 8 * (iv S154 8 1 - iv S134 8 1) := h158
                have h159_ : ∀ j, cl (am_fs S134) j = some 3 → j ≠ 8 → iv S154 j 1 = iv S134 j 1 := h159
                obtain ⟨h161, h162, ⟨h163, h164, h165, h166⟩, ⟨h167, h168, h169⟩⟩ := h156
                have h172 : kd aw S154 = kd aw S134 := kd_eq h163 h166
                have h173 := h159_ 10 (h141.1.s (10, 3) (by decide)) (by decide)
                have h174 := h159_ 14 (h141.1.s (14, 3) (by decide)) (by decide)
                have h175 : EN S154 ≤ EN S134 + 160 * (iv S154 8 1 - iv S134 8 1) := by have q := h158_; rw [show c_w 8 = 160 from rfl] at q; exact q
                show am_E _ _ _ _ [some (.ref 7), some (.int b), some (.int k), some (.int t), some (.int r22), some (.int r27)] [] _ _
                obtain ⟨z176, hz176, tz176⟩ := am_addI (x := t) (y := (-1)) (m := t.toInt) (n := (-1 : Int)) rfl (by decide) (by omega) (by omega)
                refine am_e5 (v := t) (z := z176) (ls' := [some (.ref 7), some (.int b), some (.int k), some (.int z176), some (.int r22), some (.int r27)]) hi_108_157 rfl hz176 rfl ?_
                refine am_e18 hi_108_160 ?_
                exact ih _ (some (.int r22)) (some (.int r27)) z176 ⟨h161, ((h2.trans h142).trans h162), ⟨(by show nx S154 = nx Sb; omega), (by show lv S154 = lv Sb; omega), (by show wr S154 = wr Sb; omega), (h166.trans (h146.trans h6))⟩, ⟨(h167.trans (h147.trans h7)), (h168.trans (h148.trans h8)), (by show fl S154 = fl Sb; omega)⟩⟩ (by show b.toInt ≤ z176.toInt + 1; omega) (by show iv S154 8 1 = z176.toInt + 1; omega) (by show EN S154 ≤ EN Sb; omega) (by show iv S154 10 1 = iv Sb 10 1; omega) (by show iv S154 14 1 = iv Sb 14 1; omega) (by show z176.toInt - b.toInt + 1 < (N : Int); omega)
            · refine am_e13f hi_108_91 (am_cF (m := r22.toInt) (n := (24 : Int)) rfl (by decide) c82) ?_
              refine am_e2 (v := 7) hi_108_94 rfl ?_
              refine am_e0 hi_108_95 ?_
              refine am_e0 hi_108_97 ?_
              refine am_e0 hi_108_98 ?_
              refine am_e1 (v := r27) hi_108_99 rfl ?_
              refine am_e32n (as := [.ref 7, .int 17, .int 0, .int 0, .int r27]) (la := [some (.ref 7), some (.int 17), some (.int 0), some (.int 0), some (.int r27)]) (rest := []) hi_108_101 (am_hd0 (M := 108) (by decide) 101) (Nat.le_of_ble_eq_true rfl) (Nat.le_of_ble_eq_true rfl) (show 5 ≤ am_P0.2.2.1 78 from by decide +kernel) rfl (cl_recv (h1.1.s (7, 6) (by decide))) rfl rfl (ck_emit (d := d) h1   ) ?_
              rintro v177 S178 ⟨r179, rfl, h180, h181, h182, h183⟩
              have h181_ : iv S178 8 1 = iv S 8 1 := h181
              have h182_ : iv S178 10 1 = iv S 10 1 := h182
              have h183_ : iv S178 14 1 = iv S 14 1 := h183
              obtain ⟨h185, h186, ⟨h187, h188, h189, h190⟩, ⟨h191, h192, h193⟩, h195⟩ := h180
              have h196 : kd aw S178 = kd aw S := kd_eq h187 h190
              show am_E _ _ _ _ [some (.ref 7), some (.int b), some (.int k), some (.int t), some (.int r22), some (.int r27)] [.int r179] _ _
              refine am_e6i hi_108_104 ?_
              refine am_e18 hi_108_105 ?_
              refine am_e2 (v := 7) hi_108_149 rfl ?_
              refine cm_20f (r := 8) h185 hi_108_150 (h185.1.s (7, 6) (by decide)) (by decide) rfl ?_
              refine am_e1 (v := t) hi_108_153 rfl ?_
              refine am_e32n (as := [.ref 8, .int t]) (la := [some (.ref 8), some (.int t)]) (rest := []) hi_108_154 (am_hd0 (M := 108) (by decide) 154) (Nat.le_of_ble_eq_true rfl) (Nat.le_of_ble_eq_true rfl) (show 2 ≤ am_P0.2.2.1 30 from by decide +kernel) rfl (cl_recv (h185.1.s (8, 3) (by decide))) rfl rfl (ck_cut (d := (d + 3)) h185 (h185.1.s (8, 3) (by decide)) (by decide)  ) ?_
              rintro v197 S198 ⟨rfl, h200, h201, h202, h203⟩
              have h201_ : (0 ≤ t.toInt ∧ t.toInt < iv S178 8 1 ∧ iv S198 8 1 = t.toInt) ∨ ((t.toInt < 0 ∨ iv S178 8 1 ≤ t.toInt) ∧ iv S198 8 1 = iv S178 8 1) := h201
              have h202_ : EN S198 ≤ EN S178 + c_w 8 * (iv S198 8 1 - iv S178 8 1) := h202
              have h203_ : ∀ j, cl (am_fs S178) j = some 3 → j ≠ 8 → iv S198 j 1 = iv S178 j 1 := h203
              obtain ⟨h205, h206, ⟨h207, h208, h209, h210⟩, ⟨h211, h212, h213⟩⟩ := h200
              have h216 : kd aw S198 = kd aw S178 := kd_eq h207 h210
              have h217 := h203_ 10 (h185.1.s (10, 3) (by decide)) (by decide)
              have h218 := h203_ 14 (h185.1.s (14, 3) (by decide)) (by decide)
              have h219 : EN S198 ≤ EN S178 + 160 * (iv S198 8 1 - iv S178 8 1) := by have q := h202_; rw [show c_w 8 = 160 from rfl] at q; exact q
              show am_E _ _ _ _ [some (.ref 7), some (.int b), some (.int k), some (.int t), some (.int r22), some (.int r27)] [] _ _
              obtain ⟨z220, hz220, tz220⟩ := am_addI (x := t) (y := (-1)) (m := t.toInt) (n := (-1 : Int)) rfl (by decide) (by omega) (by omega)
              refine am_e5 (v := t) (z := z220) (ls' := [some (.ref 7), some (.int b), some (.int k), some (.int z220), some (.int r22), some (.int r27)]) hi_108_157 rfl hz220 rfl ?_
              refine am_e18 hi_108_160 ?_
              exact ih _ (some (.int r22)) (some (.int r27)) z220 ⟨h205, ((h2.trans h186).trans h206), ⟨(by show nx S198 = nx Sb; omega), (by show lv S198 = lv Sb; omega), (by show wr S198 = wr Sb; omega), (h210.trans (h190.trans h6))⟩, ⟨(h211.trans (h191.trans h7)), (h212.trans (h192.trans h8)), (by show fl S198 = fl Sb; omega)⟩⟩ (by show b.toInt ≤ z220.toInt + 1; omega) (by show iv S198 8 1 = z220.toInt + 1; omega) (by show EN S198 ≤ EN Sb; omega) (by show iv S198 10 1 = iv Sb 10 1; omega) (by show iv S198 14 1 = iv Sb 14 1; omega) (by show z220.toInt - b.toInt + 1 < (N : Int); omega)
          · refine am_e13f hi_108_61 (am_cF (m := r22.toInt) (n := (25 : Int)) rfl (by decide) c81) ?_
            refine am_e2 (v := 7) hi_108_64 rfl ?_
            refine cm_20f (r := 12) h1 hi_108_65 (h1.1.s (7, 6) (by decide)) (by decide) rfl ?_
            refine am_e32w (as := [.ref 12]) (la := [some (.ref 12)]) (rest := []) hi_108_68 (am_hd0 (M := 108) (by decide) 68) (Nat.le_of_ble_eq_true rfl) (Nat.le_of_ble_eq_true rfl) (show 1 ≤ am_P0.2.2.1 79 from by decide +kernel) rfl (cl_recv (h1.1.s (12, 7) (by decide))) rfl rfl ?_
            refine am_e2 (v := 12) hi_79_0 rfl ?_
            refine cm_20n h1 hi_79_1 fun hb221 => ?_
            refine am_e34 hi_79_4 ?_
            show am_E _ _ _ _ [some (.ref 7), some (.int b), some (.int k), some (.int t), some (.int r22), some (.int r27)] [.ref (nw S)] _ _
            refine am_e2 (v := 7) hi_108_71 rfl ?_
            refine cm_20f (r := 8) h1 hi_108_72 (h1.1.s (7, 6) (by decide)) (by decide) rfl ?_
            refine am_e1 (v := t) hi_108_75 rfl ?_
            refine am_e0 hi_108_76 ?_
            refine am_e32n (as := [.ref 8, .int t, .int 3]) (la := [some (.ref 8), some (.int t), some (.int 3)]) (rest := [.ref (nw S)]) hi_108_77 (am_hd0 (M := 108) (by decide) 77) (Nat.le_of_ble_eq_true rfl) (Nat.le_of_ble_eq_true rfl) (show 3 ≤ am_P0.2.2.1 54 from by decide +kernel) rfl (cl_recv (h1.1.s (8, 3) (by decide))) rfl rfl (ck_get (d := (d + 3)) h1 (h1.1.s (8, 3) (by decide))  ) ?_
            rintro v222 S223 ⟨r224, rfl, rfl⟩
            show am_E _ _ _ _ [some (.ref 7), some (.int b), some (.int k), some (.int t), some (.int r22), some (.int r27)] [.int r224, .ref (nw S)] _ _
            refine am_e0 hi_108_80 ?_
            refine am_e32n (as := [.ref (nw S), .int r224, .int 1]) (la := [some (.ref (nw S)), some (.int r224), some (.int 1)]) (rest := []) hi_108_81 (am_hd0 (M := 108) (by decide) 81) (Nat.le_of_ble_eq_true rfl) (Nat.le_of_ble_eq_true rfl) (show 3 ≤ am_P0.2.2.1 109 from by decide +kernel) rfl (cl_recv hb221) rfl rfl (ck_leadHere (d := (d + 2)) h1 hb221  ) ?_
            rintro v227 S228 ⟨rfl, h230⟩
            obtain ⟨h232, h233, ⟨h234, h235, h236, h237⟩, ⟨h238, h239, h240⟩, h241, h242⟩ := h230
            have h243 : kd aw S228 = kd aw S := kd_eq h234 h237
            have h244 := h241 8 (h1.1.s (8, 3) (by decide))
            have h245 := h241 10 (h1.1.s (10, 3) (by decide))
            have h246 := h241 14 (h1.1.s (14, 3) (by decide))
            show am_E _ _ _ _ [some (.ref 7), some (.int b), some (.int k), some (.int t), some (.int r22), some (.int r27)] [] _ _
            refine am_e18 hi_108_84 ?_
            refine am_e2 (v := 7) hi_108_149 rfl ?_
            refine cm_20f (r := 8) h232 hi_108_150 (h232.1.s (7, 6) (by decide)) (by decide) rfl ?_
            refine am_e1 (v := t) hi_108_153 rfl ?_
            refine am_e32n (as := [.ref 8, .int t]) (la := [some (.ref 8), some (.int t)]) (rest := []) hi_108_154 (am_hd0 (M := 108) (by decide) 154) (Nat.le_of_ble_eq_true rfl) (Nat.le_of_ble_eq_true rfl) (show 2 ≤ am_P0.2.2.1 30 from by decide +kernel) rfl (cl_recv (h232.1.s (8, 3) (by decide))) rfl rfl (ck_cut (d := (d + 3)) h232 (h232.1.s (8, 3) (by decide)) (by decide)  ) ?_
            rintro v247 S248 ⟨rfl, h250, h251, h252, h253⟩
            have h251_ : (0 ≤ t.toInt ∧ t.toInt < iv S228 8 1 ∧ iv S248 8 1 = t.toInt) ∨ ((t.toInt < 0 ∨ iv S228 8 1 ≤ t.toInt) ∧ iv S248 8 1 = iv S228 8 1) := h251
            have h252_ : EN S248 ≤ EN S228 + c_w 8 * (iv S248 8 1 - iv S228 8 1) := h252
            have h253_ : ∀ j, cl (am_fs S228) j = some 3 → j ≠ 8 → iv S248 j 1 = iv S228 j 1 := h253
            obtain ⟨h255, h256, ⟨h257, h258, h259, h260⟩, ⟨h261, h262, h263⟩⟩ := h250
            have h266 : kd aw S248 = kd aw S228 := kd_eq h257 h260
            have h267 := h253_ 10 (h232.1.s (10, 3) (by decide)) (by decide)
            have h268 := h253_ 14 (h232.1.s (14, 3) (by decide)) (by decide)
            have h269 : EN S248 ≤ EN S228 + 160 * (iv S248 8 1 - iv S228 8 1) := by have q := h252_; rw [show c_w 8 = 160 from rfl] at q; exact q
            show am_E _ _ _ _ [some (.ref 7), some (.int b), some (.int k), some (.int t), some (.int r22), some (.int r27)] [] _ _
            obtain ⟨z270, hz270, tz270⟩ := am_addI (x := t) (y := (-1)) (m := t.toInt) (n := (-1 : Int)) rfl (by decide) (by omega) (by omega)
            refine am_e5 (v := t) (z := z270) (ls' := [some (.ref 7), some (.int b), some (.int k), some (.int z270), some (.int r22), some (.int r27)]) hi_108_157 rfl hz270 rfl ?_
            refine am_e18 hi_108_160 ?_
            exact ih _ (some (.int r22)) (some (.int r27)) z270 ⟨h255, ((h2.trans h233).trans h256), ⟨(by show nx S248 = nx Sb; omega), (by show lv S248 = lv Sb; omega), (by show wr S248 = wr Sb; omega), (h260.trans (h237.trans h6))⟩, ⟨(h261.trans (h238.trans h7)), (h262.trans (h239.trans h8)), (by show fl S248 = fl Sb; omega)⟩⟩ (by show b.toInt ≤ z270.toInt + 1; omega) (by show iv S248 8 1 = z270.toInt + 1; omega) (by show EN S248 ≤ EN Sb; omega) (by show iv S248 10 1 = iv Sb 10 1; omega) (by show iv S248 14 1 = iv Sb 14 1; omega) (by show z270.toInt - b.toInt + 1 < (N : Int); omega)
theorem ck_reduce {sc : Nat × (Nat → Int32)} {d aw : Nat} {S : am_S} {b : Int32} {k : Int32} (h : SH aw S) (p0 : 0 ≤ b.toInt) (p1 : b.toInt ≤ iv S 8 1) : am_E (am_PP sc) (d + 4) 108 0 [some (.ref 7), some (.int b), some (.int k), none, none, none] [] S (am_N fun v S1 => v = none ∧ Qu aw (0) S S1 ∧ (b.toInt ≤ iv S1 8 1) ∧ (iv S1 10 1 = iv S 10 1) ∧ (iv S1 14 1 = iv S 14 1)) := by
  refine am_e2 (v := 7) hi_108_0 rfl ?_
  refine cm_20f (r := 8) h hi_108_1 (h.1.s (7, 6) (by decide)) (by decide) rfl ?_
  refine am_e32n (as := [.ref 8]) (la := [some (.ref 8)]) (rest := []) hi_108_4 (am_hd0 (M := 108) (by decide) 4) (Nat.le_of_ble_eq_true rfl) (Nat.le_of_ble_eq_true rfl) (show 1 ≤ am_P0.2.2.1 36 from by decide +kernel) rfl (cl_recv (h.1.s (8, 3) (by decide))) rfl rfl (ck_rows (d := (d + 3)) h (h.1.s (8, 3) (by decide))  ) ?_
  rintro v1 S2 ⟨r3, rfl, rfl, h5, h6, h7⟩
  have h5_ : r3.toInt = iv S 8 1 := h5
  have h6_ : 0 ≤ r3.toInt := h6
  have h7_ : r3.toInt ≤ 2097154 := h7
  show am_E _ _ _ _ [some (.ref 7), some (.int b), some (.int k), none, none, none] [.int r3] _ _
  refine am_e0 hi_108_7 ?_
  obtain ⟨z9, hz9, tz9⟩ := am_subI (x := r3) (y := 1) (m := r3.toInt) (n := (1 : Int)) rfl (by decide) (by omega) (by omega)
  refine am_e10 (z := z9) hi_108_8 hz9 ?_
  refine am_e3 (ls' := [some (.ref 7), some (.int b), some (.int k), some (.int z9), none, none]) hi_108_9 (Nat.le_of_ble_eq_true rfl) rfl ?_
  refine cf_reduce (d := d) (Sb := S) (b := b) (k := k) h   (by show 0 ≤ b.toInt; omega) ?_ ((z9.toInt - b.toInt + 1).toNat + 1) S none none z9 ⟨h, Ex.refl _, ⟨rfl, rfl, rfl, rfl⟩, ⟨rfl, rfl, rfl⟩⟩ (by show b.toInt ≤ z9.toInt + 1; omega) (by show iv S 8 1 = z9.toInt + 1; omega) (by show EN S ≤ EN S; omega) (by show iv S 10 1 = iv S 10 1; omega) (by show iv S 14 1 = iv S 14 1; omega) (by show z9.toInt - b.toInt + 1 < _; omega)
  · intro S11 x418 x519 t10 h12 h13 h14 h15 h16 h17
    have h13_ : b.toInt ≤ t10.toInt + 1 := h13
    have h14_ : iv S11 8 1 = t10.toInt + 1 := h14
    have h15_ : EN S11 ≤ EN S := h15
    have h16_ : iv S11 10 1 = iv S 10 1 := h16
    have h17_ : iv S11 14 1 = iv S 14 1 := h17
    obtain ⟨h20, h21, ⟨h22, h23, h24, h25⟩, ⟨h26, h27, h28⟩⟩ := h12
    have h31 : kd aw S11 = kd aw S := kd_eq h22 h25
    show am_E _ _ _ _ [some (.ref 7), some (.int b), some (.int k), some (.int t10), x418, x519] [] _ _
    refine am_e35 hi_108_163 ?_
    exact ⟨rfl, ⟨h20, h21, ⟨(by show nx S11 = nx S; omega), (by show lv S11 = lv S; omega), (by show wr S11 = wr S; omega), h25⟩, ⟨h26, h27, (by show fl S11 = fl S; omega)⟩, (by show EN S11 ≤ EN S + (0); omega)⟩, (by show b.toInt ≤ iv S11 8 1; omega), (by show iv S11 10 1 = iv S 10 1; omega), (by show iv S11 14 1 = iv S 14 1; omega)⟩
