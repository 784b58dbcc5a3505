/-! THE CLASS: jumps, scope (printed by wip/p2/cl3.py) -/
theorem ck_j48 {sc : Nat × (Nat → Int32)} {d aw : Nat} {S : am_S} (h : SH aw S) : am_E (am_PP sc) (d + 1) 48 0 [some (.ref 23)] [] S (am_N fun v S1 => ∃ r : Int32, v = some (.int r) ∧ S = S1 ∧ (r.toInt = iv S 24 1) ∧ (0 ≤ r.toInt) ∧ (r.toInt ≤ 2097154)) := by
  refine am_e2 (v := 23) hi_48_0 rfl ?_
  refine cm_20f (r := 24) h hi_48_1 (h.1.s (23, 9) (by decide)) (by decide) rfl ?_
  refine am_e32n (as := [.ref 24]) (la := [some (.ref 24)]) (rest := []) hi_48_4 (am_hd0 (M := 48) (by decide) 4) (Nat.le_of_ble_eq_true rfl) (Nat.le_of_ble_eq_true rfl) (show 1 ≤ am_P0.2.2.1 36 from by decide +kernel) rfl (cl_recv (h.1.s (24, 3) (by decide))) rfl rfl (ck_rows (d := d) h (h.1.s (24, 3) (by decide))  ) ?_
  rintro v1 S2 ⟨r3, rfl, rfl, h5, h6, h7⟩
  have h5_ : r3.toInt = iv S 24 1 := h5
  have h6_ : 0 ≤ r3.toInt := h6
  have h7_ : r3.toInt ≤ 2097154 := h7
  show am_E _ _ _ _ [some (.ref 23)] [.int r3] _ _
  refine am_e33 hi_48_7 ?_
  exact ⟨r3, rfl, rfl, (by show r3.toInt = iv S 24 1; omega), (by show 0 ≤ r3.toInt; omega), (by show r3.toInt ≤ 2097154; omega)⟩
theorem ck_j49 {sc : Nat × (Nat → Int32)} {d aw : Nat} {S : am_S} (h : SH aw S) : am_E (am_PP sc) (d + 1) 49 0 [some (.ref 23)] [] S (am_N fun v S1 => ∃ r : Int32, v = some (.int r) ∧ S = S1 ∧ (r.toInt = iv S 26 1) ∧ (0 ≤ r.toInt) ∧ (r.toInt ≤ 2097154)) := by
  refine am_e2 (v := 23) hi_49_0 rfl ?_
  refine cm_20f (r := 26) h hi_49_1 (h.1.s (23, 9) (by decide)) (by decide) rfl ?_
  refine am_e32n (as := [.ref 26]) (la := [some (.ref 26)]) (rest := []) hi_49_4 (am_hd0 (M := 49) (by decide) 4) (Nat.le_of_ble_eq_true rfl) (Nat.le_of_ble_eq_true rfl) (show 1 ≤ am_P0.2.2.1 36 from by decide +kernel) rfl (cl_recv (h.1.s (26, 3) (by decide))) rfl rfl (ck_rows (d := d) h (h.1.s (26, 3) (by decide))  ) ?_
  rintro v1 S2 ⟨r3, rfl, rfl, h5, h6, h7⟩
  have h5_ : r3.toInt = iv S 26 1 := h5
  have h6_ : 0 ≤ r3.toInt := h6
  have h7_ : r3.toInt ≤ 2097154 := h7
  show am_E _ _ _ _ [some (.ref 23)] [.int r3] _ _
  refine am_e33 hi_49_7 ?_
  exact ⟨r3, rfl, rfl, (by show r3.toInt = iv S 26 1; omega), (by show 0 ≤ r3.toInt; omega), (by show r3.toInt ≤ 2097154; omega)⟩
theorem ck_j50 {sc : Nat × (Nat → Int32)} {d aw : Nat} {S : am_S} (h : SH aw S) : am_E (am_PP sc) (d + 1) 50 0 [some (.ref 23)] [] S (am_N fun v S1 => ∃ r : Int32, v = some (.int r) ∧ S = S1 ∧ (r.toInt = iv S 28 1) ∧ (0 ≤ r.toInt) ∧ (r.toInt ≤ 2097154)) := by
  refine am_e2 (v := 23) hi_50_0 rfl ?_
  refine cm_20f (r := 28) h hi_50_1 (h.1.s (23, 9) (by decide)) (by decide) rfl ?_
  refine am_e32n (as := [.ref 28]) (la := [some (.ref 28)]) (rest := []) hi_50_4 (am_hd0 (M := 50) (by decide) 4) (Nat.le_of_ble_eq_true rfl) (Nat.le_of_ble_eq_true rfl) (show 1 ≤ am_P0.2.2.1 36 from by decide +kernel) rfl (cl_recv (h.1.s (28, 3) (by decide))) rfl rfl (ck_rows (d := d) h (h.1.s (28, 3) (by decide))  ) ?_
  rintro v1 S2 ⟨r3, rfl, rfl, h5, h6, h7⟩
  have h5_ : r3.toInt = iv S 28 1 := h5
  have h6_ : 0 ≤ r3.toInt := h6
  have h7_ : r3.toInt ≤ 2097154 := h7
  show am_E _ _ _ _ [some (.ref 23)] [.int r3] _ _
  refine am_e33 hi_50_7 ?_
  exact ⟨r3, rfl, rfl, (by show r3.toInt = iv S 28 1; omega), (by show 0 ≤ r3.toInt; omega), (by show r3.toInt ≤ 2097154; omega)⟩
theorem cf_labelOf {sc : Nat × (Nat → Int32)} {d aw : Nat} {Sb : am_S} {tx : Int32} {first : Int32} {Q : Option (Option Value) → am_S → Prop} (h : SH aw Sb) (hx0 : ∀ (i : Int32), am_E (am_PP sc) (d + 1) 84 34 [some (.ref 23), some (.int tx), some (.int first), some (.int i)] [] Sb Q) (hx1 : ∀ (i : Int32), am_E (am_PP sc) (d + 1) 84 26 [some (.ref 23), some (.int tx), some (.int first), some (.int i)] [] Sb Q) : ∀ (N : Nat) (i : Int32), 2147483647 - i.toInt < (N : Int) → am_E (am_PP sc) (d + 1) 84 2 [some (.ref 23), some (.int tx), some (.int first), some (.int i)] [] Sb Q := by
  intro N
  induction N with
  | zero =>
    intro   i    hN
    have := i32_le i
    have := i32_ge i
    exfalso
    omega
  | succ N ih =>
    intro   i    hN
    have hl_i := i32_le i
    have hg_i := i32_ge i
    refine am_e1 (v := i) hi_84_2 rfl ?_
    refine am_e2 (v := 23) hi_84_3 rfl ?_
    refine cm_20f (r := 24) h hi_84_4 (h.1.s (23, 9) (by decide)) (by decide) rfl ?_
    refine am_e32n (as := [.ref 24]) (la := [some (.ref 24)]) (rest := [.int i]) hi_84_7 (am_hd0 (M := 84) (by decide) 7) (Nat.le_of_ble_eq_true rfl) (Nat.le_of_ble_eq_true rfl) (show 1 ≤ am_P0.2.2.1 36 from by decide +kernel) rfl (cl_recv (h.1.s (24, 3) (by decide))) rfl rfl (ck_rows (d := d) h (h.1.s (24, 3) (by decide))  ) ?_
    rintro v1 S2 ⟨r3, rfl, rfl, h5, h6, h7⟩
    have h5_ : r3.toInt = iv Sb 24 1 := h5
    have h6_ : 0 ≤ r3.toInt := h6
    have h7_ : r3.toInt ≤ 2097154 := h7
    show am_E _ _ _ _ [some (.ref 23), some (.int tx), some (.int first), some (.int i)] [.int r3, .int i] _ _
    by_cases c9 : r3.toInt ≤ i.toInt
    · refine am_e13t hi_84_10 (am_cT (m := i.toInt) (n := r3.toInt) rfl rfl c9) ?_
      exact hx0 i
    · refine am_e13f hi_84_10 (am_cF (m := i.toInt) (n := r3.toInt) rfl rfl c9) ?_
      refine am_e2 (v := 23) hi_84_13 rfl ?_
      refine cm_20f (r := 24) h hi_84_14 (h.1.s (23, 9) (by decide)) (by decide) rfl ?_
      refine am_e1 (v := i) hi_84_17 rfl ?_
      refine am_e0 hi_84_18 ?_
      refine am_e32n (as := [.ref 24, .int i, .int 0]) (la := [some (.ref 24), some (.int i), some (.int 0)]) (rest := []) hi_84_19 (am_hd0 (M := 84) (by decide) 19) (Nat.le_of_ble_eq_true rfl) (Nat.le_of_ble_eq_true rfl) (show 3 ≤ am_P0.2.2.1 54 from by decide +kernel) rfl (cl_recv (h.1.s (24, 3) (by decide))) rfl rfl (ck_get (d := d) h (h.1.s (24, 3) (by decide))  ) ?_
      rintro v10 S11 ⟨r12, rfl, rfl⟩
      show am_E _ _ _ _ [some (.ref 23), some (.int tx), some (.int first), some (.int i)] [.int r12] _ _
      refine am_e1 (v := tx) hi_84_22 rfl ?_
      by_cases c15 : ¬ r12.toInt = tx.toInt
      · refine am_e13t hi_84_23 (am_cT (m := r12.toInt) (n := tx.toInt) rfl rfl c15) ?_
        obtain ⟨z16, hz16, tz16⟩ := am_addI (x := i) (y := 1) (m := i.toInt) (n := (1 : Int)) rfl (by decide) (by omega) (by omega)
        refine am_e5 (v := i) (z := z16) (ls' := [some (.ref 23), some (.int tx), some (.int first), some (.int z16)]) hi_84_28 rfl hz16 rfl ?_
        refine am_e18 hi_84_31 ?_
        exact ih z16 (by show 2147483647 - z16.toInt < (N : Int); omega)
      · refine am_e13f hi_84_23 (am_cF (m := r12.toInt) (n := tx.toInt) rfl rfl c15) ?_
        exact hx1 i
theorem ck_labelOf {sc : Nat × (Nat → Int32)} {d aw : Nat} {S : am_S} {tx : Int32} {first : Int32} (h : SH aw S) : am_E (am_PP sc) (d + 1) 84 0 [some (.ref 23), some (.int tx), some (.int first), none] [] S (am_N fun v S1 => ∃ r : Int32, v = some (.int r) ∧ S = S1) := by
  refine am_e1 (v := first) hi_84_0 rfl ?_
  refine am_e3 (ls' := [some (.ref 23), some (.int tx), some (.int first), some (.int first)]) hi_84_1 (Nat.le_of_ble_eq_true rfl) rfl ?_
  refine cf_labelOf (d := d) (Sb := S) (tx := tx) (first := first) h    ?_ ?_ ((2147483647 - first.toInt).toNat + 1) first (by show 2147483647 - first.toInt < _; omega)
  · intro i1
    show am_E _ _ _ _ [some (.ref 23), some (.int tx), some (.int first), some (.int i1)] [] _ _
    refine am_e0 hi_84_34 ?_
    refine am_e33 hi_84_35 ?_
    exact ⟨(-1), rfl, rfl⟩
  · intro i4
    show am_E _ _ _ _ [some (.ref 23), some (.int tx), some (.int first), some (.int i4)] [] _ _
    refine am_e1 (v := i4) hi_84_26 rfl ?_
    refine am_e33 hi_84_27 ?_
    exact ⟨i4, rfl, rfl⟩
theorem ck_addLabel {sc : Nat × (Nat → Int32)} {d aw : Nat} {S : am_S} {x : Int32} {y : Int32} {w : Int32} {z : Int32} (h : SH aw S) (hb_z : z = 0 ∨ z = 1) : am_E (am_PP sc) (d + 3) 122 0 [some (.ref 23), some (.int x), some (.int y), some (.int w), some (.int z)] [] S (am_N fun v S1 => v = none ∧ Qu aw (160) S S1 ∧ (iv S1 8 1 = iv S 8 1) ∧ (iv S1 10 1 = iv S 10 1) ∧ (iv S1 14 1 = iv S 14 1)) := by
  have hb_z_ : z.toInt = 0 ∨ z.toInt = 1 := hb_z.elim (fun e => Or.inl (by rw [e]; rfl)) (fun e => Or.inr (by rw [e]; rfl))
  refine am_e2 (v := 23) hi_122_0 rfl ?_
  refine cm_20f (r := 24) h hi_122_1 (h.1.s (23, 9) (by decide)) (by decide) rfl ?_
  refine am_e1 (v := x) hi_122_4 rfl ?_
  refine am_e1 (v := y) hi_122_5 rfl ?_
  refine am_e1 (v := w) hi_122_6 rfl ?_
  refine am_e1 (v := z) hi_122_7 rfl ?_
  by_cases c1 : z.toInt = (0 : Int)
  · refine am_e12t hi_122_9 (am_cT (m := z.toInt) (n := (0 : Int)) rfl (by decide) c1) ?_
    refine am_e0 hi_122_16 ?_
    have h2 : c_w 24 = 0 := rfl
    refine am_e32n (as := [.ref 24, .int x, .int y, .int w, .int 0]) (la := [some (.ref 24), some (.int x), some (.int y), some (.int w), some (.int 0), none]) (rest := []) hi_122_17 (am_hd0 (M := 122) (by decide) 17) (Nat.le_of_ble_eq_true rfl) (Nat.le_of_ble_eq_true rfl) (show 5 ≤ am_P0.2.2.1 31 from by decide +kernel) rfl (cl_recv (h.1.s (24, 3) (by decide))) rfl rfl (ck_add (d := d) h (h.1.s (24, 3) (by decide)) (by decide)  ) ?_
    rintro v3 S4 ⟨r5, rfl, h6, h7, h8⟩
    have h7_ : iv S 24 1 ≤ iv S4 24 1 ∧ iv S4 24 1 ≤ iv S 24 1 + 1 := h7
    have h8_ : ∀ j, cl (am_fs S) j = some 3 → j ≠ 24 → iv S4 j 1 = iv S j 1 := h8
    obtain ⟨h10, h11, ⟨h12, h13, h14, h15⟩, ⟨h16, h17, h18⟩, h20⟩ := h6
    have h21 : kd aw S4 = kd aw S := kd_eq h12 h15
    have h22 := h8_ 8 (h.1.s (8, 3) (by decide)) (by decide)
    have h23 := h8_ 10 (h.1.s (10, 3) (by decide)) (by decide)
    have h24 := h8_ 14 (h.1.s (14, 3) (by decide)) (by decide)
    show am_E _ _ _ _ [some (.ref 23), some (.int x), some (.int y), some (.int w), some (.int z)] [.int r5] _ _
    refine am_e6i hi_122_20 ?_
    refine am_e35 hi_122_21 ?_
    exact ⟨rfl, ⟨h10, h11, ⟨(by show nx S4 = nx S; omega), (by show lv S4 = lv S; omega), (by show wr S4 = wr S; omega), h15⟩, ⟨h16, h17, (by show fl S4 = fl S; omega)⟩, (by show EN S4 ≤ EN S + (160); omega)⟩, (by show iv S4 8 1 = iv S 8 1; omega), (by show iv S4 10 1 = iv S 10 1; omega), (by show iv S4 14 1 = iv S 14 1; omega)⟩
  · refine am_e12f hi_122_9 (am_cF (m := z.toInt) (n := (0 : Int)) rfl (by decide) c1) ?_
    refine am_e0 hi_122_12 ?_
    refine am_e18 hi_122_13 ?_
    have h25 : c_w 24 = 0 := rfl
    refine am_e32n (as := [.ref 24, .int x, .int y, .int w, .int 1]) (la := [some (.ref 24), some (.int x), some (.int y), some (.int w), some (.int 1), none]) (rest := []) hi_122_17 (am_hd0 (M := 122) (by decide) 17) (Nat.le_of_ble_eq_true rfl) (Nat.le_of_ble_eq_true rfl) (show 5 ≤ am_P0.2.2.1 31 from by decide +kernel) rfl (cl_recv (h.1.s (24, 3) (by decide))) rfl rfl (ck_add (d := d) h (h.1.s (24, 3) (by decide)) (by decide)  ) ?_
    rintro v26 S27 ⟨r28, rfl, h29, h30, h31⟩
    have h30_ : iv S 24 1 ≤ iv S27 24 1 ∧ iv S27 24 1 ≤ iv S 24 1 + 1 := h30
    have h31_ : ∀ j, cl (am_fs S) j = some 3 → j ≠ 24 → iv S27 j 1 = iv S j 1 := h31
    obtain ⟨h33, h34, ⟨h35, h36, h37, h38⟩, ⟨h39, h40, h41⟩, h43⟩ := h29
    have h44 : kd aw S27 = kd aw S := kd_eq h35 h38
    have h45 := h31_ 8 (h.1.s (8, 3) (by decide)) (by decide)
    have h46 := h31_ 10 (h.1.s (10, 3) (by decide)) (by decide)
    have h47 := h31_ 14 (h.1.s (14, 3) (by decide)) (by decide)
    show am_E _ _ _ _ [some (.ref 23), some (.int x), some (.int y), some (.int w), some (.int z)] [.int r28] _ _
    refine am_e6i hi_122_20 ?_
    refine am_e35 hi_122_21 ?_
    exact ⟨rfl, ⟨h33, h34, ⟨(by show nx S27 = nx S; omega), (by show lv S27 = lv S; omega), (by show wr S27 = wr S; omega), h38⟩, ⟨h39, h40, (by show fl S27 = fl S; omega)⟩, (by show EN S27 ≤ EN S + (160); omega)⟩, (by show iv S27 8 1 = iv S 8 1; omega), (by show iv S27 10 1 = iv S 10 1; omega), (by show iv S27 14 1 = iv S 14 1; omega)⟩
theorem ck_addGoto {sc : Nat × (Nat → Int32)} {d aw : Nat} {S : am_S} {x : Int32} {y : Int32} {w : Int32} {z : Int32} (h : SH aw S) : am_E (am_PP sc) (d + 3) 127 0 [some (.ref 23), some (.int x), some (.int y), some (.int w), some (.int z)] [] S (am_N fun v S1 => v = none ∧ Qu aw (160) S S1 ∧ (iv S1 8 1 = iv S 8 1) ∧ (iv S1 10 1 = iv S 10 1) ∧ (iv S1 14 1 = iv S 14 1)) := by
  refine am_e2 (v := 23) hi_127_0 rfl ?_
  refine cm_20f (r := 26) h hi_127_1 (h.1.s (23, 9) (by decide)) (by decide) rfl ?_
  refine am_e1 (v := x) hi_127_4 rfl ?_
  refine am_e1 (v := y) hi_127_5 rfl ?_
  refine am_e1 (v := w) hi_127_6 rfl ?_
  refine am_e1 (v := z) hi_127_7 rfl ?_
  have h1 : c_w 26 = 0 := rfl
  refine am_e32n (as := [.ref 26, .int x, .int y, .int w, .int z]) (la := [some (.ref 26), some (.int x), some (.int y), some (.int w), some (.int z), none]) (rest := []) hi_127_9 (am_hd0 (M := 127) (by decide) 9) (Nat.le_of_ble_eq_true rfl) (Nat.le_of_ble_eq_true rfl) (show 5 ≤ am_P0.2.2.1 31 from by decide +kernel) rfl (cl_recv (h.1.s (26, 3) (by decide))) rfl rfl (ck_add (d := d) h (h.1.s (26, 3) (by decide)) (by decide)  ) ?_
  rintro v2 S3 ⟨r4, rfl, h5, h6, h7⟩
  have h6_ : iv S 26 1 ≤ iv S3 26 1 ∧ iv S3 26 1 ≤ iv S 26 1 + 1 := h6
  have h7_ : ∀ j, cl (am_fs S) j = some 3 → j ≠ 26 → iv S3 j 1 = iv S j 1 := h7
  obtain ⟨h9, h10, ⟨h11, h12, h13, h14⟩, ⟨h15, h16, h17⟩, h19⟩ := h5
  have h20 : kd aw S3 = kd aw S := kd_eq h11 h14
  have h21 := h7_ 8 (h.1.s (8, 3) (by decide)) (by decide)
  have h22 := h7_ 10 (h.1.s (10, 3) (by decide)) (by decide)
  have h23 := h7_ 14 (h.1.s (14, 3) (by decide)) (by decide)
  show am_E _ _ _ _ [some (.ref 23), some (.int x), some (.int y), some (.int w), some (.int z)] [.int r4] _ _
  refine am_e6i hi_127_12 ?_
  refine am_e35 hi_127_13 ?_
  exact ⟨rfl, ⟨h9, h10, ⟨(by show nx S3 = nx S; omega), (by show lv S3 = lv S; omega), (by show wr S3 = wr S; omega), h14⟩, ⟨h15, h16, (by show fl S3 = fl S; omega)⟩, (by show EN S3 ≤ EN S + (160); omega)⟩, (by show iv S3 8 1 = iv S 8 1; omega), (by show iv S3 10 1 = iv S 10 1; omega), (by show iv S3 14 1 = iv S 14 1; omega)⟩
theorem ck_openLoop {sc : Nat × (Nat → Int32)} {d aw : Nat} {S : am_S} {x : Int32} (h : SH aw S) : am_E (am_PP sc) (d + 3) 131 0 [some (.ref 23), some (.int x)] [] S (am_N fun v S1 => v = none ∧ Qu aw (160) S S1 ∧ (iv S1 8 1 = iv S 8 1) ∧ (iv S1 10 1 = iv S 10 1) ∧ (iv S1 14 1 = iv S 14 1)) := by
  refine am_e2 (v := 23) hi_131_0 rfl ?_
  refine cm_20f (r := 28) h hi_131_1 (h.1.s (23, 9) (by decide)) (by decide) rfl ?_
  refine am_e1 (v := x) hi_131_4 rfl ?_
  refine am_e2 (v := 23) hi_131_5 rfl ?_
  refine cm_20f (r := 30) h hi_131_6 (h.1.s (23, 9) (by decide)) (by decide) rfl ?_
  refine am_e32n (as := [.ref 30]) (la := [some (.ref 30)]) (rest := [.int x, .ref 28]) hi_131_9 (am_hd0 (M := 131) (by decide) 9) (Nat.le_of_ble_eq_true rfl) (Nat.le_of_ble_eq_true rfl) (show 1 ≤ am_P0.2.2.1 36 from by decide +kernel) rfl (cl_recv (h.1.s (30, 3) (by decide))) rfl rfl (ck_rows (d := (d + 2)) h (h.1.s (30, 3) (by decide))  ) ?_
  rintro v1 S2 ⟨r3, rfl, rfl, h5, h6, h7⟩
  have h5_ : r3.toInt = iv S 30 1 := h5
  have h6_ : 0 ≤ r3.toInt := h6
  have h7_ : r3.toInt ≤ 2097154 := h7
  show am_E _ _ _ _ [some (.ref 23), some (.int x)] [.int r3, .int x, .ref 28] _ _
  refine am_e0 hi_131_12 ?_
  refine am_e0 hi_131_13 ?_
  have h9 : c_w 28 = 0 := rfl
  refine am_e32n (as := [.ref 28, .int x, .int r3, .int 0, .int 0]) (la := [some (.ref 28), some (.int x), some (.int r3), some (.int 0), some (.int 0), none]) (rest := []) hi_131_14 (am_hd0 (M := 131) (by decide) 14) (Nat.le_of_ble_eq_true rfl) (Nat.le_of_ble_eq_true rfl) (show 5 ≤ am_P0.2.2.1 31 from by decide +kernel) rfl (cl_recv (h.1.s (28, 3) (by decide))) rfl rfl (ck_add (d := d) h (h.1.s (28, 3) (by decide)) (by decide)  ) ?_
  rintro v10 S11 ⟨r12, rfl, h13, h14, h15⟩
  have h14_ : iv S 28 1 ≤ iv S11 28 1 ∧ iv S11 28 1 ≤ iv S 28 1 + 1 := h14
  have h15_ : ∀ j, cl (am_fs S) j = some 3 → j ≠ 28 → iv S11 j 1 = iv S j 1 := h15
  obtain ⟨h17, h18, ⟨h19, h20, h21, h22⟩, ⟨h23, h24, h25⟩, h27⟩ := h13
  have h28 : kd aw S11 = kd aw S := kd_eq h19 h22
  have h29 := h15_ 8 (h.1.s (8, 3) (by decide)) (by decide)
  have h30 := h15_ 10 (h.1.s (10, 3) (by decide)) (by decide)
  have h31 := h15_ 14 (h.1.s (14, 3) (by decide)) (by decide)
  show am_E _ _ _ _ [some (.ref 23), some (.int x)] [.int r12] _ _
  refine am_e6i hi_131_17 ?_
  refine am_e35 hi_131_18 ?_
  exact ⟨rfl, ⟨h17, h18, ⟨(by show nx S11 = nx S; omega), (by show lv S11 = lv S; omega), (by show wr S11 = wr S; omega), h22⟩, ⟨h23, h24, (by show fl S11 = fl S; omega)⟩, (by show EN S11 ≤ EN S + (160); omega)⟩, (by show iv S11 8 1 = iv S 8 1; omega), (by show iv S11 10 1 = iv S 10 1; omega), (by show iv S11 14 1 = iv S 14 1; omega)⟩
theorem ck_addBreak {sc : Nat × (Nat → Int32)} {d aw : Nat} {S : am_S} {x : Int32} (h : SH aw S) : am_E (am_PP sc) (d + 3) 125 0 [some (.ref 23), some (.int x)] [] S (am_N fun v S1 => v = none ∧ Qu aw (160) S S1 ∧ (iv S1 8 1 = iv S 8 1) ∧ (iv S1 10 1 = iv S 10 1) ∧ (iv S1 14 1 = iv S 14 1)) := by
  refine am_e2 (v := 23) hi_125_0 rfl ?_
  refine cm_20f (r := 30) h hi_125_1 (h.1.s (23, 9) (by decide)) (by decide) rfl ?_
  refine am_e1 (v := x) hi_125_4 rfl ?_
  refine am_e0 hi_125_5 ?_
  refine am_e0 hi_125_6 ?_
  refine am_e0 hi_125_7 ?_
  have h1 : c_w 30 = 0 := rfl
  refine am_e32n (as := [.ref 30, .int x, .int 0, .int 0, .int 0]) (la := [some (.ref 30), some (.int x), some (.int 0), some (.int 0), some (.int 0), none]) (rest := []) hi_125_8 (am_hd0 (M := 125) (by decide) 8) (Nat.le_of_ble_eq_true rfl) (Nat.le_of_ble_eq_true rfl) (show 5 ≤ am_P0.2.2.1 31 from by decide +kernel) rfl (cl_recv (h.1.s (30, 3) (by decide))) rfl rfl (ck_add (d := d) h (h.1.s (30, 3) (by decide)) (by decide)  ) ?_
  rintro v2 S3 ⟨r4, rfl, h5, h6, h7⟩
  have h6_ : iv S 30 1 ≤ iv S3 30 1 ∧ iv S3 30 1 ≤ iv S 30 1 + 1 := h6
  have h7_ : ∀ j, cl (am_fs S) j = some 3 → j ≠ 30 → iv S3 j 1 = iv S j 1 := h7
  obtain ⟨h9, h10, ⟨h11, h12, h13, h14⟩, ⟨h15, h16, h17⟩, h19⟩ := h5
  have h20 : kd aw S3 = kd aw S := kd_eq h11 h14
  have h21 := h7_ 8 (h.1.s (8, 3) (by decide)) (by decide)
  have h22 := h7_ 10 (h.1.s (10, 3) (by decide)) (by decide)
  have h23 := h7_ 14 (h.1.s (14, 3) (by decide)) (by decide)
  show am_E _ _ _ _ [some (.ref 23), some (.int x)] [.int r4] _ _
  refine am_e6i hi_125_11 ?_
  refine am_e35 hi_125_12 ?_
  exact ⟨rfl, ⟨h9, h10, ⟨(by show nx S3 = nx S; omega), (by show lv S3 = lv S; omega), (by show wr S3 = wr S; omega), h14⟩, ⟨h15, h16, (by show fl S3 = fl S; omega)⟩, (by show EN S3 ≤ EN S + (160); omega)⟩, (by show iv S3 8 1 = iv S 8 1; omega), (by show iv S3 10 1 = iv S 10 1; omega), (by show iv S3 14 1 = iv S 14 1; omega)⟩
theorem ck_loopLocals {sc : Nat × (Nat → Int32)} {d aw : Nat} {S : am_S} (h : SH aw S) : am_E (am_PP sc) (d + 1) 124 0 [some (.ref 23)] [] S (am_N fun v S1 => ∃ r : Int32, v = some (.int r) ∧ S = S1) := by
  refine am_e2 (v := 23) hi_124_0 rfl ?_
  refine cm_20f (r := 28) h hi_124_1 (h.1.s (23, 9) (by decide)) (by decide) rfl ?_
  refine am_e2 (v := 23) hi_124_4 rfl ?_
  refine cm_20f (r := 28) h hi_124_5 (h.1.s (23, 9) (by decide)) (by decide) rfl ?_
  refine am_e32n (as := [.ref 28]) (la := [some (.ref 28)]) (rest := [.ref 28]) hi_124_8 (am_hd0 (M := 124) (by decide) 8) (Nat.le_of_ble_eq_true rfl) (Nat.le_of_ble_eq_true rfl) (show 1 ≤ am_P0.2.2.1 36 from by decide +kernel) rfl (cl_recv (h.1.s (28, 3) (by decide))) rfl rfl (ck_rows (d := d) h (h.1.s (28, 3) (by decide))  ) ?_
  rintro v1 S2 ⟨r3, rfl, rfl, h5, h6, h7⟩
  have h5_ : r3.toInt = iv S 28 1 := h5
  have h6_ : 0 ≤ r3.toInt := h6
  have h7_ : r3.toInt ≤ 2097154 := h7
  show am_E _ _ _ _ [some (.ref 23)] [.int r3, .ref 28] _ _
  refine am_e0 hi_124_11 ?_
  obtain ⟨z9, hz9, tz9⟩ := am_subI (x := r3) (y := 1) (m := r3.toInt) (n := (1 : Int)) rfl (by decide) (by omega) (by omega)
  refine am_e10 (z := z9) hi_124_12 hz9 ?_
  refine am_e0 hi_124_13 ?_
  refine am_e32n (as := [.ref 28, .int z9, .int 0]) (la := [some (.ref 28), some (.int z9), some (.int 0)]) (rest := []) hi_124_14 (am_hd0 (M := 124) (by decide) 14) (Nat.le_of_ble_eq_true rfl) (Nat.le_of_ble_eq_true rfl) (show 3 ≤ am_P0.2.2.1 54 from by decide +kernel) rfl (cl_recv (h.1.s (28, 3) (by decide))) rfl rfl (ck_get (d := d) h (h.1.s (28, 3) (by decide))  ) ?_
  rintro v10 S11 ⟨r12, rfl, rfl⟩
  show am_E _ _ _ _ [some (.ref 23)] [.int r12] _ _
  refine am_e33 hi_124_17 ?_
  exact ⟨r12, rfl, rfl⟩
theorem ck_lead {sc : Nat × (Nat → Int32)} {d aw : Nat} {S : am_S} {b : Nat} {x : Int32} {y : Int32} (h : SH aw S) (hc_b : cl (am_fs S) b = some 8) : am_E (am_PP sc) (d + 1) 85 0 [some (.ref 23), some (.ref b), some (.int x), some (.int y), none] [] S (am_N fun v S1 => v = none ∧ Sm aw S S1) := by
  refine am_e2 (v := 23) hi_85_0 rfl ?_
  refine cm_20f (r := 26) h hi_85_1 (h.1.s (23, 9) (by decide)) (by decide) rfl ?_
  refine am_e1 (v := x) hi_85_4 rfl ?_
  refine am_e0 hi_85_5 ?_
  refine am_e32n (as := [.ref 26, .int x, .int 2]) (la := [some (.ref 26), some (.int x), some (.int 2)]) (rest := []) hi_85_6 (am_hd0 (M := 85) (by decide) 6) (Nat.le_of_ble_eq_true rfl) (Nat.le_of_ble_eq_true rfl) (show 3 ≤ am_P0.2.2.1 54 from by decide +kernel) rfl (cl_recv (h.1.s (26, 3) (by decide))) rfl rfl (ck_get (d := d) h (h.1.s (26, 3) (by decide))  ) ?_
  rintro v1 S2 ⟨r3, rfl, rfl⟩
  show am_E _ _ _ _ [some (.ref 23), some (.ref b), some (.int x), some (.int y), none] [.int r3] _ _
  refine am_e3 (ls' := [some (.ref 23), some (.ref b), some (.int x), some (.int y), some (.int r3)]) hi_85_9 (Nat.le_of_ble_eq_true rfl) rfl ?_
  refine am_e2 (v := b) hi_85_11 rfl ?_
  refine cm_20t h hi_85_12 hc_b (by decide) rfl fun t6 ht6 ht6b => ?_
  refine am_e1 (v := r3) hi_85_15 rfl ?_
  refine am_e0 hi_85_17 ?_
  refine am_e2 (v := 23) hi_85_18 rfl ?_
  refine cm_20f (r := 24) h hi_85_19 (h.1.s (23, 9) (by decide)) (by decide) rfl ?_
  refine am_e1 (v := y) hi_85_22 rfl ?_
  refine am_e0 hi_85_23 ?_
  refine am_e32n (as := [.ref 24, .int y, .int 2]) (la := [some (.ref 24), some (.int y), some (.int 2)]) (rest := [.int 1, .int r3, .ref t6]) hi_85_24 (am_hd0 (M := 85) (by decide) 24) (Nat.le_of_ble_eq_true rfl) (Nat.le_of_ble_eq_true rfl) (show 3 ≤ am_P0.2.2.1 54 from by decide +kernel) rfl (cl_recv (h.1.s (24, 3) (by decide))) rfl rfl (ck_get (d := d) h (h.1.s (24, 3) (by decide))  ) ?_
  rintro v7 S8 ⟨r9, rfl, rfl⟩
  show am_E _ _ _ _ [some (.ref 23), some (.ref b), some (.int x), some (.int y), some (.int r3)] [.int r9, .int 1, .int r3, .ref t6] _ _
  refine am_e32n (as := [.ref t6, .int r3, .int 1, .int r9]) (la := [some (.ref t6), some (.int r3), some (.int 1), some (.int r9)]) (rest := []) hi_85_27 (am_hd0 (M := 85) (by decide) 27) (Nat.le_of_ble_eq_true rfl) (Nat.le_of_ble_eq_true rfl) (show 4 ≤ am_P0.2.2.1 86 from by decide +kernel) rfl (cl_recv ht6) rfl rfl (ck_set (d := d) h ht6 (bt_ne ht6b).1  ) ?_
  rintro v12 S13 ⟨rfl, h15⟩
  obtain ⟨h17, h18, ⟨h19, h20, h21, h22⟩, ⟨h23, h24, h25⟩, h26, h27⟩ := h15
  have h28 : kd aw S13 = kd aw S := kd_eq h19 h22
  have hk29 := h18.1 _ _ hc_b
  show am_E _ _ _ _ [some (.ref 23), some (.ref b), some (.int x), some (.int y), some (.int r3)] [] _ _
  refine am_e2 (v := b) hi_85_30 rfl ?_
  refine cm_20t h17 hi_85_31 hk29 (by decide) rfl fun t30 ht30 ht30b => ?_
  refine am_e1 (v := r3) hi_85_34 rfl ?_
  refine am_e0 hi_85_36 ?_
  obtain ⟨z31, hz31⟩ : ∃ q__, am_bin 0 r3 1 = q__ := ⟨_, rfl⟩
  refine am_e10 (z := z31) hi_85_37 hz31 ?_
  refine am_e0 hi_85_38 ?_
  refine am_e2 (v := 23) hi_85_39 rfl ?_
  refine cm_20f (r := 24) h17 hi_85_40 (h17.1.s (23, 9) (by decide)) (by decide) rfl ?_
  refine am_e1 (v := y) hi_85_43 rfl ?_
  refine am_e0 hi_85_44 ?_
  refine am_e32n (as := [.ref 24, .int y, .int 1]) (la := [some (.ref 24), some (.int y), some (.int 1)]) (rest := [.int 1, .int z31, .ref t30]) hi_85_45 (am_hd0 (M := 85) (by decide) 45) (Nat.le_of_ble_eq_true rfl) (Nat.le_of_ble_eq_true rfl) (show 3 ≤ am_P0.2.2.1 54 from by decide +kernel) rfl (cl_recv (h17.1.s (24, 3) (by decide))) rfl rfl (ck_get (d := d) h17 (h17.1.s (24, 3) (by decide))  ) ?_
  rintro v32 S33 ⟨r34, rfl, rfl⟩
  show am_E _ _ _ _ [some (.ref 23), some (.ref b), some (.int x), some (.int y), some (.int r3)] [.int r34, .int 1, .int z31, .ref t30] _ _
  refine am_e32n (as := [.ref t30, .int z31, .int 1, .int r34]) (la := [some (.ref t30), some (.int z31), some (.int 1), some (.int r34)]) (rest := []) hi_85_48 (am_hd0 (M := 85) (by decide) 48) (Nat.le_of_ble_eq_true rfl) (Nat.le_of_ble_eq_true rfl) (show 4 ≤ am_P0.2.2.1 86 from by decide +kernel) rfl (cl_recv ht30) rfl rfl (ck_set (d := d) h17 ht30 (bt_ne ht30b).1  ) ?_
  rintro v37 S38 ⟨rfl, h40⟩
  obtain ⟨h42, h43, ⟨h44, h45, h46, h47⟩, ⟨h48, h49, h50⟩, h51, h52⟩ := h40
  have h53 : kd aw S38 = kd aw S13 := kd_eq h44 h47
  have hk54 := h43.1 _ _ hk29
  show am_E _ _ _ _ [some (.ref 23), some (.ref b), some (.int x), some (.int y), some (.int r3)] [] _ _
  refine am_e2 (v := 23) hi_85_51 rfl ?_
  refine cm_20f (r := 24) h42 hi_85_52 (h42.1.s (23, 9) (by decide)) (by decide) rfl ?_
  refine am_e1 (v := y) hi_85_55 rfl ?_
  refine am_e0 hi_85_56 ?_
  refine am_e32n (as := [.ref 24, .int y, .int 2]) (la := [some (.ref 24), some (.int y), some (.int 2)]) (rest := []) hi_85_57 (am_hd0 (M := 85) (by decide) 57) (Nat.le_of_ble_eq_true rfl) (Nat.le_of_ble_eq_true rfl) (show 3 ≤ am_P0.2.2.1 54 from by decide +kernel) rfl (cl_recv (h42.1.s (24, 3) (by decide))) rfl rfl (ck_get (d := d) h42 (h42.1.s (24, 3) (by decide))  ) ?_
  rintro v55 S56 ⟨r57, rfl, rfl⟩
  show am_E _ _ _ _ [some (.ref 23), some (.ref b), some (.int x), some (.int y), some (.int r3)] [.int r57] _ _
  refine am_e2 (v := 23) hi_85_60 rfl ?_
  refine cm_20f (r := 26) h42 hi_85_61 (h42.1.s (23, 9) (by decide)) (by decide) rfl ?_
  refine am_e1 (v := x) hi_85_64 rfl ?_
  refine am_e0 hi_85_65 ?_
  refine am_e32n (as := [.ref 26, .int x, .int 3]) (la := [some (.ref 26), some (.int x), some (.int 3)]) (rest := [.int r57]) hi_85_66 (am_hd0 (M := 85) (by decide) 66) (Nat.le_of_ble_eq_true rfl) (Nat.le_of_ble_eq_true rfl) (show 3 ≤ am_P0.2.2.1 54 from by decide +kernel) rfl (cl_recv (h42.1.s (26, 3) (by decide))) rfl rfl (ck_get (d := d) h42 (h42.1.s (26, 3) (by decide))  ) ?_
  rintro v60 S61 ⟨r62, rfl, rfl⟩
  show am_E _ _ _ _ [some (.ref 23), some (.ref b), some (.int x), some (.int y), some (.int r3)] [.int r62, .int r57] _ _
  by_cases c65 : r57.toInt ≤ r62.toInt
  · refine am_e13t hi_85_69 (am_cT (m := r57.toInt) (n := r62.toInt) rfl rfl c65) ?_
    refine am_e35 hi_85_102 ?_
    exact ⟨rfl, ⟨h42, (h18.trans h43), ⟨(by show nx S38 = nx S; omega), (by show lv S38 = lv S; omega), (by show wr S38 = wr S; omega), (h47.trans h22)⟩, ⟨(h48.trans h23), (h49.trans h24), (by show fl S38 = fl S; omega)⟩, (fun t ht => ((h51 t (h18.1 _ _ ht)).trans (h26 t ht))), (by show EN S38 ≤ EN S; omega)⟩⟩
  · refine am_e13f hi_85_69 (am_cF (m := r57.toInt) (n := r62.toInt) rfl rfl c65) ?_
    refine am_e2 (v := 23) hi_85_72 rfl ?_
    refine cm_20f (r := 24) h42 hi_85_73 (h42.1.s (23, 9) (by decide)) (by decide) rfl ?_
    refine am_e1 (v := y) hi_85_76 rfl ?_
    refine am_e0 hi_85_77 ?_
    refine am_e32n (as := [.ref 24, .int y, .int 3]) (la := [some (.ref 24), some (.int y), some (.int 3)]) (rest := []) hi_85_78 (am_hd0 (M := 85) (by decide) 78) (Nat.le_of_ble_eq_true rfl) (Nat.le_of_ble_eq_true rfl) (show 3 ≤ am_P0.2.2.1 54 from by decide +kernel) rfl (cl_recv (h42.1.s (24, 3) (by decide))) rfl rfl (ck_get (d := d) h42 (h42.1.s (24, 3) (by decide))  ) ?_
    rintro v66 S67 ⟨r68, rfl, rfl⟩
    show am_E _ _ _ _ [some (.ref 23), some (.ref b), some (.int x), some (.int y), some (.int r3)] [.int r68] _ _
    by_cases c71 : ¬ r68.toInt = (0 : Int)
    · refine am_e12t hi_85_81 (am_cT (m := r68.toInt) (n := (0 : Int)) rfl (by decide) c71) ?_
      refine am_e35 hi_85_102 ?_
      exact ⟨rfl, ⟨h42, (h18.trans h43), ⟨(by show nx S38 = nx S; omega), (by show lv S38 = lv S; omega), (by show wr S38 = wr S; omega), (h47.trans h22)⟩, ⟨(h48.trans h23), (h49.trans h24), (by show fl S38 = fl S; omega)⟩, (fun t ht => ((h51 t (h18.1 _ _ ht)).trans (h26 t ht))), (by show EN S38 ≤ EN S; omega)⟩⟩
    · refine am_e12f hi_85_81 (am_cF (m := r68.toInt) (n := (0 : Int)) rfl (by decide) c71) ?_
      refine am_e2 (v := 23) hi_85_84 rfl ?_
      refine cm_20f (r := 1) h42 hi_85_85 (h42.1.s (23, 9) (by decide)) (by decide) rfl ?_
      refine am_e0 hi_85_88 ?_
      refine am_e2 (v := 23) hi_85_90 rfl ?_
      refine cm_20f (r := 26) h42 hi_85_91 (h42.1.s (23, 9) (by decide)) (by decide) rfl ?_
      refine am_e1 (v := x) hi_85_94 rfl ?_
      refine am_e0 hi_85_95 ?_
      refine am_e32n (as := [.ref 26, .int x, .int 1]) (la := [some (.ref 26), some (.int x), some (.int 1)]) (rest := [.int 14, .ref 1]) hi_85_96 (am_hd0 (M := 85) (by decide) 96) (Nat.le_of_ble_eq_true rfl) (Nat.le_of_ble_eq_true rfl) (show 3 ≤ am_P0.2.2.1 54 from by decide +kernel) rfl (cl_recv (h42.1.s (26, 3) (by decide))) rfl rfl (ck_get (d := d) h42 (h42.1.s (26, 3) (by decide))  ) ?_
      rintro v72 S73 ⟨r74, rfl, rfl⟩
      show am_E _ _ _ _ [some (.ref 23), some (.ref b), some (.int x), some (.int y), some (.int r3)] [.int r74, .int 14, .ref 1] _ _
      refine am_e32n (as := [.ref 1, .int 14, .int r74]) (la := [some (.ref 1), some (.int 14), some (.int r74)]) (rest := []) hi_85_99 (am_hd0 (M := 85) (by decide) 99) (Nat.le_of_ble_eq_true rfl) (Nat.le_of_ble_eq_true rfl) (show 3 ≤ am_P0.2.2.1 76 from by decide +kernel) rfl (cl_recv (h42.1.s (1, 1) (by decide))) rfl rfl (ck_note (d := d) h42   ) ?_
      rintro v77 S78 ⟨rfl, h80⟩
      obtain ⟨h82, h83, ⟨h84, h85, h86, h87⟩, ⟨h88, h89, h90⟩, h91, h92⟩ := h80
      have h93 : kd aw S78 = kd aw S38 := kd_eq h84 h87
      have hk94 := h83.1 _ _ hk54
      show am_E _ _ _ _ [some (.ref 23), some (.ref b), some (.int x), some (.int y), some (.int r3)] [] _ _
      refine am_e35 hi_85_102 ?_
      exact ⟨rfl, ⟨h82, ((h18.trans h43).trans h83), ⟨(by show nx S78 = nx S; omega), (by show lv S78 = lv S; omega), (by show wr S78 = wr S; omega), (h87.trans (h47.trans h22))⟩, ⟨(h88.trans (h48.trans h23)), (h89.trans (h49.trans h24)), (by show fl S78 = fl S; omega)⟩, (fun t ht => ((h91 t (h43.1 _ _ (h18.1 _ _ ht))).trans ((h51 t (h18.1 _ _ ht)).trans (h26 t ht)))), (by show EN S78 ≤ EN S; omega)⟩⟩
theorem ck_keep {sc : Nat × (Nat → Int32)} {d aw : Nat} {S : am_S} {x : Int32} {y : Int32} {w : Int32} (h : SH aw S) : am_E (am_PP sc) (d + 1) 87 0 [some (.ref 23), some (.int x), some (.int y), some (.int w)] [] S (am_N fun v S1 => v = none ∧ Sm aw S S1) := by
  refine am_e2 (v := 23) hi_87_0 rfl ?_
  refine cm_20f (r := 26) h hi_87_1 (h.1.s (23, 9) (by decide)) (by decide) rfl ?_
  refine am_e1 (v := y) hi_87_4 rfl ?_
  refine am_e0 hi_87_5 ?_
  refine am_e2 (v := 23) hi_87_6 rfl ?_
  refine cm_20f (r := 26) h hi_87_7 (h.1.s (23, 9) (by decide)) (by decide) rfl ?_
  refine am_e1 (v := x) hi_87_10 rfl ?_
  refine am_e0 hi_87_11 ?_
  refine am_e32n (as := [.ref 26, .int x, .int 0]) (la := [some (.ref 26), some (.int x), some (.int 0)]) (rest := [.int 0, .int y, .ref 26]) hi_87_12 (am_hd0 (M := 87) (by decide) 12) (Nat.le_of_ble_eq_true rfl) (Nat.le_of_ble_eq_true rfl) (show 3 ≤ am_P0.2.2.1 54 from by decide +kernel) rfl (cl_recv (h.1.s (26, 3) (by decide))) rfl rfl (ck_get (d := d) h (h.1.s (26, 3) (by decide))  ) ?_
  rintro v1 S2 ⟨r3, rfl, rfl⟩
  show am_E _ _ _ _ [some (.ref 23), some (.int x), some (.int y), some (.int w)] [.int r3, .int 0, .int y, .ref 26] _ _
  refine am_e32n (as := [.ref 26, .int y, .int 0, .int r3]) (la := [some (.ref 26), some (.int y), some (.int 0), some (.int r3)]) (rest := []) hi_87_15 (am_hd0 (M := 87) (by decide) 15) (Nat.le_of_ble_eq_true rfl) (Nat.le_of_ble_eq_true rfl) (show 4 ≤ am_P0.2.2.1 86 from by decide +kernel) rfl (cl_recv (h.1.s (26, 3) (by decide))) rfl rfl (ck_set (d := d) h (h.1.s (26, 3) (by decide)) (by decide)  ) ?_
  rintro v6 S7 ⟨rfl, h9⟩
  obtain ⟨h11, h12, ⟨h13, h14, h15, h16⟩, ⟨h17, h18, h19⟩, h20, h21⟩ := h9
  have h22 : kd aw S7 = kd aw S := kd_eq h13 h16
  show am_E _ _ _ _ [some (.ref 23), some (.int x), some (.int y), some (.int w)] [] _ _
  refine am_e2 (v := 23) hi_87_18 rfl ?_
  refine cm_20f (r := 26) h11 hi_87_19 (h11.1.s (23, 9) (by decide)) (by decide) rfl ?_
  refine am_e1 (v := y) hi_87_22 rfl ?_
  refine am_e0 hi_87_23 ?_
  refine am_e2 (v := 23) hi_87_24 rfl ?_
  refine cm_20f (r := 26) h11 hi_87_25 (h11.1.s (23, 9) (by decide)) (by decide) rfl ?_
  refine am_e1 (v := x) hi_87_28 rfl ?_
  refine am_e0 hi_87_29 ?_
  refine am_e32n (as := [.ref 26, .int x, .int 1]) (la := [some (.ref 26), some (.int x), some (.int 1)]) (rest := [.int 1, .int y, .ref 26]) hi_87_30 (am_hd0 (M := 87) (by decide) 30) (Nat.le_of_ble_eq_true rfl) (Nat.le_of_ble_eq_true rfl) (show 3 ≤ am_P0.2.2.1 54 from by decide +kernel) rfl (cl_recv (h11.1.s (26, 3) (by decide))) rfl rfl (ck_get (d := d) h11 (h11.1.s (26, 3) (by decide))  ) ?_
  rintro v23 S24 ⟨r25, rfl, rfl⟩
  show am_E _ _ _ _ [some (.ref 23), some (.int x), some (.int y), some (.int w)] [.int r25, .int 1, .int y, .ref 26] _ _
  refine am_e32n (as := [.ref 26, .int y, .int 1, .int r25]) (la := [some (.ref 26), some (.int y), some (.int 1), some (.int r25)]) (rest := []) hi_87_33 (am_hd0 (M := 87) (by decide) 33) (Nat.le_of_ble_eq_true rfl) (Nat.le_of_ble_eq_true rfl) (show 4 ≤ am_P0.2.2.1 86 from by decide +kernel) rfl (cl_recv (h11.1.s (26, 3) (by decide))) rfl rfl (ck_set (d := d) h11 (h11.1.s (26, 3) (by decide)) (by decide)  ) ?_
  rintro v28 S29 ⟨rfl, h31⟩
  obtain ⟨h33, h34, ⟨h35, h36, h37, h38⟩, ⟨h39, h40, h41⟩, h42, h43⟩ := h31
  have h44 : kd aw S29 = kd aw S7 := kd_eq h35 h38
  show am_E _ _ _ _ [some (.ref 23), some (.int x), some (.int y), some (.int w)] [] _ _
  refine am_e2 (v := 23) hi_87_36 rfl ?_
  refine cm_20f (r := 26) h33 hi_87_37 (h33.1.s (23, 9) (by decide)) (by decide) rfl ?_
  refine am_e1 (v := y) hi_87_40 rfl ?_
  refine am_e0 hi_87_41 ?_
  refine am_e2 (v := 23) hi_87_42 rfl ?_
  refine cm_20f (r := 26) h33 hi_87_43 (h33.1.s (23, 9) (by decide)) (by decide) rfl ?_
  refine am_e1 (v := x) hi_87_46 rfl ?_
  refine am_e0 hi_87_47 ?_
  refine am_e32n (as := [.ref 26, .int x, .int 2]) (la := [some (.ref 26), some (.int x), some (.int 2)]) (rest := [.int 2, .int y, .ref 26]) hi_87_48 (am_hd0 (M := 87) (by decide) 48) (Nat.le_of_ble_eq_true rfl) (Nat.le_of_ble_eq_true rfl) (show 3 ≤ am_P0.2.2.1 54 from by decide +kernel) rfl (cl_recv (h33.1.s (26, 3) (by decide))) rfl rfl (ck_get (d := d) h33 (h33.1.s (26, 3) (by decide))  ) ?_
  rintro v45 S46 ⟨r47, rfl, rfl⟩
  show am_E _ _ _ _ [some (.ref 23), some (.int x), some (.int y), some (.int w)] [.int r47, .int 2, .int y, .ref 26] _ _
  refine am_e32n (as := [.ref 26, .int y, .int 2, .int r47]) (la := [some (.ref 26), some (.int y), some (.int 2), some (.int r47)]) (rest := []) hi_87_51 (am_hd0 (M := 87) (by decide) 51) (Nat.le_of_ble_eq_true rfl) (Nat.le_of_ble_eq_true rfl) (show 4 ≤ am_P0.2.2.1 86 from by decide +kernel) rfl (cl_recv (h33.1.s (26, 3) (by decide))) rfl rfl (ck_set (d := d) h33 (h33.1.s (26, 3) (by decide)) (by decide)  ) ?_
  rintro v50 S51 ⟨rfl, h53⟩
  obtain ⟨h55, h56, ⟨h57, h58, h59, h60⟩, ⟨h61, h62, h63⟩, h64, h65⟩ := h53
  have h66 : kd aw S51 = kd aw S29 := kd_eq h57 h60
  show am_E _ _ _ _ [some (.ref 23), some (.int x), some (.int y), some (.int w)] [] _ _
  refine am_e2 (v := 23) hi_87_54 rfl ?_
  refine cm_20f (r := 26) h55 hi_87_55 (h55.1.s (23, 9) (by decide)) (by decide) rfl ?_
  refine am_e1 (v := y) hi_87_58 rfl ?_
  refine am_e0 hi_87_59 ?_
  refine am_e2 (v := 23) hi_87_60 rfl ?_
  refine cm_20f (r := 26) h55 hi_87_61 (h55.1.s (23, 9) (by decide)) (by decide) rfl ?_
  refine am_e1 (v := x) hi_87_64 rfl ?_
  refine am_e0 hi_87_65 ?_
  refine am_e32n (as := [.ref 26, .int x, .int 3]) (la := [some (.ref 26), some (.int x), some (.int 3)]) (rest := [.int 3, .int y, .ref 26]) hi_87_66 (am_hd0 (M := 87) (by decide) 66) (Nat.le_of_ble_eq_true rfl) (Nat.le_of_ble_eq_true rfl) (show 3 ≤ am_P0.2.2.1 54 from by decide +kernel) rfl (cl_recv (h55.1.s (26, 3) (by decide))) rfl rfl (ck_get (d := d) h55 (h55.1.s (26, 3) (by decide))  ) ?_
  rintro v67 S68 ⟨r69, rfl, rfl⟩
  show am_E _ _ _ _ [some (.ref 23), some (.int x), some (.int y), some (.int w)] [.int r69, .int 3, .int y, .ref 26] _ _
  refine am_e1 (v := w) hi_87_69 rfl ?_
  refine am_e32n (as := [.int r69, .int w]) (la := [some (.int r69), some (.int w)]) (rest := [.int 3, .int y, .ref 26]) hi_87_70 (am_hd0 (M := 87) (by decide) 70) (Nat.le_of_ble_eq_true rfl) (Nat.le_of_ble_eq_true rfl) (show 2 ≤ am_P0.2.2.1 24 from by decide +kernel) rfl rfl rfl rfl (ck_min (d := d) h55   ) ?_
  rintro v72 S73 ⟨r74, rfl, rfl, h76, h77, h78⟩
  have h76_ : r74.toInt ≤ r69.toInt := h76
  have h77_ : r74.toInt ≤ w.toInt := h77
  have h78_ : r74.toInt = r69.toInt ∨ r74.toInt = w.toInt := h78
  show am_E _ _ _ _ [some (.ref 23), some (.int x), some (.int y), some (.int w)] [.int r74, .int 3, .int y, .ref 26] _ _
  refine am_e32n (as := [.ref 26, .int y, .int 3, .int r74]) (la := [some (.ref 26), some (.int y), some (.int 3), some (.int r74)]) (rest := []) hi_87_73 (am_hd0 (M := 87) (by decide) 73) (Nat.le_of_ble_eq_true rfl) (Nat.le_of_ble_eq_true rfl) (show 4 ≤ am_P0.2.2.1 86 from by decide +kernel) rfl (cl_recv (h55.1.s (26, 3) (by decide))) rfl rfl (ck_set (d := d) h55 (h55.1.s (26, 3) (by decide)) (by decide)  ) ?_
  rintro v80 S81 ⟨rfl, h83⟩
  obtain ⟨h85, h86, ⟨h87, h88, h89, h90⟩, ⟨h91, h92, h93⟩, h94, h95⟩ := h83
  have h96 : kd aw S81 = kd aw S51 := kd_eq h87 h90
  show am_E _ _ _ _ [some (.ref 23), some (.int x), some (.int y), some (.int w)] [] _ _
  refine am_e35 hi_87_76 ?_
  exact ⟨rfl, ⟨h85, (((h12.trans h34).trans h56).trans h86), ⟨(by show nx S81 = nx S; omega), (by show lv S81 = lv S; omega), (by show wr S81 = wr S; omega), (h90.trans (h60.trans (h38.trans h16)))⟩, ⟨(h91.trans (h61.trans (h39.trans h17))), (h92.trans (h62.trans (h40.trans h18))), (by show fl S81 = fl S; omega)⟩, (fun t ht => ((h94 t (h56.1 _ _ (h34.1 _ _ (h12.1 _ _ ht)))).trans ((h64 t (h34.1 _ _ (h12.1 _ _ ht))).trans ((h42 t (h12.1 _ _ ht)).trans (h20 t ht))))), (by show EN S81 ≤ EN S; omega)⟩⟩
theorem ck_leadHere {sc : Nat × (Nat → Int32)} {d aw : Nat} {S : am_S} {b : Nat} {x : Int32} {y : Int32} (h : SH aw S) (hc_b : cl (am_fs S) b = some 8) : am_E (am_PP sc) (d + 1) 109 0 [some (.ref b), some (.int x), some (.int y)] [] S (am_N fun v S1 => v = none ∧ Sm aw S S1) := by
  refine am_e2 (v := b) hi_109_0 rfl ?_
  refine cm_20t h hi_109_1 hc_b (by decide) rfl fun t1 ht1 ht1b => ?_
  refine am_e1 (v := x) hi_109_4 rfl ?_
  refine am_e1 (v := y) hi_109_5 rfl ?_
  refine am_e2 (v := b) hi_109_6 rfl ?_
  refine cm_20t h hi_109_7 hc_b (by decide) rfl fun t2 ht2 ht2b => ?_
  refine am_e32n (as := [.ref t2]) (la := [some (.ref t2)]) (rest := [.int y, .int x, .ref t1]) hi_109_10 (am_hd0 (M := 109) (by decide) 10) (Nat.le_of_ble_eq_true rfl) (Nat.le_of_ble_eq_true rfl) (show 1 ≤ am_P0.2.2.1 36 from by decide +kernel) rfl (cl_recv ht2) rfl rfl (ck_rows (d := d) h ht2  ) ?_
  rintro v3 S4 ⟨r5, rfl, rfl, h7, h8, h9⟩
  have h7_ : r5.toInt = iv S t2 1 := h7
  have h8_ : 0 ≤ r5.toInt := h8
  have h9_ : r5.toInt ≤ 2097154 := h9
  show am_E _ _ _ _ [some (.ref b), some (.int x), some (.int y)] [.int r5, .int y, .int x, .ref t1] _ _
  refine am_e32n (as := [.ref t1, .int x, .int y, .int r5]) (la := [some (.ref t1), some (.int x), some (.int y), some (.int r5)]) (rest := []) hi_109_13 (am_hd0 (M := 109) (by decide) 13) (Nat.le_of_ble_eq_true rfl) (Nat.le_of_ble_eq_true rfl) (show 4 ≤ am_P0.2.2.1 86 from by decide +kernel) rfl (cl_recv ht1) rfl rfl (ck_set (d := d) h ht1 (bt_ne ht1b).1  ) ?_
  rintro v11 S12 ⟨rfl, h14⟩
  obtain ⟨h16, h17, ⟨h18, h19, h20, h21⟩, ⟨h22, h23, h24⟩, h25, h26⟩ := h14
  have h27 : kd aw S12 = kd aw S := kd_eq h18 h21
  have hk28 := h17.1 _ _ hc_b
  show am_E _ _ _ _ [some (.ref b), some (.int x), some (.int y)] [] _ _
  refine am_e35 hi_109_16 ?_
  exact ⟨rfl, ⟨h16, h17, ⟨(by show nx S12 = nx S; omega), (by show lv S12 = lv S; omega), (by show wr S12 = wr S; omega), h21⟩, ⟨h22, h23, (by show fl S12 = fl S; omega)⟩, (fun t ht => (h25 t ht)), (by show EN S12 ≤ EN S; omega)⟩⟩
theorem cf_closeBlock {sc : Nat × (Nat → Int32)} {d aw : Nat} {Sb : am_S} {b : Nat} {fa : Int32} {fg : Int32} {lo : Int32} {Q : Option (Option Value) → am_S → Prop} (h : SH aw Sb) (hc_b : cl (am_fs Sb) b = some 8) (hx0 : ∀ (S : am_S) (x7 : Option Value) (kk i : Int32), Sm aw Sb S → am_E (am_PP sc) (d + 2) 83 71 [some (.ref 23), some (.ref b), some (.int fa), some (.int fg), some (.int lo), some (.int kk), some (.int i), x7] [] S Q) : ∀ (N : Nat) (S : am_S) (x7 : Option Value) (kk i : Int32), Sm aw Sb S → 2147483647 - i.toInt < (N : Int) → am_E (am_PP sc) (d + 2) 83 6 [some (.ref 23), some (.ref b), some (.int fa), some (.int fg), some (.int lo), some (.int kk), some (.int i), x7] [] S Q := by
  intro N
  induction N with
  | zero =>
    intro S x7 kk i hrel   hN
    have := i32_le kk
    have := i32_le i
    have := i32_ge kk
    have := i32_ge i
    exfalso
    omega
  | succ N ih =>
    intro S x7 kk i hrel   hN
    have hl_kk := i32_le kk
    have hg_kk := i32_ge kk
    have hl_i := i32_le i
    have hg_i := i32_ge i
    obtain ⟨h1, h2, ⟨h3, h4, h5, h6⟩, ⟨h7, h8, h9⟩, h10, h11⟩ := hrel
    have h12 : kd aw S = kd aw Sb := kd_eq h3 h6
    have hk13 := h2.1 _ _ hc_b
    refine am_e1 (v := i) hi_83_6 rfl ?_
    refine am_e2 (v := 23) hi_83_8 rfl ?_
    refine cm_20f (r := 26) h1 hi_83_9 (h1.1.s (23, 9) (by decide)) (by decide) rfl ?_
    refine am_e32n (as := [.ref 26]) (la := [some (.ref 26)]) (rest := [.int i]) hi_83_12 (am_hd0 (M := 83) (by decide) 12) (Nat.le_of_ble_eq_true rfl) (Nat.le_of_ble_eq_true rfl) (show 1 ≤ am_P0.2.2.1 36 from by decide +kernel) rfl (cl_recv (h1.1.s (26, 3) (by decide))) rfl rfl (ck_rows (d := (d + 1)) h1 (h1.1.s (26, 3) (by decide))  ) ?_
    rintro v14 S15 ⟨r16, rfl, rfl, h18, h19, h20⟩
    have h18_ : r16.toInt = iv S 26 1 := h18
    have h19_ : 0 ≤ r16.toInt := h19
    have h20_ : r16.toInt ≤ 2097154 := h20
    show am_E _ _ _ _ [some (.ref 23), some (.ref b), some (.int fa), some (.int fg), some (.int lo), some (.int kk), some (.int i), x7] [.int r16, .int i] _ _
    by_cases c22 : r16.toInt ≤ i.toInt
    · refine am_e13t hi_83_15 (am_cT (m := i.toInt) (n := r16.toInt) rfl rfl c22) ?_
      exact hx0 _ x7 kk i ⟨h1, h2, ⟨(by show nx S = nx Sb; omega), (by show lv S = lv Sb; omega), (by show wr S = wr Sb; omega), h6⟩, ⟨h7, h8, (by show fl S = fl Sb; omega)⟩, (fun t ht => (h10 t ht)), (by show EN S ≤ EN Sb; omega)⟩
    · refine am_e13f hi_83_15 (am_cF (m := i.toInt) (n := r16.toInt) rfl rfl c22) ?_
      refine am_e2 (v := 23) hi_83_18 rfl ?_
      refine am_e2 (v := 23) hi_83_19 rfl ?_
      refine cm_20f (r := 26) h1 hi_83_20 (h1.1.s (23, 9) (by decide)) (by decide) rfl ?_
      refine am_e1 (v := i) hi_83_23 rfl ?_
      refine am_e0 hi_83_25 ?_
      refine am_e32n (as := [.ref 26, .int i, .int 0]) (la := [some (.ref 26), some (.int i), some (.int 0)]) (rest := [.ref 23]) hi_83_26 (am_hd0 (M := 83) (by decide) 26) (Nat.le_of_ble_eq_true rfl) (Nat.le_of_ble_eq_true rfl) (show 3 ≤ am_P0.2.2.1 54 from by decide +kernel) rfl (cl_recv (h1.1.s (26, 3) (by decide))) rfl rfl (ck_get (d := (d + 1)) h1 (h1.1.s (26, 3) (by decide))  ) ?_
      rintro v23 S24 ⟨r25, rfl, rfl⟩
      show am_E _ _ _ _ [some (.ref 23), some (.ref b), some (.int fa), some (.int fg), some (.int lo), some (.int kk), some (.int i), x7] [.int r25, .ref 23] _ _
      refine am_e1 (v := fa) hi_83_29 rfl ?_
      refine am_e32n (as := [.ref 23, .int r25, .int fa]) (la := [some (.ref 23), some (.int r25), some (.int fa), none]) (rest := []) hi_83_30 (am_hd0 (M := 83) (by decide) 30) (Nat.le_of_ble_eq_true rfl) (Nat.le_of_ble_eq_true rfl) (show 3 ≤ am_P0.2.2.1 84 from by decide +kernel) rfl (cl_recv (h1.1.s (23, 9) (by decide))) rfl rfl (ck_labelOf (d := d) h1   ) ?_
      rintro v28 S29 ⟨r30, rfl, rfl⟩
      show am_E _ _ _ _ [some (.ref 23), some (.ref b), some (.int fa), some (.int fg), some (.int lo), some (.int kk), some (.int i), x7] [.int r30] _ _
      refine am_e3 (ls' := [some (.ref 23), some (.ref b), some (.int fa), some (.int fg), some (.int lo), some (.int kk), some (.int i), some (.int r30)]) hi_83_33 (Nat.le_of_ble_eq_true rfl) rfl ?_
      refine am_e1 (v := r30) hi_83_35 rfl ?_
      by_cases c33 : r30.toInt < (0 : Int)
      · refine am_e12t hi_83_37 (am_cT (m := r30.toInt) (n := (0 : Int)) rfl (by decide) c33) ?_
        refine am_e2 (v := 23) hi_83_52 rfl ?_
        refine am_e1 (v := i) hi_83_53 rfl ?_
        refine am_e1 (v := kk) hi_83_55 rfl ?_
        refine am_e1 (v := lo) hi_83_57 rfl ?_
        refine am_e32n (as := [.ref 23, .int i, .int kk, .int lo]) (la := [some (.ref 23), some (.int i), some (.int kk), some (.int lo)]) (rest := []) hi_83_59 (am_hd0 (M := 83) (by decide) 59) (Nat.le_of_ble_eq_true rfl) (Nat.le_of_ble_eq_true rfl) (show 4 ≤ am_P0.2.2.1 87 from by decide +kernel) rfl (cl_recv (h1.1.s (23, 9) (by decide))) rfl rfl (ck_keep (d := d) h1   ) ?_
        rintro v34 S35 ⟨rfl, h37⟩
        obtain ⟨h39, h40, ⟨h41, h42, h43, h44⟩, ⟨h45, h46, h47⟩, h48, h49⟩ := h37
        have h50 : kd aw S35 = kd aw S := kd_eq h41 h44
        have hk51 := h40.1 _ _ hk13
        show am_E _ _ _ _ [some (.ref 23), some (.ref b), some (.int fa), some (.int fg), some (.int lo), some (.int kk), some (.int i), some (.int r30)] [] _ _
        obtain ⟨z52, hz52⟩ : ∃ q__, am_bin 0 kk 1 = q__ := ⟨_, rfl⟩
        refine am_e5 (v := kk) (z := z52) (ls' := [some (.ref 23), some (.ref b), some (.int fa), some (.int fg), some (.int lo), some (.int z52), some (.int i), some (.int r30)]) hi_83_62 rfl hz52 rfl ?_
        obtain ⟨z53, hz53, tz53⟩ := am_addI (x := i) (y := 1) (m := i.toInt) (n := (1 : Int)) rfl (by decide) (by omega) (by omega)
        refine am_e5 (v := i) (z := z53) (ls' := [some (.ref 23), some (.ref b), some (.int fa), some (.int fg), some (.int lo), some (.int z52), some (.int z53), some (.int r30)]) hi_83_65 rfl hz53 rfl ?_
        refine am_e18 hi_83_68 ?_
        exact ih _ (some (.int r30)) z52 z53 ⟨h39, (h2.trans h40), ⟨(by show nx S35 = nx Sb; omega), (by show lv S35 = lv Sb; omega), (by show wr S35 = wr Sb; omega), (h44.trans h6)⟩, ⟨(h45.trans h7), (h46.trans h8), (by show fl S35 = fl Sb; omega)⟩, (fun t ht => ((h48 t (h2.1 _ _ ht)).trans (h10 t ht))), (by show EN S35 ≤ EN Sb; omega)⟩ (by show 2147483647 - z53.toInt < (N : Int); omega)
      · refine am_e12f hi_83_37 (am_cF (m := r30.toInt) (n := (0 : Int)) rfl (by decide) c33) ?_
        refine am_e2 (v := 23) hi_83_40 rfl ?_
        refine am_e2 (v := b) hi_83_41 rfl ?_
        refine am_e1 (v := i) hi_83_42 rfl ?_
        refine am_e1 (v := r30) hi_83_44 rfl ?_
        refine am_e32n (as := [.ref 23, .ref b, .int i, .int r30]) (la := [some (.ref 23), some (.ref b), some (.int i), some (.int r30), none]) (rest := []) hi_83_46 (am_hd0 (M := 83) (by decide) 46) (Nat.le_of_ble_eq_true rfl) (Nat.le_of_ble_eq_true rfl) (show 4 ≤ am_P0.2.2.1 85 from by decide +kernel) rfl (cl_recv (h1.1.s (23, 9) (by decide))) rfl rfl (ck_lead (d := d) h1 hk13  ) ?_
        rintro v54 S55 ⟨rfl, h57⟩
        obtain ⟨h59, h60, ⟨h61, h62, h63, h64⟩, ⟨h65, h66, h67⟩, h68, h69⟩ := h57
        have h70 : kd aw S55 = kd aw S := kd_eq h61 h64
        have hk71 := h60.1 _ _ hk13
        show am_E _ _ _ _ [some (.ref 23), some (.ref b), some (.int fa), some (.int fg), some (.int lo), some (.int kk), some (.int i), some (.int r30)] [] _ _
        refine am_e18 hi_83_49 ?_
        obtain ⟨z72, hz72, tz72⟩ := am_addI (x := i) (y := 1) (m := i.toInt) (n := (1 : Int)) rfl (by decide) (by omega) (by omega)
        refine am_e5 (v := i) (z := z72) (ls' := [some (.ref 23), some (.ref b), some (.int fa), some (.int fg), some (.int lo), some (.int kk), some (.int z72), some (.int r30)]) hi_83_65 rfl hz72 rfl ?_
        refine am_e18 hi_83_68 ?_
        exact ih _ (some (.int r30)) kk z72 ⟨h59, (h2.trans h60), ⟨(by show nx S55 = nx Sb; omega), (by show lv S55 = lv Sb; omega), (by show wr S55 = wr Sb; omega), (h64.trans h6)⟩, ⟨(h65.trans h7), (h66.trans h8), (by show fl S55 = fl Sb; omega)⟩, (fun t ht => ((h68 t (h2.1 _ _ ht)).trans (h10 t ht))), (by show EN S55 ≤ EN Sb; omega)⟩ (by show 2147483647 - z72.toInt < (N : Int); omega)
theorem ck_jcloseBlock {sc : Nat × (Nat → Int32)} {d aw : Nat} {S : am_S} {b : Nat} {fa : Int32} {fg : Int32} {lo : Int32} (h : SH aw S) (hc_b : cl (am_fs S) b = some 8) : am_E (am_PP sc) (d + 2) 83 0 [some (.ref 23), some (.ref b), some (.int fa), some (.int fg), some (.int lo), none, none, none] [] S (am_N fun v S1 => v = none ∧ Qu aw (0) S S1 ∧ (iv S1 8 1 = iv S 8 1) ∧ (iv S1 10 1 = iv S 10 1) ∧ (iv S1 14 1 = iv S 14 1)) := by
  refine am_e1 (v := fg) hi_83_0 rfl ?_
  refine am_e3 (ls' := [some (.ref 23), some (.ref b), some (.int fa), some (.int fg), some (.int lo), some (.int fg), none, none]) hi_83_1 (Nat.le_of_ble_eq_true rfl) rfl ?_
  refine am_e1 (v := fg) hi_83_3 rfl ?_
  refine am_e3 (ls' := [some (.ref 23), some (.ref b), some (.int fa), some (.int fg), some (.int lo), some (.int fg), some (.int fg), none]) hi_83_4 (Nat.le_of_ble_eq_true rfl) rfl ?_
  refine cf_closeBlock (d := d) (Sb := S) (b := b) (fa := fa) (fg := fg) (lo := lo) h hc_b   ?_ ((2147483647 - fg.toInt).toNat + 1) S none fg fg (Sm.refl h) (by show 2147483647 - fg.toInt < _; omega)
  · intro S3 x75 kk1 i2 h4
    obtain ⟨h6, h7, ⟨h8, h9, h10, h11⟩, ⟨h12, h13, h14⟩, h15, h16⟩ := h4
    have h17 : kd aw S3 = kd aw S := kd_eq h8 h11
    have h18 := h15 8 (h.1.s (8, 3) (by decide))
    have h19 := h15 10 (h.1.s (10, 3) (by decide))
    have h20 := h15 14 (h.1.s (14, 3) (by decide))
    have hk21 := h7.1 _ _ hc_b
    show am_E _ _ _ _ [some (.ref 23), some (.ref b), some (.int fa), some (.int fg), some (.int lo), some (.int kk1), some (.int i2), x75] [] _ _
    refine am_e2 (v := 23) hi_83_71 rfl ?_
    refine cm_20f (r := 26) h6 hi_83_72 (h6.1.s (23, 9) (by decide)) (by decide) rfl ?_
    refine am_e1 (v := kk1) hi_83_75 rfl ?_
    refine am_e32n (as := [.ref 26, .int kk1]) (la := [some (.ref 26), some (.int kk1)]) (rest := []) hi_83_77 (am_hd0 (M := 83) (by decide) 77) (Nat.le_of_ble_eq_true rfl) (Nat.le_of_ble_eq_true rfl) (show 2 ≤ am_P0.2.2.1 30 from by decide +kernel) rfl (cl_recv (h6.1.s (26, 3) (by decide))) rfl rfl (ck_cut (d := (d + 1)) h6 (h6.1.s (26, 3) (by decide)) (by decide)  ) ?_
    rintro v22 S23 ⟨rfl, h25, h26, h27, h28⟩
    have h26_ : (0 ≤ kk1.toInt ∧ kk1.toInt < iv S3 26 1 ∧ iv S23 26 1 = kk1.toInt) ∨ ((kk1.toInt < 0 ∨ iv S3 26 1 ≤ kk1.toInt) ∧ iv S23 26 1 = iv S3 26 1) := h26
    have h27_ : EN S23 ≤ EN S3 + c_w 26 * (iv S23 26 1 - iv S3 26 1) := h27
    have h28_ : ∀ j, cl (am_fs S3) j = some 3 → j ≠ 26 → iv S23 j 1 = iv S3 j 1 := h28
    obtain ⟨h30, h31, ⟨h32, h33, h34, h35⟩, ⟨h36, h37, h38⟩⟩ := h25
    have h41 : kd aw S23 = kd aw S3 := kd_eq h32 h35
    have hk42 := h31.1 _ _ hk21
    have h43 := h28_ 8 (h6.1.s (8, 3) (by decide)) (by decide)
    have h44 := h28_ 10 (h6.1.s (10, 3) (by decide)) (by decide)
    have h45 := h28_ 14 (h6.1.s (14, 3) (by decide)) (by decide)
    have h46 : EN S23 ≤ EN S3 := by have q := h27_; rw [show c_w 26 = 0 from rfl, Int.zero_mul] at q; omega
    show am_E _ _ _ _ [some (.ref 23), some (.ref b), some (.int fa), some (.int fg), some (.int lo), some (.int kk1), some (.int i2), x75] [] _ _
    refine am_e2 (v := 23) hi_83_80 rfl ?_
    refine cm_20f (r := 24) h30 hi_83_81 (h30.1.s (23, 9) (by decide)) (by decide) rfl ?_
    refine am_e1 (v := fa) hi_83_84 rfl ?_
    refine am_e32n (as := [.ref 24, .int fa]) (la := [some (.ref 24), some (.int fa)]) (rest := []) hi_83_85 (am_hd0 (M := 83) (by decide) 85) (Nat.le_of_ble_eq_true rfl) (Nat.le_of_ble_eq_true rfl) (show 2 ≤ am_P0.2.2.1 30 from by decide +kernel) rfl (cl_recv (h30.1.s (24, 3) (by decide))) rfl rfl (ck_cut (d := (d + 1)) h30 (h30.1.s (24, 3) (by decide)) (by decide)  ) ?_
    rintro v47 S48 ⟨rfl, h50, h51, h52, h53⟩
    have h51_ : (0 ≤ fa.toInt ∧ fa.toInt < iv S23 24 1 ∧ iv S48 24 1 = fa.toInt) ∨ ((fa.toInt < 0 ∨ iv S23 24 1 ≤ fa.toInt) ∧ iv S48 24 1 = iv S23 24 1) := h51
    have h52_ : EN S48 ≤ EN S23 + c_w 24 * (iv S48 24 1 - iv S23 24 1) := h52
    have h53_ : ∀ j, cl (am_fs S23) j = some 3 → j ≠ 24 → iv S48 j 1 = iv S23 j 1 := h53
    obtain ⟨h55, h56, ⟨h57, h58, h59, h60⟩, ⟨h61, h62, h63⟩⟩ := h50
    have h66 : kd aw S48 = kd aw S23 := kd_eq h57 h60
    have hk67 := h56.1 _ _ hk42
    have h68 := h53_ 8 (h30.1.s (8, 3) (by decide)) (by decide)
    have h69 := h53_ 10 (h30.1.s (10, 3) (by decide)) (by decide)
    have h70 := h53_ 14 (h30.1.s (14, 3) (by decide)) (by decide)
    have h71 : EN S48 ≤ EN S23 := by have q := h52_; rw [show c_w 24 = 0 from rfl, Int.zero_mul] at q; omega
    show am_E _ _ _ _ [some (.ref 23), some (.ref b), some (.int fa), some (.int fg), some (.int lo), some (.int kk1), some (.int i2), x75] [] _ _
    refine am_e35 hi_83_88 ?_
    exact ⟨rfl, ⟨h55, ((h7.trans h31).trans h56), ⟨(by show nx S48 = nx S; omega), (by show lv S48 = lv S; omega), (by show wr S48 = wr S; omega), (h60.trans (h35.trans h11))⟩, ⟨(h61.trans (h36.trans h12)), (h62.trans (h37.trans h13)), (by show fl S48 = fl S; omega)⟩, (by show EN S48 ≤ EN S + (0); omega)⟩, (by show iv S48 8 1 = iv S 8 1; omega), (by show iv S48 10 1 = iv S 10 1; omega), (by show iv S48 14 1 = iv S 14 1; omega)⟩
theorem cf_refuseGotos {sc : Nat × (Nat → Int32)} {d aw : Nat} {Sb : am_S} {fg : Int32} {Q : Option (Option Value) → am_S → Prop} (h : SH aw Sb) (hx0 : ∀ (S : am_S) (i : Int32), Sm aw Sb S → am_E (am_PP sc) (d + 1) 88 37 [some (.ref 23), some (.int fg), some (.int i)] [] S Q) : ∀ (N : Nat) (S : am_S) (i : Int32), Sm aw Sb S → 2147483647 - i.toInt < (N : Int) → am_E (am_PP sc) (d + 1) 88 2 [some (.ref 23), some (.int fg), some (.int i)] [] S Q := by
  intro N
  induction N with
  | zero =>
    intro S  i hrel   hN
    have := i32_le i
    have := i32_ge i
    exfalso
    omega
  | succ N ih =>
    intro S  i hrel   hN
    have hl_i := i32_le i
    have hg_i := i32_ge i
    obtain ⟨h1, h2, ⟨h3, h4, h5, h6⟩, ⟨h7, h8, h9⟩, h10, h11⟩ := hrel
    have h12 : kd aw S = kd aw Sb := kd_eq h3 h6
    refine am_e1 (v := i) hi_88_2 rfl ?_
    refine am_e2 (v := 23) hi_88_3 rfl ?_
    refine cm_20f (r := 26) h1 hi_88_4 (h1.1.s (23, 9) (by decide)) (by decide) rfl ?_
    refine am_e32n (as := [.ref 26]) (la := [some (.ref 26)]) (rest := [.int i]) hi_88_7 (am_hd0 (M := 88) (by decide) 7) (Nat.le_of_ble_eq_true rfl) (Nat.le_of_ble_eq_true rfl) (show 1 ≤ am_P0.2.2.1 36 from by decide +kernel) rfl (cl_recv (h1.1.s (26, 3) (by decide))) rfl rfl (ck_rows (d := d) h1 (h1.1.s (26, 3) (by decide))  ) ?_
    rintro v13 S14 ⟨r15, rfl, rfl, h17, h18, h19⟩
    have h17_ : r15.toInt = iv S 26 1 := h17
    have h18_ : 0 ≤ r15.toInt := h18
    have h19_ : r15.toInt ≤ 2097154 := h19
    show am_E _ _ _ _ [some (.ref 23), some (.int fg), some (.int i)] [.int r15, .int i] _ _
    by_cases c21 : r15.toInt ≤ i.toInt
    · refine am_e13t hi_88_10 (am_cT (m := i.toInt) (n := r15.toInt) rfl rfl c21) ?_
      exact hx0 _ i ⟨h1, h2, ⟨(by show nx S = nx Sb; omega), (by show lv S = lv Sb; omega), (by show wr S = wr Sb; omega), h6⟩, ⟨h7, h8, (by show fl S = fl Sb; omega)⟩, (fun t ht => (h10 t ht)), (by show EN S ≤ EN Sb; omega)⟩
    · refine am_e13f hi_88_10 (am_cF (m := i.toInt) (n := r15.toInt) rfl rfl c21) ?_
      refine am_e2 (v := 23) hi_88_13 rfl ?_
      refine cm_20f (r := 1) h1 hi_88_14 (h1.1.s (23, 9) (by decide)) (by decide) rfl ?_
      refine am_e0 hi_88_17 ?_
      refine am_e2 (v := 23) hi_88_19 rfl ?_
      refine cm_20f (r := 26) h1 hi_88_20 (h1.1.s (23, 9) (by decide)) (by decide) rfl ?_
      refine am_e1 (v := i) hi_88_23 rfl ?_
      refine am_e0 hi_88_24 ?_
      refine am_e32n (as := [.ref 26, .int i, .int 1]) (la := [some (.ref 26), some (.int i), some (.int 1)]) (rest := [.int 12, .ref 1]) hi_88_25 (am_hd0 (M := 88) (by decide) 25) (Nat.le_of_ble_eq_true rfl) (Nat.le_of_ble_eq_true rfl) (show 3 ≤ am_P0.2.2.1 54 from by decide +kernel) rfl (cl_recv (h1.1.s (26, 3) (by decide))) rfl rfl (ck_get (d := d) h1 (h1.1.s (26, 3) (by decide))  ) ?_
      rintro v22 S23 ⟨r24, rfl, rfl⟩
      show am_E _ _ _ _ [some (.ref 23), some (.int fg), some (.int i)] [.int r24, .int 12, .ref 1] _ _
      refine am_e32n (as := [.ref 1, .int 12, .int r24]) (la := [some (.ref 1), some (.int 12), some (.int r24)]) (rest := []) hi_88_28 (am_hd0 (M := 88) (by decide) 28) (Nat.le_of_ble_eq_true rfl) (Nat.le_of_ble_eq_true rfl) (show 3 ≤ am_P0.2.2.1 76 from by decide +kernel) rfl (cl_recv (h1.1.s (1, 1) (by decide))) rfl rfl (ck_note (d := d) h1   ) ?_
      rintro v27 S28 ⟨rfl, h30⟩
      obtain ⟨h32, h33, ⟨h34, h35, h36, h37⟩, ⟨h38, h39, h40⟩, h41, h42⟩ := h30
      have h43 : kd aw S28 = kd aw S := kd_eq h34 h37
      show am_E _ _ _ _ [some (.ref 23), some (.int fg), some (.int i)] [] _ _
      obtain ⟨z44, hz44, tz44⟩ := am_addI (x := i) (y := 1) (m := i.toInt) (n := (1 : Int)) rfl (by decide) (by omega) (by omega)
      refine am_e5 (v := i) (z := z44) (ls' := [some (.ref 23), some (.int fg), some (.int z44)]) hi_88_31 rfl hz44 rfl ?_
      refine am_e18 hi_88_34 ?_
      exact ih _ z44 ⟨h32, (h2.trans h33), ⟨(by show nx S28 = nx Sb; omega), (by show lv S28 = lv Sb; omega), (by show wr S28 = wr Sb; omega), (h37.trans h6)⟩, ⟨(h38.trans h7), (h39.trans h8), (by show fl S28 = fl Sb; omega)⟩, (fun t ht => ((h41 t (h2.1 _ _ ht)).trans (h10 t ht))), (by show EN S28 ≤ EN Sb; omega)⟩ (by show 2147483647 - z44.toInt < (N : Int); omega)
theorem ck_refuseGotos {sc : Nat × (Nat → Int32)} {d aw : Nat} {S : am_S} {fg : Int32} (h : SH aw S) : am_E (am_PP sc) (d + 1) 88 0 [some (.ref 23), some (.int fg), none] [] S (am_N fun v S1 => v = none ∧ Qu aw (0) S S1 ∧ (iv S1 8 1 = iv S 8 1) ∧ (iv S1 10 1 = iv S 10 1) ∧ (iv S1 14 1 = iv S 14 1)) := by
  refine am_e1 (v := fg) hi_88_0 rfl ?_
  refine am_e3 (ls' := [some (.ref 23), some (.int fg), some (.int fg)]) hi_88_1 (Nat.le_of_ble_eq_true rfl) rfl ?_
  refine cf_refuseGotos (d := d) (Sb := S) (fg := fg) h    ?_ ((2147483647 - fg.toInt).toNat + 1) S fg (Sm.refl h) (by show 2147483647 - fg.toInt < _; omega)
  · intro S2 i1 h3
    obtain ⟨h4, h5, ⟨h6, h7, h8, h9⟩, ⟨h10, h11, h12⟩, h13, h14⟩ := h3
    have h15 : kd aw S2 = kd aw S := kd_eq h6 h9
    have h16 := h13 8 (h.1.s (8, 3) (by decide))
    have h17 := h13 10 (h.1.s (10, 3) (by decide))
    have h18 := h13 14 (h.1.s (14, 3) (by decide))
    show am_E _ _ _ _ [some (.ref 23), some (.int fg), some (.int i1)] [] _ _
    refine am_e2 (v := 23) hi_88_37 rfl ?_
    refine cm_20f (r := 26) h4 hi_88_38 (h4.1.s (23, 9) (by decide)) (by decide) rfl ?_
    refine am_e1 (v := fg) hi_88_41 rfl ?_
    refine am_e32n (as := [.ref 26, .int fg]) (la := [some (.ref 26), some (.int fg)]) (rest := []) hi_88_42 (am_hd0 (M := 88) (by decide) 42) (Nat.le_of_ble_eq_true rfl) (Nat.le_of_ble_eq_true rfl) (show 2 ≤ am_P0.2.2.1 30 from by decide +kernel) rfl (cl_recv (h4.1.s (26, 3) (by decide))) rfl rfl (ck_cut (d := d) h4 (h4.1.s (26, 3) (by decide)) (by decide)  ) ?_
    rintro v19 S20 ⟨rfl, h22, h23, h24, h25⟩
    have h23_ : (0 ≤ fg.toInt ∧ fg.toInt < iv S2 26 1 ∧ iv S20 26 1 = fg.toInt) ∨ ((fg.toInt < 0 ∨ iv S2 26 1 ≤ fg.toInt) ∧ iv S20 26 1 = iv S2 26 1) := h23
    have h24_ : EN S20 ≤ EN S2 + c_w 26 * (iv S20 26 1 - iv S2 26 1) := h24
    have h25_ : ∀ j, cl (am_fs S2) j = some 3 → j ≠ 26 → iv S20 j 1 = iv S2 j 1 := h25
    obtain ⟨h27, h28, ⟨h29, h30, h31, h32⟩, ⟨h33, h34, h35⟩⟩ := h22
    have h38 : kd aw S20 = kd aw S2 := kd_eq h29 h32
    have h39 := h25_ 8 (h4.1.s (8, 3) (by decide)) (by decide)
    have h40 := h25_ 10 (h4.1.s (10, 3) (by decide)) (by decide)
    have h41 := h25_ 14 (h4.1.s (14, 3) (by decide)) (by decide)
    have h42 : EN S20 ≤ EN S2 := by have q := h24_; rw [show c_w 26 = 0 from rfl, Int.zero_mul] at q; omega
    show am_E _ _ _ _ [some (.ref 23), some (.int fg), some (.int i1)] [] _ _
    refine am_e35 hi_88_45 ?_
    exact ⟨rfl, ⟨h27, (h5.trans h28), ⟨(by show nx S20 = nx S; omega), (by show lv S20 = lv S; omega), (by show wr S20 = wr S; omega), (h32.trans h9)⟩, ⟨(h33.trans h10), (h34.trans h11), (by show fl S20 = fl S; omega)⟩, (by show EN S20 ≤ EN S + (0); omega)⟩, (by show iv S20 8 1 = iv S 8 1; omega), (by show iv S20 10 1 = iv S 10 1; omega), (by show iv S20 14 1 = iv S 14 1; omega)⟩
theorem cf_closeLoop {sc : Nat × (Nat → Int32)} {d aw : Nat} {Sb : am_S} {b : Nat} {x2 : Int32} {Q : Option (Option Value) → am_S → Prop} (h : SH aw Sb) (hc_b : cl (am_fs Sb) b = some 8) (hx0 : ∀ (S : am_S) (i : Int32), Sm aw Sb S → am_E (am_PP sc) (d + 2) 132 51 [some (.ref 23), some (.ref b), some (.int x2), some (.int i)] [] S Q) : ∀ (N : Nat) (S : am_S) (i : Int32), Sm aw Sb S → 2147483647 - i.toInt < (N : Int) → am_E (am_PP sc) (d + 2) 132 20 [some (.ref 23), some (.ref b), some (.int x2), some (.int i)] [] S Q := by
  intro N
  induction N with
  | zero =>
    intro S  i hrel   hN
    have := i32_le i
    have := i32_ge i
    exfalso
    omega
  | succ N ih =>
    intro S  i hrel   hN
    have hl_i := i32_le i
    have hg_i := i32_ge i
    obtain ⟨h1, h2, ⟨h3, h4, h5, h6⟩, ⟨h7, h8, h9⟩, h10, h11⟩ := hrel
    have h12 : kd aw S = kd aw Sb := kd_eq h3 h6
    have hk13 := h2.1 _ _ hc_b
    refine am_e1 (v := i) hi_132_20 rfl ?_
    refine am_e2 (v := 23) hi_132_21 rfl ?_
    refine cm_20f (r := 30) h1 hi_132_22 (h1.1.s (23, 9) (by decide)) (by decide) rfl ?_
    refine am_e32n (as := [.ref 30]) (la := [some (.ref 30)]) (rest := [.int i]) hi_132_25 (am_hd0 (M := 132) (by decide) 25) (Nat.le_of_ble_eq_true rfl) (Nat.le_of_ble_eq_true rfl) (show 1 ≤ am_P0.2.2.1 36 from by decide +kernel) rfl (cl_recv (h1.1.s (30, 3) (by decide))) rfl rfl (ck_rows (d := (d + 1)) h1 (h1.1.s (30, 3) (by decide))  ) ?_
    rintro v14 S15 ⟨r16, rfl, rfl, h18, h19, h20⟩
    have h18_ : r16.toInt = iv S 30 1 := h18
    have h19_ : 0 ≤ r16.toInt := h19
    have h20_ : r16.toInt ≤ 2097154 := h20
    show am_E _ _ _ _ [some (.ref 23), some (.ref b), some (.int x2), some (.int i)] [.int r16, .int i] _ _
    by_cases c22 : r16.toInt ≤ i.toInt
    · refine am_e13t hi_132_28 (am_cT (m := i.toInt) (n := r16.toInt) rfl rfl c22) ?_
      exact hx0 _ i ⟨h1, h2, ⟨(by show nx S = nx Sb; omega), (by show lv S = lv Sb; omega), (by show wr S = wr Sb; omega), h6⟩, ⟨h7, h8, (by show fl S = fl Sb; omega)⟩, (fun t ht => (h10 t ht)), (by show EN S ≤ EN Sb; omega)⟩
    · refine am_e13f hi_132_28 (am_cF (m := i.toInt) (n := r16.toInt) rfl rfl c22) ?_
      refine am_e2 (v := b) hi_132_31 rfl ?_
      refine am_e2 (v := 23) hi_132_32 rfl ?_
      refine cm_20f (r := 30) h1 hi_132_33 (h1.1.s (23, 9) (by decide)) (by decide) rfl ?_
      refine am_e1 (v := i) hi_132_36 rfl ?_
      refine am_e0 hi_132_37 ?_
      refine am_e32n (as := [.ref 30, .int i, .int 0]) (la := [some (.ref 30), some (.int i), some (.int 0)]) (rest := [.ref b]) hi_132_38 (am_hd0 (M := 132) (by decide) 38) (Nat.le_of_ble_eq_true rfl) (Nat.le_of_ble_eq_true rfl) (show 3 ≤ am_P0.2.2.1 54 from by decide +kernel) rfl (cl_recv (h1.1.s (30, 3) (by decide))) rfl rfl (ck_get (d := (d + 1)) h1 (h1.1.s (30, 3) (by decide))  ) ?_
      rintro v23 S24 ⟨r25, rfl, rfl⟩
      show am_E _ _ _ _ [some (.ref 23), some (.ref b), some (.int x2), some (.int i)] [.int r25, .ref b] _ _
      refine am_e0 hi_132_41 ?_
      refine am_e32n (as := [.ref b, .int r25, .int 1]) (la := [some (.ref b), some (.int r25), some (.int 1)]) (rest := []) hi_132_42 (am_hd0 (M := 132) (by decide) 42) (Nat.le_of_ble_eq_true rfl) (Nat.le_of_ble_eq_true rfl) (show 3 ≤ am_P0.2.2.1 109 from by decide +kernel) rfl (cl_recv hk13) rfl rfl (ck_leadHere (d := d) h1 hk13  ) ?_
      rintro v28 S29 ⟨rfl, h31⟩
      obtain ⟨h33, h34, ⟨h35, h36, h37, h38⟩, ⟨h39, h40, h41⟩, h42, h43⟩ := h31
      have h44 : kd aw S29 = kd aw S := kd_eq h35 h38
      have hk45 := h34.1 _ _ hk13
      show am_E _ _ _ _ [some (.ref 23), some (.ref b), some (.int x2), some (.int i)] [] _ _
      obtain ⟨z46, hz46, tz46⟩ := am_addI (x := i) (y := 1) (m := i.toInt) (n := (1 : Int)) rfl (by decide) (by omega) (by omega)
      refine am_e5 (v := i) (z := z46) (ls' := [some (.ref 23), some (.ref b), some (.int x2), some (.int z46)]) hi_132_45 rfl hz46 rfl ?_
      refine am_e18 hi_132_48 ?_
      exact ih _ z46 ⟨h33, (h2.trans h34), ⟨(by show nx S29 = nx Sb; omega), (by show lv S29 = lv Sb; omega), (by show wr S29 = wr Sb; omega), (h38.trans h6)⟩, ⟨(h39.trans h7), (h40.trans h8), (by show fl S29 = fl Sb; omega)⟩, (fun t ht => ((h42 t (h2.1 _ _ ht)).trans (h10 t ht))), (by show EN S29 ≤ EN Sb; omega)⟩ (by show 2147483647 - z46.toInt < (N : Int); omega)
theorem ck_closeLoop {sc : Nat × (Nat → Int32)} {d aw : Nat} {S : am_S} {b : Nat} (h : SH aw S) (hc_b : cl (am_fs S) b = some 8) : am_E (am_PP sc) (d + 2) 132 0 [some (.ref 23), some (.ref b), none, none] [] S (am_N fun v S1 => v = none ∧ Qu aw (0) S S1 ∧ (iv S1 8 1 = iv S 8 1) ∧ (iv S1 10 1 = iv S 10 1) ∧ (iv S1 14 1 = iv S 14 1)) := by
  refine am_e2 (v := 23) hi_132_0 rfl ?_
  refine cm_20f (r := 28) h hi_132_1 (h.1.s (23, 9) (by decide)) (by decide) rfl ?_
  refine am_e2 (v := 23) hi_132_4 rfl ?_
  refine cm_20f (r := 28) h hi_132_5 (h.1.s (23, 9) (by decide)) (by decide) rfl ?_
  refine am_e32n (as := [.ref 28]) (la := [some (.ref 28)]) (rest := [.ref 28]) hi_132_8 (am_hd0 (M := 132) (by decide) 8) (Nat.le_of_ble_eq_true rfl) (Nat.le_of_ble_eq_true rfl) (show 1 ≤ am_P0.2.2.1 36 from by decide +kernel) rfl (cl_recv (h.1.s (28, 3) (by decide))) rfl rfl (ck_rows (d := (d + 1)) h (h.1.s (28, 3) (by decide))  ) ?_
  rintro v1 S2 ⟨r3, rfl, rfl, h5, h6, h7⟩
  have h5_ : r3.toInt = iv S 28 1 := h5
  have h6_ : 0 ≤ r3.toInt := h6
  have h7_ : r3.toInt ≤ 2097154 := h7
  show am_E _ _ _ _ [some (.ref 23), some (.ref b), none, none] [.int r3, .ref 28] _ _
  refine am_e0 hi_132_11 ?_
  obtain ⟨z9, hz9, tz9⟩ := am_subI (x := r3) (y := 1) (m := r3.toInt) (n := (1 : Int)) rfl (by decide) (by omega) (by omega)
  refine am_e10 (z := z9) hi_132_12 hz9 ?_
  refine am_e0 hi_132_13 ?_
  refine am_e32n (as := [.ref 28, .int z9, .int 1]) (la := [some (.ref 28), some (.int z9), some (.int 1)]) (rest := []) hi_132_14 (am_hd0 (M := 132) (by decide) 14) (Nat.le_of_ble_eq_true rfl) (Nat.le_of_ble_eq_true rfl) (show 3 ≤ am_P0.2.2.1 54 from by decide +kernel) rfl (cl_recv (h.1.s (28, 3) (by decide))) rfl rfl (ck_get (d := (d + 1)) h (h.1.s (28, 3) (by decide))  ) ?_
  rintro v10 S11 ⟨r12, rfl, rfl⟩
  show am_E _ _ _ _ [some (.ref 23), some (.ref b), none, none] [.int r12] _ _
  refine am_e3 (ls' := [some (.ref 23), some (.ref b), some (.int r12), none]) hi_132_17 (Nat.le_of_ble_eq_true rfl) rfl ?_
  refine am_e1 (v := r12) hi_132_18 rfl ?_
  refine am_e3 (ls' := [some (.ref 23), some (.ref b), some (.int r12), some (.int r12)]) hi_132_19 (Nat.le_of_ble_eq_true rfl) rfl ?_
  refine cf_closeLoop (d := d) (Sb := S) (b := b) (x2 := r12) h hc_b   ?_ ((2147483647 - r12.toInt).toNat + 1) S r12 (Sm.refl h) (by show 2147483647 - r12.toInt < _; omega)
  · intro S16 i15 h17
    obtain ⟨h18, h19, ⟨h20, h21, h22, h23⟩, ⟨h24, h25, h26⟩, h27, h28⟩ := h17
    have h29 : kd aw S16 = kd aw S := kd_eq h20 h23
    have h30 := h27 8 (h.1.s (8, 3) (by decide))
    have h31 := h27 10 (h.1.s (10, 3) (by decide))
    have h32 := h27 14 (h.1.s (14, 3) (by decide))
    have hk33 := h19.1 _ _ hc_b
    show am_E _ _ _ _ [some (.ref 23), some (.ref b), some (.int r12), some (.int i15)] [] _ _
    refine am_e2 (v := 23) hi_132_51 rfl ?_
    refine cm_20f (r := 30) h18 hi_132_52 (h18.1.s (23, 9) (by decide)) (by decide) rfl ?_
    refine am_e1 (v := r12) hi_132_55 rfl ?_
    refine am_e32n (as := [.ref 30, .int r12]) (la := [some (.ref 30), some (.int r12)]) (rest := []) hi_132_56 (am_hd0 (M := 132) (by decide) 56) (Nat.le_of_ble_eq_true rfl) (Nat.le_of_ble_eq_true rfl) (show 2 ≤ am_P0.2.2.1 30 from by decide +kernel) rfl (cl_recv (h18.1.s (30, 3) (by decide))) rfl rfl (ck_cut (d := (d + 1)) h18 (h18.1.s (30, 3) (by decide)) (by decide)  ) ?_
    rintro v34 S35 ⟨rfl, h37, h38, h39, h40⟩
    have h38_ : (0 ≤ r12.toInt ∧ r12.toInt < iv S16 30 1 ∧ iv S35 30 1 = r12.toInt) ∨ ((r12.toInt < 0 ∨ iv S16 30 1 ≤ r12.toInt) ∧ iv S35 30 1 = iv S16 30 1) := h38
    have h39_ : EN S35 ≤ EN S16 + c_w 30 * (iv S35 30 1 - iv S16 30 1) := h39
    have h40_ : ∀ j, cl (am_fs S16) j = some 3 → j ≠ 30 → iv S35 j 1 = iv S16 j 1 := h40
    obtain ⟨h42, h43, ⟨h44, h45, h46, h47⟩, ⟨h48, h49, h50⟩⟩ := h37
    have h53 : kd aw S35 = kd aw S16 := kd_eq h44 h47
    have hk54 := h43.1 _ _ hk33
    have h55 := h40_ 8 (h18.1.s (8, 3) (by decide)) (by decide)
    have h56 := h40_ 10 (h18.1.s (10, 3) (by decide)) (by decide)
    have h57 := h40_ 14 (h18.1.s (14, 3) (by decide)) (by decide)
    have h58 : EN S35 ≤ EN S16 := by have q := h39_; rw [show c_w 30 = 0 from rfl, Int.zero_mul] at q; omega
    show am_E _ _ _ _ [some (.ref 23), some (.ref b), some (.int r12), some (.int i15)] [] _ _
    refine am_e2 (v := 23) hi_132_59 rfl ?_
    refine cm_20f (r := 28) h42 hi_132_60 (h42.1.s (23, 9) (by decide)) (by decide) rfl ?_
    refine am_e2 (v := 23) hi_132_63 rfl ?_
    refine cm_20f (r := 28) h42 hi_132_64 (h42.1.s (23, 9) (by decide)) (by decide) rfl ?_
    refine am_e32n (as := [.ref 28]) (la := [some (.ref 28)]) (rest := [.ref 28]) hi_132_67 (am_hd0 (M := 132) (by decide) 67) (Nat.le_of_ble_eq_true rfl) (Nat.le_of_ble_eq_true rfl) (show 1 ≤ am_P0.2.2.1 36 from by decide +kernel) rfl (cl_recv (h42.1.s (28, 3) (by decide))) rfl rfl (ck_rows (d := (d + 1)) h42 (h42.1.s (28, 3) (by decide))  ) ?_
    rintro v59 S60 ⟨r61, rfl, rfl, h63, h64, h65⟩
    have h63_ : r61.toInt = iv S35 28 1 := h63
    have h64_ : 0 ≤ r61.toInt := h64
    have h65_ : r61.toInt ≤ 2097154 := h65
    show am_E _ _ _ _ [some (.ref 23), some (.ref b), some (.int r12), some (.int i15)] [.int r61, .ref 28] _ _
    refine am_e0 hi_132_70 ?_
    obtain ⟨z67, hz67, tz67⟩ := am_subI (x := r61) (y := 1) (m := r61.toInt) (n := (1 : Int)) rfl (by decide) (by omega) (by omega)
    refine am_e10 (z := z67) hi_132_71 hz67 ?_
    refine am_e32n (as := [.ref 28, .int z67]) (la := [some (.ref 28), some (.int z67)]) (rest := []) hi_132_72 (am_hd0 (M := 132) (by decide) 72) (Nat.le_of_ble_eq_true rfl) (Nat.le_of_ble_eq_true rfl) (show 2 ≤ am_P0.2.2.1 30 from by decide +kernel) rfl (cl_recv (h42.1.s (28, 3) (by decide))) rfl rfl (ck_cut (d := (d + 1)) h42 (h42.1.s (28, 3) (by decide)) (by decide)  ) ?_
    rintro v68 S69 ⟨rfl, h71, h72, h73, h74⟩
    have h72_ : (0 ≤ z67.toInt ∧ z67.toInt < iv S35 28 1 ∧ iv S69 28 1 = z67.toInt) ∨ ((z67.toInt < 0 ∨ iv S35 28 1 ≤ z67.toInt) ∧ iv S69 28 1 = iv S35 28 1) := h72
    have h73_ : EN S69 ≤ EN S35 + c_w 28 * (iv S69 28 1 - iv S35 28 1) := h73
    have h74_ : ∀ j, cl (am_fs S35) j = some 3 → j ≠ 28 → iv S69 j 1 = iv S35 j 1 := h74
    obtain ⟨h76, h77, ⟨h78, h79, h80, h81⟩, ⟨h82, h83, h84⟩⟩ := h71
    have h87 : kd aw S69 = kd aw S35 := kd_eq h78 h81
    have hk88 := h77.1 _ _ hk54
    have h89 := h74_ 8 (h42.1.s (8, 3) (by decide)) (by decide)
    have h90 := h74_ 10 (h42.1.s (10, 3) (by decide)) (by decide)
    have h91 := h74_ 14 (h42.1.s (14, 3) (by decide)) (by decide)
    have h92 : EN S69 ≤ EN S35 := by have q := h73_; rw [show c_w 28 = 0 from rfl, Int.zero_mul] at q; omega
    show am_E _ _ _ _ [some (.ref 23), some (.ref b), some (.int r12), some (.int i15)] [] _ _
    refine am_e35 hi_132_75 ?_
    exact ⟨rfl, ⟨h76, ((h19.trans h43).trans h77), ⟨(by show nx S69 = nx S; omega), (by show lv S69 = lv S; omega), (by show wr S69 = wr S; omega), (h81.trans (h47.trans h23))⟩, ⟨(h82.trans (h48.trans h24)), (h83.trans (h49.trans h25)), (by show fl S69 = fl S; omega)⟩, (by show EN S69 ≤ EN S + (0); omega)⟩, (by show iv S69 8 1 = iv S 8 1; omega), (by show iv S69 10 1 = iv S 10 1; omega), (by show iv S69 14 1 = iv S 14 1; omega)⟩
theorem ck_jclear {sc : Nat × (Nat → Int32)} {d aw : Nat} {S : am_S} (h : SH aw S) : am_E (am_PP sc) (d + 1) 44 0 [some (.ref 23)] [] S (am_N fun v S1 => v = none ∧ Qu aw (0) S S1 ∧ (iv S1 8 1 = iv S 8 1) ∧ (iv S1 10 1 = iv S 10 1) ∧ (iv S1 14 1 = iv S 14 1)) := by
  refine am_e2 (v := 23) hi_44_0 rfl ?_
  refine cm_20f (r := 24) h hi_44_1 (h.1.s (23, 9) (by decide)) (by decide) rfl ?_
  refine am_e0 hi_44_4 ?_
  refine am_e32n (as := [.ref 24, .int 0]) (la := [some (.ref 24), some (.int 0)]) (rest := []) hi_44_5 (am_hd0 (M := 44) (by decide) 5) (Nat.le_of_ble_eq_true rfl) (Nat.le_of_ble_eq_true rfl) (show 2 ≤ am_P0.2.2.1 30 from by decide +kernel) rfl (cl_recv (h.1.s (24, 3) (by decide))) rfl rfl (ck_cut (d := d) h (h.1.s (24, 3) (by decide)) (by decide)  ) ?_
  rintro v1 S2 ⟨rfl, h4, h5, h6, h7⟩
  have h5_ : (0 ≤ (0 : Int) ∧ (0 : Int) < iv S 24 1 ∧ iv S2 24 1 = (0 : Int)) ∨ (((0 : Int) < 0 ∨ iv S 24 1 ≤ (0 : Int)) ∧ iv S2 24 1 = iv S 24 1) := h5
  have h6_ : EN S2 ≤ EN S + c_w 24 * (iv S2 24 1 - iv S 24 1) := h6
  have h7_ : ∀ j, cl (am_fs S) j = some 3 → j ≠ 24 → iv S2 j 1 = iv S j 1 := h7
  obtain ⟨h9, h10, ⟨h11, h12, h13, h14⟩, ⟨h15, h16, h17⟩⟩ := h4
  have h20 : kd aw S2 = kd aw S := kd_eq h11 h14
  have h21 := h7_ 8 (h.1.s (8, 3) (by decide)) (by decide)
  have h22 := h7_ 10 (h.1.s (10, 3) (by decide)) (by decide)
  have h23 := h7_ 14 (h.1.s (14, 3) (by decide)) (by decide)
  have h24 : EN S2 ≤ EN S := by have q := h6_; rw [show c_w 24 = 0 from rfl, Int.zero_mul] at q; omega
  show am_E _ _ _ _ [some (.ref 23)] [] _ _
  refine am_e2 (v := 23) hi_44_8 rfl ?_
  refine cm_20f (r := 26) h9 hi_44_9 (h9.1.s (23, 9) (by decide)) (by decide) rfl ?_
  refine am_e0 hi_44_12 ?_
  refine am_e32n (as := [.ref 26, .int 0]) (la := [some (.ref 26), some (.int 0)]) (rest := []) hi_44_13 (am_hd0 (M := 44) (by decide) 13) (Nat.le_of_ble_eq_true rfl) (Nat.le_of_ble_eq_true rfl) (show 2 ≤ am_P0.2.2.1 30 from by decide +kernel) rfl (cl_recv (h9.1.s (26, 3) (by decide))) rfl rfl (ck_cut (d := d) h9 (h9.1.s (26, 3) (by decide)) (by decide)  ) ?_
  rintro v25 S26 ⟨rfl, h28, h29, h30, h31⟩
  have h29_ : (0 ≤ (0 : Int) ∧ (0 : Int) < iv S2 26 1 ∧ iv S26 26 1 = (0 : Int)) ∨ (((0 : Int) < 0 ∨ iv S2 26 1 ≤ (0 : Int)) ∧ iv S26 26 1 = iv S2 26 1) := h29
  have h30_ : EN S26 ≤ EN S2 + c_w 26 * (iv S26 26 1 - iv S2 26 1) := h30
  have h31_ : ∀ j, cl (am_fs S2) j = some 3 → j ≠ 26 → iv S26 j 1 = iv S2 j 1 := h31
  obtain ⟨h33, h34, ⟨h35, h36, h37, h38⟩, ⟨h39, h40, h41⟩⟩ := h28
  have h44 : kd aw S26 = kd aw S2 := kd_eq h35 h38
  have h45 := h31_ 8 (h9.1.s (8, 3) (by decide)) (by decide)
  have h46 := h31_ 10 (h9.1.s (10, 3) (by decide)) (by decide)
  have h47 := h31_ 14 (h9.1.s (14, 3) (by decide)) (by decide)
  have h48 : EN S26 ≤ EN S2 := by have q := h30_; rw [show c_w 26 = 0 from rfl, Int.zero_mul] at q; omega
  show am_E _ _ _ _ [some (.ref 23)] [] _ _
  refine am_e2 (v := 23) hi_44_16 rfl ?_
  refine cm_20f (r := 28) h33 hi_44_17 (h33.1.s (23, 9) (by decide)) (by decide) rfl ?_
  refine am_e0 hi_44_20 ?_
  refine am_e32n (as := [.ref 28, .int 0]) (la := [some (.ref 28), some (.int 0)]) (rest := []) hi_44_21 (am_hd0 (M := 44) (by decide) 21) (Nat.le_of_ble_eq_true rfl) (Nat.le_of_ble_eq_true rfl) (show 2 ≤ am_P0.2.2.1 30 from by decide +kernel) rfl (cl_recv (h33.1.s (28, 3) (by decide))) rfl rfl (ck_cut (d := d) h33 (h33.1.s (28, 3) (by decide)) (by decide)  ) ?_
  rintro v49 S50 ⟨rfl, h52, h53, h54, h55⟩
  have h53_ : (0 ≤ (0 : Int) ∧ (0 : Int) < iv S26 28 1 ∧ iv S50 28 1 = (0 : Int)) ∨ (((0 : Int) < 0 ∨ iv S26 28 1 ≤ (0 : Int)) ∧ iv S50 28 1 = iv S26 28 1) := h53
  have h54_ : EN S50 ≤ EN S26 + c_w 28 * (iv S50 28 1 - iv S26 28 1) := h54
  have h55_ : ∀ j, cl (am_fs S26) j = some 3 → j ≠ 28 → iv S50 j 1 = iv S26 j 1 := h55
  obtain ⟨h57, h58, ⟨h59, h60, h61, h62⟩, ⟨h63, h64, h65⟩⟩ := h52
  have h68 : kd aw S50 = kd aw S26 := kd_eq h59 h62
  have h69 := h55_ 8 (h33.1.s (8, 3) (by decide)) (by decide)
  have h70 := h55_ 10 (h33.1.s (10, 3) (by decide)) (by decide)
  have h71 := h55_ 14 (h33.1.s (14, 3) (by decide)) (by decide)
  have h72 : EN S50 ≤ EN S26 := by have q := h54_; rw [show c_w 28 = 0 from rfl, Int.zero_mul] at q; omega
  show am_E _ _ _ _ [some (.ref 23)] [] _ _
  refine am_e2 (v := 23) hi_44_24 rfl ?_
  refine cm_20f (r := 30) h57 hi_44_25 (h57.1.s (23, 9) (by decide)) (by decide) rfl ?_
  refine am_e0 hi_44_28 ?_
  refine am_e32n (as := [.ref 30, .int 0]) (la := [some (.ref 30), some (.int 0)]) (rest := []) hi_44_29 (am_hd0 (M := 44) (by decide) 29) (Nat.le_of_ble_eq_true rfl) (Nat.le_of_ble_eq_true rfl) (show 2 ≤ am_P0.2.2.1 30 from by decide +kernel) rfl (cl_recv (h57.1.s (30, 3) (by decide))) rfl rfl (ck_cut (d := d) h57 (h57.1.s (30, 3) (by decide)) (by decide)  ) ?_
  rintro v73 S74 ⟨rfl, h76, h77, h78, h79⟩
  have h77_ : (0 ≤ (0 : Int) ∧ (0 : Int) < iv S50 30 1 ∧ iv S74 30 1 = (0 : Int)) ∨ (((0 : Int) < 0 ∨ iv S50 30 1 ≤ (0 : Int)) ∧ iv S74 30 1 = iv S50 30 1) := h77
  have h78_ : EN S74 ≤ EN S50 + c_w 30 * (iv S74 30 1 - iv S50 30 1) := h78
  have h79_ : ∀ j, cl (am_fs S50) j = some 3 → j ≠ 30 → iv S74 j 1 = iv S50 j 1 := h79
  obtain ⟨h81, h82, ⟨h83, h84, h85, h86⟩, ⟨h87, h88, h89⟩⟩ := h76
  have h92 : kd aw S74 = kd aw S50 := kd_eq h83 h86
  have h93 := h79_ 8 (h57.1.s (8, 3) (by decide)) (by decide)
  have h94 := h79_ 10 (h57.1.s (10, 3) (by decide)) (by decide)
  have h95 := h79_ 14 (h57.1.s (14, 3) (by decide)) (by decide)
  have h96 : EN S74 ≤ EN S50 := by have q := h78_; rw [show c_w 30 = 0 from rfl, Int.zero_mul] at q; omega
  show am_E _ _ _ _ [some (.ref 23)] [] _ _
  refine am_e35 hi_44_32 ?_
  exact ⟨rfl, ⟨h81, (((h10.trans h34).trans h58).trans h82), ⟨(by show nx S74 = nx S; omega), (by show lv S74 = lv S; omega), (by show wr S74 = wr S; omega), (h86.trans (h62.trans (h38.trans h14)))⟩, ⟨(h87.trans (h63.trans (h39.trans h15))), (h88.trans (h64.trans (h40.trans h16))), (by show fl S74 = fl S; omega)⟩, (by show EN S74 ≤ EN S + (0); omega)⟩, (by show iv S74 8 1 = iv S 8 1; omega), (by show iv S74 10 1 = iv S 10 1; omega), (by show iv S74 14 1 = iv S 14 1; omega)⟩
theorem cf_outerNumber {sc : Nat × (Nat → Int32)} {d aw : Nat} {Sb : am_S} {b : Nat} {x : Int32} {y : Int32} {Q : Option (Option Value) → am_S → Prop} (h : SH aw Sb) (hc_b : cl (am_fs Sb) b = some 8) (hx0 : ∀ (i : Int32), am_E (am_PP sc) (d + 3) 69 47 [some (.ref b), some (.int x), some (.int y), some (.int i)] [] Sb Q) (hx1 : ∀ (i : Int32), am_E (am_PP sc) (d + 3) 69 39 [some (.ref b), some (.int x), some (.int y), some (.int i)] [] Sb Q) : ∀ (N : Nat) (i : Int32), 2147483647 - i.toInt < (N : Int) → am_E (am_PP sc) (d + 3) 69 2 [some (.ref b), some (.int x), some (.int y), some (.int i)] [] Sb Q := by
  intro N
  induction N with
  | zero =>
    intro   i    hN
    have := i32_le i
    have := i32_ge i
    exfalso
    omega
  | succ N ih =>
    intro   i    hN
    have hl_i := i32_le i
    have hg_i := i32_ge i
    refine am_e1 (v := i) hi_69_2 rfl ?_
    refine am_e2 (v := b) hi_69_3 rfl ?_
    refine cm_20t h hi_69_4 hc_b (by decide) rfl fun t1 ht1 ht1b => ?_
    refine am_e32n (as := [.ref t1]) (la := [some (.ref t1)]) (rest := [.int i]) hi_69_7 (am_hd0 (M := 69) (by decide) 7) (Nat.le_of_ble_eq_true rfl) (Nat.le_of_ble_eq_true rfl) (show 1 ≤ am_P0.2.2.1 36 from by decide +kernel) rfl (cl_recv ht1) rfl rfl (ck_rows (d := (d + 2)) h ht1  ) ?_
    rintro v2 S3 ⟨r4, rfl, rfl, h6, h7, h8⟩
    have h6_ : r4.toInt = iv Sb t1 1 := h6
    have h7_ : 0 ≤ r4.toInt := h7
    have h8_ : r4.toInt ≤ 2097154 := h8
    show am_E _ _ _ _ [some (.ref b), some (.int x), some (.int y), some (.int i)] [.int r4, .int i] _ _
    by_cases c10 : r4.toInt ≤ i.toInt
    · refine am_e13t hi_69_10 (am_cT (m := i.toInt) (n := r4.toInt) rfl rfl c10) ?_
      exact hx0 i
    · refine am_e13f hi_69_10 (am_cF (m := i.toInt) (n := r4.toInt) rfl rfl c10) ?_
      refine am_e2 (v := b) hi_69_13 rfl ?_
      refine cm_20t h hi_69_14 hc_b (by decide) rfl fun t11 ht11 ht11b => ?_
      refine am_e1 (v := i) hi_69_17 rfl ?_
      refine am_e0 hi_69_18 ?_
      refine am_e32n (as := [.ref t11, .int i, .int 0]) (la := [some (.ref t11), some (.int i), some (.int 0)]) (rest := []) hi_69_19 (am_hd0 (M := 69) (by decide) 19) (Nat.le_of_ble_eq_true rfl) (Nat.le_of_ble_eq_true rfl) (show 3 ≤ am_P0.2.2.1 54 from by decide +kernel) rfl (cl_recv ht11) rfl rfl (ck_get (d := (d + 2)) h ht11  ) ?_
      rintro v12 S13 ⟨r14, rfl, rfl⟩
      show am_E _ _ _ _ [some (.ref b), some (.int x), some (.int y), some (.int i)] [.int r14] _ _
      refine am_e1 (v := x) hi_69_22 rfl ?_
      by_cases c17 : ¬ r14.toInt = x.toInt
      · refine am_e13t hi_69_23 (am_cT (m := r14.toInt) (n := x.toInt) rfl rfl c17) ?_
        obtain ⟨z18, hz18, tz18⟩ := am_addI (x := i) (y := 1) (m := i.toInt) (n := (1 : Int)) rfl (by decide) (by omega) (by omega)
        refine am_e5 (v := i) (z := z18) (ls' := [some (.ref b), some (.int x), some (.int y), some (.int z18)]) hi_69_41 rfl hz18 rfl ?_
        refine am_e18 hi_69_44 ?_
        exact ih z18 (by show 2147483647 - z18.toInt < (N : Int); omega)
      · refine am_e13f hi_69_23 (am_cF (m := r14.toInt) (n := x.toInt) rfl rfl c17) ?_
        refine am_e2 (v := b) hi_69_26 rfl ?_
        refine cm_20t h hi_69_27 hc_b (by decide) rfl fun t19 ht19 ht19b => ?_
        refine am_e1 (v := i) hi_69_30 rfl ?_
        refine am_e0 hi_69_31 ?_
        refine am_e32n (as := [.ref t19, .int i, .int 1]) (la := [some (.ref t19), some (.int i), some (.int 1)]) (rest := []) hi_69_32 (am_hd0 (M := 69) (by decide) 32) (Nat.le_of_ble_eq_true rfl) (Nat.le_of_ble_eq_true rfl) (show 3 ≤ am_P0.2.2.1 54 from by decide +kernel) rfl (cl_recv ht19) rfl rfl (ck_get (d := (d + 2)) h ht19  ) ?_
        rintro v20 S21 ⟨r22, rfl, rfl⟩
        show am_E _ _ _ _ [some (.ref b), some (.int x), some (.int y), some (.int i)] [.int r22] _ _
        refine am_e1 (v := y) hi_69_35 rfl ?_
        by_cases c25 : ¬ r22.toInt = y.toInt
        · refine am_e13t hi_69_36 (am_cT (m := r22.toInt) (n := y.toInt) rfl rfl c25) ?_
          obtain ⟨z26, hz26, tz26⟩ := am_addI (x := i) (y := 1) (m := i.toInt) (n := (1 : Int)) rfl (by decide) (by omega) (by omega)
          refine am_e5 (v := i) (z := z26) (ls' := [some (.ref b), some (.int x), some (.int y), some (.int z26)]) hi_69_41 rfl hz26 rfl ?_
          refine am_e18 hi_69_44 ?_
          exact ih z26 (by show 2147483647 - z26.toInt < (N : Int); omega)
        · refine am_e13f hi_69_36 (am_cF (m := r22.toInt) (n := y.toInt) rfl rfl c25) ?_
          exact hx1 i
theorem ck_outerNumber {sc : Nat × (Nat → Int32)} {d aw : Nat} {S : am_S} {b : Nat} {x : Int32} {y : Int32} (h : SH aw S) (hc_b : cl (am_fs S) b = some 8) : am_E (am_PP sc) (d + 3) 69 0 [some (.ref b), some (.int x), some (.int y), none] [] S (am_N fun v S1 => ∃ r : Int32, v = some (.int r) ∧ Qu aw (160) S S1 ∧ (iv S1 8 1 = iv S 8 1) ∧ (iv S1 10 1 = iv S 10 1) ∧ (iv S1 14 1 = iv S 14 1)) := by
  refine am_e0 hi_69_0 ?_
  refine am_e3 (ls' := [some (.ref b), some (.int x), some (.int y), some (.int 0)]) hi_69_1 (Nat.le_of_ble_eq_true rfl) rfl ?_
  refine cf_outerNumber (d := d) (Sb := S) (b := b) (x := x) (y := y) h hc_b   ?_ ?_ ((2147483647 - (0 : Int)).toNat + 1) 0 (by show 2147483647 - (0 : Int) < _; omega)
  · intro i1
    show am_E _ _ _ _ [some (.ref b), some (.int x), some (.int y), some (.int i1)] [] _ _
    refine am_e2 (v := b) hi_69_47 rfl ?_
    refine cm_20t h hi_69_48 hc_b (by decide) rfl fun t4 ht4 ht4b => ?_
    refine am_e1 (v := x) hi_69_51 rfl ?_
    refine am_e1 (v := y) hi_69_52 rfl ?_
    refine am_e0 hi_69_53 ?_
    refine am_e0 hi_69_54 ?_
    have h5 : c_w t4 = 0 := bt_w ht4b
    refine am_e32n (as := [.ref t4, .int x, .int y, .int 0, .int 0]) (la := [some (.ref t4), some (.int x), some (.int y), some (.int 0), some (.int 0), none]) (rest := []) hi_69_55 (am_hd0 (M := 69) (by decide) 55) (Nat.le_of_ble_eq_true rfl) (Nat.le_of_ble_eq_true rfl) (show 5 ≤ am_P0.2.2.1 31 from by decide +kernel) rfl (cl_recv ht4) rfl rfl (ck_add (d := d) h ht4 (bt_ne ht4b).1  ) ?_
    rintro v6 S7 ⟨r8, rfl, h9, h10, h11⟩
    have h10_ : iv S t4 1 ≤ iv S7 t4 1 ∧ iv S7 t4 1 ≤ iv S t4 1 + 1 := h10
    have h11_ : ∀ j, cl (am_fs S) j = some 3 → j ≠ t4 → iv S7 j 1 = iv S j 1 := h11
    obtain ⟨h13, h14, ⟨h15, h16, h17, h18⟩, ⟨h19, h20, h21⟩, h23⟩ := h9
    have h24 : kd aw S7 = kd aw S := kd_eq h15 h18
    have hk25 := h14.1 _ _ hc_b
    have h26 := h11_ 8 (h.1.s (8, 3) (by decide)) (by have := bt_ne ht4b; omega)
    have h27 := h11_ 10 (h.1.s (10, 3) (by decide)) (by have := bt_ne ht4b; omega)
    have h28 := h11_ 14 (h.1.s (14, 3) (by decide)) (by have := bt_ne ht4b; omega)
    show am_E _ _ _ _ [some (.ref b), some (.int x), some (.int y), some (.int i1)] [.int r8] _ _
    refine am_e33 hi_69_58 ?_
    exact ⟨r8, rfl, ⟨h13, h14, ⟨(by show nx S7 = nx S; omega), (by show lv S7 = lv S; omega), (by show wr S7 = wr S; omega), h18⟩, ⟨h19, h20, (by show fl S7 = fl S; omega)⟩, (by show EN S7 ≤ EN S + (160); omega)⟩, (by show iv S7 8 1 = iv S 8 1; omega), (by show iv S7 10 1 = iv S 10 1; omega), (by show iv S7 14 1 = iv S 14 1; omega)⟩
  · intro i29
    show am_E _ _ _ _ [some (.ref b), some (.int x), some (.int y), some (.int i29)] [] _ _
    refine am_e1 (v := i29) hi_69_39 rfl ?_
    refine am_e33 hi_69_40 ?_
    exact ⟨i29, rfl, ⟨h, (Ex.refl S), ⟨(by show nx S = nx S; omega), (by show lv S = lv S; omega), (by show wr S = wr S; omega), rfl⟩, ⟨rfl, rfl, (by show fl S = fl S; omega)⟩, (by show EN S ≤ EN S + (160); omega)⟩, (by show iv S 8 1 = iv S 8 1; omega), (by show iv S 10 1 = iv S 10 1; omega), (by show iv S 14 1 = iv S 14 1; omega)⟩
theorem ck_scount {sc : Nat × (Nat → Int32)} {d aw : Nat} {S : am_S} (h : SH aw S) : am_E (am_PP sc) (d + 1) 75 0 [some (.ref 12)] [] S (am_N fun v S1 => ∃ r : Int32, v = some (.int r) ∧ S = S1 ∧ (r.toInt = iv S 14 1 + -1 * fl S)) := by
  refine am_e2 (v := 12) hi_75_0 rfl ?_
  refine cm_20f (r := 14) h hi_75_1 (h.1.s (12, 7) (by decide)) (by decide) rfl ?_
  refine am_e32n (as := [.ref 14]) (la := [some (.ref 14)]) (rest := []) hi_75_4 (am_hd0 (M := 75) (by decide) 4) (Nat.le_of_ble_eq_true rfl) (Nat.le_of_ble_eq_true rfl) (show 1 ≤ am_P0.2.2.1 36 from by decide +kernel) rfl (cl_recv (h.1.s (14, 3) (by decide))) rfl rfl (ck_rows (d := d) h (h.1.s (14, 3) (by decide))  ) ?_
  rintro v1 S2 ⟨r3, rfl, rfl, h5, h6, h7⟩
  have h5_ : r3.toInt = iv S 14 1 := h5
  have h6_ : 0 ≤ r3.toInt := h6
  have h7_ : r3.toInt ≤ 2097154 := h7
  show am_E _ _ _ _ [some (.ref 12)] [.int r3] _ _
  refine am_e2 (v := 12) hi_75_7 rfl ?_
  refine cm_20n h hi_75_8 fun hb9 => ?_
  refine cm_20s h hi_75_11 hb9 (by decide) rfl fun v10 hv10 hv10a hv10b => ?_
  have hv10c : v10.toInt = fl S := hv10
  obtain ⟨z11, hz11, tz11⟩ := am_subI (x := r3) (y := v10) (m := r3.toInt) (n := v10.toInt) rfl rfl (by omega) (by omega)
  refine am_e10 (z := z11) hi_75_14 hz11 ?_
  refine am_e33 hi_75_15 ?_
  exact ⟨z11, rfl, rfl, (by show z11.toInt = iv S 14 1 + -1 * fl S; omega)⟩
theorem ck_before {sc : Nat × (Nat → Int32)} {d aw : Nat} {S : am_S} (h : SH aw S) : am_E (am_PP sc) (d + 1) 82 0 [some (.ref 12)] [] S (am_N fun v S1 => ∃ r : Int32, v = some (.int r) ∧ S = S1) := by
  refine am_e2 (v := 12) hi_82_0 rfl ?_
  refine cm_20f (r := 16) h hi_82_1 (h.1.s (12, 7) (by decide)) (by decide) rfl ?_
  refine am_e2 (v := 12) hi_82_4 rfl ?_
  refine cm_20f (r := 16) h hi_82_5 (h.1.s (12, 7) (by decide)) (by decide) rfl ?_
  refine am_e32n (as := [.ref 16]) (la := [some (.ref 16)]) (rest := [.ref 16]) hi_82_8 (am_hd0 (M := 82) (by decide) 8) (Nat.le_of_ble_eq_true rfl) (Nat.le_of_ble_eq_true rfl) (show 1 ≤ am_P0.2.2.1 36 from by decide +kernel) rfl (cl_recv (h.1.s (16, 3) (by decide))) rfl rfl (ck_rows (d := d) h (h.1.s (16, 3) (by decide))  ) ?_
  rintro v1 S2 ⟨r3, rfl, rfl, h5, h6, h7⟩
  have h5_ : r3.toInt = iv S 16 1 := h5
  have h6_ : 0 ≤ r3.toInt := h6
  have h7_ : r3.toInt ≤ 2097154 := h7
  show am_E _ _ _ _ [some (.ref 12)] [.int r3, .ref 16] _ _
  refine am_e0 hi_82_11 ?_
  obtain ⟨z9, hz9, tz9⟩ := am_subI (x := r3) (y := 1) (m := r3.toInt) (n := (1 : Int)) rfl (by decide) (by omega) (by omega)
  refine am_e10 (z := z9) hi_82_12 hz9 ?_
  refine am_e0 hi_82_13 ?_
  refine am_e32n (as := [.ref 16, .int z9, .int 0]) (la := [some (.ref 16), some (.int z9), some (.int 0)]) (rest := []) hi_82_14 (am_hd0 (M := 82) (by decide) 14) (Nat.le_of_ble_eq_true rfl) (Nat.le_of_ble_eq_true rfl) (show 3 ≤ am_P0.2.2.1 54 from by decide +kernel) rfl (cl_recv (h.1.s (16, 3) (by decide))) rfl rfl (ck_get (d := d) h (h.1.s (16, 3) (by decide))  ) ?_
  rintro v10 S11 ⟨r12, rfl, rfl⟩
  show am_E _ _ _ _ [some (.ref 12)] [.int r12] _ _
  refine am_e2 (v := 12) hi_82_17 rfl ?_
  refine cm_20n h hi_82_18 fun hb15 => ?_
  refine cm_20s h hi_82_21 hb15 (by decide) rfl fun v16 hv16 hv16a hv16b => ?_
  have hv16c : v16.toInt = fl S := hv16
  obtain ⟨z17, hz17⟩ : ∃ q__, am_bin 1 r12 v16 = q__ := ⟨_, rfl⟩
  refine am_e10 (z := z17) hi_82_24 hz17 ?_
  refine am_e33 hi_82_25 ?_
  exact ⟨z17, rfl, rfl⟩
theorem ck_blockHas {sc : Nat × (Nat → Int32)} {d aw : Nat} {S : am_S} (h : SH aw S) : am_E (am_PP sc) (d + 2) 129 0 [some (.ref 12)] [] S (am_N fun v S1 => ∃ r : Int32, v = some (.int r) ∧ (r = 0 ∨ r = 1) ∧ S = S1) := by
  refine am_e2 (v := 12) hi_129_0 rfl ?_
  refine am_e32n (as := [.ref 12]) (la := [some (.ref 12)]) (rest := []) hi_129_1 (am_hd0 (M := 129) (by decide) 1) (Nat.le_of_ble_eq_true rfl) (Nat.le_of_ble_eq_true rfl) (show 1 ≤ am_P0.2.2.1 75 from by decide +kernel) rfl (cl_recv (h.1.s (12, 7) (by decide))) rfl rfl (ck_scount (d := d) h   ) ?_
  rintro v1 S2 ⟨r3, rfl, rfl, h5⟩
  have h5_ : r3.toInt = iv S 14 1 + -1 * fl S := h5
  show am_E _ _ _ _ [some (.ref 12)] [.int r3] _ _
  refine am_e2 (v := 12) hi_129_4 rfl ?_
  refine am_e32n (as := [.ref 12]) (la := [some (.ref 12)]) (rest := [.int r3]) hi_129_5 (am_hd0 (M := 129) (by decide) 5) (Nat.le_of_ble_eq_true rfl) (Nat.le_of_ble_eq_true rfl) (show 1 ≤ am_P0.2.2.1 82 from by decide +kernel) rfl (cl_recv (h.1.s (12, 7) (by decide))) rfl rfl (ck_before (d := d) h   ) ?_
  rintro v7 S8 ⟨r9, rfl, rfl⟩
  show am_E _ _ _ _ [some (.ref 12)] [.int r9, .int r3] _ _
  by_cases c12 : r3.toInt ≤ r9.toInt
  · refine am_e13t hi_129_8 (am_cT (m := r3.toInt) (n := r9.toInt) rfl rfl c12) ?_
    refine am_e0 hi_129_15 ?_
    refine am_e36 hi_129_16 (by decide) ?_
    exact ⟨0, rfl, (by decide), rfl⟩
  · refine am_e13f hi_129_8 (am_cF (m := r3.toInt) (n := r9.toInt) rfl rfl c12) ?_
    refine am_e0 hi_129_11 ?_
    refine am_e18 hi_129_12 ?_
    refine am_e36 hi_129_16 (by decide) ?_
    exact ⟨1, rfl, (by decide), rfl⟩
theorem ck_openBlock {sc : Nat × (Nat → Int32)} {d aw : Nat} {S : am_S} (h : SH aw S) : am_E (am_PP sc) (d + 3) 51 0 [some (.ref 12)] [] S (am_N fun v S1 => v = none ∧ Qu aw (160) S S1 ∧ (iv S1 8 1 = iv S 8 1) ∧ (iv S1 10 1 = iv S 10 1) ∧ (iv S1 14 1 = iv S 14 1)) := by
  refine am_e2 (v := 12) hi_51_0 rfl ?_
  refine cm_20f (r := 16) h hi_51_1 (h.1.s (12, 7) (by decide)) (by decide) rfl ?_
  refine am_e2 (v := 12) hi_51_4 rfl ?_
  refine cm_20f (r := 14) h hi_51_5 (h.1.s (12, 7) (by decide)) (by decide) rfl ?_
  refine am_e32n (as := [.ref 14]) (la := [some (.ref 14)]) (rest := [.ref 16]) hi_51_8 (am_hd0 (M := 51) (by decide) 8) (Nat.le_of_ble_eq_true rfl) (Nat.le_of_ble_eq_true rfl) (show 1 ≤ am_P0.2.2.1 36 from by decide +kernel) rfl (cl_recv (h.1.s (14, 3) (by decide))) rfl rfl (ck_rows (d := (d + 2)) h (h.1.s (14, 3) (by decide))  ) ?_
  rintro v1 S2 ⟨r3, rfl, rfl, h5, h6, h7⟩
  have h5_ : r3.toInt = iv S 14 1 := h5
  have h6_ : 0 ≤ r3.toInt := h6
  have h7_ : r3.toInt ≤ 2097154 := h7
  show am_E _ _ _ _ [some (.ref 12)] [.int r3, .ref 16] _ _
  refine am_e2 (v := 12) hi_51_11 rfl ?_
  refine cm_20f (r := 23) h hi_51_12 (h.1.s (12, 7) (by decide)) (by decide) rfl ?_
  refine am_e32n (as := [.ref 23]) (la := [some (.ref 23)]) (rest := [.int r3, .ref 16]) hi_51_15 (am_hd0 (M := 51) (by decide) 15) (Nat.le_of_ble_eq_true rfl) (Nat.le_of_ble_eq_true rfl) (show 1 ≤ am_P0.2.2.1 48 from by decide +kernel) rfl (cl_recv (h.1.s (23, 9) (by decide))) rfl rfl (ck_j48 (d := (d + 1)) h   ) ?_
  rintro v9 S10 ⟨r11, rfl, rfl, h13, h14, h15⟩
  have h13_ : r11.toInt = iv S 24 1 := h13
  have h14_ : 0 ≤ r11.toInt := h14
  have h15_ : r11.toInt ≤ 2097154 := h15
  show am_E _ _ _ _ [some (.ref 12)] [.int r11, .int r3, .ref 16] _ _
  refine am_e2 (v := 12) hi_51_18 rfl ?_
  refine cm_20f (r := 23) h hi_51_19 (h.1.s (12, 7) (by decide)) (by decide) rfl ?_
  refine am_e32n (as := [.ref 23]) (la := [some (.ref 23)]) (rest := [.int r11, .int r3, .ref 16]) hi_51_22 (am_hd0 (M := 51) (by decide) 22) (Nat.le_of_ble_eq_true rfl) (Nat.le_of_ble_eq_true rfl) (show 1 ≤ am_P0.2.2.1 49 from by decide +kernel) rfl (cl_recv (h.1.s (23, 9) (by decide))) rfl rfl (ck_j49 (d := (d + 1)) h   ) ?_
  rintro v17 S18 ⟨r19, rfl, rfl, h21, h22, h23⟩
  have h21_ : r19.toInt = iv S 26 1 := h21
  have h22_ : 0 ≤ r19.toInt := h22
  have h23_ : r19.toInt ≤ 2097154 := h23
  show am_E _ _ _ _ [some (.ref 12)] [.int r19, .int r11, .int r3, .ref 16] _ _
  refine am_e0 hi_51_25 ?_
  have h25 : c_w 16 = 0 := rfl
  refine am_e32n (as := [.ref 16, .int r3, .int r11, .int r19, .int 0]) (la := [some (.ref 16), some (.int r3), some (.int r11), some (.int r19), some (.int 0), none]) (rest := []) hi_51_26 (am_hd0 (M := 51) (by decide) 26) (Nat.le_of_ble_eq_true rfl) (Nat.le_of_ble_eq_true rfl) (show 5 ≤ am_P0.2.2.1 31 from by decide +kernel) rfl (cl_recv (h.1.s (16, 3) (by decide))) rfl rfl (ck_add (d := d) h (h.1.s (16, 3) (by decide)) (by decide)  ) ?_
  rintro v26 S27 ⟨r28, rfl, h29, h30, h31⟩
  have h30_ : iv S 16 1 ≤ iv S27 16 1 ∧ iv S27 16 1 ≤ iv S 16 1 + 1 := h30
  have h31_ : ∀ j, cl (am_fs S) j = some 3 → j ≠ 16 → iv S27 j 1 = iv S j 1 := h31
  obtain ⟨h33, h34, ⟨h35, h36, h37, h38⟩, ⟨h39, h40, h41⟩, h43⟩ := h29
  have h44 : kd aw S27 = kd aw S := kd_eq h35 h38
  have h45 := h31_ 8 (h.1.s (8, 3) (by decide)) (by decide)
  have h46 := h31_ 10 (h.1.s (10, 3) (by decide)) (by decide)
  have h47 := h31_ 14 (h.1.s (14, 3) (by decide)) (by decide)
  show am_E _ _ _ _ [some (.ref 12)] [.int r28] _ _
  refine am_e6i hi_51_29 ?_
  refine am_e35 hi_51_30 ?_
  exact ⟨rfl, ⟨h33, h34, ⟨(by show nx S27 = nx S; omega), (by show lv S27 = lv S; omega), (by show wr S27 = wr S; omega), h38⟩, ⟨h39, h40, (by show fl S27 = fl S; omega)⟩, (by show EN S27 ≤ EN S + (160); omega)⟩, (by show iv S27 8 1 = iv S 8 1; omega), (by show iv S27 10 1 = iv S 10 1; omega), (by show iv S27 14 1 = iv S 14 1; omega)⟩
theorem ck_closeBlock {sc : Nat × (Nat → Int32)} {d aw : Nat} {S : am_S} (h : SH aw S) : am_E (am_PP sc) (d + 3) 81 0 [some (.ref 12), none] [] S (am_N fun v S1 => v = none ∧ Qu aw (0) S S1 ∧ (iv S1 8 1 = iv S 8 1) ∧ (iv S1 10 1 = iv S 10 1)) := by
  refine am_e2 (v := 12) hi_81_0 rfl ?_
  refine cm_20f (r := 16) h hi_81_1 (h.1.s (12, 7) (by decide)) (by decide) rfl ?_
  refine am_e32n (as := [.ref 16]) (la := [some (.ref 16)]) (rest := []) hi_81_4 (am_hd0 (M := 81) (by decide) 4) (Nat.le_of_ble_eq_true rfl) (Nat.le_of_ble_eq_true rfl) (show 1 ≤ am_P0.2.2.1 36 from by decide +kernel) rfl (cl_recv (h.1.s (16, 3) (by decide))) rfl rfl (ck_rows (d := (d + 2)) h (h.1.s (16, 3) (by decide))  ) ?_
  rintro v1 S2 ⟨r3, rfl, rfl, h5, h6, h7⟩
  have h5_ : r3.toInt = iv S 16 1 := h5
  have h6_ : 0 ≤ r3.toInt := h6
  have h7_ : r3.toInt ≤ 2097154 := h7
  show am_E _ _ _ _ [some (.ref 12), none] [.int r3] _ _
  refine am_e0 hi_81_7 ?_
  obtain ⟨z9, hz9, tz9⟩ := am_subI (x := r3) (y := 1) (m := r3.toInt) (n := (1 : Int)) rfl (by decide) (by omega) (by omega)
  refine am_e10 (z := z9) hi_81_8 hz9 ?_
  refine am_e3 (ls' := [some (.ref 12), some (.int z9)]) hi_81_9 (Nat.le_of_ble_eq_true rfl) rfl ?_
  refine am_e2 (v := 12) hi_81_10 rfl ?_
  refine cm_20f (r := 23) h hi_81_11 (h.1.s (12, 7) (by decide)) (by decide) rfl ?_
  refine am_e2 (v := 12) hi_81_14 rfl ?_
  refine cm_20n h hi_81_15 fun hb10 => ?_
  refine am_e2 (v := 12) hi_81_18 rfl ?_
  refine cm_20f (r := 16) h hi_81_19 (h.1.s (12, 7) (by decide)) (by decide) rfl ?_
  refine am_e1 (v := z9) hi_81_22 rfl ?_
  refine am_e0 hi_81_23 ?_
  refine am_e32n (as := [.ref 16, .int z9, .int 1]) (la := [some (.ref 16), some (.int z9), some (.int 1)]) (rest := [.ref (nw S), .ref 23]) hi_81_24 (am_hd0 (M := 81) (by decide) 24) (Nat.le_of_ble_eq_true rfl) (Nat.le_of_ble_eq_true rfl) (show 3 ≤ am_P0.2.2.1 54 from by decide +kernel) rfl (cl_recv (h.1.s (16, 3) (by decide))) rfl rfl (ck_get (d := (d + 2)) h (h.1.s (16, 3) (by decide))  ) ?_
  rintro v11 S12 ⟨r13, rfl, rfl⟩
  show am_E _ _ _ _ [some (.ref 12), some (.int z9)] [.int r13, .ref (nw S), .ref 23] _ _
  refine am_e2 (v := 12) hi_81_27 rfl ?_
  refine cm_20f (r := 16) h hi_81_28 (h.1.s (12, 7) (by decide)) (by decide) rfl ?_
  refine am_e1 (v := z9) hi_81_31 rfl ?_
  refine am_e0 hi_81_32 ?_
  refine am_e32n (as := [.ref 16, .int z9, .int 2]) (la := [some (.ref 16), some (.int z9), some (.int 2)]) (rest := [.int r13, .ref (nw S), .ref 23]) hi_81_33 (am_hd0 (M := 81) (by decide) 33) (Nat.le_of_ble_eq_true rfl) (Nat.le_of_ble_eq_true rfl) (show 3 ≤ am_P0.2.2.1 54 from by decide +kernel) rfl (cl_recv (h.1.s (16, 3) (by decide))) rfl rfl (ck_get (d := (d + 2)) h (h.1.s (16, 3) (by decide))  ) ?_
  rintro v16 S17 ⟨r18, rfl, rfl⟩
  show am_E _ _ _ _ [some (.ref 12), some (.int z9)] [.int r18, .int r13, .ref (nw S), .ref 23] _ _
  refine am_e2 (v := 12) hi_81_36 rfl ?_
  refine am_e32n (as := [.ref 12]) (la := [some (.ref 12)]) (rest := [.int r18, .int r13, .ref (nw S), .ref 23]) hi_81_37 (am_hd0 (M := 81) (by decide) 37) (Nat.le_of_ble_eq_true rfl) (Nat.le_of_ble_eq_true rfl) (show 1 ≤ am_P0.2.2.1 82 from by decide +kernel) rfl (cl_recv (h.1.s (12, 7) (by decide))) rfl rfl (ck_before (d := (d + 1)) h   ) ?_
  rintro v21 S22 ⟨r23, rfl, rfl⟩
  show am_E _ _ _ _ [some (.ref 12), some (.int z9)] [.int r23, .int r18, .int r13, .ref (nw S), .ref 23] _ _
  refine am_e32n (as := [.ref 23, .ref (nw S), .int r13, .int r18, .int r23]) (la := [some (.ref 23), some (.ref (nw S)), some (.int r13), some (.int r18), some (.int r23), none, none, none]) (rest := []) hi_81_40 (am_hd0 (M := 81) (by decide) 40) (Nat.le_of_ble_eq_true rfl) (Nat.le_of_ble_eq_true rfl) (show 5 ≤ am_P0.2.2.1 83 from by decide +kernel) rfl (cl_recv (h.1.s (23, 9) (by decide))) rfl rfl (ck_jcloseBlock (d := d) h hb10  ) ?_
  rintro v26 S27 ⟨rfl, h29, h30, h31, h32⟩
  have h30_ : iv S27 8 1 = iv S 8 1 := h30
  have h31_ : iv S27 10 1 = iv S 10 1 := h31
  have h32_ : iv S27 14 1 = iv S 14 1 := h32
  obtain ⟨h34, h35, ⟨h36, h37, h38, h39⟩, ⟨h40, h41, h42⟩, h44⟩ := h29
  have h45 : kd aw S27 = kd aw S := kd_eq h36 h39
  show am_E _ _ _ _ [some (.ref 12), some (.int z9)] [] _ _
  refine am_e2 (v := 12) hi_81_43 rfl ?_
  refine cm_20f (r := 14) h34 hi_81_44 (h34.1.s (12, 7) (by decide)) (by decide) rfl ?_
  refine am_e2 (v := 12) hi_81_47 rfl ?_
  refine cm_20f (r := 16) h34 hi_81_48 (h34.1.s (12, 7) (by decide)) (by decide) rfl ?_
  refine am_e1 (v := z9) hi_81_51 rfl ?_
  refine am_e0 hi_81_52 ?_
  refine am_e32n (as := [.ref 16, .int z9, .int 0]) (la := [some (.ref 16), some (.int z9), some (.int 0)]) (rest := [.ref 14]) hi_81_53 (am_hd0 (M := 81) (by decide) 53) (Nat.le_of_ble_eq_true rfl) (Nat.le_of_ble_eq_true rfl) (show 3 ≤ am_P0.2.2.1 54 from by decide +kernel) rfl (cl_recv (h34.1.s (16, 3) (by decide))) rfl rfl (ck_get (d := (d + 2)) h34 (h34.1.s (16, 3) (by decide))  ) ?_
  rintro v46 S47 ⟨r48, rfl, rfl⟩
  show am_E _ _ _ _ [some (.ref 12), some (.int z9)] [.int r48, .ref 14] _ _
  refine am_e32n (as := [.ref 14, .int r48]) (la := [some (.ref 14), some (.int r48)]) (rest := []) hi_81_56 (am_hd0 (M := 81) (by decide) 56) (Nat.le_of_ble_eq_true rfl) (Nat.le_of_ble_eq_true rfl) (show 2 ≤ am_P0.2.2.1 30 from by decide +kernel) rfl (cl_recv (h34.1.s (14, 3) (by decide))) rfl rfl (ck_cut (d := (d + 2)) h34 (h34.1.s (14, 3) (by decide)) (by decide)  ) ?_
  rintro v51 S52 ⟨rfl, h54, h55, h56, h57⟩
  have h55_ : (0 ≤ r48.toInt ∧ r48.toInt < iv S27 14 1 ∧ iv S52 14 1 = r48.toInt) ∨ ((r48.toInt < 0 ∨ iv S27 14 1 ≤ r48.toInt) ∧ iv S52 14 1 = iv S27 14 1) := h55
  have h56_ : EN S52 ≤ EN S27 + c_w 14 * (iv S52 14 1 - iv S27 14 1) := h56
  have h57_ : ∀ j, cl (am_fs S27) j = some 3 → j ≠ 14 → iv S52 j 1 = iv S27 j 1 := h57
  obtain ⟨h59, h60, ⟨h61, h62, h63, h64⟩, ⟨h65, h66, h67⟩⟩ := h54
  have h70 : kd aw S52 = kd aw S27 := kd_eq h61 h64
  have h71 := h57_ 8 (h34.1.s (8, 3) (by decide)) (by decide)
  have h72 := h57_ 10 (h34.1.s (10, 3) (by decide)) (by decide)
  have h73 : EN S52 ≤ EN S27 := by have q := h56_; rw [show c_w 14 = 0 from rfl, Int.zero_mul] at q; omega
  show am_E _ _ _ _ [some (.ref 12), some (.int z9)] [] _ _
  refine am_e2 (v := 12) hi_81_59 rfl ?_
  refine cm_20f (r := 16) h59 hi_81_60 (h59.1.s (12, 7) (by decide)) (by decide) rfl ?_
  refine am_e1 (v := z9) hi_81_63 rfl ?_
  refine am_e32n (as := [.ref 16, .int z9]) (la := [some (.ref 16), some (.int z9)]) (rest := []) hi_81_64 (am_hd0 (M := 81) (by decide) 64) (Nat.le_of_ble_eq_true rfl) (Nat.le_of_ble_eq_true rfl) (show 2 ≤ am_P0.2.2.1 30 from by decide +kernel) rfl (cl_recv (h59.1.s (16, 3) (by decide))) rfl rfl (ck_cut (d := (d + 2)) h59 (h59.1.s (16, 3) (by decide)) (by decide)  ) ?_
  rintro v74 S75 ⟨rfl, h77, h78, h79, h80⟩
  have h78_ : (0 ≤ z9.toInt ∧ z9.toInt < iv S52 16 1 ∧ iv S75 16 1 = z9.toInt) ∨ ((z9.toInt < 0 ∨ iv S52 16 1 ≤ z9.toInt) ∧ iv S75 16 1 = iv S52 16 1) := h78
  have h79_ : EN S75 ≤ EN S52 + c_w 16 * (iv S75 16 1 - iv S52 16 1) := h79
  have h80_ : ∀ j, cl (am_fs S52) j = some 3 → j ≠ 16 → iv S75 j 1 = iv S52 j 1 := h80
  obtain ⟨h82, h83, ⟨h84, h85, h86, h87⟩, ⟨h88, h89, h90⟩⟩ := h77
  have h93 : kd aw S75 = kd aw S52 := kd_eq h84 h87
  have h94 := h80_ 8 (h59.1.s (8, 3) (by decide)) (by decide)
  have h95 := h80_ 10 (h59.1.s (10, 3) (by decide)) (by decide)
  have h96 := h80_ 14 (h59.1.s (14, 3) (by decide)) (by decide)
  have h97 : EN S75 ≤ EN S52 := by have q := h79_; rw [show c_w 16 = 0 from rfl, Int.zero_mul] at q; omega
  show am_E _ _ _ _ [some (.ref 12), some (.int z9)] [] _ _
  refine am_e35 hi_81_67 ?_
  exact ⟨rfl, ⟨h82, ((h35.trans h60).trans h83), ⟨(by show nx S75 = nx S; omega), (by show lv S75 = lv S; omega), (by show wr S75 = wr S; omega), (h87.trans (h64.trans h39))⟩, ⟨(h88.trans (h65.trans h40)), (h89.trans (h66.trans h41)), (by show fl S75 = fl S; omega)⟩, (by show EN S75 ≤ EN S + (0); omega)⟩, (by show iv S75 8 1 = iv S 8 1; omega), (by show iv S75 10 1 = iv S 10 1; omega)⟩
theorem ck_declare {sc : Nat × (Nat → Int32)} {d aw : Nat} {S : am_S} {x : Int32} {y : Int32} {w : Int32} (h : SH aw S) : am_E (am_PP sc) (d + 3) 74 0 [some (.ref 12), some (.int x), some (.int y), some (.int w)] [] S (am_N fun v S1 => v = none ∧ Qu aw (160) S S1 ∧ (iv S1 14 1 ≤ iv S 14 1 + 1) ∧ (iv S 14 1 ≤ iv S1 14 1) ∧ (iv S1 8 1 = iv S 8 1) ∧ (iv S1 10 1 = iv S 10 1)) := by
  refine am_e2 (v := 12) hi_74_0 rfl ?_
  refine am_e32n (as := [.ref 12]) (la := [some (.ref 12)]) (rest := []) hi_74_1 (am_hd0 (M := 74) (by decide) 1) (Nat.le_of_ble_eq_true rfl) (Nat.le_of_ble_eq_true rfl) (show 1 ≤ am_P0.2.2.1 75 from by decide +kernel) rfl (cl_recv (h.1.s (12, 7) (by decide))) rfl rfl (ck_scount (d := (d + 1)) h   ) ?_
  rintro v1 S2 ⟨r3, rfl, rfl, h5⟩
  have h5_ : r3.toInt = iv S 14 1 + -1 * fl S := h5
  show am_E _ _ _ _ [some (.ref 12), some (.int x), some (.int y), some (.int w)] [.int r3] _ _
  refine am_e0 hi_74_4 ?_
  by_cases c7 : r3.toInt < (200 : Int)
  · refine am_e13t hi_74_7 (am_cT (m := r3.toInt) (n := (200 : Int)) rfl (by decide) c7) ?_
    refine am_e2 (v := 12) hi_74_20 rfl ?_
    refine cm_20f (r := 14) h hi_74_21 (h.1.s (12, 7) (by decide)) (by decide) rfl ?_
    refine am_e1 (v := x) hi_74_24 rfl ?_
    refine am_e1 (v := y) hi_74_25 rfl ?_
    refine am_e0 hi_74_26 ?_
    refine am_e0 hi_74_27 ?_
    have h8 : c_w 14 = 0 := rfl
    refine am_e32n (as := [.ref 14, .int x, .int y, .int 0, .int 0]) (la := [some (.ref 14), some (.int x), some (.int y), some (.int 0), some (.int 0), none]) (rest := []) hi_74_28 (am_hd0 (M := 74) (by decide) 28) (Nat.le_of_ble_eq_true rfl) (Nat.le_of_ble_eq_true rfl) (show 5 ≤ am_P0.2.2.1 31 from by decide +kernel) rfl (cl_recv (h.1.s (14, 3) (by decide))) rfl rfl (ck_add (d := d) h (h.1.s (14, 3) (by decide)) (by decide)  ) ?_
    rintro v9 S10 ⟨r11, rfl, h12, h13, h14⟩
    have h13_ : iv S 14 1 ≤ iv S10 14 1 ∧ iv S10 14 1 ≤ iv S 14 1 + 1 := h13
    have h14_ : ∀ j, cl (am_fs S) j = some 3 → j ≠ 14 → iv S10 j 1 = iv S j 1 := h14
    obtain ⟨h16, h17, ⟨h18, h19, h20, h21⟩, ⟨h22, h23, h24⟩, h26⟩ := h12
    have h27 : kd aw S10 = kd aw S := kd_eq h18 h21
    have h28 := h14_ 8 (h.1.s (8, 3) (by decide)) (by decide)
    have h29 := h14_ 10 (h.1.s (10, 3) (by decide)) (by decide)
    show am_E _ _ _ _ [some (.ref 12), some (.int x), some (.int y), some (.int w)] [.int r11] _ _
    refine am_e6i hi_74_31 ?_
    refine am_e2 (v := 12) hi_74_32 rfl ?_
    refine cm_20n h16 hi_74_33 fun hb30 => ?_
    refine am_e2 (v := 12) hi_74_36 rfl ?_
    refine cm_20n h16 hi_74_37 fun hb31 => ?_
    refine cm_20i h16 hi_74_40 hb31 (by decide) rfl fun v32 hv32 => ?_
    have hv32_ : v32.toInt = iv S10 (nw S10) 7 := hv32
    refine am_e2 (v := 12) hi_74_43 rfl ?_
    refine am_e32n (as := [.ref 12]) (la := [some (.ref 12)]) (rest := [.int v32, .ref (nw S10)]) hi_74_44 (am_hd0 (M := 74) (by decide) 44) (Nat.le_of_ble_eq_true rfl) (Nat.le_of_ble_eq_true rfl) (show 1 ≤ am_P0.2.2.1 75 from by decide +kernel) rfl (cl_recv (h16.1.s (12, 7) (by decide))) rfl rfl (ck_scount (d := (d + 1)) h16   ) ?_
    rintro v33 S34 ⟨r35, rfl, rfl, h37⟩
    have h37_ : r35.toInt = iv S10 14 1 + -1 * fl S10 := h37
    show am_E _ _ _ _ [some (.ref 12), some (.int x), some (.int y), some (.int w)] [.int r35, .int v32, .ref (nw S10)] _ _
    refine am_e32n (as := [.int v32, .int r35]) (la := [some (.int v32), some (.int r35)]) (rest := [.ref (nw S10)]) hi_74_47 (am_hd0 (M := 74) (by decide) 47) (Nat.le_of_ble_eq_true rfl) (Nat.le_of_ble_eq_true rfl) (show 2 ≤ am_P0.2.2.1 20 from by decide +kernel) rfl rfl rfl rfl (ck_max (d := (d + 2)) h16   ) ?_
    rintro v39 S40 ⟨r41, rfl, rfl, h43, h44, h45⟩
    have h43_ : v32.toInt ≤ r41.toInt := h43
    have h44_ : r35.toInt ≤ r41.toInt := h44
    have h45_ : r41.toInt = v32.toInt ∨ r41.toInt = r35.toInt := h45
    show am_E _ _ _ _ [some (.ref 12), some (.int x), some (.int y), some (.int w)] [.int r41, .ref (nw S10)] _ _
    refine cm_21 (v := .int r41) h16 hi_74_50 hb31 (by decide) (by decide) rfl ⟨_, rfl⟩ rfl fun S47 h48 => ?_
    obtain ⟨h49, h50, ⟨h51, h52, h53, h54⟩, ⟨h55, h56, h57⟩, h58, h59⟩ := h48
    have h60 : kd aw S47 = kd aw S10 := kd_eq h51 h54
    have h61 := h58 8 (h16.1.s (8, 3) (by decide))
    have h62 := h58 10 (h16.1.s (10, 3) (by decide))
    have h63 := h58 14 (h16.1.s (14, 3) (by decide))
    refine am_e35 hi_74_53 ?_
    exact ⟨rfl, ⟨h49, (h17.trans h50), ⟨(by show nx S47 = nx S; omega), (by show lv S47 = lv S; omega), (by show wr S47 = wr S; omega), (h54.trans h21)⟩, ⟨(h55.trans h22), (h56.trans h23), (by show fl S47 = fl S; omega)⟩, (by show EN S47 ≤ EN S + (160); omega)⟩, (by show iv S47 14 1 ≤ iv S 14 1 + 1; omega), (by show iv S 14 1 ≤ iv S47 14 1; omega), (by show iv S47 8 1 = iv S 8 1; omega), (by show iv S47 10 1 = iv S 10 1; omega)⟩
  · refine am_e13f hi_74_7 (am_cF (m := r3.toInt) (n := (200 : Int)) rfl (by decide) c7) ?_
    refine am_e2 (v := 12) hi_74_10 rfl ?_
    refine cm_20f (r := 1) h hi_74_11 (h.1.s (12, 7) (by decide)) (by decide) rfl ?_
    refine am_e0 hi_74_14 ?_
    refine am_e1 (v := w) hi_74_16 rfl ?_
    refine am_e32n (as := [.ref 1, .int 16, .int w]) (la := [some (.ref 1), some (.int 16), some (.int w)]) (rest := []) hi_74_17 (am_hd0 (M := 74) (by decide) 17) (Nat.le_of_ble_eq_true rfl) (Nat.le_of_ble_eq_true rfl) (show 3 ≤ am_P0.2.2.1 76 from by decide +kernel) rfl (cl_recv (h.1.s (1, 1) (by decide))) rfl rfl (ck_note (d := (d + 2)) h   ) ?_
    rintro v64 S65 ⟨rfl, h67⟩
    obtain ⟨h69, h70, ⟨h71, h72, h73, h74⟩, ⟨h75, h76, h77⟩, h78, h79⟩ := h67
    have h80 : kd aw S65 = kd aw S := kd_eq h71 h74
    have h81 := h78 8 (h.1.s (8, 3) (by decide))
    have h82 := h78 10 (h.1.s (10, 3) (by decide))
    have h83 := h78 14 (h.1.s (14, 3) (by decide))
    show am_E _ _ _ _ [some (.ref 12), some (.int x), some (.int y), some (.int w)] [] _ _
    refine am_e2 (v := 12) hi_74_20 rfl ?_
    refine cm_20f (r := 14) h69 hi_74_21 (h69.1.s (12, 7) (by decide)) (by decide) rfl ?_
    refine am_e1 (v := x) hi_74_24 rfl ?_
    refine am_e1 (v := y) hi_74_25 rfl ?_
    refine am_e0 hi_74_26 ?_
    refine am_e0 hi_74_27 ?_
    have h84 : c_w 14 = 0 := rfl
    refine am_e32n (as := [.ref 14, .int x, .int y, .int 0, .int 0]) (la := [some (.ref 14), some (.int x), some (.int y), some (.int 0), some (.int 0), none]) (rest := []) hi_74_28 (am_hd0 (M := 74) (by decide) 28) (Nat.le_of_ble_eq_true rfl) (Nat.le_of_ble_eq_true rfl) (show 5 ≤ am_P0.2.2.1 31 from by decide +kernel) rfl (cl_recv (h69.1.s (14, 3) (by decide))) rfl rfl (ck_add (d := d) h69 (h69.1.s (14, 3) (by decide)) (by decide)  ) ?_
    rintro v85 S86 ⟨r87, rfl, h88, h89, h90⟩
    have h89_ : iv S65 14 1 ≤ iv S86 14 1 ∧ iv S86 14 1 ≤ iv S65 14 1 + 1 := h89
    have h90_ : ∀ j, cl (am_fs S65) j = some 3 → j ≠ 14 → iv S86 j 1 = iv S65 j 1 := h90
    obtain ⟨h92, h93, ⟨h94, h95, h96, h97⟩, ⟨h98, h99, h100⟩, h102⟩ := h88
    have h103 : kd aw S86 = kd aw S65 := kd_eq h94 h97
    have h104 := h90_ 8 (h69.1.s (8, 3) (by decide)) (by decide)
    have h105 := h90_ 10 (h69.1.s (10, 3) (by decide)) (by decide)
    show am_E _ _ _ _ [some (.ref 12), some (.int x), some (.int y), some (.int w)] [.int r87] _ _
    refine am_e6i hi_74_31 ?_
    refine am_e2 (v := 12) hi_74_32 rfl ?_
    refine cm_20n h92 hi_74_33 fun hb106 => ?_
    refine am_e2 (v := 12) hi_74_36 rfl ?_
    refine cm_20n h92 hi_74_37 fun hb107 => ?_
    refine cm_20i h92 hi_74_40 hb107 (by decide) rfl fun v108 hv108 => ?_
    have hv108_ : v108.toInt = iv S86 (nw S86) 7 := hv108
    refine am_e2 (v := 12) hi_74_43 rfl ?_
    refine am_e32n (as := [.ref 12]) (la := [some (.ref 12)]) (rest := [.int v108, .ref (nw S86)]) hi_74_44 (am_hd0 (M := 74) (by decide) 44) (Nat.le_of_ble_eq_true rfl) (Nat.le_of_ble_eq_true rfl) (show 1 ≤ am_P0.2.2.1 75 from by decide +kernel) rfl (cl_recv (h92.1.s (12, 7) (by decide))) rfl rfl (ck_scount (d := (d + 1)) h92   ) ?_
    rintro v109 S110 ⟨r111, rfl, rfl, h113⟩
    have h113_ : r111.toInt = iv S86 14 1 + -1 * fl S86 := h113
    show am_E _ _ _ _ [some (.ref 12), some (.int x), some (.int y), some (.int w)] [.int r111, .int v108, .ref (nw S86)] _ _
    refine am_e32n (as := [.int v108, .int r111]) (la := [some (.int v108), some (.int r111)]) (rest := [.ref (nw S86)]) hi_74_47 (am_hd0 (M := 74) (by decide) 47) (Nat.le_of_ble_eq_true rfl) (Nat.le_of_ble_eq_true rfl) (show 2 ≤ am_P0.2.2.1 20 from by decide +kernel) rfl rfl rfl rfl (ck_max (d := (d + 2)) h92   ) ?_
    rintro v115 S116 ⟨r117, rfl, rfl, h119, h120, h121⟩
    have h119_ : v108.toInt ≤ r117.toInt := h119
    have h120_ : r111.toInt ≤ r117.toInt := h120
    have h121_ : r117.toInt = v108.toInt ∨ r117.toInt = r111.toInt := h121
    show am_E _ _ _ _ [some (.ref 12), some (.int x), some (.int y), some (.int w)] [.int r117, .ref (nw S86)] _ _
    refine cm_21 (v := .int r117) h92 hi_74_50 hb107 (by decide) (by decide) rfl ⟨_, rfl⟩ rfl fun S123 h124 => ?_
    obtain ⟨h125, h126, ⟨h127, h128, h129, h130⟩, ⟨h131, h132, h133⟩, h134, h135⟩ := h124
    have h136 : kd aw S123 = kd aw S86 := kd_eq h127 h130
    have h137 := h134 8 (h92.1.s (8, 3) (by decide))
    have h138 := h134 10 (h92.1.s (10, 3) (by decide))
    have h139 := h134 14 (h92.1.s (14, 3) (by decide))
    refine am_e35 hi_74_53 ?_
    exact ⟨rfl, ⟨h125, ((h70.trans h93).trans h126), ⟨(by show nx S123 = nx S; omega), (by show lv S123 = lv S; omega), (by show wr S123 = wr S; omega), (h130.trans (h97.trans h74))⟩, ⟨(h131.trans (h98.trans h75)), (h132.trans (h99.trans h76)), (by show fl S123 = fl S; omega)⟩, (by show EN S123 ≤ EN S + (160); omega)⟩, (by show iv S123 14 1 ≤ iv S 14 1 + 1; omega), (by show iv S 14 1 ≤ iv S123 14 1; omega), (by show iv S123 8 1 = iv S 8 1; omega), (by show iv S123 10 1 = iv S 10 1; omega)⟩
theorem ck_markLatest {sc : Nat × (Nat → Int32)} {d aw : Nat} {S : am_S} {x : Int32} (h : SH aw S) : am_E (am_PP sc) (d + 1) 141 0 [some (.ref 12), some (.int x), none] [] S (am_N fun v S1 => v = none ∧ Sm aw S S1) := by
  refine am_e2 (v := 12) hi_141_0 rfl ?_
  refine cm_20f (r := 14) h hi_141_1 (h.1.s (12, 7) (by decide)) (by decide) rfl ?_
  refine am_e32n (as := [.ref 14]) (la := [some (.ref 14)]) (rest := []) hi_141_4 (am_hd0 (M := 141) (by decide) 4) (Nat.le_of_ble_eq_true rfl) (Nat.le_of_ble_eq_true rfl) (show 1 ≤ am_P0.2.2.1 36 from by decide +kernel) rfl (cl_recv (h.1.s (14, 3) (by decide))) rfl rfl (ck_rows (d := d) h (h.1.s (14, 3) (by decide))  ) ?_
  rintro v1 S2 ⟨r3, rfl, rfl, h5, h6, h7⟩
  have h5_ : r3.toInt = iv S 14 1 := h5
  have h6_ : 0 ≤ r3.toInt := h6
  have h7_ : r3.toInt ≤ 2097154 := h7
  show am_E _ _ _ _ [some (.ref 12), some (.int x), none] [.int r3] _ _
  refine am_e0 hi_141_7 ?_
  obtain ⟨z9, hz9, tz9⟩ := am_subI (x := r3) (y := 1) (m := r3.toInt) (n := (1 : Int)) rfl (by decide) (by omega) (by omega)
  refine am_e10 (z := z9) hi_141_8 hz9 ?_
  refine am_e3 (ls' := [some (.ref 12), some (.int x), some (.int z9)]) hi_141_9 (Nat.le_of_ble_eq_true rfl) rfl ?_
  refine am_e2 (v := 12) hi_141_10 rfl ?_
  refine cm_20f (r := 14) h hi_141_11 (h.1.s (12, 7) (by decide)) (by decide) rfl ?_
  refine am_e1 (v := z9) hi_141_14 rfl ?_
  refine am_e0 hi_141_15 ?_
  refine am_e2 (v := 12) hi_141_16 rfl ?_
  refine cm_20f (r := 14) h hi_141_17 (h.1.s (12, 7) (by decide)) (by decide) rfl ?_
  refine am_e1 (v := z9) hi_141_20 rfl ?_
  refine am_e0 hi_141_21 ?_
  refine am_e32n (as := [.ref 14, .int z9, .int 1]) (la := [some (.ref 14), some (.int z9), some (.int 1)]) (rest := [.int 1, .int z9, .ref 14]) hi_141_22 (am_hd0 (M := 141) (by decide) 22) (Nat.le_of_ble_eq_true rfl) (Nat.le_of_ble_eq_true rfl) (show 3 ≤ am_P0.2.2.1 54 from by decide +kernel) rfl (cl_recv (h.1.s (14, 3) (by decide))) rfl rfl (ck_get (d := d) h (h.1.s (14, 3) (by decide))  ) ?_
  rintro v10 S11 ⟨r12, rfl, rfl⟩
  show am_E _ _ _ _ [some (.ref 12), some (.int x), some (.int z9)] [.int r12, .int 1, .int z9, .ref 14] _ _
  refine am_e1 (v := x) hi_141_25 rfl ?_
  obtain ⟨z15, hz15⟩ : ∃ q__, am_bin 4 r12 x = q__ := ⟨_, rfl⟩
  refine am_e10 (z := z15) hi_141_26 hz15 ?_
  refine am_e32n (as := [.ref 14, .int z9, .int 1, .int z15]) (la := [some (.ref 14), some (.int z9), some (.int 1), some (.int z15)]) (rest := []) hi_141_27 (am_hd0 (M := 141) (by decide) 27) (Nat.le_of_ble_eq_true rfl) (Nat.le_of_ble_eq_true rfl) (show 4 ≤ am_P0.2.2.1 86 from by decide +kernel) rfl (cl_recv (h.1.s (14, 3) (by decide))) rfl rfl (ck_set (d := d) h (h.1.s (14, 3) (by decide)) (by decide)  ) ?_
  rintro v16 S17 ⟨rfl, h19⟩
  obtain ⟨h21, h22, ⟨h23, h24, h25, h26⟩, ⟨h27, h28, h29⟩, h30, h31⟩ := h19
  have h32 : kd aw S17 = kd aw S := kd_eq h23 h26
  show am_E _ _ _ _ [some (.ref 12), some (.int x), some (.int z9)] [] _ _
  refine am_e35 hi_141_30 ?_
  exact ⟨rfl, ⟨h21, h22, ⟨(by show nx S17 = nx S; omega), (by show lv S17 = lv S; omega), (by show wr S17 = wr S; omega), h26⟩, ⟨h27, h28, (by show fl S17 = fl S; omega)⟩, (fun t ht => (h30 t ht)), (by show EN S17 ≤ EN S; omega)⟩⟩
theorem cf_reveal {sc : Nat × (Nat → Int32)} {d aw : Nat} {Sb : am_S} {x : Int32} {Q : Option (Option Value) → am_S → Prop} (h : SH aw Sb) (hx0 : ∀ (S : am_S) (i : Int32), Sm aw Sb S → am_E (am_PP sc) (d + 1) 149 47 [some (.ref 12), some (.int x), some (.int i)] [] S Q) : ∀ (N : Nat) (S : am_S) (i : Int32), Sm aw Sb S → 2147483647 - i.toInt < (N : Int) → am_E (am_PP sc) (d + 1) 149 10 [some (.ref 12), some (.int x), some (.int i)] [] S Q := by
  intro N
  induction N with
  | zero =>
    intro S  i hrel   hN
    have := i32_le i
    have := i32_ge i
    exfalso
    omega
  | succ N ih =>
    intro S  i hrel   hN
    have hl_i := i32_le i
    have hg_i := i32_ge i
    obtain ⟨h1, h2, ⟨h3, h4, h5, h6⟩, ⟨h7, h8, h9⟩, h10, h11⟩ := hrel
    have h12 : kd aw S = kd aw Sb := kd_eq h3 h6
    refine am_e1 (v := i) hi_149_10 rfl ?_
    refine am_e2 (v := 12) hi_149_11 rfl ?_
    refine cm_20f (r := 14) h1 hi_149_12 (h1.1.s (12, 7) (by decide)) (by decide) rfl ?_
    refine am_e32n (as := [.ref 14]) (la := [some (.ref 14)]) (rest := [.int i]) hi_149_15 (am_hd0 (M := 149) (by decide) 15) (Nat.le_of_ble_eq_true rfl) (Nat.le_of_ble_eq_true rfl) (show 1 ≤ am_P0.2.2.1 36 from by decide +kernel) rfl (cl_recv (h1.1.s (14, 3) (by decide))) rfl rfl (ck_rows (d := d) h1 (h1.1.s (14, 3) (by decide))  ) ?_
    rintro v13 S14 ⟨r15, rfl, rfl, h17, h18, h19⟩
    have h17_ : r15.toInt = iv S 14 1 := h17
    have h18_ : 0 ≤ r15.toInt := h18
    have h19_ : r15.toInt ≤ 2097154 := h19
    show am_E _ _ _ _ [some (.ref 12), some (.int x), some (.int i)] [.int r15, .int i] _ _
    by_cases c21 : r15.toInt ≤ i.toInt
    · refine am_e13t hi_149_18 (am_cT (m := i.toInt) (n := r15.toInt) rfl rfl c21) ?_
      exact hx0 _ i ⟨h1, h2, ⟨(by show nx S = nx Sb; omega), (by show lv S = lv Sb; omega), (by show wr S = wr Sb; omega), h6⟩, ⟨h7, h8, (by show fl S = fl Sb; omega)⟩, (fun t ht => (h10 t ht)), (by show EN S ≤ EN Sb; omega)⟩
    · refine am_e13f hi_149_18 (am_cF (m := i.toInt) (n := r15.toInt) rfl rfl c21) ?_
      refine am_e2 (v := 12) hi_149_21 rfl ?_
      refine cm_20f (r := 14) h1 hi_149_22 (h1.1.s (12, 7) (by decide)) (by decide) rfl ?_
      refine am_e1 (v := i) hi_149_25 rfl ?_
      refine am_e0 hi_149_26 ?_
      refine am_e2 (v := 12) hi_149_27 rfl ?_
      refine cm_20f (r := 14) h1 hi_149_28 (h1.1.s (12, 7) (by decide)) (by decide) rfl ?_
      refine am_e1 (v := i) hi_149_31 rfl ?_
      refine am_e0 hi_149_32 ?_
      refine am_e32n (as := [.ref 14, .int i, .int 1]) (la := [some (.ref 14), some (.int i), some (.int 1)]) (rest := [.int 1, .int i, .ref 14]) hi_149_33 (am_hd0 (M := 149) (by decide) 33) (Nat.le_of_ble_eq_true rfl) (Nat.le_of_ble_eq_true rfl) (show 3 ≤ am_P0.2.2.1 54 from by decide +kernel) rfl (cl_recv (h1.1.s (14, 3) (by decide))) rfl rfl (ck_get (d := d) h1 (h1.1.s (14, 3) (by decide))  ) ?_
      rintro v22 S23 ⟨r24, rfl, rfl⟩
      show am_E _ _ _ _ [some (.ref 12), some (.int x), some (.int i)] [.int r24, .int 1, .int i, .ref 14] _ _
      refine am_e0 hi_149_36 ?_
      obtain ⟨z27, hz27⟩ : ∃ q__, am_bin 4 r24 1 = q__ := ⟨_, rfl⟩
      refine am_e10 (z := z27) hi_149_37 hz27 ?_
      refine am_e32n (as := [.ref 14, .int i, .int 1, .int z27]) (la := [some (.ref 14), some (.int i), some (.int 1), some (.int z27)]) (rest := []) hi_149_38 (am_hd0 (M := 149) (by decide) 38) (Nat.le_of_ble_eq_true rfl) (Nat.le_of_ble_eq_true rfl) (show 4 ≤ am_P0.2.2.1 86 from by decide +kernel) rfl (cl_recv (h1.1.s (14, 3) (by decide))) rfl rfl (ck_set (d := d) h1 (h1.1.s (14, 3) (by decide)) (by decide)  ) ?_
      rintro v28 S29 ⟨rfl, h31⟩
      obtain ⟨h33, h34, ⟨h35, h36, h37, h38⟩, ⟨h39, h40, h41⟩, h42, h43⟩ := h31
      have h44 : kd aw S29 = kd aw S := kd_eq h35 h38
      show am_E _ _ _ _ [some (.ref 12), some (.int x), some (.int i)] [] _ _
      obtain ⟨z45, hz45, tz45⟩ := am_addI (x := i) (y := 1) (m := i.toInt) (n := (1 : Int)) rfl (by decide) (by omega) (by omega)
      refine am_e5 (v := i) (z := z45) (ls' := [some (.ref 12), some (.int x), some (.int z45)]) hi_149_41 rfl hz45 rfl ?_
      refine am_e18 hi_149_44 ?_
      exact ih _ z45 ⟨h33, (h2.trans h34), ⟨(by show nx S29 = nx Sb; omega), (by show lv S29 = lv Sb; omega), (by show wr S29 = wr Sb; omega), (h38.trans h6)⟩, ⟨(h39.trans h7), (h40.trans h8), (by show fl S29 = fl Sb; omega)⟩, (fun t ht => ((h42 t (h2.1 _ _ ht)).trans (h10 t ht))), (by show EN S29 ≤ EN Sb; omega)⟩ (by show 2147483647 - z45.toInt < (N : Int); omega)
theorem ck_reveal {sc : Nat × (Nat → Int32)} {d aw : Nat} {S : am_S} {x : Int32} (h : SH aw S) : am_E (am_PP sc) (d + 1) 149 0 [some (.ref 12), some (.int x), none] [] S (am_N fun v S1 => v = none ∧ Sm aw S S1) := by
  refine am_e2 (v := 12) hi_149_0 rfl ?_
  refine cm_20n h hi_149_1 fun hb1 => ?_
  refine cm_20s h hi_149_4 hb1 (by decide) rfl fun v2 hv2 hv2a hv2b => ?_
  have hv2c : v2.toInt = fl S := hv2
  refine am_e1 (v := x) hi_149_7 rfl ?_
  obtain ⟨z3, hz3⟩ : ∃ q__, am_bin 0 v2 x = q__ := ⟨_, rfl⟩
  refine am_e10 (z := z3) hi_149_8 hz3 ?_
  refine am_e3 (ls' := [some (.ref 12), some (.int x), some (.int z3)]) hi_149_9 (Nat.le_of_ble_eq_true rfl) rfl ?_
  refine cf_reveal (d := d) (Sb := S) (x := x) h    ?_ ((2147483647 - z3.toInt).toNat + 1) S z3 (Sm.refl h) (by show 2147483647 - z3.toInt < _; omega)
  · intro S5 i4 h6
    obtain ⟨h7, h8, ⟨h9, h10, h11, h12⟩, ⟨h13, h14, h15⟩, h16, h17⟩ := h6
    have h18 : kd aw S5 = kd aw S := kd_eq h9 h12
    show am_E _ _ _ _ [some (.ref 12), some (.int x), some (.int i4)] [] _ _
    refine am_e35 hi_149_47 ?_
    exact ⟨rfl, ⟨h7, h8, ⟨(by show nx S5 = nx S; omega), (by show lv S5 = lv S; omega), (by show wr S5 = wr S; omega), h12⟩, ⟨h13, h14, (by show fl S5 = fl S; omega)⟩, (fun t ht => (h16 t ht)), (by show EN S5 ≤ EN S; omega)⟩⟩
theorem cf_hasClosing {sc : Nat × (Nat → Int32)} {d aw : Nat} {Sb : am_S} {Q : Option (Option Value) → am_S → Prop} (h : SH aw Sb) (hx0 : ∀ (i : Int32), am_E (am_PP sc) (d + 1) 151 41 [some (.ref 12), some (.int i)] [] Sb Q) (hx1 : ∀ (i : Int32), am_E (am_PP sc) (d + 1) 151 33 [some (.ref 12), some (.int i)] [] Sb Q) : ∀ (N : Nat) (i : Int32), 2147483647 - i.toInt < (N : Int) → am_E (am_PP sc) (d + 1) 151 8 [some (.ref 12), some (.int i)] [] Sb Q := by
  intro N
  induction N with
  | zero =>
    intro   i    hN
    have := i32_le i
    have := i32_ge i
    exfalso
    omega
  | succ N ih =>
    intro   i    hN
    have hl_i := i32_le i
    have hg_i := i32_ge i
    refine am_e1 (v := i) hi_151_8 rfl ?_
    refine am_e2 (v := 12) hi_151_9 rfl ?_
    refine cm_20f (r := 14) h hi_151_10 (h.1.s (12, 7) (by decide)) (by decide) rfl ?_
    refine am_e32n (as := [.ref 14]) (la := [some (.ref 14)]) (rest := [.int i]) hi_151_13 (am_hd0 (M := 151) (by decide) 13) (Nat.le_of_ble_eq_true rfl) (Nat.le_of_ble_eq_true rfl) (show 1 ≤ am_P0.2.2.1 36 from by decide +kernel) rfl (cl_recv (h.1.s (14, 3) (by decide))) rfl rfl (ck_rows (d := d) h (h.1.s (14, 3) (by decide))  ) ?_
    rintro v1 S2 ⟨r3, rfl, rfl, h5, h6, h7⟩
    have h5_ : r3.toInt = iv Sb 14 1 := h5
    have h6_ : 0 ≤ r3.toInt := h6
    have h7_ : r3.toInt ≤ 2097154 := h7
    show am_E _ _ _ _ [some (.ref 12), some (.int i)] [.int r3, .int i] _ _
    by_cases c9 : r3.toInt ≤ i.toInt
    · refine am_e13t hi_151_16 (am_cT (m := i.toInt) (n := r3.toInt) rfl rfl c9) ?_
      exact hx0 i
    · refine am_e13f hi_151_16 (am_cF (m := i.toInt) (n := r3.toInt) rfl rfl c9) ?_
      refine am_e2 (v := 12) hi_151_19 rfl ?_
      refine cm_20f (r := 14) h hi_151_20 (h.1.s (12, 7) (by decide)) (by decide) rfl ?_
      refine am_e1 (v := i) hi_151_23 rfl ?_
      refine am_e0 hi_151_24 ?_
      refine am_e32n (as := [.ref 14, .int i, .int 1]) (la := [some (.ref 14), some (.int i), some (.int 1)]) (rest := []) hi_151_25 (am_hd0 (M := 151) (by decide) 25) (Nat.le_of_ble_eq_true rfl) (Nat.le_of_ble_eq_true rfl) (show 3 ≤ am_P0.2.2.1 54 from by decide +kernel) rfl (cl_recv (h.1.s (14, 3) (by decide))) rfl rfl (ck_get (d := d) h (h.1.s (14, 3) (by decide))  ) ?_
      rintro v10 S11 ⟨r12, rfl, rfl⟩
      show am_E _ _ _ _ [some (.ref 12), some (.int i)] [.int r12] _ _
      refine am_e0 hi_151_28 ?_
      obtain ⟨z15, hz15⟩ : ∃ q__, am_bin 3 r12 4 = q__ := ⟨_, rfl⟩
      refine am_e10 (z := z15) hi_151_29 hz15 ?_
      by_cases c16 : z15.toInt = (0 : Int)
      · refine am_e12t hi_151_30 (am_cT (m := z15.toInt) (n := (0 : Int)) rfl (by decide) c16) ?_
        obtain ⟨z17, hz17, tz17⟩ := am_addI (x := i) (y := 1) (m := i.toInt) (n := (1 : Int)) rfl (by decide) (by omega) (by omega)
        refine am_e5 (v := i) (z := z17) (ls' := [some (.ref 12), some (.int z17)]) hi_151_35 rfl hz17 rfl ?_
        refine am_e18 hi_151_38 ?_
        exact ih z17 (by show 2147483647 - z17.toInt < (N : Int); omega)
      · refine am_e12f hi_151_30 (am_cF (m := z15.toInt) (n := (0 : Int)) rfl (by decide) c16) ?_
        exact hx1 i
theorem ck_hasClosing {sc : Nat × (Nat → Int32)} {d aw : Nat} {S : am_S} (h : SH aw S) : am_E (am_PP sc) (d + 1) 151 0 [some (.ref 12), none] [] S (am_N fun v S1 => ∃ r : Int32, v = some (.int r) ∧ (r = 0 ∨ r = 1) ∧ S = S1) := by
  refine am_e2 (v := 12) hi_151_0 rfl ?_
  refine cm_20n h hi_151_1 fun hb1 => ?_
  refine cm_20s h hi_151_4 hb1 (by decide) rfl fun v2 hv2 hv2a hv2b => ?_
  have hv2c : v2.toInt = fl S := hv2
  refine am_e3 (ls' := [some (.ref 12), some (.int v2)]) hi_151_7 (Nat.le_of_ble_eq_true rfl) rfl ?_
  refine cf_hasClosing (d := d) (Sb := S) h    ?_ ?_ ((2147483647 - v2.toInt).toNat + 1) v2 (by show 2147483647 - v2.toInt < _; omega)
  · intro i3
    show am_E _ _ _ _ [some (.ref 12), some (.int i3)] [] _ _
    refine am_e0 hi_151_41 ?_
    refine am_e36 hi_151_42 (by decide) ?_
    exact ⟨0, rfl, (by decide), rfl⟩
  · intro i6
    show am_E _ _ _ _ [some (.ref 12), some (.int i6)] [] _ _
    refine am_e0 hi_151_33 ?_
    refine am_e36 hi_151_34 (by decide) ?_
    exact ⟨1, rfl, (by decide), rfl⟩
theorem cf_visible {sc : Nat × (Nat → Int32)} {d aw : Nat} {Sb : am_S} {x : Int32} {Q : Option (Option Value) → am_S → Prop} (h : SH aw Sb) (hx0 : ∀ (i : Int32), am_E (am_PP sc) (d + 1) 67 49 [some (.ref 12), some (.int x), some (.int i)] [] Sb Q) (hx1 : ∀ (i : Int32), am_E (am_PP sc) (d + 1) 67 41 [some (.ref 12), some (.int x), some (.int i)] [] Sb Q) : ∀ (N : Nat) (i : Int32), 2147483648 + i.toInt < (N : Int) → am_E (am_PP sc) (d + 1) 67 10 [some (.ref 12), some (.int x), some (.int i)] [] Sb Q := by
  intro N
  induction N with
  | zero =>
    intro   i    hN
    have := i32_le i
    have := i32_ge i
    exfalso
    omega
  | succ N ih =>
    intro   i    hN
    have hl_i := i32_le i
    have hg_i := i32_ge i
    refine am_e1 (v := i) hi_67_10 rfl ?_
    by_cases c1 : i.toInt < (0 : Int)
    · refine am_e12t hi_67_11 (am_cT (m := i.toInt) (n := (0 : Int)) rfl (by decide) c1) ?_
      exact hx0 i
    · refine am_e12f hi_67_11 (am_cF (m := i.toInt) (n := (0 : Int)) rfl (by decide) c1) ?_
      refine am_e2 (v := 12) hi_67_14 rfl ?_
      refine cm_20f (r := 14) h hi_67_15 (h.1.s (12, 7) (by decide)) (by decide) rfl ?_
      refine am_e1 (v := i) hi_67_18 rfl ?_
      refine am_e0 hi_67_19 ?_
      refine am_e32n (as := [.ref 14, .int i, .int 0]) (la := [some (.ref 14), some (.int i), some (.int 0)]) (rest := []) hi_67_20 (am_hd0 (M := 67) (by decide) 20) (Nat.le_of_ble_eq_true rfl) (Nat.le_of_ble_eq_true rfl) (show 3 ≤ am_P0.2.2.1 54 from by decide +kernel) rfl (cl_recv (h.1.s (14, 3) (by decide))) rfl rfl (ck_get (d := d) h (h.1.s (14, 3) (by decide))  ) ?_
      rintro v2 S3 ⟨r4, rfl, rfl⟩
      show am_E _ _ _ _ [some (.ref 12), some (.int x), some (.int i)] [.int r4] _ _
      refine am_e1 (v := x) hi_67_23 rfl ?_
      by_cases c7 : ¬ r4.toInt = x.toInt
      · refine am_e13t hi_67_24 (am_cT (m := r4.toInt) (n := x.toInt) rfl rfl c7) ?_
        obtain ⟨z8, hz8, tz8⟩ := am_addI (x := i) (y := (-1)) (m := i.toInt) (n := (-1 : Int)) rfl (by decide) (by omega) (by omega)
        refine am_e5 (v := i) (z := z8) (ls' := [some (.ref 12), some (.int x), some (.int z8)]) hi_67_43 rfl hz8 rfl ?_
        refine am_e18 hi_67_46 ?_
        exact ih z8 (by show 2147483648 + z8.toInt < (N : Int); omega)
      · refine am_e13f hi_67_24 (am_cF (m := r4.toInt) (n := x.toInt) rfl rfl c7) ?_
        refine am_e2 (v := 12) hi_67_27 rfl ?_
        refine cm_20f (r := 14) h hi_67_28 (h.1.s (12, 7) (by decide)) (by decide) rfl ?_
        refine am_e1 (v := i) hi_67_31 rfl ?_
        refine am_e0 hi_67_32 ?_
        refine am_e32n (as := [.ref 14, .int i, .int 1]) (la := [some (.ref 14), some (.int i), some (.int 1)]) (rest := []) hi_67_33 (am_hd0 (M := 67) (by decide) 33) (Nat.le_of_ble_eq_true rfl) (Nat.le_of_ble_eq_true rfl) (show 3 ≤ am_P0.2.2.1 54 from by decide +kernel) rfl (cl_recv (h.1.s (14, 3) (by decide))) rfl rfl (ck_get (d := d) h (h.1.s (14, 3) (by decide))  ) ?_
        rintro v9 S10 ⟨r11, rfl, rfl⟩
        show am_E _ _ _ _ [some (.ref 12), some (.int x), some (.int i)] [.int r11] _ _
        refine am_e0 hi_67_36 ?_
        obtain ⟨z14, hz14⟩ : ∃ q__, am_bin 3 r11 1 = q__ := ⟨_, rfl⟩
        refine am_e10 (z := z14) hi_67_37 hz14 ?_
        by_cases c15 : z14.toInt = (0 : Int)
        · refine am_e12t hi_67_38 (am_cT (m := z14.toInt) (n := (0 : Int)) rfl (by decide) c15) ?_
          obtain ⟨z16, hz16, tz16⟩ := am_addI (x := i) (y := (-1)) (m := i.toInt) (n := (-1 : Int)) rfl (by decide) (by omega) (by omega)
          refine am_e5 (v := i) (z := z16) (ls' := [some (.ref 12), some (.int x), some (.int z16)]) hi_67_43 rfl hz16 rfl ?_
          refine am_e18 hi_67_46 ?_
          exact ih z16 (by show 2147483648 + z16.toInt < (N : Int); omega)
        · refine am_e12f hi_67_38 (am_cF (m := z14.toInt) (n := (0 : Int)) rfl (by decide) c15) ?_
          exact hx1 i
theorem ck_visible {sc : Nat × (Nat → Int32)} {d aw : Nat} {S : am_S} {x : Int32} (h : SH aw S) : am_E (am_PP sc) (d + 1) 67 0 [some (.ref 12), some (.int x), none] [] S (am_N fun v S1 => ∃ r : Int32, v = some (.int r) ∧ S = S1) := by
  refine am_e2 (v := 12) hi_67_0 rfl ?_
  refine cm_20f (r := 14) h hi_67_1 (h.1.s (12, 7) (by decide)) (by decide) rfl ?_
  refine am_e32n (as := [.ref 14]) (la := [some (.ref 14)]) (rest := []) hi_67_4 (am_hd0 (M := 67) (by decide) 4) (Nat.le_of_ble_eq_true rfl) (Nat.le_of_ble_eq_true rfl) (show 1 ≤ am_P0.2.2.1 36 from by decide +kernel) rfl (cl_recv (h.1.s (14, 3) (by decide))) rfl rfl (ck_rows (d := d) h (h.1.s (14, 3) (by decide))  ) ?_
  rintro v1 S2 ⟨r3, rfl, rfl, h5, h6, h7⟩
  have h5_ : r3.toInt = iv S 14 1 := h5
  have h6_ : 0 ≤ r3.toInt := h6
  have h7_ : r3.toInt ≤ 2097154 := h7
  show am_E _ _ _ _ [some (.ref 12), some (.int x), none] [.int r3] _ _
  refine am_e0 hi_67_7 ?_
  obtain ⟨z9, hz9, tz9⟩ := am_subI (x := r3) (y := 1) (m := r3.toInt) (n := (1 : Int)) rfl (by decide) (by omega) (by omega)
  refine am_e10 (z := z9) hi_67_8 hz9 ?_
  refine am_e3 (ls' := [some (.ref 12), some (.int x), some (.int z9)]) hi_67_9 (Nat.le_of_ble_eq_true rfl) rfl ?_
  refine cf_visible (d := d) (Sb := S) (x := x) h    ?_ ?_ ((2147483648 + z9.toInt).toNat + 1) z9 (by show 2147483648 + z9.toInt < _; omega)
  · intro i10
    show am_E _ _ _ _ [some (.ref 12), some (.int x), some (.int i10)] [] _ _
    refine am_e0 hi_67_49 ?_
    refine am_e33 hi_67_50 ?_
    exact ⟨(-1), rfl, rfl⟩
  · intro i13
    show am_E _ _ _ _ [some (.ref 12), some (.int x), some (.int i13)] [] _ _
    refine am_e1 (v := i13) hi_67_41 rfl ?_
    refine am_e33 hi_67_42 ?_
    exact ⟨i13, rfl, rfl⟩
