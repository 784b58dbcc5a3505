/-! THE CLASS: tables (printed by wip/p2/cl1.py) -/
theorem ck_rows {sc : Nat × (Nat → Int32)} {d aw : Nat} {S : am_S} {t : Nat} (h : SH aw S) (hc_t : cl (am_fs S) t = some 3) : am_E (am_PP sc) (d + 0) 36 0 [some (.ref t)] [] S (am_N fun v S1 => ∃ r : Int32, v = some (.int r) ∧ S = S1 ∧ (r.toInt = iv S t 1) ∧ (0 ≤ r.toInt) ∧ (r.toInt ≤ 2097154)) := by
  obtain ⟨a, r, n, hfs, hA, b0, b1, b2, b3, b4, b5, b6, b7⟩ := h.tab hc_t
  refine am_e2 (v := t) hi_36_0 rfl ?_
  refine am_e20 (v := .int r) hi_36_1 hfs rfl ?_
  refine am_e33 hi_36_4 ?_
  exact ⟨r, rfl, rfl, (by show r.toInt = iv S t 1; omega), (by show 0 ≤ r.toInt; omega), (by show r.toInt ≤ 2097154; omega)⟩
theorem ck_has {sc : Nat × (Nat → Int32)} {d aw : Nat} {S : am_S} {t : Nat} {x : Int32} (h : SH aw S) (hc_t : cl (am_fs S) t = some 3) : am_E (am_PP sc) (d + 0) 161 0 [some (.ref t), some (.int x)] [] S (am_N fun v S1 => ∃ r : Int32, v = some (.int r) ∧ (r = 0 ∨ r = 1) ∧ S = S1) := by
  refine am_e1 (v := x) hi_161_0 rfl ?_
  by_cases c1 : x.toInt < (0 : Int)
  · refine am_e12t hi_161_1 (am_cT (m := x.toInt) (n := (0 : Int)) rfl (by decide) c1) ?_
    refine am_e0 hi_161_16 ?_
    refine am_e36 hi_161_17 (by decide) ?_
    exact ⟨0, rfl, (by decide), rfl⟩
  · refine am_e12f hi_161_1 (am_cF (m := x.toInt) (n := (0 : Int)) rfl (by decide) c1) ?_
    refine am_e1 (v := x) hi_161_4 rfl ?_
    refine am_e2 (v := t) hi_161_5 rfl ?_
    refine cm_20i h hi_161_6 hc_t (by decide) rfl fun v2 hv2 => ?_
    have hv2_ : v2.toInt = iv S t 1 := hv2
    by_cases c3 : v2.toInt ≤ x.toInt
    · refine am_e13t hi_161_9 (am_cT (m := x.toInt) (n := v2.toInt) rfl rfl c3) ?_
      refine am_e0 hi_161_16 ?_
      refine am_e36 hi_161_17 (by decide) ?_
      exact ⟨0, rfl, (by decide), rfl⟩
    · refine am_e13f hi_161_9 (am_cF (m := x.toInt) (n := v2.toInt) rfl rfl c3) ?_
      refine am_e0 hi_161_12 ?_
      refine am_e18 hi_161_13 ?_
      refine am_e36 hi_161_17 (by decide) ?_
      exact ⟨1, rfl, (by decide), rfl⟩
theorem ck_get {sc : Nat × (Nat → Int32)} {d aw : Nat} {S : am_S} {t : Nat} {x : Int32} {y : Int32} (h : SH aw S) (hc_t : cl (am_fs S) t = some 3) : am_E (am_PP sc) (d + 0) 54 0 [some (.ref t), some (.int x), some (.int y)] [] S (am_N fun v S1 => ∃ r : Int32, v = some (.int r) ∧ S = S1) := by
  obtain ⟨a, r, n, hfs, hA, b0, b1, b2, b3, b4, b5, b6, b7⟩ := h.tab hc_t
  refine am_e1 (v := x) hi_54_0 rfl ?_
  by_cases c1 : x.toInt < (0 : Int)
  · refine am_e12t hi_54_1 (am_cT (m := x.toInt) (n := (0 : Int)) rfl (by decide) c1) ?_
    refine am_e0 hi_54_21 ?_
    refine am_e33 hi_54_22 ?_
    exact ⟨0, rfl, rfl⟩
  · refine am_e12f hi_54_1 (am_cF (m := x.toInt) (n := (0 : Int)) rfl (by decide) c1) ?_
    refine am_e1 (v := x) hi_54_4 rfl ?_
    refine am_e2 (v := t) hi_54_5 rfl ?_
    refine am_e20 (v := .int r) hi_54_6 hfs rfl ?_
    by_cases c2 : r.toInt ≤ x.toInt
    · refine am_e13t hi_54_9 (am_cT (m := x.toInt) (n := r.toInt) rfl rfl c2) ?_
      refine am_e0 hi_54_21 ?_
      refine am_e33 hi_54_22 ?_
      exact ⟨0, rfl, rfl⟩
    · refine am_e13f hi_54_9 (am_cF (m := x.toInt) (n := r.toInt) rfl rfl c2) ?_
      refine am_e1 (v := y) hi_54_12 rfl ?_
      by_cases c3 : y.toInt < (0 : Int)
      · refine am_e12t hi_54_13 (am_cT (m := y.toInt) (n := (0 : Int)) rfl (by decide) c3) ?_
        refine am_e0 hi_54_21 ?_
        refine am_e33 hi_54_22 ?_
        exact ⟨0, rfl, rfl⟩
      · refine am_e12f hi_54_13 (am_cF (m := y.toInt) (n := (0 : Int)) rfl (by decide) c3) ?_
        refine am_e1 (v := y) hi_54_16 rfl ?_
        refine am_e0 hi_54_17 ?_
        by_cases c4 : y.toInt < (4 : Int)
        · refine am_e13t hi_54_18 (am_cT (m := y.toInt) (n := (4 : Int)) rfl (by decide) c4) ?_
          refine am_e2 (v := t) hi_54_23 rfl ?_
          refine am_e20 (v := .ref a) hi_54_24 hfs rfl ?_
          refine am_e1 (v := x) hi_54_27 rfl ?_
          refine am_e0 hi_54_28 ?_
          obtain ⟨z5, hz5, tz5⟩ := am_mulI (x := x) (y := 4) (m := x.toInt) (n := (4 : Int)) rfl (by decide) (by omega) (by omega)
          refine am_e10 (z := z5) hi_54_29 hz5 ?_
          refine am_e1 (v := y) hi_54_30 rfl ?_
          obtain ⟨z6, hz6, tz6⟩ := am_addI (x := z5) (y := y) (m := z5.toInt) (n := y.toInt) rfl rfl (by omega) (by omega)
          refine am_e10 (z := z6) hi_54_31 hz6 ?_
          refine cm_25 hi_54_32 hA (by omega) (by omega) ?_
          refine am_e33 hi_54_33 ?_
          exact ⟨(am_arf S a z6.toNatClampNeg), rfl, rfl⟩
        · refine am_e13f hi_54_18 (am_cF (m := y.toInt) (n := (4 : Int)) rfl (by decide) c4) ?_
          refine am_e0 hi_54_21 ?_
          refine am_e33 hi_54_22 ?_
          exact ⟨0, rfl, rfl⟩
theorem ck_set {sc : Nat × (Nat → Int32)} {d aw : Nat} {S : am_S} {t : Nat} {x : Int32} {y : Int32} {w : Int32} (h : SH aw S) (hc_t : cl (am_fs S) t = some 3) (hn_t : t ≠ 3) : am_E (am_PP sc) (d + 0) 86 0 [some (.ref t), some (.int x), some (.int y), some (.int w)] [] S (am_N fun v S1 => v = none ∧ Sm aw S S1) := by
  obtain ⟨a, r, n, hfs, hA, b0, b1, b2, b3, b4, b5, b6, b7⟩ := h.tab hc_t
  refine am_e1 (v := x) hi_86_0 rfl ?_
  by_cases c1 : x.toInt < (0 : Int)
  · refine am_e12t hi_86_1 (am_cT (m := x.toInt) (n := (0 : Int)) rfl (by decide) c1) ?_
    refine am_e35 hi_86_32 ?_
    exact ⟨rfl, ⟨h, (Ex.refl S), ⟨(by show nx S = nx S; omega), (by show lv S = lv S; omega), (by show wr S = wr S; omega), rfl⟩, ⟨rfl, rfl, (by show fl S = fl S; omega)⟩, (fun _ _ => rfl), (by show EN S ≤ EN S; omega)⟩⟩
  · refine am_e12f hi_86_1 (am_cF (m := x.toInt) (n := (0 : Int)) rfl (by decide) c1) ?_
    refine am_e1 (v := x) hi_86_4 rfl ?_
    refine am_e2 (v := t) hi_86_5 rfl ?_
    refine am_e20 (v := .int r) hi_86_6 hfs rfl ?_
    by_cases c2 : r.toInt ≤ x.toInt
    · refine am_e13t hi_86_9 (am_cT (m := x.toInt) (n := r.toInt) rfl rfl c2) ?_
      refine am_e35 hi_86_32 ?_
      exact ⟨rfl, ⟨h, (Ex.refl S), ⟨(by show nx S = nx S; omega), (by show lv S = lv S; omega), (by show wr S = wr S; omega), rfl⟩, ⟨rfl, rfl, (by show fl S = fl S; omega)⟩, (fun _ _ => rfl), (by show EN S ≤ EN S; omega)⟩⟩
    · refine am_e13f hi_86_9 (am_cF (m := x.toInt) (n := r.toInt) rfl rfl c2) ?_
      refine am_e1 (v := y) hi_86_12 rfl ?_
      by_cases c3 : y.toInt < (0 : Int)
      · refine am_e12t hi_86_13 (am_cT (m := y.toInt) (n := (0 : Int)) rfl (by decide) c3) ?_
        refine am_e35 hi_86_32 ?_
        exact ⟨rfl, ⟨h, (Ex.refl S), ⟨(by show nx S = nx S; omega), (by show lv S = lv S; omega), (by show wr S = wr S; omega), rfl⟩, ⟨rfl, rfl, (by show fl S = fl S; omega)⟩, (fun _ _ => rfl), (by show EN S ≤ EN S; omega)⟩⟩
      · refine am_e12f hi_86_13 (am_cF (m := y.toInt) (n := (0 : Int)) rfl (by decide) c3) ?_
        refine am_e1 (v := y) hi_86_16 rfl ?_
        refine am_e0 hi_86_17 ?_
        by_cases c4 : (4 : Int) ≤ y.toInt
        · refine am_e13t hi_86_18 (am_cT (m := y.toInt) (n := (4 : Int)) rfl (by decide) c4) ?_
          refine am_e35 hi_86_32 ?_
          exact ⟨rfl, ⟨h, (Ex.refl S), ⟨(by show nx S = nx S; omega), (by show lv S = lv S; omega), (by show wr S = wr S; omega), rfl⟩, ⟨rfl, rfl, (by show fl S = fl S; omega)⟩, (fun _ _ => rfl), (by show EN S ≤ EN S; omega)⟩⟩
        · refine am_e13f hi_86_18 (am_cF (m := y.toInt) (n := (4 : Int)) rfl (by decide) c4) ?_
          refine am_e2 (v := t) hi_86_21 rfl ?_
          refine am_e20 (v := .ref a) hi_86_22 hfs rfl ?_
          refine am_e1 (v := x) hi_86_25 rfl ?_
          refine am_e0 hi_86_26 ?_
          obtain ⟨z5, hz5, tz5⟩ := am_mulI (x := x) (y := 4) (m := x.toInt) (n := (4 : Int)) rfl (by decide) (by omega) (by omega)
          refine am_e10 (z := z5) hi_86_27 hz5 ?_
          refine am_e1 (v := y) hi_86_28 rfl ?_
          obtain ⟨z6, hz6, tz6⟩ := am_addI (x := z5) (y := y) (m := z5.toInt) (n := y.toInt) rfl rfl (by omega) (by omega)
          refine am_e10 (z := z6) hi_86_29 hz6 ?_
          refine am_e1 (v := w) hi_86_30 rfl ?_
          refine cm_26 h hi_86_31 hA b5 (b4 hn_t) (by omega) (by omega) fun S7 h8 h9 h10 => ?_
          obtain ⟨h11, h12, ⟨h13, h14, h15, h16⟩, ⟨h17, h18, h19⟩, h20, h21⟩ := h8
          have h22 : kd aw S7 = kd aw S := kd_eq h13 h16
          have hk23 := h12.1 _ _ hc_t
          have hfs24 : am_fs S7 t = some (3, [.ref a, .int r]) := by rw [h9]; exact hfs
          have hA25 : am_arq S7 a = some (false, n) := by rw [h10]; exact hA
          show am_E _ _ _ _ [some (.ref t), some (.int x), some (.int y), some (.int w)] [] _ _
          refine am_e35 hi_86_32 ?_
          exact ⟨rfl, ⟨h11, h12, ⟨(by show nx S7 = nx S; omega), (by show lv S7 = lv S; omega), (by show wr S7 = wr S; omega), h16⟩, ⟨h17, h18, (by show fl S7 = fl S; omega)⟩, (fun t ht => (h20 t ht)), (by show EN S7 ≤ EN S; omega)⟩⟩
theorem ck_cut {sc : Nat × (Nat → Int32)} {d aw : Nat} {S : am_S} {t : Nat} {x : Int32} (h : SH aw S) (hc_t : cl (am_fs S) t = some 3) (hn_t : t ≠ 3) : am_E (am_PP sc) (d + 0) 30 0 [some (.ref t), some (.int x)] [] S (am_N fun v S1 => v = none ∧ Qv aw S S1 ∧ ((0 ≤ x.toInt ∧ x.toInt < iv S t 1 ∧ iv S1 t 1 = x.toInt) ∨ ((x.toInt < 0 ∨ iv S t 1 ≤ x.toInt) ∧ iv S1 t 1 = iv S t 1)) ∧ (EN S1 ≤ EN S + c_w t * (iv S1 t 1 - iv S t 1)) ∧ (∀ j, cl (am_fs S) j = some 3 → j ≠ t → iv S1 j 1 = iv S j 1)) := by
  obtain ⟨a, r, n, hfs, hA, b0, b1, b2, b3, b4, b5, b6, b7⟩ := h.tab hc_t
  refine am_e1 (v := x) hi_30_0 rfl ?_
  by_cases c1 : x.toInt < (0 : Int)
  · refine am_e12t hi_30_1 (am_cT (m := x.toInt) (n := (0 : Int)) rfl (by decide) c1) ?_
    refine am_e35 hi_30_17 ?_
    exact ⟨rfl, ⟨h, (Ex.refl S), ⟨(by show nx S = nx S; omega), (by show lv S = lv S; omega), (by show wr S = wr S; omega), rfl⟩, ⟨rfl, rfl, (by show fl S = fl S; omega)⟩⟩, (by show (0 ≤ x.toInt ∧ x.toInt < iv S t 1 ∧ iv S t 1 = x.toInt) ∨ ((x.toInt < 0 ∨ iv S t 1 ≤ x.toInt) ∧ iv S t 1 = iv S t 1); omega), (by rw [Int.sub_self, Int.mul_zero]; omega), (fun _ _ _ => rfl)⟩
  · refine am_e12f hi_30_1 (am_cF (m := x.toInt) (n := (0 : Int)) rfl (by decide) c1) ?_
    refine am_e1 (v := x) hi_30_4 rfl ?_
    refine am_e2 (v := t) hi_30_5 rfl ?_
    refine am_e20 (v := .int r) hi_30_6 hfs rfl ?_
    by_cases c2 : r.toInt ≤ x.toInt
    · refine am_e13t hi_30_9 (am_cT (m := x.toInt) (n := r.toInt) rfl rfl c2) ?_
      refine am_e35 hi_30_17 ?_
      exact ⟨rfl, ⟨h, (Ex.refl S), ⟨(by show nx S = nx S; omega), (by show lv S = lv S; omega), (by show wr S = wr S; omega), rfl⟩, ⟨rfl, rfl, (by show fl S = fl S; omega)⟩⟩, (by show (0 ≤ x.toInt ∧ x.toInt < iv S t 1 ∧ iv S t 1 = x.toInt) ∨ ((x.toInt < 0 ∨ iv S t 1 ≤ x.toInt) ∧ iv S t 1 = iv S t 1); omega), (by rw [Int.sub_self, Int.mul_zero]; omega), (fun _ _ _ => rfl)⟩
    · refine am_e13f hi_30_9 (am_cF (m := x.toInt) (n := r.toInt) rfl rfl c2) ?_
      refine am_e2 (v := t) hi_30_12 rfl ?_
      refine am_e1 (v := x) hi_30_13 rfl ?_
      refine cm_21r h hi_30_14 hfs hA rfl (by omega) (by omega) fun S3 h4 => ?_
      obtain ⟨h5, h6, h7⟩ : Qu aw (c_w t * (x.toInt - r.toInt)) S S3 ∧ iv S3 t 1 = x.toInt ∧ ∀ j, j ≠ t → iv S3 j 1 = iv S j 1 := by rw [h4]; exact ta_cut h hfs hA hn_t (by omega) (by omega)
      have h8 : Qv aw S S3 := ⟨h5.1, h5.2.1, h5.2.2.1, h5.2.2.2.1⟩
      obtain ⟨h9, h10, ⟨h11, h12, h13, h14⟩, ⟨h15, h16, h17⟩⟩ := h8
      have h20 : kd aw S3 = kd aw S := kd_eq h11 h14
      have hk21 := h10.1 _ _ hc_t
      refine am_e35 hi_30_17 ?_
      exact ⟨rfl, ⟨h9, h10, ⟨(by show nx S3 = nx S; omega), (by show lv S3 = lv S; omega), (by show wr S3 = wr S; omega), h14⟩, ⟨h15, h16, (by show fl S3 = fl S; omega)⟩⟩, (by show (0 ≤ x.toInt ∧ x.toInt < iv S t 1 ∧ iv S3 t 1 = x.toInt) ∨ ((x.toInt < 0 ∨ iv S t 1 ≤ x.toInt) ∧ iv S3 t 1 = iv S t 1); omega), (by have q := h5.2.2.2.2; rw [b6] at q; rw [h6]; exact q), (fun j _ hj => h7 j hj)⟩
theorem ck_add {sc : Nat × (Nat → Int32)} {d aw : Nat} {S : am_S} {t : Nat} {x1 : Int32} {x2 : Int32} {x3 : Int32} {x4 : Int32} (h : SH aw S) (hc_t : cl (am_fs S) t = some 3) (hn_t : t ≠ 3) : am_E (am_PP sc) (d + 2) 31 0 [some (.ref t), some (.int x1), some (.int x2), some (.int x3), some (.int x4), none] [] S (am_N fun v S1 => ∃ r : Int32, v = some (.int r) ∧ Qu aw (160 + c_w t) S S1 ∧ (iv S t 1 ≤ iv S1 t 1 ∧ iv S1 t 1 ≤ iv S t 1 + 1) ∧ (∀ j, cl (am_fs S) j = some 3 → j ≠ t → iv S1 j 1 = iv S j 1)) := by
  obtain ⟨a, r, n, hfs, hA, b0, b1, b2, b3, b4, b5, b6, b7⟩ := h.tab hc_t
  have hw := c_w_nn t
  refine am_e2 (v := t) hi_31_0 rfl ?_
  refine am_e20 (v := .int r) hi_31_1 hfs rfl ?_
  refine am_e0 hi_31_4 ?_
  obtain ⟨z1, hz1, tz1⟩ := am_mulI (x := r) (y := 4) (m := r.toInt) (n := (4 : Int)) rfl (by decide) (by omega) (by omega)
  refine am_e10 (z := z1) hi_31_5 hz1 ?_
  refine am_e3 (ls' := [some (.ref t), some (.int x1), some (.int x2), some (.int x3), some (.int x4), some (.int z1)]) hi_31_6 (Nat.le_of_ble_eq_true rfl) rfl ?_
  refine am_e1 (v := z1) hi_31_8 rfl ?_
  refine am_e0 hi_31_10 ?_
  obtain ⟨z2, hz2, tz2⟩ := am_addI (x := z1) (y := 4) (m := z1.toInt) (n := (4 : Int)) rfl (by decide) (by omega) (by omega)
  refine am_e10 (z := z2) hi_31_11 hz2 ?_
  refine am_e2 (v := t) hi_31_12 rfl ?_
  refine am_e20 (v := .ref a) hi_31_13 hfs rfl ?_
  obtain ⟨z3, hz3, tz3⟩ := of_nat (n := n) (by omega)
  refine am_e24 hi_31_16 hA hz3 ?_
  by_cases c4 : z2.toInt ≤ z3.toInt
  · refine am_e13t hi_31_17 (am_cT (m := z2.toInt) (n := z3.toInt) rfl rfl c4) ?_
    refine am_e2 (v := t) hi_31_52 rfl ?_
    refine am_e20 (v := .ref a) hi_31_53 hfs rfl ?_
    refine am_e1 (v := z1) hi_31_56 rfl ?_
    refine am_e1 (v := x1) hi_31_58 rfl ?_
    refine cm_26 h hi_31_59 hA b5 (b4 hn_t) (by omega) (by omega) fun S5 h6 h7 h8 => ?_
    obtain ⟨h9, h10, ⟨h11, h12, h13, h14⟩, ⟨h15, h16, h17⟩, h18, h19⟩ := h6
    have h20 : kd aw S5 = kd aw S := kd_eq h11 h14
    have h21 := h18 t hc_t
    have hk22 := h10.1 _ _ hc_t
    have hfs23 : am_fs S5 t = some (3, [.ref a, .int r]) := by rw [h7]; exact hfs
    have hA24 : am_arq S5 a = some (false, n) := by rw [h8]; exact hA
    show am_E _ _ _ _ [some (.ref t), some (.int x1), some (.int x2), some (.int x3), some (.int x4), some (.int z1)] [] _ _
    refine am_e2 (v := t) hi_31_60 rfl ?_
    refine am_e20 (v := .ref a) hi_31_61 hfs23 rfl ?_
    refine am_e1 (v := z1) hi_31_64 rfl ?_
    refine am_e0 hi_31_66 ?_
    obtain ⟨z25, hz25, tz25⟩ := am_addI (x := z1) (y := 1) (m := z1.toInt) (n := (1 : Int)) rfl (by decide) (by omega) (by omega)
    refine am_e10 (z := z25) hi_31_67 hz25 ?_
    refine am_e1 (v := x2) hi_31_68 rfl ?_
    refine cm_26 h9 hi_31_69 hA24 b5 (b4 hn_t) (by omega) (by omega) fun S26 h27 h28 h29 => ?_
    obtain ⟨h30, h31, ⟨h32, h33, h34, h35⟩, ⟨h36, h37, h38⟩, h39, h40⟩ := h27
    have h41 : kd aw S26 = kd aw S5 := kd_eq h32 h35
    have h42 := h39 t hk22
    have hk43 := h31.1 _ _ hk22
    have hfs44 : am_fs S26 t = some (3, [.ref a, .int r]) := by rw [h28]; exact hfs23
    have hA45 : am_arq S26 a = some (false, n) := by rw [h29]; exact hA24
    show am_E _ _ _ _ [some (.ref t), some (.int x1), some (.int x2), some (.int x3), some (.int x4), some (.int z1)] [] _ _
    refine am_e2 (v := t) hi_31_70 rfl ?_
    refine am_e20 (v := .ref a) hi_31_71 hfs44 rfl ?_
    refine am_e1 (v := z1) hi_31_74 rfl ?_
    refine am_e0 hi_31_76 ?_
    obtain ⟨z46, hz46, tz46⟩ := am_addI (x := z1) (y := 2) (m := z1.toInt) (n := (2 : Int)) rfl (by decide) (by omega) (by omega)
    refine am_e10 (z := z46) hi_31_77 hz46 ?_
    refine am_e1 (v := x3) hi_31_78 rfl ?_
    refine cm_26 h30 hi_31_79 hA45 b5 (b4 hn_t) (by omega) (by omega) fun S47 h48 h49 h50 => ?_
    obtain ⟨h51, h52, ⟨h53, h54, h55, h56⟩, ⟨h57, h58, h59⟩, h60, h61⟩ := h48
    have h62 : kd aw S47 = kd aw S26 := kd_eq h53 h56
    have h63 := h60 t hk43
    have hk64 := h52.1 _ _ hk43
    have hfs65 : am_fs S47 t = some (3, [.ref a, .int r]) := by rw [h49]; exact hfs44
    have hA66 : am_arq S47 a = some (false, n) := by rw [h50]; exact hA45
    show am_E _ _ _ _ [some (.ref t), some (.int x1), some (.int x2), some (.int x3), some (.int x4), some (.int z1)] [] _ _
    refine am_e2 (v := t) hi_31_80 rfl ?_
    refine am_e20 (v := .ref a) hi_31_81 hfs65 rfl ?_
    refine am_e1 (v := z1) hi_31_84 rfl ?_
    refine am_e0 hi_31_86 ?_
    obtain ⟨z67, hz67, tz67⟩ := am_addI (x := z1) (y := 3) (m := z1.toInt) (n := (3 : Int)) rfl (by decide) (by omega) (by omega)
    refine am_e10 (z := z67) hi_31_87 hz67 ?_
    refine am_e1 (v := x4) hi_31_88 rfl ?_
    refine cm_26 h51 hi_31_90 hA66 b5 (b4 hn_t) (by omega) (by omega) fun S68 h69 h70 h71 => ?_
    obtain ⟨h72, h73, ⟨h74, h75, h76, h77⟩, ⟨h78, h79, h80⟩, h81, h82⟩ := h69
    have h83 : kd aw S68 = kd aw S47 := kd_eq h74 h77
    have h84 := h81 t hk64
    have hk85 := h73.1 _ _ hk64
    have hfs86 : am_fs S68 t = some (3, [.ref a, .int r]) := by rw [h70]; exact hfs65
    have hA87 : am_arq S68 a = some (false, n) := by rw [h71]; exact hA66
    show am_E _ _ _ _ [some (.ref t), some (.int x1), some (.int x2), some (.int x3), some (.int x4), some (.int z1)] [] _ _
    refine am_e2 (v := t) hi_31_91 rfl ?_
    refine am_e7 hi_31_92 ?_
    refine am_e20 (v := .int r) hi_31_93 hfs86 rfl ?_
    refine am_e0 hi_31_96 ?_
    obtain ⟨z88, hz88, tz88⟩ := am_addI (x := r) (y := 1) (m := r.toInt) (n := (1 : Int)) rfl (by decide) (by omega) (by omega)
    refine am_e10 (z := z88) hi_31_97 hz88 ?_
    refine cm_21r h72 hi_31_98 hfs86 hA87 rfl (by omega) (by omega) fun S89 h90 => ?_
    obtain ⟨h91, h92, h93⟩ : Qu aw (32 + c_w t) S68 S89 ∧ iv S89 t 1 = z88.toInt ∧ ∀ j, j ≠ t → iv S89 j 1 = iv S68 j 1 := by rw [h90]; exact ta_add h72 hfs86 hA87 hn_t (by omega) (by omega)
    obtain ⟨h94, h95, ⟨h96, h97, h98, h99⟩, ⟨h100, h101, h102⟩, h104⟩ := h91
    have h105 : kd aw S89 = kd aw S68 := kd_eq h96 h99
    have hk106 := h95.1 _ _ hk85
    refine am_e2 (v := t) hi_31_101 rfl ?_
    refine cm_20i h94 hi_31_102 hk106 (by decide) rfl fun v107 hv107 => ?_
    have hv107_ : v107.toInt = iv S89 t 1 := hv107
    refine am_e0 hi_31_105 ?_
    obtain ⟨z108, hz108, tz108⟩ := am_subI (x := v107) (y := 1) (m := v107.toInt) (n := (1 : Int)) rfl (by decide) (by omega) (by omega)
    refine am_e10 (z := z108) hi_31_106 hz108 ?_
    refine am_e33 hi_31_107 ?_
    exact ⟨z108, rfl, ⟨h94, ((((h10.trans h31).trans h52).trans h73).trans h95), ⟨(by show nx S89 = nx S; omega), (by show lv S89 = lv S; omega), (by show wr S89 = wr S; omega), (h99.trans (h77.trans (h56.trans (h35.trans h14))))⟩, ⟨(h100.trans (h78.trans (h57.trans (h36.trans h15)))), (h101.trans (h79.trans (h58.trans (h37.trans h16)))), (by show fl S89 = fl S; omega)⟩, (by show EN S89 ≤ EN S + (160 + c_w t); omega)⟩, (by show iv S t 1 ≤ iv S89 t 1 ∧ iv S89 t 1 ≤ iv S t 1 + 1; omega), (fun t ht hj => (h93 t hj).trans ((fun t ht => ((h81 t (h52.1 _ _ (h31.1 _ _ (h10.1 _ _ ht)))).trans ((h60 t (h31.1 _ _ (h10.1 _ _ ht))).trans ((h39 t (h10.1 _ _ ht)).trans (h18 t ht))))) t ht))⟩
  · refine am_e13f hi_31_17 (am_cF (m := z2.toInt) (n := z3.toInt) rfl rfl c4) ?_
    refine am_e2 (v := t) hi_31_20 rfl ?_
    refine am_e20 (v := .int r) hi_31_21 hfs rfl ?_
    refine am_e0 hi_31_24 ?_
    by_cases c109 : r.toInt < (1048576 : Int)
    · refine am_e13t hi_31_26 (am_cT (m := r.toInt) (n := (1048576 : Int)) rfl (by decide) c109) ?_
      refine am_e2 (v := t) hi_31_34 rfl ?_
      refine am_e2 (v := t) hi_31_35 rfl ?_
      refine am_e20 (v := .ref a) hi_31_36 hfs rfl ?_
      refine am_e2 (v := t) hi_31_39 rfl ?_
      refine am_e20 (v := .ref a) hi_31_40 hfs rfl ?_
      obtain ⟨z110, hz110, tz110⟩ := of_nat (n := n) (by omega)
      refine am_e24 hi_31_43 hA hz110 ?_
      refine am_e0 hi_31_44 ?_
      obtain ⟨z111, hz111, tz111⟩ := am_mulI (x := z110) (y := 2) (m := z110.toInt) (n := (2 : Int)) rfl (by decide) (by omega) (by omega)
      refine am_e10 (z := z111) hi_31_45 hz111 ?_
      refine am_e32n (as := [.ref a, .int z111]) (la := [some (.ref a), some (.int z111), none]) (rest := [.ref t]) hi_31_46 (am_hd0 (M := 31) (by decide) 46) (Nat.le_of_ble_eq_true rfl) (Nat.le_of_ble_eq_true rfl) (show 2 ≤ am_P0.2.2.1 32 from by decide +kernel) rfl rfl rfl rfl (ck_copy (d := (d + 0)) (n := n) h hA (by omega) (by omega) (by omega)) ?_
      rintro v1 S1 ⟨a1, rfl, hcp⟩
      show am_E _ _ _ _ [some (.ref t), some (.int x1), some (.int x2), some (.int x3), some (.int x4), some (.int z1)] [.ref a1, .ref t] _ _
      refine am_e21 (fs' := [.ref a1, .int r]) hi_31_49 (show am_fs S1 t = some (3, [.ref a, .int r]) from by rw [hcp.2.2.2.2.2.2.1]; exact hfs) (Nat.le_of_ble_eq_true rfl) rfl rfl ?_
      obtain ⟨S2, e2⟩ : ∃ S2, S2 = am_so S1 t (3, [.ref a1, .int r]) := ⟨_, rfl⟩
      show am_E _ _ _ _ [some (.ref t), some (.int x1), some (.int x2), some (.int x3), some (.int x4), some (.int z1)] [] (am_so S1 t (3, [.ref a1, .int r])) _
      rw [← e2]
      have hm : z111.toNatClampNeg = 2 * n := by rw [cl_toNat]; omega
      obtain ⟨g1, g2, g3, g4, g5, g6⟩ : Qu aw 128 S S2 ∧ (∀ j, cl (am_fs S) j = some 3 → iv S2 j 1 = iv S j 1) ∧ am_fs S2 t = some (3, [.ref a1, .int r]) ∧ am_arq S2 a1 = some (false, z111.toNatClampNeg) ∧ a1 ≠ aw ∧ 94 ≤ a1 := by rw [e2]; exact ta_grow h hfs hA hn_t hcp hm b2 (by omega) b0 b1 (by omega)
      obtain ⟨h112, h113, ⟨h114, h115, h116, h117⟩, ⟨h118, h119, h120⟩, h122⟩ := g1
      have h123 : kd aw S2 = kd aw S := kd_eq h114 h117
      have hk124 := h113.1 _ _ hc_t
      have g7 := g2 t hc_t
      have g8 : (z111.toNatClampNeg : Int) = 2 * (n : Int) := by omega
      refine am_e2 (v := t) hi_31_52 rfl ?_
      refine am_e20 (v := .ref a1) hi_31_53 g3 rfl ?_
      refine am_e1 (v := z1) hi_31_56 rfl ?_
      refine am_e1 (v := x1) hi_31_58 rfl ?_
      refine cm_26 h112 hi_31_59 g4 (Or.inr g6) g5 (by omega) (by omega) fun S125 h126 h127 h128 => ?_
      obtain ⟨h129, h130, ⟨h131, h132, h133, h134⟩, ⟨h135, h136, h137⟩, h138, h139⟩ := h126
      have h140 : kd aw S125 = kd aw S2 := kd_eq h131 h134
      have h141 := h138 t hk124
      have hk142 := h130.1 _ _ hk124
      have hfs143 : am_fs S125 t = some (3, [.ref a1, .int r]) := by rw [h127]; exact g3
      have hA144 : am_arq S125 a1 = some (false, z111.toNatClampNeg) := by rw [h128]; exact g4
      show am_E _ _ _ _ [some (.ref t), some (.int x1), some (.int x2), some (.int x3), some (.int x4), some (.int z1)] [] _ _
      refine am_e2 (v := t) hi_31_60 rfl ?_
      refine am_e20 (v := .ref a1) hi_31_61 hfs143 rfl ?_
      refine am_e1 (v := z1) hi_31_64 rfl ?_
      refine am_e0 hi_31_66 ?_
      obtain ⟨z145, hz145, tz145⟩ := am_addI (x := z1) (y := 1) (m := z1.toInt) (n := (1 : Int)) rfl (by decide) (by omega) (by omega)
      refine am_e10 (z := z145) hi_31_67 hz145 ?_
      refine am_e1 (v := x2) hi_31_68 rfl ?_
      refine cm_26 h129 hi_31_69 hA144 (Or.inr g6) g5 (by omega) (by omega) fun S146 h147 h148 h149 => ?_
      obtain ⟨h150, h151, ⟨h152, h153, h154, h155⟩, ⟨h156, h157, h158⟩, h159, h160⟩ := h147
      have h161 : kd aw S146 = kd aw S125 := kd_eq h152 h155
      have h162 := h159 t hk142
      have hk163 := h151.1 _ _ hk142
      have hfs164 : am_fs S146 t = some (3, [.ref a1, .int r]) := by rw [h148]; exact hfs143
      have hA165 : am_arq S146 a1 = some (false, z111.toNatClampNeg) := by rw [h149]; exact hA144
      show am_E _ _ _ _ [some (.ref t), some (.int x1), some (.int x2), some (.int x3), some (.int x4), some (.int z1)] [] _ _
      refine am_e2 (v := t) hi_31_70 rfl ?_
      refine am_e20 (v := .ref a1) hi_31_71 hfs164 rfl ?_
      refine am_e1 (v := z1) hi_31_74 rfl ?_
      refine am_e0 hi_31_76 ?_
      obtain ⟨z166, hz166, tz166⟩ := am_addI (x := z1) (y := 2) (m := z1.toInt) (n := (2 : Int)) rfl (by decide) (by omega) (by omega)
      refine am_e10 (z := z166) hi_31_77 hz166 ?_
      refine am_e1 (v := x3) hi_31_78 rfl ?_
      refine cm_26 h150 hi_31_79 hA165 (Or.inr g6) g5 (by omega) (by omega) fun S167 h168 h169 h170 => ?_
      obtain ⟨h171, h172, ⟨h173, h174, h175, h176⟩, ⟨h177, h178, h179⟩, h180, h181⟩ := h168
      have h182 : kd aw S167 = kd aw S146 := kd_eq h173 h176
      have h183 := h180 t hk163
      have hk184 := h172.1 _ _ hk163
      have hfs185 : am_fs S167 t = some (3, [.ref a1, .int r]) := by rw [h169]; exact hfs164
      have hA186 : am_arq S167 a1 = some (false, z111.toNatClampNeg) := by rw [h170]; exact hA165
      show am_E _ _ _ _ [some (.ref t), some (.int x1), some (.int x2), some (.int x3), some (.int x4), some (.int z1)] [] _ _
      refine am_e2 (v := t) hi_31_80 rfl ?_
      refine am_e20 (v := .ref a1) hi_31_81 hfs185 rfl ?_
      refine am_e1 (v := z1) hi_31_84 rfl ?_
      refine am_e0 hi_31_86 ?_
      obtain ⟨z187, hz187, tz187⟩ := am_addI (x := z1) (y := 3) (m := z1.toInt) (n := (3 : Int)) rfl (by decide) (by omega) (by omega)
      refine am_e10 (z := z187) hi_31_87 hz187 ?_
      refine am_e1 (v := x4) hi_31_88 rfl ?_
      refine cm_26 h171 hi_31_90 hA186 (Or.inr g6) g5 (by omega) (by omega) fun S188 h189 h190 h191 => ?_
      obtain ⟨h192, h193, ⟨h194, h195, h196, h197⟩, ⟨h198, h199, h200⟩, h201, h202⟩ := h189
      have h203 : kd aw S188 = kd aw S167 := kd_eq h194 h197
      have h204 := h201 t hk184
      have hk205 := h193.1 _ _ hk184
      have hfs206 : am_fs S188 t = some (3, [.ref a1, .int r]) := by rw [h190]; exact hfs185
      have hA207 : am_arq S188 a1 = some (false, z111.toNatClampNeg) := by rw [h191]; exact hA186
      show am_E _ _ _ _ [some (.ref t), some (.int x1), some (.int x2), some (.int x3), some (.int x4), some (.int z1)] [] _ _
      refine am_e2 (v := t) hi_31_91 rfl ?_
      refine am_e7 hi_31_92 ?_
      refine am_e20 (v := .int r) hi_31_93 hfs206 rfl ?_
      refine am_e0 hi_31_96 ?_
      obtain ⟨z208, hz208, tz208⟩ := am_addI (x := r) (y := 1) (m := r.toInt) (n := (1 : Int)) rfl (by decide) (by omega) (by omega)
      refine am_e10 (z := z208) hi_31_97 hz208 ?_
      refine cm_21r h192 hi_31_98 hfs206 hA207 rfl (by omega) (by omega) fun S209 h210 => ?_
      obtain ⟨h211, h212, h213⟩ : Qu aw (32 + c_w t) S188 S209 ∧ iv S209 t 1 = z208.toInt ∧ ∀ j, j ≠ t → iv S209 j 1 = iv S188 j 1 := by rw [h210]; exact ta_add h192 hfs206 hA207 hn_t (by omega) (by omega)
      obtain ⟨h214, h215, ⟨h216, h217, h218, h219⟩, ⟨h220, h221, h222⟩, h224⟩ := h211
      have h225 : kd aw S209 = kd aw S188 := kd_eq h216 h219
      have hk226 := h215.1 _ _ hk205
      refine am_e2 (v := t) hi_31_101 rfl ?_
      refine cm_20i h214 hi_31_102 hk226 (by decide) rfl fun v227 hv227 => ?_
      have hv227_ : v227.toInt = iv S209 t 1 := hv227
      refine am_e0 hi_31_105 ?_
      obtain ⟨z228, hz228, tz228⟩ := am_subI (x := v227) (y := 1) (m := v227.toInt) (n := (1 : Int)) rfl (by decide) (by omega) (by omega)
      refine am_e10 (z := z228) hi_31_106 hz228 ?_
      refine am_e33 hi_31_107 ?_
      exact ⟨z228, rfl, ⟨h214, (((((h113.trans h130).trans h151).trans h172).trans h193).trans h215), ⟨(by show nx S209 = nx S; omega), (by show lv S209 = lv S; omega), (by show wr S209 = wr S; omega), (h219.trans (h197.trans (h176.trans (h155.trans (h134.trans h117)))))⟩, ⟨(h220.trans (h198.trans (h177.trans (h156.trans (h135.trans h118))))), (h221.trans (h199.trans (h178.trans (h157.trans (h136.trans h119))))), (by show fl S209 = fl S; omega)⟩, (by show EN S209 ≤ EN S + (160 + c_w t); omega)⟩, (by show iv S t 1 ≤ iv S209 t 1 ∧ iv S209 t 1 ≤ iv S t 1 + 1; omega), (fun t ht hj => (h213 t hj).trans ((fun t ht => ((h201 t (h172.1 _ _ (h151.1 _ _ (h130.1 _ _ (h113.1 _ _ ht))))).trans ((h180 t (h151.1 _ _ (h130.1 _ _ (h113.1 _ _ ht)))).trans ((h159 t (h130.1 _ _ (h113.1 _ _ ht))).trans ((h138 t (h113.1 _ _ ht)).trans (g2 t ht)))))) t ht))⟩
    · refine am_e13f hi_31_26 (am_cF (m := r.toInt) (n := (1048576 : Int)) rfl (by decide) c109) ?_
      refine am_e2 (v := t) hi_31_29 rfl ?_
      refine am_e20 (v := .int r) hi_31_30 hfs rfl ?_
      refine am_e33 hi_31_33 ?_
      exact ⟨r, rfl, ⟨h, (Ex.refl S), ⟨(by show nx S = nx S; omega), (by show lv S = lv S; omega), (by show wr S = wr S; omega), rfl⟩, ⟨rfl, rfl, (by show fl S = fl S; omega)⟩, (by show EN S ≤ EN S + (160 + c_w t); omega)⟩, (by show iv S t 1 ≤ iv S t 1 ∧ iv S t 1 ≤ iv S t 1 + 1; omega), (fun _ _ _ => rfl)⟩
