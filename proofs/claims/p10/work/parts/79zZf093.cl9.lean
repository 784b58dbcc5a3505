/-! THE CLASS: blocks, functions, every level (printed by wip/p2/cl9.py) -/
theorem cg_block {sc : Nat × (Nat → Int32)} {d aw NN : Nat} {Sb : am_S} {Q : Option (Option Value) → am_S → Prop} (h : SH aw Sb) (ihR : RC sc aw NN) (hN : 48 - lv Sb < (NN : Int) + 1) (hd : (30 : Int) * (48 - lv Sb) ≤ (d : Int)) (p0 : 0 ≤ nx Sb) (p1 : nx Sb ≤ wr Sb) (p2 : wr Sb ≤ 600) (p3 : 0 ≤ lv Sb) (p4 : lv Sb ≤ 48) (p5 : 1 ≤ iv Sb 13 1) (p6 : iv Sb 13 1 ≤ lv Sb + 1) (p7 : iv Sb 5 1 ≤ nx Sb + 1) (hq : ∀ S1, TH aw 2000 Sb S1 → Q none S1) (hx0 : ∀ (S : am_S) (n : Int32), Ad aw Sb S → (nx Sb + 0 ≤ nx S) → (nx S ≤ wr S) → (lv S = lv Sb + 0) → (EN S + -10000 * nx S ≤ EN Sb + -10000 * nx Sb + 0) → (iv Sb 8 1 ≤ iv S 8 1) → (iv Sb 10 1 ≤ iv S 10 1) → am_E (am_PP sc) (d + 21) 52 306 [some (.ref 7), some (.int n)] [] S Q) (hx1 : ∀ (S : am_S) (n : Int32), Ad aw Sb S → (nx Sb + 0 ≤ nx S) → (nx S ≤ wr S) → (lv S = lv Sb + 0) → (EN S + -10000 * nx S ≤ EN Sb + -10000 * nx Sb + 0) → (iv Sb 8 1 ≤ iv S 8 1) → (iv Sb 10 1 ≤ iv S 10 1) → am_E (am_PP sc) (d + 21) 52 307 [some (.ref 7), some (.int n)] [] S Q) (hx2 : ∀ (S : am_S) (n : Int32), Ad aw Sb S → (nx Sb + 0 ≤ nx S) → (nx S ≤ wr S) → (lv S = lv Sb + 0) → (EN S + -10000 * nx S ≤ EN Sb + -10000 * nx Sb + 0) → (iv Sb 8 1 ≤ iv S 8 1) → (iv Sb 10 1 ≤ iv S 10 1) → am_E (am_PP sc) (d + 21) 52 314 [some (.ref 7), some (.int n)] [] S Q) : ∀ (N : Nat) (S : am_S) (n : Int32), Ad aw Sb S → (nx Sb + 0 ≤ nx S) → (nx S ≤ wr S) → (lv S = lv Sb + 0) → (EN S + -10000 * nx S ≤ EN Sb + -10000 * nx Sb + 0) → (iv Sb 8 1 ≤ iv S 8 1) → (iv Sb 10 1 ≤ iv S 10 1) → 2147483647 - n.toInt < (N : Int) → am_E (am_PP sc) (d + 21) 52 2 [some (.ref 7), some (.int n)] [] S Q := by
  intro N
  induction N with
  | zero =>
    intro S  n hrel  i0 i1 i2 i3 i4 i5 hN
    have := i32_le n
    have := i32_ge n
    exfalso
    omega
  | succ N ih =>
    intro S  n hrel  i0 i1 i2 i3 i4 i5 hN
    have hl_n := i32_le n
    have hg_n := i32_ge n
    obtain ⟨h1, h2, ⟨h5, h6⟩, ⟨h7, h8⟩⟩ := hrel
    refine am_e1 (v := n) hi_52_2 rfl ?_
    refine am_e0 hi_52_3 ?_
    by_cases c12 : (16384 : Int) < n.toInt
    · refine am_e13t hi_52_6 (am_cT (m := n.toInt) (n := (16384 : Int)) rfl (by decide) c12) ?_
      exact hx2 _ n ⟨h1, h2, ⟨(by show wr S = wr Sb; omega), h6⟩, ⟨(by show iv S 13 1 = iv Sb 13 1; omega), (by show iv S 5 1 - nx S ≤ iv Sb 5 1 - nx Sb; omega)⟩⟩ (by show nx Sb + 0 ≤ nx S; omega) (by show nx S ≤ wr S; omega) (by show lv S = lv Sb + 0; omega) (by show EN S + -10000 * nx S ≤ EN Sb + -10000 * nx Sb + 0; omega) (by show iv Sb 8 1 ≤ iv S 8 1; omega) (by show iv Sb 10 1 ≤ iv S 10 1; omega)
    · refine am_e13f hi_52_6 (am_cF (m := n.toInt) (n := (16384 : Int)) rfl (by decide) c12) ?_
      refine am_e2 (v := 7) hi_52_9 rfl ?_
      refine cm_20f (r := 2) h1 hi_52_10 (h1.1.s (7, 6) (by decide)) (by decide) rfl ?_
      refine am_e32n (as := [.ref 2]) (la := [some (.ref 2)]) (rest := []) hi_52_13 (am_hd0 (M := 52) (by decide) 13) (Nat.le_of_ble_eq_true rfl) (Nat.le_of_ble_eq_true rfl) (show 1 ≤ am_P0.2.2.1 53 from by decide +kernel) rfl (cl_recv (h1.1.s (2, 2) (by decide))) rfl rfl (ck_kind (d := (d + 19)) h1   ) ?_
      rintro v13 S14 ⟨r15, rfl, rfl, h17⟩
      have h17_ : r15.toInt = kd aw S := h17
      show am_E _ _ _ _ [some (.ref 7), some (.int n)] [.int r15] _ _
      by_cases c19 : r15.toInt = 1
      · refine am_e19 (t := 151) hi_52_16 (am_swI (v := r15) (w := 1) (by decide) (by decide) c19) ?_
        refine am_e2 (v := 7) hi_52_151 rfl ?_
        refine am_e32q (d1 := d + 0 + 20) (by omega) (as := [.ref 7]) (la := [some (.ref 7), none, none, none]) (rest := []) hi_52_152 (am_hd0 (M := 52) (by decide) 152) (Nat.le_of_ble_eq_true rfl) (Nat.le_of_ble_eq_true rfl) (show 1 ≤ am_P0.2.2.1 59 from by decide +kernel) rfl (cl_recv (h1.1.s (7, 6) (by decide))) rfl rfl (cr_assign (d := d + 0) h1  ihR (by show 48 - lv S < (NN : Int) + 1; omega) (by show (30 : Int) * (48 - lv S) ≤ ((d + 0 : Nat) : Int); omega) (by show 0 ≤ nx S; omega) (by show nx S ≤ wr S; omega) (by show wr S ≤ 600; omega) (by show 0 ≤ lv S; omega) (by show lv S ≤ 48; omega) (by show 1 ≤ iv S 13 1; omega) (by show iv S 13 1 ≤ lv S + 1; omega) (by show iv S 5 1 ≤ nx S + 1; omega)) (fun S31 h32 => hq S31 (show TH aw 2000 Sb S31 from ⟨h32.1, h2.trans h32.2.1, ⟨(by have q := h32.2.2.1.1; omega), h32.2.2.1.2.trans h6⟩, h32.2.2.2.1, h32.2.2.2.2.1, (by have q := h32.2.2.2.2.2; omega)⟩)) ?_
        rintro v20 S21 ⟨rfl, h23, h24, h25, h26, h27, h28, h29⟩
        have h24_ : nx S + 1 ≤ nx S21 := h24
        have h25_ : nx S21 ≤ wr S21 := h25
        have h26_ : lv S21 = lv S + 0 := h26
        have h27_ : EN S21 + -10000 * nx S21 ≤ EN S + -10000 * nx S + (-1000) := h27
        have h28_ : iv S 8 1 ≤ iv S21 8 1 := h28
        have h29_ : iv S 10 1 ≤ iv S21 10 1 := h29
        obtain ⟨h33, h34, ⟨h37, h38⟩, ⟨h39, h40⟩⟩ := h23
        show am_E _ _ _ _ [some (.ref 7), some (.int n)] [] _ _
        refine am_e18 hi_52_155 ?_
        obtain ⟨z44, hz44, tz44⟩ := am_addI (x := n) (y := 1) (m := n.toInt) (n := (1 : Int)) rfl (by decide) (by omega) (by omega)
        refine am_e5 (v := n) (z := z44) (ls' := [some (.ref 7), some (.int z44)]) hi_52_308 rfl hz44 rfl ?_
        refine am_e18 hi_52_311 ?_
        exact ih _ z44 ⟨h33, (h2.trans h34), ⟨(by show wr S21 = wr Sb; omega), (h38.trans h6)⟩, ⟨(by show iv S21 13 1 = iv Sb 13 1; omega), (by show iv S21 5 1 - nx S21 ≤ iv Sb 5 1 - nx Sb; omega)⟩⟩ (by show nx Sb + 0 ≤ nx S21; omega) (by show nx S21 ≤ wr S21; omega) (by show lv S21 = lv Sb + 0; omega) (by show EN S21 + -10000 * nx S21 ≤ EN Sb + -10000 * nx Sb + 0; omega) (by show iv Sb 8 1 ≤ iv S21 8 1; omega) (by show iv Sb 10 1 ≤ iv S21 10 1; omega) (by show 2147483647 - z44.toInt < (N : Int); omega)
      · have c19_ : True := trivial
        by_cases c45 : r15.toInt = 11
        · refine am_e19 (t := 165) hi_52_16 (am_swI (v := r15) (w := 11) (by decide) (by decide) c45) ?_
          refine am_e2 (v := 7) hi_52_165 rfl ?_
          refine am_e32t (as := [.ref 7]) (la := [some (.ref 7), none, none]) (rest := []) hi_52_166 (am_hd0 (M := 52) (by decide) 166) (Nat.le_of_ble_eq_true rfl) (Nat.le_of_ble_eq_true rfl) (show 1 ≤ am_P0.2.2.1 123 from by decide +kernel) rfl (cl_recv (h1.1.s (7, 6) (by decide))) rfl rfl (ck_break (d := (d + 6)) h1   (by show 0 ≤ nx S; omega) (by show nx S ≤ wr S; omega) (by show wr S ≤ 600; omega) (by show 0 ≤ lv S; omega) (by show lv S ≤ 48; omega) (by show kd aw S = 11; omega)) (fun S65 h66 => hq S65 (show TH aw 2000 Sb S65 from ⟨h66.1, h2.trans h66.2.1, ⟨(by have q := h66.2.2.1.1; omega), h66.2.2.1.2.trans h6⟩, h66.2.2.2.1, h66.2.2.2.2.1, (by have q := h66.2.2.2.2.2; omega)⟩)) ?_
          rintro v46 S47 ⟨rfl, h49, h50, h51, h52, h53, h54, h55, h56⟩
          have h50_ : nx S + 1 ≤ nx S47 := h50
          have h51_ : nx S47 ≤ wr S47 := h51
          have h52_ : lv S47 = lv S + 0 := h52
          have h53_ : EN S47 + -10000 * nx S47 ≤ EN S + -10000 * nx S + (-9000) := h53
          have h54_ : iv S47 8 1 = iv S 8 1 := h54
          have h55_ : iv S47 10 1 = iv S 10 1 := h55
          have h56_ : iv S47 14 1 = iv S 14 1 := h56
          obtain ⟨h67, h68, ⟨h69, h70⟩, ⟨h71, h72, h73⟩⟩ := h49
          have h74 := os_5 h71 1
          have h75 := os_13 h71 1
          show am_E _ _ _ _ [some (.ref 7), some (.int n)] [] _ _
          refine am_e18 hi_52_169 ?_
          obtain ⟨z76, hz76, tz76⟩ := am_addI (x := n) (y := 1) (m := n.toInt) (n := (1 : Int)) rfl (by decide) (by omega) (by omega)
          refine am_e5 (v := n) (z := z76) (ls' := [some (.ref 7), some (.int z76)]) hi_52_308 rfl hz76 rfl ?_
          refine am_e18 hi_52_311 ?_
          exact ih _ z76 ⟨h67, (h2.trans h68), ⟨(by show wr S47 = wr Sb; omega), (h70.trans h6)⟩, ⟨(by show iv S47 13 1 = iv Sb 13 1; omega), (by show iv S47 5 1 - nx S47 ≤ iv Sb 5 1 - nx Sb; omega)⟩⟩ (by show nx Sb + 0 ≤ nx S47; omega) (by show nx S47 ≤ wr S47; omega) (by show lv S47 = lv Sb + 0; omega) (by show EN S47 + -10000 * nx S47 ≤ EN Sb + -10000 * nx Sb + 0; omega) (by show iv Sb 8 1 ≤ iv S47 8 1; omega) (by show iv Sb 10 1 ≤ iv S47 10 1; omega) (by show 2147483647 - z76.toInt < (N : Int); omega)
        · have c45_ : True := trivial
          by_cases c77 : r15.toInt = 12
          · refine am_e19 (t := 179) hi_52_16 (am_swI (v := r15) (w := 12) (by decide) (by decide) c77) ?_
            refine am_e2 (v := 7) hi_52_179 rfl ?_
            refine cm_20f (r := 2) h1 hi_52_180 (h1.1.s (7, 6) (by decide)) (by decide) rfl ?_
            refine am_e32t (as := [.ref 2]) (la := [some (.ref 2), none]) (rest := []) hi_52_183 (am_hd0 (M := 52) (by decide) 183) (Nat.le_of_ble_eq_true rfl) (Nat.le_of_ble_eq_true rfl) (show 1 ≤ am_P0.2.2.1 55 from by decide +kernel) rfl (cl_recv (h1.1.s (2, 2) (by decide))) rfl rfl (ck_skip (d := (d + 7)) h1   (by show 0 ≤ nx S; omega) (by show nx S ≤ wr S; omega) (by show wr S ≤ 600; omega) (by show 0 ≤ lv S; omega) (by show lv S ≤ 48; omega) (by show kd aw S ≠ 0; omega)) (fun S94 h95 => hq S94 (show TH aw 2000 Sb S94 from ⟨h95.1, h2.trans h95.2.1, ⟨(by have q := h95.2.2.1.1; omega), h95.2.2.1.2.trans h6⟩, h95.2.2.2.1, h95.2.2.2.2.1, (by have q := h95.2.2.2.2.2; omega)⟩)) ?_
            rintro v78 S79 ⟨r80, rfl, h81, h82, h83, h84, h85⟩
            have h82_ : nx S79 = nx S + 1 := h82
            have h83_ : lv S79 = lv S + c_dl (kd aw S) := h83
            have h84_ : lv S79 ≤ 48 := h84
            have h85_ : nx S79 ≤ wr S79 := h85
            obtain ⟨h96, h97, ⟨h100, h101⟩, ⟨h102, h103, h104⟩, h105, h106⟩ := h81
            have h107 := h105 8 (h1.1.s (8, 3) (by decide))
            have h108 := h105 10 (h1.1.s (10, 3) (by decide))
            have h109 := os_5 h102 1
            have h110 := os_13 h102 1
            have h111 : c_dl (kd aw S) = 1 := by unfold c_dl; split <;> split <;> omega
            show am_E _ _ _ _ [some (.ref 7), some (.int n)] [.int r80] _ _
            refine am_e6i hi_52_186 ?_
            refine am_e2 (v := 7) hi_52_187 rfl ?_
            refine am_e32q (d1 := d - 30 + 28 + 22) (by omega) (as := [.ref 7]) (la := [some (.ref 7)]) (rest := []) hi_52_188 (am_hd0 (M := 52) (by decide) 188) (Nat.le_of_ble_eq_true rfl) (Nat.le_of_ble_eq_true rfl) (show 1 ≤ am_P0.2.2.1 128 from by decide +kernel) rfl (cl_recv (h96.1.s (7, 6) (by decide))) rfl rfl (rc_128 ihR (d - 30 + 28) _  h96  (by show 48 - lv S79 < (NN : Int); omega) (by show (30 : Int) * (48 - lv S79) ≤ ((d - 30 + 28 : Nat) : Int); omega) (by show 0 ≤ nx S79; omega) (by show nx S79 ≤ wr S79; omega) (by show wr S79 ≤ 600; omega) (by show 0 ≤ lv S79; omega) (by show lv S79 ≤ 48; omega) (by show 1 ≤ iv S79 13 1; omega) (by show iv S79 13 1 ≤ lv S79 + 1; omega) (by show iv S79 5 1 ≤ nx S79 + 1; omega)) (fun S123 h124 => hq S123 (show TH aw 2000 Sb S123 from ⟨h124.1, (h2.trans h97).trans h124.2.1, ⟨(by have q := h124.2.2.1.1; omega), h124.2.2.1.2.trans (h101.trans h6)⟩, h124.2.2.2.1, h124.2.2.2.2.1, (by have q := h124.2.2.2.2.2; omega)⟩)) ?_
            rintro v112 S113 ⟨rfl, h115, h116, h117, h118, h119, h120, h121⟩
            have h116_ : nx S79 + 0 ≤ nx S113 := h116
            have h117_ : nx S113 ≤ wr S113 := h117
            have h118_ : lv S113 = lv S79 + 0 := h118
            have h119_ : EN S113 + -10000 * nx S113 ≤ EN S79 + -10000 * nx S79 + 500 := h119
            have h120_ : iv S79 8 1 ≤ iv S113 8 1 := h120
            have h121_ : iv S79 10 1 ≤ iv S113 10 1 := h121
            obtain ⟨h125, h126, ⟨h129, h130⟩, ⟨h131, h132⟩⟩ := h115
            show am_E _ _ _ _ [some (.ref 7), some (.int n)] [] _ _
            refine am_e2 (v := 7) hi_52_191 rfl ?_
            refine cm_20f (r := 2) h125 hi_52_192 (h125.1.s (7, 6) (by decide)) (by decide) rfl ?_
            refine am_e0 hi_52_195 ?_
            refine am_e32t (as := [.ref 2, .int 15]) (la := [some (.ref 2), some (.int 15)]) (rest := []) hi_52_197 (am_hd0 (M := 52) (by decide) 197) (Nat.le_of_ble_eq_true rfl) (Nat.le_of_ble_eq_true rfl) (show 2 ≤ am_P0.2.2.1 64 from by decide +kernel) rfl (cl_recv (h125.1.s (2, 2) (by decide))) rfl rfl (ck_take (d := (d + 6)) h125   (by show 0 ≤ nx S113; omega) (by show nx S113 ≤ wr S113; omega) (by show wr S113 ≤ 600; omega) (by show 0 ≤ lv S113; omega) (by show lv S113 ≤ 48; omega) (by show ¬ (15 : Int) = 0; omega)) (fun S153 h154 => hq S153 (show TH aw 2000 Sb S153 from ⟨h154.1, ((h2.trans h97).trans h126).trans h154.2.1, ⟨(by have q := h154.2.2.1.1; omega), h154.2.2.1.2.trans (h130.trans (h101.trans h6))⟩, h154.2.2.2.1, h154.2.2.2.2.1, (by have q := h154.2.2.2.2.2; omega)⟩)) ?_
            rintro v136 S137 ⟨r138, rfl, h139, h140, h141, h142, h143, h144⟩
            have h140_ : kd aw S113 = (15 : Int) := h140
            have h141_ : nx S137 = nx S113 + 1 := h141
            have h142_ : lv S137 = lv S113 + c_dl (kd aw S113) := h142
            have h143_ : lv S137 ≤ 48 := h143
            have h144_ : nx S137 ≤ wr S137 := h144
            obtain ⟨h155, h156, ⟨h159, h160⟩, ⟨h161, h162, h163⟩, h164, h165⟩ := h139
            have h166 := h164 8 (h125.1.s (8, 3) (by decide))
            have h167 := h164 10 (h125.1.s (10, 3) (by decide))
            have h168 := os_5 h161 1
            have h169 := os_13 h161 1
            have h170 : c_dl (kd aw S113) = -1 := by unfold c_dl; split <;> split <;> omega
            show am_E _ _ _ _ [some (.ref 7), some (.int n)] [.int r138] _ _
            refine am_e6i hi_52_200 ?_
            refine am_e18 hi_52_201 ?_
            obtain ⟨z171, hz171, tz171⟩ := am_addI (x := n) (y := 1) (m := n.toInt) (n := (1 : Int)) rfl (by decide) (by omega) (by omega)
            refine am_e5 (v := n) (z := z171) (ls' := [some (.ref 7), some (.int z171)]) hi_52_308 rfl hz171 rfl ?_
            refine am_e18 hi_52_311 ?_
            exact ih _ z171 ⟨h155, (((h2.trans h97).trans h126).trans h156), ⟨(by show wr S137 = wr Sb; omega), (h160.trans (h130.trans (h101.trans h6)))⟩, ⟨(by show iv S137 13 1 = iv Sb 13 1; omega), (by show iv S137 5 1 - nx S137 ≤ iv Sb 5 1 - nx Sb; omega)⟩⟩ (by show nx Sb + 0 ≤ nx S137; omega) (by show nx S137 ≤ wr S137; omega) (by show lv S137 = lv Sb + 0; omega) (by show EN S137 + -10000 * nx S137 ≤ EN Sb + -10000 * nx Sb + 0; omega) (by show iv Sb 8 1 ≤ iv S137 8 1; omega) (by show iv Sb 10 1 ≤ iv S137 10 1; omega) (by show 2147483647 - z171.toInt < (N : Int); omega)
          · have c77_ : True := trivial
            by_cases c172 : r15.toInt = 17
            · refine am_e19 (t := 225) hi_52_16 (am_swI (v := r15) (w := 17) (by decide) (by decide) c172) ?_
              refine am_e2 (v := 7) hi_52_225 rfl ?_
              refine cm_20f (r := 2) h1 hi_52_226 (h1.1.s (7, 6) (by decide)) (by decide) rfl ?_
              refine am_e2 (v := 7) hi_52_229 rfl ?_
              refine cm_20f (r := 2) h1 hi_52_230 (h1.1.s (7, 6) (by decide)) (by decide) rfl ?_
              refine am_e32x (as := [.ref 2]) (la := [some (.ref 2)]) (rest := [.ref 2]) hi_52_233 (am_hd0 (M := 52) (by decide) 233) (Nat.le_of_ble_eq_true rfl) (Nat.le_of_ble_eq_true rfl) (show 1 ≤ am_P0.2.2.1 63 from by decide +kernel) rfl (cl_recv (h1.1.s (2, 2) (by decide))) rfl rfl ?_
              refine am_e2 (v := 2) hi_63_0 rfl ?_
              refine cm_20i h1 hi_63_1 (h1.1.s (2, 2) (by decide)) (by decide) rfl fun v173 hv173 => ?_
              have hv173_ : v173.toInt = nx S := hv173
              refine am_e33 hi_63_4 ?_
              show am_E _ _ _ _ [some (.ref 7), some (.int n)] [.int v173, .ref 2] _ _
              refine am_e0 hi_52_236 ?_
              obtain ⟨z174, hz174, tz174⟩ := am_addI (x := v173) (y := 2) (m := v173.toInt) (n := (2 : Int)) rfl (by decide) (by omega) (by omega)
              refine am_e10 (z := z174) hi_52_237 hz174 ?_
              refine am_e32n (as := [.ref 2, .int z174]) (la := [some (.ref 2), some (.int z174)]) (rest := []) hi_52_238 (am_hd0 (M := 52) (by decide) 238) (Nat.le_of_ble_eq_true rfl) (Nat.le_of_ble_eq_true rfl) (show 2 ≤ am_P0.2.2.1 93 from by decide +kernel) rfl (cl_recv (h1.1.s (2, 2) (by decide))) rfl rfl (ck_kindAt (d := (d + 19)) h1   ) ?_
              rintro v175 S176 ⟨r177, rfl, rfl, h179⟩
              have h179_ : r177.toInt = kA aw S z174.toInt := h179
              have h181 : r177.toInt = kA aw S (nx S + 2) := by have q := h179_; rw [show z174.toInt = nx S + 2 from by omega] at q; exact q
              show am_E _ _ _ _ [some (.ref 7), some (.int n)] [.int r177] _ _
              refine am_e0 hi_52_241 ?_
              by_cases c182 : ¬ r177.toInt = (59 : Int)
              · refine am_e13t hi_52_243 (am_cT (m := r177.toInt) (n := (59 : Int)) rfl (by decide) c182) ?_
                refine am_e2 (v := 7) hi_52_253 rfl ?_
                refine am_e32q (d1 := d + 0 + 20) (by omega) (as := [.ref 7]) (la := [some (.ref 7), none, none, none, none, none, none, none]) (rest := []) hi_52_254 (am_hd0 (M := 52) (by decide) 254) (Nat.le_of_ble_eq_true rfl) (Nat.le_of_ble_eq_true rfl) (show 1 ≤ am_P0.2.2.1 144 from by decide +kernel) rfl (cl_recv (h1.1.s (7, 6) (by decide))) rfl rfl (cr_listLoop (d := d + 0) h1  ihR (by show 48 - lv S < (NN : Int) + 1; omega) (by show (30 : Int) * (48 - lv S) ≤ ((d + 0 : Nat) : Int); omega) (by show 0 ≤ nx S; omega) (by show nx S ≤ wr S; omega) (by show wr S ≤ 600; omega) (by show 0 ≤ lv S; omega) (by show lv S ≤ 48; omega) (by show 1 ≤ iv S 13 1; omega) (by show iv S 13 1 ≤ lv S + 1; omega) (by show iv S 5 1 ≤ nx S + 1; omega) (by show kd aw S = 17; omega)) (fun S194 h195 => hq S194 (show TH aw 2000 Sb S194 from ⟨h195.1, h2.trans h195.2.1, ⟨(by have q := h195.2.2.1.1; omega), h195.2.2.1.2.trans h6⟩, h195.2.2.2.1, h195.2.2.2.2.1, (by have q := h195.2.2.2.2.2; omega)⟩)) ?_
                rintro v183 S184 ⟨rfl, h186, h187, h188, h189, h190, h191, h192⟩
                have h187_ : nx S + 1 ≤ nx S184 := h187
                have h188_ : nx S184 ≤ wr S184 := h188
                have h189_ : lv S184 = lv S + 0 := h189
                have h190_ : EN S184 + -10000 * nx S184 ≤ EN S + -10000 * nx S + (-5000) := h190
                have h191_ : iv S 8 1 ≤ iv S184 8 1 := h191
                have h192_ : iv S 10 1 ≤ iv S184 10 1 := h192
                obtain ⟨h196, h197, ⟨h200, h201⟩, ⟨h202, h203⟩⟩ := h186
                show am_E _ _ _ _ [some (.ref 7), some (.int n)] [] _ _
                refine am_e18 hi_52_257 ?_
                obtain ⟨z207, hz207, tz207⟩ := am_addI (x := n) (y := 1) (m := n.toInt) (n := (1 : Int)) rfl (by decide) (by omega) (by omega)
                refine am_e5 (v := n) (z := z207) (ls' := [some (.ref 7), some (.int z207)]) hi_52_308 rfl hz207 rfl ?_
                refine am_e18 hi_52_311 ?_
                exact ih _ z207 ⟨h196, (h2.trans h197), ⟨(by show wr S184 = wr Sb; omega), (h201.trans h6)⟩, ⟨(by show iv S184 13 1 = iv Sb 13 1; omega), (by show iv S184 5 1 - nx S184 ≤ iv Sb 5 1 - nx Sb; omega)⟩⟩ (by show nx Sb + 0 ≤ nx S184; omega) (by show nx S184 ≤ wr S184; omega) (by show lv S184 = lv Sb + 0; omega) (by show EN S184 + -10000 * nx S184 ≤ EN Sb + -10000 * nx Sb + 0; omega) (by show iv Sb 8 1 ≤ iv S184 8 1; omega) (by show iv Sb 10 1 ≤ iv S184 10 1; omega) (by show 2147483647 - z207.toInt < (N : Int); omega)
              · refine am_e13f hi_52_243 (am_cF (m := r177.toInt) (n := (59 : Int)) rfl (by decide) c182) ?_
                refine am_e2 (v := 7) hi_52_246 rfl ?_
                refine am_e32q (d1 := d + 0 + 20) (by omega) (as := [.ref 7]) (la := [some (.ref 7), none, none, none, none, none]) (rest := []) hi_52_247 (am_hd0 (M := 52) (by decide) 247) (Nat.le_of_ble_eq_true rfl) (Nat.le_of_ble_eq_true rfl) (show 1 ≤ am_P0.2.2.1 138 from by decide +kernel) rfl (cl_recv (h1.1.s (7, 6) (by decide))) rfl rfl (cr_numLoop (d := d + 0) h1  ihR (by show 48 - lv S < (NN : Int) + 1; omega) (by show (30 : Int) * (48 - lv S) ≤ ((d + 0 : Nat) : Int); omega) (by show 0 ≤ nx S; omega) (by show nx S ≤ wr S; omega) (by show wr S ≤ 600; omega) (by show 0 ≤ lv S; omega) (by show lv S ≤ 48; omega) (by show 1 ≤ iv S 13 1; omega) (by show iv S 13 1 ≤ lv S + 1; omega) (by show iv S 5 1 ≤ nx S + 1; omega) (by show kd aw S = 17; omega)) (fun S219 h220 => hq S219 (show TH aw 2000 Sb S219 from ⟨h220.1, h2.trans h220.2.1, ⟨(by have q := h220.2.2.1.1; omega), h220.2.2.1.2.trans h6⟩, h220.2.2.2.1, h220.2.2.2.2.1, (by have q := h220.2.2.2.2.2; omega)⟩)) ?_
                rintro v208 S209 ⟨rfl, h211, h212, h213, h214, h215, h216, h217⟩
                have h212_ : nx S + 1 ≤ nx S209 := h212
                have h213_ : nx S209 ≤ wr S209 := h213
                have h214_ : lv S209 = lv S + 0 := h214
                have h215_ : EN S209 + -10000 * nx S209 ≤ EN S + -10000 * nx S + (-5000) := h215
                have h216_ : iv S 8 1 ≤ iv S209 8 1 := h216
                have h217_ : iv S 10 1 ≤ iv S209 10 1 := h217
                obtain ⟨h221, h222, ⟨h225, h226⟩, ⟨h227, h228⟩⟩ := h211
                show am_E _ _ _ _ [some (.ref 7), some (.int n)] [] _ _
                refine am_e18 hi_52_250 ?_
                obtain ⟨z232, hz232, tz232⟩ := am_addI (x := n) (y := 1) (m := n.toInt) (n := (1 : Int)) rfl (by decide) (by omega) (by omega)
                refine am_e5 (v := n) (z := z232) (ls' := [some (.ref 7), some (.int z232)]) hi_52_308 rfl hz232 rfl ?_
                refine am_e18 hi_52_311 ?_
                exact ih _ z232 ⟨h221, (h2.trans h222), ⟨(by show wr S209 = wr Sb; omega), (h226.trans h6)⟩, ⟨(by show iv S209 13 1 = iv Sb 13 1; omega), (by show iv S209 5 1 - nx S209 ≤ iv Sb 5 1 - nx Sb; omega)⟩⟩ (by show nx Sb + 0 ≤ nx S209; omega) (by show nx S209 ≤ wr S209; omega) (by show lv S209 = lv Sb + 0; omega) (by show EN S209 + -10000 * nx S209 ≤ EN Sb + -10000 * nx Sb + 0; omega) (by show iv Sb 8 1 ≤ iv S209 8 1; omega) (by show iv Sb 10 1 ≤ iv S209 10 1; omega) (by show 2147483647 - z232.toInt < (N : Int); omega)
            · have c172_ : True := trivial
              by_cases c233 : r15.toInt = 18
              · refine am_e19 (t := 260) hi_52_16 (am_swI (v := r15) (w := 18) (by decide) (by decide) c233) ?_
                refine am_e2 (v := 7) hi_52_260 rfl ?_
                refine am_e32q (d1 := d + 4 + 16) (by omega) (as := [.ref 7]) (la := [some (.ref 7), none, none, none, none]) (rest := []) hi_52_261 (am_hd0 (M := 52) (by decide) 261) (Nat.le_of_ble_eq_true rfl) (Nat.le_of_ble_eq_true rfl) (show 1 ≤ am_P0.2.2.1 145 from by decide +kernel) rfl (cl_recv (h1.1.s (7, 6) (by decide))) rfl rfl (cr_funStat (d := d + 4) h1  ihR (by show 48 - lv S < (NN : Int) + 1; omega) (by show (30 : Int) * (48 - lv S) ≤ ((d + 4 : Nat) : Int); omega) (by show 0 ≤ nx S; omega) (by show nx S ≤ wr S; omega) (by show wr S ≤ 600; omega) (by show 0 ≤ lv S; omega) (by show lv S ≤ 48; omega) (by show 1 ≤ iv S 13 1; omega) (by show iv S 13 1 ≤ lv S + 1; omega) (by show iv S 5 1 ≤ nx S + 1; omega) (by show kd aw S = 18; omega)) (fun S245 h246 => hq S245 (show TH aw 2000 Sb S245 from ⟨h246.1, h2.trans h246.2.1, ⟨(by have q := h246.2.2.1.1; omega), h246.2.2.1.2.trans h6⟩, h246.2.2.2.1, h246.2.2.2.2.1, (by have q := h246.2.2.2.2.2; omega)⟩)) ?_
                rintro v234 S235 ⟨rfl, h237, h238, h239, h240, h241, h242, h243⟩
                have h238_ : nx S + 1 ≤ nx S235 := h238
                have h239_ : nx S235 ≤ wr S235 := h239
                have h240_ : lv S235 = lv S + 0 := h240
                have h241_ : EN S235 + -10000 * nx S235 ≤ EN S + -10000 * nx S + (-5000) := h241
                have h242_ : iv S 8 1 ≤ iv S235 8 1 := h242
                have h243_ : iv S 10 1 ≤ iv S235 10 1 := h243
                obtain ⟨h247, h248, ⟨h251, h252⟩, ⟨h253, h254⟩⟩ := h237
                show am_E _ _ _ _ [some (.ref 7), some (.int n)] [] _ _
                refine am_e18 hi_52_264 ?_
                obtain ⟨z258, hz258, tz258⟩ := am_addI (x := n) (y := 1) (m := n.toInt) (n := (1 : Int)) rfl (by decide) (by omega) (by omega)
                refine am_e5 (v := n) (z := z258) (ls' := [some (.ref 7), some (.int z258)]) hi_52_308 rfl hz258 rfl ?_
                refine am_e18 hi_52_311 ?_
                exact ih _ z258 ⟨h247, (h2.trans h248), ⟨(by show wr S235 = wr Sb; omega), (h252.trans h6)⟩, ⟨(by show iv S235 13 1 = iv Sb 13 1; omega), (by show iv S235 5 1 - nx S235 ≤ iv Sb 5 1 - nx Sb; omega)⟩⟩ (by show nx Sb + 0 ≤ nx S235; omega) (by show nx S235 ≤ wr S235; omega) (by show lv S235 = lv Sb + 0; omega) (by show EN S235 + -10000 * nx S235 ≤ EN Sb + -10000 * nx Sb + 0; omega) (by show iv Sb 8 1 ≤ iv S235 8 1; omega) (by show iv Sb 10 1 ≤ iv S235 10 1; omega) (by show 2147483647 - z258.toInt < (N : Int); omega)
              · have c233_ : True := trivial
                by_cases c259 : r15.toInt = 19
                · refine am_e19 (t := 172) hi_52_16 (am_swI (v := r15) (w := 19) (by decide) (by decide) c259) ?_
                  refine am_e2 (v := 7) hi_52_172 rfl ?_
                  refine am_e32t (as := [.ref 7]) (la := [some (.ref 7), none, none, none]) (rest := []) hi_52_173 (am_hd0 (M := 52) (by decide) 173) (Nat.le_of_ble_eq_true rfl) (Nat.le_of_ble_eq_true rfl) (show 1 ≤ am_P0.2.2.1 126 from by decide +kernel) rfl (cl_recv (h1.1.s (7, 6) (by decide))) rfl rfl (ck_goto (d := (d + 5)) h1   (by show 0 ≤ nx S; omega) (by show nx S ≤ wr S; omega) (by show wr S ≤ 600; omega) (by show 0 ≤ lv S; omega) (by show lv S ≤ 48; omega) (by show kd aw S = 19; omega)) (fun S279 h280 => hq S279 (show TH aw 2000 Sb S279 from ⟨h280.1, h2.trans h280.2.1, ⟨(by have q := h280.2.2.1.1; omega), h280.2.2.1.2.trans h6⟩, h280.2.2.2.1, h280.2.2.2.2.1, (by have q := h280.2.2.2.2.2; omega)⟩)) ?_
                  rintro v260 S261 ⟨rfl, h263, h264, h265, h266, h267, h268, h269, h270⟩
                  have h264_ : nx S + 1 ≤ nx S261 := h264
                  have h265_ : nx S261 ≤ wr S261 := h265
                  have h266_ : lv S261 = lv S + 0 := h266
                  have h267_ : EN S261 + -10000 * nx S261 ≤ EN S + -10000 * nx S + (-9000) := h267
                  have h268_ : iv S261 8 1 = iv S 8 1 := h268
                  have h269_ : iv S261 10 1 = iv S 10 1 := h269
                  have h270_ : iv S261 14 1 = iv S 14 1 := h270
                  obtain ⟨h281, h282, ⟨h283, h284⟩, ⟨h285, h286, h287⟩⟩ := h263
                  have h288 := os_5 h285 1
                  have h289 := os_13 h285 1
                  show am_E _ _ _ _ [some (.ref 7), some (.int n)] [] _ _
                  refine am_e18 hi_52_176 ?_
                  obtain ⟨z290, hz290, tz290⟩ := am_addI (x := n) (y := 1) (m := n.toInt) (n := (1 : Int)) rfl (by decide) (by omega) (by omega)
                  refine am_e5 (v := n) (z := z290) (ls' := [some (.ref 7), some (.int z290)]) hi_52_308 rfl hz290 rfl ?_
                  refine am_e18 hi_52_311 ?_
                  exact ih _ z290 ⟨h281, (h2.trans h282), ⟨(by show wr S261 = wr Sb; omega), (h284.trans h6)⟩, ⟨(by show iv S261 13 1 = iv Sb 13 1; omega), (by show iv S261 5 1 - nx S261 ≤ iv Sb 5 1 - nx Sb; omega)⟩⟩ (by show nx Sb + 0 ≤ nx S261; omega) (by show nx S261 ≤ wr S261; omega) (by show lv S261 = lv Sb + 0; omega) (by show EN S261 + -10000 * nx S261 ≤ EN Sb + -10000 * nx Sb + 0; omega) (by show iv Sb 8 1 ≤ iv S261 8 1; omega) (by show iv Sb 10 1 ≤ iv S261 10 1; omega) (by show 2147483647 - z290.toInt < (N : Int); omega)
                · have c259_ : True := trivial
                  by_cases c291 : r15.toInt = 20
                  · refine am_e19 (t := 218) hi_52_16 (am_swI (v := r15) (w := 20) (by decide) (by decide) c291) ?_
                    refine am_e2 (v := 7) hi_52_218 rfl ?_
                    refine am_e32q (d1 := d + 0 + 20) (by omega) (as := [.ref 7]) (la := [some (.ref 7), none, none, none]) (rest := []) hi_52_219 (am_hd0 (M := 52) (by decide) 219) (Nat.le_of_ble_eq_true rfl) (Nat.le_of_ble_eq_true rfl) (show 1 ≤ am_P0.2.2.1 134 from by decide +kernel) rfl (cl_recv (h1.1.s (7, 6) (by decide))) rfl rfl (cr_choice (d := d + 0) h1  ihR (by show 48 - lv S < (NN : Int) + 1; omega) (by show (30 : Int) * (48 - lv S) ≤ ((d + 0 : Nat) : Int); omega) (by show 0 ≤ nx S; omega) (by show nx S ≤ wr S; omega) (by show wr S ≤ 600; omega) (by show 0 ≤ lv S; omega) (by show lv S ≤ 48; omega) (by show 1 ≤ iv S 13 1; omega) (by show iv S 13 1 ≤ lv S + 1; omega) (by show iv S 5 1 ≤ nx S + 1; omega) (by show kd aw S = 20; omega)) (fun S303 h304 => hq S303 (show TH aw 2000 Sb S303 from ⟨h304.1, h2.trans h304.2.1, ⟨(by have q := h304.2.2.1.1; omega), h304.2.2.1.2.trans h6⟩, h304.2.2.2.1, h304.2.2.2.2.1, (by have q := h304.2.2.2.2.2; omega)⟩)) ?_
                    rintro v292 S293 ⟨rfl, h295, h296, h297, h298, h299, h300, h301⟩
                    have h296_ : nx S + 1 ≤ nx S293 := h296
                    have h297_ : nx S293 ≤ wr S293 := h297
                    have h298_ : lv S293 = lv S + 0 := h298
                    have h299_ : EN S293 + -10000 * nx S293 ≤ EN S + -10000 * nx S + (-5000) := h299
                    have h300_ : iv S 8 1 ≤ iv S293 8 1 := h300
                    have h301_ : iv S 10 1 ≤ iv S293 10 1 := h301
                    obtain ⟨h305, h306, ⟨h309, h310⟩, ⟨h311, h312⟩⟩ := h295
                    show am_E _ _ _ _ [some (.ref 7), some (.int n)] [] _ _
                    refine am_e18 hi_52_222 ?_
                    obtain ⟨z316, hz316, tz316⟩ := am_addI (x := n) (y := 1) (m := n.toInt) (n := (1 : Int)) rfl (by decide) (by omega) (by omega)
                    refine am_e5 (v := n) (z := z316) (ls' := [some (.ref 7), some (.int z316)]) hi_52_308 rfl hz316 rfl ?_
                    refine am_e18 hi_52_311 ?_
                    exact ih _ z316 ⟨h305, (h2.trans h306), ⟨(by show wr S293 = wr Sb; omega), (h310.trans h6)⟩, ⟨(by show iv S293 13 1 = iv Sb 13 1; omega), (by show iv S293 5 1 - nx S293 ≤ iv Sb 5 1 - nx Sb; omega)⟩⟩ (by show nx Sb + 0 ≤ nx S293; omega) (by show nx S293 ≤ wr S293; omega) (by show lv S293 = lv Sb + 0; omega) (by show EN S293 + -10000 * nx S293 ≤ EN Sb + -10000 * nx Sb + 0; omega) (by show iv Sb 8 1 ≤ iv S293 8 1; omega) (by show iv Sb 10 1 ≤ iv S293 10 1; omega) (by show 2147483647 - z316.toInt < (N : Int); omega)
                  · have c291_ : True := trivial
                    by_cases c317 : r15.toInt = 22
                    · refine am_e19 (t := 267) hi_52_16 (am_swI (v := r15) (w := 22) (by decide) (by decide) c317) ?_
                      refine am_e2 (v := 7) hi_52_267 rfl ?_
                      refine cm_20f (r := 2) h1 hi_52_268 (h1.1.s (7, 6) (by decide)) (by decide) rfl ?_
                      refine am_e2 (v := 7) hi_52_271 rfl ?_
                      refine cm_20f (r := 2) h1 hi_52_272 (h1.1.s (7, 6) (by decide)) (by decide) rfl ?_
                      refine am_e32x (as := [.ref 2]) (la := [some (.ref 2)]) (rest := [.ref 2]) hi_52_275 (am_hd0 (M := 52) (by decide) 275) (Nat.le_of_ble_eq_true rfl) (Nat.le_of_ble_eq_true rfl) (show 1 ≤ am_P0.2.2.1 63 from by decide +kernel) rfl (cl_recv (h1.1.s (2, 2) (by decide))) rfl rfl ?_
                      refine am_e2 (v := 2) hi_63_0 rfl ?_
                      refine cm_20i h1 hi_63_1 (h1.1.s (2, 2) (by decide)) (by decide) rfl fun v318 hv318 => ?_
                      have hv318_ : v318.toInt = nx S := hv318
                      refine am_e33 hi_63_4 ?_
                      show am_E _ _ _ _ [some (.ref 7), some (.int n)] [.int v318, .ref 2] _ _
                      refine am_e0 hi_52_278 ?_
                      obtain ⟨z319, hz319, tz319⟩ := am_addI (x := v318) (y := 1) (m := v318.toInt) (n := (1 : Int)) rfl (by decide) (by omega) (by omega)
                      refine am_e10 (z := z319) hi_52_279 hz319 ?_
                      refine am_e32n (as := [.ref 2, .int z319]) (la := [some (.ref 2), some (.int z319)]) (rest := []) hi_52_280 (am_hd0 (M := 52) (by decide) 280) (Nat.le_of_ble_eq_true rfl) (Nat.le_of_ble_eq_true rfl) (show 2 ≤ am_P0.2.2.1 93 from by decide +kernel) rfl (cl_recv (h1.1.s (2, 2) (by decide))) rfl rfl (ck_kindAt (d := (d + 19)) h1   ) ?_
                      rintro v320 S321 ⟨r322, rfl, rfl, h324⟩
                      have h324_ : r322.toInt = kA aw S z319.toInt := h324
                      have h326 : r322.toInt = kA aw S (nx S + 1) := by have q := h324_; rw [show z319.toInt = nx S + 1 from by omega] at q; exact q
                      show am_E _ _ _ _ [some (.ref 7), some (.int n)] [.int r322] _ _
                      refine am_e0 hi_52_283 ?_
                      by_cases c327 : ¬ r322.toInt = (18 : Int)
                      · refine am_e13t hi_52_285 (am_cT (m := r322.toInt) (n := (18 : Int)) rfl (by decide) c327) ?_
                        refine am_e2 (v := 7) hi_52_295 rfl ?_
                        refine am_e32q (d1 := d + 0 + 20) (by omega) (as := [.ref 7]) (la := [some (.ref 7), none, none, none, none, none, none, none]) (rest := []) hi_52_296 (am_hd0 (M := 52) (by decide) 296) (Nat.le_of_ble_eq_true rfl) (Nat.le_of_ble_eq_true rfl) (show 1 ≤ am_P0.2.2.1 147 from by decide +kernel) rfl (cl_recv (h1.1.s (7, 6) (by decide))) rfl rfl (cr_localNames (d := d + 0) h1  ihR (by show 48 - lv S < (NN : Int) + 1; omega) (by show (30 : Int) * (48 - lv S) ≤ ((d + 0 : Nat) : Int); omega) (by show 0 ≤ nx S; omega) (by show nx S ≤ wr S; omega) (by show wr S ≤ 600; omega) (by show 0 ≤ lv S; omega) (by show lv S ≤ 48; omega) (by show 1 ≤ iv S 13 1; omega) (by show iv S 13 1 ≤ lv S + 1; omega) (by show iv S 5 1 ≤ nx S + 1; omega) (by show kd aw S = 22; omega)) (fun S339 h340 => hq S339 (show TH aw 2000 Sb S339 from ⟨h340.1, h2.trans h340.2.1, ⟨(by have q := h340.2.2.1.1; omega), h340.2.2.1.2.trans h6⟩, h340.2.2.2.1, h340.2.2.2.2.1, (by have q := h340.2.2.2.2.2; omega)⟩)) ?_
                        rintro v328 S329 ⟨rfl, h331, h332, h333, h334, h335, h336, h337⟩
                        have h332_ : nx S + 1 ≤ nx S329 := h332
                        have h333_ : nx S329 ≤ wr S329 := h333
                        have h334_ : lv S329 = lv S + 0 := h334
                        have h335_ : EN S329 + -10000 * nx S329 ≤ EN S + -10000 * nx S + (-1000) := h335
                        have h336_ : iv S 8 1 ≤ iv S329 8 1 := h336
                        have h337_ : iv S 10 1 ≤ iv S329 10 1 := h337
                        obtain ⟨h341, h342, ⟨h345, h346⟩, ⟨h347, h348⟩⟩ := h331
                        show am_E _ _ _ _ [some (.ref 7), some (.int n)] [] _ _
                        refine am_e18 hi_52_299 ?_
                        obtain ⟨z352, hz352, tz352⟩ := am_addI (x := n) (y := 1) (m := n.toInt) (n := (1 : Int)) rfl (by decide) (by omega) (by omega)
                        refine am_e5 (v := n) (z := z352) (ls' := [some (.ref 7), some (.int z352)]) hi_52_308 rfl hz352 rfl ?_
                        refine am_e18 hi_52_311 ?_
                        exact ih _ z352 ⟨h341, (h2.trans h342), ⟨(by show wr S329 = wr Sb; omega), (h346.trans h6)⟩, ⟨(by show iv S329 13 1 = iv Sb 13 1; omega), (by show iv S329 5 1 - nx S329 ≤ iv Sb 5 1 - nx Sb; omega)⟩⟩ (by show nx Sb + 0 ≤ nx S329; omega) (by show nx S329 ≤ wr S329; omega) (by show lv S329 = lv Sb + 0; omega) (by show EN S329 + -10000 * nx S329 ≤ EN Sb + -10000 * nx Sb + 0; omega) (by show iv Sb 8 1 ≤ iv S329 8 1; omega) (by show iv Sb 10 1 ≤ iv S329 10 1; omega) (by show 2147483647 - z352.toInt < (N : Int); omega)
                      · refine am_e13f hi_52_285 (am_cF (m := r322.toInt) (n := (18 : Int)) rfl (by decide) c327) ?_
                        refine am_e2 (v := 7) hi_52_288 rfl ?_
                        refine am_e32q (d1 := d + 5 + 15) (by omega) (as := [.ref 7]) (la := [some (.ref 7), none, none, none, none, none]) (rest := []) hi_52_289 (am_hd0 (M := 52) (by decide) 289) (Nat.le_of_ble_eq_true rfl) (Nat.le_of_ble_eq_true rfl) (show 1 ≤ am_P0.2.2.1 146 from by decide +kernel) rfl (cl_recv (h1.1.s (7, 6) (by decide))) rfl rfl (cr_localFun (d := d + 5) h1  ihR (by show 48 - lv S < (NN : Int) + 1; omega) (by show (30 : Int) * (48 - lv S) ≤ ((d + 5 : Nat) : Int); omega) (by show 0 ≤ nx S; omega) (by show nx S ≤ wr S; omega) (by show wr S ≤ 600; omega) (by show 0 ≤ lv S; omega) (by show lv S ≤ 48; omega) (by show 1 ≤ iv S 13 1; omega) (by show iv S 13 1 ≤ lv S + 1; omega) (by show iv S 5 1 ≤ nx S + 1; omega) (by show kd aw S = 22; omega) (by show kA aw S (nx S + 1) = 18; omega)) (fun S364 h365 => hq S364 (show TH aw 2000 Sb S364 from ⟨h365.1, h2.trans h365.2.1, ⟨(by have q := h365.2.2.1.1; omega), h365.2.2.1.2.trans h6⟩, h365.2.2.2.1, h365.2.2.2.2.1, (by have q := h365.2.2.2.2.2; omega)⟩)) ?_
                        rintro v353 S354 ⟨rfl, h356, h357, h358, h359, h360, h361, h362⟩
                        have h357_ : nx S + 1 ≤ nx S354 := h357
                        have h358_ : nx S354 ≤ wr S354 := h358
                        have h359_ : lv S354 = lv S + 0 := h359
                        have h360_ : EN S354 + -10000 * nx S354 ≤ EN S + -10000 * nx S + (-5000) := h360
                        have h361_ : iv S 8 1 ≤ iv S354 8 1 := h361
                        have h362_ : iv S 10 1 ≤ iv S354 10 1 := h362
                        obtain ⟨h366, h367, ⟨h370, h371⟩, ⟨h372, h373⟩⟩ := h356
                        show am_E _ _ _ _ [some (.ref 7), some (.int n)] [] _ _
                        refine am_e18 hi_52_292 ?_
                        obtain ⟨z377, hz377, tz377⟩ := am_addI (x := n) (y := 1) (m := n.toInt) (n := (1 : Int)) rfl (by decide) (by omega) (by omega)
                        refine am_e5 (v := n) (z := z377) (ls' := [some (.ref 7), some (.int z377)]) hi_52_308 rfl hz377 rfl ?_
                        refine am_e18 hi_52_311 ?_
                        exact ih _ z377 ⟨h366, (h2.trans h367), ⟨(by show wr S354 = wr Sb; omega), (h371.trans h6)⟩, ⟨(by show iv S354 13 1 = iv Sb 13 1; omega), (by show iv S354 5 1 - nx S354 ≤ iv Sb 5 1 - nx Sb; omega)⟩⟩ (by show nx Sb + 0 ≤ nx S354; omega) (by show nx S354 ≤ wr S354; omega) (by show lv S354 = lv Sb + 0; omega) (by show EN S354 + -10000 * nx S354 ≤ EN Sb + -10000 * nx Sb + 0; omega) (by show iv Sb 8 1 ≤ iv S354 8 1; omega) (by show iv Sb 10 1 ≤ iv S354 10 1; omega) (by show 2147483647 - z377.toInt < (N : Int); omega)
                    · have c317_ : True := trivial
                      by_cases c378 : r15.toInt = 26
                      · refine am_e19 (t := 211) hi_52_16 (am_swI (v := r15) (w := 26) (by decide) (by decide) c378) ?_
                        refine am_e2 (v := 7) hi_52_211 rfl ?_
                        refine am_e32q (d1 := d + 1 + 19) (by omega) (as := [.ref 7]) (la := [some (.ref 7), none, none]) (rest := []) hi_52_212 (am_hd0 (M := 52) (by decide) 212) (Nat.le_of_ble_eq_true rfl) (Nat.le_of_ble_eq_true rfl) (show 1 ≤ am_P0.2.2.1 133 from by decide +kernel) rfl (cl_recv (h1.1.s (7, 6) (by decide))) rfl rfl (cr_repeat (d := d + 1) h1  ihR (by show 48 - lv S < (NN : Int) + 1; omega) (by show (30 : Int) * (48 - lv S) ≤ ((d + 1 : Nat) : Int); omega) (by show 0 ≤ nx S; omega) (by show nx S ≤ wr S; omega) (by show wr S ≤ 600; omega) (by show 0 ≤ lv S; omega) (by show lv S ≤ 48; omega) (by show 1 ≤ iv S 13 1; omega) (by show iv S 13 1 ≤ lv S + 1; omega) (by show iv S 5 1 ≤ nx S + 1; omega) (by show kd aw S = 26; omega)) (fun S390 h391 => hq S390 (show TH aw 2000 Sb S390 from ⟨h391.1, h2.trans h391.2.1, ⟨(by have q := h391.2.2.1.1; omega), h391.2.2.1.2.trans h6⟩, h391.2.2.2.1, h391.2.2.2.2.1, (by have q := h391.2.2.2.2.2; omega)⟩)) ?_
                        rintro v379 S380 ⟨rfl, h382, h383, h384, h385, h386, h387, h388⟩
                        have h383_ : nx S + 1 ≤ nx S380 := h383
                        have h384_ : nx S380 ≤ wr S380 := h384
                        have h385_ : lv S380 = lv S + 0 := h385
                        have h386_ : EN S380 + -10000 * nx S380 ≤ EN S + -10000 * nx S + (-5000) := h386
                        have h387_ : iv S 8 1 ≤ iv S380 8 1 := h387
                        have h388_ : iv S 10 1 ≤ iv S380 10 1 := h388
                        obtain ⟨h392, h393, ⟨h396, h397⟩, ⟨h398, h399⟩⟩ := h382
                        show am_E _ _ _ _ [some (.ref 7), some (.int n)] [] _ _
                        refine am_e18 hi_52_215 ?_
                        obtain ⟨z403, hz403, tz403⟩ := am_addI (x := n) (y := 1) (m := n.toInt) (n := (1 : Int)) rfl (by decide) (by omega) (by omega)
                        refine am_e5 (v := n) (z := z403) (ls' := [some (.ref 7), some (.int z403)]) hi_52_308 rfl hz403 rfl ?_
                        refine am_e18 hi_52_311 ?_
                        exact ih _ z403 ⟨h392, (h2.trans h393), ⟨(by show wr S380 = wr Sb; omega), (h397.trans h6)⟩, ⟨(by show iv S380 13 1 = iv Sb 13 1; omega), (by show iv S380 5 1 - nx S380 ≤ iv Sb 5 1 - nx Sb; omega)⟩⟩ (by show nx Sb + 0 ≤ nx S380; omega) (by show nx S380 ≤ wr S380; omega) (by show lv S380 = lv Sb + 0; omega) (by show EN S380 + -10000 * nx S380 ≤ EN Sb + -10000 * nx Sb + 0; omega) (by show iv Sb 8 1 ≤ iv S380 8 1; omega) (by show iv Sb 10 1 ≤ iv S380 10 1; omega) (by show 2147483647 - z403.toInt < (N : Int); omega)
                      · have c378_ : True := trivial
                        by_cases c404 : r15.toInt = 27
                        · refine am_e19 (t := 302) hi_52_16 (am_swI (v := r15) (w := 27) (by decide) (by decide) c404) ?_
                          refine am_e2 (v := 7) hi_52_302 rfl ?_
                          refine am_e32q (d1 := d + 0 + 20) (by omega) (as := [.ref 7]) (la := [some (.ref 7), none, none, none]) (rest := []) hi_52_303 (am_hd0 (M := 52) (by decide) 303) (Nat.le_of_ble_eq_true rfl) (Nat.le_of_ble_eq_true rfl) (show 1 ≤ am_P0.2.2.1 150 from by decide +kernel) rfl (cl_recv (h1.1.s (7, 6) (by decide))) rfl rfl (cr_return (d := d + 0) h1  ihR (by show 48 - lv S < (NN : Int) + 1; omega) (by show (30 : Int) * (48 - lv S) ≤ ((d + 0 : Nat) : Int); omega) (by show 0 ≤ nx S; omega) (by show nx S ≤ wr S; omega) (by show wr S ≤ 600; omega) (by show 0 ≤ lv S; omega) (by show lv S ≤ 48; omega) (by show 1 ≤ iv S 13 1; omega) (by show iv S 13 1 ≤ lv S + 1; omega) (by show iv S 5 1 ≤ nx S + 1; omega) (by show kd aw S = 27; omega)) (fun S416 h417 => hq S416 (show TH aw 2000 Sb S416 from ⟨h417.1, h2.trans h417.2.1, ⟨(by have q := h417.2.2.1.1; omega), h417.2.2.1.2.trans h6⟩, h417.2.2.2.1, h417.2.2.2.2.1, (by have q := h417.2.2.2.2.2; omega)⟩)) ?_
                          rintro v405 S406 ⟨rfl, h408, h409, h410, h411, h412, h413, h414⟩
                          have h409_ : nx S + 1 ≤ nx S406 := h409
                          have h410_ : nx S406 ≤ wr S406 := h410
                          have h411_ : lv S406 = lv S + 0 := h411
                          have h412_ : EN S406 + -10000 * nx S406 ≤ EN S + -10000 * nx S + (-5000) := h412
                          have h413_ : iv S 8 1 ≤ iv S406 8 1 := h413
                          have h414_ : iv S 10 1 ≤ iv S406 10 1 := h414
                          obtain ⟨h418, h419, ⟨h422, h423⟩, ⟨h424, h425⟩⟩ := h408
                          show am_E _ _ _ _ [some (.ref 7), some (.int n)] [] _ _
                          exact hx0 _ n ⟨h418, (h2.trans h419), ⟨(by show wr S406 = wr Sb; omega), (h423.trans h6)⟩, ⟨(by show iv S406 13 1 = iv Sb 13 1; omega), (by show iv S406 5 1 - nx S406 ≤ iv Sb 5 1 - nx Sb; omega)⟩⟩ (by show nx Sb + 0 ≤ nx S406; omega) (by show nx S406 ≤ wr S406; omega) (by show lv S406 = lv Sb + 0; omega) (by show EN S406 + -10000 * nx S406 ≤ EN Sb + -10000 * nx Sb + 0; omega) (by show iv Sb 8 1 ≤ iv S406 8 1; omega) (by show iv Sb 10 1 ≤ iv S406 10 1; omega)
                        · have c404_ : True := trivial
                          by_cases c429 : r15.toInt = 31
                          · refine am_e19 (t := 204) hi_52_16 (am_swI (v := r15) (w := 31) (by decide) (by decide) c429) ?_
                            refine am_e2 (v := 7) hi_52_204 rfl ?_
                            refine am_e32q (d1 := d + 1 + 19) (by omega) (as := [.ref 7]) (la := [some (.ref 7), none, none]) (rest := []) hi_52_205 (am_hd0 (M := 52) (by decide) 205) (Nat.le_of_ble_eq_true rfl) (Nat.le_of_ble_eq_true rfl) (show 1 ≤ am_P0.2.2.1 130 from by decide +kernel) rfl (cl_recv (h1.1.s (7, 6) (by decide))) rfl rfl (cr_while (d := d + 1) h1  ihR (by show 48 - lv S < (NN : Int) + 1; omega) (by show (30 : Int) * (48 - lv S) ≤ ((d + 1 : Nat) : Int); omega) (by show 0 ≤ nx S; omega) (by show nx S ≤ wr S; omega) (by show wr S ≤ 600; omega) (by show 0 ≤ lv S; omega) (by show lv S ≤ 48; omega) (by show 1 ≤ iv S 13 1; omega) (by show iv S 13 1 ≤ lv S + 1; omega) (by show iv S 5 1 ≤ nx S + 1; omega) (by show kd aw S = 31; omega)) (fun S441 h442 => hq S441 (show TH aw 2000 Sb S441 from ⟨h442.1, h2.trans h442.2.1, ⟨(by have q := h442.2.2.1.1; omega), h442.2.2.1.2.trans h6⟩, h442.2.2.2.1, h442.2.2.2.2.1, (by have q := h442.2.2.2.2.2; omega)⟩)) ?_
                            rintro v430 S431 ⟨rfl, h433, h434, h435, h436, h437, h438, h439⟩
                            have h434_ : nx S + 1 ≤ nx S431 := h434
                            have h435_ : nx S431 ≤ wr S431 := h435
                            have h436_ : lv S431 = lv S + 0 := h436
                            have h437_ : EN S431 + -10000 * nx S431 ≤ EN S + -10000 * nx S + (-5000) := h437
                            have h438_ : iv S 8 1 ≤ iv S431 8 1 := h438
                            have h439_ : iv S 10 1 ≤ iv S431 10 1 := h439
                            obtain ⟨h443, h444, ⟨h447, h448⟩, ⟨h449, h450⟩⟩ := h433
                            show am_E _ _ _ _ [some (.ref 7), some (.int n)] [] _ _
                            refine am_e18 hi_52_208 ?_
                            obtain ⟨z454, hz454, tz454⟩ := am_addI (x := n) (y := 1) (m := n.toInt) (n := (1 : Int)) rfl (by decide) (by omega) (by omega)
                            refine am_e5 (v := n) (z := z454) (ls' := [some (.ref 7), some (.int z454)]) hi_52_308 rfl hz454 rfl ?_
                            refine am_e18 hi_52_311 ?_
                            exact ih _ z454 ⟨h443, (h2.trans h444), ⟨(by show wr S431 = wr Sb; omega), (h448.trans h6)⟩, ⟨(by show iv S431 13 1 = iv Sb 13 1; omega), (by show iv S431 5 1 - nx S431 ≤ iv Sb 5 1 - nx Sb; omega)⟩⟩ (by show nx Sb + 0 ≤ nx S431; omega) (by show nx S431 ≤ wr S431; omega) (by show lv S431 = lv Sb + 0; omega) (by show EN S431 + -10000 * nx S431 ≤ EN Sb + -10000 * nx Sb + 0; omega) (by show iv Sb 8 1 ≤ iv S431 8 1; omega) (by show iv Sb 10 1 ≤ iv S431 10 1; omega) (by show 2147483647 - z454.toInt < (N : Int); omega)
                          · have c429_ : True := trivial
                            by_cases c455 : r15.toInt = 60
                            · refine am_e19 (t := 151) hi_52_16 (am_swI (v := r15) (w := 60) (by decide) (by decide) c455) ?_
                              refine am_e2 (v := 7) hi_52_151 rfl ?_
                              refine am_e32q (d1 := d + 0 + 20) (by omega) (as := [.ref 7]) (la := [some (.ref 7), none, none, none]) (rest := []) hi_52_152 (am_hd0 (M := 52) (by decide) 152) (Nat.le_of_ble_eq_true rfl) (Nat.le_of_ble_eq_true rfl) (show 1 ≤ am_P0.2.2.1 59 from by decide +kernel) rfl (cl_recv (h1.1.s (7, 6) (by decide))) rfl rfl (cr_assign (d := d + 0) h1  ihR (by show 48 - lv S < (NN : Int) + 1; omega) (by show (30 : Int) * (48 - lv S) ≤ ((d + 0 : Nat) : Int); omega) (by show 0 ≤ nx S; omega) (by show nx S ≤ wr S; omega) (by show wr S ≤ 600; omega) (by show 0 ≤ lv S; omega) (by show lv S ≤ 48; omega) (by show 1 ≤ iv S 13 1; omega) (by show iv S 13 1 ≤ lv S + 1; omega) (by show iv S 5 1 ≤ nx S + 1; omega)) (fun S467 h468 => hq S467 (show TH aw 2000 Sb S467 from ⟨h468.1, h2.trans h468.2.1, ⟨(by have q := h468.2.2.1.1; omega), h468.2.2.1.2.trans h6⟩, h468.2.2.2.1, h468.2.2.2.2.1, (by have q := h468.2.2.2.2.2; omega)⟩)) ?_
                              rintro v456 S457 ⟨rfl, h459, h460, h461, h462, h463, h464, h465⟩
                              have h460_ : nx S + 1 ≤ nx S457 := h460
                              have h461_ : nx S457 ≤ wr S457 := h461
                              have h462_ : lv S457 = lv S + 0 := h462
                              have h463_ : EN S457 + -10000 * nx S457 ≤ EN S + -10000 * nx S + (-1000) := h463
                              have h464_ : iv S 8 1 ≤ iv S457 8 1 := h464
                              have h465_ : iv S 10 1 ≤ iv S457 10 1 := h465
                              obtain ⟨h469, h470, ⟨h473, h474⟩, ⟨h475, h476⟩⟩ := h459
                              show am_E _ _ _ _ [some (.ref 7), some (.int n)] [] _ _
                              refine am_e18 hi_52_155 ?_
                              obtain ⟨z480, hz480, tz480⟩ := am_addI (x := n) (y := 1) (m := n.toInt) (n := (1 : Int)) rfl (by decide) (by omega) (by omega)
                              refine am_e5 (v := n) (z := z480) (ls' := [some (.ref 7), some (.int z480)]) hi_52_308 rfl hz480 rfl ?_
                              refine am_e18 hi_52_311 ?_
                              exact ih _ z480 ⟨h469, (h2.trans h470), ⟨(by show wr S457 = wr Sb; omega), (h474.trans h6)⟩, ⟨(by show iv S457 13 1 = iv Sb 13 1; omega), (by show iv S457 5 1 - nx S457 ≤ iv Sb 5 1 - nx Sb; omega)⟩⟩ (by show nx Sb + 0 ≤ nx S457; omega) (by show nx S457 ≤ wr S457; omega) (by show lv S457 = lv Sb + 0; omega) (by show EN S457 + -10000 * nx S457 ≤ EN Sb + -10000 * nx Sb + 0; omega) (by show iv Sb 8 1 ≤ iv S457 8 1; omega) (by show iv Sb 10 1 ≤ iv S457 10 1; omega) (by show 2147483647 - z480.toInt < (N : Int); omega)
                            · have c455_ : True := trivial
                              by_cases c481 : r15.toInt = 66
                              · refine am_e19 (t := 158) hi_52_16 (am_swI (v := r15) (w := 66) (by decide) (by decide) c481) ?_
                                refine am_e2 (v := 7) hi_52_158 rfl ?_
                                refine am_e32t (as := [.ref 7]) (la := [some (.ref 7), none, none]) (rest := []) hi_52_159 (am_hd0 (M := 52) (by decide) 159) (Nat.le_of_ble_eq_true rfl) (Nat.le_of_ble_eq_true rfl) (show 1 ≤ am_P0.2.2.1 119 from by decide +kernel) rfl (cl_recv (h1.1.s (7, 6) (by decide))) rfl rfl (ck_label (d := (d + 5)) h1   (by show 0 ≤ nx S; omega) (by show nx S ≤ wr S; omega) (by show wr S ≤ 600; omega) (by show 0 ≤ lv S; omega) (by show lv S ≤ 48; omega) (by show kd aw S = 66; omega)) (fun S501 h502 => hq S501 (show TH aw 2000 Sb S501 from ⟨h502.1, h2.trans h502.2.1, ⟨(by have q := h502.2.2.1.1; omega), h502.2.2.1.2.trans h6⟩, h502.2.2.2.1, h502.2.2.2.2.1, (by have q := h502.2.2.2.2.2; omega)⟩)) ?_
                                rintro v482 S483 ⟨rfl, h485, h486, h487, h488, h489, h490, h491, h492⟩
                                have h486_ : nx S + 1 ≤ nx S483 := h486
                                have h487_ : nx S483 ≤ wr S483 := h487
                                have h488_ : lv S483 = lv S + 0 := h488
                                have h489_ : EN S483 + -10000 * nx S483 ≤ EN S + -10000 * nx S + (-9000) := h489
                                have h490_ : iv S483 8 1 = iv S 8 1 := h490
                                have h491_ : iv S483 10 1 = iv S 10 1 := h491
                                have h492_ : iv S483 14 1 = iv S 14 1 := h492
                                obtain ⟨h503, h504, ⟨h505, h506⟩, ⟨h507, h508, h509⟩⟩ := h485
                                have h510 := os_5 h507 1
                                have h511 := os_13 h507 1
                                show am_E _ _ _ _ [some (.ref 7), some (.int n)] [] _ _
                                refine am_e18 hi_52_162 ?_
                                obtain ⟨z512, hz512, tz512⟩ := am_addI (x := n) (y := 1) (m := n.toInt) (n := (1 : Int)) rfl (by decide) (by omega) (by omega)
                                refine am_e5 (v := n) (z := z512) (ls' := [some (.ref 7), some (.int z512)]) hi_52_308 rfl hz512 rfl ?_
                                refine am_e18 hi_52_311 ?_
                                exact ih _ z512 ⟨h503, (h2.trans h504), ⟨(by show wr S483 = wr Sb; omega), (h506.trans h6)⟩, ⟨(by show iv S483 13 1 = iv Sb 13 1; omega), (by show iv S483 5 1 - nx S483 ≤ iv Sb 5 1 - nx Sb; omega)⟩⟩ (by show nx Sb + 0 ≤ nx S483; omega) (by show nx S483 ≤ wr S483; omega) (by show lv S483 = lv Sb + 0; omega) (by show EN S483 + -10000 * nx S483 ≤ EN Sb + -10000 * nx Sb + 0; omega) (by show iv Sb 8 1 ≤ iv S483 8 1; omega) (by show iv Sb 10 1 ≤ iv S483 10 1; omega) (by show 2147483647 - z512.toInt < (N : Int); omega)
                              · have c481_ : True := trivial
                                by_cases c513 : r15.toInt = 67
                                · refine am_e19 (t := 140) hi_52_16 (am_swI (v := r15) (w := 67) (by decide) (by decide) c513) ?_
                                  refine am_e2 (v := 7) hi_52_140 rfl ?_
                                  refine cm_20f (r := 2) h1 hi_52_141 (h1.1.s (7, 6) (by decide)) (by decide) rfl ?_
                                  refine am_e32t (as := [.ref 2]) (la := [some (.ref 2), none]) (rest := []) hi_52_144 (am_hd0 (M := 52) (by decide) 144) (Nat.le_of_ble_eq_true rfl) (Nat.le_of_ble_eq_true rfl) (show 1 ≤ am_P0.2.2.1 55 from by decide +kernel) rfl (cl_recv (h1.1.s (2, 2) (by decide))) rfl rfl (ck_skip (d := (d + 7)) h1   (by show 0 ≤ nx S; omega) (by show nx S ≤ wr S; omega) (by show wr S ≤ 600; omega) (by show 0 ≤ lv S; omega) (by show lv S ≤ 48; omega) (by show kd aw S ≠ 0; omega)) (fun S530 h531 => hq S530 (show TH aw 2000 Sb S530 from ⟨h531.1, h2.trans h531.2.1, ⟨(by have q := h531.2.2.1.1; omega), h531.2.2.1.2.trans h6⟩, h531.2.2.2.1, h531.2.2.2.2.1, (by have q := h531.2.2.2.2.2; omega)⟩)) ?_
                                  rintro v514 S515 ⟨r516, rfl, h517, h518, h519, h520, h521⟩
                                  have h518_ : nx S515 = nx S + 1 := h518
                                  have h519_ : lv S515 = lv S + c_dl (kd aw S) := h519
                                  have h520_ : lv S515 ≤ 48 := h520
                                  have h521_ : nx S515 ≤ wr S515 := h521
                                  obtain ⟨h532, h533, ⟨h536, h537⟩, ⟨h538, h539, h540⟩, h541, h542⟩ := h517
                                  have h543 := h541 8 (h1.1.s (8, 3) (by decide))
                                  have h544 := h541 10 (h1.1.s (10, 3) (by decide))
                                  have h545 := os_5 h538 1
                                  have h546 := os_13 h538 1
                                  have h547 : c_dl (kd aw S) = 0 := by unfold c_dl; split <;> split <;> omega
                                  show am_E _ _ _ _ [some (.ref 7), some (.int n)] [.int r516] _ _
                                  refine am_e6i hi_52_147 ?_
                                  refine am_e18 hi_52_148 ?_
                                  obtain ⟨z548, hz548, tz548⟩ := am_addI (x := n) (y := 1) (m := n.toInt) (n := (1 : Int)) rfl (by decide) (by omega) (by omega)
                                  refine am_e5 (v := n) (z := z548) (ls' := [some (.ref 7), some (.int z548)]) hi_52_308 rfl hz548 rfl ?_
                                  refine am_e18 hi_52_311 ?_
                                  exact ih _ z548 ⟨h532, (h2.trans h533), ⟨(by show wr S515 = wr Sb; omega), (h537.trans h6)⟩, ⟨(by show iv S515 13 1 = iv Sb 13 1; omega), (by show iv S515 5 1 - nx S515 ≤ iv Sb 5 1 - nx Sb; omega)⟩⟩ (by show nx Sb + 0 ≤ nx S515; omega) (by show nx S515 ≤ wr S515; omega) (by show lv S515 = lv Sb + 0; omega) (by show EN S515 + -10000 * nx S515 ≤ EN Sb + -10000 * nx Sb + 0; omega) (by show iv Sb 8 1 ≤ iv S515 8 1; omega) (by show iv Sb 10 1 ≤ iv S515 10 1; omega) (by show 2147483647 - z548.toInt < (N : Int); omega)
                                · have c513_ : True := trivial
                                  refine am_e19 (t := 307) hi_52_16 (am_swK (v := r15) (ks := [1, 11, 12, 17, 18, 19, 20, 22, 26, 27, 31, 60, 66, 67]) (by decide) (by intro k hk; simp only [List.mem_cons, List.not_mem_nil, or_false] at hk; rcases hk with rfl | rfl | rfl | rfl | rfl | rfl | rfl | rfl | rfl | rfl | rfl | rfl | rfl | rfl <;> omega)) ?_
                                  exact hx1 _ n ⟨h1, h2, ⟨(by show wr S = wr Sb; omega), h6⟩, ⟨(by show iv S 13 1 = iv Sb 13 1; omega), (by show iv S 5 1 - nx S ≤ iv Sb 5 1 - nx Sb; omega)⟩⟩ (by show nx Sb + 0 ≤ nx S; omega) (by show nx S ≤ wr S; omega) (by show lv S = lv Sb + 0; omega) (by show EN S + -10000 * nx S ≤ EN Sb + -10000 * nx Sb + 0; omega) (by show iv Sb 8 1 ≤ iv S 8 1; omega) (by show iv Sb 10 1 ≤ iv S 10 1; omega)
theorem cr_block {sc : Nat × (Nat → Int32)} {d aw NN : Nat} {S : am_S} (h : SH aw S) (ihR : RC sc aw NN) (hN : 48 - lv S < (NN : Int) + 1) (hd : (30 : Int) * (48 - lv S) ≤ (d : Int)) (p0 : 0 ≤ nx S) (p1 : nx S ≤ wr S) (p2 : wr S ≤ 600) (p3 : 0 ≤ lv S) (p4 : lv S ≤ 48) (p5 : 1 ≤ iv S 13 1) (p6 : iv S 13 1 ≤ lv S + 1) (p7 : iv S 5 1 ≤ nx S + 1) : am_E (am_PP sc) (d + 21) 52 0 [some (.ref 7), none] [] S (am_T (fun v S1 => v = none ∧ Ad aw S S1 ∧ (nx S + 0 ≤ nx S1) ∧ (nx S1 ≤ wr S1) ∧ (lv S1 = lv S + 0) ∧ (EN S1 + -10000 * nx S1 ≤ EN S + -10000 * nx S + 0) ∧ (iv S 8 1 ≤ iv S1 8 1) ∧ (iv S 10 1 ≤ iv S1 10 1)) (fun S1 => TH aw 2000 S S1)) := by
  refine am_e0 hi_52_0 ?_
  refine am_e3 (ls' := [some (.ref 7), some (.int 0)]) hi_52_1 (Nat.le_of_ble_eq_true rfl) rfl ?_
  refine cg_block (d := d) (Sb := S) h  ihR (by show 48 - lv S < (NN : Int) + 1; omega) (by show (30 : Int) * (48 - lv S) ≤ ((d : Nat) : Int); omega) (by show 0 ≤ nx S; omega) (by show nx S ≤ wr S; omega) (by show wr S ≤ 600; omega) (by show 0 ≤ lv S; omega) (by show lv S ≤ 48; omega) (by show 1 ≤ iv S 13 1; omega) (by show iv S 13 1 ≤ lv S + 1; omega) (by show iv S 5 1 ≤ nx S + 1; omega) (fun S1 h2 => (show TH aw 2000 S S1 from ⟨h2.1, (Ex.refl S).trans h2.2.1, ⟨(by have q := h2.2.2.1.1; omega), h2.2.2.1.2.trans rfl⟩, h2.2.2.2.1, h2.2.2.2.2.1, (by have q := h2.2.2.2.2.2; omega)⟩)) ?_ ?_ ?_ ((2147483647 - (0 : Int)).toNat + 1) S 0 ⟨h, Ex.refl _, ⟨rfl, rfl⟩, ⟨rfl, Int.le_refl _⟩⟩ (by show nx S + 0 ≤ nx S; omega) (by show nx S ≤ wr S; omega) (by show lv S = lv S + 0; omega) (by show EN S + -10000 * nx S ≤ EN S + -10000 * nx S + 0; omega) (by show iv S 8 1 ≤ iv S 8 1; omega) (by show iv S 10 1 ≤ iv S 10 1; omega) (by show 2147483647 - (0 : Int) < _; omega)
  · intro S4 n3 h5 h6 h7 h8 h9 h10 h11
    have h6_ : nx S + 0 ≤ nx S4 := h6
    have h7_ : nx S4 ≤ wr S4 := h7
    have h8_ : lv S4 = lv S + 0 := h8
    have h9_ : EN S4 + -10000 * nx S4 ≤ EN S + -10000 * nx S + 0 := h9
    have h10_ : iv S 8 1 ≤ iv S4 8 1 := h10
    have h11_ : iv S 10 1 ≤ iv S4 10 1 := h11
    obtain ⟨h12, h13, ⟨h16, h17⟩, ⟨h18, h19⟩⟩ := h5
    show am_E _ _ _ _ [some (.ref 7), some (.int n3)] [] _ _
    refine am_e35 hi_52_306 ?_
    exact ⟨rfl, ⟨h12, h13, ⟨(by show wr S4 = wr S; omega), h17⟩, ⟨(by show iv S4 13 1 = iv S 13 1; omega), (by show iv S4 5 1 - nx S4 ≤ iv S 5 1 - nx S; omega)⟩⟩, (by show nx S + 0 ≤ nx S4; omega), (by show nx S4 ≤ wr S4; omega), (by show lv S4 = lv S + 0; omega), (by show EN S4 + -10000 * nx S4 ≤ EN S + -10000 * nx S + 0; omega), (by show iv S 8 1 ≤ iv S4 8 1; omega), (by show iv S 10 1 ≤ iv S4 10 1; omega)⟩
  · intro S24 n23 h25 h26 h27 h28 h29 h30 h31
    have h26_ : nx S + 0 ≤ nx S24 := h26
    have h27_ : nx S24 ≤ wr S24 := h27
    have h28_ : lv S24 = lv S + 0 := h28
    have h29_ : EN S24 + -10000 * nx S24 ≤ EN S + -10000 * nx S + 0 := h29
    have h30_ : iv S 8 1 ≤ iv S24 8 1 := h30
    have h31_ : iv S 10 1 ≤ iv S24 10 1 := h31
    obtain ⟨h32, h33, ⟨h36, h37⟩, ⟨h38, h39⟩⟩ := h25
    show am_E _ _ _ _ [some (.ref 7), some (.int n23)] [] _ _
    refine am_e35 hi_52_307 ?_
    exact ⟨rfl, ⟨h32, h33, ⟨(by show wr S24 = wr S; omega), h37⟩, ⟨(by show iv S24 13 1 = iv S 13 1; omega), (by show iv S24 5 1 - nx S24 ≤ iv S 5 1 - nx S; omega)⟩⟩, (by show nx S + 0 ≤ nx S24; omega), (by show nx S24 ≤ wr S24; omega), (by show lv S24 = lv S + 0; omega), (by show EN S24 + -10000 * nx S24 ≤ EN S + -10000 * nx S + 0; omega), (by show iv S 8 1 ≤ iv S24 8 1; omega), (by show iv S 10 1 ≤ iv S24 10 1; omega)⟩
  · intro S44 n43 h45 h46 h47 h48 h49 h50 h51
    have h46_ : nx S + 0 ≤ nx S44 := h46
    have h47_ : nx S44 ≤ wr S44 := h47
    have h48_ : lv S44 = lv S + 0 := h48
    have h49_ : EN S44 + -10000 * nx S44 ≤ EN S + -10000 * nx S + 0 := h49
    have h50_ : iv S 8 1 ≤ iv S44 8 1 := h50
    have h51_ : iv S 10 1 ≤ iv S44 10 1 := h51
    obtain ⟨h52, h53, ⟨h56, h57⟩, ⟨h58, h59⟩⟩ := h45
    show am_E _ _ _ _ [some (.ref 7), some (.int n43)] [] _ _
    refine am_e35 hi_52_314 ?_
    exact ⟨rfl, ⟨h52, h53, ⟨(by show wr S44 = wr S; omega), h57⟩, ⟨(by show iv S44 13 1 = iv S 13 1; omega), (by show iv S44 5 1 - nx S44 ≤ iv S 5 1 - nx S; omega)⟩⟩, (by show nx S + 0 ≤ nx S44; omega), (by show nx S44 ≤ wr S44; omega), (by show lv S44 = lv S + 0; omega), (by show EN S44 + -10000 * nx S44 ≤ EN S + -10000 * nx S + 0; omega), (by show iv S 8 1 ≤ iv S44 8 1; omega), (by show iv S 10 1 ≤ iv S44 10 1; omega)⟩
theorem cr_inner {sc : Nat × (Nat → Int32)} {d aw NN : Nat} {S : am_S} (h : SH aw S) (ihR : RC sc aw NN) (hN : 48 - lv S < (NN : Int) + 1) (hd : (30 : Int) * (48 - lv S) ≤ (d : Int)) (p0 : 0 ≤ nx S) (p1 : nx S ≤ wr S) (p2 : wr S ≤ 600) (p3 : 0 ≤ lv S) (p4 : lv S ≤ 48) (p5 : 1 ≤ iv S 13 1) (p6 : iv S 13 1 ≤ lv S + 1) (p7 : iv S 5 1 ≤ nx S + 1) : am_E (am_PP sc) (d + 22) 128 0 [some (.ref 7)] [] S (am_T (fun v S1 => v = none ∧ Ad aw S S1 ∧ (nx S + 0 ≤ nx S1) ∧ (nx S1 ≤ wr S1) ∧ (lv S1 = lv S + 0) ∧ (EN S1 + -10000 * nx S1 ≤ EN S + -10000 * nx S + 500) ∧ (iv S 8 1 ≤ iv S1 8 1) ∧ (iv S 10 1 ≤ iv S1 10 1)) (fun S1 => TH aw 2200 S S1)) := by
  refine am_e2 (v := 7) hi_128_0 rfl ?_
  refine cm_20f (r := 12) h hi_128_1 (h.1.s (7, 6) (by decide)) (by decide) rfl ?_
  refine am_e32n (as := [.ref 12]) (la := [some (.ref 12)]) (rest := []) hi_128_4 (am_hd0 (M := 128) (by decide) 4) (Nat.le_of_ble_eq_true rfl) (Nat.le_of_ble_eq_true rfl) (show 1 ≤ am_P0.2.2.1 51 from by decide +kernel) rfl (cl_recv (h.1.s (12, 7) (by decide))) rfl rfl (ck_openBlock (d := (d + 18)) h   ) ?_
  rintro v1 S2 ⟨rfl, h4, h5, h6, h7⟩
  have h5_ : iv S2 8 1 = iv S 8 1 := h5
  have h6_ : iv S2 10 1 = iv S 10 1 := h6
  have h7_ : iv S2 14 1 = iv S 14 1 := h7
  obtain ⟨h9, h10, ⟨h11, h12, h13, h14⟩, ⟨h15, h16, h17⟩, h19⟩ := h4
  have h20 : kd aw S2 = kd aw S := kd_eq h11 h14
  have h21 := os_5 h15 1
  have h22 := os_13 h15 1
  show am_E _ _ _ _ [some (.ref 7)] [] _ _
  refine am_e2 (v := 7) hi_128_7 rfl ?_
  refine am_e32q (d1 := d + 0 + 21) (by omega) (as := [.ref 7]) (la := [some (.ref 7), none]) (rest := []) hi_128_8 (am_hd0 (M := 128) (by decide) 8) (Nat.le_of_ble_eq_true rfl) (Nat.le_of_ble_eq_true rfl) (show 1 ≤ am_P0.2.2.1 52 from by decide +kernel) rfl (cl_recv (h9.1.s (7, 6) (by decide))) rfl rfl (cr_block (d := d + 0) h9  ihR (by show 48 - lv S2 < (NN : Int) + 1; omega) (by show (30 : Int) * (48 - lv S2) ≤ ((d + 0 : Nat) : Int); omega) (by show 0 ≤ nx S2; omega) (by show nx S2 ≤ wr S2; omega) (by show wr S2 ≤ 600; omega) (by show 0 ≤ lv S2; omega) (by show lv S2 ≤ 48; omega) (by show 1 ≤ iv S2 13 1; omega) (by show iv S2 13 1 ≤ lv S2 + 1; omega) (by show iv S2 5 1 ≤ nx S2 + 1; omega)) (fun S34 h35 => (show TH aw 2200 S S34 from ⟨h35.1, h10.trans h35.2.1, ⟨(by have q := h35.2.2.1.1; omega), h35.2.2.1.2.trans h14⟩, h35.2.2.2.1, h35.2.2.2.2.1, (by have q := h35.2.2.2.2.2; omega)⟩)) ?_
  rintro v23 S24 ⟨rfl, h26, h27, h28, h29, h30, h31, h32⟩
  have h27_ : nx S2 + 0 ≤ nx S24 := h27
  have h28_ : nx S24 ≤ wr S24 := h28
  have h29_ : lv S24 = lv S2 + 0 := h29
  have h30_ : EN S24 + -10000 * nx S24 ≤ EN S2 + -10000 * nx S2 + 0 := h30
  have h31_ : iv S2 8 1 ≤ iv S24 8 1 := h31
  have h32_ : iv S2 10 1 ≤ iv S24 10 1 := h32
  obtain ⟨h36, h37, ⟨h40, h41⟩, ⟨h42, h43⟩⟩ := h26
  show am_E _ _ _ _ [some (.ref 7)] [] _ _
  refine am_e2 (v := 7) hi_128_11 rfl ?_
  refine cm_20f (r := 12) h36 hi_128_12 (h36.1.s (7, 6) (by decide)) (by decide) rfl ?_
  refine am_e32n (as := [.ref 12]) (la := [some (.ref 12)]) (rest := []) hi_128_15 (am_hd0 (M := 128) (by decide) 15) (Nat.le_of_ble_eq_true rfl) (Nat.le_of_ble_eq_true rfl) (show 1 ≤ am_P0.2.2.1 129 from by decide +kernel) rfl (cl_recv (h36.1.s (12, 7) (by decide))) rfl rfl (ck_blockHas (d := (d + 19)) h36   ) ?_
  rintro v47 S48 ⟨r49, rfl, hb51, rfl⟩
  have hb51_ : r49.toInt = 0 ∨ r49.toInt = 1 := hb51.elim (fun e => Or.inl (by rw [e]; rfl)) (fun e => Or.inr (by rw [e]; rfl))
  show am_E _ _ _ _ [some (.ref 7)] [.int r49] _ _
  by_cases c52 : r49.toInt = (0 : Int)
  · refine am_e12t hi_128_18 (am_cT (m := r49.toInt) (n := (0 : Int)) rfl (by decide) c52) ?_
    refine am_e2 (v := 7) hi_128_37 rfl ?_
    refine cm_20f (r := 12) h36 hi_128_38 (h36.1.s (7, 6) (by decide)) (by decide) rfl ?_
    refine am_e32n (as := [.ref 12]) (la := [some (.ref 12), none]) (rest := []) hi_128_41 (am_hd0 (M := 128) (by decide) 41) (Nat.le_of_ble_eq_true rfl) (Nat.le_of_ble_eq_true rfl) (show 1 ≤ am_P0.2.2.1 81 from by decide +kernel) rfl (cl_recv (h36.1.s (12, 7) (by decide))) rfl rfl (ck_closeBlock (d := (d + 18)) h36   ) ?_
    rintro v53 S54 ⟨rfl, h56, h57, h58⟩
    have h57_ : iv S54 8 1 = iv S24 8 1 := h57
    have h58_ : iv S54 10 1 = iv S24 10 1 := h58
    obtain ⟨h60, h61, ⟨h62, h63, h64, h65⟩, ⟨h66, h67, h68⟩, h70⟩ := h56
    have h71 : kd aw S54 = kd aw S24 := kd_eq h62 h65
    have h72 := os_5 h66 1
    have h73 := os_13 h66 1
    show am_E _ _ _ _ [some (.ref 7)] [] _ _
    refine am_e35 hi_128_44 ?_
    exact ⟨rfl, ⟨h60, ((h10.trans h37).trans h61), ⟨(by show wr S54 = wr S; omega), (h65.trans (h41.trans h14))⟩, ⟨(by show iv S54 13 1 = iv S 13 1; omega), (by show iv S54 5 1 - nx S54 ≤ iv S 5 1 - nx S; omega)⟩⟩, (by show nx S + 0 ≤ nx S54; omega), (by show nx S54 ≤ wr S54; omega), (by show lv S54 = lv S + 0; omega), (by show EN S54 + -10000 * nx S54 ≤ EN S + -10000 * nx S + 500; omega), (by show iv S 8 1 ≤ iv S54 8 1; omega), (by show iv S 10 1 ≤ iv S54 10 1; omega)⟩
  · refine am_e12f hi_128_18 (am_cF (m := r49.toInt) (n := (0 : Int)) rfl (by decide) c52) ?_
    refine am_e2 (v := 7) hi_128_21 rfl ?_
    refine am_e0 hi_128_22 ?_
    refine am_e2 (v := 7) hi_128_24 rfl ?_
    refine cm_20f (r := 12) h36 hi_128_25 (h36.1.s (7, 6) (by decide)) (by decide) rfl ?_
    refine am_e32n (as := [.ref 12]) (la := [some (.ref 12)]) (rest := [.int 33, .ref 7]) hi_128_28 (am_hd0 (M := 128) (by decide) 28) (Nat.le_of_ble_eq_true rfl) (Nat.le_of_ble_eq_true rfl) (show 1 ≤ am_P0.2.2.1 82 from by decide +kernel) rfl (cl_recv (h36.1.s (12, 7) (by decide))) rfl rfl (ck_before (d := (d + 20)) h36   ) ?_
    rintro v74 S75 ⟨r76, rfl, rfl⟩
    show am_E _ _ _ _ [some (.ref 7)] [.int r76, .int 33, .ref 7] _ _
    refine am_e0 hi_128_31 ?_
    refine am_e0 hi_128_32 ?_
    refine am_e32n (as := [.ref 7, .int 33, .int r76, .int 0, .int 0]) (la := [some (.ref 7), some (.int 33), some (.int r76), some (.int 0), some (.int 0)]) (rest := []) hi_128_33 (am_hd0 (M := 128) (by decide) 33) (Nat.le_of_ble_eq_true rfl) (Nat.le_of_ble_eq_true rfl) (show 5 ≤ am_P0.2.2.1 78 from by decide +kernel) rfl (cl_recv (h36.1.s (7, 6) (by decide))) rfl rfl (ck_emit (d := (d + 18)) h36   ) ?_
    rintro v79 S80 ⟨r81, rfl, h82, h83, h84, h85⟩
    have h83_ : iv S80 8 1 = iv S24 8 1 := h83
    have h84_ : iv S80 10 1 = iv S24 10 1 := h84
    have h85_ : iv S80 14 1 = iv S24 14 1 := h85
    obtain ⟨h87, h88, ⟨h89, h90, h91, h92⟩, ⟨h93, h94, h95⟩, h97⟩ := h82
    have h98 : kd aw S80 = kd aw S24 := kd_eq h89 h92
    have h99 := os_5 h93 1
    have h100 := os_13 h93 1
    show am_E _ _ _ _ [some (.ref 7)] [.int r81] _ _
    refine am_e6i hi_128_36 ?_
    refine am_e2 (v := 7) hi_128_37 rfl ?_
    refine cm_20f (r := 12) h87 hi_128_38 (h87.1.s (7, 6) (by decide)) (by decide) rfl ?_
    refine am_e32n (as := [.ref 12]) (la := [some (.ref 12), none]) (rest := []) hi_128_41 (am_hd0 (M := 128) (by decide) 41) (Nat.le_of_ble_eq_true rfl) (Nat.le_of_ble_eq_true rfl) (show 1 ≤ am_P0.2.2.1 81 from by decide +kernel) rfl (cl_recv (h87.1.s (12, 7) (by decide))) rfl rfl (ck_closeBlock (d := (d + 18)) h87   ) ?_
    rintro v101 S102 ⟨rfl, h104, h105, h106⟩
    have h105_ : iv S102 8 1 = iv S80 8 1 := h105
    have h106_ : iv S102 10 1 = iv S80 10 1 := h106
    obtain ⟨h108, h109, ⟨h110, h111, h112, h113⟩, ⟨h114, h115, h116⟩, h118⟩ := h104
    have h119 : kd aw S102 = kd aw S80 := kd_eq h110 h113
    have h120 := os_5 h114 1
    have h121 := os_13 h114 1
    show am_E _ _ _ _ [some (.ref 7)] [] _ _
    refine am_e35 hi_128_44 ?_
    exact ⟨rfl, ⟨h108, (((h10.trans h37).trans h88).trans h109), ⟨(by show wr S102 = wr S; omega), (h113.trans (h92.trans (h41.trans h14)))⟩, ⟨(by show iv S102 13 1 = iv S 13 1; omega), (by show iv S102 5 1 - nx S102 ≤ iv S 5 1 - nx S; omega)⟩⟩, (by show nx S + 0 ≤ nx S102; omega), (by show nx S102 ≤ wr S102; omega), (by show lv S102 = lv S + 0; omega), (by show EN S102 + -10000 * nx S102 ≤ EN S + -10000 * nx S + 500; omega), (by show iv S 8 1 ≤ iv S102 8 1; omega), (by show iv S 10 1 ≤ iv S102 10 1; omega)⟩
theorem cr_function {sc : Nat × (Nat → Int32)} {d aw NN : Nat} {S : am_S} {fw : Int32} {ws : Int32} (h : SH aw S) (hb_ws : ws = 0 ∨ ws = 1) (ihR : RC sc aw NN) (hN : 48 - lv S < (NN : Int) + 1) (hd : (30 : Int) * (48 - lv S) ≤ (d : Int)) (p0 : 0 ≤ nx S) (p1 : nx S ≤ wr S) (p2 : wr S ≤ 600) (p3 : 0 ≤ lv S) (p4 : lv S ≤ 48) (p5 : 1 ≤ iv S 13 1) (p6 : iv S 13 1 ≤ lv S + 0) (p7 : iv S 5 1 ≤ nx S + 1) : am_E (am_PP sc) (d + 22) 73 0 [some (.ref 7), some (.int fw), some (.int ws), none, none, none] [] S (am_T (fun v S1 => v = none ∧ Ad aw S S1 ∧ (nx S + 1 ≤ nx S1) ∧ (nx S1 ≤ wr S1) ∧ (lv S1 = lv S + (-1)) ∧ (EN S1 + -10000 * nx S1 ≤ EN S + -10000 * nx S + (-15000)) ∧ (iv S 8 1 ≤ iv S1 8 1) ∧ (iv S 10 1 ≤ iv S1 10 1)) (fun S1 => TH aw 2000 S S1)) := by
  have hb_ws_ : ws.toInt = 0 ∨ ws.toInt = 1 := hb_ws.elim (fun e => Or.inl (by rw [e]; rfl)) (fun e => Or.inr (by rw [e]; rfl))
  refine am_e2 (v := 7) hi_73_0 rfl ?_
  refine cm_20f (r := 2) h hi_73_1 (h.1.s (7, 6) (by decide)) (by decide) rfl ?_
  refine am_e32x (as := [.ref 2]) (la := [some (.ref 2)]) (rest := []) hi_73_4 (am_hd0 (M := 73) (by decide) 4) (Nat.le_of_ble_eq_true rfl) (Nat.le_of_ble_eq_true rfl) (show 1 ≤ am_P0.2.2.1 63 from by decide +kernel) rfl (cl_recv (h.1.s (2, 2) (by decide))) rfl rfl ?_
  refine am_e2 (v := 2) hi_63_0 rfl ?_
  refine cm_20i h hi_63_1 (h.1.s (2, 2) (by decide)) (by decide) rfl fun v1 hv1 => ?_
  have hv1_ : v1.toInt = nx S := hv1
  refine am_e33 hi_63_4 ?_
  show am_E _ _ _ _ [some (.ref 7), some (.int fw), some (.int ws), none, none, none] [.int v1] _ _
  refine am_e3 (ls' := [some (.ref 7), some (.int fw), some (.int ws), some (.int v1), none, none]) hi_73_7 (Nat.le_of_ble_eq_true rfl) rfl ?_
  refine am_e2 (v := 7) hi_73_8 rfl ?_
  refine cm_20f (r := 2) h hi_73_9 (h.1.s (7, 6) (by decide)) (by decide) rfl ?_
  refine am_e0 hi_73_12 ?_
  refine am_e32t (as := [.ref 2, .int 60]) (la := [some (.ref 2), some (.int 60)]) (rest := []) hi_73_14 (am_hd0 (M := 73) (by decide) 14) (Nat.le_of_ble_eq_true rfl) (Nat.le_of_ble_eq_true rfl) (show 2 ≤ am_P0.2.2.1 64 from by decide +kernel) rfl (cl_recv (h.1.s (2, 2) (by decide))) rfl rfl (ck_take (d := (d + 7)) h   (by show 0 ≤ nx S; omega) (by show nx S ≤ wr S; omega) (by show wr S ≤ 600; omega) (by show 0 ≤ lv S; omega) (by show lv S ≤ 48; omega) (by show ¬ (60 : Int) = 0; omega)) (fun S19 h20 => (show TH aw 2000 S S19 from ⟨h20.1, (Ex.refl S).trans h20.2.1, ⟨(by have q := h20.2.2.1.1; omega), h20.2.2.1.2.trans rfl⟩, h20.2.2.2.1, h20.2.2.2.2.1, (by have q := h20.2.2.2.2.2; omega)⟩)) ?_
  rintro v2 S3 ⟨r4, rfl, h5, h6, h7, h8, h9, h10⟩
  have h6_ : kd aw S = (60 : Int) := h6
  have h7_ : nx S3 = nx S + 1 := h7
  have h8_ : lv S3 = lv S + c_dl (kd aw S) := h8
  have h9_ : lv S3 ≤ 48 := h9
  have h10_ : nx S3 ≤ wr S3 := h10
  obtain ⟨h21, h22, ⟨h25, h26⟩, ⟨h27, h28, h29⟩, h30, h31⟩ := h5
  have h32 := h30 8 (h.1.s (8, 3) (by decide))
  have h33 := h30 10 (h.1.s (10, 3) (by decide))
  have h34 := os_5 h27 1
  have h35 := os_13 h27 1
  have h36 : c_dl (kd aw S) = 1 := by unfold c_dl; split <;> split <;> omega
  show am_E _ _ _ _ [some (.ref 7), some (.int fw), some (.int ws), some (.int v1), none, none] [.int r4] _ _
  refine am_e6i hi_73_17 ?_
  refine am_e2 (v := 7) hi_73_18 rfl ?_
  refine cm_20f (r := 12) h21 hi_73_19 (h21.1.s (7, 6) (by decide)) (by decide) rfl ?_
  refine am_e1 (v := fw) hi_73_22 rfl ?_
  refine am_e32n (as := [.ref 12, .int fw]) (la := [some (.ref 12), some (.int fw), none]) (rest := []) hi_73_23 (am_hd0 (M := 73) (by decide) 23) (Nat.le_of_ble_eq_true rfl) (Nat.le_of_ble_eq_true rfl) (show 2 ≤ am_P0.2.2.1 46 from by decide +kernel) rfl (cl_recv (h21.1.s (12, 7) (by decide))) rfl rfl (ck_beginBody (d := (d + 13)) h21   (by show iv S3 5 1 ≤ 650; omega) (by show iv S3 13 1 ≤ 650; omega)) ?_
  rintro v37 S38 ⟨r39, rfl, hb47, h40, h41, h42, h43, h44, h45, h46⟩
  have h41_ : iv S38 8 1 = iv S3 8 1 := h41
  have h42_ : iv S38 10 1 = iv S3 10 1 := h42
  have h43_ : iv S38 14 1 = iv S3 14 1 := h43
  have h44_ : iv S38 5 1 = iv S3 5 1 + 1 := h44
  have h45_ : iv S38 13 1 = iv S3 13 1 + 1 := h45
  have h46_ : EN S38 ≤ EN S3 + 4400 := h46
  obtain ⟨h48, h49, ⟨h50, h51, h52, h53⟩⟩ := h40
  have h59 : kd aw S38 = kd aw S3 := kd_eq h50 h53
  show am_E _ _ _ _ [some (.ref 7), some (.int fw), some (.int ws), some (.int v1), none, none] [.ref r39] _ _
  refine am_e4 (ls' := [some (.ref 7), some (.int fw), some (.int ws), some (.int v1), some (.ref r39), none]) hi_73_26 (Nat.le_of_ble_eq_true rfl) rfl ?_
  refine am_e1 (v := ws) hi_73_28 rfl ?_
  by_cases c60 : ws.toInt = (0 : Int)
  · refine am_e12t hi_73_29 (am_cT (m := ws.toInt) (n := (0 : Int)) rfl (by decide) c60) ?_
    refine am_e2 (v := 7) hi_73_42 rfl ?_
    refine am_e2 (v := r39) hi_73_43 rfl ?_
    refine am_e32t (as := [.ref 7, .ref r39]) (la := [some (.ref 7), some (.ref r39), none, none, none]) (rest := []) hi_73_45 (am_hd0 (M := 73) (by decide) 45) (Nat.le_of_ble_eq_true rfl) (Nat.le_of_ble_eq_true rfl) (show 2 ≤ am_P0.2.2.1 77 from by decide +kernel) rfl (cl_recv (h48.1.s (7, 6) (by decide))) rfl rfl (ck_bodyNames (d := (d + 6)) h48 hb47  (by show 0 ≤ nx S38; omega) (by show nx S38 ≤ wr S38; omega) (by show wr S38 ≤ 600; omega) (by show 0 ≤ lv S38; omega) (by show lv S38 ≤ 48; omega)) (fun S79 h80 => (show TH aw 2000 S S79 from ⟨h80.1, (h22.trans h49).trans h80.2.1, ⟨(by have q := h80.2.2.1.1; omega), h80.2.2.1.2.trans (h53.trans h26)⟩, h80.2.2.2.1, h80.2.2.2.2.1, (by have q := h80.2.2.2.2.2; omega)⟩)) ?_
    rintro v61 S62 ⟨rfl, h64, h65, h66, h67, h68, h69, h70⟩
    have h65_ : nx S38 + 0 ≤ nx S62 := h65
    have h66_ : nx S62 ≤ wr S62 := h66
    have h67_ : lv S62 = lv S38 + 0 := h67
    have h68_ : EN S62 + -10000 * nx S62 ≤ EN S38 + -10000 * nx S38 + 0 := h68
    have h69_ : iv S62 8 1 = iv S38 8 1 := h69
    have h70_ : iv S62 10 1 = iv S38 10 1 := h70
    obtain ⟨h81, h82, ⟨h83, h84⟩, ⟨h85, h86, h87⟩⟩ := h64
    have h88 := os_5 h85 1
    have h89 := os_13 h85 1
    have hk90 := h82.1 _ _ hb47
    show am_E _ _ _ _ [some (.ref 7), some (.int fw), some (.int ws), some (.int v1), some (.ref r39), none] [] _ _
    refine am_e2 (v := 7) hi_73_48 rfl ?_
    refine cm_20f (r := 2) h81 hi_73_49 (h81.1.s (7, 6) (by decide)) (by decide) rfl ?_
    refine am_e0 hi_73_52 ?_
    refine am_e32t (as := [.ref 2, .int 61]) (la := [some (.ref 2), some (.int 61)]) (rest := []) hi_73_54 (am_hd0 (M := 73) (by decide) 54) (Nat.le_of_ble_eq_true rfl) (Nat.le_of_ble_eq_true rfl) (show 2 ≤ am_P0.2.2.1 64 from by decide +kernel) rfl (cl_recv (h81.1.s (2, 2) (by decide))) rfl rfl (ck_take (d := (d + 7)) h81   (by show 0 ≤ nx S62; omega) (by show nx S62 ≤ wr S62; omega) (by show wr S62 ≤ 600; omega) (by show 0 ≤ lv S62; omega) (by show lv S62 ≤ 48; omega) (by show ¬ (61 : Int) = 0; omega)) (fun S108 h109 => (show TH aw 2000 S S108 from ⟨h109.1, ((h22.trans h49).trans h82).trans h109.2.1, ⟨(by have q := h109.2.2.1.1; omega), h109.2.2.1.2.trans (h84.trans (h53.trans h26))⟩, h109.2.2.2.1, h109.2.2.2.2.1, (by have q := h109.2.2.2.2.2; omega)⟩)) ?_
    rintro v91 S92 ⟨r93, rfl, h94, h95, h96, h97, h98, h99⟩
    have h95_ : kd aw S62 = (61 : Int) := h95
    have h96_ : nx S92 = nx S62 + 1 := h96
    have h97_ : lv S92 = lv S62 + c_dl (kd aw S62) := h97
    have h98_ : lv S92 ≤ 48 := h98
    have h99_ : nx S92 ≤ wr S92 := h99
    obtain ⟨h110, h111, ⟨h114, h115⟩, ⟨h116, h117, h118⟩, h119, h120⟩ := h94
    have h121 := h119 8 (h81.1.s (8, 3) (by decide))
    have h122 := h119 10 (h81.1.s (10, 3) (by decide))
    have h123 := os_5 h116 1
    have h124 := os_13 h116 1
    have hk125 := h111.1 _ _ hk90
    have h126 : c_dl (kd aw S62) = -1 := by unfold c_dl; split <;> split <;> omega
    show am_E _ _ _ _ [some (.ref 7), some (.int fw), some (.int ws), some (.int v1), some (.ref r39), none] [.int r93] _ _
    refine am_e6i hi_73_57 ?_
    refine am_e2 (v := 7) hi_73_58 rfl ?_
    refine am_e32q (d1 := d + 0 + 21) (by omega) (as := [.ref 7]) (la := [some (.ref 7), none]) (rest := []) hi_73_59 (am_hd0 (M := 73) (by decide) 59) (Nat.le_of_ble_eq_true rfl) (Nat.le_of_ble_eq_true rfl) (show 1 ≤ am_P0.2.2.1 52 from by decide +kernel) rfl (cl_recv (h110.1.s (7, 6) (by decide))) rfl rfl (cr_block (d := d + 0) h110  ihR (by show 48 - lv S92 < (NN : Int) + 1; omega) (by show (30 : Int) * (48 - lv S92) ≤ ((d + 0 : Nat) : Int); omega) (by show 0 ≤ nx S92; omega) (by show nx S92 ≤ wr S92; omega) (by show wr S92 ≤ 600; omega) (by show 0 ≤ lv S92; omega) (by show lv S92 ≤ 48; omega) (by show 1 ≤ iv S92 13 1; omega) (by show iv S92 13 1 ≤ lv S92 + 1; omega) (by show iv S92 5 1 ≤ nx S92 + 1; omega)) (fun S138 h139 => (show TH aw 2000 S S138 from ⟨h139.1, (((h22.trans h49).trans h82).trans h111).trans h139.2.1, ⟨(by have q := h139.2.2.1.1; omega), h139.2.2.1.2.trans (h115.trans (h84.trans (h53.trans h26)))⟩, h139.2.2.2.1, h139.2.2.2.2.1, (by have q := h139.2.2.2.2.2; omega)⟩)) ?_
    rintro v127 S128 ⟨rfl, h130, h131, h132, h133, h134, h135, h136⟩
    have h131_ : nx S92 + 0 ≤ nx S128 := h131
    have h132_ : nx S128 ≤ wr S128 := h132
    have h133_ : lv S128 = lv S92 + 0 := h133
    have h134_ : EN S128 + -10000 * nx S128 ≤ EN S92 + -10000 * nx S92 + 0 := h134
    have h135_ : iv S92 8 1 ≤ iv S128 8 1 := h135
    have h136_ : iv S92 10 1 ≤ iv S128 10 1 := h136
    obtain ⟨h140, h141, ⟨h144, h145⟩, ⟨h146, h147⟩⟩ := h130
    have hk151 := h141.1 _ _ hk125
    show am_E _ _ _ _ [some (.ref 7), some (.int fw), some (.int ws), some (.int v1), some (.ref r39), none] [] _ _
    refine am_e2 (v := 7) hi_73_62 rfl ?_
    refine cm_20f (r := 2) h140 hi_73_63 (h140.1.s (7, 6) (by decide)) (by decide) rfl ?_
    refine am_e32x (as := [.ref 2]) (la := [some (.ref 2)]) (rest := []) hi_73_66 (am_hd0 (M := 73) (by decide) 66) (Nat.le_of_ble_eq_true rfl) (Nat.le_of_ble_eq_true rfl) (show 1 ≤ am_P0.2.2.1 63 from by decide +kernel) rfl (cl_recv (h140.1.s (2, 2) (by decide))) rfl rfl ?_
    refine am_e2 (v := 2) hi_63_0 rfl ?_
    refine cm_20i h140 hi_63_1 (h140.1.s (2, 2) (by decide)) (by decide) rfl fun v152 hv152 => ?_
    have hv152_ : v152.toInt = nx S128 := hv152
    refine am_e33 hi_63_4 ?_
    show am_E _ _ _ _ [some (.ref 7), some (.int fw), some (.int ws), some (.int v1), some (.ref r39), none] [.int v152] _ _
    refine am_e3 (ls' := [some (.ref 7), some (.int fw), some (.int ws), some (.int v1), some (.ref r39), some (.int v152)]) hi_73_69 (Nat.le_of_ble_eq_true rfl) rfl ?_
    refine am_e2 (v := 7) hi_73_71 rfl ?_
    refine cm_20f (r := 2) h140 hi_73_72 (h140.1.s (7, 6) (by decide)) (by decide) rfl ?_
    refine am_e0 hi_73_75 ?_
    refine am_e32t (as := [.ref 2, .int 15]) (la := [some (.ref 2), some (.int 15)]) (rest := []) hi_73_77 (am_hd0 (M := 73) (by decide) 77) (Nat.le_of_ble_eq_true rfl) (Nat.le_of_ble_eq_true rfl) (show 2 ≤ am_P0.2.2.1 64 from by decide +kernel) rfl (cl_recv (h140.1.s (2, 2) (by decide))) rfl rfl (ck_take (d := (d + 7)) h140   (by show 0 ≤ nx S128; omega) (by show nx S128 ≤ wr S128; omega) (by show wr S128 ≤ 600; omega) (by show 0 ≤ lv S128; omega) (by show lv S128 ≤ 48; omega) (by show ¬ (15 : Int) = 0; omega)) (fun S170 h171 => (show TH aw 2000 S S170 from ⟨h171.1, ((((h22.trans h49).trans h82).trans h111).trans h141).trans h171.2.1, ⟨(by have q := h171.2.2.1.1; omega), h171.2.2.1.2.trans (h145.trans (h115.trans (h84.trans (h53.trans h26))))⟩, h171.2.2.2.1, h171.2.2.2.2.1, (by have q := h171.2.2.2.2.2; omega)⟩)) ?_
    rintro v153 S154 ⟨r155, rfl, h156, h157, h158, h159, h160, h161⟩
    have h157_ : kd aw S128 = (15 : Int) := h157
    have h158_ : nx S154 = nx S128 + 1 := h158
    have h159_ : lv S154 = lv S128 + c_dl (kd aw S128) := h159
    have h160_ : lv S154 ≤ 48 := h160
    have h161_ : nx S154 ≤ wr S154 := h161
    obtain ⟨h172, h173, ⟨h176, h177⟩, ⟨h178, h179, h180⟩, h181, h182⟩ := h156
    have h183 := h181 8 (h140.1.s (8, 3) (by decide))
    have h184 := h181 10 (h140.1.s (10, 3) (by decide))
    have h185 := os_5 h178 1
    have h186 := os_13 h178 1
    have hk187 := h173.1 _ _ hk151
    have h188 : c_dl (kd aw S128) = -1 := by unfold c_dl; split <;> split <;> omega
    show am_E _ _ _ _ [some (.ref 7), some (.int fw), some (.int ws), some (.int v1), some (.ref r39), some (.int v152)] [.int r155] _ _
    refine am_e6i hi_73_80 ?_
    refine am_e2 (v := 7) hi_73_81 rfl ?_
    refine am_e0 hi_73_82 ?_
    refine am_e0 hi_73_84 ?_
    refine am_e0 hi_73_85 ?_
    refine am_e1 (v := v152) hi_73_86 rfl ?_
    refine am_e32n (as := [.ref 7, .int 45, .int 0, .int 0, .int v152]) (la := [some (.ref 7), some (.int 45), some (.int 0), some (.int 0), some (.int v152)]) (rest := []) hi_73_88 (am_hd0 (M := 73) (by decide) 88) (Nat.le_of_ble_eq_true rfl) (Nat.le_of_ble_eq_true rfl) (show 5 ≤ am_P0.2.2.1 78 from by decide +kernel) rfl (cl_recv (h172.1.s (7, 6) (by decide))) rfl rfl (ck_emit (d := (d + 18)) h172   ) ?_
    rintro v189 S190 ⟨r191, rfl, h192, h193, h194, h195⟩
    have h193_ : iv S190 8 1 = iv S154 8 1 := h193
    have h194_ : iv S190 10 1 = iv S154 10 1 := h194
    have h195_ : iv S190 14 1 = iv S154 14 1 := h195
    obtain ⟨h197, h198, ⟨h199, h200, h201, h202⟩, ⟨h203, h204, h205⟩, h207⟩ := h192
    have h208 : kd aw S190 = kd aw S154 := kd_eq h199 h202
    have h209 := os_5 h203 1
    have h210 := os_13 h203 1
    have hk211 := h198.1 _ _ hk187
    show am_E _ _ _ _ [some (.ref 7), some (.int fw), some (.int ws), some (.int v1), some (.ref r39), some (.int v152)] [.int r191] _ _
    refine am_e6i hi_73_91 ?_
    refine am_e2 (v := r39) hi_73_92 rfl ?_
    refine am_e1 (v := v152) hi_73_94 rfl ?_
    refine am_e1 (v := v1) hi_73_96 rfl ?_
    obtain ⟨z212, hz212, tz212⟩ := am_subI (x := v152) (y := v1) (m := v152.toInt) (n := v1.toInt) rfl rfl (by omega) (by omega)
    refine am_e10 (z := z212) hi_73_97 hz212 ?_
    refine am_e0 hi_73_98 ?_
    obtain ⟨z213, hz213, tz213⟩ := am_addI (x := z212) (y := 1) (m := z212.toInt) (n := (1 : Int)) rfl (by decide) (by omega) (by omega)
    refine am_e10 (z := z213) hi_73_99 hz213 ?_
    refine cm_21 (v := .int z213) h197 hi_73_100 hk211 (by decide) (by decide) rfl ⟨_, rfl⟩ rfl fun S214 h215 => ?_
    obtain ⟨h216, h217, ⟨h218, h219, h220, h221⟩, ⟨h222, h223, h224⟩, h225, h226⟩ := h215
    have h227 : kd aw S214 = kd aw S190 := kd_eq h218 h221
    have h228 := h225 8 (h197.1.s (8, 3) (by decide))
    have h229 := h225 10 (h197.1.s (10, 3) (by decide))
    have h230 := os_5 h222 1
    have h231 := os_13 h222 1
    have hk232 := h217.1 _ _ hk211
    refine am_e2 (v := 7) hi_73_103 rfl ?_
    refine cm_20f (r := 12) h216 hi_73_104 (h216.1.s (7, 6) (by decide)) (by decide) rfl ?_
    refine am_e32n (as := [.ref 12]) (la := [some (.ref 12)]) (rest := []) hi_73_107 (am_hd0 (M := 73) (by decide) 107) (Nat.le_of_ble_eq_true rfl) (Nat.le_of_ble_eq_true rfl) (show 1 ≤ am_P0.2.2.1 80 from by decide +kernel) rfl (cl_recv (h216.1.s (12, 7) (by decide))) rfl rfl (ck_endBody (d := (d + 17)) h216   ) ?_
    rintro v233 S234 ⟨rfl, h236, h237, h238, h239, h240, h241⟩
    have h237_ : iv S234 8 1 = iv S214 8 1 := h237
    have h238_ : iv S234 10 1 = iv S214 10 1 := h238
    have h239_ : iv S234 5 1 = iv S214 5 1 := h239
    have h240_ : (2 ≤ iv S214 13 1 ∧ iv S234 13 1 = iv S214 13 1 - 1) ∨ (iv S214 13 1 < 2 ∧ iv S234 13 1 = iv S214 13 1) := h240
    have h241_ : EN S234 ≤ EN S214 + 0 := h241
    obtain ⟨h243, h244, ⟨h245, h246, h247, h248⟩⟩ := h236
    have h254 : kd aw S234 = kd aw S214 := kd_eq h245 h248
    have hk255 := h244.1 _ _ hk232
    show am_E _ _ _ _ [some (.ref 7), some (.int fw), some (.int ws), some (.int v1), some (.ref r39), some (.int v152)] [] _ _
    refine am_e2 (v := 7) hi_73_110 rfl ?_
    refine am_e0 hi_73_111 ?_
    refine am_e2 (v := r39) hi_73_113 rfl ?_
    refine cm_20i h243 hi_73_115 hk255 (by decide) rfl fun v256 hv256 => ?_
    have hv256_ : v256.toInt = iv S234 r39 2 := hv256
    refine am_e0 hi_73_118 ?_
    refine am_e1 (v := fw) hi_73_119 rfl ?_
    refine am_e32n (as := [.ref 7, .int 7, .int v256, .int 0, .int fw]) (la := [some (.ref 7), some (.int 7), some (.int v256), some (.int 0), some (.int fw)]) (rest := []) hi_73_120 (am_hd0 (M := 73) (by decide) 120) (Nat.le_of_ble_eq_true rfl) (Nat.le_of_ble_eq_true rfl) (show 5 ≤ am_P0.2.2.1 78 from by decide +kernel) rfl (cl_recv (h243.1.s (7, 6) (by decide))) rfl rfl (ck_emit (d := (d + 18)) h243   ) ?_
    rintro v257 S258 ⟨r259, rfl, h260, h261, h262, h263⟩
    have h261_ : iv S258 8 1 = iv S234 8 1 := h261
    have h262_ : iv S258 10 1 = iv S234 10 1 := h262
    have h263_ : iv S258 14 1 = iv S234 14 1 := h263
    obtain ⟨h265, h266, ⟨h267, h268, h269, h270⟩, ⟨h271, h272, h273⟩, h275⟩ := h260
    have h276 : kd aw S258 = kd aw S234 := kd_eq h267 h270
    have h277 := os_5 h271 1
    have h278 := os_13 h271 1
    have hk279 := h266.1 _ _ hk255
    show am_E _ _ _ _ [some (.ref 7), some (.int fw), some (.int ws), some (.int v1), some (.ref r39), some (.int v152)] [.int r259] _ _
    refine am_e6i hi_73_123 ?_
    refine am_e35 hi_73_124 ?_
    exact ⟨rfl, ⟨h265, (((((((((h22.trans h49).trans h82).trans h111).trans h141).trans h173).trans h198).trans h217).trans h244).trans h266), ⟨(by show wr S258 = wr S; omega), (h270.trans (h248.trans (h221.trans (h202.trans (h177.trans (h145.trans (h115.trans (h84.trans (h53.trans h26)))))))))⟩, ⟨(by show iv S258 13 1 = iv S 13 1; omega), (by show iv S258 5 1 - nx S258 ≤ iv S 5 1 - nx S; omega)⟩⟩, (by show nx S + 1 ≤ nx S258; omega), (by show nx S258 ≤ wr S258; omega), (by show lv S258 = lv S + (-1); omega), (by show EN S258 + -10000 * nx S258 ≤ EN S + -10000 * nx S + (-15000); omega), (by show iv S 8 1 ≤ iv S258 8 1; omega), (by show iv S 10 1 ≤ iv S258 10 1; omega)⟩
  · refine am_e12f hi_73_29 (am_cF (m := ws.toInt) (n := (0 : Int)) rfl (by decide) c60) ?_
    refine am_e2 (v := 7) hi_73_32 rfl ?_
    refine cm_20f (r := 12) h48 hi_73_33 (h48.1.s (7, 6) (by decide)) (by decide) rfl ?_
    refine am_e0 hi_73_36 ?_
    refine am_e0 hi_73_37 ?_
    refine am_e1 (v := v1) hi_73_38 rfl ?_
    refine am_e32n (as := [.ref 12, .int (-1), .int 1, .int v1]) (la := [some (.ref 12), some (.int (-1)), some (.int 1), some (.int v1)]) (rest := []) hi_73_39 (am_hd0 (M := 73) (by decide) 39) (Nat.le_of_ble_eq_true rfl) (Nat.le_of_ble_eq_true rfl) (show 4 ≤ am_P0.2.2.1 74 from by decide +kernel) rfl (cl_recv (h48.1.s (12, 7) (by decide))) rfl rfl (ck_declare (d := (d + 18)) h48   ) ?_
    rintro v280 S281 ⟨rfl, h283, h284, h285, h286, h287⟩
    have h284_ : iv S281 14 1 ≤ iv S38 14 1 + 1 := h284
    have h285_ : iv S38 14 1 ≤ iv S281 14 1 := h285
    have h286_ : iv S281 8 1 = iv S38 8 1 := h286
    have h287_ : iv S281 10 1 = iv S38 10 1 := h287
    obtain ⟨h289, h290, ⟨h291, h292, h293, h294⟩, ⟨h295, h296, h297⟩, h299⟩ := h283
    have h300 : kd aw S281 = kd aw S38 := kd_eq h291 h294
    have h301 := os_5 h295 1
    have h302 := os_13 h295 1
    have hk303 := h290.1 _ _ hb47
    show am_E _ _ _ _ [some (.ref 7), some (.int fw), some (.int ws), some (.int v1), some (.ref r39), none] [] _ _
    refine am_e2 (v := 7) hi_73_42 rfl ?_
    refine am_e2 (v := r39) hi_73_43 rfl ?_
    refine am_e32t (as := [.ref 7, .ref r39]) (la := [some (.ref 7), some (.ref r39), none, none, none]) (rest := []) hi_73_45 (am_hd0 (M := 73) (by decide) 45) (Nat.le_of_ble_eq_true rfl) (Nat.le_of_ble_eq_true rfl) (show 2 ≤ am_P0.2.2.1 77 from by decide +kernel) rfl (cl_recv (h289.1.s (7, 6) (by decide))) rfl rfl (ck_bodyNames (d := (d + 6)) h289 hk303  (by show 0 ≤ nx S281; omega) (by show nx S281 ≤ wr S281; omega) (by show wr S281 ≤ 600; omega) (by show 0 ≤ lv S281; omega) (by show lv S281 ≤ 48; omega)) (fun S322 h323 => (show TH aw 2000 S S322 from ⟨h323.1, ((h22.trans h49).trans h290).trans h323.2.1, ⟨(by have q := h323.2.2.1.1; omega), h323.2.2.1.2.trans (h294.trans (h53.trans h26))⟩, h323.2.2.2.1, h323.2.2.2.2.1, (by have q := h323.2.2.2.2.2; omega)⟩)) ?_
    rintro v304 S305 ⟨rfl, h307, h308, h309, h310, h311, h312, h313⟩
    have h308_ : nx S281 + 0 ≤ nx S305 := h308
    have h309_ : nx S305 ≤ wr S305 := h309
    have h310_ : lv S305 = lv S281 + 0 := h310
    have h311_ : EN S305 + -10000 * nx S305 ≤ EN S281 + -10000 * nx S281 + 0 := h311
    have h312_ : iv S305 8 1 = iv S281 8 1 := h312
    have h313_ : iv S305 10 1 = iv S281 10 1 := h313
    obtain ⟨h324, h325, ⟨h326, h327⟩, ⟨h328, h329, h330⟩⟩ := h307
    have h331 := os_5 h328 1
    have h332 := os_13 h328 1
    have hk333 := h325.1 _ _ hk303
    show am_E _ _ _ _ [some (.ref 7), some (.int fw), some (.int ws), some (.int v1), some (.ref r39), none] [] _ _
    refine am_e2 (v := 7) hi_73_48 rfl ?_
    refine cm_20f (r := 2) h324 hi_73_49 (h324.1.s (7, 6) (by decide)) (by decide) rfl ?_
    refine am_e0 hi_73_52 ?_
    refine am_e32t (as := [.ref 2, .int 61]) (la := [some (.ref 2), some (.int 61)]) (rest := []) hi_73_54 (am_hd0 (M := 73) (by decide) 54) (Nat.le_of_ble_eq_true rfl) (Nat.le_of_ble_eq_true rfl) (show 2 ≤ am_P0.2.2.1 64 from by decide +kernel) rfl (cl_recv (h324.1.s (2, 2) (by decide))) rfl rfl (ck_take (d := (d + 7)) h324   (by show 0 ≤ nx S305; omega) (by show nx S305 ≤ wr S305; omega) (by show wr S305 ≤ 600; omega) (by show 0 ≤ lv S305; omega) (by show lv S305 ≤ 48; omega) (by show ¬ (61 : Int) = 0; omega)) (fun S351 h352 => (show TH aw 2000 S S351 from ⟨h352.1, (((h22.trans h49).trans h290).trans h325).trans h352.2.1, ⟨(by have q := h352.2.2.1.1; omega), h352.2.2.1.2.trans (h327.trans (h294.trans (h53.trans h26)))⟩, h352.2.2.2.1, h352.2.2.2.2.1, (by have q := h352.2.2.2.2.2; omega)⟩)) ?_
    rintro v334 S335 ⟨r336, rfl, h337, h338, h339, h340, h341, h342⟩
    have h338_ : kd aw S305 = (61 : Int) := h338
    have h339_ : nx S335 = nx S305 + 1 := h339
    have h340_ : lv S335 = lv S305 + c_dl (kd aw S305) := h340
    have h341_ : lv S335 ≤ 48 := h341
    have h342_ : nx S335 ≤ wr S335 := h342
    obtain ⟨h353, h354, ⟨h357, h358⟩, ⟨h359, h360, h361⟩, h362, h363⟩ := h337
    have h364 := h362 8 (h324.1.s (8, 3) (by decide))
    have h365 := h362 10 (h324.1.s (10, 3) (by decide))
    have h366 := os_5 h359 1
    have h367 := os_13 h359 1
    have hk368 := h354.1 _ _ hk333
    have h369 : c_dl (kd aw S305) = -1 := by unfold c_dl; split <;> split <;> omega
    show am_E _ _ _ _ [some (.ref 7), some (.int fw), some (.int ws), some (.int v1), some (.ref r39), none] [.int r336] _ _
    refine am_e6i hi_73_57 ?_
    refine am_e2 (v := 7) hi_73_58 rfl ?_
    refine am_e32q (d1 := d + 0 + 21) (by omega) (as := [.ref 7]) (la := [some (.ref 7), none]) (rest := []) hi_73_59 (am_hd0 (M := 73) (by decide) 59) (Nat.le_of_ble_eq_true rfl) (Nat.le_of_ble_eq_true rfl) (show 1 ≤ am_P0.2.2.1 52 from by decide +kernel) rfl (cl_recv (h353.1.s (7, 6) (by decide))) rfl rfl (cr_block (d := d + 0) h353  ihR (by show 48 - lv S335 < (NN : Int) + 1; omega) (by show (30 : Int) * (48 - lv S335) ≤ ((d + 0 : Nat) : Int); omega) (by show 0 ≤ nx S335; omega) (by show nx S335 ≤ wr S335; omega) (by show wr S335 ≤ 600; omega) (by show 0 ≤ lv S335; omega) (by show lv S335 ≤ 48; omega) (by show 1 ≤ iv S335 13 1; omega) (by show iv S335 13 1 ≤ lv S335 + 1; omega) (by show iv S335 5 1 ≤ nx S335 + 1; omega)) (fun S381 h382 => (show TH aw 2000 S S381 from ⟨h382.1, ((((h22.trans h49).trans h290).trans h325).trans h354).trans h382.2.1, ⟨(by have q := h382.2.2.1.1; omega), h382.2.2.1.2.trans (h358.trans (h327.trans (h294.trans (h53.trans h26))))⟩, h382.2.2.2.1, h382.2.2.2.2.1, (by have q := h382.2.2.2.2.2; omega)⟩)) ?_
    rintro v370 S371 ⟨rfl, h373, h374, h375, h376, h377, h378, h379⟩
    have h374_ : nx S335 + 0 ≤ nx S371 := h374
    have h375_ : nx S371 ≤ wr S371 := h375
    have h376_ : lv S371 = lv S335 + 0 := h376
    have h377_ : EN S371 + -10000 * nx S371 ≤ EN S335 + -10000 * nx S335 + 0 := h377
    have h378_ : iv S335 8 1 ≤ iv S371 8 1 := h378
    have h379_ : iv S335 10 1 ≤ iv S371 10 1 := h379
    obtain ⟨h383, h384, ⟨h387, h388⟩, ⟨h389, h390⟩⟩ := h373
    have hk394 := h384.1 _ _ hk368
    show am_E _ _ _ _ [some (.ref 7), some (.int fw), some (.int ws), some (.int v1), some (.ref r39), none] [] _ _
    refine am_e2 (v := 7) hi_73_62 rfl ?_
    refine cm_20f (r := 2) h383 hi_73_63 (h383.1.s (7, 6) (by decide)) (by decide) rfl ?_
    refine am_e32x (as := [.ref 2]) (la := [some (.ref 2)]) (rest := []) hi_73_66 (am_hd0 (M := 73) (by decide) 66) (Nat.le_of_ble_eq_true rfl) (Nat.le_of_ble_eq_true rfl) (show 1 ≤ am_P0.2.2.1 63 from by decide +kernel) rfl (cl_recv (h383.1.s (2, 2) (by decide))) rfl rfl ?_
    refine am_e2 (v := 2) hi_63_0 rfl ?_
    refine cm_20i h383 hi_63_1 (h383.1.s (2, 2) (by decide)) (by decide) rfl fun v395 hv395 => ?_
    have hv395_ : v395.toInt = nx S371 := hv395
    refine am_e33 hi_63_4 ?_
    show am_E _ _ _ _ [some (.ref 7), some (.int fw), some (.int ws), some (.int v1), some (.ref r39), none] [.int v395] _ _
    refine am_e3 (ls' := [some (.ref 7), some (.int fw), some (.int ws), some (.int v1), some (.ref r39), some (.int v395)]) hi_73_69 (Nat.le_of_ble_eq_true rfl) rfl ?_
    refine am_e2 (v := 7) hi_73_71 rfl ?_
    refine cm_20f (r := 2) h383 hi_73_72 (h383.1.s (7, 6) (by decide)) (by decide) rfl ?_
    refine am_e0 hi_73_75 ?_
    refine am_e32t (as := [.ref 2, .int 15]) (la := [some (.ref 2), some (.int 15)]) (rest := []) hi_73_77 (am_hd0 (M := 73) (by decide) 77) (Nat.le_of_ble_eq_true rfl) (Nat.le_of_ble_eq_true rfl) (show 2 ≤ am_P0.2.2.1 64 from by decide +kernel) rfl (cl_recv (h383.1.s (2, 2) (by decide))) rfl rfl (ck_take (d := (d + 7)) h383   (by show 0 ≤ nx S371; omega) (by show nx S371 ≤ wr S371; omega) (by show wr S371 ≤ 600; omega) (by show 0 ≤ lv S371; omega) (by show lv S371 ≤ 48; omega) (by show ¬ (15 : Int) = 0; omega)) (fun S413 h414 => (show TH aw 2000 S S413 from ⟨h414.1, (((((h22.trans h49).trans h290).trans h325).trans h354).trans h384).trans h414.2.1, ⟨(by have q := h414.2.2.1.1; omega), h414.2.2.1.2.trans (h388.trans (h358.trans (h327.trans (h294.trans (h53.trans h26)))))⟩, h414.2.2.2.1, h414.2.2.2.2.1, (by have q := h414.2.2.2.2.2; omega)⟩)) ?_
    rintro v396 S397 ⟨r398, rfl, h399, h400, h401, h402, h403, h404⟩
    have h400_ : kd aw S371 = (15 : Int) := h400
    have h401_ : nx S397 = nx S371 + 1 := h401
    have h402_ : lv S397 = lv S371 + c_dl (kd aw S371) := h402
    have h403_ : lv S397 ≤ 48 := h403
    have h404_ : nx S397 ≤ wr S397 := h404
    obtain ⟨h415, h416, ⟨h419, h420⟩, ⟨h421, h422, h423⟩, h424, h425⟩ := h399
    have h426 := h424 8 (h383.1.s (8, 3) (by decide))
    have h427 := h424 10 (h383.1.s (10, 3) (by decide))
    have h428 := os_5 h421 1
    have h429 := os_13 h421 1
    have hk430 := h416.1 _ _ hk394
    have h431 : c_dl (kd aw S371) = -1 := by unfold c_dl; split <;> split <;> omega
    show am_E _ _ _ _ [some (.ref 7), some (.int fw), some (.int ws), some (.int v1), some (.ref r39), some (.int v395)] [.int r398] _ _
    refine am_e6i hi_73_80 ?_
    refine am_e2 (v := 7) hi_73_81 rfl ?_
    refine am_e0 hi_73_82 ?_
    refine am_e0 hi_73_84 ?_
    refine am_e0 hi_73_85 ?_
    refine am_e1 (v := v395) hi_73_86 rfl ?_
    refine am_e32n (as := [.ref 7, .int 45, .int 0, .int 0, .int v395]) (la := [some (.ref 7), some (.int 45), some (.int 0), some (.int 0), some (.int v395)]) (rest := []) hi_73_88 (am_hd0 (M := 73) (by decide) 88) (Nat.le_of_ble_eq_true rfl) (Nat.le_of_ble_eq_true rfl) (show 5 ≤ am_P0.2.2.1 78 from by decide +kernel) rfl (cl_recv (h415.1.s (7, 6) (by decide))) rfl rfl (ck_emit (d := (d + 18)) h415   ) ?_
    rintro v432 S433 ⟨r434, rfl, h435, h436, h437, h438⟩
    have h436_ : iv S433 8 1 = iv S397 8 1 := h436
    have h437_ : iv S433 10 1 = iv S397 10 1 := h437
    have h438_ : iv S433 14 1 = iv S397 14 1 := h438
    obtain ⟨h440, h441, ⟨h442, h443, h444, h445⟩, ⟨h446, h447, h448⟩, h450⟩ := h435
    have h451 : kd aw S433 = kd aw S397 := kd_eq h442 h445
    have h452 := os_5 h446 1
    have h453 := os_13 h446 1
    have hk454 := h441.1 _ _ hk430
    show am_E _ _ _ _ [some (.ref 7), some (.int fw), some (.int ws), some (.int v1), some (.ref r39), some (.int v395)] [.int r434] _ _
    refine am_e6i hi_73_91 ?_
    refine am_e2 (v := r39) hi_73_92 rfl ?_
    refine am_e1 (v := v395) hi_73_94 rfl ?_
    refine am_e1 (v := v1) hi_73_96 rfl ?_
    obtain ⟨z455, hz455, tz455⟩ := am_subI (x := v395) (y := v1) (m := v395.toInt) (n := v1.toInt) rfl rfl (by omega) (by omega)
    refine am_e10 (z := z455) hi_73_97 hz455 ?_
    refine am_e0 hi_73_98 ?_
    obtain ⟨z456, hz456, tz456⟩ := am_addI (x := z455) (y := 1) (m := z455.toInt) (n := (1 : Int)) rfl (by decide) (by omega) (by omega)
    refine am_e10 (z := z456) hi_73_99 hz456 ?_
    refine cm_21 (v := .int z456) h440 hi_73_100 hk454 (by decide) (by decide) rfl ⟨_, rfl⟩ rfl fun S457 h458 => ?_
    obtain ⟨h459, h460, ⟨h461, h462, h463, h464⟩, ⟨h465, h466, h467⟩, h468, h469⟩ := h458
    have h470 : kd aw S457 = kd aw S433 := kd_eq h461 h464
    have h471 := h468 8 (h440.1.s (8, 3) (by decide))
    have h472 := h468 10 (h440.1.s (10, 3) (by decide))
    have h473 := os_5 h465 1
    have h474 := os_13 h465 1
    have hk475 := h460.1 _ _ hk454
    refine am_e2 (v := 7) hi_73_103 rfl ?_
    refine cm_20f (r := 12) h459 hi_73_104 (h459.1.s (7, 6) (by decide)) (by decide) rfl ?_
    refine am_e32n (as := [.ref 12]) (la := [some (.ref 12)]) (rest := []) hi_73_107 (am_hd0 (M := 73) (by decide) 107) (Nat.le_of_ble_eq_true rfl) (Nat.le_of_ble_eq_true rfl) (show 1 ≤ am_P0.2.2.1 80 from by decide +kernel) rfl (cl_recv (h459.1.s (12, 7) (by decide))) rfl rfl (ck_endBody (d := (d + 17)) h459   ) ?_
    rintro v476 S477 ⟨rfl, h479, h480, h481, h482, h483, h484⟩
    have h480_ : iv S477 8 1 = iv S457 8 1 := h480
    have h481_ : iv S477 10 1 = iv S457 10 1 := h481
    have h482_ : iv S477 5 1 = iv S457 5 1 := h482
    have h483_ : (2 ≤ iv S457 13 1 ∧ iv S477 13 1 = iv S457 13 1 - 1) ∨ (iv S457 13 1 < 2 ∧ iv S477 13 1 = iv S457 13 1) := h483
    have h484_ : EN S477 ≤ EN S457 + 0 := h484
    obtain ⟨h486, h487, ⟨h488, h489, h490, h491⟩⟩ := h479
    have h497 : kd aw S477 = kd aw S457 := kd_eq h488 h491
    have hk498 := h487.1 _ _ hk475
    show am_E _ _ _ _ [some (.ref 7), some (.int fw), some (.int ws), some (.int v1), some (.ref r39), some (.int v395)] [] _ _
    refine am_e2 (v := 7) hi_73_110 rfl ?_
    refine am_e0 hi_73_111 ?_
    refine am_e2 (v := r39) hi_73_113 rfl ?_
    refine cm_20i h486 hi_73_115 hk498 (by decide) rfl fun v499 hv499 => ?_
    have hv499_ : v499.toInt = iv S477 r39 2 := hv499
    refine am_e0 hi_73_118 ?_
    refine am_e1 (v := fw) hi_73_119 rfl ?_
    refine am_e32n (as := [.ref 7, .int 7, .int v499, .int 0, .int fw]) (la := [some (.ref 7), some (.int 7), some (.int v499), some (.int 0), some (.int fw)]) (rest := []) hi_73_120 (am_hd0 (M := 73) (by decide) 120) (Nat.le_of_ble_eq_true rfl) (Nat.le_of_ble_eq_true rfl) (show 5 ≤ am_P0.2.2.1 78 from by decide +kernel) rfl (cl_recv (h486.1.s (7, 6) (by decide))) rfl rfl (ck_emit (d := (d + 18)) h486   ) ?_
    rintro v500 S501 ⟨r502, rfl, h503, h504, h505, h506⟩
    have h504_ : iv S501 8 1 = iv S477 8 1 := h504
    have h505_ : iv S501 10 1 = iv S477 10 1 := h505
    have h506_ : iv S501 14 1 = iv S477 14 1 := h506
    obtain ⟨h508, h509, ⟨h510, h511, h512, h513⟩, ⟨h514, h515, h516⟩, h518⟩ := h503
    have h519 : kd aw S501 = kd aw S477 := kd_eq h510 h513
    have h520 := os_5 h514 1
    have h521 := os_13 h514 1
    have hk522 := h509.1 _ _ hk498
    show am_E _ _ _ _ [some (.ref 7), some (.int fw), some (.int ws), some (.int v1), some (.ref r39), some (.int v395)] [.int r502] _ _
    refine am_e6i hi_73_123 ?_
    refine am_e35 hi_73_124 ?_
    exact ⟨rfl, ⟨h508, ((((((((((h22.trans h49).trans h290).trans h325).trans h354).trans h384).trans h416).trans h441).trans h460).trans h487).trans h509), ⟨(by show wr S501 = wr S; omega), (h513.trans (h491.trans (h464.trans (h445.trans (h420.trans (h388.trans (h358.trans (h327.trans (h294.trans (h53.trans h26))))))))))⟩, ⟨(by show iv S501 13 1 = iv S 13 1; omega), (by show iv S501 5 1 - nx S501 ≤ iv S 5 1 - nx S; omega)⟩⟩, (by show nx S + 1 ≤ nx S501; omega), (by show nx S501 ≤ wr S501; omega), (by show lv S501 = lv S + (-1); omega), (by show EN S501 + -10000 * nx S501 ≤ EN S + -10000 * nx S + (-15000); omega), (by show iv S 8 1 ≤ iv S501 8 1; omega), (by show iv S 10 1 ≤ iv S501 10 1; omega)⟩
/-- for every number of levels -/
theorem RC_all {sc : Nat × (Nat → Int32)} {aw : Nat} : ∀ NN, RC sc aw NN := by
  intro NN
  induction NN with
  | zero => exact ⟨(fun d S  h  hN hd p0 p1 p2 p3 p4 p5 p6 p7 => by exfalso; omega), (fun d S  h  hN hd p0 p1 p2 p3 p4 p5 p6 p7 => by exfalso; omega), (fun d S ap h  hN hd p0 p1 p2 p3 p4 p5 p6 p7 => by exfalso; omega), (fun d S  h  hN hd p0 p1 p2 p3 p4 p5 p6 p7 => by exfalso; omega), (fun d S  h  hN hd p0 p1 p2 p3 p4 p5 p6 p7 => by exfalso; omega), (fun d S fw ws h hy0 hN hd p0 p1 p2 p3 p4 p5 p6 p7 => by exfalso; omega)⟩
  | succ NN ih => exact ⟨(fun d S  h  hN hd p0 p1 p2 p3 p4 p5 p6 p7 => cr_expression h  ih (by omega) hd p0 p1 p2 p3 p4 p5 p6 p7), (fun d S  h  hN hd p0 p1 p2 p3 p4 p5 p6 p7 => cr_list h  ih (by omega) hd p0 p1 p2 p3 p4 p5 p6 p7), (fun d S ap h  hN hd p0 p1 p2 p3 p4 p5 p6 p7 => cr_field h  ih (by omega) hd p0 p1 p2 p3 p4 p5 p6 p7), (fun d S  h  hN hd p0 p1 p2 p3 p4 p5 p6 p7 => cr_block h  ih (by omega) hd p0 p1 p2 p3 p4 p5 p6 p7), (fun d S  h  hN hd p0 p1 p2 p3 p4 p5 p6 p7 => cr_inner h  ih (by omega) hd p0 p1 p2 p3 p4 p5 p6 p7), (fun d S fw ws h hy0 hN hd p0 p1 p2 p3 p4 p5 p6 p7 => cr_function h hy0 ih (by omega) hd p0 p1 p2 p3 p4 p5 p6 p7)⟩
