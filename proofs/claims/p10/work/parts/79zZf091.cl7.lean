/-! THE CLASS: values (printed by wip/p2/cl7.py) -/
/-- the contracts of what calls itself, where fewer than NN levels can still be opened -/
def RC (sc : Nat × (Nat → Int32)) (aw NN : Nat) : Prop :=
  (∀ (d : Nat) (S : am_S), SH aw S → 48 - lv S < (NN : Int) → (30 : Int) * (48 - lv S) ≤ (d : Int) → (0 ≤ nx S) → (nx S ≤ wr S) → (wr S ≤ 600) → (0 ≤ lv S) → (lv S ≤ 48) → (1 ≤ iv S 13 1) → (iv S 13 1 ≤ lv S + 1) → (iv S 5 1 ≤ nx S + 1) → am_E (am_PP sc) (d + 18) 70 0 [some (.ref 7), none, none, none, none, none] [] S (am_T (fun v S1 => v = none ∧ Ad aw S S1 ∧ (nx S + 1 ≤ nx S1) ∧ (nx S1 ≤ wr S1) ∧ (lv S1 = lv S + 0) ∧ (EN S1 + -10000 * nx S1 ≤ EN S + -10000 * nx S + (-2000)) ∧ (iv S 8 1 ≤ iv S1 8 1) ∧ (iv S 10 1 ≤ iv S1 10 1)) (fun S1 => TH aw 2000 S S1))) ∧
  (∀ (d : Nat) (S : am_S), SH aw S → 48 - lv S < (NN : Int) → (30 : Int) * (48 - lv S) ≤ (d : Int) → (0 ≤ nx S) → (nx S ≤ wr S) → (wr S ≤ 600) → (0 ≤ lv S) → (lv S ≤ 48) → (1 ≤ iv S 13 1) → (iv S 13 1 ≤ lv S + 1) → (iv S 5 1 ≤ nx S + 1) → am_E (am_PP sc) (d + 19) 112 0 [some (.ref 7), none, none, none] [] S (am_T (fun v S1 => ∃ r : Int32, v = some (.int r) ∧ Ad aw S S1 ∧ (nx S + 1 ≤ nx S1) ∧ (nx S1 ≤ wr S1) ∧ (lv S1 = lv S + 0) ∧ (EN S1 + -10000 * nx S1 ≤ EN S + -10000 * nx S + (-2000)) ∧ (iv S 8 1 ≤ iv S1 8 1) ∧ (iv S 10 1 ≤ iv S1 10 1) ∧ (0 ≤ r.toInt)) (fun S1 => TH aw 2000 S S1))) ∧
  (∀ (d : Nat) (S : am_S) (ap : Int32), SH aw S → 48 - lv S < (NN : Int) → (30 : Int) * (48 - lv S) ≤ (d : Int) → (0 ≤ nx S) → (nx S ≤ wr S) → (wr S ≤ 600) → (0 ≤ lv S) → (lv S ≤ 48) → (1 ≤ iv S 13 1) → (iv S 13 1 ≤ lv S + 1) → (iv S 5 1 ≤ nx S + 1) → am_E (am_PP sc) (d + 19) 92 0 [some (.ref 7), some (.int ap), none, none] [] S (am_T (fun v S1 => ∃ r : Int32, v = some (.int r) ∧ Ad aw S S1 ∧ (nx S + 1 ≤ nx S1) ∧ (nx S1 ≤ wr S1) ∧ (lv S1 = lv S + 0) ∧ (EN S1 + -10000 * nx S1 ≤ EN S + -10000 * nx S + (-1000)) ∧ (iv S 8 1 ≤ iv S1 8 1) ∧ (iv S 10 1 ≤ iv S1 10 1)) (fun S1 => TH aw 2000 S S1))) ∧
  (∀ (d : Nat) (S : am_S), SH aw S → 48 - lv S < (NN : Int) → (30 : Int) * (48 - lv S) ≤ (d : Int) → (0 ≤ nx S) → (nx S ≤ wr S) → (wr S ≤ 600) → (0 ≤ lv S) → (lv S ≤ 48) → (1 ≤ iv S 13 1) → (iv S 13 1 ≤ lv S + 1) → (iv S 5 1 ≤ nx S + 1) → am_E (am_PP sc) (d + 21) 52 0 [some (.ref 7), none] [] S (am_T (fun v S1 => v = none ∧ Ad aw S S1 ∧ (nx S + 0 ≤ nx S1) ∧ (nx S1 ≤ wr S1) ∧ (lv S1 = lv S + 0) ∧ (EN S1 + -10000 * nx S1 ≤ EN S + -10000 * nx S + 0) ∧ (iv S 8 1 ≤ iv S1 8 1) ∧ (iv S 10 1 ≤ iv S1 10 1)) (fun S1 => TH aw 2000 S S1))) ∧
  (∀ (d : Nat) (S : am_S), SH aw S → 48 - lv S < (NN : Int) → (30 : Int) * (48 - lv S) ≤ (d : Int) → (0 ≤ nx S) → (nx S ≤ wr S) → (wr S ≤ 600) → (0 ≤ lv S) → (lv S ≤ 48) → (1 ≤ iv S 13 1) → (iv S 13 1 ≤ lv S + 1) → (iv S 5 1 ≤ nx S + 1) → am_E (am_PP sc) (d + 22) 128 0 [some (.ref 7)] [] S (am_T (fun v S1 => v = none ∧ Ad aw S S1 ∧ (nx S + 0 ≤ nx S1) ∧ (nx S1 ≤ wr S1) ∧ (lv S1 = lv S + 0) ∧ (EN S1 + -10000 * nx S1 ≤ EN S + -10000 * nx S + 500) ∧ (iv S 8 1 ≤ iv S1 8 1) ∧ (iv S 10 1 ≤ iv S1 10 1)) (fun S1 => TH aw 2200 S S1))) ∧
  (∀ (d : Nat) (S : am_S) (fw : Int32) (ws : Int32), SH aw S → (ws = 0 ∨ ws = 1) → 48 - lv S < (NN : Int) → (30 : Int) * (48 - lv S) ≤ (d : Int) → (0 ≤ nx S) → (nx S ≤ wr S) → (wr S ≤ 600) → (0 ≤ lv S) → (lv S ≤ 48) → (1 ≤ iv S 13 1) → (iv S 13 1 ≤ lv S + 0) → (iv S 5 1 ≤ nx S + 1) → am_E (am_PP sc) (d + 22) 73 0 [some (.ref 7), some (.int fw), some (.int ws), none, none, none] [] S (am_T (fun v S1 => v = none ∧ Ad aw S S1 ∧ (nx S + 1 ≤ nx S1) ∧ (nx S1 ≤ wr S1) ∧ (lv S1 = lv S + (-1)) ∧ (EN S1 + -10000 * nx S1 ≤ EN S + -10000 * nx S + (-15000)) ∧ (iv S 8 1 ≤ iv S1 8 1) ∧ (iv S 10 1 ≤ iv S1 10 1)) (fun S1 => TH aw 2000 S S1)))
theorem rc_70 {sc : Nat × (Nat → Int32)} {aw NN : Nat} (ihR : RC sc aw NN) : ∀ (d : Nat) (S : am_S), SH aw S → 48 - lv S < (NN : Int) → (30 : Int) * (48 - lv S) ≤ (d : Int) → (0 ≤ nx S) → (nx S ≤ wr S) → (wr S ≤ 600) → (0 ≤ lv S) → (lv S ≤ 48) → (1 ≤ iv S 13 1) → (iv S 13 1 ≤ lv S + 1) → (iv S 5 1 ≤ nx S + 1) → am_E (am_PP sc) (d + 18) 70 0 [some (.ref 7), none, none, none, none, none] [] S (am_T (fun v S1 => v = none ∧ Ad aw S S1 ∧ (nx S + 1 ≤ nx S1) ∧ (nx S1 ≤ wr S1) ∧ (lv S1 = lv S + 0) ∧ (EN S1 + -10000 * nx S1 ≤ EN S + -10000 * nx S + (-2000)) ∧ (iv S 8 1 ≤ iv S1 8 1) ∧ (iv S 10 1 ≤ iv S1 10 1)) (fun S1 => TH aw 2000 S S1)) := ihR.1
theorem rc_112 {sc : Nat × (Nat → Int32)} {aw NN : Nat} (ihR : RC sc aw NN) : ∀ (d : Nat) (S : am_S), SH aw S → 48 - lv S < (NN : Int) → (30 : Int) * (48 - lv S) ≤ (d : Int) → (0 ≤ nx S) → (nx S ≤ wr S) → (wr S ≤ 600) → (0 ≤ lv S) → (lv S ≤ 48) → (1 ≤ iv S 13 1) → (iv S 13 1 ≤ lv S + 1) → (iv S 5 1 ≤ nx S + 1) → am_E (am_PP sc) (d + 19) 112 0 [some (.ref 7), none, none, none] [] S (am_T (fun v S1 => ∃ r : Int32, v = some (.int r) ∧ Ad aw S S1 ∧ (nx S + 1 ≤ nx S1) ∧ (nx S1 ≤ wr S1) ∧ (lv S1 = lv S + 0) ∧ (EN S1 + -10000 * nx S1 ≤ EN S + -10000 * nx S + (-2000)) ∧ (iv S 8 1 ≤ iv S1 8 1) ∧ (iv S 10 1 ≤ iv S1 10 1) ∧ (0 ≤ r.toInt)) (fun S1 => TH aw 2000 S S1)) := ihR.2.1
theorem rc_92 {sc : Nat × (Nat → Int32)} {aw NN : Nat} (ihR : RC sc aw NN) : ∀ (d : Nat) (S : am_S) (ap : Int32), SH aw S → 48 - lv S < (NN : Int) → (30 : Int) * (48 - lv S) ≤ (d : Int) → (0 ≤ nx S) → (nx S ≤ wr S) → (wr S ≤ 600) → (0 ≤ lv S) → (lv S ≤ 48) → (1 ≤ iv S 13 1) → (iv S 13 1 ≤ lv S + 1) → (iv S 5 1 ≤ nx S + 1) → am_E (am_PP sc) (d + 19) 92 0 [some (.ref 7), some (.int ap), none, none] [] S (am_T (fun v S1 => ∃ r : Int32, v = some (.int r) ∧ Ad aw S S1 ∧ (nx S + 1 ≤ nx S1) ∧ (nx S1 ≤ wr S1) ∧ (lv S1 = lv S + 0) ∧ (EN S1 + -10000 * nx S1 ≤ EN S + -10000 * nx S + (-1000)) ∧ (iv S 8 1 ≤ iv S1 8 1) ∧ (iv S 10 1 ≤ iv S1 10 1)) (fun S1 => TH aw 2000 S S1)) := ihR.2.2.1
theorem rc_52 {sc : Nat × (Nat → Int32)} {aw NN : Nat} (ihR : RC sc aw NN) : ∀ (d : Nat) (S : am_S), SH aw S → 48 - lv S < (NN : Int) → (30 : Int) * (48 - lv S) ≤ (d : Int) → (0 ≤ nx S) → (nx S ≤ wr S) → (wr S ≤ 600) → (0 ≤ lv S) → (lv S ≤ 48) → (1 ≤ iv S 13 1) → (iv S 13 1 ≤ lv S + 1) → (iv S 5 1 ≤ nx S + 1) → am_E (am_PP sc) (d + 21) 52 0 [some (.ref 7), none] [] S (am_T (fun v S1 => v = none ∧ Ad aw S S1 ∧ (nx S + 0 ≤ nx S1) ∧ (nx S1 ≤ wr S1) ∧ (lv S1 = lv S + 0) ∧ (EN S1 + -10000 * nx S1 ≤ EN S + -10000 * nx S + 0) ∧ (iv S 8 1 ≤ iv S1 8 1) ∧ (iv S 10 1 ≤ iv S1 10 1)) (fun S1 => TH aw 2000 S S1)) := ihR.2.2.2.1
theorem rc_128 {sc : Nat × (Nat → Int32)} {aw NN : Nat} (ihR : RC sc aw NN) : ∀ (d : Nat) (S : am_S), SH aw S → 48 - lv S < (NN : Int) → (30 : Int) * (48 - lv S) ≤ (d : Int) → (0 ≤ nx S) → (nx S ≤ wr S) → (wr S ≤ 600) → (0 ≤ lv S) → (lv S ≤ 48) → (1 ≤ iv S 13 1) → (iv S 13 1 ≤ lv S + 1) → (iv S 5 1 ≤ nx S + 1) → am_E (am_PP sc) (d + 22) 128 0 [some (.ref 7)] [] S (am_T (fun v S1 => v = none ∧ Ad aw S S1 ∧ (nx S + 0 ≤ nx S1) ∧ (nx S1 ≤ wr S1) ∧ (lv S1 = lv S + 0) ∧ (EN S1 + -10000 * nx S1 ≤ EN S + -10000 * nx S + 500) ∧ (iv S 8 1 ≤ iv S1 8 1) ∧ (iv S 10 1 ≤ iv S1 10 1)) (fun S1 => TH aw 2200 S S1)) := ihR.2.2.2.2.1
theorem rc_73 {sc : Nat × (Nat → Int32)} {aw NN : Nat} (ihR : RC sc aw NN) : ∀ (d : Nat) (S : am_S) (fw : Int32) (ws : Int32), SH aw S → (ws = 0 ∨ ws = 1) → 48 - lv S < (NN : Int) → (30 : Int) * (48 - lv S) ≤ (d : Int) → (0 ≤ nx S) → (nx S ≤ wr S) → (wr S ≤ 600) → (0 ≤ lv S) → (lv S ≤ 48) → (1 ≤ iv S 13 1) → (iv S 13 1 ≤ lv S + 0) → (iv S 5 1 ≤ nx S + 1) → am_E (am_PP sc) (d + 22) 73 0 [some (.ref 7), some (.int fw), some (.int ws), none, none, none] [] S (am_T (fun v S1 => v = none ∧ Ad aw S S1 ∧ (nx S + 1 ≤ nx S1) ∧ (nx S1 ≤ wr S1) ∧ (lv S1 = lv S + (-1)) ∧ (EN S1 + -10000 * nx S1 ≤ EN S + -10000 * nx S + (-15000)) ∧ (iv S 8 1 ≤ iv S1 8 1) ∧ (iv S 10 1 ≤ iv S1 10 1)) (fun S1 => TH aw 2000 S S1)) := ihR.2.2.2.2.2
theorem cr_head {sc : Nat × (Nat → Int32)} {d aw NN : Nat} {S : am_S} (h : SH aw S) (ihR : RC sc aw NN) (hN : 48 - lv S < (NN : Int) + 1) (hd : (30 : Int) * (48 - lv S) ≤ (d : Int)) (p0 : 0 ≤ nx S) (p1 : nx S ≤ wr S) (p2 : wr S ≤ 600) (p3 : 0 ≤ lv S) (p4 : lv S ≤ 48) (p5 : 1 ≤ iv S 13 1) (p6 : iv S 13 1 ≤ lv S + 1) (p7 : iv S 5 1 ≤ nx S + 1) : am_E (am_PP sc) (d + 16) 61 0 [some (.ref 7)] [] S (am_T (fun v S1 => ∃ r : Int32, v = some (.int r) ∧ Ad aw S S1 ∧ (nx S + 1 ≤ nx S1) ∧ (nx S1 ≤ wr S1) ∧ (lv S1 = lv S + 0) ∧ (EN S1 + -10000 * nx S1 ≤ EN S + -10000 * nx S + (-2160)) ∧ (iv S 8 1 ≤ iv S1 8 1) ∧ (iv S 10 1 ≤ iv S1 10 1)) (fun S1 => TH aw 2000 S S1)) := by
  refine am_e2 (v := 7) hi_61_0 rfl ?_
  refine cm_20f (r := 2) h hi_61_1 (h.1.s (7, 6) (by decide)) (by decide) rfl ?_
  refine am_e32n (as := [.ref 2]) (la := [some (.ref 2)]) (rest := []) hi_61_4 (am_hd0 (M := 61) (by decide) 4) (Nat.le_of_ble_eq_true rfl) (Nat.le_of_ble_eq_true rfl) (show 1 ≤ am_P0.2.2.1 53 from by decide +kernel) rfl (cl_recv (h.1.s (2, 2) (by decide))) rfl rfl (ck_kind (d := (d + 14)) h   ) ?_
  rintro v1 S2 ⟨r3, rfl, rfl, h5⟩
  have h5_ : r3.toInt = kd aw S := h5
  show am_E _ _ _ _ [some (.ref 7)] [.int r3] _ _
  refine am_e0 hi_61_7 ?_
  by_cases c7 : ¬ r3.toInt = (1 : Int)
  · refine am_e13t hi_61_8 (am_cT (m := r3.toInt) (n := (1 : Int)) rfl (by decide) c7) ?_
    refine am_e2 (v := 7) hi_61_16 rfl ?_
    refine cm_20f (r := 2) h hi_61_17 (h.1.s (7, 6) (by decide)) (by decide) rfl ?_
    refine am_e0 hi_61_20 ?_
    refine am_e32t (as := [.ref 2, .int 60]) (la := [some (.ref 2), some (.int 60)]) (rest := []) hi_61_22 (am_hd0 (M := 61) (by decide) 22) (Nat.le_of_ble_eq_true rfl) (Nat.le_of_ble_eq_true rfl) (show 2 ≤ am_P0.2.2.1 64 from by decide +kernel) rfl (cl_recv (h.1.s (2, 2) (by decide))) rfl rfl (ck_take (d := (d + 1)) h   (by show 0 ≤ nx S; omega) (by show nx S ≤ wr S; omega) (by show wr S ≤ 600; omega) (by show 0 ≤ lv S; omega) (by show lv S ≤ 48; omega) (by show ¬ (60 : Int) = 0; omega)) (fun S25 h26 => (show TH aw 2000 S S25 from ⟨h26.1, (Ex.refl S).trans h26.2.1, ⟨(by have q := h26.2.2.1.1; omega), h26.2.2.1.2.trans rfl⟩, h26.2.2.2.1, h26.2.2.2.2.1, (by have q := h26.2.2.2.2.2; omega)⟩)) ?_
    rintro v8 S9 ⟨r10, rfl, h11, h12, h13, h14, h15, h16⟩
    have h12_ : kd aw S = (60 : Int) := h12
    have h13_ : nx S9 = nx S + 1 := h13
    have h14_ : lv S9 = lv S + c_dl (kd aw S) := h14
    have h15_ : lv S9 ≤ 48 := h15
    have h16_ : nx S9 ≤ wr S9 := h16
    obtain ⟨h27, h28, ⟨h31, h32⟩, ⟨h33, h34, h35⟩, h36, h37⟩ := h11
    have h38 := h36 8 (h.1.s (8, 3) (by decide))
    have h39 := h36 10 (h.1.s (10, 3) (by decide))
    have h40 := os_5 h33 1
    have h41 := os_13 h33 1
    have h42 : c_dl (kd aw S) = 1 := by unfold c_dl; split <;> split <;> omega
    show am_E _ _ _ _ [some (.ref 7)] [.int r10] _ _
    refine am_e6i hi_61_25 ?_
    refine am_e2 (v := 7) hi_61_26 rfl ?_
    refine am_e32q (d1 := d - 30 + 27 + 18) (by omega) (as := [.ref 7]) (la := [some (.ref 7), none, none, none, none, none]) (rest := []) hi_61_27 (am_hd0 (M := 61) (by decide) 27) (Nat.le_of_ble_eq_true rfl) (Nat.le_of_ble_eq_true rfl) (show 1 ≤ am_P0.2.2.1 70 from by decide +kernel) rfl (cl_recv (h27.1.s (7, 6) (by decide))) rfl rfl (rc_70 ihR (d - 30 + 27) _  h27  (by show 48 - lv S9 < (NN : Int); omega) (by show (30 : Int) * (48 - lv S9) ≤ ((d - 30 + 27 : Nat) : Int); omega) (by show 0 ≤ nx S9; omega) (by show nx S9 ≤ wr S9; omega) (by show wr S9 ≤ 600; omega) (by show 0 ≤ lv S9; omega) (by show lv S9 ≤ 48; omega) (by show 1 ≤ iv S9 13 1; omega) (by show iv S9 13 1 ≤ lv S9 + 1; omega) (by show iv S9 5 1 ≤ nx S9 + 1; omega)) (fun S54 h55 => (show TH aw 2000 S S54 from ⟨h55.1, h28.trans h55.2.1, ⟨(by have q := h55.2.2.1.1; omega), h55.2.2.1.2.trans h32⟩, h55.2.2.2.1, h55.2.2.2.2.1, (by have q := h55.2.2.2.2.2; omega)⟩)) ?_
    rintro v43 S44 ⟨rfl, h46, h47, h48, h49, h50, h51, h52⟩
    have h47_ : nx S9 + 1 ≤ nx S44 := h47
    have h48_ : nx S44 ≤ wr S44 := h48
    have h49_ : lv S44 = lv S9 + 0 := h49
    have h50_ : EN S44 + -10000 * nx S44 ≤ EN S9 + -10000 * nx S9 + (-2000) := h50
    have h51_ : iv S9 8 1 ≤ iv S44 8 1 := h51
    have h52_ : iv S9 10 1 ≤ iv S44 10 1 := h52
    obtain ⟨h56, h57, ⟨h60, h61⟩, ⟨h62, h63⟩⟩ := h46
    show am_E _ _ _ _ [some (.ref 7)] [] _ _
    refine am_e2 (v := 7) hi_61_30 rfl ?_
    refine cm_20f (r := 2) h56 hi_61_31 (h56.1.s (7, 6) (by decide)) (by decide) rfl ?_
    refine am_e0 hi_61_34 ?_
    refine am_e32t (as := [.ref 2, .int 61]) (la := [some (.ref 2), some (.int 61)]) (rest := []) hi_61_36 (am_hd0 (M := 61) (by decide) 36) (Nat.le_of_ble_eq_true rfl) (Nat.le_of_ble_eq_true rfl) (show 2 ≤ am_P0.2.2.1 64 from by decide +kernel) rfl (cl_recv (h56.1.s (2, 2) (by decide))) rfl rfl (ck_take (d := (d + 1)) h56   (by show 0 ≤ nx S44; omega) (by show nx S44 ≤ wr S44; omega) (by show wr S44 ≤ 600; omega) (by show 0 ≤ lv S44; omega) (by show lv S44 ≤ 48; omega) (by show ¬ (61 : Int) = 0; omega)) (fun S84 h85 => (show TH aw 2000 S S84 from ⟨h85.1, (h28.trans h57).trans h85.2.1, ⟨(by have q := h85.2.2.1.1; omega), h85.2.2.1.2.trans (h61.trans h32)⟩, h85.2.2.2.1, h85.2.2.2.2.1, (by have q := h85.2.2.2.2.2; omega)⟩)) ?_
    rintro v67 S68 ⟨r69, rfl, h70, h71, h72, h73, h74, h75⟩
    have h71_ : kd aw S44 = (61 : Int) := h71
    have h72_ : nx S68 = nx S44 + 1 := h72
    have h73_ : lv S68 = lv S44 + c_dl (kd aw S44) := h73
    have h74_ : lv S68 ≤ 48 := h74
    have h75_ : nx S68 ≤ wr S68 := h75
    obtain ⟨h86, h87, ⟨h90, h91⟩, ⟨h92, h93, h94⟩, h95, h96⟩ := h70
    have h97 := h95 8 (h56.1.s (8, 3) (by decide))
    have h98 := h95 10 (h56.1.s (10, 3) (by decide))
    have h99 := os_5 h92 1
    have h100 := os_13 h92 1
    have h101 : c_dl (kd aw S44) = -1 := by unfold c_dl; split <;> split <;> omega
    show am_E _ _ _ _ [some (.ref 7)] [.int r69] _ _
    refine am_e6i hi_61_39 ?_
    refine am_e0 hi_61_40 ?_
    refine am_e33 hi_61_41 ?_
    exact ⟨0, rfl, ⟨h86, ((h28.trans h57).trans h87), ⟨(by show wr S68 = wr S; omega), (h91.trans (h61.trans h32))⟩, ⟨(by show iv S68 13 1 = iv S 13 1; omega), (by show iv S68 5 1 - nx S68 ≤ iv S 5 1 - nx S; omega)⟩⟩, (by show nx S + 1 ≤ nx S68; omega), (by show nx S68 ≤ wr S68; omega), (by show lv S68 = lv S + 0; omega), (by show EN S68 + -10000 * nx S68 ≤ EN S + -10000 * nx S + (-2160); omega), (by show iv S 8 1 ≤ iv S68 8 1; omega), (by show iv S 10 1 ≤ iv S68 10 1; omega)⟩
  · refine am_e13f hi_61_8 (am_cF (m := r3.toInt) (n := (1 : Int)) rfl (by decide) c7) ?_
    refine am_e2 (v := 7) hi_61_11 rfl ?_
    refine am_e32t (as := [.ref 7]) (la := [some (.ref 7)]) (rest := []) hi_61_12 (am_hd0 (M := 61) (by decide) 12) (Nat.le_of_ble_eq_true rfl) (Nat.le_of_ble_eq_true rfl) (show 1 ≤ am_P0.2.2.1 62 from by decide +kernel) rfl (cl_recv (h.1.s (7, 6) (by decide))) rfl rfl (ck_nameAlone (d := d) h   (by show 0 ≤ nx S; omega) (by show nx S ≤ wr S; omega) (by show wr S ≤ 600; omega) (by show 0 ≤ lv S; omega) (by show lv S ≤ 48; omega) (by show iv S 13 1 ≤ 49; omega) (by show 0 ≤ iv S 13 1; omega)) (fun S121 h122 => (show TH aw 2000 S S121 from ⟨h122.1, (Ex.refl S).trans h122.2.1, ⟨(by have q := h122.2.2.1.1; omega), h122.2.2.1.2.trans rfl⟩, h122.2.2.2.1, h122.2.2.2.2.1, (by have q := h122.2.2.2.2.2; omega)⟩)) ?_
    rintro v102 S103 ⟨r104, rfl, h105, h106, h107, h108, h109, h110, h111, h112⟩
    have h106_ : nx S + 1 ≤ nx S103 := h106
    have h107_ : nx S103 ≤ wr S103 := h107
    have h108_ : lv S103 = lv S + 0 := h108
    have h109_ : EN S103 + -10000 * nx S103 ≤ EN S + -10000 * nx S + (-2160) := h109
    have h110_ : iv S103 8 1 = iv S 8 1 := h110
    have h111_ : iv S103 10 1 = iv S 10 1 := h111
    have h112_ : iv S103 14 1 = iv S 14 1 := h112
    obtain ⟨h123, h124, ⟨h125, h126⟩, ⟨h127, h128, h129⟩⟩ := h105
    have h130 := os_5 h127 1
    have h131 := os_13 h127 1
    show am_E _ _ _ _ [some (.ref 7)] [.int r104] _ _
    refine am_e33 hi_61_15 ?_
    exact ⟨r104, rfl, ⟨h123, h124, ⟨(by show wr S103 = wr S; omega), h126⟩, ⟨(by show iv S103 13 1 = iv S 13 1; omega), (by show iv S103 5 1 - nx S103 ≤ iv S 5 1 - nx S; omega)⟩⟩, (by show nx S + 1 ≤ nx S103; omega), (by show nx S103 ≤ wr S103; omega), (by show lv S103 = lv S + 0; omega), (by show EN S103 + -10000 * nx S103 ≤ EN S + -10000 * nx S + (-2160); omega), (by show iv S 8 1 ≤ iv S103 8 1; omega), (by show iv S 10 1 ≤ iv S103 10 1; omega)⟩
theorem cg_table {sc : Nat × (Nat → Int32)} {d aw NN : Nat} {Sb : am_S} {Q : Option (Option Value) → am_S → Prop} (h : SH aw Sb) (ihR : RC sc aw NN) (hN : 49 - lv Sb < (NN : Int) + 1) (hd : (30 : Int) * (49 - lv Sb) ≤ (d : Int)) (p0 : 0 ≤ nx Sb) (p1 : nx Sb ≤ wr Sb) (p2 : wr Sb ≤ 600) (p3 : 0 ≤ lv Sb) (p4 : lv Sb ≤ 48) (p5 : 1 ≤ iv Sb 13 1) (p6 : iv Sb 13 1 ≤ lv Sb + 1) (p7 : iv Sb 5 1 ≤ nx Sb + 1) (hq : ∀ S1, TH aw 2000 Sb S1 → Q none S1) (hx0 : ∀ (S : am_S) (ap m n : Int32), Ad aw Sb S → (m = 0 ∨ m = 1) → (nx Sb + 0 ≤ nx S) → (nx S ≤ wr S) → (lv S = lv Sb + 0) → (EN S + -10000 * nx S ≤ EN Sb + -10000 * nx Sb + 0) → (iv Sb 8 1 ≤ iv S 8 1) → (iv Sb 10 1 ≤ iv S 10 1) → am_E (am_PP sc) (d + 15) 91 90 [some (.ref 7), some (.int ap), some (.int m), some (.int n)] [] S Q) : ∀ (N : Nat) (S : am_S) (ap m n : Int32), Ad aw Sb S → (m = 0 ∨ m = 1) → (nx Sb + 0 ≤ nx S) → (nx S ≤ wr S) → (lv S = lv Sb + 0) → (EN S + -10000 * nx S ≤ EN Sb + -10000 * nx Sb + 0) → (iv Sb 8 1 ≤ iv S 8 1) → (iv Sb 10 1 ≤ iv S 10 1) → 2147483647 - n.toInt < (N : Int) → am_E (am_PP sc) (d + 15) 91 32 [some (.ref 7), some (.int ap), some (.int m), some (.int n)] [] S Q := by
  intro N
  induction N with
  | zero =>
    intro S  ap m n hrel hB_m i0 i1 i2 i3 i4 i5 hN
    have := i32_le ap
    have := i32_le m
    have := i32_le n
    have := i32_ge ap
    have := i32_ge m
    have := i32_ge n
    exfalso
    omega
  | succ N ih =>
    intro S  ap m n hrel hB_m i0 i1 i2 i3 i4 i5 hN
    have hB_m_ : m.toInt = 0 ∨ m.toInt = 1 := hB_m.elim (fun e => Or.inl (by rw [e]; rfl)) (fun e => Or.inr (by rw [e]; rfl))
    have hl_ap := i32_le ap
    have hg_ap := i32_ge ap
    have hl_m := i32_le m
    have hg_m := i32_ge m
    have hl_n := i32_le n
    have hg_n := i32_ge n
    obtain ⟨h1, h2, ⟨h5, h6⟩, ⟨h7, h8⟩⟩ := hrel
    refine am_e1 (v := m) hi_91_32 rfl ?_
    by_cases c12 : m.toInt = (0 : Int)
    · refine am_e12t hi_91_33 (am_cT (m := m.toInt) (n := (0 : Int)) rfl (by decide) c12) ?_
      exact hx0 _ ap m n ⟨h1, h2, ⟨(by show wr S = wr Sb; omega), h6⟩, ⟨(by show iv S 13 1 = iv Sb 13 1; omega), (by show iv S 5 1 - nx S ≤ iv Sb 5 1 - nx Sb; omega)⟩⟩ hB_m (by show nx Sb + 0 ≤ nx S; omega) (by show nx S ≤ wr S; omega) (by show lv S = lv Sb + 0; omega) (by show EN S + -10000 * nx S ≤ EN Sb + -10000 * nx Sb + 0; omega) (by show iv Sb 8 1 ≤ iv S 8 1; omega) (by show iv Sb 10 1 ≤ iv S 10 1; omega)
    · refine am_e12f hi_91_33 (am_cF (m := m.toInt) (n := (0 : Int)) rfl (by decide) c12) ?_
      refine am_e2 (v := 7) hi_91_36 rfl ?_
      refine cm_20f (r := 2) h1 hi_91_37 (h1.1.s (7, 6) (by decide)) (by decide) rfl ?_
      refine am_e32n (as := [.ref 2]) (la := [some (.ref 2)]) (rest := []) hi_91_40 (am_hd0 (M := 91) (by decide) 40) (Nat.le_of_ble_eq_true rfl) (Nat.le_of_ble_eq_true rfl) (show 1 ≤ am_P0.2.2.1 53 from by decide +kernel) rfl (cl_recv (h1.1.s (2, 2) (by decide))) rfl rfl (ck_kind (d := (d + 13)) h1   ) ?_
      rintro v13 S14 ⟨r15, rfl, rfl, h17⟩
      have h17_ : r15.toInt = kd aw S := h17
      show am_E _ _ _ _ [some (.ref 7), some (.int ap), some (.int m), some (.int n)] [.int r15] _ _
      refine am_e0 hi_91_43 ?_
      by_cases c19 : r15.toInt = (63 : Int)
      · refine am_e13t hi_91_45 (am_cT (m := r15.toInt) (n := (63 : Int)) rfl (by decide) c19) ?_
        exact hx0 _ ap m n ⟨h1, h2, ⟨(by show wr S = wr Sb; omega), h6⟩, ⟨(by show iv S 13 1 = iv Sb 13 1; omega), (by show iv S 5 1 - nx S ≤ iv Sb 5 1 - nx Sb; omega)⟩⟩ hB_m (by show nx Sb + 0 ≤ nx S; omega) (by show nx S ≤ wr S; omega) (by show lv S = lv Sb + 0; omega) (by show EN S + -10000 * nx S ≤ EN Sb + -10000 * nx Sb + 0; omega) (by show iv Sb 8 1 ≤ iv S 8 1; omega) (by show iv Sb 10 1 ≤ iv S 10 1; omega)
      · refine am_e13f hi_91_45 (am_cF (m := r15.toInt) (n := (63 : Int)) rfl (by decide) c19) ?_
        refine am_e1 (v := n) hi_91_48 rfl ?_
        refine am_e0 hi_91_49 ?_
        by_cases c20 : (16384 : Int) < n.toInt
        · refine am_e13t hi_91_52 (am_cT (m := n.toInt) (n := (16384 : Int)) rfl (by decide) c20) ?_
          exact hx0 _ ap m n ⟨h1, h2, ⟨(by show wr S = wr Sb; omega), h6⟩, ⟨(by show iv S 13 1 = iv Sb 13 1; omega), (by show iv S 5 1 - nx S ≤ iv Sb 5 1 - nx Sb; omega)⟩⟩ hB_m (by show nx Sb + 0 ≤ nx S; omega) (by show nx S ≤ wr S; omega) (by show lv S = lv Sb + 0; omega) (by show EN S + -10000 * nx S ≤ EN Sb + -10000 * nx Sb + 0; omega) (by show iv Sb 8 1 ≤ iv S 8 1; omega) (by show iv Sb 10 1 ≤ iv S 10 1; omega)
        · refine am_e13f hi_91_52 (am_cF (m := n.toInt) (n := (16384 : Int)) rfl (by decide) c20) ?_
          refine am_e2 (v := 7) hi_91_55 rfl ?_
          refine am_e1 (v := ap) hi_91_56 rfl ?_
          refine am_e32q (d1 := d - 30 + 25 + 19) (by omega) (as := [.ref 7, .int ap]) (la := [some (.ref 7), some (.int ap), none, none]) (rest := []) hi_91_57 (am_hd0 (M := 91) (by decide) 57) (Nat.le_of_ble_eq_true rfl) (Nat.le_of_ble_eq_true rfl) (show 2 ≤ am_P0.2.2.1 92 from by decide +kernel) rfl (cl_recv (h1.1.s (7, 6) (by decide))) rfl rfl (rc_92 ihR (d - 30 + 25) _ ap h1  (by show 48 - lv S < (NN : Int); omega) (by show (30 : Int) * (48 - lv S) ≤ ((d - 30 + 25 : Nat) : Int); omega) (by show 0 ≤ nx S; omega) (by show nx S ≤ wr S; omega) (by show wr S ≤ 600; omega) (by show 0 ≤ lv S; omega) (by show lv S ≤ 48; omega) (by show 1 ≤ iv S 13 1; omega) (by show iv S 13 1 ≤ lv S + 1; omega) (by show iv S 5 1 ≤ nx S + 1; omega)) (fun S32 h33 => hq S32 (show TH aw 2000 Sb S32 from ⟨h33.1, h2.trans h33.2.1, ⟨(by have q := h33.2.2.1.1; omega), h33.2.2.1.2.trans h6⟩, h33.2.2.2.1, h33.2.2.2.2.1, (by have q := h33.2.2.2.2.2; omega)⟩)) ?_
          rintro v21 S22 ⟨r23, rfl, h24, h25, h26, h27, h28, h29, h30⟩
          have h25_ : nx S + 1 ≤ nx S22 := h25
          have h26_ : nx S22 ≤ wr S22 := h26
          have h27_ : lv S22 = lv S + 0 := h27
          have h28_ : EN S22 + -10000 * nx S22 ≤ EN S + -10000 * nx S + (-1000) := h28
          have h29_ : iv S 8 1 ≤ iv S22 8 1 := h29
          have h30_ : iv S 10 1 ≤ iv S22 10 1 := h30
          obtain ⟨h34, h35, ⟨h38, h39⟩, ⟨h40, h41⟩⟩ := h24
          show am_E _ _ _ _ [some (.ref 7), some (.int ap), some (.int m), some (.int n)] [.int r23] _ _
          refine am_e3 (ls' := [some (.ref 7), some (.int r23), some (.int m), some (.int n)]) hi_91_60 (Nat.le_of_ble_eq_true rfl) rfl ?_
          refine am_e2 (v := 7) hi_91_61 rfl ?_
          refine cm_20f (r := 2) h34 hi_91_62 (h34.1.s (7, 6) (by decide)) (by decide) rfl ?_
          refine am_e32n (as := [.ref 2]) (la := [some (.ref 2)]) (rest := []) hi_91_65 (am_hd0 (M := 91) (by decide) 65) (Nat.le_of_ble_eq_true rfl) (Nat.le_of_ble_eq_true rfl) (show 1 ≤ am_P0.2.2.1 53 from by decide +kernel) rfl (cl_recv (h34.1.s (2, 2) (by decide))) rfl rfl (ck_kind (d := (d + 13)) h34   ) ?_
          rintro v45 S46 ⟨r47, rfl, rfl, h49⟩
          have h49_ : r47.toInt = kd aw S22 := h49
          show am_E _ _ _ _ [some (.ref 7), some (.int r23), some (.int m), some (.int n)] [.int r47] _ _
          refine am_e32n (as := [.int r47]) (la := [some (.int r47)]) (rest := []) hi_91_68 (am_hd0 (M := 91) (by decide) 68) (Nat.le_of_ble_eq_true rfl) (Nat.le_of_ble_eq_true rfl) (show 1 ≤ am_P0.2.2.1 95 from by decide +kernel) rfl rfl rfl rfl (ck_sep (d := (d + 14)) h34   ) ?_
          rintro v51 S52 ⟨r53, rfl, hb56, rfl, h55⟩
          have h55_ : (r53.toInt = 1 ∧ (r47.toInt = 69 ∨ r47.toInt = 67)) ∨ (r53.toInt = 0 ∧ ¬ (r47.toInt = 69 ∨ r47.toInt = 67)) := h55
          have hb56_ : r53.toInt = 0 ∨ r53.toInt = 1 := hb56.elim (fun e => Or.inl (by rw [e]; rfl)) (fun e => Or.inr (by rw [e]; rfl))
          show am_E _ _ _ _ [some (.ref 7), some (.int r23), some (.int m), some (.int n)] [.int r53] _ _
          refine am_e3 (ls' := [some (.ref 7), some (.int r23), some (.int r53), some (.int n)]) hi_91_71 (Nat.le_of_ble_eq_true rfl) rfl ?_
          refine am_e1 (v := r53) hi_91_72 rfl ?_
          by_cases c57 : r53.toInt = (0 : Int)
          · refine am_e12t hi_91_73 (am_cT (m := r53.toInt) (n := (0 : Int)) rfl (by decide) c57) ?_
            obtain ⟨z58, hz58, tz58⟩ := am_addI (x := n) (y := 1) (m := n.toInt) (n := (1 : Int)) rfl (by decide) (by omega) (by omega)
            refine am_e5 (v := n) (z := z58) (ls' := [some (.ref 7), some (.int r23), some (.int r53), some (.int z58)]) hi_91_84 rfl hz58 rfl ?_
            refine am_e18 hi_91_87 ?_
            exact ih _ r23 r53 z58 ⟨h34, (h2.trans h35), ⟨(by show wr S22 = wr Sb; omega), (h39.trans h6)⟩, ⟨(by show iv S22 13 1 = iv Sb 13 1; omega), (by show iv S22 5 1 - nx S22 ≤ iv Sb 5 1 - nx Sb; omega)⟩⟩ hb56 (by show nx Sb + 0 ≤ nx S22; omega) (by show nx S22 ≤ wr S22; omega) (by show lv S22 = lv Sb + 0; omega) (by show EN S22 + -10000 * nx S22 ≤ EN Sb + -10000 * nx Sb + 0; omega) (by show iv Sb 8 1 ≤ iv S22 8 1; omega) (by show iv Sb 10 1 ≤ iv S22 10 1; omega) (by show 2147483647 - z58.toInt < (N : Int); omega)
          · refine am_e12f hi_91_73 (am_cF (m := r53.toInt) (n := (0 : Int)) rfl (by decide) c57) ?_
            refine am_e2 (v := 7) hi_91_76 rfl ?_
            refine cm_20f (r := 2) h34 hi_91_77 (h34.1.s (7, 6) (by decide)) (by decide) rfl ?_
            refine am_e32t (as := [.ref 2]) (la := [some (.ref 2), none]) (rest := []) hi_91_80 (am_hd0 (M := 91) (by decide) 80) (Nat.le_of_ble_eq_true rfl) (Nat.le_of_ble_eq_true rfl) (show 1 ≤ am_P0.2.2.1 55 from by decide +kernel) rfl (cl_recv (h34.1.s (2, 2) (by decide))) rfl rfl (ck_skip (d := (d + 1)) h34   (by show 0 ≤ nx S22; omega) (by show nx S22 ≤ wr S22; omega) (by show wr S22 ≤ 600; omega) (by show 0 ≤ lv S22; omega) (by show lv S22 ≤ 48; omega) (by show kd aw S22 ≠ 0; omega)) (fun S75 h76 => hq S75 (show TH aw 2000 Sb S75 from ⟨h76.1, (h2.trans h35).trans h76.2.1, ⟨(by have q := h76.2.2.1.1; omega), h76.2.2.1.2.trans (h39.trans h6)⟩, h76.2.2.2.1, h76.2.2.2.2.1, (by have q := h76.2.2.2.2.2; omega)⟩)) ?_
            rintro v59 S60 ⟨r61, rfl, h62, h63, h64, h65, h66⟩
            have h63_ : nx S60 = nx S22 + 1 := h63
            have h64_ : lv S60 = lv S22 + c_dl (kd aw S22) := h64
            have h65_ : lv S60 ≤ 48 := h65
            have h66_ : nx S60 ≤ wr S60 := h66
            obtain ⟨h77, h78, ⟨h81, h82⟩, ⟨h83, h84, h85⟩, h86, h87⟩ := h62
            have h88 := h86 8 (h34.1.s (8, 3) (by decide))
            have h89 := h86 10 (h34.1.s (10, 3) (by decide))
            have h90 := os_5 h83 1
            have h91 := os_13 h83 1
            have h92 : c_dl (kd aw S22) = 0 := by unfold c_dl; split <;> split <;> omega
            show am_E _ _ _ _ [some (.ref 7), some (.int r23), some (.int r53), some (.int n)] [.int r61] _ _
            refine am_e6i hi_91_83 ?_
            obtain ⟨z93, hz93, tz93⟩ := am_addI (x := n) (y := 1) (m := n.toInt) (n := (1 : Int)) rfl (by decide) (by omega) (by omega)
            refine am_e5 (v := n) (z := z93) (ls' := [some (.ref 7), some (.int r23), some (.int r53), some (.int z93)]) hi_91_84 rfl hz93 rfl ?_
            refine am_e18 hi_91_87 ?_
            exact ih _ r23 r53 z93 ⟨h77, ((h2.trans h35).trans h78), ⟨(by show wr S60 = wr Sb; omega), (h82.trans (h39.trans h6))⟩, ⟨(by show iv S60 13 1 = iv Sb 13 1; omega), (by show iv S60 5 1 - nx S60 ≤ iv Sb 5 1 - nx Sb; omega)⟩⟩ hb56 (by show nx Sb + 0 ≤ nx S60; omega) (by show nx S60 ≤ wr S60; omega) (by show lv S60 = lv Sb + 0; omega) (by show EN S60 + -10000 * nx S60 ≤ EN Sb + -10000 * nx Sb + 0; omega) (by show iv Sb 8 1 ≤ iv S60 8 1; omega) (by show iv Sb 10 1 ≤ iv S60 10 1; omega) (by show 2147483647 - z93.toInt < (N : Int); omega)
theorem cr_table {sc : Nat × (Nat → Int32)} {d aw NN : Nat} {S : am_S} (h : SH aw S) (ihR : RC sc aw NN) (hN : 48 - lv S < (NN : Int) + 1) (hd : (30 : Int) * (48 - lv S) ≤ (d : Int)) (p0 : 0 ≤ nx S) (p1 : nx S ≤ wr S) (p2 : wr S ≤ 600) (p3 : 0 ≤ lv S) (p4 : lv S ≤ 48) (p5 : 1 ≤ iv S 13 1) (p6 : iv S 13 1 ≤ lv S + 1) (p7 : iv S 5 1 ≤ nx S + 1) : am_E (am_PP sc) (d + 15) 91 0 [some (.ref 7), none, none, none] [] S (am_T (fun v S1 => v = none ∧ Ad aw S S1 ∧ (nx S + 1 ≤ nx S1) ∧ (nx S1 ≤ wr S1) ∧ (lv S1 = lv S + 0) ∧ (EN S1 + -10000 * nx S1 ≤ EN S + -10000 * nx S + (-9000)) ∧ (iv S 8 1 ≤ iv S1 8 1) ∧ (iv S 10 1 ≤ iv S1 10 1)) (fun S1 => TH aw 2000 S S1)) := by
  refine am_e2 (v := 7) hi_91_0 rfl ?_
  refine am_e0 hi_91_1 ?_
  refine am_e0 hi_91_3 ?_
  refine am_e0 hi_91_4 ?_
  refine am_e2 (v := 7) hi_91_5 rfl ?_
  refine cm_20f (r := 2) h hi_91_6 (h.1.s (7, 6) (by decide)) (by decide) rfl ?_
  refine am_e32x (as := [.ref 2]) (la := [some (.ref 2)]) (rest := [.int 0, .int 0, .int 20, .ref 7]) hi_91_9 (am_hd0 (M := 91) (by decide) 9) (Nat.le_of_ble_eq_true rfl) (Nat.le_of_ble_eq_true rfl) (show 1 ≤ am_P0.2.2.1 63 from by decide +kernel) rfl (cl_recv (h.1.s (2, 2) (by decide))) rfl rfl ?_
  refine am_e2 (v := 2) hi_63_0 rfl ?_
  refine cm_20i h hi_63_1 (h.1.s (2, 2) (by decide)) (by decide) rfl fun v1 hv1 => ?_
  have hv1_ : v1.toInt = nx S := hv1
  refine am_e33 hi_63_4 ?_
  show am_E _ _ _ _ [some (.ref 7), none, none, none] [.int v1, .int 0, .int 0, .int 20, .ref 7] _ _
  refine am_e32n (as := [.ref 7, .int 20, .int 0, .int 0, .int v1]) (la := [some (.ref 7), some (.int 20), some (.int 0), some (.int 0), some (.int v1)]) (rest := []) hi_91_12 (am_hd0 (M := 91) (by decide) 12) (Nat.le_of_ble_eq_true rfl) (Nat.le_of_ble_eq_true rfl) (show 5 ≤ am_P0.2.2.1 78 from by decide +kernel) rfl (cl_recv (h.1.s (7, 6) (by decide))) rfl rfl (ck_emit (d := (d + 11)) h   ) ?_
  rintro v2 S3 ⟨r4, rfl, h5, h6, h7, h8⟩
  have h6_ : iv S3 8 1 = iv S 8 1 := h6
  have h7_ : iv S3 10 1 = iv S 10 1 := h7
  have h8_ : iv S3 14 1 = iv S 14 1 := h8
  obtain ⟨h10, h11, ⟨h12, h13, h14, h15⟩, ⟨h16, h17, h18⟩, h20⟩ := h5
  have h21 : kd aw S3 = kd aw S := kd_eq h12 h15
  have h22 := os_5 h16 1
  have h23 := os_13 h16 1
  show am_E _ _ _ _ [some (.ref 7), none, none, none] [.int r4] _ _
  refine am_e6i hi_91_15 ?_
  refine am_e2 (v := 7) hi_91_16 rfl ?_
  refine cm_20f (r := 2) h10 hi_91_17 (h10.1.s (7, 6) (by decide)) (by decide) rfl ?_
  refine am_e0 hi_91_20 ?_
  refine am_e32t (as := [.ref 2, .int 62]) (la := [some (.ref 2), some (.int 62)]) (rest := []) hi_91_22 (am_hd0 (M := 91) (by decide) 22) (Nat.le_of_ble_eq_true rfl) (Nat.le_of_ble_eq_true rfl) (show 2 ≤ am_P0.2.2.1 64 from by decide +kernel) rfl (cl_recv (h10.1.s (2, 2) (by decide))) rfl rfl (ck_take (d := d) h10   (by show 0 ≤ nx S3; omega) (by show nx S3 ≤ wr S3; omega) (by show wr S3 ≤ 600; omega) (by show 0 ≤ lv S3; omega) (by show lv S3 ≤ 48; omega) (by show ¬ (62 : Int) = 0; omega)) (fun S41 h42 => (show TH aw 2000 S S41 from ⟨h42.1, h11.trans h42.2.1, ⟨(by have q := h42.2.2.1.1; omega), h42.2.2.1.2.trans h15⟩, h42.2.2.2.1, h42.2.2.2.2.1, (by have q := h42.2.2.2.2.2; omega)⟩)) ?_
  rintro v24 S25 ⟨r26, rfl, h27, h28, h29, h30, h31, h32⟩
  have h28_ : kd aw S3 = (62 : Int) := h28
  have h29_ : nx S25 = nx S3 + 1 := h29
  have h30_ : lv S25 = lv S3 + c_dl (kd aw S3) := h30
  have h31_ : lv S25 ≤ 48 := h31
  have h32_ : nx S25 ≤ wr S25 := h32
  obtain ⟨h43, h44, ⟨h47, h48⟩, ⟨h49, h50, h51⟩, h52, h53⟩ := h27
  have h54 := h52 8 (h10.1.s (8, 3) (by decide))
  have h55 := h52 10 (h10.1.s (10, 3) (by decide))
  have h56 := os_5 h49 1
  have h57 := os_13 h49 1
  have h58 : c_dl (kd aw S3) = 1 := by unfold c_dl; split <;> split <;> omega
  show am_E _ _ _ _ [some (.ref 7), none, none, none] [.int r26] _ _
  refine am_e6i hi_91_25 ?_
  refine am_e0 hi_91_26 ?_
  refine am_e3 (ls' := [some (.ref 7), some (.int 0), none, none]) hi_91_27 (Nat.le_of_ble_eq_true rfl) rfl ?_
  refine am_e0 hi_91_28 ?_
  refine am_e3 (ls' := [some (.ref 7), some (.int 0), some (.int 1), none]) hi_91_29 (Nat.le_of_ble_eq_true rfl) rfl ?_
  refine am_e0 hi_91_30 ?_
  refine am_e3 (ls' := [some (.ref 7), some (.int 0), some (.int 1), some (.int 0)]) hi_91_31 (Nat.le_of_ble_eq_true rfl) rfl ?_
  refine cg_table (d := d) (Sb := S25) h43  ihR (by show 49 - lv S25 < (NN : Int) + 1; omega) (by show (30 : Int) * (49 - lv S25) ≤ ((d : Nat) : Int); omega) (by show 0 ≤ nx S25; omega) (by show nx S25 ≤ wr S25; omega) (by show wr S25 ≤ 600; omega) (by show 0 ≤ lv S25; omega) (by show lv S25 ≤ 48; omega) (by show 1 ≤ iv S25 13 1; omega) (by show iv S25 13 1 ≤ lv S25 + 1; omega) (by show iv S25 5 1 ≤ nx S25 + 1; omega) (fun S59 h60 => (show TH aw 2000 S S59 from ⟨h60.1, (h11.trans h44).trans h60.2.1, ⟨(by have q := h60.2.2.1.1; omega), h60.2.2.1.2.trans (h48.trans h15)⟩, h60.2.2.2.1, h60.2.2.2.2.1, (by have q := h60.2.2.2.2.2; omega)⟩)) ?_ ((2147483647 - (0 : Int)).toNat + 1) S25 0 1 0 ⟨h43, Ex.refl _, ⟨rfl, rfl⟩, ⟨rfl, Int.le_refl _⟩⟩ (by decide) (by show nx S25 + 0 ≤ nx S25; omega) (by show nx S25 ≤ wr S25; omega) (by show lv S25 = lv S25 + 0; omega) (by show EN S25 + -10000 * nx S25 ≤ EN S25 + -10000 * nx S25 + 0; omega) (by show iv S25 8 1 ≤ iv S25 8 1; omega) (by show iv S25 10 1 ≤ iv S25 10 1; omega) (by show 2147483647 - (0 : Int) < _; omega)
  · intro S64 ap61 m62 n63 h65 hb72 h66 h67 h68 h69 h70 h71
    have hb72_ : m62.toInt = 0 ∨ m62.toInt = 1 := hb72.elim (fun e => Or.inl (by rw [e]; rfl)) (fun e => Or.inr (by rw [e]; rfl))
    have h66_ : nx S25 + 0 ≤ nx S64 := h66
    have h67_ : nx S64 ≤ wr S64 := h67
    have h68_ : lv S64 = lv S25 + 0 := h68
    have h69_ : EN S64 + -10000 * nx S64 ≤ EN S25 + -10000 * nx S25 + 0 := h69
    have h70_ : iv S25 8 1 ≤ iv S64 8 1 := h70
    have h71_ : iv S25 10 1 ≤ iv S64 10 1 := h71
    obtain ⟨h73, h74, ⟨h77, h78⟩, ⟨h79, h80⟩⟩ := h65
    show am_E _ _ _ _ [some (.ref 7), some (.int ap61), some (.int m62), some (.int n63)] [] _ _
    refine am_e2 (v := 7) hi_91_90 rfl ?_
    refine cm_20f (r := 2) h73 hi_91_91 (h73.1.s (7, 6) (by decide)) (by decide) rfl ?_
    refine am_e0 hi_91_94 ?_
    refine am_e32t (as := [.ref 2, .int 63]) (la := [some (.ref 2), some (.int 63)]) (rest := []) hi_91_96 (am_hd0 (M := 91) (by decide) 96) (Nat.le_of_ble_eq_true rfl) (Nat.le_of_ble_eq_true rfl) (show 2 ≤ am_P0.2.2.1 64 from by decide +kernel) rfl (cl_recv (h73.1.s (2, 2) (by decide))) rfl rfl (ck_take (d := d) h73   (by show 0 ≤ nx S64; omega) (by show nx S64 ≤ wr S64; omega) (by show wr S64 ≤ 600; omega) (by show 0 ≤ lv S64; omega) (by show lv S64 ≤ 48; omega) (by show ¬ (63 : Int) = 0; omega)) (fun S101 h102 => (show TH aw 2000 S S101 from ⟨h102.1, ((h11.trans h44).trans h74).trans h102.2.1, ⟨(by have q := h102.2.2.1.1; omega), h102.2.2.1.2.trans (h78.trans (h48.trans h15))⟩, h102.2.2.2.1, h102.2.2.2.2.1, (by have q := h102.2.2.2.2.2; omega)⟩)) ?_
    rintro v84 S85 ⟨r86, rfl, h87, h88, h89, h90, h91, h92⟩
    have h88_ : kd aw S64 = (63 : Int) := h88
    have h89_ : nx S85 = nx S64 + 1 := h89
    have h90_ : lv S85 = lv S64 + c_dl (kd aw S64) := h90
    have h91_ : lv S85 ≤ 48 := h91
    have h92_ : nx S85 ≤ wr S85 := h92
    obtain ⟨h103, h104, ⟨h107, h108⟩, ⟨h109, h110, h111⟩, h112, h113⟩ := h87
    have h114 := h112 8 (h73.1.s (8, 3) (by decide))
    have h115 := h112 10 (h73.1.s (10, 3) (by decide))
    have h116 := os_5 h109 1
    have h117 := os_13 h109 1
    have h118 : c_dl (kd aw S64) = -1 := by unfold c_dl; split <;> split <;> omega
    show am_E _ _ _ _ [some (.ref 7), some (.int ap61), some (.int m62), some (.int n63)] [.int r86] _ _
    refine am_e6i hi_91_99 ?_
    refine am_e35 hi_91_100 ?_
    exact ⟨rfl, ⟨h103, (((h11.trans h44).trans h74).trans h104), ⟨(by show wr S85 = wr S; omega), (h108.trans (h78.trans (h48.trans h15)))⟩, ⟨(by show iv S85 13 1 = iv S 13 1; omega), (by show iv S85 5 1 - nx S85 ≤ iv S 5 1 - nx S; omega)⟩⟩, (by show nx S + 1 ≤ nx S85; omega), (by show nx S85 ≤ wr S85; omega), (by show lv S85 = lv S + 0; omega), (by show EN S85 + -10000 * nx S85 ≤ EN S + -10000 * nx S + (-9000); omega), (by show iv S 8 1 ≤ iv S85 8 1; omega), (by show iv S 10 1 ≤ iv S85 10 1; omega)⟩
theorem cr_args {sc : Nat × (Nat → Int32)} {d aw NN : Nat} {S : am_S} {se : Int32} (h : SH aw S) (ihR : RC sc aw NN) (hN : 48 - lv S < (NN : Int) + 1) (hd : (30 : Int) * (48 - lv S) ≤ (d : Int)) (p0 : 0 ≤ nx S) (p1 : nx S ≤ wr S) (p2 : wr S ≤ 600) (p3 : 0 ≤ lv S) (p4 : lv S ≤ 48) (p5 : 1 ≤ iv S 13 1) (p6 : iv S 13 1 ≤ lv S + 1) (p7 : iv S 5 1 ≤ nx S + 1) : am_E (am_PP sc) (d + 16) 111 0 [some (.ref 7), some (.int se), none, none, none] [] S (am_T (fun v S1 => v = none ∧ Ad aw S S1 ∧ (nx S + 1 ≤ nx S1) ∧ (nx S1 ≤ wr S1) ∧ (lv S1 = lv S + 0) ∧ (EN S1 + -10000 * nx S1 ≤ EN S + -10000 * nx S + (-8800)) ∧ (iv S 8 1 ≤ iv S1 8 1) ∧ (iv S 10 1 ≤ iv S1 10 1)) (fun S1 => TH aw 2000 S S1)) := by
  refine am_e2 (v := 7) hi_111_0 rfl ?_
  refine cm_20f (r := 2) h hi_111_1 (h.1.s (7, 6) (by decide)) (by decide) rfl ?_
  refine am_e32x (as := [.ref 2]) (la := [some (.ref 2)]) (rest := []) hi_111_4 (am_hd0 (M := 111) (by decide) 4) (Nat.le_of_ble_eq_true rfl) (Nat.le_of_ble_eq_true rfl) (show 1 ≤ am_P0.2.2.1 63 from by decide +kernel) rfl (cl_recv (h.1.s (2, 2) (by decide))) rfl rfl ?_
  refine am_e2 (v := 2) hi_63_0 rfl ?_
  refine cm_20i h hi_63_1 (h.1.s (2, 2) (by decide)) (by decide) rfl fun v1 hv1 => ?_
  have hv1_ : v1.toInt = nx S := hv1
  refine am_e33 hi_63_4 ?_
  show am_E _ _ _ _ [some (.ref 7), some (.int se), none, none, none] [.int v1] _ _
  refine am_e3 (ls' := [some (.ref 7), some (.int se), some (.int v1), none, none]) hi_111_7 (Nat.le_of_ble_eq_true rfl) rfl ?_
  refine am_e0 hi_111_8 ?_
  refine am_e3 (ls' := [some (.ref 7), some (.int se), some (.int v1), some (.int 1), none]) hi_111_9 (Nat.le_of_ble_eq_true rfl) rfl ?_
  refine am_e0 hi_111_10 ?_
  refine am_e3 (ls' := [some (.ref 7), some (.int se), some (.int v1), some (.int 1), some (.int 0)]) hi_111_11 (Nat.le_of_ble_eq_true rfl) rfl ?_
  refine am_e2 (v := 7) hi_111_13 rfl ?_
  refine cm_20f (r := 2) h hi_111_14 (h.1.s (7, 6) (by decide)) (by decide) rfl ?_
  refine am_e32n (as := [.ref 2]) (la := [some (.ref 2)]) (rest := []) hi_111_17 (am_hd0 (M := 111) (by decide) 17) (Nat.le_of_ble_eq_true rfl) (Nat.le_of_ble_eq_true rfl) (show 1 ≤ am_P0.2.2.1 53 from by decide +kernel) rfl (cl_recv (h.1.s (2, 2) (by decide))) rfl rfl (ck_kind (d := (d + 14)) h   ) ?_
  rintro v2 S3 ⟨r4, rfl, rfl, h6⟩
  have h6_ : r4.toInt = kd aw S := h6
  show am_E _ _ _ _ [some (.ref 7), some (.int se), some (.int v1), some (.int 1), some (.int 0)] [.int r4] _ _
  refine am_e0 hi_111_20 ?_
  by_cases c8 : ¬ r4.toInt = (3 : Int)
  · refine am_e13t hi_111_21 (am_cT (m := r4.toInt) (n := (3 : Int)) rfl (by decide) c8) ?_
    refine am_e2 (v := 7) hi_111_42 rfl ?_
    refine cm_20f (r := 2) h hi_111_43 (h.1.s (7, 6) (by decide)) (by decide) rfl ?_
    refine am_e32n (as := [.ref 2]) (la := [some (.ref 2)]) (rest := []) hi_111_46 (am_hd0 (M := 111) (by decide) 46) (Nat.le_of_ble_eq_true rfl) (Nat.le_of_ble_eq_true rfl) (show 1 ≤ am_P0.2.2.1 53 from by decide +kernel) rfl (cl_recv (h.1.s (2, 2) (by decide))) rfl rfl (ck_kind (d := (d + 14)) h   ) ?_
    rintro v9 S10 ⟨r11, rfl, rfl, h13⟩
    have h13_ : r11.toInt = kd aw S := h13
    show am_E _ _ _ _ [some (.ref 7), some (.int se), some (.int v1), some (.int 1), some (.int 0)] [.int r11] _ _
    refine am_e0 hi_111_49 ?_
    by_cases c15 : ¬ r11.toInt = (62 : Int)
    · refine am_e13t hi_111_51 (am_cT (m := r11.toInt) (n := (62 : Int)) rfl (by decide) c15) ?_
      refine am_e2 (v := 7) hi_111_61 rfl ?_
      refine cm_20f (r := 2) h hi_111_62 (h.1.s (7, 6) (by decide)) (by decide) rfl ?_
      refine am_e0 hi_111_65 ?_
      refine am_e32t (as := [.ref 2, .int 60]) (la := [some (.ref 2), some (.int 60)]) (rest := []) hi_111_67 (am_hd0 (M := 111) (by decide) 67) (Nat.le_of_ble_eq_true rfl) (Nat.le_of_ble_eq_true rfl) (show 2 ≤ am_P0.2.2.1 64 from by decide +kernel) rfl (cl_recv (h.1.s (2, 2) (by decide))) rfl rfl (ck_take (d := (d + 1)) h   (by show 0 ≤ nx S; omega) (by show nx S ≤ wr S; omega) (by show wr S ≤ 600; omega) (by show 0 ≤ lv S; omega) (by show lv S ≤ 48; omega) (by show ¬ (60 : Int) = 0; omega)) (fun S33 h34 => (show TH aw 2000 S S33 from ⟨h34.1, (Ex.refl S).trans h34.2.1, ⟨(by have q := h34.2.2.1.1; omega), h34.2.2.1.2.trans rfl⟩, h34.2.2.2.1, h34.2.2.2.2.1, (by have q := h34.2.2.2.2.2; omega)⟩)) ?_
      rintro v16 S17 ⟨r18, rfl, h19, h20, h21, h22, h23, h24⟩
      have h20_ : kd aw S = (60 : Int) := h20
      have h21_ : nx S17 = nx S + 1 := h21
      have h22_ : lv S17 = lv S + c_dl (kd aw S) := h22
      have h23_ : lv S17 ≤ 48 := h23
      have h24_ : nx S17 ≤ wr S17 := h24
      obtain ⟨h35, h36, ⟨h39, h40⟩, ⟨h41, h42, h43⟩, h44, h45⟩ := h19
      have h46 := h44 8 (h.1.s (8, 3) (by decide))
      have h47 := h44 10 (h.1.s (10, 3) (by decide))
      have h48 := os_5 h41 1
      have h49 := os_13 h41 1
      have h50 : c_dl (kd aw S) = 1 := by unfold c_dl; split <;> split <;> omega
      show am_E _ _ _ _ [some (.ref 7), some (.int se), some (.int v1), some (.int 1), some (.int 0)] [.int r18] _ _
      refine am_e6i hi_111_70 ?_
      refine am_e0 hi_111_71 ?_
      refine am_e3 (ls' := [some (.ref 7), some (.int se), some (.int v1), some (.int 0), some (.int 0)]) hi_111_72 (Nat.le_of_ble_eq_true rfl) rfl ?_
      refine am_e2 (v := 7) hi_111_73 rfl ?_
      refine cm_20f (r := 2) h35 hi_111_74 (h35.1.s (7, 6) (by decide)) (by decide) rfl ?_
      refine am_e32n (as := [.ref 2]) (la := [some (.ref 2)]) (rest := []) hi_111_77 (am_hd0 (M := 111) (by decide) 77) (Nat.le_of_ble_eq_true rfl) (Nat.le_of_ble_eq_true rfl) (show 1 ≤ am_P0.2.2.1 53 from by decide +kernel) rfl (cl_recv (h35.1.s (2, 2) (by decide))) rfl rfl (ck_kind (d := (d + 14)) h35   ) ?_
      rintro v51 S52 ⟨r53, rfl, rfl, h55⟩
      have h55_ : r53.toInt = kd aw S17 := h55
      show am_E _ _ _ _ [some (.ref 7), some (.int se), some (.int v1), some (.int 0), some (.int 0)] [.int r53] _ _
      refine am_e0 hi_111_80 ?_
      by_cases c57 : r53.toInt = (61 : Int)
      · refine am_e13t hi_111_82 (am_cT (m := r53.toInt) (n := (61 : Int)) rfl (by decide) c57) ?_
        refine am_e2 (v := 7) hi_111_104 rfl ?_
        refine cm_20f (r := 2) h35 hi_111_105 (h35.1.s (7, 6) (by decide)) (by decide) rfl ?_
        refine am_e0 hi_111_108 ?_
        refine am_e32t (as := [.ref 2, .int 61]) (la := [some (.ref 2), some (.int 61)]) (rest := []) hi_111_110 (am_hd0 (M := 111) (by decide) 110) (Nat.le_of_ble_eq_true rfl) (Nat.le_of_ble_eq_true rfl) (show 2 ≤ am_P0.2.2.1 64 from by decide +kernel) rfl (cl_recv (h35.1.s (2, 2) (by decide))) rfl rfl (ck_take (d := (d + 1)) h35   (by show 0 ≤ nx S17; omega) (by show nx S17 ≤ wr S17; omega) (by show wr S17 ≤ 600; omega) (by show 0 ≤ lv S17; omega) (by show lv S17 ≤ 48; omega) (by show ¬ (61 : Int) = 0; omega)) (fun S75 h76 => (show TH aw 2000 S S75 from ⟨h76.1, h36.trans h76.2.1, ⟨(by have q := h76.2.2.1.1; omega), h76.2.2.1.2.trans h40⟩, h76.2.2.2.1, h76.2.2.2.2.1, (by have q := h76.2.2.2.2.2; omega)⟩)) ?_
        rintro v58 S59 ⟨r60, rfl, h61, h62, h63, h64, h65, h66⟩
        have h62_ : kd aw S17 = (61 : Int) := h62
        have h63_ : nx S59 = nx S17 + 1 := h63
        have h64_ : lv S59 = lv S17 + c_dl (kd aw S17) := h64
        have h65_ : lv S59 ≤ 48 := h65
        have h66_ : nx S59 ≤ wr S59 := h66
        obtain ⟨h77, h78, ⟨h81, h82⟩, ⟨h83, h84, h85⟩, h86, h87⟩ := h61
        have h88 := h86 8 (h35.1.s (8, 3) (by decide))
        have h89 := h86 10 (h35.1.s (10, 3) (by decide))
        have h90 := os_5 h83 1
        have h91 := os_13 h83 1
        have h92 : c_dl (kd aw S17) = -1 := by unfold c_dl; split <;> split <;> omega
        show am_E _ _ _ _ [some (.ref 7), some (.int se), some (.int v1), some (.int 0), some (.int 0)] [.int r60] _ _
        refine am_e6i hi_111_113 ?_
        refine am_e1 (v := 0) hi_111_114 rfl ?_
        refine am_e0 hi_111_116 ?_
        refine am_e13t hi_111_117 (by decide) ?_
        refine am_e2 (v := 7) hi_111_124 rfl ?_
        refine am_e0 hi_111_125 ?_
        refine am_e1 (v := se) hi_111_127 rfl ?_
        refine am_e1 (v := 0) hi_111_128 rfl ?_
        obtain ⟨z93, hz93⟩ : ∃ q__, am_bin 0 se 0 = q__ := ⟨_, rfl⟩
        refine am_e10 (z := z93) hi_111_129 hz93 ?_
        refine am_e1 (v := 0) hi_111_130 rfl ?_
        obtain ⟨z94, hz94⟩ : ∃ q__, am_bin 1 z93 0 = q__ := ⟨_, rfl⟩
        refine am_e10 (z := z94) hi_111_132 hz94 ?_
        refine am_e1 (v := 0) hi_111_133 rfl ?_
        refine am_e0 hi_111_135 ?_
        refine am_e10 (z := 2) hi_111_136 (by decide) ?_
        refine am_e1 (v := v1) hi_111_137 rfl ?_
        refine am_e32n (as := [.ref 7, .int 13, .int z94, .int 2, .int v1]) (la := [some (.ref 7), some (.int 13), some (.int z94), some (.int 2), some (.int v1)]) (rest := []) hi_111_138 (am_hd0 (M := 111) (by decide) 138) (Nat.le_of_ble_eq_true rfl) (Nat.le_of_ble_eq_true rfl) (show 5 ≤ am_P0.2.2.1 78 from by decide +kernel) rfl (cl_recv (h77.1.s (7, 6) (by decide))) rfl rfl (ck_emit (d := (d + 12)) h77   ) ?_
        rintro v95 S96 ⟨r97, rfl, h98, h99, h100, h101⟩
        have h99_ : iv S96 8 1 = iv S59 8 1 := h99
        have h100_ : iv S96 10 1 = iv S59 10 1 := h100
        have h101_ : iv S96 14 1 = iv S59 14 1 := h101
        obtain ⟨h103, h104, ⟨h105, h106, h107, h108⟩, ⟨h109, h110, h111⟩, h113⟩ := h98
        have h114 : kd aw S96 = kd aw S59 := kd_eq h105 h108
        have h115 := os_5 h109 1
        have h116 := os_13 h109 1
        show am_E _ _ _ _ [some (.ref 7), some (.int se), some (.int v1), some (.int 0), some (.int 0)] [.int r97] _ _
        refine am_e6i hi_111_141 ?_
        refine am_e35 hi_111_142 ?_
        exact ⟨rfl, ⟨h103, ((h36.trans h78).trans h104), ⟨(by show wr S96 = wr S; omega), (h108.trans (h82.trans h40))⟩, ⟨(by show iv S96 13 1 = iv S 13 1; omega), (by show iv S96 5 1 - nx S96 ≤ iv S 5 1 - nx S; omega)⟩⟩, (by show nx S + 1 ≤ nx S96; omega), (by show nx S96 ≤ wr S96; omega), (by show lv S96 = lv S + 0; omega), (by show EN S96 + -10000 * nx S96 ≤ EN S + -10000 * nx S + (-8800); omega), (by show iv S 8 1 ≤ iv S96 8 1; omega), (by show iv S 10 1 ≤ iv S96 10 1; omega)⟩
      · refine am_e13f hi_111_82 (am_cF (m := r53.toInt) (n := (61 : Int)) rfl (by decide) c57) ?_
        refine am_e2 (v := 7) hi_111_85 rfl ?_
        refine am_e32q (d1 := d - 30 + 26 + 19) (by omega) (as := [.ref 7]) (la := [some (.ref 7), none, none, none]) (rest := []) hi_111_86 (am_hd0 (M := 111) (by decide) 86) (Nat.le_of_ble_eq_true rfl) (Nat.le_of_ble_eq_true rfl) (show 1 ≤ am_P0.2.2.1 112 from by decide +kernel) rfl (cl_recv (h35.1.s (7, 6) (by decide))) rfl rfl (rc_112 ihR (d - 30 + 26) _  h35  (by show 48 - lv S17 < (NN : Int); omega) (by show (30 : Int) * (48 - lv S17) ≤ ((d - 30 + 26 : Nat) : Int); omega) (by show 0 ≤ nx S17; omega) (by show nx S17 ≤ wr S17; omega) (by show wr S17 ≤ 600; omega) (by show 0 ≤ lv S17; omega) (by show lv S17 ≤ 48; omega) (by show 1 ≤ iv S17 13 1; omega) (by show iv S17 13 1 ≤ lv S17 + 1; omega) (by show iv S17 5 1 ≤ nx S17 + 1; omega)) (fun S129 h130 => (show TH aw 2000 S S129 from ⟨h130.1, h36.trans h130.2.1, ⟨(by have q := h130.2.2.1.1; omega), h130.2.2.1.2.trans h40⟩, h130.2.2.2.1, h130.2.2.2.2.1, (by have q := h130.2.2.2.2.2; omega)⟩)) ?_
        rintro v117 S118 ⟨r119, rfl, h120, h121, h122, h123, h124, h125, h126, h127⟩
        have h121_ : nx S17 + 1 ≤ nx S118 := h121
        have h122_ : nx S118 ≤ wr S118 := h122
        have h123_ : lv S118 = lv S17 + 0 := h123
        have h124_ : EN S118 + -10000 * nx S118 ≤ EN S17 + -10000 * nx S17 + (-2000) := h124
        have h125_ : iv S17 8 1 ≤ iv S118 8 1 := h125
        have h126_ : iv S17 10 1 ≤ iv S118 10 1 := h126
        have h127_ : 0 ≤ r119.toInt := h127
        obtain ⟨h131, h132, ⟨h135, h136⟩, ⟨h137, h138⟩⟩ := h120
        show am_E _ _ _ _ [some (.ref 7), some (.int se), some (.int v1), some (.int 0), some (.int 0)] [.int r119] _ _
        refine am_e3 (ls' := [some (.ref 7), some (.int se), some (.int v1), some (.int r119), some (.int 0)]) hi_111_89 (Nat.le_of_ble_eq_true rfl) rfl ?_
        refine am_e2 (v := 7) hi_111_90 rfl ?_
        refine cm_20z h131 hi_111_91 (h131.1.s (7, 6) (by decide)) (by decide) rfl fun v142 hv142 => ?_
        have hv142_ : v142.toInt = 0 ∨ v142.toInt = 1 := hv142.elim (fun e => Or.inl (by rw [e]; rfl)) (fun e => Or.inr (by rw [e]; rfl))
        by_cases c143 : v142.toInt = (0 : Int)
        · refine am_e12t hi_111_94 (am_cT (m := v142.toInt) (n := (0 : Int)) rfl (by decide) c143) ?_
          refine am_e0 hi_111_101 ?_
          refine am_e3 (ls' := [some (.ref 7), some (.int se), some (.int v1), some (.int r119), some (.int 0)]) hi_111_102 (Nat.le_of_ble_eq_true rfl) rfl ?_
          refine am_e2 (v := 7) hi_111_104 rfl ?_
          refine cm_20f (r := 2) h131 hi_111_105 (h131.1.s (7, 6) (by decide)) (by decide) rfl ?_
          refine am_e0 hi_111_108 ?_
          refine am_e32t (as := [.ref 2, .int 61]) (la := [some (.ref 2), some (.int 61)]) (rest := []) hi_111_110 (am_hd0 (M := 111) (by decide) 110) (Nat.le_of_ble_eq_true rfl) (Nat.le_of_ble_eq_true rfl) (show 2 ≤ am_P0.2.2.1 64 from by decide +kernel) rfl (cl_recv (h131.1.s (2, 2) (by decide))) rfl rfl (ck_take (d := (d + 1)) h131   (by show 0 ≤ nx S118; omega) (by show nx S118 ≤ wr S118; omega) (by show wr S118 ≤ 600; omega) (by show 0 ≤ lv S118; omega) (by show lv S118 ≤ 48; omega) (by show ¬ (61 : Int) = 0; omega)) (fun S161 h162 => (show TH aw 2000 S S161 from ⟨h162.1, (h36.trans h132).trans h162.2.1, ⟨(by have q := h162.2.2.1.1; omega), h162.2.2.1.2.trans (h136.trans h40)⟩, h162.2.2.2.1, h162.2.2.2.2.1, (by have q := h162.2.2.2.2.2; omega)⟩)) ?_
          rintro v144 S145 ⟨r146, rfl, h147, h148, h149, h150, h151, h152⟩
          have h148_ : kd aw S118 = (61 : Int) := h148
          have h149_ : nx S145 = nx S118 + 1 := h149
          have h150_ : lv S145 = lv S118 + c_dl (kd aw S118) := h150
          have h151_ : lv S145 ≤ 48 := h151
          have h152_ : nx S145 ≤ wr S145 := h152
          obtain ⟨h163, h164, ⟨h167, h168⟩, ⟨h169, h170, h171⟩, h172, h173⟩ := h147
          have h174 := h172 8 (h131.1.s (8, 3) (by decide))
          have h175 := h172 10 (h131.1.s (10, 3) (by decide))
          have h176 := os_5 h169 1
          have h177 := os_13 h169 1
          have h178 : c_dl (kd aw S118) = -1 := by unfold c_dl; split <;> split <;> omega
          show am_E _ _ _ _ [some (.ref 7), some (.int se), some (.int v1), some (.int r119), some (.int 0)] [.int r146] _ _
          refine am_e6i hi_111_113 ?_
          refine am_e1 (v := 0) hi_111_114 rfl ?_
          refine am_e0 hi_111_116 ?_
          refine am_e13t hi_111_117 (by decide) ?_
          refine am_e2 (v := 7) hi_111_124 rfl ?_
          refine am_e0 hi_111_125 ?_
          refine am_e1 (v := se) hi_111_127 rfl ?_
          refine am_e1 (v := r119) hi_111_128 rfl ?_
          obtain ⟨z179, hz179⟩ : ∃ q__, am_bin 0 se r119 = q__ := ⟨_, rfl⟩
          refine am_e10 (z := z179) hi_111_129 hz179 ?_
          refine am_e1 (v := 0) hi_111_130 rfl ?_
          obtain ⟨z180, hz180⟩ : ∃ q__, am_bin 1 z179 0 = q__ := ⟨_, rfl⟩
          refine am_e10 (z := z180) hi_111_132 hz180 ?_
          refine am_e1 (v := 0) hi_111_133 rfl ?_
          refine am_e0 hi_111_135 ?_
          refine am_e10 (z := 2) hi_111_136 (by decide) ?_
          refine am_e1 (v := v1) hi_111_137 rfl ?_
          refine am_e32n (as := [.ref 7, .int 13, .int z180, .int 2, .int v1]) (la := [some (.ref 7), some (.int 13), some (.int z180), some (.int 2), some (.int v1)]) (rest := []) hi_111_138 (am_hd0 (M := 111) (by decide) 138) (Nat.le_of_ble_eq_true rfl) (Nat.le_of_ble_eq_true rfl) (show 5 ≤ am_P0.2.2.1 78 from by decide +kernel) rfl (cl_recv (h163.1.s (7, 6) (by decide))) rfl rfl (ck_emit (d := (d + 12)) h163   ) ?_
          rintro v181 S182 ⟨r183, rfl, h184, h185, h186, h187⟩
          have h185_ : iv S182 8 1 = iv S145 8 1 := h185
          have h186_ : iv S182 10 1 = iv S145 10 1 := h186
          have h187_ : iv S182 14 1 = iv S145 14 1 := h187
          obtain ⟨h189, h190, ⟨h191, h192, h193, h194⟩, ⟨h195, h196, h197⟩, h199⟩ := h184
          have h200 : kd aw S182 = kd aw S145 := kd_eq h191 h194
          have h201 := os_5 h195 1
          have h202 := os_13 h195 1
          show am_E _ _ _ _ [some (.ref 7), some (.int se), some (.int v1), some (.int r119), some (.int 0)] [.int r183] _ _
          refine am_e6i hi_111_141 ?_
          refine am_e35 hi_111_142 ?_
          exact ⟨rfl, ⟨h189, (((h36.trans h132).trans h164).trans h190), ⟨(by show wr S182 = wr S; omega), (h194.trans (h168.trans (h136.trans h40)))⟩, ⟨(by show iv S182 13 1 = iv S 13 1; omega), (by show iv S182 5 1 - nx S182 ≤ iv S 5 1 - nx S; omega)⟩⟩, (by show nx S + 1 ≤ nx S182; omega), (by show nx S182 ≤ wr S182; omega), (by show lv S182 = lv S + 0; omega), (by show EN S182 + -10000 * nx S182 ≤ EN S + -10000 * nx S + (-8800); omega), (by show iv S 8 1 ≤ iv S182 8 1; omega), (by show iv S 10 1 ≤ iv S182 10 1; omega)⟩
        · refine am_e12f hi_111_94 (am_cF (m := v142.toInt) (n := (0 : Int)) rfl (by decide) c143) ?_
          refine am_e0 hi_111_97 ?_
          refine am_e18 hi_111_98 ?_
          refine am_e3 (ls' := [some (.ref 7), some (.int se), some (.int v1), some (.int r119), some (.int 1)]) hi_111_102 (Nat.le_of_ble_eq_true rfl) rfl ?_
          refine am_e2 (v := 7) hi_111_104 rfl ?_
          refine cm_20f (r := 2) h131 hi_111_105 (h131.1.s (7, 6) (by decide)) (by decide) rfl ?_
          refine am_e0 hi_111_108 ?_
          refine am_e32t (as := [.ref 2, .int 61]) (la := [some (.ref 2), some (.int 61)]) (rest := []) hi_111_110 (am_hd0 (M := 111) (by decide) 110) (Nat.le_of_ble_eq_true rfl) (Nat.le_of_ble_eq_true rfl) (show 2 ≤ am_P0.2.2.1 64 from by decide +kernel) rfl (cl_recv (h131.1.s (2, 2) (by decide))) rfl rfl (ck_take (d := (d + 1)) h131   (by show 0 ≤ nx S118; omega) (by show nx S118 ≤ wr S118; omega) (by show wr S118 ≤ 600; omega) (by show 0 ≤ lv S118; omega) (by show lv S118 ≤ 48; omega) (by show ¬ (61 : Int) = 0; omega)) (fun S220 h221 => (show TH aw 2000 S S220 from ⟨h221.1, (h36.trans h132).trans h221.2.1, ⟨(by have q := h221.2.2.1.1; omega), h221.2.2.1.2.trans (h136.trans h40)⟩, h221.2.2.2.1, h221.2.2.2.2.1, (by have q := h221.2.2.2.2.2; omega)⟩)) ?_
          rintro v203 S204 ⟨r205, rfl, h206, h207, h208, h209, h210, h211⟩
          have h207_ : kd aw S118 = (61 : Int) := h207
          have h208_ : nx S204 = nx S118 + 1 := h208
          have h209_ : lv S204 = lv S118 + c_dl (kd aw S118) := h209
          have h210_ : lv S204 ≤ 48 := h210
          have h211_ : nx S204 ≤ wr S204 := h211
          obtain ⟨h222, h223, ⟨h226, h227⟩, ⟨h228, h229, h230⟩, h231, h232⟩ := h206
          have h233 := h231 8 (h131.1.s (8, 3) (by decide))
          have h234 := h231 10 (h131.1.s (10, 3) (by decide))
          have h235 := os_5 h228 1
          have h236 := os_13 h228 1
          have h237 : c_dl (kd aw S118) = -1 := by unfold c_dl; split <;> split <;> omega
          show am_E _ _ _ _ [some (.ref 7), some (.int se), some (.int v1), some (.int r119), some (.int 1)] [.int r205] _ _
          refine am_e6i hi_111_113 ?_
          refine am_e1 (v := 1) hi_111_114 rfl ?_
          refine am_e0 hi_111_116 ?_
          refine am_e13f hi_111_117 (by decide) ?_
          refine am_e2 (v := 7) hi_111_120 rfl ?_
          refine am_e32n (as := [.ref 7]) (la := [some (.ref 7)]) (rest := []) hi_111_121 (am_hd0 (M := 111) (by decide) 121) (Nat.le_of_ble_eq_true rfl) (Nat.le_of_ble_eq_true rfl) (show 1 ≤ am_P0.2.2.1 96 from by decide +kernel) rfl (cl_recv (h222.1.s (7, 6) (by decide))) rfl rfl (ck_widen (d := (d + 12)) h222   ) ?_
          rintro v238 S239 ⟨rfl, h241⟩
          obtain ⟨h243, h244, ⟨h245, h246, h247, h248⟩, ⟨h249, h250, h251⟩, h252, h253⟩ := h241
          have h254 : kd aw S239 = kd aw S204 := kd_eq h245 h248
          have h255 := h252 8 (h222.1.s (8, 3) (by decide))
          have h256 := h252 10 (h222.1.s (10, 3) (by decide))
          have h257 := os_5 h249 1
          have h258 := os_13 h249 1
          show am_E _ _ _ _ [some (.ref 7), some (.int se), some (.int v1), some (.int r119), some (.int 1)] [] _ _
          refine am_e2 (v := 7) hi_111_124 rfl ?_
          refine am_e0 hi_111_125 ?_
          refine am_e1 (v := se) hi_111_127 rfl ?_
          refine am_e1 (v := r119) hi_111_128 rfl ?_
          obtain ⟨z259, hz259⟩ : ∃ q__, am_bin 0 se r119 = q__ := ⟨_, rfl⟩
          refine am_e10 (z := z259) hi_111_129 hz259 ?_
          refine am_e1 (v := 1) hi_111_130 rfl ?_
          obtain ⟨z260, hz260⟩ : ∃ q__, am_bin 1 z259 1 = q__ := ⟨_, rfl⟩
          refine am_e10 (z := z260) hi_111_132 hz260 ?_
          refine am_e1 (v := 1) hi_111_133 rfl ?_
          refine am_e0 hi_111_135 ?_
          refine am_e10 (z := 3) hi_111_136 (by decide) ?_
          refine am_e1 (v := v1) hi_111_137 rfl ?_
          refine am_e32n (as := [.ref 7, .int 13, .int z260, .int 3, .int v1]) (la := [some (.ref 7), some (.int 13), some (.int z260), some (.int 3), some (.int v1)]) (rest := []) hi_111_138 (am_hd0 (M := 111) (by decide) 138) (Nat.le_of_ble_eq_true rfl) (Nat.le_of_ble_eq_true rfl) (show 5 ≤ am_P0.2.2.1 78 from by decide +kernel) rfl (cl_recv (h243.1.s (7, 6) (by decide))) rfl rfl (ck_emit (d := (d + 12)) h243   ) ?_
          rintro v261 S262 ⟨r263, rfl, h264, h265, h266, h267⟩
          have h265_ : iv S262 8 1 = iv S239 8 1 := h265
          have h266_ : iv S262 10 1 = iv S239 10 1 := h266
          have h267_ : iv S262 14 1 = iv S239 14 1 := h267
          obtain ⟨h269, h270, ⟨h271, h272, h273, h274⟩, ⟨h275, h276, h277⟩, h279⟩ := h264
          have h280 : kd aw S262 = kd aw S239 := kd_eq h271 h274
          have h281 := os_5 h275 1
          have h282 := os_13 h275 1
          show am_E _ _ _ _ [some (.ref 7), some (.int se), some (.int v1), some (.int r119), some (.int 1)] [.int r263] _ _
          refine am_e6i hi_111_141 ?_
          refine am_e35 hi_111_142 ?_
          exact ⟨rfl, ⟨h269, ((((h36.trans h132).trans h223).trans h244).trans h270), ⟨(by show wr S262 = wr S; omega), (h274.trans (h248.trans (h227.trans (h136.trans h40))))⟩, ⟨(by show iv S262 13 1 = iv S 13 1; omega), (by show iv S262 5 1 - nx S262 ≤ iv S 5 1 - nx S; omega)⟩⟩, (by show nx S + 1 ≤ nx S262; omega), (by show nx S262 ≤ wr S262; omega), (by show lv S262 = lv S + 0; omega), (by show EN S262 + -10000 * nx S262 ≤ EN S + -10000 * nx S + (-8800); omega), (by show iv S 8 1 ≤ iv S262 8 1; omega), (by show iv S 10 1 ≤ iv S262 10 1; omega)⟩
    · refine am_e13f hi_111_51 (am_cF (m := r11.toInt) (n := (62 : Int)) rfl (by decide) c15) ?_
      refine am_e2 (v := 7) hi_111_54 rfl ?_
      refine am_e32q (d1 := d + 0 + 15) (by omega) (as := [.ref 7]) (la := [some (.ref 7), none, none, none]) (rest := []) hi_111_55 (am_hd0 (M := 111) (by decide) 55) (Nat.le_of_ble_eq_true rfl) (Nat.le_of_ble_eq_true rfl) (show 1 ≤ am_P0.2.2.1 91 from by decide +kernel) rfl (cl_recv (h.1.s (7, 6) (by decide))) rfl rfl (cr_table (d := d + 0) h  ihR (by show 48 - lv S < (NN : Int) + 1; omega) (by show (30 : Int) * (48 - lv S) ≤ ((d + 0 : Nat) : Int); omega) (by show 0 ≤ nx S; omega) (by show nx S ≤ wr S; omega) (by show wr S ≤ 600; omega) (by show 0 ≤ lv S; omega) (by show lv S ≤ 48; omega) (by show 1 ≤ iv S 13 1; omega) (by show iv S 13 1 ≤ lv S + 1; omega) (by show iv S 5 1 ≤ nx S + 1; omega)) (fun S294 h295 => (show TH aw 2000 S S294 from ⟨h295.1, (Ex.refl S).trans h295.2.1, ⟨(by have q := h295.2.2.1.1; omega), h295.2.2.1.2.trans rfl⟩, h295.2.2.2.1, h295.2.2.2.2.1, (by have q := h295.2.2.2.2.2; omega)⟩)) ?_
      rintro v283 S284 ⟨rfl, h286, h287, h288, h289, h290, h291, h292⟩
      have h287_ : nx S + 1 ≤ nx S284 := h287
      have h288_ : nx S284 ≤ wr S284 := h288
      have h289_ : lv S284 = lv S + 0 := h289
      have h290_ : EN S284 + -10000 * nx S284 ≤ EN S + -10000 * nx S + (-9000) := h290
      have h291_ : iv S 8 1 ≤ iv S284 8 1 := h291
      have h292_ : iv S 10 1 ≤ iv S284 10 1 := h292
      obtain ⟨h296, h297, ⟨h300, h301⟩, ⟨h302, h303⟩⟩ := h286
      show am_E _ _ _ _ [some (.ref 7), some (.int se), some (.int v1), some (.int 1), some (.int 0)] [] _ _
      refine am_e18 hi_111_58 ?_
      refine am_e1 (v := 0) hi_111_114 rfl ?_
      refine am_e0 hi_111_116 ?_
      refine am_e13t hi_111_117 (by decide) ?_
      refine am_e2 (v := 7) hi_111_124 rfl ?_
      refine am_e0 hi_111_125 ?_
      refine am_e1 (v := se) hi_111_127 rfl ?_
      refine am_e1 (v := 1) hi_111_128 rfl ?_
      obtain ⟨z307, hz307⟩ : ∃ q__, am_bin 0 se 1 = q__ := ⟨_, rfl⟩
      refine am_e10 (z := z307) hi_111_129 hz307 ?_
      refine am_e1 (v := 0) hi_111_130 rfl ?_
      obtain ⟨z308, hz308⟩ : ∃ q__, am_bin 1 z307 0 = q__ := ⟨_, rfl⟩
      refine am_e10 (z := z308) hi_111_132 hz308 ?_
      refine am_e1 (v := 0) hi_111_133 rfl ?_
      refine am_e0 hi_111_135 ?_
      refine am_e10 (z := 2) hi_111_136 (by decide) ?_
      refine am_e1 (v := v1) hi_111_137 rfl ?_
      refine am_e32n (as := [.ref 7, .int 13, .int z308, .int 2, .int v1]) (la := [some (.ref 7), some (.int 13), some (.int z308), some (.int 2), some (.int v1)]) (rest := []) hi_111_138 (am_hd0 (M := 111) (by decide) 138) (Nat.le_of_ble_eq_true rfl) (Nat.le_of_ble_eq_true rfl) (show 5 ≤ am_P0.2.2.1 78 from by decide +kernel) rfl (cl_recv (h296.1.s (7, 6) (by decide))) rfl rfl (ck_emit (d := (d + 12)) h296   ) ?_
      rintro v309 S310 ⟨r311, rfl, h312, h313, h314, h315⟩
      have h313_ : iv S310 8 1 = iv S284 8 1 := h313
      have h314_ : iv S310 10 1 = iv S284 10 1 := h314
      have h315_ : iv S310 14 1 = iv S284 14 1 := h315
      obtain ⟨h317, h318, ⟨h319, h320, h321, h322⟩, ⟨h323, h324, h325⟩, h327⟩ := h312
      have h328 : kd aw S310 = kd aw S284 := kd_eq h319 h322
      have h329 := os_5 h323 1
      have h330 := os_13 h323 1
      show am_E _ _ _ _ [some (.ref 7), some (.int se), some (.int v1), some (.int 1), some (.int 0)] [.int r311] _ _
      refine am_e6i hi_111_141 ?_
      refine am_e35 hi_111_142 ?_
      exact ⟨rfl, ⟨h317, (h297.trans h318), ⟨(by show wr S310 = wr S; omega), (h322.trans h301)⟩, ⟨(by show iv S310 13 1 = iv S 13 1; omega), (by show iv S310 5 1 - nx S310 ≤ iv S 5 1 - nx S; omega)⟩⟩, (by show nx S + 1 ≤ nx S310; omega), (by show nx S310 ≤ wr S310; omega), (by show lv S310 = lv S + 0; omega), (by show EN S310 + -10000 * nx S310 ≤ EN S + -10000 * nx S + (-8800); omega), (by show iv S 8 1 ≤ iv S310 8 1; omega), (by show iv S 10 1 ≤ iv S310 10 1; omega)⟩
  · refine am_e13f hi_111_21 (am_cF (m := r4.toInt) (n := (3 : Int)) rfl (by decide) c8) ?_
    refine am_e2 (v := 7) hi_111_24 rfl ?_
    refine am_e0 hi_111_25 ?_
    refine am_e2 (v := 7) hi_111_26 rfl ?_
    refine cm_20f (r := 2) h hi_111_27 (h.1.s (7, 6) (by decide)) (by decide) rfl ?_
    refine am_e32t (as := [.ref 2]) (la := [some (.ref 2), none]) (rest := [.int 5, .ref 7]) hi_111_30 (am_hd0 (M := 111) (by decide) 30) (Nat.le_of_ble_eq_true rfl) (Nat.le_of_ble_eq_true rfl) (show 1 ≤ am_P0.2.2.1 55 from by decide +kernel) rfl (cl_recv (h.1.s (2, 2) (by decide))) rfl rfl (ck_skip (d := (d + 2)) h   (by show 0 ≤ nx S; omega) (by show nx S ≤ wr S; omega) (by show wr S ≤ 600; omega) (by show 0 ≤ lv S; omega) (by show lv S ≤ 48; omega) (by show kd aw S ≠ 0; omega)) (fun S347 h348 => (show TH aw 2000 S S347 from ⟨h348.1, (Ex.refl S).trans h348.2.1, ⟨(by have q := h348.2.2.1.1; omega), h348.2.2.1.2.trans rfl⟩, h348.2.2.2.1, h348.2.2.2.2.1, (by have q := h348.2.2.2.2.2; omega)⟩)) ?_
    rintro v331 S332 ⟨r333, rfl, h334, h335, h336, h337, h338⟩
    have h335_ : nx S332 = nx S + 1 := h335
    have h336_ : lv S332 = lv S + c_dl (kd aw S) := h336
    have h337_ : lv S332 ≤ 48 := h337
    have h338_ : nx S332 ≤ wr S332 := h338
    obtain ⟨h349, h350, ⟨h353, h354⟩, ⟨h355, h356, h357⟩, h358, h359⟩ := h334
    have h360 := h358 8 (h.1.s (8, 3) (by decide))
    have h361 := h358 10 (h.1.s (10, 3) (by decide))
    have h362 := os_5 h355 1
    have h363 := os_13 h355 1
    have h364 : c_dl (kd aw S) = 0 := by unfold c_dl; split <;> split <;> omega
    show am_E _ _ _ _ [some (.ref 7), some (.int se), some (.int v1), some (.int 1), some (.int 0)] [.int r333, .int 5, .ref 7] _ _
    refine am_e0 hi_111_33 ?_
    refine am_e0 hi_111_34 ?_
    refine am_e32n (as := [.ref 7, .int 5, .int r333, .int 0, .int 0]) (la := [some (.ref 7), some (.int 5), some (.int r333), some (.int 0), some (.int 0)]) (rest := []) hi_111_35 (am_hd0 (M := 111) (by decide) 35) (Nat.le_of_ble_eq_true rfl) (Nat.le_of_ble_eq_true rfl) (show 5 ≤ am_P0.2.2.1 78 from by decide +kernel) rfl (cl_recv (h349.1.s (7, 6) (by decide))) rfl rfl (ck_emit (d := (d + 12)) h349   ) ?_
    rintro v365 S366 ⟨r367, rfl, h368, h369, h370, h371⟩
    have h369_ : iv S366 8 1 = iv S332 8 1 := h369
    have h370_ : iv S366 10 1 = iv S332 10 1 := h370
    have h371_ : iv S366 14 1 = iv S332 14 1 := h371
    obtain ⟨h373, h374, ⟨h375, h376, h377, h378⟩, ⟨h379, h380, h381⟩, h383⟩ := h368
    have h384 : kd aw S366 = kd aw S332 := kd_eq h375 h378
    have h385 := os_5 h379 1
    have h386 := os_13 h379 1
    show am_E _ _ _ _ [some (.ref 7), some (.int se), some (.int v1), some (.int 1), some (.int 0)] [.int r367] _ _
    refine am_e6i hi_111_38 ?_
    refine am_e18 hi_111_39 ?_
    refine am_e1 (v := 0) hi_111_114 rfl ?_
    refine am_e0 hi_111_116 ?_
    refine am_e13t hi_111_117 (by decide) ?_
    refine am_e2 (v := 7) hi_111_124 rfl ?_
    refine am_e0 hi_111_125 ?_
    refine am_e1 (v := se) hi_111_127 rfl ?_
    refine am_e1 (v := 1) hi_111_128 rfl ?_
    obtain ⟨z387, hz387⟩ : ∃ q__, am_bin 0 se 1 = q__ := ⟨_, rfl⟩
    refine am_e10 (z := z387) hi_111_129 hz387 ?_
    refine am_e1 (v := 0) hi_111_130 rfl ?_
    obtain ⟨z388, hz388⟩ : ∃ q__, am_bin 1 z387 0 = q__ := ⟨_, rfl⟩
    refine am_e10 (z := z388) hi_111_132 hz388 ?_
    refine am_e1 (v := 0) hi_111_133 rfl ?_
    refine am_e0 hi_111_135 ?_
    refine am_e10 (z := 2) hi_111_136 (by decide) ?_
    refine am_e1 (v := v1) hi_111_137 rfl ?_
    refine am_e32n (as := [.ref 7, .int 13, .int z388, .int 2, .int v1]) (la := [some (.ref 7), some (.int 13), some (.int z388), some (.int 2), some (.int v1)]) (rest := []) hi_111_138 (am_hd0 (M := 111) (by decide) 138) (Nat.le_of_ble_eq_true rfl) (Nat.le_of_ble_eq_true rfl) (show 5 ≤ am_P0.2.2.1 78 from by decide +kernel) rfl (cl_recv (h373.1.s (7, 6) (by decide))) rfl rfl (ck_emit (d := (d + 12)) h373   ) ?_
    rintro v389 S390 ⟨r391, rfl, h392, h393, h394, h395⟩
    have h393_ : iv S390 8 1 = iv S366 8 1 := h393
    have h394_ : iv S390 10 1 = iv S366 10 1 := h394
    have h395_ : iv S390 14 1 = iv S366 14 1 := h395
    obtain ⟨h397, h398, ⟨h399, h400, h401, h402⟩, ⟨h403, h404, h405⟩, h407⟩ := h392
    have h408 : kd aw S390 = kd aw S366 := kd_eq h399 h402
    have h409 := os_5 h403 1
    have h410 := os_13 h403 1
    show am_E _ _ _ _ [some (.ref 7), some (.int se), some (.int v1), some (.int 1), some (.int 0)] [.int r391] _ _
    refine am_e6i hi_111_141 ?_
    refine am_e35 hi_111_142 ?_
    exact ⟨rfl, ⟨h397, ((h350.trans h374).trans h398), ⟨(by show wr S390 = wr S; omega), (h402.trans (h378.trans h354))⟩, ⟨(by show iv S390 13 1 = iv S 13 1; omega), (by show iv S390 5 1 - nx S390 ≤ iv S 5 1 - nx S; omega)⟩⟩, (by show nx S + 1 ≤ nx S390; omega), (by show nx S390 ≤ wr S390; omega), (by show lv S390 = lv S + 0; omega), (by show EN S390 + -10000 * nx S390 ≤ EN S + -10000 * nx S + (-8800); omega), (by show iv S 8 1 ≤ iv S390 8 1; omega), (by show iv S 10 1 ≤ iv S390 10 1; omega)⟩
theorem cg_prefix {sc : Nat × (Nat → Int32)} {d aw NN : Nat} {Sb : am_S} {Q : Option (Option Value) → am_S → Prop} (h : SH aw Sb) (ihR : RC sc aw NN) (hN : 48 - lv Sb < (NN : Int) + 1) (hd : (30 : Int) * (48 - lv Sb) ≤ (d : Int)) (p0 : 0 ≤ nx Sb) (p1 : nx Sb ≤ wr Sb) (p2 : wr Sb ≤ 600) (p3 : 0 ≤ lv Sb) (p4 : lv Sb ≤ 48) (p5 : 1 ≤ iv Sb 13 1) (p6 : iv Sb 13 1 ≤ lv Sb + 1) (p7 : iv Sb 5 1 ≤ nx Sb + 1) (hq : ∀ S1, TH aw 2160 Sb S1 → Q none S1) (hx0 : ∀ (S : am_S) (x3 : Option Value) (f n : Int32), Ad aw Sb S → (nx Sb + 0 ≤ nx S) → (nx S ≤ wr S) → (lv S = lv Sb + 0) → (EN S + -10000 * nx S ≤ EN Sb + -10000 * nx Sb + 0) → (iv Sb 8 1 ≤ iv S 8 1) → (iv Sb 10 1 ≤ iv S 10 1) → am_E (am_PP sc) (d + 17) 60 193 [some (.ref 7), some (.int f), some (.int n), x3] [] S Q) (hx1 : ∀ (S : am_S) (x3 : Option Value) (f n : Int32), Ad aw Sb S → (nx Sb + 0 ≤ nx S) → (nx S ≤ wr S) → (lv S = lv Sb + 0) → (EN S + -10000 * nx S ≤ EN Sb + -10000 * nx Sb + 0) → (iv Sb 8 1 ≤ iv S 8 1) → (iv Sb 10 1 ≤ iv S 10 1) → am_E (am_PP sc) (d + 17) 60 201 [some (.ref 7), some (.int f), some (.int n), x3] [] S Q) : ∀ (N : Nat) (S : am_S) (x3 : Option Value) (f n : Int32), Ad aw Sb S → (nx Sb + 0 ≤ nx S) → (nx S ≤ wr S) → (lv S = lv Sb + 0) → (EN S + -10000 * nx S ≤ EN Sb + -10000 * nx Sb + 0) → (iv Sb 8 1 ≤ iv S 8 1) → (iv Sb 10 1 ≤ iv S 10 1) → 2147483647 - n.toInt < (N : Int) → am_E (am_PP sc) (d + 17) 60 7 [some (.ref 7), some (.int f), some (.int n), x3] [] S Q := by
  intro N
  induction N with
  | zero =>
    intro S x3 f n hrel  i0 i1 i2 i3 i4 i5 hN
    have := i32_le f
    have := i32_le n
    have := i32_ge f
    have := i32_ge n
    exfalso
    omega
  | succ N ih =>
    intro S x3 f n hrel  i0 i1 i2 i3 i4 i5 hN
    have hl_f := i32_le f
    have hg_f := i32_ge f
    have hl_n := i32_le n
    have hg_n := i32_ge n
    obtain ⟨h1, h2, ⟨h5, h6⟩, ⟨h7, h8⟩⟩ := hrel
    refine am_e1 (v := n) hi_60_7 rfl ?_
    refine am_e0 hi_60_8 ?_
    by_cases c12 : (16384 : Int) < n.toInt
    · refine am_e13t hi_60_11 (am_cT (m := n.toInt) (n := (16384 : Int)) rfl (by decide) c12) ?_
      exact hx1 _ x3 f n ⟨h1, h2, ⟨(by show wr S = wr Sb; omega), h6⟩, ⟨(by show iv S 13 1 = iv Sb 13 1; omega), (by show iv S 5 1 - nx S ≤ iv Sb 5 1 - nx Sb; omega)⟩⟩ (by show nx Sb + 0 ≤ nx S; omega) (by show nx S ≤ wr S; omega) (by show lv S = lv Sb + 0; omega) (by show EN S + -10000 * nx S ≤ EN Sb + -10000 * nx Sb + 0; omega) (by show iv Sb 8 1 ≤ iv S 8 1; omega) (by show iv Sb 10 1 ≤ iv S 10 1; omega)
    · refine am_e13f hi_60_11 (am_cF (m := n.toInt) (n := (16384 : Int)) rfl (by decide) c12) ?_
      refine am_e2 (v := 7) hi_60_14 rfl ?_
      refine cm_20f (r := 2) h1 hi_60_15 (h1.1.s (7, 6) (by decide)) (by decide) rfl ?_
      refine am_e32x (as := [.ref 2]) (la := [some (.ref 2)]) (rest := []) hi_60_18 (am_hd0 (M := 60) (by decide) 18) (Nat.le_of_ble_eq_true rfl) (Nat.le_of_ble_eq_true rfl) (show 1 ≤ am_P0.2.2.1 63 from by decide +kernel) rfl (cl_recv (h1.1.s (2, 2) (by decide))) rfl rfl ?_
      refine am_e2 (v := 2) hi_63_0 rfl ?_
      refine cm_20i h1 hi_63_1 (h1.1.s (2, 2) (by decide)) (by decide) rfl fun v13 hv13 => ?_
      have hv13_ : v13.toInt = nx S := hv13
      refine am_e33 hi_63_4 ?_
      show am_E _ _ _ _ [some (.ref 7), some (.int f), some (.int n), x3] [.int v13] _ _
      refine am_e3 (ls' := [some (.ref 7), some (.int f), some (.int n), some (.int v13)]) hi_60_21 (Nat.le_of_ble_eq_true rfl) rfl ?_
      refine am_e2 (v := 7) hi_60_22 rfl ?_
      refine cm_20f (r := 2) h1 hi_60_23 (h1.1.s (7, 6) (by decide)) (by decide) rfl ?_
      refine am_e32n (as := [.ref 2]) (la := [some (.ref 2)]) (rest := []) hi_60_26 (am_hd0 (M := 60) (by decide) 26) (Nat.le_of_ble_eq_true rfl) (Nat.le_of_ble_eq_true rfl) (show 1 ≤ am_P0.2.2.1 53 from by decide +kernel) rfl (cl_recv (h1.1.s (2, 2) (by decide))) rfl rfl (ck_kind (d := (d + 15)) h1   ) ?_
      rintro v14 S15 ⟨r16, rfl, rfl, h18⟩
      have h18_ : r16.toInt = kd aw S := h18
      show am_E _ _ _ _ [some (.ref 7), some (.int f), some (.int n), some (.int v13)] [.int r16] _ _
      by_cases c20 : r16.toInt = 3
      · refine am_e19 (t := 178) hi_60_29 (am_swI (v := r16) (w := 3) (by decide) (by decide) c20) ?_
        refine am_e2 (v := 7) hi_60_178 rfl ?_
        refine am_e1 (v := f) hi_60_179 rfl ?_
        refine am_e32n (as := [.ref 7, .int f]) (la := [some (.ref 7), some (.int f)]) (rest := []) hi_60_180 (am_hd0 (M := 60) (by decide) 180) (Nat.le_of_ble_eq_true rfl) (Nat.le_of_ble_eq_true rfl) (show 2 ≤ am_P0.2.2.1 100 from by decide +kernel) rfl (cl_recv (h1.1.s (7, 6) (by decide))) rfl rfl (ck_settle (d := (d + 12)) h1   ) ?_
        rintro v21 S22 ⟨rfl, h24, h25, h26, h27⟩
        have h25_ : iv S22 8 1 = iv S 8 1 := h25
        have h26_ : iv S22 10 1 = iv S 10 1 := h26
        have h27_ : iv S22 14 1 = iv S 14 1 := h27
        obtain ⟨h29, h30, ⟨h31, h32, h33, h34⟩, ⟨h35, h36, h37⟩, h39⟩ := h24
        have h40 : kd aw S22 = kd aw S := kd_eq h31 h34
        have h41 := os_5 h35 1
        have h42 := os_13 h35 1
        show am_E _ _ _ _ [some (.ref 7), some (.int f), some (.int n), some (.int v13)] [] _ _
        refine am_e2 (v := 7) hi_60_183 rfl ?_
        refine am_e0 hi_60_184 ?_
        refine am_e32q (d1 := d + 0 + 16) (by omega) (as := [.ref 7, .int 0]) (la := [some (.ref 7), some (.int 0), none, none, none]) (rest := []) hi_60_185 (am_hd0 (M := 60) (by decide) 185) (Nat.le_of_ble_eq_true rfl) (Nat.le_of_ble_eq_true rfl) (show 2 ≤ am_P0.2.2.1 111 from by decide +kernel) rfl (cl_recv (h29.1.s (7, 6) (by decide))) rfl rfl (cr_args (d := d + 0) h29  ihR (by show 48 - lv S22 < (NN : Int) + 1; omega) (by show (30 : Int) * (48 - lv S22) ≤ ((d + 0 : Nat) : Int); omega) (by show 0 ≤ nx S22; omega) (by show nx S22 ≤ wr S22; omega) (by show wr S22 ≤ 600; omega) (by show 0 ≤ lv S22; omega) (by show lv S22 ≤ 48; omega) (by show 1 ≤ iv S22 13 1; omega) (by show iv S22 13 1 ≤ lv S22 + 1; omega) (by show iv S22 5 1 ≤ nx S22 + 1; omega)) (fun S54 h55 => hq S54 (show TH aw 2160 Sb S54 from ⟨h55.1, (h2.trans h30).trans h55.2.1, ⟨(by have q := h55.2.2.1.1; omega), h55.2.2.1.2.trans (h34.trans h6)⟩, h55.2.2.2.1, h55.2.2.2.2.1, (by have q := h55.2.2.2.2.2; omega)⟩)) ?_
        rintro v43 S44 ⟨rfl, h46, h47, h48, h49, h50, h51, h52⟩
        have h47_ : nx S22 + 1 ≤ nx S44 := h47
        have h48_ : nx S44 ≤ wr S44 := h48
        have h49_ : lv S44 = lv S22 + 0 := h49
        have h50_ : EN S44 + -10000 * nx S44 ≤ EN S22 + -10000 * nx S22 + (-8800) := h50
        have h51_ : iv S22 8 1 ≤ iv S44 8 1 := h51
        have h52_ : iv S22 10 1 ≤ iv S44 10 1 := h52
        obtain ⟨h56, h57, ⟨h60, h61⟩, ⟨h62, h63⟩⟩ := h46
        show am_E _ _ _ _ [some (.ref 7), some (.int f), some (.int n), some (.int v13)] [] _ _
        refine am_e0 hi_60_188 ?_
        refine am_e3 (ls' := [some (.ref 7), some (.int 4), some (.int n), some (.int v13)]) hi_60_189 (Nat.le_of_ble_eq_true rfl) rfl ?_
        refine am_e18 hi_60_190 ?_
        obtain ⟨z67, hz67, tz67⟩ := am_addI (x := n) (y := 1) (m := n.toInt) (n := (1 : Int)) rfl (by decide) (by omega) (by omega)
        refine am_e5 (v := n) (z := z67) (ls' := [some (.ref 7), some (.int 4), some (.int z67), some (.int v13)]) hi_60_195 rfl hz67 rfl ?_
        refine am_e18 hi_60_198 ?_
        exact ih _ (some (.int v13)) 4 z67 ⟨h56, ((h2.trans h30).trans h57), ⟨(by show wr S44 = wr Sb; omega), (h61.trans (h34.trans h6))⟩, ⟨(by show iv S44 13 1 = iv Sb 13 1; omega), (by show iv S44 5 1 - nx S44 ≤ iv Sb 5 1 - nx Sb; omega)⟩⟩ (by show nx Sb + 0 ≤ nx S44; omega) (by show nx S44 ≤ wr S44; omega) (by show lv S44 = lv Sb + 0; omega) (by show EN S44 + -10000 * nx S44 ≤ EN Sb + -10000 * nx Sb + 0; omega) (by show iv Sb 8 1 ≤ iv S44 8 1; omega) (by show iv Sb 10 1 ≤ iv S44 10 1; omega) (by show 2147483647 - z67.toInt < (N : Int); omega)
      · have c20_ : True := trivial
        by_cases c68 : r16.toInt = 60
        · refine am_e19 (t := 178) hi_60_29 (am_swI (v := r16) (w := 60) (by decide) (by decide) c68) ?_
          refine am_e2 (v := 7) hi_60_178 rfl ?_
          refine am_e1 (v := f) hi_60_179 rfl ?_
          refine am_e32n (as := [.ref 7, .int f]) (la := [some (.ref 7), some (.int f)]) (rest := []) hi_60_180 (am_hd0 (M := 60) (by decide) 180) (Nat.le_of_ble_eq_true rfl) (Nat.le_of_ble_eq_true rfl) (show 2 ≤ am_P0.2.2.1 100 from by decide +kernel) rfl (cl_recv (h1.1.s (7, 6) (by decide))) rfl rfl (ck_settle (d := (d + 12)) h1   ) ?_
          rintro v69 S70 ⟨rfl, h72, h73, h74, h75⟩
          have h73_ : iv S70 8 1 = iv S 8 1 := h73
          have h74_ : iv S70 10 1 = iv S 10 1 := h74
          have h75_ : iv S70 14 1 = iv S 14 1 := h75
          obtain ⟨h77, h78, ⟨h79, h80, h81, h82⟩, ⟨h83, h84, h85⟩, h87⟩ := h72
          have h88 : kd aw S70 = kd aw S := kd_eq h79 h82
          have h89 := os_5 h83 1
          have h90 := os_13 h83 1
          show am_E _ _ _ _ [some (.ref 7), some (.int f), some (.int n), some (.int v13)] [] _ _
          refine am_e2 (v := 7) hi_60_183 rfl ?_
          refine am_e0 hi_60_184 ?_
          refine am_e32q (d1 := d + 0 + 16) (by omega) (as := [.ref 7, .int 0]) (la := [some (.ref 7), some (.int 0), none, none, none]) (rest := []) hi_60_185 (am_hd0 (M := 60) (by decide) 185) (Nat.le_of_ble_eq_true rfl) (Nat.le_of_ble_eq_true rfl) (show 2 ≤ am_P0.2.2.1 111 from by decide +kernel) rfl (cl_recv (h77.1.s (7, 6) (by decide))) rfl rfl (cr_args (d := d + 0) h77  ihR (by show 48 - lv S70 < (NN : Int) + 1; omega) (by show (30 : Int) * (48 - lv S70) ≤ ((d + 0 : Nat) : Int); omega) (by show 0 ≤ nx S70; omega) (by show nx S70 ≤ wr S70; omega) (by show wr S70 ≤ 600; omega) (by show 0 ≤ lv S70; omega) (by show lv S70 ≤ 48; omega) (by show 1 ≤ iv S70 13 1; omega) (by show iv S70 13 1 ≤ lv S70 + 1; omega) (by show iv S70 5 1 ≤ nx S70 + 1; omega)) (fun S102 h103 => hq S102 (show TH aw 2160 Sb S102 from ⟨h103.1, (h2.trans h78).trans h103.2.1, ⟨(by have q := h103.2.2.1.1; omega), h103.2.2.1.2.trans (h82.trans h6)⟩, h103.2.2.2.1, h103.2.2.2.2.1, (by have q := h103.2.2.2.2.2; omega)⟩)) ?_
          rintro v91 S92 ⟨rfl, h94, h95, h96, h97, h98, h99, h100⟩
          have h95_ : nx S70 + 1 ≤ nx S92 := h95
          have h96_ : nx S92 ≤ wr S92 := h96
          have h97_ : lv S92 = lv S70 + 0 := h97
          have h98_ : EN S92 + -10000 * nx S92 ≤ EN S70 + -10000 * nx S70 + (-8800) := h98
          have h99_ : iv S70 8 1 ≤ iv S92 8 1 := h99
          have h100_ : iv S70 10 1 ≤ iv S92 10 1 := h100
          obtain ⟨h104, h105, ⟨h108, h109⟩, ⟨h110, h111⟩⟩ := h94
          show am_E _ _ _ _ [some (.ref 7), some (.int f), some (.int n), some (.int v13)] [] _ _
          refine am_e0 hi_60_188 ?_
          refine am_e3 (ls' := [some (.ref 7), some (.int 4), some (.int n), some (.int v13)]) hi_60_189 (Nat.le_of_ble_eq_true rfl) rfl ?_
          refine am_e18 hi_60_190 ?_
          obtain ⟨z115, hz115, tz115⟩ := am_addI (x := n) (y := 1) (m := n.toInt) (n := (1 : Int)) rfl (by decide) (by omega) (by omega)
          refine am_e5 (v := n) (z := z115) (ls' := [some (.ref 7), some (.int 4), some (.int z115), some (.int v13)]) hi_60_195 rfl hz115 rfl ?_
          refine am_e18 hi_60_198 ?_
          exact ih _ (some (.int v13)) 4 z115 ⟨h104, ((h2.trans h78).trans h105), ⟨(by show wr S92 = wr Sb; omega), (h109.trans (h82.trans h6))⟩, ⟨(by show iv S92 13 1 = iv Sb 13 1; omega), (by show iv S92 5 1 - nx S92 ≤ iv Sb 5 1 - nx Sb; omega)⟩⟩ (by show nx Sb + 0 ≤ nx S92; omega) (by show nx S92 ≤ wr S92; omega) (by show lv S92 = lv Sb + 0; omega) (by show EN S92 + -10000 * nx S92 ≤ EN Sb + -10000 * nx Sb + 0; omega) (by show iv Sb 8 1 ≤ iv S92 8 1; omega) (by show iv Sb 10 1 ≤ iv S92 10 1; omega) (by show 2147483647 - z115.toInt < (N : Int); omega)
        · have c68_ : True := trivial
          by_cases c116 : r16.toInt = 62
          · refine am_e19 (t := 178) hi_60_29 (am_swI (v := r16) (w := 62) (by decide) (by decide) c116) ?_
            refine am_e2 (v := 7) hi_60_178 rfl ?_
            refine am_e1 (v := f) hi_60_179 rfl ?_
            refine am_e32n (as := [.ref 7, .int f]) (la := [some (.ref 7), some (.int f)]) (rest := []) hi_60_180 (am_hd0 (M := 60) (by decide) 180) (Nat.le_of_ble_eq_true rfl) (Nat.le_of_ble_eq_true rfl) (show 2 ≤ am_P0.2.2.1 100 from by decide +kernel) rfl (cl_recv (h1.1.s (7, 6) (by decide))) rfl rfl (ck_settle (d := (d + 12)) h1   ) ?_
            rintro v117 S118 ⟨rfl, h120, h121, h122, h123⟩
            have h121_ : iv S118 8 1 = iv S 8 1 := h121
            have h122_ : iv S118 10 1 = iv S 10 1 := h122
            have h123_ : iv S118 14 1 = iv S 14 1 := h123
            obtain ⟨h125, h126, ⟨h127, h128, h129, h130⟩, ⟨h131, h132, h133⟩, h135⟩ := h120
            have h136 : kd aw S118 = kd aw S := kd_eq h127 h130
            have h137 := os_5 h131 1
            have h138 := os_13 h131 1
            show am_E _ _ _ _ [some (.ref 7), some (.int f), some (.int n), some (.int v13)] [] _ _
            refine am_e2 (v := 7) hi_60_183 rfl ?_
            refine am_e0 hi_60_184 ?_
            refine am_e32q (d1 := d + 0 + 16) (by omega) (as := [.ref 7, .int 0]) (la := [some (.ref 7), some (.int 0), none, none, none]) (rest := []) hi_60_185 (am_hd0 (M := 60) (by decide) 185) (Nat.le_of_ble_eq_true rfl) (Nat.le_of_ble_eq_true rfl) (show 2 ≤ am_P0.2.2.1 111 from by decide +kernel) rfl (cl_recv (h125.1.s (7, 6) (by decide))) rfl rfl (cr_args (d := d + 0) h125  ihR (by show 48 - lv S118 < (NN : Int) + 1; omega) (by show (30 : Int) * (48 - lv S118) ≤ ((d + 0 : Nat) : Int); omega) (by show 0 ≤ nx S118; omega) (by show nx S118 ≤ wr S118; omega) (by show wr S118 ≤ 600; omega) (by show 0 ≤ lv S118; omega) (by show lv S118 ≤ 48; omega) (by show 1 ≤ iv S118 13 1; omega) (by show iv S118 13 1 ≤ lv S118 + 1; omega) (by show iv S118 5 1 ≤ nx S118 + 1; omega)) (fun S150 h151 => hq S150 (show TH aw 2160 Sb S150 from ⟨h151.1, (h2.trans h126).trans h151.2.1, ⟨(by have q := h151.2.2.1.1; omega), h151.2.2.1.2.trans (h130.trans h6)⟩, h151.2.2.2.1, h151.2.2.2.2.1, (by have q := h151.2.2.2.2.2; omega)⟩)) ?_
            rintro v139 S140 ⟨rfl, h142, h143, h144, h145, h146, h147, h148⟩
            have h143_ : nx S118 + 1 ≤ nx S140 := h143
            have h144_ : nx S140 ≤ wr S140 := h144
            have h145_ : lv S140 = lv S118 + 0 := h145
            have h146_ : EN S140 + -10000 * nx S140 ≤ EN S118 + -10000 * nx S118 + (-8800) := h146
            have h147_ : iv S118 8 1 ≤ iv S140 8 1 := h147
            have h148_ : iv S118 10 1 ≤ iv S140 10 1 := h148
            obtain ⟨h152, h153, ⟨h156, h157⟩, ⟨h158, h159⟩⟩ := h142
            show am_E _ _ _ _ [some (.ref 7), some (.int f), some (.int n), some (.int v13)] [] _ _
            refine am_e0 hi_60_188 ?_
            refine am_e3 (ls' := [some (.ref 7), some (.int 4), some (.int n), some (.int v13)]) hi_60_189 (Nat.le_of_ble_eq_true rfl) rfl ?_
            refine am_e18 hi_60_190 ?_
            obtain ⟨z163, hz163, tz163⟩ := am_addI (x := n) (y := 1) (m := n.toInt) (n := (1 : Int)) rfl (by decide) (by omega) (by omega)
            refine am_e5 (v := n) (z := z163) (ls' := [some (.ref 7), some (.int 4), some (.int z163), some (.int v13)]) hi_60_195 rfl hz163 rfl ?_
            refine am_e18 hi_60_198 ?_
            exact ih _ (some (.int v13)) 4 z163 ⟨h152, ((h2.trans h126).trans h153), ⟨(by show wr S140 = wr Sb; omega), (h157.trans (h130.trans h6))⟩, ⟨(by show iv S140 13 1 = iv Sb 13 1; omega), (by show iv S140 5 1 - nx S140 ≤ iv Sb 5 1 - nx Sb; omega)⟩⟩ (by show nx Sb + 0 ≤ nx S140; omega) (by show nx S140 ≤ wr S140; omega) (by show lv S140 = lv Sb + 0; omega) (by show EN S140 + -10000 * nx S140 ≤ EN Sb + -10000 * nx Sb + 0; omega) (by show iv Sb 8 1 ≤ iv S140 8 1; omega) (by show iv Sb 10 1 ≤ iv S140 10 1; omega) (by show 2147483647 - z163.toInt < (N : Int); omega)
          · have c116_ : True := trivial
            by_cases c164 : r16.toInt = 64
            · refine am_e19 (t := 101) hi_60_29 (am_swI (v := r16) (w := 64) (by decide) (by decide) c164) ?_
              refine am_e2 (v := 7) hi_60_101 rfl ?_
              refine am_e1 (v := f) hi_60_102 rfl ?_
              refine am_e32n (as := [.ref 7, .int f]) (la := [some (.ref 7), some (.int f)]) (rest := []) hi_60_103 (am_hd0 (M := 60) (by decide) 103) (Nat.le_of_ble_eq_true rfl) (Nat.le_of_ble_eq_true rfl) (show 2 ≤ am_P0.2.2.1 100 from by decide +kernel) rfl (cl_recv (h1.1.s (7, 6) (by decide))) rfl rfl (ck_settle (d := (d + 12)) h1   ) ?_
              rintro v165 S166 ⟨rfl, h168, h169, h170, h171⟩
              have h169_ : iv S166 8 1 = iv S 8 1 := h169
              have h170_ : iv S166 10 1 = iv S 10 1 := h170
              have h171_ : iv S166 14 1 = iv S 14 1 := h171
              obtain ⟨h173, h174, ⟨h175, h176, h177, h178⟩, ⟨h179, h180, h181⟩, h183⟩ := h168
              have h184 : kd aw S166 = kd aw S := kd_eq h175 h178
              have h185 := os_5 h179 1
              have h186 := os_13 h179 1
              show am_E _ _ _ _ [some (.ref 7), some (.int f), some (.int n), some (.int v13)] [] _ _
              refine am_e2 (v := 7) hi_60_106 rfl ?_
              refine cm_20f (r := 2) h173 hi_60_107 (h173.1.s (7, 6) (by decide)) (by decide) rfl ?_
              refine am_e32t (as := [.ref 2]) (la := [some (.ref 2), none]) (rest := []) hi_60_110 (am_hd0 (M := 60) (by decide) 110) (Nat.le_of_ble_eq_true rfl) (Nat.le_of_ble_eq_true rfl) (show 1 ≤ am_P0.2.2.1 55 from by decide +kernel) rfl (cl_recv (h173.1.s (2, 2) (by decide))) rfl rfl (ck_skip (d := (d + 3)) h173   (by show 0 ≤ nx S166; omega) (by show nx S166 ≤ wr S166; omega) (by show wr S166 ≤ 600; omega) (by show 0 ≤ lv S166; omega) (by show lv S166 ≤ 48; omega) (by show kd aw S166 ≠ 0; omega)) (fun S203 h204 => hq S203 (show TH aw 2160 Sb S203 from ⟨h204.1, (h2.trans h174).trans h204.2.1, ⟨(by have q := h204.2.2.1.1; omega), h204.2.2.1.2.trans (h178.trans h6)⟩, h204.2.2.2.1, h204.2.2.2.2.1, (by have q := h204.2.2.2.2.2; omega)⟩)) ?_
              rintro v187 S188 ⟨r189, rfl, h190, h191, h192, h193, h194⟩
              have h191_ : nx S188 = nx S166 + 1 := h191
              have h192_ : lv S188 = lv S166 + c_dl (kd aw S166) := h192
              have h193_ : lv S188 ≤ 48 := h193
              have h194_ : nx S188 ≤ wr S188 := h194
              obtain ⟨h205, h206, ⟨h209, h210⟩, ⟨h211, h212, h213⟩, h214, h215⟩ := h190
              have h216 := h214 8 (h173.1.s (8, 3) (by decide))
              have h217 := h214 10 (h173.1.s (10, 3) (by decide))
              have h218 := os_5 h211 1
              have h219 := os_13 h211 1
              have h220 : c_dl (kd aw S166) = 1 := by unfold c_dl; split <;> split <;> omega
              show am_E _ _ _ _ [some (.ref 7), some (.int f), some (.int n), some (.int v13)] [.int r189] _ _
              refine am_e6i hi_60_113 ?_
              refine am_e2 (v := 7) hi_60_114 rfl ?_
              refine am_e32q (d1 := d - 30 + 28 + 18) (by omega) (as := [.ref 7]) (la := [some (.ref 7), none, none, none, none, none]) (rest := []) hi_60_115 (am_hd0 (M := 60) (by decide) 115) (Nat.le_of_ble_eq_true rfl) (Nat.le_of_ble_eq_true rfl) (show 1 ≤ am_P0.2.2.1 70 from by decide +kernel) rfl (cl_recv (h205.1.s (7, 6) (by decide))) rfl rfl (rc_70 ihR (d - 30 + 28) _  h205  (by show 48 - lv S188 < (NN : Int); omega) (by show (30 : Int) * (48 - lv S188) ≤ ((d - 30 + 28 : Nat) : Int); omega) (by show 0 ≤ nx S188; omega) (by show nx S188 ≤ wr S188; omega) (by show wr S188 ≤ 600; omega) (by show 0 ≤ lv S188; omega) (by show lv S188 ≤ 48; omega) (by show 1 ≤ iv S188 13 1; omega) (by show iv S188 13 1 ≤ lv S188 + 1; omega) (by show iv S188 5 1 ≤ nx S188 + 1; omega)) (fun S232 h233 => hq S232 (show TH aw 2160 Sb S232 from ⟨h233.1, ((h2.trans h174).trans h206).trans h233.2.1, ⟨(by have q := h233.2.2.1.1; omega), h233.2.2.1.2.trans (h210.trans (h178.trans h6))⟩, h233.2.2.2.1, h233.2.2.2.2.1, (by have q := h233.2.2.2.2.2; omega)⟩)) ?_
              rintro v221 S222 ⟨rfl, h224, h225, h226, h227, h228, h229, h230⟩
              have h225_ : nx S188 + 1 ≤ nx S222 := h225
              have h226_ : nx S222 ≤ wr S222 := h226
              have h227_ : lv S222 = lv S188 + 0 := h227
              have h228_ : EN S222 + -10000 * nx S222 ≤ EN S188 + -10000 * nx S188 + (-2000) := h228
              have h229_ : iv S188 8 1 ≤ iv S222 8 1 := h229
              have h230_ : iv S188 10 1 ≤ iv S222 10 1 := h230
              obtain ⟨h234, h235, ⟨h238, h239⟩, ⟨h240, h241⟩⟩ := h224
              show am_E _ _ _ _ [some (.ref 7), some (.int f), some (.int n), some (.int v13)] [] _ _
              refine am_e2 (v := 7) hi_60_118 rfl ?_
              refine cm_20f (r := 2) h234 hi_60_119 (h234.1.s (7, 6) (by decide)) (by decide) rfl ?_
              refine am_e0 hi_60_122 ?_
              refine am_e32t (as := [.ref 2, .int 65]) (la := [some (.ref 2), some (.int 65)]) (rest := []) hi_60_124 (am_hd0 (M := 60) (by decide) 124) (Nat.le_of_ble_eq_true rfl) (Nat.le_of_ble_eq_true rfl) (show 2 ≤ am_P0.2.2.1 64 from by decide +kernel) rfl (cl_recv (h234.1.s (2, 2) (by decide))) rfl rfl (ck_take (d := (d + 2)) h234   (by show 0 ≤ nx S222; omega) (by show nx S222 ≤ wr S222; omega) (by show wr S222 ≤ 600; omega) (by show 0 ≤ lv S222; omega) (by show lv S222 ≤ 48; omega) (by show ¬ (65 : Int) = 0; omega)) (fun S262 h263 => hq S262 (show TH aw 2160 Sb S262 from ⟨h263.1, (((h2.trans h174).trans h206).trans h235).trans h263.2.1, ⟨(by have q := h263.2.2.1.1; omega), h263.2.2.1.2.trans (h239.trans (h210.trans (h178.trans h6)))⟩, h263.2.2.2.1, h263.2.2.2.2.1, (by have q := h263.2.2.2.2.2; omega)⟩)) ?_
              rintro v245 S246 ⟨r247, rfl, h248, h249, h250, h251, h252, h253⟩
              have h249_ : kd aw S222 = (65 : Int) := h249
              have h250_ : nx S246 = nx S222 + 1 := h250
              have h251_ : lv S246 = lv S222 + c_dl (kd aw S222) := h251
              have h252_ : lv S246 ≤ 48 := h252
              have h253_ : nx S246 ≤ wr S246 := h253
              obtain ⟨h264, h265, ⟨h268, h269⟩, ⟨h270, h271, h272⟩, h273, h274⟩ := h248
              have h275 := h273 8 (h234.1.s (8, 3) (by decide))
              have h276 := h273 10 (h234.1.s (10, 3) (by decide))
              have h277 := os_5 h270 1
              have h278 := os_13 h270 1
              have h279 : c_dl (kd aw S222) = -1 := by unfold c_dl; split <;> split <;> omega
              show am_E _ _ _ _ [some (.ref 7), some (.int f), some (.int n), some (.int v13)] [.int r247] _ _
              refine am_e6i hi_60_127 ?_
              refine am_e2 (v := 7) hi_60_128 rfl ?_
              refine am_e1 (v := v13) hi_60_129 rfl ?_
              refine cm_21 (v := .int v13) h264 hi_60_130 (h264.1.s (7, 6) (by decide)) (by decide) (by decide) rfl ⟨_, rfl⟩ rfl fun S280 h281 => ?_
              obtain ⟨h282, h283, ⟨h284, h285, h286, h287⟩, ⟨h288, h289, h290⟩, h291, h292⟩ := h281
              have h293 : kd aw S280 = kd aw S246 := kd_eq h284 h287
              have h294 := h291 8 (h264.1.s (8, 3) (by decide))
              have h295 := h291 10 (h264.1.s (10, 3) (by decide))
              have h296 := os_5 h288 1
              have h297 := os_13 h288 1
              refine am_e0 hi_60_133 ?_
              refine am_e3 (ls' := [some (.ref 7), some (.int 3), some (.int n), some (.int v13)]) hi_60_134 (Nat.le_of_ble_eq_true rfl) rfl ?_
              refine am_e18 hi_60_135 ?_
              obtain ⟨z298, hz298, tz298⟩ := am_addI (x := n) (y := 1) (m := n.toInt) (n := (1 : Int)) rfl (by decide) (by omega) (by omega)
              refine am_e5 (v := n) (z := z298) (ls' := [some (.ref 7), some (.int 3), some (.int z298), some (.int v13)]) hi_60_195 rfl hz298 rfl ?_
              refine am_e18 hi_60_198 ?_
              exact ih _ (some (.int v13)) 3 z298 ⟨h282, (((((h2.trans h174).trans h206).trans h235).trans h265).trans h283), ⟨(by show wr S280 = wr Sb; omega), (h287.trans (h269.trans (h239.trans (h210.trans (h178.trans h6)))))⟩, ⟨(by show iv S280 13 1 = iv Sb 13 1; omega), (by show iv S280 5 1 - nx S280 ≤ iv Sb 5 1 - nx Sb; omega)⟩⟩ (by show nx Sb + 0 ≤ nx S280; omega) (by show nx S280 ≤ wr S280; omega) (by show lv S280 = lv Sb + 0; omega) (by show EN S280 + -10000 * nx S280 ≤ EN Sb + -10000 * nx Sb + 0; omega) (by show iv Sb 8 1 ≤ iv S280 8 1; omega) (by show iv Sb 10 1 ≤ iv S280 10 1; omega) (by show 2147483647 - z298.toInt < (N : Int); omega)
            · have c164_ : True := trivial
              by_cases c299 : r16.toInt = 68
              · refine am_e19 (t := 138) hi_60_29 (am_swI (v := r16) (w := 68) (by decide) (by decide) c299) ?_
                refine am_e2 (v := 7) hi_60_138 rfl ?_
                refine am_e1 (v := f) hi_60_139 rfl ?_
                refine am_e32n (as := [.ref 7, .int f]) (la := [some (.ref 7), some (.int f)]) (rest := []) hi_60_140 (am_hd0 (M := 60) (by decide) 140) (Nat.le_of_ble_eq_true rfl) (Nat.le_of_ble_eq_true rfl) (show 2 ≤ am_P0.2.2.1 100 from by decide +kernel) rfl (cl_recv (h1.1.s (7, 6) (by decide))) rfl rfl (ck_settle (d := (d + 12)) h1   ) ?_
                rintro v300 S301 ⟨rfl, h303, h304, h305, h306⟩
                have h304_ : iv S301 8 1 = iv S 8 1 := h304
                have h305_ : iv S301 10 1 = iv S 10 1 := h305
                have h306_ : iv S301 14 1 = iv S 14 1 := h306
                obtain ⟨h308, h309, ⟨h310, h311, h312, h313⟩, ⟨h314, h315, h316⟩, h318⟩ := h303
                have h319 : kd aw S301 = kd aw S := kd_eq h310 h313
                have h320 := os_5 h314 1
                have h321 := os_13 h314 1
                show am_E _ _ _ _ [some (.ref 7), some (.int f), some (.int n), some (.int v13)] [] _ _
                refine am_e2 (v := 7) hi_60_143 rfl ?_
                refine cm_20f (r := 2) h308 hi_60_144 (h308.1.s (7, 6) (by decide)) (by decide) rfl ?_
                refine am_e32t (as := [.ref 2]) (la := [some (.ref 2), none]) (rest := []) hi_60_147 (am_hd0 (M := 60) (by decide) 147) (Nat.le_of_ble_eq_true rfl) (Nat.le_of_ble_eq_true rfl) (show 1 ≤ am_P0.2.2.1 55 from by decide +kernel) rfl (cl_recv (h308.1.s (2, 2) (by decide))) rfl rfl (ck_skip (d := (d + 3)) h308   (by show 0 ≤ nx S301; omega) (by show nx S301 ≤ wr S301; omega) (by show wr S301 ≤ 600; omega) (by show 0 ≤ lv S301; omega) (by show lv S301 ≤ 48; omega) (by show kd aw S301 ≠ 0; omega)) (fun S338 h339 => hq S338 (show TH aw 2160 Sb S338 from ⟨h339.1, (h2.trans h309).trans h339.2.1, ⟨(by have q := h339.2.2.1.1; omega), h339.2.2.1.2.trans (h313.trans h6)⟩, h339.2.2.2.1, h339.2.2.2.2.1, (by have q := h339.2.2.2.2.2; omega)⟩)) ?_
                rintro v322 S323 ⟨r324, rfl, h325, h326, h327, h328, h329⟩
                have h326_ : nx S323 = nx S301 + 1 := h326
                have h327_ : lv S323 = lv S301 + c_dl (kd aw S301) := h327
                have h328_ : lv S323 ≤ 48 := h328
                have h329_ : nx S323 ≤ wr S323 := h329
                obtain ⟨h340, h341, ⟨h344, h345⟩, ⟨h346, h347, h348⟩, h349, h350⟩ := h325
                have h351 := h349 8 (h308.1.s (8, 3) (by decide))
                have h352 := h349 10 (h308.1.s (10, 3) (by decide))
                have h353 := os_5 h346 1
                have h354 := os_13 h346 1
                have h355 : c_dl (kd aw S301) = 0 := by unfold c_dl; split <;> split <;> omega
                show am_E _ _ _ _ [some (.ref 7), some (.int f), some (.int n), some (.int v13)] [.int r324] _ _
                refine am_e6i hi_60_150 ?_
                refine am_e2 (v := 7) hi_60_151 rfl ?_
                refine am_e0 hi_60_152 ?_
                refine am_e2 (v := 7) hi_60_154 rfl ?_
                refine cm_20f (r := 2) h340 hi_60_155 (h340.1.s (7, 6) (by decide)) (by decide) rfl ?_
                refine am_e0 hi_60_158 ?_
                refine am_e32t (as := [.ref 2, .int 1]) (la := [some (.ref 2), some (.int 1)]) (rest := [.int 14, .ref 7]) hi_60_159 (am_hd0 (M := 60) (by decide) 159) (Nat.le_of_ble_eq_true rfl) (Nat.le_of_ble_eq_true rfl) (show 2 ≤ am_P0.2.2.1 64 from by decide +kernel) rfl (cl_recv (h340.1.s (2, 2) (by decide))) rfl rfl (ck_take (d := (d + 2)) h340   (by show 0 ≤ nx S323; omega) (by show nx S323 ≤ wr S323; omega) (by show wr S323 ≤ 600; omega) (by show 0 ≤ lv S323; omega) (by show lv S323 ≤ 48; omega) (by show ¬ (1 : Int) = 0; omega)) (fun S373 h374 => hq S373 (show TH aw 2160 Sb S373 from ⟨h374.1, ((h2.trans h309).trans h341).trans h374.2.1, ⟨(by have q := h374.2.2.1.1; omega), h374.2.2.1.2.trans (h345.trans (h313.trans h6))⟩, h374.2.2.2.1, h374.2.2.2.2.1, (by have q := h374.2.2.2.2.2; omega)⟩)) ?_
                rintro v356 S357 ⟨r358, rfl, h359, h360, h361, h362, h363, h364⟩
                have h360_ : kd aw S323 = (1 : Int) := h360
                have h361_ : nx S357 = nx S323 + 1 := h361
                have h362_ : lv S357 = lv S323 + c_dl (kd aw S323) := h362
                have h363_ : lv S357 ≤ 48 := h363
                have h364_ : nx S357 ≤ wr S357 := h364
                obtain ⟨h375, h376, ⟨h379, h380⟩, ⟨h381, h382, h383⟩, h384, h385⟩ := h359
                have h386 := h384 8 (h340.1.s (8, 3) (by decide))
                have h387 := h384 10 (h340.1.s (10, 3) (by decide))
                have h388 := os_5 h381 1
                have h389 := os_13 h381 1
                have h390 : c_dl (kd aw S323) = 0 := by unfold c_dl; split <;> split <;> omega
                show am_E _ _ _ _ [some (.ref 7), some (.int f), some (.int n), some (.int v13)] [.int r358, .int 14, .ref 7] _ _
                refine am_e0 hi_60_162 ?_
                refine am_e1 (v := v13) hi_60_163 rfl ?_
                refine am_e32n (as := [.ref 7, .int 14, .int r358, .int 0, .int v13]) (la := [some (.ref 7), some (.int 14), some (.int r358), some (.int 0), some (.int v13)]) (rest := []) hi_60_164 (am_hd0 (M := 60) (by decide) 164) (Nat.le_of_ble_eq_true rfl) (Nat.le_of_ble_eq_true rfl) (show 5 ≤ am_P0.2.2.1 78 from by decide +kernel) rfl (cl_recv (h375.1.s (7, 6) (by decide))) rfl rfl (ck_emit (d := (d + 13)) h375   ) ?_
                rintro v391 S392 ⟨r393, rfl, h394, h395, h396, h397⟩
                have h395_ : iv S392 8 1 = iv S357 8 1 := h395
                have h396_ : iv S392 10 1 = iv S357 10 1 := h396
                have h397_ : iv S392 14 1 = iv S357 14 1 := h397
                obtain ⟨h399, h400, ⟨h401, h402, h403, h404⟩, ⟨h405, h406, h407⟩, h409⟩ := h394
                have h410 : kd aw S392 = kd aw S357 := kd_eq h401 h404
                have h411 := os_5 h405 1
                have h412 := os_13 h405 1
                show am_E _ _ _ _ [some (.ref 7), some (.int f), some (.int n), some (.int v13)] [.int r393] _ _
                refine am_e6i hi_60_167 ?_
                refine am_e2 (v := 7) hi_60_168 rfl ?_
                refine am_e0 hi_60_169 ?_
                refine am_e32q (d1 := d + 0 + 16) (by omega) (as := [.ref 7, .int 1]) (la := [some (.ref 7), some (.int 1), none, none, none]) (rest := []) hi_60_170 (am_hd0 (M := 60) (by decide) 170) (Nat.le_of_ble_eq_true rfl) (Nat.le_of_ble_eq_true rfl) (show 2 ≤ am_P0.2.2.1 111 from by decide +kernel) rfl (cl_recv (h399.1.s (7, 6) (by decide))) rfl rfl (cr_args (d := d + 0) h399  ihR (by show 48 - lv S392 < (NN : Int) + 1; omega) (by show (30 : Int) * (48 - lv S392) ≤ ((d + 0 : Nat) : Int); omega) (by show 0 ≤ nx S392; omega) (by show nx S392 ≤ wr S392; omega) (by show wr S392 ≤ 600; omega) (by show 0 ≤ lv S392; omega) (by show lv S392 ≤ 48; omega) (by show 1 ≤ iv S392 13 1; omega) (by show iv S392 13 1 ≤ lv S392 + 1; omega) (by show iv S392 5 1 ≤ nx S392 + 1; omega)) (fun S424 h425 => hq S424 (show TH aw 2160 Sb S424 from ⟨h425.1, ((((h2.trans h309).trans h341).trans h376).trans h400).trans h425.2.1, ⟨(by have q := h425.2.2.1.1; omega), h425.2.2.1.2.trans (h404.trans (h380.trans (h345.trans (h313.trans h6))))⟩, h425.2.2.2.1, h425.2.2.2.2.1, (by have q := h425.2.2.2.2.2; omega)⟩)) ?_
                rintro v413 S414 ⟨rfl, h416, h417, h418, h419, h420, h421, h422⟩
                have h417_ : nx S392 + 1 ≤ nx S414 := h417
                have h418_ : nx S414 ≤ wr S414 := h418
                have h419_ : lv S414 = lv S392 + 0 := h419
                have h420_ : EN S414 + -10000 * nx S414 ≤ EN S392 + -10000 * nx S392 + (-8800) := h420
                have h421_ : iv S392 8 1 ≤ iv S414 8 1 := h421
                have h422_ : iv S392 10 1 ≤ iv S414 10 1 := h422
                obtain ⟨h426, h427, ⟨h430, h431⟩, ⟨h432, h433⟩⟩ := h416
                show am_E _ _ _ _ [some (.ref 7), some (.int f), some (.int n), some (.int v13)] [] _ _
                refine am_e0 hi_60_173 ?_
                refine am_e3 (ls' := [some (.ref 7), some (.int 4), some (.int n), some (.int v13)]) hi_60_174 (Nat.le_of_ble_eq_true rfl) rfl ?_
                refine am_e18 hi_60_175 ?_
                obtain ⟨z437, hz437, tz437⟩ := am_addI (x := n) (y := 1) (m := n.toInt) (n := (1 : Int)) rfl (by decide) (by omega) (by omega)
                refine am_e5 (v := n) (z := z437) (ls' := [some (.ref 7), some (.int 4), some (.int z437), some (.int v13)]) hi_60_195 rfl hz437 rfl ?_
                refine am_e18 hi_60_198 ?_
                exact ih _ (some (.int v13)) 4 z437 ⟨h426, (((((h2.trans h309).trans h341).trans h376).trans h400).trans h427), ⟨(by show wr S414 = wr Sb; omega), (h431.trans (h404.trans (h380.trans (h345.trans (h313.trans h6)))))⟩, ⟨(by show iv S414 13 1 = iv Sb 13 1; omega), (by show iv S414 5 1 - nx S414 ≤ iv Sb 5 1 - nx Sb; omega)⟩⟩ (by show nx Sb + 0 ≤ nx S414; omega) (by show nx S414 ≤ wr S414; omega) (by show lv S414 = lv Sb + 0; omega) (by show EN S414 + -10000 * nx S414 ≤ EN Sb + -10000 * nx Sb + 0; omega) (by show iv Sb 8 1 ≤ iv S414 8 1; omega) (by show iv Sb 10 1 ≤ iv S414 10 1; omega) (by show 2147483647 - z437.toInt < (N : Int); omega)
              · have c299_ : True := trivial
                by_cases c438 : r16.toInt = 70
                · refine am_e19 (t := 88) hi_60_29 (am_swI (v := r16) (w := 70) (by decide) (by decide) c438) ?_
                  refine am_e2 (v := 7) hi_60_88 rfl ?_
                  refine am_e1 (v := f) hi_60_89 rfl ?_
                  refine am_e32n (as := [.ref 7, .int f]) (la := [some (.ref 7), some (.int f)]) (rest := []) hi_60_90 (am_hd0 (M := 60) (by decide) 90) (Nat.le_of_ble_eq_true rfl) (Nat.le_of_ble_eq_true rfl) (show 2 ≤ am_P0.2.2.1 100 from by decide +kernel) rfl (cl_recv (h1.1.s (7, 6) (by decide))) rfl rfl (ck_settle (d := (d + 12)) h1   ) ?_
                  rintro v439 S440 ⟨rfl, h442, h443, h444, h445⟩
                  have h443_ : iv S440 8 1 = iv S 8 1 := h443
                  have h444_ : iv S440 10 1 = iv S 10 1 := h444
                  have h445_ : iv S440 14 1 = iv S 14 1 := h445
                  obtain ⟨h447, h448, ⟨h449, h450, h451, h452⟩, ⟨h453, h454, h455⟩, h457⟩ := h442
                  have h458 : kd aw S440 = kd aw S := kd_eq h449 h452
                  have h459 := os_5 h453 1
                  have h460 := os_13 h453 1
                  show am_E _ _ _ _ [some (.ref 7), some (.int f), some (.int n), some (.int v13)] [] _ _
                  refine am_e2 (v := 7) hi_60_93 rfl ?_
                  refine am_e32t (as := [.ref 7]) (la := [some (.ref 7), none]) (rest := []) hi_60_94 (am_hd0 (M := 60) (by decide) 94) (Nat.le_of_ble_eq_true rfl) (Nat.le_of_ble_eq_true rfl) (show 1 ≤ am_P0.2.2.1 110 from by decide +kernel) rfl (cl_recv (h447.1.s (7, 6) (by decide))) rfl rfl (ck_fieldStep (d := (d + 1)) h447   (by show 0 ≤ nx S440; omega) (by show nx S440 ≤ wr S440; omega) (by show wr S440 ≤ 600; omega) (by show 0 ≤ lv S440; omega) (by show lv S440 ≤ 48; omega) (by show kd aw S440 = 70 ∨ kd aw S440 = 68; omega)) (fun S476 h477 => hq S476 (show TH aw 2160 Sb S476 from ⟨h477.1, (h2.trans h448).trans h477.2.1, ⟨(by have q := h477.2.2.1.1; omega), h477.2.2.1.2.trans (h452.trans h6)⟩, h477.2.2.2.1, h477.2.2.2.2.1, (by have q := h477.2.2.2.2.2; omega)⟩)) ?_
                  rintro v461 S462 ⟨r463, rfl, h464, h465, h466, h467⟩
                  have h465_ : nx S440 + 2 ≤ nx S462 := h465
                  have h466_ : nx S462 ≤ wr S462 := h466
                  have h467_ : lv S462 = lv S440 + 0 := h467
                  obtain ⟨h478, h479, ⟨h482, h483⟩, ⟨h484, h485, h486⟩, h487, h488⟩ := h464
                  have h489 := h487 8 (h447.1.s (8, 3) (by decide))
                  have h490 := h487 10 (h447.1.s (10, 3) (by decide))
                  have h491 := os_5 h484 1
                  have h492 := os_13 h484 1
                  show am_E _ _ _ _ [some (.ref 7), some (.int f), some (.int n), some (.int v13)] [.int r463] _ _
                  refine am_e3 (ls' := [some (.ref 7), some (.int r463), some (.int n), some (.int v13)]) hi_60_97 (Nat.le_of_ble_eq_true rfl) rfl ?_
                  refine am_e18 hi_60_98 ?_
                  obtain ⟨z493, hz493, tz493⟩ := am_addI (x := n) (y := 1) (m := n.toInt) (n := (1 : Int)) rfl (by decide) (by omega) (by omega)
                  refine am_e5 (v := n) (z := z493) (ls' := [some (.ref 7), some (.int r463), some (.int z493), some (.int v13)]) hi_60_195 rfl hz493 rfl ?_
                  refine am_e18 hi_60_198 ?_
                  exact ih _ (some (.int v13)) r463 z493 ⟨h478, ((h2.trans h448).trans h479), ⟨(by show wr S462 = wr Sb; omega), (h483.trans (h452.trans h6))⟩, ⟨(by show iv S462 13 1 = iv Sb 13 1; omega), (by show iv S462 5 1 - nx S462 ≤ iv Sb 5 1 - nx Sb; omega)⟩⟩ (by show nx Sb + 0 ≤ nx S462; omega) (by show nx S462 ≤ wr S462; omega) (by show lv S462 = lv Sb + 0; omega) (by show EN S462 + -10000 * nx S462 ≤ EN Sb + -10000 * nx Sb + 0; omega) (by show iv Sb 8 1 ≤ iv S462 8 1; omega) (by show iv Sb 10 1 ≤ iv S462 10 1; omega) (by show 2147483647 - z493.toInt < (N : Int); omega)
                · have c438_ : True := trivial
                  refine am_e19 (t := 193) hi_60_29 (am_swK (v := r16) (ks := [3, 60, 62, 64, 68, 70]) (by decide) (by intro k hk; simp only [List.mem_cons, List.not_mem_nil, or_false] at hk; rcases hk with rfl | rfl | rfl | rfl | rfl | rfl <;> omega)) ?_
                  exact hx0 _ (some (.int v13)) f n ⟨h1, h2, ⟨(by show wr S = wr Sb; omega), h6⟩, ⟨(by show iv S 13 1 = iv Sb 13 1; omega), (by show iv S 5 1 - nx S ≤ iv Sb 5 1 - nx Sb; omega)⟩⟩ (by show nx Sb + 0 ≤ nx S; omega) (by show nx S ≤ wr S; omega) (by show lv S = lv Sb + 0; omega) (by show EN S + -10000 * nx S ≤ EN Sb + -10000 * nx Sb + 0; omega) (by show iv Sb 8 1 ≤ iv S 8 1; omega) (by show iv Sb 10 1 ≤ iv S 10 1; omega)
theorem cr_prefix {sc : Nat × (Nat → Int32)} {d aw NN : Nat} {S : am_S} (h : SH aw S) (ihR : RC sc aw NN) (hN : 48 - lv S < (NN : Int) + 1) (hd : (30 : Int) * (48 - lv S) ≤ (d : Int)) (p0 : 0 ≤ nx S) (p1 : nx S ≤ wr S) (p2 : wr S ≤ 600) (p3 : 0 ≤ lv S) (p4 : lv S ≤ 48) (p5 : 1 ≤ iv S 13 1) (p6 : iv S 13 1 ≤ lv S + 1) (p7 : iv S 5 1 ≤ nx S + 1) : am_E (am_PP sc) (d + 17) 60 0 [some (.ref 7), none, none, none] [] S (am_T (fun v S1 => ∃ r : Int32, v = some (.int r) ∧ Ad aw S S1 ∧ (nx S + 1 ≤ nx S1) ∧ (nx S1 ≤ wr S1) ∧ (lv S1 = lv S + 0) ∧ (EN S1 + -10000 * nx S1 ≤ EN S + -10000 * nx S + (-2160)) ∧ (iv S 8 1 ≤ iv S1 8 1) ∧ (iv S 10 1 ≤ iv S1 10 1)) (fun S1 => TH aw 2000 S S1)) := by
  refine am_e2 (v := 7) hi_60_0 rfl ?_
  refine am_e32q (d1 := d + 0 + 16) (by omega) (as := [.ref 7]) (la := [some (.ref 7)]) (rest := []) hi_60_1 (am_hd0 (M := 60) (by decide) 1) (Nat.le_of_ble_eq_true rfl) (Nat.le_of_ble_eq_true rfl) (show 1 ≤ am_P0.2.2.1 61 from by decide +kernel) rfl (cl_recv (h.1.s (7, 6) (by decide))) rfl rfl (cr_head (d := d + 0) h  ihR (by show 48 - lv S < (NN : Int) + 1; omega) (by show (30 : Int) * (48 - lv S) ≤ ((d + 0 : Nat) : Int); omega) (by show 0 ≤ nx S; omega) (by show nx S ≤ wr S; omega) (by show wr S ≤ 600; omega) (by show 0 ≤ lv S; omega) (by show lv S ≤ 48; omega) (by show 1 ≤ iv S 13 1; omega) (by show iv S 13 1 ≤ lv S + 1; omega) (by show iv S 5 1 ≤ nx S + 1; omega)) (fun S12 h13 => (show TH aw 2000 S S12 from ⟨h13.1, (Ex.refl S).trans h13.2.1, ⟨(by have q := h13.2.2.1.1; omega), h13.2.2.1.2.trans rfl⟩, h13.2.2.2.1, h13.2.2.2.2.1, (by have q := h13.2.2.2.2.2; omega)⟩)) ?_
  rintro v1 S2 ⟨r3, rfl, h4, h5, h6, h7, h8, h9, h10⟩
  have h5_ : nx S + 1 ≤ nx S2 := h5
  have h6_ : nx S2 ≤ wr S2 := h6
  have h7_ : lv S2 = lv S + 0 := h7
  have h8_ : EN S2 + -10000 * nx S2 ≤ EN S + -10000 * nx S + (-2160) := h8
  have h9_ : iv S 8 1 ≤ iv S2 8 1 := h9
  have h10_ : iv S 10 1 ≤ iv S2 10 1 := h10
  obtain ⟨h14, h15, ⟨h18, h19⟩, ⟨h20, h21⟩⟩ := h4
  show am_E _ _ _ _ [some (.ref 7), none, none, none] [.int r3] _ _
  refine am_e3 (ls' := [some (.ref 7), some (.int r3), none, none]) hi_60_4 (Nat.le_of_ble_eq_true rfl) rfl ?_
  refine am_e0 hi_60_5 ?_
  refine am_e3 (ls' := [some (.ref 7), some (.int r3), some (.int 0), none]) hi_60_6 (Nat.le_of_ble_eq_true rfl) rfl ?_
  refine cg_prefix (d := d) (Sb := S2) h14  ihR (by show 48 - lv S2 < (NN : Int) + 1; omega) (by show (30 : Int) * (48 - lv S2) ≤ ((d : Nat) : Int); omega) (by show 0 ≤ nx S2; omega) (by show nx S2 ≤ wr S2; omega) (by show wr S2 ≤ 600; omega) (by show 0 ≤ lv S2; omega) (by show lv S2 ≤ 48; omega) (by show 1 ≤ iv S2 13 1; omega) (by show iv S2 13 1 ≤ lv S2 + 1; omega) (by show iv S2 5 1 ≤ nx S2 + 1; omega) (fun S25 h26 => (show TH aw 2000 S S25 from ⟨h26.1, h15.trans h26.2.1, ⟨(by have q := h26.2.2.1.1; omega), h26.2.2.1.2.trans h19⟩, h26.2.2.2.1, h26.2.2.2.2.1, (by have q := h26.2.2.2.2.2; omega)⟩)) ?_ ?_ ((2147483647 - (0 : Int)).toNat + 1) S2 none r3 0 ⟨h14, Ex.refl _, ⟨rfl, rfl⟩, ⟨rfl, Int.le_refl _⟩⟩ (by show nx S2 + 0 ≤ nx S2; omega) (by show nx S2 ≤ wr S2; omega) (by show lv S2 = lv S2 + 0; omega) (by show EN S2 + -10000 * nx S2 ≤ EN S2 + -10000 * nx S2 + 0; omega) (by show iv S2 8 1 ≤ iv S2 8 1; omega) (by show iv S2 10 1 ≤ iv S2 10 1; omega) (by show 2147483647 - (0 : Int) < _; omega)
  · intro S29 x337 f27 n28 h30 h31 h32 h33 h34 h35 h36
    have h31_ : nx S2 + 0 ≤ nx S29 := h31
    have h32_ : nx S29 ≤ wr S29 := h32
    have h33_ : lv S29 = lv S2 + 0 := h33
    have h34_ : EN S29 + -10000 * nx S29 ≤ EN S2 + -10000 * nx S2 + 0 := h34
    have h35_ : iv S2 8 1 ≤ iv S29 8 1 := h35
    have h36_ : iv S2 10 1 ≤ iv S29 10 1 := h36
    obtain ⟨h38, h39, ⟨h42, h43⟩, ⟨h44, h45⟩⟩ := h30
    show am_E _ _ _ _ [some (.ref 7), some (.int f27), some (.int n28), x337] [] _ _
    refine am_e1 (v := f27) hi_60_193 rfl ?_
    refine am_e33 hi_60_194 ?_
    exact ⟨f27, rfl, ⟨h38, (h15.trans h39), ⟨(by show wr S29 = wr S; omega), (h43.trans h19)⟩, ⟨(by show iv S29 13 1 = iv S 13 1; omega), (by show iv S29 5 1 - nx S29 ≤ iv S 5 1 - nx S; omega)⟩⟩, (by show nx S + 1 ≤ nx S29; omega), (by show nx S29 ≤ wr S29; omega), (by show lv S29 = lv S + 0; omega), (by show EN S29 + -10000 * nx S29 ≤ EN S + -10000 * nx S + (-2160); omega), (by show iv S 8 1 ≤ iv S29 8 1; omega), (by show iv S 10 1 ≤ iv S29 10 1; omega)⟩
  · intro S51 x359 f49 n50 h52 h53 h54 h55 h56 h57 h58
    have h53_ : nx S2 + 0 ≤ nx S51 := h53
    have h54_ : nx S51 ≤ wr S51 := h54
    have h55_ : lv S51 = lv S2 + 0 := h55
    have h56_ : EN S51 + -10000 * nx S51 ≤ EN S2 + -10000 * nx S2 + 0 := h56
    have h57_ : iv S2 8 1 ≤ iv S51 8 1 := h57
    have h58_ : iv S2 10 1 ≤ iv S51 10 1 := h58
    obtain ⟨h60, h61, ⟨h64, h65⟩, ⟨h66, h67⟩⟩ := h52
    show am_E _ _ _ _ [some (.ref 7), some (.int f49), some (.int n50), x359] [] _ _
    refine am_e1 (v := f49) hi_60_201 rfl ?_
    refine am_e33 hi_60_202 ?_
    exact ⟨f49, rfl, ⟨h60, (h15.trans h61), ⟨(by show wr S51 = wr S; omega), (h65.trans h19)⟩, ⟨(by show iv S51 13 1 = iv S 13 1; omega), (by show iv S51 5 1 - nx S51 ≤ iv S 5 1 - nx S; omega)⟩⟩, (by show nx S + 1 ≤ nx S51; omega), (by show nx S51 ≤ wr S51; omega), (by show lv S51 = lv S + 0; omega), (by show EN S51 + -10000 * nx S51 ≤ EN S + -10000 * nx S + (-2160); omega), (by show iv S 8 1 ≤ iv S51 8 1; omega), (by show iv S 10 1 ≤ iv S51 10 1; omega)⟩
theorem cg_expr {sc : Nat × (Nat → Int32)} {d aw NN : Nat} {Sb : am_S} {b : Int32} {Q : Option (Option Value) → am_S → Prop} (h : SH aw Sb) (ihR : RC sc aw NN) (hN : 48 - lv Sb < (NN : Int) + 1) (hd : (30 : Int) * (48 - lv Sb) ≤ (d : Int)) (p0 : 0 ≤ nx Sb) (p1 : nx Sb ≤ wr Sb) (p2 : wr Sb ≤ 600) (p3 : 0 ≤ lv Sb) (p4 : lv Sb ≤ 48) (p5 : 1 ≤ iv Sb 13 1) (p6 : iv Sb 13 1 ≤ lv Sb + 1) (p7 : iv Sb 5 1 ≤ nx Sb + 1) (p8 : 0 ≤ b.toInt) (p9 : b.toInt = iv Sb 8 1) (hq : ∀ S1, TH aw 2000 Sb S1 → Q none S1) (hx0 : ∀ (S : am_S) (x5 : Option Value) (w m n : Int32), Ad aw Sb S → (w = 0 ∨ w = 1) → (m = 0 ∨ m = 1) → (nx Sb + 1 ≤ nx S) → (nx S ≤ wr S) → (lv S = lv Sb + 0) → (EN S + -10000 * nx S ≤ EN Sb + -10000 * nx Sb + (-2000)) → (iv Sb 8 1 ≤ iv S 8 1) → (iv Sb 10 1 ≤ iv S 10 1) → (b.toInt ≤ iv S 8 1) → am_E (am_PP sc) (d + 18) 70 181 [some (.ref 7), some (.int b), some (.int w), some (.int m), some (.int n), x5] [] S Q) : ∀ (N : Nat) (S : am_S) (x5 : Option Value) (w m n : Int32), Ad aw Sb S → (w = 0 ∨ w = 1) → (m = 0 ∨ m = 1) → (nx Sb + 0 ≤ nx S) → (nx S ≤ wr S) → (lv S = lv Sb + 0) → (EN S + -10000 * nx S ≤ EN Sb + -10000 * nx Sb + 0) → (iv Sb 8 1 ≤ iv S 8 1) → (iv Sb 10 1 ≤ iv S 10 1) → (b.toInt ≤ iv S 8 1) → ((n.toInt = 0 ∧ m.toInt = 1) ∨ (nx Sb + 1 ≤ nx S ∧ EN S + -10000 * nx S ≤ EN Sb + -10000 * nx Sb + (-2000))) → 2147483647 - n.toInt < (N : Int) → am_E (am_PP sc) (d + 18) 70 15 [some (.ref 7), some (.int b), some (.int w), some (.int m), some (.int n), x5] [] S Q := by
  intro N
  induction N with
  | zero =>
    intro S x5 w m n hrel hB_w hB_m i0 i1 i2 i3 i4 i5 i6 i7 hN
    have := i32_le w
    have := i32_le m
    have := i32_le n
    have := i32_ge w
    have := i32_ge m
    have := i32_ge n
    exfalso
    omega
  | succ N ih =>
    intro S x5 w m n hrel hB_w hB_m i0 i1 i2 i3 i4 i5 i6 i7 hN
    have hB_w_ : w.toInt = 0 ∨ w.toInt = 1 := hB_w.elim (fun e => Or.inl (by rw [e]; rfl)) (fun e => Or.inr (by rw [e]; rfl))
    have hB_m_ : m.toInt = 0 ∨ m.toInt = 1 := hB_m.elim (fun e => Or.inl (by rw [e]; rfl)) (fun e => Or.inr (by rw [e]; rfl))
    have hl_w := i32_le w
    have hg_w := i32_ge w
    have hl_m := i32_le m
    have hg_m := i32_ge m
    have hl_n := i32_le n
    have hg_n := i32_ge n
    obtain ⟨h1, h2, ⟨h5, h6⟩, ⟨h7, h8⟩⟩ := hrel
    refine am_e1 (v := m) hi_70_15 rfl ?_
    by_cases c12 : m.toInt = (0 : Int)
    · refine am_e12t hi_70_16 (am_cT (m := m.toInt) (n := (0 : Int)) rfl (by decide) c12) ?_
      exact hx0 _ x5 w m n ⟨h1, h2, ⟨(by show wr S = wr Sb; omega), h6⟩, ⟨(by show iv S 13 1 = iv Sb 13 1; omega), (by show iv S 5 1 - nx S ≤ iv Sb 5 1 - nx Sb; omega)⟩⟩ hB_w hB_m (by show nx Sb + 1 ≤ nx S; omega) (by show nx S ≤ wr S; omega) (by show lv S = lv Sb + 0; omega) (by show EN S + -10000 * nx S ≤ EN Sb + -10000 * nx Sb + (-2000); omega) (by show iv Sb 8 1 ≤ iv S 8 1; omega) (by show iv Sb 10 1 ≤ iv S 10 1; omega) (by show b.toInt ≤ iv S 8 1; omega)
    · refine am_e12f hi_70_16 (am_cF (m := m.toInt) (n := (0 : Int)) rfl (by decide) c12) ?_
      refine am_e1 (v := n) hi_70_19 rfl ?_
      refine am_e0 hi_70_21 ?_
      by_cases c13 : (16384 : Int) < n.toInt
      · refine am_e13t hi_70_24 (am_cT (m := n.toInt) (n := (16384 : Int)) rfl (by decide) c13) ?_
        exact hx0 _ x5 w m n ⟨h1, h2, ⟨(by show wr S = wr Sb; omega), h6⟩, ⟨(by show iv S 13 1 = iv Sb 13 1; omega), (by show iv S 5 1 - nx S ≤ iv Sb 5 1 - nx Sb; omega)⟩⟩ hB_w hB_m (by show nx Sb + 1 ≤ nx S; omega) (by show nx S ≤ wr S; omega) (by show lv S = lv Sb + 0; omega) (by show EN S + -10000 * nx S ≤ EN Sb + -10000 * nx Sb + (-2000); omega) (by show iv Sb 8 1 ≤ iv S 8 1; omega) (by show iv Sb 10 1 ≤ iv S 10 1; omega) (by show b.toInt ≤ iv S 8 1; omega)
      · refine am_e13f hi_70_24 (am_cF (m := n.toInt) (n := (16384 : Int)) rfl (by decide) c13) ?_
        refine am_e2 (v := 7) hi_70_27 rfl ?_
        refine am_e32t (as := [.ref 7]) (la := [some (.ref 7), none]) (rest := []) hi_70_28 (am_hd0 (M := 70) (by decide) 28) (Nat.le_of_ble_eq_true rfl) (Nat.le_of_ble_eq_true rfl) (show 1 ≤ am_P0.2.2.1 71 from by decide +kernel) rfl (cl_recv (h1.1.s (7, 6) (by decide))) rfl rfl (ck_unaryOps (d := (d + 3)) h1   (by show 0 ≤ nx S; omega) (by show nx S ≤ wr S; omega) (by show wr S ≤ 600; omega) (by show 0 ≤ lv S; omega) (by show lv S ≤ 48; omega)) (fun S33 h34 => hq S33 (show TH aw 2000 Sb S33 from ⟨h34.1, h2.trans h34.2.1, ⟨(by have q := h34.2.2.1.1; omega), h34.2.2.1.2.trans h6⟩, h34.2.2.2.1, h34.2.2.2.2.1, (by have q := h34.2.2.2.2.2; omega)⟩)) ?_
        rintro v14 S15 ⟨rfl, h17, h18, h19, h20, h21, h22, h23, h24⟩
        have h18_ : nx S + 0 ≤ nx S15 := h18
        have h19_ : nx S15 ≤ wr S15 := h19
        have h20_ : lv S15 = lv S + 0 := h20
        have h21_ : EN S15 + -10000 * nx S15 ≤ EN S + -10000 * nx S + 0 := h21
        have h22_ : iv S 8 1 ≤ iv S15 8 1 := h22
        have h23_ : iv S15 10 1 = iv S 10 1 := h23
        have h24_ : iv S15 14 1 = iv S 14 1 := h24
        obtain ⟨h35, h36, ⟨h37, h38⟩, ⟨h39, h40, h41⟩⟩ := h17
        have h42 := os_5 h39 1
        have h43 := os_13 h39 1
        show am_E _ _ _ _ [some (.ref 7), some (.int b), some (.int w), some (.int m), some (.int n), x5] [] _ _
        refine am_e0 hi_70_31 ?_
        refine am_e3 (ls' := [some (.ref 7), some (.int b), some (.int w), some (.int m), some (.int n), some (.int 0)]) hi_70_32 (Nat.le_of_ble_eq_true rfl) rfl ?_
        refine am_e0 hi_70_34 ?_
        refine am_e3 (ls' := [some (.ref 7), some (.int b), some (.int 0), some (.int m), some (.int n), some (.int 0)]) hi_70_35 (Nat.le_of_ble_eq_true rfl) rfl ?_
        refine am_e2 (v := 7) hi_70_36 rfl ?_
        refine cm_20f (r := 2) h35 hi_70_37 (h35.1.s (7, 6) (by decide)) (by decide) rfl ?_
        refine am_e32n (as := [.ref 2]) (la := [some (.ref 2)]) (rest := []) hi_70_40 (am_hd0 (M := 70) (by decide) 40) (Nat.le_of_ble_eq_true rfl) (Nat.le_of_ble_eq_true rfl) (show 1 ≤ am_P0.2.2.1 53 from by decide +kernel) rfl (cl_recv (h35.1.s (2, 2) (by decide))) rfl rfl (ck_kind (d := (d + 16)) h35   ) ?_
        rintro v44 S45 ⟨r46, rfl, rfl, h48⟩
        have h48_ : r46.toInt = kd aw S15 := h48
        show am_E _ _ _ _ [some (.ref 7), some (.int b), some (.int 0), some (.int m), some (.int n), some (.int 0)] [.int r46] _ _
        by_cases c50 : r46.toInt = 1
        · refine am_e19 (t := 116) hi_70_43 (am_swI (v := r46) (w := 1) (by decide) (by decide) c50) ?_
          refine am_e2 (v := 7) hi_70_116 rfl ?_
          refine am_e32q (d1 := d + 0 + 17) (by omega) (as := [.ref 7]) (la := [some (.ref 7), none, none, none]) (rest := []) hi_70_117 (am_hd0 (M := 70) (by decide) 117) (Nat.le_of_ble_eq_true rfl) (Nat.le_of_ble_eq_true rfl) (show 1 ≤ am_P0.2.2.1 60 from by decide +kernel) rfl (cl_recv (h35.1.s (7, 6) (by decide))) rfl rfl (cr_prefix (d := d + 0) h35  ihR (by show 48 - lv S15 < (NN : Int) + 1; omega) (by show (30 : Int) * (48 - lv S15) ≤ ((d + 0 : Nat) : Int); omega) (by show 0 ≤ nx S15; omega) (by show nx S15 ≤ wr S15; omega) (by show wr S15 ≤ 600; omega) (by show 0 ≤ lv S15; omega) (by show lv S15 ≤ 48; omega) (by show 1 ≤ iv S15 13 1; omega) (by show iv S15 13 1 ≤ lv S15 + 1; omega) (by show iv S15 5 1 ≤ nx S15 + 1; omega)) (fun S62 h63 => hq S62 (show TH aw 2000 Sb S62 from ⟨h63.1, (h2.trans h36).trans h63.2.1, ⟨(by have q := h63.2.2.1.1; omega), h63.2.2.1.2.trans (h38.trans h6)⟩, h63.2.2.2.1, h63.2.2.2.2.1, (by have q := h63.2.2.2.2.2; omega)⟩)) ?_
          rintro v51 S52 ⟨r53, rfl, h54, h55, h56, h57, h58, h59, h60⟩
          have h55_ : nx S15 + 1 ≤ nx S52 := h55
          have h56_ : nx S52 ≤ wr S52 := h56
          have h57_ : lv S52 = lv S15 + 0 := h57
          have h58_ : EN S52 + -10000 * nx S52 ≤ EN S15 + -10000 * nx S15 + (-2160) := h58
          have h59_ : iv S15 8 1 ≤ iv S52 8 1 := h59
          have h60_ : iv S15 10 1 ≤ iv S52 10 1 := h60
          obtain ⟨h64, h65, ⟨h68, h69⟩, ⟨h70, h71⟩⟩ := h54
          show am_E _ _ _ _ [some (.ref 7), some (.int b), some (.int 0), some (.int m), some (.int n), some (.int 0)] [.int r53] _ _
          refine am_e3 (ls' := [some (.ref 7), some (.int b), some (.int 0), some (.int m), some (.int n), some (.int r53)]) hi_70_120 (Nat.le_of_ble_eq_true rfl) rfl ?_
          refine am_e2 (v := 7) hi_70_122 rfl ?_
          refine am_e1 (v := r53) hi_70_123 rfl ?_
          refine am_e32n (as := [.ref 7, .int r53]) (la := [some (.ref 7), some (.int r53)]) (rest := []) hi_70_125 (am_hd0 (M := 70) (by decide) 125) (Nat.le_of_ble_eq_true rfl) (Nat.le_of_ble_eq_true rfl) (show 2 ≤ am_P0.2.2.1 100 from by decide +kernel) rfl (cl_recv (h64.1.s (7, 6) (by decide))) rfl rfl (ck_settle (d := (d + 13)) h64   ) ?_
          rintro v75 S76 ⟨rfl, h78, h79, h80, h81⟩
          have h79_ : iv S76 8 1 = iv S52 8 1 := h79
          have h80_ : iv S76 10 1 = iv S52 10 1 := h80
          have h81_ : iv S76 14 1 = iv S52 14 1 := h81
          obtain ⟨h83, h84, ⟨h85, h86, h87, h88⟩, ⟨h89, h90, h91⟩, h93⟩ := h78
          have h94 : kd aw S76 = kd aw S52 := kd_eq h85 h88
          have h95 := os_5 h89 1
          have h96 := os_13 h89 1
          show am_E _ _ _ _ [some (.ref 7), some (.int b), some (.int 0), some (.int m), some (.int n), some (.int r53)] [] _ _
          refine am_e1 (v := r53) hi_70_128 rfl ?_
          refine am_e0 hi_70_130 ?_
          by_cases c97 : ¬ r53.toInt = (4 : Int)
          · refine am_e13t hi_70_131 (am_cT (m := r53.toInt) (n := (4 : Int)) rfl (by decide) c97) ?_
            refine am_e0 hi_70_138 ?_
            refine am_e3 (ls' := [some (.ref 7), some (.int b), some (.int 0), some (.int m), some (.int n), some (.int r53)]) hi_70_139 (Nat.le_of_ble_eq_true rfl) rfl ?_
            refine am_e18 hi_70_140 ?_
            refine am_e1 (v := 0) hi_70_148 rfl ?_
            refine am_e12t hi_70_149 (by decide) ?_
            refine am_e0 hi_70_167 ?_
            refine am_e3 (ls' := [some (.ref 7), some (.int b), some (.int 0), some (.int m), some (.int n), some (.int r53)]) hi_70_168 (Nat.le_of_ble_eq_true rfl) rfl ?_
            refine am_e2 (v := 7) hi_70_169 rfl ?_
            refine am_e1 (v := b) hi_70_170 rfl ?_
            refine am_e32t (as := [.ref 7, .int b]) (la := [some (.ref 7), some (.int b), none, none, none]) (rest := []) hi_70_171 (am_hd0 (M := 70) (by decide) 171) (Nat.le_of_ble_eq_true rfl) (Nat.le_of_ble_eq_true rfl) (show 2 ≤ am_P0.2.2.1 105 from by decide +kernel) rfl (cl_recv (h83.1.s (7, 6) (by decide))) rfl rfl (ck_binaryOp (d := (d + 3)) h83   (by show 0 ≤ nx S76; omega) (by show nx S76 ≤ wr S76; omega) (by show wr S76 ≤ 600; omega) (by show 0 ≤ lv S76; omega) (by show lv S76 ≤ 48; omega) (by show 0 ≤ b.toInt; omega) (by show b.toInt ≤ iv S76 8 1; omega)) (fun S117 h118 => hq S117 (show TH aw 2000 Sb S117 from ⟨h118.1, (((h2.trans h36).trans h65).trans h84).trans h118.2.1, ⟨(by have q := h118.2.2.1.1; omega), h118.2.2.1.2.trans (h88.trans (h69.trans (h38.trans h6)))⟩, h118.2.2.2.1, h118.2.2.2.2.1, (by have q := h118.2.2.2.2.2; omega)⟩)) ?_
            rintro v98 S99 ⟨r100, rfl, hb109, h101, h102, h103, h104, h105, h106, h107, h108⟩
            have h102_ : nx S76 + 0 ≤ nx S99 := h102
            have h103_ : nx S99 ≤ wr S99 := h103
            have h104_ : lv S99 = lv S76 + 0 := h104
            have h105_ : EN S99 + -10000 * nx S99 ≤ EN S76 + -10000 * nx S76 + 0 := h105
            have h106_ : b.toInt ≤ iv S99 8 1 := h106
            have h107_ : iv S99 10 1 = iv S76 10 1 := h107
            have h108_ : iv S99 14 1 = iv S76 14 1 := h108
            obtain ⟨h119, h120, ⟨h121, h122⟩, ⟨h123, h124, h125⟩⟩ := h101
            have h126 := os_5 h123 1
            have h127 := os_13 h123 1
            have hb109_ : r100.toInt = 0 ∨ r100.toInt = 1 := hb109.elim (fun e => Or.inl (by rw [e]; rfl)) (fun e => Or.inr (by rw [e]; rfl))
            show am_E _ _ _ _ [some (.ref 7), some (.int b), some (.int 0), some (.int m), some (.int n), some (.int r53)] [.int r100] _ _
            refine am_e3 (ls' := [some (.ref 7), some (.int b), some (.int 0), some (.int r100), some (.int n), some (.int r53)]) hi_70_174 (Nat.le_of_ble_eq_true rfl) rfl ?_
            obtain ⟨z128, hz128, tz128⟩ := am_addI (x := n) (y := 1) (m := n.toInt) (n := (1 : Int)) rfl (by decide) (by omega) (by omega)
            refine am_e5 (v := n) (z := z128) (ls' := [some (.ref 7), some (.int b), some (.int 0), some (.int r100), some (.int z128), some (.int r53)]) hi_70_175 rfl hz128 rfl ?_
            refine am_e18 hi_70_178 ?_
            exact ih _ (some (.int r53)) 0 r100 z128 ⟨h119, ((((h2.trans h36).trans h65).trans h84).trans h120), ⟨(by show wr S99 = wr Sb; omega), (h122.trans (h88.trans (h69.trans (h38.trans h6))))⟩, ⟨(by show iv S99 13 1 = iv Sb 13 1; omega), (by show iv S99 5 1 - nx S99 ≤ iv Sb 5 1 - nx Sb; omega)⟩⟩ (by decide) hb109 (by show nx Sb + 0 ≤ nx S99; omega) (by show nx S99 ≤ wr S99; omega) (by show lv S99 = lv Sb + 0; omega) (by show EN S99 + -10000 * nx S99 ≤ EN Sb + -10000 * nx Sb + 0; omega) (by show iv Sb 8 1 ≤ iv S99 8 1; omega) (by show iv Sb 10 1 ≤ iv S99 10 1; omega) (by show b.toInt ≤ iv S99 8 1; omega) (by show (z128.toInt = 0 ∧ r100.toInt = 1) ∨ (nx Sb + 1 ≤ nx S99 ∧ EN S99 + -10000 * nx S99 ≤ EN Sb + -10000 * nx Sb + (-2000)); omega) (by show 2147483647 - z128.toInt < (N : Int); omega)
          · refine am_e13f hi_70_131 (am_cF (m := r53.toInt) (n := (4 : Int)) rfl (by decide) c97) ?_
            refine am_e0 hi_70_134 ?_
            refine am_e18 hi_70_135 ?_
            refine am_e3 (ls' := [some (.ref 7), some (.int b), some (.int 1), some (.int m), some (.int n), some (.int r53)]) hi_70_139 (Nat.le_of_ble_eq_true rfl) rfl ?_
            refine am_e18 hi_70_140 ?_
            refine am_e1 (v := 1) hi_70_148 rfl ?_
            refine am_e12f hi_70_149 (by decide) ?_
            refine am_e2 (v := 7) hi_70_152 rfl ?_
            refine cm_20f (r := 8) h83 hi_70_153 (h83.1.s (7, 6) (by decide)) (by decide) rfl ?_
            refine am_e32n (as := [.ref 8]) (la := [some (.ref 8)]) (rest := []) hi_70_156 (am_hd0 (M := 70) (by decide) 156) (Nat.le_of_ble_eq_true rfl) (Nat.le_of_ble_eq_true rfl) (show 1 ≤ am_P0.2.2.1 36 from by decide +kernel) rfl (cl_recv (h83.1.s (8, 3) (by decide))) rfl rfl (ck_rows (d := (d + 17)) h83 (h83.1.s (8, 3) (by decide))  ) ?_
            rintro v129 S130 ⟨r131, rfl, rfl, h133, h134, h135⟩
            have h133_ : r131.toInt = iv S76 8 1 := h133
            have h134_ : 0 ≤ r131.toInt := h134
            have h135_ : r131.toInt ≤ 2097154 := h135
            show am_E _ _ _ _ [some (.ref 7), some (.int b), some (.int 1), some (.int m), some (.int n), some (.int r53)] [.int r131] _ _
            refine am_e1 (v := b) hi_70_159 rfl ?_
            by_cases c137 : ¬ r131.toInt = b.toInt
            · refine am_e13t hi_70_160 (am_cT (m := r131.toInt) (n := b.toInt) rfl rfl c137) ?_
              refine am_e0 hi_70_167 ?_
              refine am_e3 (ls' := [some (.ref 7), some (.int b), some (.int 0), some (.int m), some (.int n), some (.int r53)]) hi_70_168 (Nat.le_of_ble_eq_true rfl) rfl ?_
              refine am_e2 (v := 7) hi_70_169 rfl ?_
              refine am_e1 (v := b) hi_70_170 rfl ?_
              refine am_e32t (as := [.ref 7, .int b]) (la := [some (.ref 7), some (.int b), none, none, none]) (rest := []) hi_70_171 (am_hd0 (M := 70) (by decide) 171) (Nat.le_of_ble_eq_true rfl) (Nat.le_of_ble_eq_true rfl) (show 2 ≤ am_P0.2.2.1 105 from by decide +kernel) rfl (cl_recv (h83.1.s (7, 6) (by decide))) rfl rfl (ck_binaryOp (d := (d + 3)) h83   (by show 0 ≤ nx S76; omega) (by show nx S76 ≤ wr S76; omega) (by show wr S76 ≤ 600; omega) (by show 0 ≤ lv S76; omega) (by show lv S76 ≤ 48; omega) (by show 0 ≤ b.toInt; omega) (by show b.toInt ≤ iv S76 8 1; omega)) (fun S157 h158 => hq S157 (show TH aw 2000 Sb S157 from ⟨h158.1, (((h2.trans h36).trans h65).trans h84).trans h158.2.1, ⟨(by have q := h158.2.2.1.1; omega), h158.2.2.1.2.trans (h88.trans (h69.trans (h38.trans h6)))⟩, h158.2.2.2.1, h158.2.2.2.2.1, (by have q := h158.2.2.2.2.2; omega)⟩)) ?_
              rintro v138 S139 ⟨r140, rfl, hb149, h141, h142, h143, h144, h145, h146, h147, h148⟩
              have h142_ : nx S76 + 0 ≤ nx S139 := h142
              have h143_ : nx S139 ≤ wr S139 := h143
              have h144_ : lv S139 = lv S76 + 0 := h144
              have h145_ : EN S139 + -10000 * nx S139 ≤ EN S76 + -10000 * nx S76 + 0 := h145
              have h146_ : b.toInt ≤ iv S139 8 1 := h146
              have h147_ : iv S139 10 1 = iv S76 10 1 := h147
              have h148_ : iv S139 14 1 = iv S76 14 1 := h148
              obtain ⟨h159, h160, ⟨h161, h162⟩, ⟨h163, h164, h165⟩⟩ := h141
              have h166 := os_5 h163 1
              have h167 := os_13 h163 1
              have hb149_ : r140.toInt = 0 ∨ r140.toInt = 1 := hb149.elim (fun e => Or.inl (by rw [e]; rfl)) (fun e => Or.inr (by rw [e]; rfl))
              show am_E _ _ _ _ [some (.ref 7), some (.int b), some (.int 0), some (.int m), some (.int n), some (.int r53)] [.int r140] _ _
              refine am_e3 (ls' := [some (.ref 7), some (.int b), some (.int 0), some (.int r140), some (.int n), some (.int r53)]) hi_70_174 (Nat.le_of_ble_eq_true rfl) rfl ?_
              obtain ⟨z168, hz168, tz168⟩ := am_addI (x := n) (y := 1) (m := n.toInt) (n := (1 : Int)) rfl (by decide) (by omega) (by omega)
              refine am_e5 (v := n) (z := z168) (ls' := [some (.ref 7), some (.int b), some (.int 0), some (.int r140), some (.int z168), some (.int r53)]) hi_70_175 rfl hz168 rfl ?_
              refine am_e18 hi_70_178 ?_
              exact ih _ (some (.int r53)) 0 r140 z168 ⟨h159, ((((h2.trans h36).trans h65).trans h84).trans h160), ⟨(by show wr S139 = wr Sb; omega), (h162.trans (h88.trans (h69.trans (h38.trans h6))))⟩, ⟨(by show iv S139 13 1 = iv Sb 13 1; omega), (by show iv S139 5 1 - nx S139 ≤ iv Sb 5 1 - nx Sb; omega)⟩⟩ (by decide) hb149 (by show nx Sb + 0 ≤ nx S139; omega) (by show nx S139 ≤ wr S139; omega) (by show lv S139 = lv Sb + 0; omega) (by show EN S139 + -10000 * nx S139 ≤ EN Sb + -10000 * nx Sb + 0; omega) (by show iv Sb 8 1 ≤ iv S139 8 1; omega) (by show iv Sb 10 1 ≤ iv S139 10 1; omega) (by show b.toInt ≤ iv S139 8 1; omega) (by show (z168.toInt = 0 ∧ r140.toInt = 1) ∨ (nx Sb + 1 ≤ nx S139 ∧ EN S139 + -10000 * nx S139 ≤ EN Sb + -10000 * nx Sb + (-2000)); omega) (by show 2147483647 - z168.toInt < (N : Int); omega)
            · refine am_e13f hi_70_160 (am_cF (m := r131.toInt) (n := b.toInt) rfl rfl c137) ?_
              refine am_e0 hi_70_163 ?_
              refine am_e18 hi_70_164 ?_
              refine am_e3 (ls' := [some (.ref 7), some (.int b), some (.int 1), some (.int m), some (.int n), some (.int r53)]) hi_70_168 (Nat.le_of_ble_eq_true rfl) rfl ?_
              refine am_e2 (v := 7) hi_70_169 rfl ?_
              refine am_e1 (v := b) hi_70_170 rfl ?_
              refine am_e32t (as := [.ref 7, .int b]) (la := [some (.ref 7), some (.int b), none, none, none]) (rest := []) hi_70_171 (am_hd0 (M := 70) (by decide) 171) (Nat.le_of_ble_eq_true rfl) (Nat.le_of_ble_eq_true rfl) (show 2 ≤ am_P0.2.2.1 105 from by decide +kernel) rfl (cl_recv (h83.1.s (7, 6) (by decide))) rfl rfl (ck_binaryOp (d := (d + 3)) h83   (by show 0 ≤ nx S76; omega) (by show nx S76 ≤ wr S76; omega) (by show wr S76 ≤ 600; omega) (by show 0 ≤ lv S76; omega) (by show lv S76 ≤ 48; omega) (by show 0 ≤ b.toInt; omega) (by show b.toInt ≤ iv S76 8 1; omega)) (fun S188 h189 => hq S188 (show TH aw 2000 Sb S188 from ⟨h189.1, (((h2.trans h36).trans h65).trans h84).trans h189.2.1, ⟨(by have q := h189.2.2.1.1; omega), h189.2.2.1.2.trans (h88.trans (h69.trans (h38.trans h6)))⟩, h189.2.2.2.1, h189.2.2.2.2.1, (by have q := h189.2.2.2.2.2; omega)⟩)) ?_
              rintro v169 S170 ⟨r171, rfl, hb180, h172, h173, h174, h175, h176, h177, h178, h179⟩
              have h173_ : nx S76 + 0 ≤ nx S170 := h173
              have h174_ : nx S170 ≤ wr S170 := h174
              have h175_ : lv S170 = lv S76 + 0 := h175
              have h176_ : EN S170 + -10000 * nx S170 ≤ EN S76 + -10000 * nx S76 + 0 := h176
              have h177_ : b.toInt ≤ iv S170 8 1 := h177
              have h178_ : iv S170 10 1 = iv S76 10 1 := h178
              have h179_ : iv S170 14 1 = iv S76 14 1 := h179
              obtain ⟨h190, h191, ⟨h192, h193⟩, ⟨h194, h195, h196⟩⟩ := h172
              have h197 := os_5 h194 1
              have h198 := os_13 h194 1
              have hb180_ : r171.toInt = 0 ∨ r171.toInt = 1 := hb180.elim (fun e => Or.inl (by rw [e]; rfl)) (fun e => Or.inr (by rw [e]; rfl))
              show am_E _ _ _ _ [some (.ref 7), some (.int b), some (.int 1), some (.int m), some (.int n), some (.int r53)] [.int r171] _ _
              refine am_e3 (ls' := [some (.ref 7), some (.int b), some (.int 1), some (.int r171), some (.int n), some (.int r53)]) hi_70_174 (Nat.le_of_ble_eq_true rfl) rfl ?_
              obtain ⟨z199, hz199, tz199⟩ := am_addI (x := n) (y := 1) (m := n.toInt) (n := (1 : Int)) rfl (by decide) (by omega) (by omega)
              refine am_e5 (v := n) (z := z199) (ls' := [some (.ref 7), some (.int b), some (.int 1), some (.int r171), some (.int z199), some (.int r53)]) hi_70_175 rfl hz199 rfl ?_
              refine am_e18 hi_70_178 ?_
              exact ih _ (some (.int r53)) 1 r171 z199 ⟨h190, ((((h2.trans h36).trans h65).trans h84).trans h191), ⟨(by show wr S170 = wr Sb; omega), (h193.trans (h88.trans (h69.trans (h38.trans h6))))⟩, ⟨(by show iv S170 13 1 = iv Sb 13 1; omega), (by show iv S170 5 1 - nx S170 ≤ iv Sb 5 1 - nx Sb; omega)⟩⟩ (by decide) hb180 (by show nx Sb + 0 ≤ nx S170; omega) (by show nx S170 ≤ wr S170; omega) (by show lv S170 = lv Sb + 0; omega) (by show EN S170 + -10000 * nx S170 ≤ EN Sb + -10000 * nx Sb + 0; omega) (by show iv Sb 8 1 ≤ iv S170 8 1; omega) (by show iv Sb 10 1 ≤ iv S170 10 1; omega) (by show b.toInt ≤ iv S170 8 1; omega) (by show (z199.toInt = 0 ∧ r171.toInt = 1) ∨ (nx Sb + 1 ≤ nx S170 ∧ EN S170 + -10000 * nx S170 ≤ EN Sb + -10000 * nx Sb + (-2000)); omega) (by show 2147483647 - z199.toInt < (N : Int); omega)
        · have c50_ : True := trivial
          by_cases c200 : r46.toInt = 18
          · refine am_e19 (t := 84) hi_70_43 (am_swI (v := r46) (w := 18) (by decide) (by decide) c200) ?_
            refine am_e2 (v := 7) hi_70_84 rfl ?_
            refine cm_20f (r := 2) h35 hi_70_85 (h35.1.s (7, 6) (by decide)) (by decide) rfl ?_
            refine am_e32t (as := [.ref 2]) (la := [some (.ref 2), none]) (rest := []) hi_70_88 (am_hd0 (M := 70) (by decide) 88) (Nat.le_of_ble_eq_true rfl) (Nat.le_of_ble_eq_true rfl) (show 1 ≤ am_P0.2.2.1 55 from by decide +kernel) rfl (cl_recv (h35.1.s (2, 2) (by decide))) rfl rfl (ck_skip (d := (d + 4)) h35   (by show 0 ≤ nx S15; omega) (by show nx S15 ≤ wr S15; omega) (by show wr S15 ≤ 600; omega) (by show 0 ≤ lv S15; omega) (by show lv S15 ≤ 48; omega) (by show kd aw S15 ≠ 0; omega)) (fun S217 h218 => hq S217 (show TH aw 2000 Sb S217 from ⟨h218.1, (h2.trans h36).trans h218.2.1, ⟨(by have q := h218.2.2.1.1; omega), h218.2.2.1.2.trans (h38.trans h6)⟩, h218.2.2.2.1, h218.2.2.2.2.1, (by have q := h218.2.2.2.2.2; omega)⟩)) ?_
            rintro v201 S202 ⟨r203, rfl, h204, h205, h206, h207, h208⟩
            have h205_ : nx S202 = nx S15 + 1 := h205
            have h206_ : lv S202 = lv S15 + c_dl (kd aw S15) := h206
            have h207_ : lv S202 ≤ 48 := h207
            have h208_ : nx S202 ≤ wr S202 := h208
            obtain ⟨h219, h220, ⟨h223, h224⟩, ⟨h225, h226, h227⟩, h228, h229⟩ := h204
            have h230 := h228 8 (h35.1.s (8, 3) (by decide))
            have h231 := h228 10 (h35.1.s (10, 3) (by decide))
            have h232 := os_5 h225 1
            have h233 := os_13 h225 1
            have h234 : c_dl (kd aw S15) = 1 := by unfold c_dl; split <;> split <;> omega
            show am_E _ _ _ _ [some (.ref 7), some (.int b), some (.int 0), some (.int m), some (.int n), some (.int 0)] [.int r203] _ _
            refine am_e6i hi_70_91 ?_
            refine am_e2 (v := 7) hi_70_92 rfl ?_
            refine am_e2 (v := 7) hi_70_93 rfl ?_
            refine cm_20f (r := 2) h219 hi_70_94 (h219.1.s (7, 6) (by decide)) (by decide) rfl ?_
            refine am_e32x (as := [.ref 2]) (la := [some (.ref 2)]) (rest := [.ref 7]) hi_70_97 (am_hd0 (M := 70) (by decide) 97) (Nat.le_of_ble_eq_true rfl) (Nat.le_of_ble_eq_true rfl) (show 1 ≤ am_P0.2.2.1 63 from by decide +kernel) rfl (cl_recv (h219.1.s (2, 2) (by decide))) rfl rfl ?_
            refine am_e2 (v := 2) hi_63_0 rfl ?_
            refine cm_20i h219 hi_63_1 (h219.1.s (2, 2) (by decide)) (by decide) rfl fun v235 hv235 => ?_
            have hv235_ : v235.toInt = nx S202 := hv235
            refine am_e33 hi_63_4 ?_
            show am_E _ _ _ _ [some (.ref 7), some (.int b), some (.int 0), some (.int m), some (.int n), some (.int 0)] [.int v235, .ref 7] _ _
            refine am_e0 hi_70_100 ?_
            obtain ⟨z236, hz236, tz236⟩ := am_subI (x := v235) (y := 1) (m := v235.toInt) (n := (1 : Int)) rfl (by decide) (by omega) (by omega)
            refine am_e10 (z := z236) hi_70_101 hz236 ?_
            refine am_e0 hi_70_102 ?_
            refine am_e32q (d1 := d - 30 + 25 + 22) (by omega) (as := [.ref 7, .int z236, .int 0]) (la := [some (.ref 7), some (.int z236), some (.int 0), none, none, none]) (rest := []) hi_70_103 (am_hd0 (M := 70) (by decide) 103) (Nat.le_of_ble_eq_true rfl) (Nat.le_of_ble_eq_true rfl) (show 3 ≤ am_P0.2.2.1 73 from by decide +kernel) rfl (cl_recv (h219.1.s (7, 6) (by decide))) rfl rfl (rc_73 ihR (d - 30 + 25) _ z236 0 h219 (by decide) (by show 48 - lv S202 < (NN : Int); omega) (by show (30 : Int) * (48 - lv S202) ≤ ((d - 30 + 25 : Nat) : Int); omega) (by show 0 ≤ nx S202; omega) (by show nx S202 ≤ wr S202; omega) (by show wr S202 ≤ 600; omega) (by show 0 ≤ lv S202; omega) (by show lv S202 ≤ 48; omega) (by show 1 ≤ iv S202 13 1; omega) (by show iv S202 13 1 ≤ lv S202 + 0; omega) (by show iv S202 5 1 ≤ nx S202 + 1; omega)) (fun S248 h249 => hq S248 (show TH aw 2000 Sb S248 from ⟨h249.1, ((h2.trans h36).trans h220).trans h249.2.1, ⟨(by have q := h249.2.2.1.1; omega), h249.2.2.1.2.trans (h224.trans (h38.trans h6))⟩, h249.2.2.2.1, h249.2.2.2.2.1, (by have q := h249.2.2.2.2.2; omega)⟩)) ?_
            rintro v237 S238 ⟨rfl, h240, h241, h242, h243, h244, h245, h246⟩
            have h241_ : nx S202 + 1 ≤ nx S238 := h241
            have h242_ : nx S238 ≤ wr S238 := h242
            have h243_ : lv S238 = lv S202 + (-1) := h243
            have h244_ : EN S238 + -10000 * nx S238 ≤ EN S202 + -10000 * nx S202 + (-15000) := h244
            have h245_ : iv S202 8 1 ≤ iv S238 8 1 := h245
            have h246_ : iv S202 10 1 ≤ iv S238 10 1 := h246
            obtain ⟨h250, h251, ⟨h254, h255⟩, ⟨h256, h257⟩⟩ := h240
            show am_E _ _ _ _ [some (.ref 7), some (.int b), some (.int 0), some (.int m), some (.int n), some (.int 0)] [] _ _
            refine am_e18 hi_70_106 ?_
            refine am_e1 (v := 0) hi_70_148 rfl ?_
            refine am_e12t hi_70_149 (by decide) ?_
            refine am_e0 hi_70_167 ?_
            refine am_e3 (ls' := [some (.ref 7), some (.int b), some (.int 0), some (.int m), some (.int n), some (.int 0)]) hi_70_168 (Nat.le_of_ble_eq_true rfl) rfl ?_
            refine am_e2 (v := 7) hi_70_169 rfl ?_
            refine am_e1 (v := b) hi_70_170 rfl ?_
            refine am_e32t (as := [.ref 7, .int b]) (la := [some (.ref 7), some (.int b), none, none, none]) (rest := []) hi_70_171 (am_hd0 (M := 70) (by decide) 171) (Nat.le_of_ble_eq_true rfl) (Nat.le_of_ble_eq_true rfl) (show 2 ≤ am_P0.2.2.1 105 from by decide +kernel) rfl (cl_recv (h250.1.s (7, 6) (by decide))) rfl rfl (ck_binaryOp (d := (d + 3)) h250   (by show 0 ≤ nx S238; omega) (by show nx S238 ≤ wr S238; omega) (by show wr S238 ≤ 600; omega) (by show 0 ≤ lv S238; omega) (by show lv S238 ≤ 48; omega) (by show 0 ≤ b.toInt; omega) (by show b.toInt ≤ iv S238 8 1; omega)) (fun S280 h281 => hq S280 (show TH aw 2000 Sb S280 from ⟨h281.1, (((h2.trans h36).trans h220).trans h251).trans h281.2.1, ⟨(by have q := h281.2.2.1.1; omega), h281.2.2.1.2.trans (h255.trans (h224.trans (h38.trans h6)))⟩, h281.2.2.2.1, h281.2.2.2.2.1, (by have q := h281.2.2.2.2.2; omega)⟩)) ?_
            rintro v261 S262 ⟨r263, rfl, hb272, h264, h265, h266, h267, h268, h269, h270, h271⟩
            have h265_ : nx S238 + 0 ≤ nx S262 := h265
            have h266_ : nx S262 ≤ wr S262 := h266
            have h267_ : lv S262 = lv S238 + 0 := h267
            have h268_ : EN S262 + -10000 * nx S262 ≤ EN S238 + -10000 * nx S238 + 0 := h268
            have h269_ : b.toInt ≤ iv S262 8 1 := h269
            have h270_ : iv S262 10 1 = iv S238 10 1 := h270
            have h271_ : iv S262 14 1 = iv S238 14 1 := h271
            obtain ⟨h282, h283, ⟨h284, h285⟩, ⟨h286, h287, h288⟩⟩ := h264
            have h289 := os_5 h286 1
            have h290 := os_13 h286 1
            have hb272_ : r263.toInt = 0 ∨ r263.toInt = 1 := hb272.elim (fun e => Or.inl (by rw [e]; rfl)) (fun e => Or.inr (by rw [e]; rfl))
            show am_E _ _ _ _ [some (.ref 7), some (.int b), some (.int 0), some (.int m), some (.int n), some (.int 0)] [.int r263] _ _
            refine am_e3 (ls' := [some (.ref 7), some (.int b), some (.int 0), some (.int r263), some (.int n), some (.int 0)]) hi_70_174 (Nat.le_of_ble_eq_true rfl) rfl ?_
            obtain ⟨z291, hz291, tz291⟩ := am_addI (x := n) (y := 1) (m := n.toInt) (n := (1 : Int)) rfl (by decide) (by omega) (by omega)
            refine am_e5 (v := n) (z := z291) (ls' := [some (.ref 7), some (.int b), some (.int 0), some (.int r263), some (.int z291), some (.int 0)]) hi_70_175 rfl hz291 rfl ?_
            refine am_e18 hi_70_178 ?_
            exact ih _ (some (.int 0)) 0 r263 z291 ⟨h282, ((((h2.trans h36).trans h220).trans h251).trans h283), ⟨(by show wr S262 = wr Sb; omega), (h285.trans (h255.trans (h224.trans (h38.trans h6))))⟩, ⟨(by show iv S262 13 1 = iv Sb 13 1; omega), (by show iv S262 5 1 - nx S262 ≤ iv Sb 5 1 - nx Sb; omega)⟩⟩ (by decide) hb272 (by show nx Sb + 0 ≤ nx S262; omega) (by show nx S262 ≤ wr S262; omega) (by show lv S262 = lv Sb + 0; omega) (by show EN S262 + -10000 * nx S262 ≤ EN Sb + -10000 * nx Sb + 0; omega) (by show iv Sb 8 1 ≤ iv S262 8 1; omega) (by show iv Sb 10 1 ≤ iv S262 10 1; omega) (by show b.toInt ≤ iv S262 8 1; omega) (by show (z291.toInt = 0 ∧ r263.toInt = 1) ∨ (nx Sb + 1 ≤ nx S262 ∧ EN S262 + -10000 * nx S262 ≤ EN Sb + -10000 * nx Sb + (-2000)); omega) (by show 2147483647 - z291.toInt < (N : Int); omega)
          · have c200_ : True := trivial
            by_cases c292 : r46.toInt = 60
            · refine am_e19 (t := 116) hi_70_43 (am_swI (v := r46) (w := 60) (by decide) (by decide) c292) ?_
              refine am_e2 (v := 7) hi_70_116 rfl ?_
              refine am_e32q (d1 := d + 0 + 17) (by omega) (as := [.ref 7]) (la := [some (.ref 7), none, none, none]) (rest := []) hi_70_117 (am_hd0 (M := 70) (by decide) 117) (Nat.le_of_ble_eq_true rfl) (Nat.le_of_ble_eq_true rfl) (show 1 ≤ am_P0.2.2.1 60 from by decide +kernel) rfl (cl_recv (h35.1.s (7, 6) (by decide))) rfl rfl (cr_prefix (d := d + 0) h35  ihR (by show 48 - lv S15 < (NN : Int) + 1; omega) (by show (30 : Int) * (48 - lv S15) ≤ ((d + 0 : Nat) : Int); omega) (by show 0 ≤ nx S15; omega) (by show nx S15 ≤ wr S15; omega) (by show wr S15 ≤ 600; omega) (by show 0 ≤ lv S15; omega) (by show lv S15 ≤ 48; omega) (by show 1 ≤ iv S15 13 1; omega) (by show iv S15 13 1 ≤ lv S15 + 1; omega) (by show iv S15 5 1 ≤ nx S15 + 1; omega)) (fun S304 h305 => hq S304 (show TH aw 2000 Sb S304 from ⟨h305.1, (h2.trans h36).trans h305.2.1, ⟨(by have q := h305.2.2.1.1; omega), h305.2.2.1.2.trans (h38.trans h6)⟩, h305.2.2.2.1, h305.2.2.2.2.1, (by have q := h305.2.2.2.2.2; omega)⟩)) ?_
              rintro v293 S294 ⟨r295, rfl, h296, h297, h298, h299, h300, h301, h302⟩
              have h297_ : nx S15 + 1 ≤ nx S294 := h297
              have h298_ : nx S294 ≤ wr S294 := h298
              have h299_ : lv S294 = lv S15 + 0 := h299
              have h300_ : EN S294 + -10000 * nx S294 ≤ EN S15 + -10000 * nx S15 + (-2160) := h300
              have h301_ : iv S15 8 1 ≤ iv S294 8 1 := h301
              have h302_ : iv S15 10 1 ≤ iv S294 10 1 := h302
              obtain ⟨h306, h307, ⟨h310, h311⟩, ⟨h312, h313⟩⟩ := h296
              show am_E _ _ _ _ [some (.ref 7), some (.int b), some (.int 0), some (.int m), some (.int n), some (.int 0)] [.int r295] _ _
              refine am_e3 (ls' := [some (.ref 7), some (.int b), some (.int 0), some (.int m), some (.int n), some (.int r295)]) hi_70_120 (Nat.le_of_ble_eq_true rfl) rfl ?_
              refine am_e2 (v := 7) hi_70_122 rfl ?_
              refine am_e1 (v := r295) hi_70_123 rfl ?_
              refine am_e32n (as := [.ref 7, .int r295]) (la := [some (.ref 7), some (.int r295)]) (rest := []) hi_70_125 (am_hd0 (M := 70) (by decide) 125) (Nat.le_of_ble_eq_true rfl) (Nat.le_of_ble_eq_true rfl) (show 2 ≤ am_P0.2.2.1 100 from by decide +kernel) rfl (cl_recv (h306.1.s (7, 6) (by decide))) rfl rfl (ck_settle (d := (d + 13)) h306   ) ?_
              rintro v317 S318 ⟨rfl, h320, h321, h322, h323⟩
              have h321_ : iv S318 8 1 = iv S294 8 1 := h321
              have h322_ : iv S318 10 1 = iv S294 10 1 := h322
              have h323_ : iv S318 14 1 = iv S294 14 1 := h323
              obtain ⟨h325, h326, ⟨h327, h328, h329, h330⟩, ⟨h331, h332, h333⟩, h335⟩ := h320
              have h336 : kd aw S318 = kd aw S294 := kd_eq h327 h330
              have h337 := os_5 h331 1
              have h338 := os_13 h331 1
              show am_E _ _ _ _ [some (.ref 7), some (.int b), some (.int 0), some (.int m), some (.int n), some (.int r295)] [] _ _
              refine am_e1 (v := r295) hi_70_128 rfl ?_
              refine am_e0 hi_70_130 ?_
              by_cases c339 : ¬ r295.toInt = (4 : Int)
              · refine am_e13t hi_70_131 (am_cT (m := r295.toInt) (n := (4 : Int)) rfl (by decide) c339) ?_
                refine am_e0 hi_70_138 ?_
                refine am_e3 (ls' := [some (.ref 7), some (.int b), some (.int 0), some (.int m), some (.int n), some (.int r295)]) hi_70_139 (Nat.le_of_ble_eq_true rfl) rfl ?_
                refine am_e18 hi_70_140 ?_
                refine am_e1 (v := 0) hi_70_148 rfl ?_
                refine am_e12t hi_70_149 (by decide) ?_
                refine am_e0 hi_70_167 ?_
                refine am_e3 (ls' := [some (.ref 7), some (.int b), some (.int 0), some (.int m), some (.int n), some (.int r295)]) hi_70_168 (Nat.le_of_ble_eq_true rfl) rfl ?_
                refine am_e2 (v := 7) hi_70_169 rfl ?_
                refine am_e1 (v := b) hi_70_170 rfl ?_
                refine am_e32t (as := [.ref 7, .int b]) (la := [some (.ref 7), some (.int b), none, none, none]) (rest := []) hi_70_171 (am_hd0 (M := 70) (by decide) 171) (Nat.le_of_ble_eq_true rfl) (Nat.le_of_ble_eq_true rfl) (show 2 ≤ am_P0.2.2.1 105 from by decide +kernel) rfl (cl_recv (h325.1.s (7, 6) (by decide))) rfl rfl (ck_binaryOp (d := (d + 3)) h325   (by show 0 ≤ nx S318; omega) (by show nx S318 ≤ wr S318; omega) (by show wr S318 ≤ 600; omega) (by show 0 ≤ lv S318; omega) (by show lv S318 ≤ 48; omega) (by show 0 ≤ b.toInt; omega) (by show b.toInt ≤ iv S318 8 1; omega)) (fun S359 h360 => hq S359 (show TH aw 2000 Sb S359 from ⟨h360.1, (((h2.trans h36).trans h307).trans h326).trans h360.2.1, ⟨(by have q := h360.2.2.1.1; omega), h360.2.2.1.2.trans (h330.trans (h311.trans (h38.trans h6)))⟩, h360.2.2.2.1, h360.2.2.2.2.1, (by have q := h360.2.2.2.2.2; omega)⟩)) ?_
                rintro v340 S341 ⟨r342, rfl, hb351, h343, h344, h345, h346, h347, h348, h349, h350⟩
                have h344_ : nx S318 + 0 ≤ nx S341 := h344
                have h345_ : nx S341 ≤ wr S341 := h345
                have h346_ : lv S341 = lv S318 + 0 := h346
                have h347_ : EN S341 + -10000 * nx S341 ≤ EN S318 + -10000 * nx S318 + 0 := h347
                have h348_ : b.toInt ≤ iv S341 8 1 := h348
                have h349_ : iv S341 10 1 = iv S318 10 1 := h349
                have h350_ : iv S341 14 1 = iv S318 14 1 := h350
                obtain ⟨h361, h362, ⟨h363, h364⟩, ⟨h365, h366, h367⟩⟩ := h343
                have h368 := os_5 h365 1
                have h369 := os_13 h365 1
                have hb351_ : r342.toInt = 0 ∨ r342.toInt = 1 := hb351.elim (fun e => Or.inl (by rw [e]; rfl)) (fun e => Or.inr (by rw [e]; rfl))
                show am_E _ _ _ _ [some (.ref 7), some (.int b), some (.int 0), some (.int m), some (.int n), some (.int r295)] [.int r342] _ _
                refine am_e3 (ls' := [some (.ref 7), some (.int b), some (.int 0), some (.int r342), some (.int n), some (.int r295)]) hi_70_174 (Nat.le_of_ble_eq_true rfl) rfl ?_
                obtain ⟨z370, hz370, tz370⟩ := am_addI (x := n) (y := 1) (m := n.toInt) (n := (1 : Int)) rfl (by decide) (by omega) (by omega)
                refine am_e5 (v := n) (z := z370) (ls' := [some (.ref 7), some (.int b), some (.int 0), some (.int r342), some (.int z370), some (.int r295)]) hi_70_175 rfl hz370 rfl ?_
                refine am_e18 hi_70_178 ?_
                exact ih _ (some (.int r295)) 0 r342 z370 ⟨h361, ((((h2.trans h36).trans h307).trans h326).trans h362), ⟨(by show wr S341 = wr Sb; omega), (h364.trans (h330.trans (h311.trans (h38.trans h6))))⟩, ⟨(by show iv S341 13 1 = iv Sb 13 1; omega), (by show iv S341 5 1 - nx S341 ≤ iv Sb 5 1 - nx Sb; omega)⟩⟩ (by decide) hb351 (by show nx Sb + 0 ≤ nx S341; omega) (by show nx S341 ≤ wr S341; omega) (by show lv S341 = lv Sb + 0; omega) (by show EN S341 + -10000 * nx S341 ≤ EN Sb + -10000 * nx Sb + 0; omega) (by show iv Sb 8 1 ≤ iv S341 8 1; omega) (by show iv Sb 10 1 ≤ iv S341 10 1; omega) (by show b.toInt ≤ iv S341 8 1; omega) (by show (z370.toInt = 0 ∧ r342.toInt = 1) ∨ (nx Sb + 1 ≤ nx S341 ∧ EN S341 + -10000 * nx S341 ≤ EN Sb + -10000 * nx Sb + (-2000)); omega) (by show 2147483647 - z370.toInt < (N : Int); omega)
              · refine am_e13f hi_70_131 (am_cF (m := r295.toInt) (n := (4 : Int)) rfl (by decide) c339) ?_
                refine am_e0 hi_70_134 ?_
                refine am_e18 hi_70_135 ?_
                refine am_e3 (ls' := [some (.ref 7), some (.int b), some (.int 1), some (.int m), some (.int n), some (.int r295)]) hi_70_139 (Nat.le_of_ble_eq_true rfl) rfl ?_
                refine am_e18 hi_70_140 ?_
                refine am_e1 (v := 1) hi_70_148 rfl ?_
                refine am_e12f hi_70_149 (by decide) ?_
                refine am_e2 (v := 7) hi_70_152 rfl ?_
                refine cm_20f (r := 8) h325 hi_70_153 (h325.1.s (7, 6) (by decide)) (by decide) rfl ?_
                refine am_e32n (as := [.ref 8]) (la := [some (.ref 8)]) (rest := []) hi_70_156 (am_hd0 (M := 70) (by decide) 156) (Nat.le_of_ble_eq_true rfl) (Nat.le_of_ble_eq_true rfl) (show 1 ≤ am_P0.2.2.1 36 from by decide +kernel) rfl (cl_recv (h325.1.s (8, 3) (by decide))) rfl rfl (ck_rows (d := (d + 17)) h325 (h325.1.s (8, 3) (by decide))  ) ?_
                rintro v371 S372 ⟨r373, rfl, rfl, h375, h376, h377⟩
                have h375_ : r373.toInt = iv S318 8 1 := h375
                have h376_ : 0 ≤ r373.toInt := h376
                have h377_ : r373.toInt ≤ 2097154 := h377
                show am_E _ _ _ _ [some (.ref 7), some (.int b), some (.int 1), some (.int m), some (.int n), some (.int r295)] [.int r373] _ _
                refine am_e1 (v := b) hi_70_159 rfl ?_
                by_cases c379 : ¬ r373.toInt = b.toInt
                · refine am_e13t hi_70_160 (am_cT (m := r373.toInt) (n := b.toInt) rfl rfl c379) ?_
                  refine am_e0 hi_70_167 ?_
                  refine am_e3 (ls' := [some (.ref 7), some (.int b), some (.int 0), some (.int m), some (.int n), some (.int r295)]) hi_70_168 (Nat.le_of_ble_eq_true rfl) rfl ?_
                  refine am_e2 (v := 7) hi_70_169 rfl ?_
                  refine am_e1 (v := b) hi_70_170 rfl ?_
                  refine am_e32t (as := [.ref 7, .int b]) (la := [some (.ref 7), some (.int b), none, none, none]) (rest := []) hi_70_171 (am_hd0 (M := 70) (by decide) 171) (Nat.le_of_ble_eq_true rfl) (Nat.le_of_ble_eq_true rfl) (show 2 ≤ am_P0.2.2.1 105 from by decide +kernel) rfl (cl_recv (h325.1.s (7, 6) (by decide))) rfl rfl (ck_binaryOp (d := (d + 3)) h325   (by show 0 ≤ nx S318; omega) (by show nx S318 ≤ wr S318; omega) (by show wr S318 ≤ 600; omega) (by show 0 ≤ lv S318; omega) (by show lv S318 ≤ 48; omega) (by show 0 ≤ b.toInt; omega) (by show b.toInt ≤ iv S318 8 1; omega)) (fun S399 h400 => hq S399 (show TH aw 2000 Sb S399 from ⟨h400.1, (((h2.trans h36).trans h307).trans h326).trans h400.2.1, ⟨(by have q := h400.2.2.1.1; omega), h400.2.2.1.2.trans (h330.trans (h311.trans (h38.trans h6)))⟩, h400.2.2.2.1, h400.2.2.2.2.1, (by have q := h400.2.2.2.2.2; omega)⟩)) ?_
                  rintro v380 S381 ⟨r382, rfl, hb391, h383, h384, h385, h386, h387, h388, h389, h390⟩
                  have h384_ : nx S318 + 0 ≤ nx S381 := h384
                  have h385_ : nx S381 ≤ wr S381 := h385
                  have h386_ : lv S381 = lv S318 + 0 := h386
                  have h387_ : EN S381 + -10000 * nx S381 ≤ EN S318 + -10000 * nx S318 + 0 := h387
                  have h388_ : b.toInt ≤ iv S381 8 1 := h388
                  have h389_ : iv S381 10 1 = iv S318 10 1 := h389
                  have h390_ : iv S381 14 1 = iv S318 14 1 := h390
                  obtain ⟨h401, h402, ⟨h403, h404⟩, ⟨h405, h406, h407⟩⟩ := h383
                  have h408 := os_5 h405 1
                  have h409 := os_13 h405 1
                  have hb391_ : r382.toInt = 0 ∨ r382.toInt = 1 := hb391.elim (fun e => Or.inl (by rw [e]; rfl)) (fun e => Or.inr (by rw [e]; rfl))
                  show am_E _ _ _ _ [some (.ref 7), some (.int b), some (.int 0), some (.int m), some (.int n), some (.int r295)] [.int r382] _ _
                  refine am_e3 (ls' := [some (.ref 7), some (.int b), some (.int 0), some (.int r382), some (.int n), some (.int r295)]) hi_70_174 (Nat.le_of_ble_eq_true rfl) rfl ?_
                  obtain ⟨z410, hz410, tz410⟩ := am_addI (x := n) (y := 1) (m := n.toInt) (n := (1 : Int)) rfl (by decide) (by omega) (by omega)
                  refine am_e5 (v := n) (z := z410) (ls' := [some (.ref 7), some (.int b), some (.int 0), some (.int r382), some (.int z410), some (.int r295)]) hi_70_175 rfl hz410 rfl ?_
                  refine am_e18 hi_70_178 ?_
                  exact ih _ (some (.int r295)) 0 r382 z410 ⟨h401, ((((h2.trans h36).trans h307).trans h326).trans h402), ⟨(by show wr S381 = wr Sb; omega), (h404.trans (h330.trans (h311.trans (h38.trans h6))))⟩, ⟨(by show iv S381 13 1 = iv Sb 13 1; omega), (by show iv S381 5 1 - nx S381 ≤ iv Sb 5 1 - nx Sb; omega)⟩⟩ (by decide) hb391 (by show nx Sb + 0 ≤ nx S381; omega) (by show nx S381 ≤ wr S381; omega) (by show lv S381 = lv Sb + 0; omega) (by show EN S381 + -10000 * nx S381 ≤ EN Sb + -10000 * nx Sb + 0; omega) (by show iv Sb 8 1 ≤ iv S381 8 1; omega) (by show iv Sb 10 1 ≤ iv S381 10 1; omega) (by show b.toInt ≤ iv S381 8 1; omega) (by show (z410.toInt = 0 ∧ r382.toInt = 1) ∨ (nx Sb + 1 ≤ nx S381 ∧ EN S381 + -10000 * nx S381 ≤ EN Sb + -10000 * nx Sb + (-2000)); omega) (by show 2147483647 - z410.toInt < (N : Int); omega)
                · refine am_e13f hi_70_160 (am_cF (m := r373.toInt) (n := b.toInt) rfl rfl c379) ?_
                  refine am_e0 hi_70_163 ?_
                  refine am_e18 hi_70_164 ?_
                  refine am_e3 (ls' := [some (.ref 7), some (.int b), some (.int 1), some (.int m), some (.int n), some (.int r295)]) hi_70_168 (Nat.le_of_ble_eq_true rfl) rfl ?_
                  refine am_e2 (v := 7) hi_70_169 rfl ?_
                  refine am_e1 (v := b) hi_70_170 rfl ?_
                  refine am_e32t (as := [.ref 7, .int b]) (la := [some (.ref 7), some (.int b), none, none, none]) (rest := []) hi_70_171 (am_hd0 (M := 70) (by decide) 171) (Nat.le_of_ble_eq_true rfl) (Nat.le_of_ble_eq_true rfl) (show 2 ≤ am_P0.2.2.1 105 from by decide +kernel) rfl (cl_recv (h325.1.s (7, 6) (by decide))) rfl rfl (ck_binaryOp (d := (d + 3)) h325   (by show 0 ≤ nx S318; omega) (by show nx S318 ≤ wr S318; omega) (by show wr S318 ≤ 600; omega) (by show 0 ≤ lv S318; omega) (by show lv S318 ≤ 48; omega) (by show 0 ≤ b.toInt; omega) (by show b.toInt ≤ iv S318 8 1; omega)) (fun S430 h431 => hq S430 (show TH aw 2000 Sb S430 from ⟨h431.1, (((h2.trans h36).trans h307).trans h326).trans h431.2.1, ⟨(by have q := h431.2.2.1.1; omega), h431.2.2.1.2.trans (h330.trans (h311.trans (h38.trans h6)))⟩, h431.2.2.2.1, h431.2.2.2.2.1, (by have q := h431.2.2.2.2.2; omega)⟩)) ?_
                  rintro v411 S412 ⟨r413, rfl, hb422, h414, h415, h416, h417, h418, h419, h420, h421⟩
                  have h415_ : nx S318 + 0 ≤ nx S412 := h415
                  have h416_ : nx S412 ≤ wr S412 := h416
                  have h417_ : lv S412 = lv S318 + 0 := h417
                  have h418_ : EN S412 + -10000 * nx S412 ≤ EN S318 + -10000 * nx S318 + 0 := h418
                  have h419_ : b.toInt ≤ iv S412 8 1 := h419
                  have h420_ : iv S412 10 1 = iv S318 10 1 := h420
                  have h421_ : iv S412 14 1 = iv S318 14 1 := h421
                  obtain ⟨h432, h433, ⟨h434, h435⟩, ⟨h436, h437, h438⟩⟩ := h414
                  have h439 := os_5 h436 1
                  have h440 := os_13 h436 1
                  have hb422_ : r413.toInt = 0 ∨ r413.toInt = 1 := hb422.elim (fun e => Or.inl (by rw [e]; rfl)) (fun e => Or.inr (by rw [e]; rfl))
                  show am_E _ _ _ _ [some (.ref 7), some (.int b), some (.int 1), some (.int m), some (.int n), some (.int r295)] [.int r413] _ _
                  refine am_e3 (ls' := [some (.ref 7), some (.int b), some (.int 1), some (.int r413), some (.int n), some (.int r295)]) hi_70_174 (Nat.le_of_ble_eq_true rfl) rfl ?_
                  obtain ⟨z441, hz441, tz441⟩ := am_addI (x := n) (y := 1) (m := n.toInt) (n := (1 : Int)) rfl (by decide) (by omega) (by omega)
                  refine am_e5 (v := n) (z := z441) (ls' := [some (.ref 7), some (.int b), some (.int 1), some (.int r413), some (.int z441), some (.int r295)]) hi_70_175 rfl hz441 rfl ?_
                  refine am_e18 hi_70_178 ?_
                  exact ih _ (some (.int r295)) 1 r413 z441 ⟨h432, ((((h2.trans h36).trans h307).trans h326).trans h433), ⟨(by show wr S412 = wr Sb; omega), (h435.trans (h330.trans (h311.trans (h38.trans h6))))⟩, ⟨(by show iv S412 13 1 = iv Sb 13 1; omega), (by show iv S412 5 1 - nx S412 ≤ iv Sb 5 1 - nx Sb; omega)⟩⟩ (by decide) hb422 (by show nx Sb + 0 ≤ nx S412; omega) (by show nx S412 ≤ wr S412; omega) (by show lv S412 = lv Sb + 0; omega) (by show EN S412 + -10000 * nx S412 ≤ EN Sb + -10000 * nx Sb + 0; omega) (by show iv Sb 8 1 ≤ iv S412 8 1; omega) (by show iv Sb 10 1 ≤ iv S412 10 1; omega) (by show b.toInt ≤ iv S412 8 1; omega) (by show (z441.toInt = 0 ∧ r413.toInt = 1) ∨ (nx Sb + 1 ≤ nx S412 ∧ EN S412 + -10000 * nx S412 ≤ EN Sb + -10000 * nx Sb + (-2000)); omega) (by show 2147483647 - z441.toInt < (N : Int); omega)
            · have c292_ : True := trivial
              by_cases c442 : r46.toInt = 62
              · refine am_e19 (t := 109) hi_70_43 (am_swI (v := r46) (w := 62) (by decide) (by decide) c442) ?_
                refine am_e2 (v := 7) hi_70_109 rfl ?_
                refine am_e32q (d1 := d + 2 + 15) (by omega) (as := [.ref 7]) (la := [some (.ref 7), none, none, none]) (rest := []) hi_70_110 (am_hd0 (M := 70) (by decide) 110) (Nat.le_of_ble_eq_true rfl) (Nat.le_of_ble_eq_true rfl) (show 1 ≤ am_P0.2.2.1 91 from by decide +kernel) rfl (cl_recv (h35.1.s (7, 6) (by decide))) rfl rfl (cr_table (d := d + 2) h35  ihR (by show 48 - lv S15 < (NN : Int) + 1; omega) (by show (30 : Int) * (48 - lv S15) ≤ ((d + 2 : Nat) : Int); omega) (by show 0 ≤ nx S15; omega) (by show nx S15 ≤ wr S15; omega) (by show wr S15 ≤ 600; omega) (by show 0 ≤ lv S15; omega) (by show lv S15 ≤ 48; omega) (by show 1 ≤ iv S15 13 1; omega) (by show iv S15 13 1 ≤ lv S15 + 1; omega) (by show iv S15 5 1 ≤ nx S15 + 1; omega)) (fun S454 h455 => hq S454 (show TH aw 2000 Sb S454 from ⟨h455.1, (h2.trans h36).trans h455.2.1, ⟨(by have q := h455.2.2.1.1; omega), h455.2.2.1.2.trans (h38.trans h6)⟩, h455.2.2.2.1, h455.2.2.2.2.1, (by have q := h455.2.2.2.2.2; omega)⟩)) ?_
                rintro v443 S444 ⟨rfl, h446, h447, h448, h449, h450, h451, h452⟩
                have h447_ : nx S15 + 1 ≤ nx S444 := h447
                have h448_ : nx S444 ≤ wr S444 := h448
                have h449_ : lv S444 = lv S15 + 0 := h449
                have h450_ : EN S444 + -10000 * nx S444 ≤ EN S15 + -10000 * nx S15 + (-9000) := h450
                have h451_ : iv S15 8 1 ≤ iv S444 8 1 := h451
                have h452_ : iv S15 10 1 ≤ iv S444 10 1 := h452
                obtain ⟨h456, h457, ⟨h460, h461⟩, ⟨h462, h463⟩⟩ := h446
                show am_E _ _ _ _ [some (.ref 7), some (.int b), some (.int 0), some (.int m), some (.int n), some (.int 0)] [] _ _
                refine am_e18 hi_70_113 ?_
                refine am_e1 (v := 0) hi_70_148 rfl ?_
                refine am_e12t hi_70_149 (by decide) ?_
                refine am_e0 hi_70_167 ?_
                refine am_e3 (ls' := [some (.ref 7), some (.int b), some (.int 0), some (.int m), some (.int n), some (.int 0)]) hi_70_168 (Nat.le_of_ble_eq_true rfl) rfl ?_
                refine am_e2 (v := 7) hi_70_169 rfl ?_
                refine am_e1 (v := b) hi_70_170 rfl ?_
                refine am_e32t (as := [.ref 7, .int b]) (la := [some (.ref 7), some (.int b), none, none, none]) (rest := []) hi_70_171 (am_hd0 (M := 70) (by decide) 171) (Nat.le_of_ble_eq_true rfl) (Nat.le_of_ble_eq_true rfl) (show 2 ≤ am_P0.2.2.1 105 from by decide +kernel) rfl (cl_recv (h456.1.s (7, 6) (by decide))) rfl rfl (ck_binaryOp (d := (d + 3)) h456   (by show 0 ≤ nx S444; omega) (by show nx S444 ≤ wr S444; omega) (by show wr S444 ≤ 600; omega) (by show 0 ≤ lv S444; omega) (by show lv S444 ≤ 48; omega) (by show 0 ≤ b.toInt; omega) (by show b.toInt ≤ iv S444 8 1; omega)) (fun S486 h487 => hq S486 (show TH aw 2000 Sb S486 from ⟨h487.1, ((h2.trans h36).trans h457).trans h487.2.1, ⟨(by have q := h487.2.2.1.1; omega), h487.2.2.1.2.trans (h461.trans (h38.trans h6))⟩, h487.2.2.2.1, h487.2.2.2.2.1, (by have q := h487.2.2.2.2.2; omega)⟩)) ?_
                rintro v467 S468 ⟨r469, rfl, hb478, h470, h471, h472, h473, h474, h475, h476, h477⟩
                have h471_ : nx S444 + 0 ≤ nx S468 := h471
                have h472_ : nx S468 ≤ wr S468 := h472
                have h473_ : lv S468 = lv S444 + 0 := h473
                have h474_ : EN S468 + -10000 * nx S468 ≤ EN S444 + -10000 * nx S444 + 0 := h474
                have h475_ : b.toInt ≤ iv S468 8 1 := h475
                have h476_ : iv S468 10 1 = iv S444 10 1 := h476
                have h477_ : iv S468 14 1 = iv S444 14 1 := h477
                obtain ⟨h488, h489, ⟨h490, h491⟩, ⟨h492, h493, h494⟩⟩ := h470
                have h495 := os_5 h492 1
                have h496 := os_13 h492 1
                have hb478_ : r469.toInt = 0 ∨ r469.toInt = 1 := hb478.elim (fun e => Or.inl (by rw [e]; rfl)) (fun e => Or.inr (by rw [e]; rfl))
                show am_E _ _ _ _ [some (.ref 7), some (.int b), some (.int 0), some (.int m), some (.int n), some (.int 0)] [.int r469] _ _
                refine am_e3 (ls' := [some (.ref 7), some (.int b), some (.int 0), some (.int r469), some (.int n), some (.int 0)]) hi_70_174 (Nat.le_of_ble_eq_true rfl) rfl ?_
                obtain ⟨z497, hz497, tz497⟩ := am_addI (x := n) (y := 1) (m := n.toInt) (n := (1 : Int)) rfl (by decide) (by omega) (by omega)
                refine am_e5 (v := n) (z := z497) (ls' := [some (.ref 7), some (.int b), some (.int 0), some (.int r469), some (.int z497), some (.int 0)]) hi_70_175 rfl hz497 rfl ?_
                refine am_e18 hi_70_178 ?_
                exact ih _ (some (.int 0)) 0 r469 z497 ⟨h488, (((h2.trans h36).trans h457).trans h489), ⟨(by show wr S468 = wr Sb; omega), (h491.trans (h461.trans (h38.trans h6)))⟩, ⟨(by show iv S468 13 1 = iv Sb 13 1; omega), (by show iv S468 5 1 - nx S468 ≤ iv Sb 5 1 - nx Sb; omega)⟩⟩ (by decide) hb478 (by show nx Sb + 0 ≤ nx S468; omega) (by show nx S468 ≤ wr S468; omega) (by show lv S468 = lv Sb + 0; omega) (by show EN S468 + -10000 * nx S468 ≤ EN Sb + -10000 * nx Sb + 0; omega) (by show iv Sb 8 1 ≤ iv S468 8 1; omega) (by show iv Sb 10 1 ≤ iv S468 10 1; omega) (by show b.toInt ≤ iv S468 8 1; omega) (by show (z497.toInt = 0 ∧ r469.toInt = 1) ∨ (nx Sb + 1 ≤ nx S468 ∧ EN S468 + -10000 * nx S468 ≤ EN Sb + -10000 * nx Sb + (-2000)); omega) (by show 2147483647 - z497.toInt < (N : Int); omega)
              · have c442_ : True := trivial
                refine am_e19 (t := 143) hi_70_43 (am_swK (v := r46) (ks := [1, 18, 60, 62]) (by decide) (by intro k hk; simp only [List.mem_cons, List.not_mem_nil, or_false] at hk; rcases hk with rfl | rfl | rfl | rfl <;> omega)) ?_
                refine am_e2 (v := 7) hi_70_143 rfl ?_
                refine am_e32t (as := [.ref 7]) (la := [some (.ref 7), none, none]) (rest := []) hi_70_144 (am_hd0 (M := 70) (by decide) 144) (Nat.le_of_ble_eq_true rfl) (Nat.le_of_ble_eq_true rfl) (show 1 ≤ am_P0.2.2.1 103 from by decide +kernel) rfl (cl_recv (h35.1.s (7, 6) (by decide))) rfl rfl (ck_literal (d := (d + 3)) h35   (by show 0 ≤ nx S15; omega) (by show nx S15 ≤ wr S15; omega) (by show wr S15 ≤ 600; omega) (by show 0 ≤ lv S15; omega) (by show lv S15 ≤ 48; omega)) (fun S517 h518 => hq S517 (show TH aw 2000 Sb S517 from ⟨h518.1, (h2.trans h36).trans h518.2.1, ⟨(by have q := h518.2.2.1.1; omega), h518.2.2.1.2.trans (h38.trans h6)⟩, h518.2.2.2.1, h518.2.2.2.2.1, (by have q := h518.2.2.2.2.2; omega)⟩)) ?_
                rintro v498 S499 ⟨r500, rfl, hb509, h501, h502, h503, h504, h505, h506, h507, h508⟩
                have h502_ : nx S15 + 1 ≤ nx S499 := h502
                have h503_ : nx S499 ≤ wr S499 := h503
                have h504_ : lv S499 = lv S15 + 0 := h504
                have h505_ : EN S499 + -10000 * nx S499 ≤ EN S15 + -10000 * nx S15 + (-9000) := h505
                have h506_ : iv S499 8 1 = iv S15 8 1 := h506
                have h507_ : iv S499 10 1 = iv S15 10 1 := h507
                have h508_ : iv S499 14 1 = iv S15 14 1 := h508
                obtain ⟨h519, h520, ⟨h521, h522⟩, ⟨h523, h524, h525⟩⟩ := h501
                have h526 := os_5 h523 1
                have h527 := os_13 h523 1
                have hb509_ : r500.toInt = 0 ∨ r500.toInt = 1 := hb509.elim (fun e => Or.inl (by rw [e]; rfl)) (fun e => Or.inr (by rw [e]; rfl))
                show am_E _ _ _ _ [some (.ref 7), some (.int b), some (.int 0), some (.int m), some (.int n), some (.int 0)] [.int r500] _ _
                refine am_e3 (ls' := [some (.ref 7), some (.int b), some (.int r500), some (.int m), some (.int n), some (.int 0)]) hi_70_147 (Nat.le_of_ble_eq_true rfl) rfl ?_
                refine am_e1 (v := r500) hi_70_148 rfl ?_
                by_cases c528 : r500.toInt = (0 : Int)
                · refine am_e12t hi_70_149 (am_cT (m := r500.toInt) (n := (0 : Int)) rfl (by decide) c528) ?_
                  refine am_e0 hi_70_167 ?_
                  refine am_e3 (ls' := [some (.ref 7), some (.int b), some (.int 0), some (.int m), some (.int n), some (.int 0)]) hi_70_168 (Nat.le_of_ble_eq_true rfl) rfl ?_
                  refine am_e2 (v := 7) hi_70_169 rfl ?_
                  refine am_e1 (v := b) hi_70_170 rfl ?_
                  refine am_e32t (as := [.ref 7, .int b]) (la := [some (.ref 7), some (.int b), none, none, none]) (rest := []) hi_70_171 (am_hd0 (M := 70) (by decide) 171) (Nat.le_of_ble_eq_true rfl) (Nat.le_of_ble_eq_true rfl) (show 2 ≤ am_P0.2.2.1 105 from by decide +kernel) rfl (cl_recv (h519.1.s (7, 6) (by decide))) rfl rfl (ck_binaryOp (d := (d + 3)) h519   (by show 0 ≤ nx S499; omega) (by show nx S499 ≤ wr S499; omega) (by show wr S499 ≤ 600; omega) (by show 0 ≤ lv S499; omega) (by show lv S499 ≤ 48; omega) (by show 0 ≤ b.toInt; omega) (by show b.toInt ≤ iv S499 8 1; omega)) (fun S548 h549 => hq S548 (show TH aw 2000 Sb S548 from ⟨h549.1, ((h2.trans h36).trans h520).trans h549.2.1, ⟨(by have q := h549.2.2.1.1; omega), h549.2.2.1.2.trans (h522.trans (h38.trans h6))⟩, h549.2.2.2.1, h549.2.2.2.2.1, (by have q := h549.2.2.2.2.2; omega)⟩)) ?_
                  rintro v529 S530 ⟨r531, rfl, hb540, h532, h533, h534, h535, h536, h537, h538, h539⟩
                  have h533_ : nx S499 + 0 ≤ nx S530 := h533
                  have h534_ : nx S530 ≤ wr S530 := h534
                  have h535_ : lv S530 = lv S499 + 0 := h535
                  have h536_ : EN S530 + -10000 * nx S530 ≤ EN S499 + -10000 * nx S499 + 0 := h536
                  have h537_ : b.toInt ≤ iv S530 8 1 := h537
                  have h538_ : iv S530 10 1 = iv S499 10 1 := h538
                  have h539_ : iv S530 14 1 = iv S499 14 1 := h539
                  obtain ⟨h550, h551, ⟨h552, h553⟩, ⟨h554, h555, h556⟩⟩ := h532
                  have h557 := os_5 h554 1
                  have h558 := os_13 h554 1
                  have hb540_ : r531.toInt = 0 ∨ r531.toInt = 1 := hb540.elim (fun e => Or.inl (by rw [e]; rfl)) (fun e => Or.inr (by rw [e]; rfl))
                  show am_E _ _ _ _ [some (.ref 7), some (.int b), some (.int 0), some (.int m), some (.int n), some (.int 0)] [.int r531] _ _
                  refine am_e3 (ls' := [some (.ref 7), some (.int b), some (.int 0), some (.int r531), some (.int n), some (.int 0)]) hi_70_174 (Nat.le_of_ble_eq_true rfl) rfl ?_
                  obtain ⟨z559, hz559, tz559⟩ := am_addI (x := n) (y := 1) (m := n.toInt) (n := (1 : Int)) rfl (by decide) (by omega) (by omega)
                  refine am_e5 (v := n) (z := z559) (ls' := [some (.ref 7), some (.int b), some (.int 0), some (.int r531), some (.int z559), some (.int 0)]) hi_70_175 rfl hz559 rfl ?_
                  refine am_e18 hi_70_178 ?_
                  exact ih _ (some (.int 0)) 0 r531 z559 ⟨h550, (((h2.trans h36).trans h520).trans h551), ⟨(by show wr S530 = wr Sb; omega), (h553.trans (h522.trans (h38.trans h6)))⟩, ⟨(by show iv S530 13 1 = iv Sb 13 1; omega), (by show iv S530 5 1 - nx S530 ≤ iv Sb 5 1 - nx Sb; omega)⟩⟩ (by decide) hb540 (by show nx Sb + 0 ≤ nx S530; omega) (by show nx S530 ≤ wr S530; omega) (by show lv S530 = lv Sb + 0; omega) (by show EN S530 + -10000 * nx S530 ≤ EN Sb + -10000 * nx Sb + 0; omega) (by show iv Sb 8 1 ≤ iv S530 8 1; omega) (by show iv Sb 10 1 ≤ iv S530 10 1; omega) (by show b.toInt ≤ iv S530 8 1; omega) (by show (z559.toInt = 0 ∧ r531.toInt = 1) ∨ (nx Sb + 1 ≤ nx S530 ∧ EN S530 + -10000 * nx S530 ≤ EN Sb + -10000 * nx Sb + (-2000)); omega) (by show 2147483647 - z559.toInt < (N : Int); omega)
                · refine am_e12f hi_70_149 (am_cF (m := r500.toInt) (n := (0 : Int)) rfl (by decide) c528) ?_
                  refine am_e2 (v := 7) hi_70_152 rfl ?_
                  refine cm_20f (r := 8) h519 hi_70_153 (h519.1.s (7, 6) (by decide)) (by decide) rfl ?_
                  refine am_e32n (as := [.ref 8]) (la := [some (.ref 8)]) (rest := []) hi_70_156 (am_hd0 (M := 70) (by decide) 156) (Nat.le_of_ble_eq_true rfl) (Nat.le_of_ble_eq_true rfl) (show 1 ≤ am_P0.2.2.1 36 from by decide +kernel) rfl (cl_recv (h519.1.s (8, 3) (by decide))) rfl rfl (ck_rows (d := (d + 17)) h519 (h519.1.s (8, 3) (by decide))  ) ?_
                  rintro v560 S561 ⟨r562, rfl, rfl, h564, h565, h566⟩
                  have h564_ : r562.toInt = iv S499 8 1 := h564
                  have h565_ : 0 ≤ r562.toInt := h565
                  have h566_ : r562.toInt ≤ 2097154 := h566
                  show am_E _ _ _ _ [some (.ref 7), some (.int b), some (.int r500), some (.int m), some (.int n), some (.int 0)] [.int r562] _ _
                  refine am_e1 (v := b) hi_70_159 rfl ?_
                  by_cases c568 : ¬ r562.toInt = b.toInt
                  · refine am_e13t hi_70_160 (am_cT (m := r562.toInt) (n := b.toInt) rfl rfl c568) ?_
                    refine am_e0 hi_70_167 ?_
                    refine am_e3 (ls' := [some (.ref 7), some (.int b), some (.int 0), some (.int m), some (.int n), some (.int 0)]) hi_70_168 (Nat.le_of_ble_eq_true rfl) rfl ?_
                    refine am_e2 (v := 7) hi_70_169 rfl ?_
                    refine am_e1 (v := b) hi_70_170 rfl ?_
                    refine am_e32t (as := [.ref 7, .int b]) (la := [some (.ref 7), some (.int b), none, none, none]) (rest := []) hi_70_171 (am_hd0 (M := 70) (by decide) 171) (Nat.le_of_ble_eq_true rfl) (Nat.le_of_ble_eq_true rfl) (show 2 ≤ am_P0.2.2.1 105 from by decide +kernel) rfl (cl_recv (h519.1.s (7, 6) (by decide))) rfl rfl (ck_binaryOp (d := (d + 3)) h519   (by show 0 ≤ nx S499; omega) (by show nx S499 ≤ wr S499; omega) (by show wr S499 ≤ 600; omega) (by show 0 ≤ lv S499; omega) (by show lv S499 ≤ 48; omega) (by show 0 ≤ b.toInt; omega) (by show b.toInt ≤ iv S499 8 1; omega)) (fun S588 h589 => hq S588 (show TH aw 2000 Sb S588 from ⟨h589.1, ((h2.trans h36).trans h520).trans h589.2.1, ⟨(by have q := h589.2.2.1.1; omega), h589.2.2.1.2.trans (h522.trans (h38.trans h6))⟩, h589.2.2.2.1, h589.2.2.2.2.1, (by have q := h589.2.2.2.2.2; omega)⟩)) ?_
                    rintro v569 S570 ⟨r571, rfl, hb580, h572, h573, h574, h575, h576, h577, h578, h579⟩
                    have h573_ : nx S499 + 0 ≤ nx S570 := h573
                    have h574_ : nx S570 ≤ wr S570 := h574
                    have h575_ : lv S570 = lv S499 + 0 := h575
                    have h576_ : EN S570 + -10000 * nx S570 ≤ EN S499 + -10000 * nx S499 + 0 := h576
                    have h577_ : b.toInt ≤ iv S570 8 1 := h577
                    have h578_ : iv S570 10 1 = iv S499 10 1 := h578
                    have h579_ : iv S570 14 1 = iv S499 14 1 := h579
                    obtain ⟨h590, h591, ⟨h592, h593⟩, ⟨h594, h595, h596⟩⟩ := h572
                    have h597 := os_5 h594 1
                    have h598 := os_13 h594 1
                    have hb580_ : r571.toInt = 0 ∨ r571.toInt = 1 := hb580.elim (fun e => Or.inl (by rw [e]; rfl)) (fun e => Or.inr (by rw [e]; rfl))
                    show am_E _ _ _ _ [some (.ref 7), some (.int b), some (.int 0), some (.int m), some (.int n), some (.int 0)] [.int r571] _ _
                    refine am_e3 (ls' := [some (.ref 7), some (.int b), some (.int 0), some (.int r571), some (.int n), some (.int 0)]) hi_70_174 (Nat.le_of_ble_eq_true rfl) rfl ?_
                    obtain ⟨z599, hz599, tz599⟩ := am_addI (x := n) (y := 1) (m := n.toInt) (n := (1 : Int)) rfl (by decide) (by omega) (by omega)
                    refine am_e5 (v := n) (z := z599) (ls' := [some (.ref 7), some (.int b), some (.int 0), some (.int r571), some (.int z599), some (.int 0)]) hi_70_175 rfl hz599 rfl ?_
                    refine am_e18 hi_70_178 ?_
                    exact ih _ (some (.int 0)) 0 r571 z599 ⟨h590, (((h2.trans h36).trans h520).trans h591), ⟨(by show wr S570 = wr Sb; omega), (h593.trans (h522.trans (h38.trans h6)))⟩, ⟨(by show iv S570 13 1 = iv Sb 13 1; omega), (by show iv S570 5 1 - nx S570 ≤ iv Sb 5 1 - nx Sb; omega)⟩⟩ (by decide) hb580 (by show nx Sb + 0 ≤ nx S570; omega) (by show nx S570 ≤ wr S570; omega) (by show lv S570 = lv Sb + 0; omega) (by show EN S570 + -10000 * nx S570 ≤ EN Sb + -10000 * nx Sb + 0; omega) (by show iv Sb 8 1 ≤ iv S570 8 1; omega) (by show iv Sb 10 1 ≤ iv S570 10 1; omega) (by show b.toInt ≤ iv S570 8 1; omega) (by show (z599.toInt = 0 ∧ r571.toInt = 1) ∨ (nx Sb + 1 ≤ nx S570 ∧ EN S570 + -10000 * nx S570 ≤ EN Sb + -10000 * nx Sb + (-2000)); omega) (by show 2147483647 - z599.toInt < (N : Int); omega)
                  · refine am_e13f hi_70_160 (am_cF (m := r562.toInt) (n := b.toInt) rfl rfl c568) ?_
                    refine am_e0 hi_70_163 ?_
                    refine am_e18 hi_70_164 ?_
                    refine am_e3 (ls' := [some (.ref 7), some (.int b), some (.int 1), some (.int m), some (.int n), some (.int 0)]) hi_70_168 (Nat.le_of_ble_eq_true rfl) rfl ?_
                    refine am_e2 (v := 7) hi_70_169 rfl ?_
                    refine am_e1 (v := b) hi_70_170 rfl ?_
                    refine am_e32t (as := [.ref 7, .int b]) (la := [some (.ref 7), some (.int b), none, none, none]) (rest := []) hi_70_171 (am_hd0 (M := 70) (by decide) 171) (Nat.le_of_ble_eq_true rfl) (Nat.le_of_ble_eq_true rfl) (show 2 ≤ am_P0.2.2.1 105 from by decide +kernel) rfl (cl_recv (h519.1.s (7, 6) (by decide))) rfl rfl (ck_binaryOp (d := (d + 3)) h519   (by show 0 ≤ nx S499; omega) (by show nx S499 ≤ wr S499; omega) (by show wr S499 ≤ 600; omega) (by show 0 ≤ lv S499; omega) (by show lv S499 ≤ 48; omega) (by show 0 ≤ b.toInt; omega) (by show b.toInt ≤ iv S499 8 1; omega)) (fun S619 h620 => hq S619 (show TH aw 2000 Sb S619 from ⟨h620.1, ((h2.trans h36).trans h520).trans h620.2.1, ⟨(by have q := h620.2.2.1.1; omega), h620.2.2.1.2.trans (h522.trans (h38.trans h6))⟩, h620.2.2.2.1, h620.2.2.2.2.1, (by have q := h620.2.2.2.2.2; omega)⟩)) ?_
                    rintro v600 S601 ⟨r602, rfl, hb611, h603, h604, h605, h606, h607, h608, h609, h610⟩
                    have h604_ : nx S499 + 0 ≤ nx S601 := h604
                    have h605_ : nx S601 ≤ wr S601 := h605
                    have h606_ : lv S601 = lv S499 + 0 := h606
                    have h607_ : EN S601 + -10000 * nx S601 ≤ EN S499 + -10000 * nx S499 + 0 := h607
                    have h608_ : b.toInt ≤ iv S601 8 1 := h608
                    have h609_ : iv S601 10 1 = iv S499 10 1 := h609
                    have h610_ : iv S601 14 1 = iv S499 14 1 := h610
                    obtain ⟨h621, h622, ⟨h623, h624⟩, ⟨h625, h626, h627⟩⟩ := h603
                    have h628 := os_5 h625 1
                    have h629 := os_13 h625 1
                    have hb611_ : r602.toInt = 0 ∨ r602.toInt = 1 := hb611.elim (fun e => Or.inl (by rw [e]; rfl)) (fun e => Or.inr (by rw [e]; rfl))
                    show am_E _ _ _ _ [some (.ref 7), some (.int b), some (.int 1), some (.int m), some (.int n), some (.int 0)] [.int r602] _ _
                    refine am_e3 (ls' := [some (.ref 7), some (.int b), some (.int 1), some (.int r602), some (.int n), some (.int 0)]) hi_70_174 (Nat.le_of_ble_eq_true rfl) rfl ?_
                    obtain ⟨z630, hz630, tz630⟩ := am_addI (x := n) (y := 1) (m := n.toInt) (n := (1 : Int)) rfl (by decide) (by omega) (by omega)
                    refine am_e5 (v := n) (z := z630) (ls' := [some (.ref 7), some (.int b), some (.int 1), some (.int r602), some (.int z630), some (.int 0)]) hi_70_175 rfl hz630 rfl ?_
                    refine am_e18 hi_70_178 ?_
                    exact ih _ (some (.int 0)) 1 r602 z630 ⟨h621, (((h2.trans h36).trans h520).trans h622), ⟨(by show wr S601 = wr Sb; omega), (h624.trans (h522.trans (h38.trans h6)))⟩, ⟨(by show iv S601 13 1 = iv Sb 13 1; omega), (by show iv S601 5 1 - nx S601 ≤ iv Sb 5 1 - nx Sb; omega)⟩⟩ (by decide) hb611 (by show nx Sb + 0 ≤ nx S601; omega) (by show nx S601 ≤ wr S601; omega) (by show lv S601 = lv Sb + 0; omega) (by show EN S601 + -10000 * nx S601 ≤ EN Sb + -10000 * nx Sb + 0; omega) (by show iv Sb 8 1 ≤ iv S601 8 1; omega) (by show iv Sb 10 1 ≤ iv S601 10 1; omega) (by show b.toInt ≤ iv S601 8 1; omega) (by show (z630.toInt = 0 ∧ r602.toInt = 1) ∨ (nx Sb + 1 ≤ nx S601 ∧ EN S601 + -10000 * nx S601 ≤ EN Sb + -10000 * nx Sb + (-2000)); omega) (by show 2147483647 - z630.toInt < (N : Int); omega)
theorem cr_expression {sc : Nat × (Nat → Int32)} {d aw NN : Nat} {S : am_S} (h : SH aw S) (ihR : RC sc aw NN) (hN : 48 - lv S < (NN : Int) + 1) (hd : (30 : Int) * (48 - lv S) ≤ (d : Int)) (p0 : 0 ≤ nx S) (p1 : nx S ≤ wr S) (p2 : wr S ≤ 600) (p3 : 0 ≤ lv S) (p4 : lv S ≤ 48) (p5 : 1 ≤ iv S 13 1) (p6 : iv S 13 1 ≤ lv S + 1) (p7 : iv S 5 1 ≤ nx S + 1) : am_E (am_PP sc) (d + 18) 70 0 [some (.ref 7), none, none, none, none, none] [] S (am_T (fun v S1 => v = none ∧ Ad aw S S1 ∧ (nx S + 1 ≤ nx S1) ∧ (nx S1 ≤ wr S1) ∧ (lv S1 = lv S + 0) ∧ (EN S1 + -10000 * nx S1 ≤ EN S + -10000 * nx S + (-2000)) ∧ (iv S 8 1 ≤ iv S1 8 1) ∧ (iv S 10 1 ≤ iv S1 10 1)) (fun S1 => TH aw 2000 S S1)) := by
  refine am_e2 (v := 7) hi_70_0 rfl ?_
  refine cm_20f (r := 8) h hi_70_1 (h.1.s (7, 6) (by decide)) (by decide) rfl ?_
  refine am_e32n (as := [.ref 8]) (la := [some (.ref 8)]) (rest := []) hi_70_4 (am_hd0 (M := 70) (by decide) 4) (Nat.le_of_ble_eq_true rfl) (Nat.le_of_ble_eq_true rfl) (show 1 ≤ am_P0.2.2.1 36 from by decide +kernel) rfl (cl_recv (h.1.s (8, 3) (by decide))) rfl rfl (ck_rows (d := (d + 17)) h (h.1.s (8, 3) (by decide))  ) ?_
  rintro v1 S2 ⟨r3, rfl, rfl, h5, h6, h7⟩
  have h5_ : r3.toInt = iv S 8 1 := h5
  have h6_ : 0 ≤ r3.toInt := h6
  have h7_ : r3.toInt ≤ 2097154 := h7
  show am_E _ _ _ _ [some (.ref 7), none, none, none, none, none] [.int r3] _ _
  refine am_e3 (ls' := [some (.ref 7), some (.int r3), none, none, none, none]) hi_70_7 (Nat.le_of_ble_eq_true rfl) rfl ?_
  refine am_e0 hi_70_8 ?_
  refine am_e3 (ls' := [some (.ref 7), some (.int r3), some (.int 0), none, none, none]) hi_70_9 (Nat.le_of_ble_eq_true rfl) rfl ?_
  refine am_e0 hi_70_10 ?_
  refine am_e3 (ls' := [some (.ref 7), some (.int r3), some (.int 0), some (.int 1), none, none]) hi_70_11 (Nat.le_of_ble_eq_true rfl) rfl ?_
  refine am_e0 hi_70_12 ?_
  refine am_e3 (ls' := [some (.ref 7), some (.int r3), some (.int 0), some (.int 1), some (.int 0), none]) hi_70_13 (Nat.le_of_ble_eq_true rfl) rfl ?_
  refine cg_expr (d := d) (Sb := S) (b := r3) h  ihR (by show 48 - lv S < (NN : Int) + 1; omega) (by show (30 : Int) * (48 - lv S) ≤ ((d : Nat) : Int); omega) (by show 0 ≤ nx S; omega) (by show nx S ≤ wr S; omega) (by show wr S ≤ 600; omega) (by show 0 ≤ lv S; omega) (by show lv S ≤ 48; omega) (by show 1 ≤ iv S 13 1; omega) (by show iv S 13 1 ≤ lv S + 1; omega) (by show iv S 5 1 ≤ nx S + 1; omega) (by show 0 ≤ r3.toInt; omega) (by show r3.toInt = iv S 8 1; omega) (fun S9 h10 => (show TH aw 2000 S S9 from ⟨h10.1, (Ex.refl S).trans h10.2.1, ⟨(by have q := h10.2.2.1.1; omega), h10.2.2.1.2.trans rfl⟩, h10.2.2.2.1, h10.2.2.2.2.1, (by have q := h10.2.2.2.2.2; omega)⟩)) ?_ ((2147483647 - (0 : Int)).toNat + 1) S none 0 1 0 ⟨h, Ex.refl _, ⟨rfl, rfl⟩, ⟨rfl, Int.le_refl _⟩⟩ (by decide) (by decide) (by show nx S + 0 ≤ nx S; omega) (by show nx S ≤ wr S; omega) (by show lv S = lv S + 0; omega) (by show EN S + -10000 * nx S ≤ EN S + -10000 * nx S + 0; omega) (by show iv S 8 1 ≤ iv S 8 1; omega) (by show iv S 10 1 ≤ iv S 10 1; omega) (by show r3.toInt ≤ iv S 8 1; omega) (by show ((0 : Int) = 0 ∧ (1 : Int) = 1) ∨ (nx S + 1 ≤ nx S ∧ EN S + -10000 * nx S ≤ EN S + -10000 * nx S + (-2000)); omega) (by show 2147483647 - (0 : Int) < _; omega)
  · intro S14 x525 w11 m12 n13 h15 hb23 hb24 h16 h17 h18 h19 h20 h21 h22
    have hb23_ : w11.toInt = 0 ∨ w11.toInt = 1 := hb23.elim (fun e => Or.inl (by rw [e]; rfl)) (fun e => Or.inr (by rw [e]; rfl))
    have hb24_ : m12.toInt = 0 ∨ m12.toInt = 1 := hb24.elim (fun e => Or.inl (by rw [e]; rfl)) (fun e => Or.inr (by rw [e]; rfl))
    have h16_ : nx S + 1 ≤ nx S14 := h16
    have h17_ : nx S14 ≤ wr S14 := h17
    have h18_ : lv S14 = lv S + 0 := h18
    have h19_ : EN S14 + -10000 * nx S14 ≤ EN S + -10000 * nx S + (-2000) := h19
    have h20_ : iv S 8 1 ≤ iv S14 8 1 := h20
    have h21_ : iv S 10 1 ≤ iv S14 10 1 := h21
    have h22_ : r3.toInt ≤ iv S14 8 1 := h22
    obtain ⟨h26, h27, ⟨h30, h31⟩, ⟨h32, h33⟩⟩ := h15
    show am_E _ _ _ _ [some (.ref 7), some (.int r3), some (.int w11), some (.int m12), some (.int n13), x525] [] _ _
    refine am_e2 (v := 7) hi_70_181 rfl ?_
    refine am_e1 (v := r3) hi_70_182 rfl ?_
    refine am_e0 hi_70_183 ?_
    refine am_e32n (as := [.ref 7, .int r3, .int 0]) (la := [some (.ref 7), some (.int r3), some (.int 0), none, none, none]) (rest := []) hi_70_184 (am_hd0 (M := 70) (by decide) 184) (Nat.le_of_ble_eq_true rfl) (Nat.le_of_ble_eq_true rfl) (show 3 ≤ am_P0.2.2.1 108 from by decide +kernel) rfl (cl_recv (h26.1.s (7, 6) (by decide))) rfl rfl (ck_reduce (d := (d + 13)) h26   (by show 0 ≤ r3.toInt; omega) (by show r3.toInt ≤ iv S14 8 1; omega)) ?_
    rintro v37 S38 ⟨rfl, h40, h41, h42, h43⟩
    have h41_ : r3.toInt ≤ iv S38 8 1 := h41
    have h42_ : iv S38 10 1 = iv S14 10 1 := h42
    have h43_ : iv S38 14 1 = iv S14 14 1 := h43
    obtain ⟨h45, h46, ⟨h47, h48, h49, h50⟩, ⟨h51, h52, h53⟩, h55⟩ := h40
    have h56 : kd aw S38 = kd aw S14 := kd_eq h47 h50
    have h57 := os_5 h51 1
    have h58 := os_13 h51 1
    show am_E _ _ _ _ [some (.ref 7), some (.int r3), some (.int w11), some (.int m12), some (.int n13), x525] [] _ _
    refine am_e2 (v := 7) hi_70_187 rfl ?_
    refine am_e1 (v := w11) hi_70_188 rfl ?_
    refine cm_21 (v := .int w11) h45 hi_70_189 (h45.1.s (7, 6) (by decide)) (by decide) (by decide) rfl (hb23.elim (fun e => Or.inl (by rw [e])) (fun e => Or.inr (by rw [e]))) (decide_eq_true hb23) fun S59 h60 => ?_
    obtain ⟨h61, h62, ⟨h63, h64, h65, h66⟩, ⟨h67, h68, h69⟩, h70, h71⟩ := h60
    have h72 : kd aw S59 = kd aw S38 := kd_eq h63 h66
    have h73 := h70 8 (h45.1.s (8, 3) (by decide))
    have h74 := h70 10 (h45.1.s (10, 3) (by decide))
    have h75 := os_5 h67 1
    have h76 := os_13 h67 1
    refine am_e35 hi_70_192 ?_
    exact ⟨rfl, ⟨h61, ((h27.trans h46).trans h62), ⟨(by show wr S59 = wr S; omega), (h66.trans (h50.trans h31))⟩, ⟨(by show iv S59 13 1 = iv S 13 1; omega), (by show iv S59 5 1 - nx S59 ≤ iv S 5 1 - nx S; omega)⟩⟩, (by show nx S + 1 ≤ nx S59; omega), (by show nx S59 ≤ wr S59; omega), (by show lv S59 = lv S + 0; omega), (by show EN S59 + -10000 * nx S59 ≤ EN S + -10000 * nx S + (-2000); omega), (by show iv S 8 1 ≤ iv S59 8 1; omega), (by show iv S 10 1 ≤ iv S59 10 1; omega)⟩
theorem cg_list {sc : Nat × (Nat → Int32)} {d aw NN : Nat} {Sb : am_S} {Q : Option (Option Value) → am_S → Prop} (h : SH aw Sb) (ihR : RC sc aw NN) (hN : 48 - lv Sb < (NN : Int) + 1) (hd : (30 : Int) * (48 - lv Sb) ≤ (d : Int)) (p0 : 0 ≤ nx Sb) (p1 : nx Sb ≤ wr Sb) (p2 : wr Sb ≤ 600) (p3 : 0 ≤ lv Sb) (p4 : lv Sb ≤ 48) (p5 : 1 ≤ iv Sb 13 1) (p6 : iv Sb 13 1 ≤ lv Sb + 1) (p7 : iv Sb 5 1 ≤ nx Sb + 1) (hq : ∀ S1, TH aw 2000 Sb S1 → Q none S1) (hx0 : ∀ (S : am_S) (c m n : Int32), Ad aw Sb S → (m = 0 ∨ m = 1) → (nx Sb + 1 ≤ nx S) → (nx S ≤ wr S) → (lv S = lv Sb + 0) → (EN S + -10000 * nx S ≤ EN Sb + -10000 * nx Sb + (-2000)) → (iv Sb 8 1 ≤ iv S 8 1) → (iv Sb 10 1 ≤ iv S 10 1) → (0 ≤ c.toInt) → am_E (am_PP sc) (d + 19) 112 60 [some (.ref 7), some (.int c), some (.int m), some (.int n)] [] S Q) : ∀ (N : Nat) (S : am_S) (c m n : Int32), Ad aw Sb S → (m = 0 ∨ m = 1) → (nx Sb + 0 ≤ nx S) → (nx S ≤ wr S) → (lv S = lv Sb + 0) → (EN S + -10000 * nx S ≤ EN Sb + -10000 * nx Sb + 0) → (iv Sb 8 1 ≤ iv S 8 1) → (iv Sb 10 1 ≤ iv S 10 1) → (c.toInt = n.toInt) → (0 ≤ n.toInt) → ((n.toInt = 0 ∧ m.toInt = 1) ∨ (nx Sb + 1 ≤ nx S ∧ EN S + -10000 * nx S ≤ EN Sb + -10000 * nx Sb + (-2000))) → 2147483647 - n.toInt < (N : Int) → am_E (am_PP sc) (d + 19) 112 6 [some (.ref 7), some (.int c), some (.int m), some (.int n)] [] S Q := by
  intro N
  induction N with
  | zero =>
    intro S  c m n hrel hB_m i0 i1 i2 i3 i4 i5 i6 i7 i8 hN
    have := i32_le c
    have := i32_le m
    have := i32_le n
    have := i32_ge c
    have := i32_ge m
    have := i32_ge n
    exfalso
    omega
  | succ N ih =>
    intro S  c m n hrel hB_m i0 i1 i2 i3 i4 i5 i6 i7 i8 hN
    have hB_m_ : m.toInt = 0 ∨ m.toInt = 1 := hB_m.elim (fun e => Or.inl (by rw [e]; rfl)) (fun e => Or.inr (by rw [e]; rfl))
    have hl_c := i32_le c
    have hg_c := i32_ge c
    have hl_m := i32_le m
    have hg_m := i32_ge m
    have hl_n := i32_le n
    have hg_n := i32_ge n
    obtain ⟨h1, h2, ⟨h5, h6⟩, ⟨h7, h8⟩⟩ := hrel
    refine am_e1 (v := m) hi_112_6 rfl ?_
    by_cases c12 : m.toInt = (0 : Int)
    · refine am_e12t hi_112_7 (am_cT (m := m.toInt) (n := (0 : Int)) rfl (by decide) c12) ?_
      exact hx0 _ c m n ⟨h1, h2, ⟨(by show wr S = wr Sb; omega), h6⟩, ⟨(by show iv S 13 1 = iv Sb 13 1; omega), (by show iv S 5 1 - nx S ≤ iv Sb 5 1 - nx Sb; omega)⟩⟩ hB_m (by show nx Sb + 1 ≤ nx S; omega) (by show nx S ≤ wr S; omega) (by show lv S = lv Sb + 0; omega) (by show EN S + -10000 * nx S ≤ EN Sb + -10000 * nx Sb + (-2000); omega) (by show iv Sb 8 1 ≤ iv S 8 1; omega) (by show iv Sb 10 1 ≤ iv S 10 1; omega) (by show 0 ≤ c.toInt; omega)
    · refine am_e12f hi_112_7 (am_cF (m := m.toInt) (n := (0 : Int)) rfl (by decide) c12) ?_
      refine am_e1 (v := n) hi_112_10 rfl ?_
      refine am_e0 hi_112_11 ?_
      by_cases c13 : (16384 : Int) < n.toInt
      · refine am_e13t hi_112_14 (am_cT (m := n.toInt) (n := (16384 : Int)) rfl (by decide) c13) ?_
        exact hx0 _ c m n ⟨h1, h2, ⟨(by show wr S = wr Sb; omega), h6⟩, ⟨(by show iv S 13 1 = iv Sb 13 1; omega), (by show iv S 5 1 - nx S ≤ iv Sb 5 1 - nx Sb; omega)⟩⟩ hB_m (by show nx Sb + 1 ≤ nx S; omega) (by show nx S ≤ wr S; omega) (by show lv S = lv Sb + 0; omega) (by show EN S + -10000 * nx S ≤ EN Sb + -10000 * nx Sb + (-2000); omega) (by show iv Sb 8 1 ≤ iv S 8 1; omega) (by show iv Sb 10 1 ≤ iv S 10 1; omega) (by show 0 ≤ c.toInt; omega)
      · refine am_e13f hi_112_14 (am_cF (m := n.toInt) (n := (16384 : Int)) rfl (by decide) c13) ?_
        refine am_e2 (v := 7) hi_112_17 rfl ?_
        refine am_e32q (d1 := d + 0 + 18) (by omega) (as := [.ref 7]) (la := [some (.ref 7), none, none, none, none, none]) (rest := []) hi_112_18 (am_hd0 (M := 112) (by decide) 18) (Nat.le_of_ble_eq_true rfl) (Nat.le_of_ble_eq_true rfl) (show 1 ≤ am_P0.2.2.1 70 from by decide +kernel) rfl (cl_recv (h1.1.s (7, 6) (by decide))) rfl rfl (cr_expression (d := d + 0) h1  ihR (by show 48 - lv S < (NN : Int) + 1; omega) (by show (30 : Int) * (48 - lv S) ≤ ((d + 0 : Nat) : Int); omega) (by show 0 ≤ nx S; omega) (by show nx S ≤ wr S; omega) (by show wr S ≤ 600; omega) (by show 0 ≤ lv S; omega) (by show lv S ≤ 48; omega) (by show 1 ≤ iv S 13 1; omega) (by show iv S 13 1 ≤ lv S + 1; omega) (by show iv S 5 1 ≤ nx S + 1; omega)) (fun S25 h26 => hq S25 (show TH aw 2000 Sb S25 from ⟨h26.1, h2.trans h26.2.1, ⟨(by have q := h26.2.2.1.1; omega), h26.2.2.1.2.trans h6⟩, h26.2.2.2.1, h26.2.2.2.2.1, (by have q := h26.2.2.2.2.2; omega)⟩)) ?_
        rintro v14 S15 ⟨rfl, h17, h18, h19, h20, h21, h22, h23⟩
        have h18_ : nx S + 1 ≤ nx S15 := h18
        have h19_ : nx S15 ≤ wr S15 := h19
        have h20_ : lv S15 = lv S + 0 := h20
        have h21_ : EN S15 + -10000 * nx S15 ≤ EN S + -10000 * nx S + (-2000) := h21
        have h22_ : iv S 8 1 ≤ iv S15 8 1 := h22
        have h23_ : iv S 10 1 ≤ iv S15 10 1 := h23
        obtain ⟨h27, h28, ⟨h31, h32⟩, ⟨h33, h34⟩⟩ := h17
        show am_E _ _ _ _ [some (.ref 7), some (.int c), some (.int m), some (.int n)] [] _ _
        obtain ⟨z38, hz38, tz38⟩ := am_addI (x := c) (y := 1) (m := c.toInt) (n := (1 : Int)) rfl (by decide) (by omega) (by omega)
        refine am_e5 (v := c) (z := z38) (ls' := [some (.ref 7), some (.int z38), some (.int m), some (.int n)]) hi_112_21 rfl hz38 rfl ?_
        refine am_e2 (v := 7) hi_112_24 rfl ?_
        refine cm_20f (r := 2) h27 hi_112_25 (h27.1.s (7, 6) (by decide)) (by decide) rfl ?_
        refine am_e32n (as := [.ref 2]) (la := [some (.ref 2)]) (rest := []) hi_112_28 (am_hd0 (M := 112) (by decide) 28) (Nat.le_of_ble_eq_true rfl) (Nat.le_of_ble_eq_true rfl) (show 1 ≤ am_P0.2.2.1 53 from by decide +kernel) rfl (cl_recv (h27.1.s (2, 2) (by decide))) rfl rfl (ck_kind (d := (d + 17)) h27   ) ?_
        rintro v39 S40 ⟨r41, rfl, rfl, h43⟩
        have h43_ : r41.toInt = kd aw S15 := h43
        show am_E _ _ _ _ [some (.ref 7), some (.int z38), some (.int m), some (.int n)] [.int r41] _ _
        refine am_e0 hi_112_31 ?_
        by_cases c45 : ¬ r41.toInt = (69 : Int)
        · refine am_e13t hi_112_33 (am_cT (m := r41.toInt) (n := (69 : Int)) rfl (by decide) c45) ?_
          refine am_e0 hi_112_40 ?_
          refine am_e3 (ls' := [some (.ref 7), some (.int z38), some (.int 0), some (.int n)]) hi_112_41 (Nat.le_of_ble_eq_true rfl) rfl ?_
          refine am_e1 (v := 0) hi_112_42 rfl ?_
          refine am_e12t hi_112_43 (by decide) ?_
          obtain ⟨z46, hz46, tz46⟩ := am_addI (x := n) (y := 1) (m := n.toInt) (n := (1 : Int)) rfl (by decide) (by omega) (by omega)
          refine am_e5 (v := n) (z := z46) (ls' := [some (.ref 7), some (.int z38), some (.int 0), some (.int z46)]) hi_112_54 rfl hz46 rfl ?_
          refine am_e18 hi_112_57 ?_
          exact ih _ z38 0 z46 ⟨h27, (h2.trans h28), ⟨(by show wr S15 = wr Sb; omega), (h32.trans h6)⟩, ⟨(by show iv S15 13 1 = iv Sb 13 1; omega), (by show iv S15 5 1 - nx S15 ≤ iv Sb 5 1 - nx Sb; omega)⟩⟩ (by decide) (by show nx Sb + 0 ≤ nx S15; omega) (by show nx S15 ≤ wr S15; omega) (by show lv S15 = lv Sb + 0; omega) (by show EN S15 + -10000 * nx S15 ≤ EN Sb + -10000 * nx Sb + 0; omega) (by show iv Sb 8 1 ≤ iv S15 8 1; omega) (by show iv Sb 10 1 ≤ iv S15 10 1; omega) (by show z38.toInt = z46.toInt; omega) (by show 0 ≤ z46.toInt; omega) (by show (z46.toInt = 0 ∧ (0 : Int) = 1) ∨ (nx Sb + 1 ≤ nx S15 ∧ EN S15 + -10000 * nx S15 ≤ EN Sb + -10000 * nx Sb + (-2000)); omega) (by show 2147483647 - z46.toInt < (N : Int); omega)
        · refine am_e13f hi_112_33 (am_cF (m := r41.toInt) (n := (69 : Int)) rfl (by decide) c45) ?_
          refine am_e0 hi_112_36 ?_
          refine am_e18 hi_112_37 ?_
          refine am_e3 (ls' := [some (.ref 7), some (.int z38), some (.int 1), some (.int n)]) hi_112_41 (Nat.le_of_ble_eq_true rfl) rfl ?_
          refine am_e1 (v := 1) hi_112_42 rfl ?_
          refine am_e12f hi_112_43 (by decide) ?_
          refine am_e2 (v := 7) hi_112_46 rfl ?_
          refine cm_20f (r := 2) h27 hi_112_47 (h27.1.s (7, 6) (by decide)) (by decide) rfl ?_
          refine am_e32t (as := [.ref 2]) (la := [some (.ref 2), none]) (rest := []) hi_112_50 (am_hd0 (M := 112) (by decide) 50) (Nat.le_of_ble_eq_true rfl) (Nat.le_of_ble_eq_true rfl) (show 1 ≤ am_P0.2.2.1 55 from by decide +kernel) rfl (cl_recv (h27.1.s (2, 2) (by decide))) rfl rfl (ck_skip (d := (d + 5)) h27   (by show 0 ≤ nx S15; omega) (by show nx S15 ≤ wr S15; omega) (by show wr S15 ≤ 600; omega) (by show 0 ≤ lv S15; omega) (by show lv S15 ≤ 48; omega) (by show kd aw S15 ≠ 0; omega)) (fun S63 h64 => hq S63 (show TH aw 2000 Sb S63 from ⟨h64.1, (h2.trans h28).trans h64.2.1, ⟨(by have q := h64.2.2.1.1; omega), h64.2.2.1.2.trans (h32.trans h6)⟩, h64.2.2.2.1, h64.2.2.2.2.1, (by have q := h64.2.2.2.2.2; omega)⟩)) ?_
          rintro v47 S48 ⟨r49, rfl, h50, h51, h52, h53, h54⟩
          have h51_ : nx S48 = nx S15 + 1 := h51
          have h52_ : lv S48 = lv S15 + c_dl (kd aw S15) := h52
          have h53_ : lv S48 ≤ 48 := h53
          have h54_ : nx S48 ≤ wr S48 := h54
          obtain ⟨h65, h66, ⟨h69, h70⟩, ⟨h71, h72, h73⟩, h74, h75⟩ := h50
          have h76 := h74 8 (h27.1.s (8, 3) (by decide))
          have h77 := h74 10 (h27.1.s (10, 3) (by decide))
          have h78 := os_5 h71 1
          have h79 := os_13 h71 1
          have h80 : c_dl (kd aw S15) = 0 := by unfold c_dl; split <;> split <;> omega
          show am_E _ _ _ _ [some (.ref 7), some (.int z38), some (.int 1), some (.int n)] [.int r49] _ _
          refine am_e6i hi_112_53 ?_
          obtain ⟨z81, hz81, tz81⟩ := am_addI (x := n) (y := 1) (m := n.toInt) (n := (1 : Int)) rfl (by decide) (by omega) (by omega)
          refine am_e5 (v := n) (z := z81) (ls' := [some (.ref 7), some (.int z38), some (.int 1), some (.int z81)]) hi_112_54 rfl hz81 rfl ?_
          refine am_e18 hi_112_57 ?_
          exact ih _ z38 1 z81 ⟨h65, ((h2.trans h28).trans h66), ⟨(by show wr S48 = wr Sb; omega), (h70.trans (h32.trans h6))⟩, ⟨(by show iv S48 13 1 = iv Sb 13 1; omega), (by show iv S48 5 1 - nx S48 ≤ iv Sb 5 1 - nx Sb; omega)⟩⟩ (by decide) (by show nx Sb + 0 ≤ nx S48; omega) (by show nx S48 ≤ wr S48; omega) (by show lv S48 = lv Sb + 0; omega) (by show EN S48 + -10000 * nx S48 ≤ EN Sb + -10000 * nx Sb + 0; omega) (by show iv Sb 8 1 ≤ iv S48 8 1; omega) (by show iv Sb 10 1 ≤ iv S48 10 1; omega) (by show z38.toInt = z81.toInt; omega) (by show 0 ≤ z81.toInt; omega) (by show (z81.toInt = 0 ∧ (1 : Int) = 1) ∨ (nx Sb + 1 ≤ nx S48 ∧ EN S48 + -10000 * nx S48 ≤ EN Sb + -10000 * nx Sb + (-2000)); omega) (by show 2147483647 - z81.toInt < (N : Int); omega)
theorem cr_list {sc : Nat × (Nat → Int32)} {d aw NN : Nat} {S : am_S} (h : SH aw S) (ihR : RC sc aw NN) (hN : 48 - lv S < (NN : Int) + 1) (hd : (30 : Int) * (48 - lv S) ≤ (d : Int)) (p0 : 0 ≤ nx S) (p1 : nx S ≤ wr S) (p2 : wr S ≤ 600) (p3 : 0 ≤ lv S) (p4 : lv S ≤ 48) (p5 : 1 ≤ iv S 13 1) (p6 : iv S 13 1 ≤ lv S + 1) (p7 : iv S 5 1 ≤ nx S + 1) : am_E (am_PP sc) (d + 19) 112 0 [some (.ref 7), none, none, none] [] S (am_T (fun v S1 => ∃ r : Int32, v = some (.int r) ∧ Ad aw S S1 ∧ (nx S + 1 ≤ nx S1) ∧ (nx S1 ≤ wr S1) ∧ (lv S1 = lv S + 0) ∧ (EN S1 + -10000 * nx S1 ≤ EN S + -10000 * nx S + (-2000)) ∧ (iv S 8 1 ≤ iv S1 8 1) ∧ (iv S 10 1 ≤ iv S1 10 1) ∧ (0 ≤ r.toInt)) (fun S1 => TH aw 2000 S S1)) := by
  refine am_e0 hi_112_0 ?_
  refine am_e3 (ls' := [some (.ref 7), some (.int 0), none, none]) hi_112_1 (Nat.le_of_ble_eq_true rfl) rfl ?_
  refine am_e0 hi_112_2 ?_
  refine am_e3 (ls' := [some (.ref 7), some (.int 0), some (.int 1), none]) hi_112_3 (Nat.le_of_ble_eq_true rfl) rfl ?_
  refine am_e0 hi_112_4 ?_
  refine am_e3 (ls' := [some (.ref 7), some (.int 0), some (.int 1), some (.int 0)]) hi_112_5 (Nat.le_of_ble_eq_true rfl) rfl ?_
  refine cg_list (d := d) (Sb := S) h  ihR (by show 48 - lv S < (NN : Int) + 1; omega) (by show (30 : Int) * (48 - lv S) ≤ ((d : Nat) : Int); omega) (by show 0 ≤ nx S; omega) (by show nx S ≤ wr S; omega) (by show wr S ≤ 600; omega) (by show 0 ≤ lv S; omega) (by show lv S ≤ 48; omega) (by show 1 ≤ iv S 13 1; omega) (by show iv S 13 1 ≤ lv S + 1; omega) (by show iv S 5 1 ≤ nx S + 1; omega) (fun S1 h2 => (show TH aw 2000 S S1 from ⟨h2.1, (Ex.refl S).trans h2.2.1, ⟨(by have q := h2.2.2.1.1; omega), h2.2.2.1.2.trans rfl⟩, h2.2.2.2.1, h2.2.2.2.2.1, (by have q := h2.2.2.2.2.2; omega)⟩)) ?_ ((2147483647 - (0 : Int)).toNat + 1) S 0 1 0 ⟨h, Ex.refl _, ⟨rfl, rfl⟩, ⟨rfl, Int.le_refl _⟩⟩ (by decide) (by show nx S + 0 ≤ nx S; omega) (by show nx S ≤ wr S; omega) (by show lv S = lv S + 0; omega) (by show EN S + -10000 * nx S ≤ EN S + -10000 * nx S + 0; omega) (by show iv S 8 1 ≤ iv S 8 1; omega) (by show iv S 10 1 ≤ iv S 10 1; omega) (by show (0 : Int) = (0 : Int); omega) (by show 0 ≤ (0 : Int); omega) (by show ((0 : Int) = 0 ∧ (1 : Int) = 1) ∨ (nx S + 1 ≤ nx S ∧ EN S + -10000 * nx S ≤ EN S + -10000 * nx S + (-2000)); omega) (by show 2147483647 - (0 : Int) < _; omega)
  · intro S6 c3 m4 n5 h7 hb15 h8 h9 h10 h11 h12 h13 h14
    have hb15_ : m4.toInt = 0 ∨ m4.toInt = 1 := hb15.elim (fun e => Or.inl (by rw [e]; rfl)) (fun e => Or.inr (by rw [e]; rfl))
    have h8_ : nx S + 1 ≤ nx S6 := h8
    have h9_ : nx S6 ≤ wr S6 := h9
    have h10_ : lv S6 = lv S + 0 := h10
    have h11_ : EN S6 + -10000 * nx S6 ≤ EN S + -10000 * nx S + (-2000) := h11
    have h12_ : iv S 8 1 ≤ iv S6 8 1 := h12
    have h13_ : iv S 10 1 ≤ iv S6 10 1 := h13
    have h14_ : 0 ≤ c3.toInt := h14
    obtain ⟨h16, h17, ⟨h20, h21⟩, ⟨h22, h23⟩⟩ := h7
    show am_E _ _ _ _ [some (.ref 7), some (.int c3), some (.int m4), some (.int n5)] [] _ _
    refine am_e1 (v := c3) hi_112_60 rfl ?_
    refine am_e33 hi_112_61 ?_
    exact ⟨c3, rfl, ⟨h16, h17, ⟨(by show wr S6 = wr S; omega), h21⟩, ⟨(by show iv S6 13 1 = iv S 13 1; omega), (by show iv S6 5 1 - nx S6 ≤ iv S 5 1 - nx S; omega)⟩⟩, (by show nx S + 1 ≤ nx S6; omega), (by show nx S6 ≤ wr S6; omega), (by show lv S6 = lv S + 0; omega), (by show EN S6 + -10000 * nx S6 ≤ EN S + -10000 * nx S + (-2000); omega), (by show iv S 8 1 ≤ iv S6 8 1; omega), (by show iv S 10 1 ≤ iv S6 10 1; omega), (by show 0 ≤ c3.toInt; omega)⟩
theorem cr_field {sc : Nat × (Nat → Int32)} {d aw NN : Nat} {S : am_S} {ap : Int32} (h : SH aw S) (ihR : RC sc aw NN) (hN : 48 - lv S < (NN : Int) + 1) (hd : (30 : Int) * (48 - lv S) ≤ (d : Int)) (p0 : 0 ≤ nx S) (p1 : nx S ≤ wr S) (p2 : wr S ≤ 600) (p3 : 0 ≤ lv S) (p4 : lv S ≤ 48) (p5 : 1 ≤ iv S 13 1) (p6 : iv S 13 1 ≤ lv S + 1) (p7 : iv S 5 1 ≤ nx S + 1) : am_E (am_PP sc) (d + 19) 92 0 [some (.ref 7), some (.int ap), none, none] [] S (am_T (fun v S1 => ∃ r : Int32, v = some (.int r) ∧ Ad aw S S1 ∧ (nx S + 1 ≤ nx S1) ∧ (nx S1 ≤ wr S1) ∧ (lv S1 = lv S + 0) ∧ (EN S1 + -10000 * nx S1 ≤ EN S + -10000 * nx S + (-1000)) ∧ (iv S 8 1 ≤ iv S1 8 1) ∧ (iv S 10 1 ≤ iv S1 10 1)) (fun S1 => TH aw 2000 S S1)) := by
  refine am_e2 (v := 7) hi_92_0 rfl ?_
  refine cm_20f (r := 2) h hi_92_1 (h.1.s (7, 6) (by decide)) (by decide) rfl ?_
  refine am_e32x (as := [.ref 2]) (la := [some (.ref 2)]) (rest := []) hi_92_4 (am_hd0 (M := 92) (by decide) 4) (Nat.le_of_ble_eq_true rfl) (Nat.le_of_ble_eq_true rfl) (show 1 ≤ am_P0.2.2.1 63 from by decide +kernel) rfl (cl_recv (h.1.s (2, 2) (by decide))) rfl rfl ?_
  refine am_e2 (v := 2) hi_63_0 rfl ?_
  refine cm_20i h hi_63_1 (h.1.s (2, 2) (by decide)) (by decide) rfl fun v1 hv1 => ?_
  have hv1_ : v1.toInt = nx S := hv1
  refine am_e33 hi_63_4 ?_
  show am_E _ _ _ _ [some (.ref 7), some (.int ap), none, none] [.int v1] _ _
  refine am_e3 (ls' := [some (.ref 7), some (.int ap), some (.int v1), none]) hi_92_7 (Nat.le_of_ble_eq_true rfl) rfl ?_
  refine am_e2 (v := 7) hi_92_8 rfl ?_
  refine cm_20f (r := 2) h hi_92_9 (h.1.s (7, 6) (by decide)) (by decide) rfl ?_
  refine am_e32n (as := [.ref 2]) (la := [some (.ref 2)]) (rest := []) hi_92_12 (am_hd0 (M := 92) (by decide) 12) (Nat.le_of_ble_eq_true rfl) (Nat.le_of_ble_eq_true rfl) (show 1 ≤ am_P0.2.2.1 53 from by decide +kernel) rfl (cl_recv (h.1.s (2, 2) (by decide))) rfl rfl (ck_kind (d := (d + 17)) h   ) ?_
  rintro v2 S3 ⟨r4, rfl, rfl, h6⟩
  have h6_ : r4.toInt = kd aw S := h6
  show am_E _ _ _ _ [some (.ref 7), some (.int ap), some (.int v1), none] [.int r4] _ _
  refine am_e0 hi_92_15 ?_
  by_cases c8 : ¬ r4.toInt = (64 : Int)
  · refine am_e13t hi_92_17 (am_cT (m := r4.toInt) (n := (64 : Int)) rfl (by decide) c8) ?_
    refine am_e2 (v := 7) hi_92_68 rfl ?_
    refine cm_20f (r := 2) h hi_92_69 (h.1.s (7, 6) (by decide)) (by decide) rfl ?_
    refine am_e32n (as := [.ref 2]) (la := [some (.ref 2)]) (rest := []) hi_92_72 (am_hd0 (M := 92) (by decide) 72) (Nat.le_of_ble_eq_true rfl) (Nat.le_of_ble_eq_true rfl) (show 1 ≤ am_P0.2.2.1 53 from by decide +kernel) rfl (cl_recv (h.1.s (2, 2) (by decide))) rfl rfl (ck_kind (d := (d + 17)) h   ) ?_
    rintro v9 S10 ⟨r11, rfl, rfl, h13⟩
    have h13_ : r11.toInt = kd aw S := h13
    show am_E _ _ _ _ [some (.ref 7), some (.int ap), some (.int v1), none] [.int r11] _ _
    refine am_e0 hi_92_75 ?_
    by_cases c15 : ¬ r11.toInt = (1 : Int)
    · refine am_e13t hi_92_76 (am_cT (m := r11.toInt) (n := (1 : Int)) rfl (by decide) c15) ?_
      refine am_e2 (v := 7) hi_92_126 rfl ?_
      refine am_e32q (d1 := d + 0 + 18) (by omega) (as := [.ref 7]) (la := [some (.ref 7), none, none, none, none, none]) (rest := []) hi_92_127 (am_hd0 (M := 92) (by decide) 127) (Nat.le_of_ble_eq_true rfl) (Nat.le_of_ble_eq_true rfl) (show 1 ≤ am_P0.2.2.1 70 from by decide +kernel) rfl (cl_recv (h.1.s (7, 6) (by decide))) rfl rfl (cr_expression (d := d + 0) h  ihR (by show 48 - lv S < (NN : Int) + 1; omega) (by show (30 : Int) * (48 - lv S) ≤ ((d + 0 : Nat) : Int); omega) (by show 0 ≤ nx S; omega) (by show nx S ≤ wr S; omega) (by show wr S ≤ 600; omega) (by show 0 ≤ lv S; omega) (by show lv S ≤ 48; omega) (by show 1 ≤ iv S 13 1; omega) (by show iv S 13 1 ≤ lv S + 1; omega) (by show iv S 5 1 ≤ nx S + 1; omega)) (fun S27 h28 => (show TH aw 2000 S S27 from ⟨h28.1, (Ex.refl S).trans h28.2.1, ⟨(by have q := h28.2.2.1.1; omega), h28.2.2.1.2.trans rfl⟩, h28.2.2.2.1, h28.2.2.2.2.1, (by have q := h28.2.2.2.2.2; omega)⟩)) ?_
      rintro v16 S17 ⟨rfl, h19, h20, h21, h22, h23, h24, h25⟩
      have h20_ : nx S + 1 ≤ nx S17 := h20
      have h21_ : nx S17 ≤ wr S17 := h21
      have h22_ : lv S17 = lv S + 0 := h22
      have h23_ : EN S17 + -10000 * nx S17 ≤ EN S + -10000 * nx S + (-2000) := h23
      have h24_ : iv S 8 1 ≤ iv S17 8 1 := h24
      have h25_ : iv S 10 1 ≤ iv S17 10 1 := h25
      obtain ⟨h29, h30, ⟨h33, h34⟩, ⟨h35, h36⟩⟩ := h19
      show am_E _ _ _ _ [some (.ref 7), some (.int ap), some (.int v1), none] [] _ _
      refine am_e2 (v := 7) hi_92_130 rfl ?_
      refine cm_20z h29 hi_92_131 (h29.1.s (7, 6) (by decide)) (by decide) rfl fun v40 hv40 => ?_
      have hv40_ : v40.toInt = 0 ∨ v40.toInt = 1 := hv40.elim (fun e => Or.inl (by rw [e]; rfl)) (fun e => Or.inr (by rw [e]; rfl))
      by_cases c41 : v40.toInt = (0 : Int)
      · refine am_e12t hi_92_134 (am_cT (m := v40.toInt) (n := (0 : Int)) rfl (by decide) c41) ?_
        refine am_e2 (v := 7) hi_92_163 rfl ?_
        refine am_e0 hi_92_164 ?_
        refine am_e1 (v := ap) hi_92_166 rfl ?_
        refine am_e0 hi_92_167 ?_
        obtain ⟨z42, hz42⟩ : ∃ q__, am_bin 0 ap 1 = q__ := ⟨_, rfl⟩
        refine am_e10 (z := z42) hi_92_168 hz42 ?_
        refine am_e0 hi_92_169 ?_
        refine am_e1 (v := v1) hi_92_170 rfl ?_
        refine am_e32n (as := [.ref 7, .int 23, .int z42, .int 0, .int v1]) (la := [some (.ref 7), some (.int 23), some (.int z42), some (.int 0), some (.int v1)]) (rest := []) hi_92_171 (am_hd0 (M := 92) (by decide) 171) (Nat.le_of_ble_eq_true rfl) (Nat.le_of_ble_eq_true rfl) (show 5 ≤ am_P0.2.2.1 78 from by decide +kernel) rfl (cl_recv (h29.1.s (7, 6) (by decide))) rfl rfl (ck_emit (d := (d + 15)) h29   ) ?_
        rintro v43 S44 ⟨r45, rfl, h46, h47, h48, h49⟩
        have h47_ : iv S44 8 1 = iv S17 8 1 := h47
        have h48_ : iv S44 10 1 = iv S17 10 1 := h48
        have h49_ : iv S44 14 1 = iv S17 14 1 := h49
        obtain ⟨h51, h52, ⟨h53, h54, h55, h56⟩, ⟨h57, h58, h59⟩, h61⟩ := h46
        have h62 : kd aw S44 = kd aw S17 := kd_eq h53 h56
        have h63 := os_5 h57 1
        have h64 := os_13 h57 1
        show am_E _ _ _ _ [some (.ref 7), some (.int ap), some (.int v1), none] [.int r45] _ _
        refine am_e6i hi_92_174 ?_
        refine am_e1 (v := ap) hi_92_175 rfl ?_
        refine am_e0 hi_92_176 ?_
        obtain ⟨z65, hz65⟩ : ∃ q__, am_bin 0 ap 1 = q__ := ⟨_, rfl⟩
        refine am_e10 (z := z65) hi_92_177 hz65 ?_
        refine am_e33 hi_92_178 ?_
        exact ⟨z65, rfl, ⟨h51, (h30.trans h52), ⟨(by show wr S44 = wr S; omega), (h56.trans h34)⟩, ⟨(by show iv S44 13 1 = iv S 13 1; omega), (by show iv S44 5 1 - nx S44 ≤ iv S 5 1 - nx S; omega)⟩⟩, (by show nx S + 1 ≤ nx S44; omega), (by show nx S44 ≤ wr S44; omega), (by show lv S44 = lv S + 0; omega), (by show EN S44 + -10000 * nx S44 ≤ EN S + -10000 * nx S + (-1000); omega), (by show iv S 8 1 ≤ iv S44 8 1; omega), (by show iv S 10 1 ≤ iv S44 10 1; omega)⟩
      · refine am_e12f hi_92_134 (am_cF (m := v40.toInt) (n := (0 : Int)) rfl (by decide) c41) ?_
        refine am_e2 (v := 7) hi_92_137 rfl ?_
        refine am_e32n (as := [.ref 7]) (la := [some (.ref 7), none]) (rest := []) hi_92_138 (am_hd0 (M := 92) (by decide) 138) (Nat.le_of_ble_eq_true rfl) (Nat.le_of_ble_eq_true rfl) (show 1 ≤ am_P0.2.2.1 94 from by decide +kernel) rfl (cl_recv (h29.1.s (7, 6) (by decide))) rfl rfl (ck_tableEnds (d := (d + 16)) h29   ) ?_
        rintro v66 S67 ⟨r68, rfl, hb70, rfl⟩
        have hb70_ : r68.toInt = 0 ∨ r68.toInt = 1 := hb70.elim (fun e => Or.inl (by rw [e]; rfl)) (fun e => Or.inr (by rw [e]; rfl))
        show am_E _ _ _ _ [some (.ref 7), some (.int ap), some (.int v1), none] [.int r68] _ _
        by_cases c71 : r68.toInt = (0 : Int)
        · refine am_e12t hi_92_141 (am_cT (m := r68.toInt) (n := (0 : Int)) rfl (by decide) c71) ?_
          refine am_e2 (v := 7) hi_92_163 rfl ?_
          refine am_e0 hi_92_164 ?_
          refine am_e1 (v := ap) hi_92_166 rfl ?_
          refine am_e0 hi_92_167 ?_
          obtain ⟨z72, hz72⟩ : ∃ q__, am_bin 0 ap 1 = q__ := ⟨_, rfl⟩
          refine am_e10 (z := z72) hi_92_168 hz72 ?_
          refine am_e0 hi_92_169 ?_
          refine am_e1 (v := v1) hi_92_170 rfl ?_
          refine am_e32n (as := [.ref 7, .int 23, .int z72, .int 0, .int v1]) (la := [some (.ref 7), some (.int 23), some (.int z72), some (.int 0), some (.int v1)]) (rest := []) hi_92_171 (am_hd0 (M := 92) (by decide) 171) (Nat.le_of_ble_eq_true rfl) (Nat.le_of_ble_eq_true rfl) (show 5 ≤ am_P0.2.2.1 78 from by decide +kernel) rfl (cl_recv (h29.1.s (7, 6) (by decide))) rfl rfl (ck_emit (d := (d + 15)) h29   ) ?_
          rintro v73 S74 ⟨r75, rfl, h76, h77, h78, h79⟩
          have h77_ : iv S74 8 1 = iv S17 8 1 := h77
          have h78_ : iv S74 10 1 = iv S17 10 1 := h78
          have h79_ : iv S74 14 1 = iv S17 14 1 := h79
          obtain ⟨h81, h82, ⟨h83, h84, h85, h86⟩, ⟨h87, h88, h89⟩, h91⟩ := h76
          have h92 : kd aw S74 = kd aw S17 := kd_eq h83 h86
          have h93 := os_5 h87 1
          have h94 := os_13 h87 1
          show am_E _ _ _ _ [some (.ref 7), some (.int ap), some (.int v1), none] [.int r75] _ _
          refine am_e6i hi_92_174 ?_
          refine am_e1 (v := ap) hi_92_175 rfl ?_
          refine am_e0 hi_92_176 ?_
          obtain ⟨z95, hz95⟩ : ∃ q__, am_bin 0 ap 1 = q__ := ⟨_, rfl⟩
          refine am_e10 (z := z95) hi_92_177 hz95 ?_
          refine am_e33 hi_92_178 ?_
          exact ⟨z95, rfl, ⟨h81, (h30.trans h82), ⟨(by show wr S74 = wr S; omega), (h86.trans h34)⟩, ⟨(by show iv S74 13 1 = iv S 13 1; omega), (by show iv S74 5 1 - nx S74 ≤ iv S 5 1 - nx S; omega)⟩⟩, (by show nx S + 1 ≤ nx S74; omega), (by show nx S74 ≤ wr S74; omega), (by show lv S74 = lv S + 0; omega), (by show EN S74 + -10000 * nx S74 ≤ EN S + -10000 * nx S + (-1000); omega), (by show iv S 8 1 ≤ iv S74 8 1; omega), (by show iv S 10 1 ≤ iv S74 10 1; omega)⟩
        · refine am_e12f hi_92_141 (am_cF (m := r68.toInt) (n := (0 : Int)) rfl (by decide) c71) ?_
          refine am_e2 (v := 7) hi_92_144 rfl ?_
          refine am_e32n (as := [.ref 7]) (la := [some (.ref 7)]) (rest := []) hi_92_145 (am_hd0 (M := 92) (by decide) 145) (Nat.le_of_ble_eq_true rfl) (Nat.le_of_ble_eq_true rfl) (show 1 ≤ am_P0.2.2.1 96 from by decide +kernel) rfl (cl_recv (h29.1.s (7, 6) (by decide))) rfl rfl (ck_widen (d := (d + 15)) h29   ) ?_
          rintro v96 S97 ⟨rfl, h99⟩
          obtain ⟨h101, h102, ⟨h103, h104, h105, h106⟩, ⟨h107, h108, h109⟩, h110, h111⟩ := h99
          have h112 : kd aw S97 = kd aw S17 := kd_eq h103 h106
          have h113 := h110 8 (h29.1.s (8, 3) (by decide))
          have h114 := h110 10 (h29.1.s (10, 3) (by decide))
          have h115 := os_5 h107 1
          have h116 := os_13 h107 1
          show am_E _ _ _ _ [some (.ref 7), some (.int ap), some (.int v1), none] [] _ _
          refine am_e2 (v := 7) hi_92_148 rfl ?_
          refine am_e0 hi_92_149 ?_
          refine am_e1 (v := ap) hi_92_151 rfl ?_
          refine am_e0 hi_92_152 ?_
          obtain ⟨z117, hz117⟩ : ∃ q__, am_bin 0 ap 1 = q__ := ⟨_, rfl⟩
          refine am_e10 (z := z117) hi_92_153 hz117 ?_
          refine am_e0 hi_92_154 ?_
          refine am_e1 (v := v1) hi_92_155 rfl ?_
          refine am_e32n (as := [.ref 7, .int 24, .int z117, .int 0, .int v1]) (la := [some (.ref 7), some (.int 24), some (.int z117), some (.int 0), some (.int v1)]) (rest := []) hi_92_156 (am_hd0 (M := 92) (by decide) 156) (Nat.le_of_ble_eq_true rfl) (Nat.le_of_ble_eq_true rfl) (show 5 ≤ am_P0.2.2.1 78 from by decide +kernel) rfl (cl_recv (h101.1.s (7, 6) (by decide))) rfl rfl (ck_emit (d := (d + 15)) h101   ) ?_
          rintro v118 S119 ⟨r120, rfl, h121, h122, h123, h124⟩
          have h122_ : iv S119 8 1 = iv S97 8 1 := h122
          have h123_ : iv S119 10 1 = iv S97 10 1 := h123
          have h124_ : iv S119 14 1 = iv S97 14 1 := h124
          obtain ⟨h126, h127, ⟨h128, h129, h130, h131⟩, ⟨h132, h133, h134⟩, h136⟩ := h121
          have h137 : kd aw S119 = kd aw S97 := kd_eq h128 h131
          have h138 := os_5 h132 1
          have h139 := os_13 h132 1
          show am_E _ _ _ _ [some (.ref 7), some (.int ap), some (.int v1), none] [.int r120] _ _
          refine am_e6i hi_92_159 ?_
          refine am_e18 hi_92_160 ?_
          refine am_e1 (v := ap) hi_92_175 rfl ?_
          refine am_e0 hi_92_176 ?_
          obtain ⟨z140, hz140⟩ : ∃ q__, am_bin 0 ap 1 = q__ := ⟨_, rfl⟩
          refine am_e10 (z := z140) hi_92_177 hz140 ?_
          refine am_e33 hi_92_178 ?_
          exact ⟨z140, rfl, ⟨h126, ((h30.trans h102).trans h127), ⟨(by show wr S119 = wr S; omega), (h131.trans (h106.trans h34))⟩, ⟨(by show iv S119 13 1 = iv S 13 1; omega), (by show iv S119 5 1 - nx S119 ≤ iv S 5 1 - nx S; omega)⟩⟩, (by show nx S + 1 ≤ nx S119; omega), (by show nx S119 ≤ wr S119; omega), (by show lv S119 = lv S + 0; omega), (by show EN S119 + -10000 * nx S119 ≤ EN S + -10000 * nx S + (-1000); omega), (by show iv S 8 1 ≤ iv S119 8 1; omega), (by show iv S 10 1 ≤ iv S119 10 1; omega)⟩
    · refine am_e13f hi_92_76 (am_cF (m := r11.toInt) (n := (1 : Int)) rfl (by decide) c15) ?_
      refine am_e2 (v := 7) hi_92_79 rfl ?_
      refine cm_20f (r := 2) h hi_92_80 (h.1.s (7, 6) (by decide)) (by decide) rfl ?_
      refine am_e1 (v := v1) hi_92_83 rfl ?_
      refine am_e0 hi_92_84 ?_
      obtain ⟨z141, hz141, tz141⟩ := am_addI (x := v1) (y := 1) (m := v1.toInt) (n := (1 : Int)) rfl (by decide) (by omega) (by omega)
      refine am_e10 (z := z141) hi_92_85 hz141 ?_
      refine am_e32n (as := [.ref 2, .int z141]) (la := [some (.ref 2), some (.int z141)]) (rest := []) hi_92_86 (am_hd0 (M := 92) (by decide) 86) (Nat.le_of_ble_eq_true rfl) (Nat.le_of_ble_eq_true rfl) (show 2 ≤ am_P0.2.2.1 93 from by decide +kernel) rfl (cl_recv (h.1.s (2, 2) (by decide))) rfl rfl (ck_kindAt (d := (d + 17)) h   ) ?_
      rintro v142 S143 ⟨r144, rfl, rfl, h146⟩
      have h146_ : r144.toInt = kA aw S z141.toInt := h146
      have h148 : r144.toInt = kA aw S (nx S + 1) := by have q := h146_; rw [show z141.toInt = nx S + 1 from by omega] at q; exact q
      show am_E _ _ _ _ [some (.ref 7), some (.int ap), some (.int v1), none] [.int r144] _ _
      refine am_e0 hi_92_89 ?_
      by_cases c149 : ¬ r144.toInt = (59 : Int)
      · refine am_e13t hi_92_91 (am_cT (m := r144.toInt) (n := (59 : Int)) rfl (by decide) c149) ?_
        refine am_e2 (v := 7) hi_92_126 rfl ?_
        refine am_e32q (d1 := d + 0 + 18) (by omega) (as := [.ref 7]) (la := [some (.ref 7), none, none, none, none, none]) (rest := []) hi_92_127 (am_hd0 (M := 92) (by decide) 127) (Nat.le_of_ble_eq_true rfl) (Nat.le_of_ble_eq_true rfl) (show 1 ≤ am_P0.2.2.1 70 from by decide +kernel) rfl (cl_recv (h.1.s (7, 6) (by decide))) rfl rfl (cr_expression (d := d + 0) h  ihR (by show 48 - lv S < (NN : Int) + 1; omega) (by show (30 : Int) * (48 - lv S) ≤ ((d + 0 : Nat) : Int); omega) (by show 0 ≤ nx S; omega) (by show nx S ≤ wr S; omega) (by show wr S ≤ 600; omega) (by show 0 ≤ lv S; omega) (by show lv S ≤ 48; omega) (by show 1 ≤ iv S 13 1; omega) (by show iv S 13 1 ≤ lv S + 1; omega) (by show iv S 5 1 ≤ nx S + 1; omega)) (fun S161 h162 => (show TH aw 2000 S S161 from ⟨h162.1, (Ex.refl S).trans h162.2.1, ⟨(by have q := h162.2.2.1.1; omega), h162.2.2.1.2.trans rfl⟩, h162.2.2.2.1, h162.2.2.2.2.1, (by have q := h162.2.2.2.2.2; omega)⟩)) ?_
        rintro v150 S151 ⟨rfl, h153, h154, h155, h156, h157, h158, h159⟩
        have h154_ : nx S + 1 ≤ nx S151 := h154
        have h155_ : nx S151 ≤ wr S151 := h155
        have h156_ : lv S151 = lv S + 0 := h156
        have h157_ : EN S151 + -10000 * nx S151 ≤ EN S + -10000 * nx S + (-2000) := h157
        have h158_ : iv S 8 1 ≤ iv S151 8 1 := h158
        have h159_ : iv S 10 1 ≤ iv S151 10 1 := h159
        obtain ⟨h163, h164, ⟨h167, h168⟩, ⟨h169, h170⟩⟩ := h153
        show am_E _ _ _ _ [some (.ref 7), some (.int ap), some (.int v1), none] [] _ _
        refine am_e2 (v := 7) hi_92_130 rfl ?_
        refine cm_20z h163 hi_92_131 (h163.1.s (7, 6) (by decide)) (by decide) rfl fun v174 hv174 => ?_
        have hv174_ : v174.toInt = 0 ∨ v174.toInt = 1 := hv174.elim (fun e => Or.inl (by rw [e]; rfl)) (fun e => Or.inr (by rw [e]; rfl))
        by_cases c175 : v174.toInt = (0 : Int)
        · refine am_e12t hi_92_134 (am_cT (m := v174.toInt) (n := (0 : Int)) rfl (by decide) c175) ?_
          refine am_e2 (v := 7) hi_92_163 rfl ?_
          refine am_e0 hi_92_164 ?_
          refine am_e1 (v := ap) hi_92_166 rfl ?_
          refine am_e0 hi_92_167 ?_
          obtain ⟨z176, hz176⟩ : ∃ q__, am_bin 0 ap 1 = q__ := ⟨_, rfl⟩
          refine am_e10 (z := z176) hi_92_168 hz176 ?_
          refine am_e0 hi_92_169 ?_
          refine am_e1 (v := v1) hi_92_170 rfl ?_
          refine am_e32n (as := [.ref 7, .int 23, .int z176, .int 0, .int v1]) (la := [some (.ref 7), some (.int 23), some (.int z176), some (.int 0), some (.int v1)]) (rest := []) hi_92_171 (am_hd0 (M := 92) (by decide) 171) (Nat.le_of_ble_eq_true rfl) (Nat.le_of_ble_eq_true rfl) (show 5 ≤ am_P0.2.2.1 78 from by decide +kernel) rfl (cl_recv (h163.1.s (7, 6) (by decide))) rfl rfl (ck_emit (d := (d + 15)) h163   ) ?_
          rintro v177 S178 ⟨r179, rfl, h180, h181, h182, h183⟩
          have h181_ : iv S178 8 1 = iv S151 8 1 := h181
          have h182_ : iv S178 10 1 = iv S151 10 1 := h182
          have h183_ : iv S178 14 1 = iv S151 14 1 := h183
          obtain ⟨h185, h186, ⟨h187, h188, h189, h190⟩, ⟨h191, h192, h193⟩, h195⟩ := h180
          have h196 : kd aw S178 = kd aw S151 := kd_eq h187 h190
          have h197 := os_5 h191 1
          have h198 := os_13 h191 1
          show am_E _ _ _ _ [some (.ref 7), some (.int ap), some (.int v1), none] [.int r179] _ _
          refine am_e6i hi_92_174 ?_
          refine am_e1 (v := ap) hi_92_175 rfl ?_
          refine am_e0 hi_92_176 ?_
          obtain ⟨z199, hz199⟩ : ∃ q__, am_bin 0 ap 1 = q__ := ⟨_, rfl⟩
          refine am_e10 (z := z199) hi_92_177 hz199 ?_
          refine am_e33 hi_92_178 ?_
          exact ⟨z199, rfl, ⟨h185, (h164.trans h186), ⟨(by show wr S178 = wr S; omega), (h190.trans h168)⟩, ⟨(by show iv S178 13 1 = iv S 13 1; omega), (by show iv S178 5 1 - nx S178 ≤ iv S 5 1 - nx S; omega)⟩⟩, (by show nx S + 1 ≤ nx S178; omega), (by show nx S178 ≤ wr S178; omega), (by show lv S178 = lv S + 0; omega), (by show EN S178 + -10000 * nx S178 ≤ EN S + -10000 * nx S + (-1000); omega), (by show iv S 8 1 ≤ iv S178 8 1; omega), (by show iv S 10 1 ≤ iv S178 10 1; omega)⟩
        · refine am_e12f hi_92_134 (am_cF (m := v174.toInt) (n := (0 : Int)) rfl (by decide) c175) ?_
          refine am_e2 (v := 7) hi_92_137 rfl ?_
          refine am_e32n (as := [.ref 7]) (la := [some (.ref 7), none]) (rest := []) hi_92_138 (am_hd0 (M := 92) (by decide) 138) (Nat.le_of_ble_eq_true rfl) (Nat.le_of_ble_eq_true rfl) (show 1 ≤ am_P0.2.2.1 94 from by decide +kernel) rfl (cl_recv (h163.1.s (7, 6) (by decide))) rfl rfl (ck_tableEnds (d := (d + 16)) h163   ) ?_
          rintro v200 S201 ⟨r202, rfl, hb204, rfl⟩
          have hb204_ : r202.toInt = 0 ∨ r202.toInt = 1 := hb204.elim (fun e => Or.inl (by rw [e]; rfl)) (fun e => Or.inr (by rw [e]; rfl))
          show am_E _ _ _ _ [some (.ref 7), some (.int ap), some (.int v1), none] [.int r202] _ _
          by_cases c205 : r202.toInt = (0 : Int)
          · refine am_e12t hi_92_141 (am_cT (m := r202.toInt) (n := (0 : Int)) rfl (by decide) c205) ?_
            refine am_e2 (v := 7) hi_92_163 rfl ?_
            refine am_e0 hi_92_164 ?_
            refine am_e1 (v := ap) hi_92_166 rfl ?_
            refine am_e0 hi_92_167 ?_
            obtain ⟨z206, hz206⟩ : ∃ q__, am_bin 0 ap 1 = q__ := ⟨_, rfl⟩
            refine am_e10 (z := z206) hi_92_168 hz206 ?_
            refine am_e0 hi_92_169 ?_
            refine am_e1 (v := v1) hi_92_170 rfl ?_
            refine am_e32n (as := [.ref 7, .int 23, .int z206, .int 0, .int v1]) (la := [some (.ref 7), some (.int 23), some (.int z206), some (.int 0), some (.int v1)]) (rest := []) hi_92_171 (am_hd0 (M := 92) (by decide) 171) (Nat.le_of_ble_eq_true rfl) (Nat.le_of_ble_eq_true rfl) (show 5 ≤ am_P0.2.2.1 78 from by decide +kernel) rfl (cl_recv (h163.1.s (7, 6) (by decide))) rfl rfl (ck_emit (d := (d + 15)) h163   ) ?_
            rintro v207 S208 ⟨r209, rfl, h210, h211, h212, h213⟩
            have h211_ : iv S208 8 1 = iv S151 8 1 := h211
            have h212_ : iv S208 10 1 = iv S151 10 1 := h212
            have h213_ : iv S208 14 1 = iv S151 14 1 := h213
            obtain ⟨h215, h216, ⟨h217, h218, h219, h220⟩, ⟨h221, h222, h223⟩, h225⟩ := h210
            have h226 : kd aw S208 = kd aw S151 := kd_eq h217 h220
            have h227 := os_5 h221 1
            have h228 := os_13 h221 1
            show am_E _ _ _ _ [some (.ref 7), some (.int ap), some (.int v1), none] [.int r209] _ _
            refine am_e6i hi_92_174 ?_
            refine am_e1 (v := ap) hi_92_175 rfl ?_
            refine am_e0 hi_92_176 ?_
            obtain ⟨z229, hz229⟩ : ∃ q__, am_bin 0 ap 1 = q__ := ⟨_, rfl⟩
            refine am_e10 (z := z229) hi_92_177 hz229 ?_
            refine am_e33 hi_92_178 ?_
            exact ⟨z229, rfl, ⟨h215, (h164.trans h216), ⟨(by show wr S208 = wr S; omega), (h220.trans h168)⟩, ⟨(by show iv S208 13 1 = iv S 13 1; omega), (by show iv S208 5 1 - nx S208 ≤ iv S 5 1 - nx S; omega)⟩⟩, (by show nx S + 1 ≤ nx S208; omega), (by show nx S208 ≤ wr S208; omega), (by show lv S208 = lv S + 0; omega), (by show EN S208 + -10000 * nx S208 ≤ EN S + -10000 * nx S + (-1000); omega), (by show iv S 8 1 ≤ iv S208 8 1; omega), (by show iv S 10 1 ≤ iv S208 10 1; omega)⟩
          · refine am_e12f hi_92_141 (am_cF (m := r202.toInt) (n := (0 : Int)) rfl (by decide) c205) ?_
            refine am_e2 (v := 7) hi_92_144 rfl ?_
            refine am_e32n (as := [.ref 7]) (la := [some (.ref 7)]) (rest := []) hi_92_145 (am_hd0 (M := 92) (by decide) 145) (Nat.le_of_ble_eq_true rfl) (Nat.le_of_ble_eq_true rfl) (show 1 ≤ am_P0.2.2.1 96 from by decide +kernel) rfl (cl_recv (h163.1.s (7, 6) (by decide))) rfl rfl (ck_widen (d := (d + 15)) h163   ) ?_
            rintro v230 S231 ⟨rfl, h233⟩
            obtain ⟨h235, h236, ⟨h237, h238, h239, h240⟩, ⟨h241, h242, h243⟩, h244, h245⟩ := h233
            have h246 : kd aw S231 = kd aw S151 := kd_eq h237 h240
            have h247 := h244 8 (h163.1.s (8, 3) (by decide))
            have h248 := h244 10 (h163.1.s (10, 3) (by decide))
            have h249 := os_5 h241 1
            have h250 := os_13 h241 1
            show am_E _ _ _ _ [some (.ref 7), some (.int ap), some (.int v1), none] [] _ _
            refine am_e2 (v := 7) hi_92_148 rfl ?_
            refine am_e0 hi_92_149 ?_
            refine am_e1 (v := ap) hi_92_151 rfl ?_
            refine am_e0 hi_92_152 ?_
            obtain ⟨z251, hz251⟩ : ∃ q__, am_bin 0 ap 1 = q__ := ⟨_, rfl⟩
            refine am_e10 (z := z251) hi_92_153 hz251 ?_
            refine am_e0 hi_92_154 ?_
            refine am_e1 (v := v1) hi_92_155 rfl ?_
            refine am_e32n (as := [.ref 7, .int 24, .int z251, .int 0, .int v1]) (la := [some (.ref 7), some (.int 24), some (.int z251), some (.int 0), some (.int v1)]) (rest := []) hi_92_156 (am_hd0 (M := 92) (by decide) 156) (Nat.le_of_ble_eq_true rfl) (Nat.le_of_ble_eq_true rfl) (show 5 ≤ am_P0.2.2.1 78 from by decide +kernel) rfl (cl_recv (h235.1.s (7, 6) (by decide))) rfl rfl (ck_emit (d := (d + 15)) h235   ) ?_
            rintro v252 S253 ⟨r254, rfl, h255, h256, h257, h258⟩
            have h256_ : iv S253 8 1 = iv S231 8 1 := h256
            have h257_ : iv S253 10 1 = iv S231 10 1 := h257
            have h258_ : iv S253 14 1 = iv S231 14 1 := h258
            obtain ⟨h260, h261, ⟨h262, h263, h264, h265⟩, ⟨h266, h267, h268⟩, h270⟩ := h255
            have h271 : kd aw S253 = kd aw S231 := kd_eq h262 h265
            have h272 := os_5 h266 1
            have h273 := os_13 h266 1
            show am_E _ _ _ _ [some (.ref 7), some (.int ap), some (.int v1), none] [.int r254] _ _
            refine am_e6i hi_92_159 ?_
            refine am_e18 hi_92_160 ?_
            refine am_e1 (v := ap) hi_92_175 rfl ?_
            refine am_e0 hi_92_176 ?_
            obtain ⟨z274, hz274⟩ : ∃ q__, am_bin 0 ap 1 = q__ := ⟨_, rfl⟩
            refine am_e10 (z := z274) hi_92_177 hz274 ?_
            refine am_e33 hi_92_178 ?_
            exact ⟨z274, rfl, ⟨h260, ((h164.trans h236).trans h261), ⟨(by show wr S253 = wr S; omega), (h265.trans (h240.trans h168))⟩, ⟨(by show iv S253 13 1 = iv S 13 1; omega), (by show iv S253 5 1 - nx S253 ≤ iv S 5 1 - nx S; omega)⟩⟩, (by show nx S + 1 ≤ nx S253; omega), (by show nx S253 ≤ wr S253; omega), (by show lv S253 = lv S + 0; omega), (by show EN S253 + -10000 * nx S253 ≤ EN S + -10000 * nx S + (-1000); omega), (by show iv S 8 1 ≤ iv S253 8 1; omega), (by show iv S 10 1 ≤ iv S253 10 1; omega)⟩
      · refine am_e13f hi_92_91 (am_cF (m := r144.toInt) (n := (59 : Int)) rfl (by decide) c149) ?_
        refine am_e2 (v := 7) hi_92_94 rfl ?_
        refine cm_20f (r := 2) h hi_92_95 (h.1.s (7, 6) (by decide)) (by decide) rfl ?_
        refine am_e32t (as := [.ref 2]) (la := [some (.ref 2), none]) (rest := []) hi_92_98 (am_hd0 (M := 92) (by decide) 98) (Nat.le_of_ble_eq_true rfl) (Nat.le_of_ble_eq_true rfl) (show 1 ≤ am_P0.2.2.1 55 from by decide +kernel) rfl (cl_recv (h.1.s (2, 2) (by decide))) rfl rfl (ck_skip (d := (d + 5)) h   (by show 0 ≤ nx S; omega) (by show nx S ≤ wr S; omega) (by show wr S ≤ 600; omega) (by show 0 ≤ lv S; omega) (by show lv S ≤ 48; omega) (by show kd aw S ≠ 0; omega)) (fun S291 h292 => (show TH aw 2000 S S291 from ⟨h292.1, (Ex.refl S).trans h292.2.1, ⟨(by have q := h292.2.2.1.1; omega), h292.2.2.1.2.trans rfl⟩, h292.2.2.2.1, h292.2.2.2.2.1, (by have q := h292.2.2.2.2.2; omega)⟩)) ?_
        rintro v275 S276 ⟨r277, rfl, h278, h279, h280, h281, h282⟩
        have h279_ : nx S276 = nx S + 1 := h279
        have h280_ : lv S276 = lv S + c_dl (kd aw S) := h280
        have h281_ : lv S276 ≤ 48 := h281
        have h282_ : nx S276 ≤ wr S276 := h282
        obtain ⟨h293, h294, ⟨h297, h298⟩, ⟨h299, h300, h301⟩, h302, h303⟩ := h278
        have h304 := h302 8 (h.1.s (8, 3) (by decide))
        have h305 := h302 10 (h.1.s (10, 3) (by decide))
        have h306 := os_5 h299 1
        have h307 := os_13 h299 1
        have h308 : c_dl (kd aw S) = 0 := by unfold c_dl; split <;> split <;> omega
        have h309 : kd aw S276 = kA aw S (nx S + 1) := by unfold kd; rw [h298, show nx S276 = nx S + 1 from by omega]
        show am_E _ _ _ _ [some (.ref 7), some (.int ap), some (.int v1), none] [.int r277] _ _
        refine am_e3 (ls' := [some (.ref 7), some (.int ap), some (.int v1), some (.int r277)]) hi_92_101 (Nat.le_of_ble_eq_true rfl) rfl ?_
        refine am_e2 (v := 7) hi_92_102 rfl ?_
        refine cm_20f (r := 2) h293 hi_92_103 (h293.1.s (7, 6) (by decide)) (by decide) rfl ?_
        refine am_e32t (as := [.ref 2]) (la := [some (.ref 2), none]) (rest := []) hi_92_106 (am_hd0 (M := 92) (by decide) 106) (Nat.le_of_ble_eq_true rfl) (Nat.le_of_ble_eq_true rfl) (show 1 ≤ am_P0.2.2.1 55 from by decide +kernel) rfl (cl_recv (h293.1.s (2, 2) (by decide))) rfl rfl (ck_skip (d := (d + 5)) h293   (by show 0 ≤ nx S276; omega) (by show nx S276 ≤ wr S276; omega) (by show wr S276 ≤ 600; omega) (by show 0 ≤ lv S276; omega) (by show lv S276 ≤ 48; omega) (by show kd aw S276 ≠ 0; omega)) (fun S326 h327 => (show TH aw 2000 S S326 from ⟨h327.1, h294.trans h327.2.1, ⟨(by have q := h327.2.2.1.1; omega), h327.2.2.1.2.trans h298⟩, h327.2.2.2.1, h327.2.2.2.2.1, (by have q := h327.2.2.2.2.2; omega)⟩)) ?_
        rintro v310 S311 ⟨r312, rfl, h313, h314, h315, h316, h317⟩
        have h314_ : nx S311 = nx S276 + 1 := h314
        have h315_ : lv S311 = lv S276 + c_dl (kd aw S276) := h315
        have h316_ : lv S311 ≤ 48 := h316
        have h317_ : nx S311 ≤ wr S311 := h317
        obtain ⟨h328, h329, ⟨h332, h333⟩, ⟨h334, h335, h336⟩, h337, h338⟩ := h313
        have h339 := h337 8 (h293.1.s (8, 3) (by decide))
        have h340 := h337 10 (h293.1.s (10, 3) (by decide))
        have h341 := os_5 h334 1
        have h342 := os_13 h334 1
        have h343 : c_dl (kd aw S276) = 0 := by unfold c_dl; split <;> split <;> omega
        show am_E _ _ _ _ [some (.ref 7), some (.int ap), some (.int v1), some (.int r277)] [.int r312] _ _
        refine am_e6i hi_92_109 ?_
        refine am_e2 (v := 7) hi_92_110 rfl ?_
        refine am_e32q (d1 := d + 0 + 18) (by omega) (as := [.ref 7]) (la := [some (.ref 7), none, none, none, none, none]) (rest := []) hi_92_111 (am_hd0 (M := 92) (by decide) 111) (Nat.le_of_ble_eq_true rfl) (Nat.le_of_ble_eq_true rfl) (show 1 ≤ am_P0.2.2.1 70 from by decide +kernel) rfl (cl_recv (h328.1.s (7, 6) (by decide))) rfl rfl (cr_expression (d := d + 0) h328  ihR (by show 48 - lv S311 < (NN : Int) + 1; omega) (by show (30 : Int) * (48 - lv S311) ≤ ((d + 0 : Nat) : Int); omega) (by show 0 ≤ nx S311; omega) (by show nx S311 ≤ wr S311; omega) (by show wr S311 ≤ 600; omega) (by show 0 ≤ lv S311; omega) (by show lv S311 ≤ 48; omega) (by show 1 ≤ iv S311 13 1; omega) (by show iv S311 13 1 ≤ lv S311 + 1; omega) (by show iv S311 5 1 ≤ nx S311 + 1; omega)) (fun S355 h356 => (show TH aw 2000 S S355 from ⟨h356.1, (h294.trans h329).trans h356.2.1, ⟨(by have q := h356.2.2.1.1; omega), h356.2.2.1.2.trans (h333.trans h298)⟩, h356.2.2.2.1, h356.2.2.2.2.1, (by have q := h356.2.2.2.2.2; omega)⟩)) ?_
        rintro v344 S345 ⟨rfl, h347, h348, h349, h350, h351, h352, h353⟩
        have h348_ : nx S311 + 1 ≤ nx S345 := h348
        have h349_ : nx S345 ≤ wr S345 := h349
        have h350_ : lv S345 = lv S311 + 0 := h350
        have h351_ : EN S345 + -10000 * nx S345 ≤ EN S311 + -10000 * nx S311 + (-2000) := h351
        have h352_ : iv S311 8 1 ≤ iv S345 8 1 := h352
        have h353_ : iv S311 10 1 ≤ iv S345 10 1 := h353
        obtain ⟨h357, h358, ⟨h361, h362⟩, ⟨h363, h364⟩⟩ := h347
        show am_E _ _ _ _ [some (.ref 7), some (.int ap), some (.int v1), some (.int r277)] [] _ _
        refine am_e2 (v := 7) hi_92_114 rfl ?_
        refine am_e0 hi_92_115 ?_
        refine am_e1 (v := r277) hi_92_117 rfl ?_
        refine am_e0 hi_92_118 ?_
        refine am_e1 (v := v1) hi_92_119 rfl ?_
        refine am_e32n (as := [.ref 7, .int 22, .int r277, .int 0, .int v1]) (la := [some (.ref 7), some (.int 22), some (.int r277), some (.int 0), some (.int v1)]) (rest := []) hi_92_120 (am_hd0 (M := 92) (by decide) 120) (Nat.le_of_ble_eq_true rfl) (Nat.le_of_ble_eq_true rfl) (show 5 ≤ am_P0.2.2.1 78 from by decide +kernel) rfl (cl_recv (h357.1.s (7, 6) (by decide))) rfl rfl (ck_emit (d := (d + 15)) h357   ) ?_
        rintro v368 S369 ⟨r370, rfl, h371, h372, h373, h374⟩
        have h372_ : iv S369 8 1 = iv S345 8 1 := h372
        have h373_ : iv S369 10 1 = iv S345 10 1 := h373
        have h374_ : iv S369 14 1 = iv S345 14 1 := h374
        obtain ⟨h376, h377, ⟨h378, h379, h380, h381⟩, ⟨h382, h383, h384⟩, h386⟩ := h371
        have h387 : kd aw S369 = kd aw S345 := kd_eq h378 h381
        have h388 := os_5 h382 1
        have h389 := os_13 h382 1
        show am_E _ _ _ _ [some (.ref 7), some (.int ap), some (.int v1), some (.int r277)] [.int r370] _ _
        refine am_e6i hi_92_123 ?_
        refine am_e1 (v := ap) hi_92_124 rfl ?_
        refine am_e33 hi_92_125 ?_
        exact ⟨ap, rfl, ⟨h376, (((h294.trans h329).trans h358).trans h377), ⟨(by show wr S369 = wr S; omega), (h381.trans (h362.trans (h333.trans h298)))⟩, ⟨(by show iv S369 13 1 = iv S 13 1; omega), (by show iv S369 5 1 - nx S369 ≤ iv S 5 1 - nx S; omega)⟩⟩, (by show nx S + 1 ≤ nx S369; omega), (by show nx S369 ≤ wr S369; omega), (by show lv S369 = lv S + 0; omega), (by show EN S369 + -10000 * nx S369 ≤ EN S + -10000 * nx S + (-1000); omega), (by show iv S 8 1 ≤ iv S369 8 1; omega), (by show iv S 10 1 ≤ iv S369 10 1; omega)⟩
  · refine am_e13f hi_92_17 (am_cF (m := r4.toInt) (n := (64 : Int)) rfl (by decide) c8) ?_
    refine am_e2 (v := 7) hi_92_20 rfl ?_
    refine cm_20f (r := 2) h hi_92_21 (h.1.s (7, 6) (by decide)) (by decide) rfl ?_
    refine am_e32t (as := [.ref 2]) (la := [some (.ref 2), none]) (rest := []) hi_92_24 (am_hd0 (M := 92) (by decide) 24) (Nat.le_of_ble_eq_true rfl) (Nat.le_of_ble_eq_true rfl) (show 1 ≤ am_P0.2.2.1 55 from by decide +kernel) rfl (cl_recv (h.1.s (2, 2) (by decide))) rfl rfl (ck_skip (d := (d + 5)) h   (by show 0 ≤ nx S; omega) (by show nx S ≤ wr S; omega) (by show wr S ≤ 600; omega) (by show 0 ≤ lv S; omega) (by show lv S ≤ 48; omega) (by show kd aw S ≠ 0; omega)) (fun S406 h407 => (show TH aw 2000 S S406 from ⟨h407.1, (Ex.refl S).trans h407.2.1, ⟨(by have q := h407.2.2.1.1; omega), h407.2.2.1.2.trans rfl⟩, h407.2.2.2.1, h407.2.2.2.2.1, (by have q := h407.2.2.2.2.2; omega)⟩)) ?_
    rintro v390 S391 ⟨r392, rfl, h393, h394, h395, h396, h397⟩
    have h394_ : nx S391 = nx S + 1 := h394
    have h395_ : lv S391 = lv S + c_dl (kd aw S) := h395
    have h396_ : lv S391 ≤ 48 := h396
    have h397_ : nx S391 ≤ wr S391 := h397
    obtain ⟨h408, h409, ⟨h412, h413⟩, ⟨h414, h415, h416⟩, h417, h418⟩ := h393
    have h419 := h417 8 (h.1.s (8, 3) (by decide))
    have h420 := h417 10 (h.1.s (10, 3) (by decide))
    have h421 := os_5 h414 1
    have h422 := os_13 h414 1
    have h423 : c_dl (kd aw S) = 1 := by unfold c_dl; split <;> split <;> omega
    show am_E _ _ _ _ [some (.ref 7), some (.int ap), some (.int v1), none] [.int r392] _ _
    refine am_e6i hi_92_27 ?_
    refine am_e2 (v := 7) hi_92_28 rfl ?_
    refine am_e32q (d1 := d + 0 + 18) (by omega) (as := [.ref 7]) (la := [some (.ref 7), none, none, none, none, none]) (rest := []) hi_92_29 (am_hd0 (M := 92) (by decide) 29) (Nat.le_of_ble_eq_true rfl) (Nat.le_of_ble_eq_true rfl) (show 1 ≤ am_P0.2.2.1 70 from by decide +kernel) rfl (cl_recv (h408.1.s (7, 6) (by decide))) rfl rfl (cr_expression (d := d + 0) h408  ihR (by show 48 - lv S391 < (NN : Int) + 1; omega) (by show (30 : Int) * (48 - lv S391) ≤ ((d + 0 : Nat) : Int); omega) (by show 0 ≤ nx S391; omega) (by show nx S391 ≤ wr S391; omega) (by show wr S391 ≤ 600; omega) (by show 0 ≤ lv S391; omega) (by show lv S391 ≤ 48; omega) (by show 1 ≤ iv S391 13 1; omega) (by show iv S391 13 1 ≤ lv S391 + 1; omega) (by show iv S391 5 1 ≤ nx S391 + 1; omega)) (fun S435 h436 => (show TH aw 2000 S S435 from ⟨h436.1, h409.trans h436.2.1, ⟨(by have q := h436.2.2.1.1; omega), h436.2.2.1.2.trans h413⟩, h436.2.2.2.1, h436.2.2.2.2.1, (by have q := h436.2.2.2.2.2; omega)⟩)) ?_
    rintro v424 S425 ⟨rfl, h427, h428, h429, h430, h431, h432, h433⟩
    have h428_ : nx S391 + 1 ≤ nx S425 := h428
    have h429_ : nx S425 ≤ wr S425 := h429
    have h430_ : lv S425 = lv S391 + 0 := h430
    have h431_ : EN S425 + -10000 * nx S425 ≤ EN S391 + -10000 * nx S391 + (-2000) := h431
    have h432_ : iv S391 8 1 ≤ iv S425 8 1 := h432
    have h433_ : iv S391 10 1 ≤ iv S425 10 1 := h433
    obtain ⟨h437, h438, ⟨h441, h442⟩, ⟨h443, h444⟩⟩ := h427
    show am_E _ _ _ _ [some (.ref 7), some (.int ap), some (.int v1), none] [] _ _
    refine am_e2 (v := 7) hi_92_32 rfl ?_
    refine cm_20f (r := 2) h437 hi_92_33 (h437.1.s (7, 6) (by decide)) (by decide) rfl ?_
    refine am_e0 hi_92_36 ?_
    refine am_e32t (as := [.ref 2, .int 65]) (la := [some (.ref 2), some (.int 65)]) (rest := []) hi_92_38 (am_hd0 (M := 92) (by decide) 38) (Nat.le_of_ble_eq_true rfl) (Nat.le_of_ble_eq_true rfl) (show 2 ≤ am_P0.2.2.1 64 from by decide +kernel) rfl (cl_recv (h437.1.s (2, 2) (by decide))) rfl rfl (ck_take (d := (d + 4)) h437   (by show 0 ≤ nx S425; omega) (by show nx S425 ≤ wr S425; omega) (by show wr S425 ≤ 600; omega) (by show 0 ≤ lv S425; omega) (by show lv S425 ≤ 48; omega) (by show ¬ (65 : Int) = 0; omega)) (fun S465 h466 => (show TH aw 2000 S S465 from ⟨h466.1, (h409.trans h438).trans h466.2.1, ⟨(by have q := h466.2.2.1.1; omega), h466.2.2.1.2.trans (h442.trans h413)⟩, h466.2.2.2.1, h466.2.2.2.2.1, (by have q := h466.2.2.2.2.2; omega)⟩)) ?_
    rintro v448 S449 ⟨r450, rfl, h451, h452, h453, h454, h455, h456⟩
    have h452_ : kd aw S425 = (65 : Int) := h452
    have h453_ : nx S449 = nx S425 + 1 := h453
    have h454_ : lv S449 = lv S425 + c_dl (kd aw S425) := h454
    have h455_ : lv S449 ≤ 48 := h455
    have h456_ : nx S449 ≤ wr S449 := h456
    obtain ⟨h467, h468, ⟨h471, h472⟩, ⟨h473, h474, h475⟩, h476, h477⟩ := h451
    have h478 := h476 8 (h437.1.s (8, 3) (by decide))
    have h479 := h476 10 (h437.1.s (10, 3) (by decide))
    have h480 := os_5 h473 1
    have h481 := os_13 h473 1
    have h482 : c_dl (kd aw S425) = -1 := by unfold c_dl; split <;> split <;> omega
    show am_E _ _ _ _ [some (.ref 7), some (.int ap), some (.int v1), none] [.int r450] _ _
    refine am_e6i hi_92_41 ?_
    refine am_e2 (v := 7) hi_92_42 rfl ?_
    refine cm_20f (r := 2) h467 hi_92_43 (h467.1.s (7, 6) (by decide)) (by decide) rfl ?_
    refine am_e0 hi_92_46 ?_
    refine am_e32t (as := [.ref 2, .int 59]) (la := [some (.ref 2), some (.int 59)]) (rest := []) hi_92_48 (am_hd0 (M := 92) (by decide) 48) (Nat.le_of_ble_eq_true rfl) (Nat.le_of_ble_eq_true rfl) (show 2 ≤ am_P0.2.2.1 64 from by decide +kernel) rfl (cl_recv (h467.1.s (2, 2) (by decide))) rfl rfl (ck_take (d := (d + 4)) h467   (by show 0 ≤ nx S449; omega) (by show nx S449 ≤ wr S449; omega) (by show wr S449 ≤ 600; omega) (by show 0 ≤ lv S449; omega) (by show lv S449 ≤ 48; omega) (by show ¬ (59 : Int) = 0; omega)) (fun S500 h501 => (show TH aw 2000 S S500 from ⟨h501.1, ((h409.trans h438).trans h468).trans h501.2.1, ⟨(by have q := h501.2.2.1.1; omega), h501.2.2.1.2.trans (h472.trans (h442.trans h413))⟩, h501.2.2.2.1, h501.2.2.2.2.1, (by have q := h501.2.2.2.2.2; omega)⟩)) ?_
    rintro v483 S484 ⟨r485, rfl, h486, h487, h488, h489, h490, h491⟩
    have h487_ : kd aw S449 = (59 : Int) := h487
    have h488_ : nx S484 = nx S449 + 1 := h488
    have h489_ : lv S484 = lv S449 + c_dl (kd aw S449) := h489
    have h490_ : lv S484 ≤ 48 := h490
    have h491_ : nx S484 ≤ wr S484 := h491
    obtain ⟨h502, h503, ⟨h506, h507⟩, ⟨h508, h509, h510⟩, h511, h512⟩ := h486
    have h513 := h511 8 (h467.1.s (8, 3) (by decide))
    have h514 := h511 10 (h467.1.s (10, 3) (by decide))
    have h515 := os_5 h508 1
    have h516 := os_13 h508 1
    have h517 : c_dl (kd aw S449) = 0 := by unfold c_dl; split <;> split <;> omega
    show am_E _ _ _ _ [some (.ref 7), some (.int ap), some (.int v1), none] [.int r485] _ _
    refine am_e6i hi_92_51 ?_
    refine am_e2 (v := 7) hi_92_52 rfl ?_
    refine am_e32q (d1 := d + 0 + 18) (by omega) (as := [.ref 7]) (la := [some (.ref 7), none, none, none, none, none]) (rest := []) hi_92_53 (am_hd0 (M := 92) (by decide) 53) (Nat.le_of_ble_eq_true rfl) (Nat.le_of_ble_eq_true rfl) (show 1 ≤ am_P0.2.2.1 70 from by decide +kernel) rfl (cl_recv (h502.1.s (7, 6) (by decide))) rfl rfl (cr_expression (d := d + 0) h502  ihR (by show 48 - lv S484 < (NN : Int) + 1; omega) (by show (30 : Int) * (48 - lv S484) ≤ ((d + 0 : Nat) : Int); omega) (by show 0 ≤ nx S484; omega) (by show nx S484 ≤ wr S484; omega) (by show wr S484 ≤ 600; omega) (by show 0 ≤ lv S484; omega) (by show lv S484 ≤ 48; omega) (by show 1 ≤ iv S484 13 1; omega) (by show iv S484 13 1 ≤ lv S484 + 1; omega) (by show iv S484 5 1 ≤ nx S484 + 1; omega)) (fun S529 h530 => (show TH aw 2000 S S529 from ⟨h530.1, (((h409.trans h438).trans h468).trans h503).trans h530.2.1, ⟨(by have q := h530.2.2.1.1; omega), h530.2.2.1.2.trans (h507.trans (h472.trans (h442.trans h413)))⟩, h530.2.2.2.1, h530.2.2.2.2.1, (by have q := h530.2.2.2.2.2; omega)⟩)) ?_
    rintro v518 S519 ⟨rfl, h521, h522, h523, h524, h525, h526, h527⟩
    have h522_ : nx S484 + 1 ≤ nx S519 := h522
    have h523_ : nx S519 ≤ wr S519 := h523
    have h524_ : lv S519 = lv S484 + 0 := h524
    have h525_ : EN S519 + -10000 * nx S519 ≤ EN S484 + -10000 * nx S484 + (-2000) := h525
    have h526_ : iv S484 8 1 ≤ iv S519 8 1 := h526
    have h527_ : iv S484 10 1 ≤ iv S519 10 1 := h527
    obtain ⟨h531, h532, ⟨h535, h536⟩, ⟨h537, h538⟩⟩ := h521
    show am_E _ _ _ _ [some (.ref 7), some (.int ap), some (.int v1), none] [] _ _
    refine am_e2 (v := 7) hi_92_56 rfl ?_
    refine am_e0 hi_92_57 ?_
    refine am_e0 hi_92_59 ?_
    refine am_e0 hi_92_60 ?_
    refine am_e1 (v := v1) hi_92_61 rfl ?_
    refine am_e32n (as := [.ref 7, .int 21, .int 0, .int 0, .int v1]) (la := [some (.ref 7), some (.int 21), some (.int 0), some (.int 0), some (.int v1)]) (rest := []) hi_92_62 (am_hd0 (M := 92) (by decide) 62) (Nat.le_of_ble_eq_true rfl) (Nat.le_of_ble_eq_true rfl) (show 5 ≤ am_P0.2.2.1 78 from by decide +kernel) rfl (cl_recv (h531.1.s (7, 6) (by decide))) rfl rfl (ck_emit (d := (d + 15)) h531   ) ?_
    rintro v542 S543 ⟨r544, rfl, h545, h546, h547, h548⟩
    have h546_ : iv S543 8 1 = iv S519 8 1 := h546
    have h547_ : iv S543 10 1 = iv S519 10 1 := h547
    have h548_ : iv S543 14 1 = iv S519 14 1 := h548
    obtain ⟨h550, h551, ⟨h552, h553, h554, h555⟩, ⟨h556, h557, h558⟩, h560⟩ := h545
    have h561 : kd aw S543 = kd aw S519 := kd_eq h552 h555
    have h562 := os_5 h556 1
    have h563 := os_13 h556 1
    show am_E _ _ _ _ [some (.ref 7), some (.int ap), some (.int v1), none] [.int r544] _ _
    refine am_e6i hi_92_65 ?_
    refine am_e1 (v := ap) hi_92_66 rfl ?_
    refine am_e33 hi_92_67 ?_
    exact ⟨ap, rfl, ⟨h550, (((((h409.trans h438).trans h468).trans h503).trans h532).trans h551), ⟨(by show wr S543 = wr S; omega), (h555.trans (h536.trans (h507.trans (h472.trans (h442.trans h413)))))⟩, ⟨(by show iv S543 13 1 = iv S 13 1; omega), (by show iv S543 5 1 - nx S543 ≤ iv S 5 1 - nx S; omega)⟩⟩, (by show nx S + 1 ≤ nx S543; omega), (by show nx S543 ≤ wr S543; omega), (by show lv S543 = lv S + 0; omega), (by show EN S543 + -10000 * nx S543 ≤ EN S + -10000 * nx S + (-1000); omega), (by show iv S 8 1 ≤ iv S543 8 1; omega), (by show iv S 10 1 ≤ iv S543 10 1; omega)⟩
