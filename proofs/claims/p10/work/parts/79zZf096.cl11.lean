/-! THE CLASS: the chunk, compile (printed by wip/p2/cl11.py) -/
theorem ck_rewind {sc : Nat × (Nat → Int32)} {d aw : Nat} {S : am_S} (h : SH aw S) : am_E (am_PP sc) (d + 0) 42 0 [some (.ref 2)] [] S (am_N fun v S1 => v = none ∧ Wd aw S S1 ∧ (nx S1 = 0) ∧ (lv S1 = 0)) := by
  refine am_e2 (v := 2) hi_42_0 rfl ?_
  refine am_e0 hi_42_1 ?_
  refine cm_21w h hi_42_2 (by decide) rfl fun S1 h2 h3 h4 h5 h6 h7 h8 h9 => ?_
  have h10 : nx S1 = (0 : Int) := h5
  have h11 : lv S1 = lv S := h4 2 3 (by decide)
  have h12 : wr S1 = wr S := h4 3 1 (by decide)
  have h14 : fl S1 = fl S := by unfold fl; rw [h7]; exact h4 _ _ (Or.inl (by intro z; have z2 := h.nwc; rw [z] at z2; have z3 := h.1.s (2, 2) (by decide); rw [show ((2, 2) : Nat × Nat).1 = 2 from rfl, z2] at z3; cases z3))
  have h15 : ∀ t, cl (am_fs S) t = some 3 → iv S1 t 1 = iv S t 1 := fun t _ => h4 t 1 (Or.inr (by decide))
  refine am_e2 (v := 2) hi_42_5 rfl ?_
  refine am_e0 hi_42_6 ?_
  refine cm_21w h2 hi_42_7 (by decide) rfl fun S17 h18 h19 h20 h21 h22 h23 h24 h25 => ?_
  have h26 : lv S17 = (0 : Int) := h21
  have h27 : nx S17 = nx S1 := h20 2 2 (by decide)
  have h28 : wr S17 = wr S1 := h20 3 1 (by decide)
  have h30 : fl S17 = fl S1 := by unfold fl; rw [h23]; exact h20 _ _ (Or.inl (by intro z; have z2 := h2.nwc; rw [z] at z2; have z3 := h2.1.s (2, 2) (by decide); rw [show ((2, 2) : Nat × Nat).1 = 2 from rfl, z2] at z3; cases z3))
  have h31 : ∀ t, cl (am_fs S1) t = some 3 → iv S17 t 1 = iv S1 t 1 := fun t _ => h20 t 1 (Or.inr (by decide))
  refine am_e35 hi_42_10 ?_
  exact ⟨rfl, ⟨h18, (h3.trans h19), ⟨(by show wr S17 = wr S; omega), (h22.trans h6)⟩, ⟨(h24.trans h8), (h23.trans h7), (by show fl S17 = fl S; omega)⟩, (fun t ht => ((h31 t (h3.1 _ _ ht)).trans (h15 t ht))), (by show EN S17 ≤ EN S; omega)⟩, (by show nx S17 = 0; omega), (by show lv S17 = 0; omega)⟩
theorem ck_chunk {sc : Nat × (Nat → Int32)} {d aw : Nat} {S : am_S} (h : SH aw S) (hd : 1440 ≤ d) (p0 : 0 ≤ wr S) (p1 : wr S ≤ 600) (p2 : iv S 5 1 = 0) : am_E (am_PP sc) (d + 22) 41 0 [some (.ref 7), none] [] S (am_T (fun v S1 => v = none ∧ Ck aw S S1) (fun S1 => Ck aw S S1)) := by
  obtain ⟨NN, hNN⟩ : ∃ NN : Nat, NN = 48 := ⟨_, rfl⟩
  have ihR := RC_all (sc := sc) (aw := aw) NN
  refine am_e2 (v := 7) hi_41_0 rfl ?_
  refine cm_20f (r := 2) h hi_41_1 (h.1.s (7, 6) (by decide)) (by decide) rfl ?_
  refine am_e32n (as := [.ref 2]) (la := [some (.ref 2)]) (rest := []) hi_41_4 (am_hd0 (M := 41) (by decide) 4) (Nat.le_of_ble_eq_true rfl) (Nat.le_of_ble_eq_true rfl) (show 1 ≤ am_P0.2.2.1 42 from by decide +kernel) rfl (cl_recv (h.1.s (2, 2) (by decide))) rfl rfl (ck_rewind (d := (d + 21)) h   ) ?_
  rintro v1 S2 ⟨rfl, h4, h5, h6⟩
  have h5_ : nx S2 = 0 := h5
  have h6_ : lv S2 = 0 := h6
  obtain ⟨h8, h9, ⟨h12, h13⟩, ⟨h14, h15, h16⟩, h17, h18⟩ := h4
  have h19 := h17 8 (h.1.s (8, 3) (by decide))
  have h20 := h17 10 (h.1.s (10, 3) (by decide))
  have h21 := os_5 h14 1
  have h22 := os_13 h14 1
  show am_E _ _ _ _ [some (.ref 7), none] [] _ _
  refine am_e2 (v := 7) hi_41_7 rfl ?_
  refine cm_20f (r := 12) h8 hi_41_8 (h8.1.s (7, 6) (by decide)) (by decide) rfl ?_
  refine am_e32n (as := [.ref 12]) (la := [some (.ref 12)]) (rest := []) hi_41_11 (am_hd0 (M := 41) (by decide) 11) (Nat.le_of_ble_eq_true rfl) (Nat.le_of_ble_eq_true rfl) (show 1 ≤ am_P0.2.2.1 43 from by decide +kernel) rfl (cl_recv (h8.1.s (12, 7) (by decide))) rfl rfl (ck_sclear (d := (d + 19)) h8   ) ?_
  rintro v23 S24 ⟨rfl, h26, h27, h28, h29, h30, h31⟩
  have h27_ : iv S24 8 1 = iv S2 8 1 := h27
  have h28_ : iv S24 10 1 = iv S2 10 1 := h28
  have h29_ : iv S24 5 1 = iv S2 5 1 := h29
  have h30_ : iv S24 13 1 = 0 := h30
  have h31_ : EN S24 ≤ EN S2 + 0 := h31
  obtain ⟨h33, h34, ⟨h35, h36, h37, h38⟩⟩ := h26
  have h44 : kd aw S24 = kd aw S2 := kd_eq h35 h38
  show am_E _ _ _ _ [some (.ref 7), none] [] _ _
  refine am_e2 (v := 7) hi_41_14 rfl ?_
  refine cm_20f (r := 8) h33 hi_41_15 (h33.1.s (7, 6) (by decide)) (by decide) rfl ?_
  refine am_e0 hi_41_18 ?_
  refine am_e32n (as := [.ref 8, .int 0]) (la := [some (.ref 8), some (.int 0)]) (rest := []) hi_41_19 (am_hd0 (M := 41) (by decide) 19) (Nat.le_of_ble_eq_true rfl) (Nat.le_of_ble_eq_true rfl) (show 2 ≤ am_P0.2.2.1 30 from by decide +kernel) rfl (cl_recv (h33.1.s (8, 3) (by decide))) rfl rfl (ck_cut (d := (d + 21)) h33 (h33.1.s (8, 3) (by decide)) (by decide)  ) ?_
  rintro v45 S46 ⟨rfl, h48, h49, h50, h51⟩
  have h49_ : (0 ≤ (0 : Int) ∧ (0 : Int) < iv S24 8 1 ∧ iv S46 8 1 = (0 : Int)) ∨ (((0 : Int) < 0 ∨ iv S24 8 1 ≤ (0 : Int)) ∧ iv S46 8 1 = iv S24 8 1) := h49
  have h50_ : EN S46 ≤ EN S24 + c_w 8 * (iv S46 8 1 - iv S24 8 1) := h50
  have h51_ : ∀ j, cl (am_fs S24) j = some 3 → j ≠ 8 → iv S46 j 1 = iv S24 j 1 := h51
  obtain ⟨h53, h54, ⟨h55, h56, h57, h58⟩, ⟨h59, h60, h61⟩⟩ := h48
  have h64 : kd aw S46 = kd aw S24 := kd_eq h55 h58
  have h65 := os_5 h59 1
  have h66 := os_13 h59 1
  have h67 := h51_ 10 (h33.1.s (10, 3) (by decide)) (by decide)
  have h68 : EN S46 ≤ EN S24 + 160 * (iv S46 8 1 - iv S24 8 1) := by have q := h50_; rw [show c_w 8 = 160 from rfl] at q; exact q
  show am_E _ _ _ _ [some (.ref 7), none] [] _ _
  refine am_e2 (v := 7) hi_41_22 rfl ?_
  refine cm_20f (r := 10) h53 hi_41_23 (h53.1.s (7, 6) (by decide)) (by decide) rfl ?_
  refine am_e0 hi_41_26 ?_
  refine am_e32n (as := [.ref 10, .int 0]) (la := [some (.ref 10), some (.int 0)]) (rest := []) hi_41_27 (am_hd0 (M := 41) (by decide) 27) (Nat.le_of_ble_eq_true rfl) (Nat.le_of_ble_eq_true rfl) (show 2 ≤ am_P0.2.2.1 30 from by decide +kernel) rfl (cl_recv (h53.1.s (10, 3) (by decide))) rfl rfl (ck_cut (d := (d + 21)) h53 (h53.1.s (10, 3) (by decide)) (by decide)  ) ?_
  rintro v69 S70 ⟨rfl, h72, h73, h74, h75⟩
  have h73_ : (0 ≤ (0 : Int) ∧ (0 : Int) < iv S46 10 1 ∧ iv S70 10 1 = (0 : Int)) ∨ (((0 : Int) < 0 ∨ iv S46 10 1 ≤ (0 : Int)) ∧ iv S70 10 1 = iv S46 10 1) := h73
  have h74_ : EN S70 ≤ EN S46 + c_w 10 * (iv S70 10 1 - iv S46 10 1) := h74
  have h75_ : ∀ j, cl (am_fs S46) j = some 3 → j ≠ 10 → iv S70 j 1 = iv S46 j 1 := h75
  obtain ⟨h77, h78, ⟨h79, h80, h81, h82⟩, ⟨h83, h84, h85⟩⟩ := h72
  have h88 : kd aw S70 = kd aw S46 := kd_eq h79 h82
  have h89 := os_5 h83 1
  have h90 := os_13 h83 1
  have h91 := h75_ 8 (h53.1.s (8, 3) (by decide)) (by decide)
  have h92 : EN S70 ≤ EN S46 + 320 * (iv S70 10 1 - iv S46 10 1) := by have q := h74_; rw [show c_w 10 = 320 from rfl] at q; exact q
  show am_E _ _ _ _ [some (.ref 7), none] [] _ _
  refine am_e2 (v := 7) hi_41_30 rfl ?_
  refine cm_20f (r := 12) h77 hi_41_31 (h77.1.s (7, 6) (by decide)) (by decide) rfl ?_
  refine am_e0 hi_41_34 ?_
  refine am_e32n (as := [.ref 12, .int (-1)]) (la := [some (.ref 12), some (.int (-1)), none]) (rest := []) hi_41_35 (am_hd0 (M := 41) (by decide) 35) (Nat.le_of_ble_eq_true rfl) (Nat.le_of_ble_eq_true rfl) (show 2 ≤ am_P0.2.2.1 46 from by decide +kernel) rfl (cl_recv (h77.1.s (12, 7) (by decide))) rfl rfl (ck_beginBody (d := (d + 13)) h77   (by show iv S70 5 1 ≤ 650; omega) (by show iv S70 13 1 ≤ 650; omega)) ?_
  rintro v93 S94 ⟨r95, rfl, hb103, h96, h97, h98, h99, h100, h101, h102⟩
  have h97_ : iv S94 8 1 = iv S70 8 1 := h97
  have h98_ : iv S94 10 1 = iv S70 10 1 := h98
  have h99_ : iv S94 14 1 = iv S70 14 1 := h99
  have h100_ : iv S94 5 1 = iv S70 5 1 + 1 := h100
  have h101_ : iv S94 13 1 = iv S70 13 1 + 1 := h101
  have h102_ : EN S94 ≤ EN S70 + 4400 := h102
  obtain ⟨h104, h105, ⟨h106, h107, h108, h109⟩⟩ := h96
  have h115 : kd aw S94 = kd aw S70 := kd_eq h106 h109
  show am_E _ _ _ _ [some (.ref 7), none] [.ref r95] _ _
  refine am_e4 (ls' := [some (.ref 7), some (.ref r95)]) hi_41_38 (Nat.le_of_ble_eq_true rfl) rfl ?_
  refine am_e2 (v := r95) hi_41_39 rfl ?_
  refine am_e0 hi_41_40 ?_
  refine cm_21 (v := .int 1) h104 hi_41_41 hb103 (by decide) (by decide) rfl ⟨_, rfl⟩ rfl fun S116 h117 => ?_
  obtain ⟨h118, h119, ⟨h120, h121, h122, h123⟩, ⟨h124, h125, h126⟩, h127, h128⟩ := h117
  have h129 : kd aw S116 = kd aw S94 := kd_eq h120 h123
  have h130 := h127 8 (h104.1.s (8, 3) (by decide))
  have h131 := h127 10 (h104.1.s (10, 3) (by decide))
  have h132 := os_5 h124 1
  have h133 := os_13 h124 1
  have hk134 := h119.1 _ _ hb103
  refine am_e2 (v := 7) hi_41_44 rfl ?_
  refine am_e32q (d1 := d + 0 + 21) (by omega) (as := [.ref 7]) (la := [some (.ref 7), none]) (rest := []) hi_41_45 (am_hd0 (M := 41) (by decide) 45) (Nat.le_of_ble_eq_true rfl) (Nat.le_of_ble_eq_true rfl) (show 1 ≤ am_P0.2.2.1 52 from by decide +kernel) rfl (cl_recv (h118.1.s (7, 6) (by decide))) rfl rfl (cr_block (d := d + 0) h118  ihR (by show 48 - lv S116 < (NN : Int) + 1; omega) (by show (30 : Int) * (48 - lv S116) ≤ ((d + 0 : Nat) : Int); omega) (by show 0 ≤ nx S116; omega) (by show nx S116 ≤ wr S116; omega) (by show wr S116 ≤ 600; omega) (by show 0 ≤ lv S116; omega) (by show lv S116 ≤ 48; omega) (by show 1 ≤ iv S116 13 1; omega) (by show iv S116 13 1 ≤ lv S116 + 1; omega) (by show iv S116 5 1 ≤ nx S116 + 1; omega)) (fun S146 h147 => (show Ck aw S S146 from ⟨h147.1, (((((h9.trans h34).trans h54).trans h78).trans h105).trans h119).trans h147.2.1, (by have q := h147.2.2.1.1; omega), (by have q := h147.2.2.2.2.2; have q2 := h147.2.2.2.2.1; have q3 := h147.2.2.1.1; omega)⟩)) ?_
  rintro v135 S136 ⟨rfl, h138, h139, h140, h141, h142, h143, h144⟩
  have h139_ : nx S116 + 0 ≤ nx S136 := h139
  have h140_ : nx S136 ≤ wr S136 := h140
  have h141_ : lv S136 = lv S116 + 0 := h141
  have h142_ : EN S136 + -10000 * nx S136 ≤ EN S116 + -10000 * nx S116 + 0 := h142
  have h143_ : iv S116 8 1 ≤ iv S136 8 1 := h143
  have h144_ : iv S116 10 1 ≤ iv S136 10 1 := h144
  obtain ⟨h148, h149, ⟨h152, h153⟩, ⟨h154, h155⟩⟩ := h138
  have hk159 := h149.1 _ _ hk134
  show am_E _ _ _ _ [some (.ref 7), some (.ref r95)] [] _ _
  refine am_e2 (v := 7) hi_41_48 rfl ?_
  refine cm_20f (r := 2) h148 hi_41_49 (h148.1.s (7, 6) (by decide)) (by decide) rfl ?_
  refine am_e0 hi_41_52 ?_
  refine am_e32t (as := [.ref 2, .int 0]) (la := [some (.ref 2), some (.int 0)]) (rest := []) hi_41_53 (am_hd0 (M := 41) (by decide) 53) (Nat.le_of_ble_eq_true rfl) (Nat.le_of_ble_eq_true rfl) (show 2 ≤ am_P0.2.2.1 65 from by decide +kernel) rfl (cl_recv (h148.1.s (2, 2) (by decide))) rfl rfl (ck_need (d := (d + 8)) h148   (by show 0 ≤ nx S136; omega) (by show nx S136 ≤ wr S136; omega)) (fun S173 h174 => (show Ck aw S S173 from ⟨h174.1, ((((((h9.trans h34).trans h54).trans h78).trans h105).trans h119).trans h149).trans h174.2.1, (by have q := h174.2.2.1.1; omega), (by have q := h174.2.2.2.2.2; have q2 := h174.2.2.2.2.1; have q3 := h174.2.2.1.1; omega)⟩)) ?_
  rintro v160 S161 ⟨rfl, rfl, h164⟩
  have h164_ : kd aw S136 = (0 : Int) := h164
  show am_E _ _ _ _ [some (.ref 7), some (.ref r95)] [] _ _
  refine am_e2 (v := r95) hi_41_56 rfl ?_
  refine am_e2 (v := 7) hi_41_57 rfl ?_
  refine cm_20f (r := 2) h148 hi_41_58 (h148.1.s (7, 6) (by decide)) (by decide) rfl ?_
  refine am_e32n (as := [.ref 2]) (la := [some (.ref 2)]) (rest := [.ref r95]) hi_41_61 (am_hd0 (M := 41) (by decide) 61) (Nat.le_of_ble_eq_true rfl) (Nat.le_of_ble_eq_true rfl) (show 1 ≤ am_P0.2.2.1 35 from by decide +kernel) rfl (cl_recv (h148.1.s (2, 2) (by decide))) rfl rfl (ck_count (d := (d + 20)) h148   ) ?_
  rintro v175 S176 ⟨r177, rfl, rfl, h179⟩
  have h179_ : r177.toInt = wr S136 := h179
  show am_E _ _ _ _ [some (.ref 7), some (.ref r95)] [.int r177, .ref r95] _ _
  refine cm_21 (v := .int r177) h148 hi_41_64 hk159 (by decide) (by decide) rfl ⟨_, rfl⟩ rfl fun S181 h182 => ?_
  obtain ⟨h183, h184, ⟨h185, h186, h187, h188⟩, ⟨h189, h190, h191⟩, h192, h193⟩ := h182
  have h194 : kd aw S181 = kd aw S136 := kd_eq h185 h188
  have h195 := h192 8 (h148.1.s (8, 3) (by decide))
  have h196 := h192 10 (h148.1.s (10, 3) (by decide))
  have h197 := os_5 h189 1
  have h198 := os_13 h189 1
  have hk199 := h184.1 _ _ hk159
  refine am_e2 (v := 7) hi_41_67 rfl ?_
  refine am_e0 hi_41_68 ?_
  refine am_e0 hi_41_70 ?_
  refine am_e0 hi_41_71 ?_
  refine am_e2 (v := 7) hi_41_72 rfl ?_
  refine cm_20f (r := 2) h183 hi_41_73 (h183.1.s (7, 6) (by decide)) (by decide) rfl ?_
  refine am_e32n (as := [.ref 2]) (la := [some (.ref 2)]) (rest := [.int 0, .int 0, .int 45, .ref 7]) hi_41_76 (am_hd0 (M := 41) (by decide) 76) (Nat.le_of_ble_eq_true rfl) (Nat.le_of_ble_eq_true rfl) (show 1 ≤ am_P0.2.2.1 35 from by decide +kernel) rfl (cl_recv (h183.1.s (2, 2) (by decide))) rfl rfl (ck_count (d := (d + 20)) h183   ) ?_
  rintro v200 S201 ⟨r202, rfl, rfl, h204⟩
  have h204_ : r202.toInt = wr S181 := h204
  show am_E _ _ _ _ [some (.ref 7), some (.ref r95)] [.int r202, .int 0, .int 0, .int 45, .ref 7] _ _
  refine am_e32n (as := [.ref 7, .int 45, .int 0, .int 0, .int r202]) (la := [some (.ref 7), some (.int 45), some (.int 0), some (.int 0), some (.int r202)]) (rest := []) hi_41_79 (am_hd0 (M := 41) (by decide) 79) (Nat.le_of_ble_eq_true rfl) (Nat.le_of_ble_eq_true rfl) (show 5 ≤ am_P0.2.2.1 78 from by decide +kernel) rfl (cl_recv (h183.1.s (7, 6) (by decide))) rfl rfl (ck_emit (d := (d + 18)) h183   ) ?_
  rintro v206 S207 ⟨r208, rfl, h209, h210, h211, h212⟩
  have h210_ : iv S207 8 1 = iv S181 8 1 := h210
  have h211_ : iv S207 10 1 = iv S181 10 1 := h211
  have h212_ : iv S207 14 1 = iv S181 14 1 := h212
  obtain ⟨h214, h215, ⟨h216, h217, h218, h219⟩, ⟨h220, h221, h222⟩, h224⟩ := h209
  have h225 : kd aw S207 = kd aw S181 := kd_eq h216 h219
  have h226 := os_5 h220 1
  have h227 := os_13 h220 1
  have hk228 := h215.1 _ _ hk199
  show am_E _ _ _ _ [some (.ref 7), some (.ref r95)] [.int r208] _ _
  refine am_e6i hi_41_82 ?_
  refine am_e2 (v := 7) hi_41_83 rfl ?_
  refine cm_20f (r := 12) h214 hi_41_84 (h214.1.s (7, 6) (by decide)) (by decide) rfl ?_
  refine am_e32n (as := [.ref 12]) (la := [some (.ref 12)]) (rest := []) hi_41_87 (am_hd0 (M := 41) (by decide) 87) (Nat.le_of_ble_eq_true rfl) (Nat.le_of_ble_eq_true rfl) (show 1 ≤ am_P0.2.2.1 80 from by decide +kernel) rfl (cl_recv (h214.1.s (12, 7) (by decide))) rfl rfl (ck_endBody (d := (d + 17)) h214   ) ?_
  rintro v229 S230 ⟨rfl, h232, h233, h234, h235, h236, h237⟩
  have h233_ : iv S230 8 1 = iv S207 8 1 := h233
  have h234_ : iv S230 10 1 = iv S207 10 1 := h234
  have h235_ : iv S230 5 1 = iv S207 5 1 := h235
  have h236_ : (2 ≤ iv S207 13 1 ∧ iv S230 13 1 = iv S207 13 1 - 1) ∨ (iv S207 13 1 < 2 ∧ iv S230 13 1 = iv S207 13 1) := h236
  have h237_ : EN S230 ≤ EN S207 + 0 := h237
  obtain ⟨h239, h240, ⟨h241, h242, h243, h244⟩⟩ := h232
  have h250 : kd aw S230 = kd aw S207 := kd_eq h241 h244
  have hk251 := h240.1 _ _ hk228
  show am_E _ _ _ _ [some (.ref 7), some (.ref r95)] [] _ _
  refine am_e35 hi_41_90 ?_
  exact ⟨rfl, ⟨h239, (((((((((h9.trans h34).trans h54).trans h78).trans h105).trans h119).trans h149).trans h184).trans h215).trans h240), (by show wr S230 = wr S; omega), (by show EN S230 ≤ EN S + 10000 * wr S + 9000; omega)⟩⟩
theorem ck_wclear {sc : Nat × (Nat → Int32)} {d aw : Nat} {S : am_S} (h : SH aw S) : am_E (am_PP sc) (d + 1) 154 0 [some (.ref 2)] [] S (am_N fun v S1 => v = none ∧ Wz aw S S1 ∧ (wr S1 = 0) ∧ (EN S1 ≤ EN S)) := by
  obtain ⟨a, r, n, hfs, hA, b6, b0, hcut⟩ := cw_cut h
  refine am_e2 (v := 2) hi_154_0 rfl ?_
  refine cm_20f (r := 3) h hi_154_1 (h.1.s (2, 2) (by decide)) (by decide) rfl ?_
  refine am_e0 hi_154_4 ?_
  refine am_e32w (as := [.ref 3, .int 0]) (la := [some (.ref 3), some (.int 0)]) (rest := []) hi_154_5 (am_hd0 (M := 154) (by decide) 5) (Nat.le_of_ble_eq_true rfl) (Nat.le_of_ble_eq_true rfl) (show 2 ≤ am_P0.2.2.1 30 from by decide +kernel) rfl (cl_recv (h.1.s (3, 3) (by decide))) rfl rfl ?_
  refine am_e1 (v := 0) hi_30_0 rfl ?_
  refine am_e12f hi_30_1 (by decide) ?_
  refine am_e1 (v := 0) hi_30_4 rfl ?_
  refine am_e2 (v := 3) hi_30_5 rfl ?_
  refine am_e20 (v := .int r) hi_30_6 hfs rfl ?_
  by_cases c1 : r.toInt ≤ (0 : Int)
  · refine am_e13t hi_30_9 (am_cT (m := (0 : Int)) (n := r.toInt) (by decide) rfl c1) ?_
    refine am_e35 hi_30_17 ?_
    show am_E _ _ _ _ [some (.ref 2)] [] _ _
    refine am_e35 hi_154_8 ?_
    exact ⟨rfl, ⟨h, (Ex.refl S)⟩, (by show wr S = 0; omega), (by show EN S ≤ EN S; omega)⟩
  · refine am_e13f hi_30_9 (am_cF (m := (0 : Int)) (n := r.toInt) (by decide) rfl c1) ?_
    refine am_e2 (v := 3) hi_30_12 rfl ?_
    refine am_e1 (v := 0) hi_30_13 rfl ?_
    refine am_e21 (fs' := [.ref a, .int 0]) hi_30_14 hfs (Nat.le_of_ble_eq_true rfl) rfl rfl ?_
    obtain ⟨S2, h3⟩ : ∃ q, q = am_so S 3 (3, [.ref a, .int 0]) := ⟨_, rfl⟩
    show am_E _ _ _ _ [some (.ref 3), some (.int 0)] [] (am_so S 3 (3, [.ref a, .int 0])) _
    rw [← h3]
    obtain ⟨h4, h5, h6, h7⟩ : SH aw S2 ∧ Ex S S2 ∧ wr S2 = 0 ∧ EN S2 ≤ EN S := by rw [h3]; exact hcut (by omega)
    have h8 : Wz aw S S2 := ⟨h4, h5⟩
    obtain ⟨h9, h10⟩ := h8
    refine am_e35 hi_30_17 ?_
    show am_E _ _ _ _ [some (.ref 2)] [] _ _
    refine am_e35 hi_154_8 ?_
    exact ⟨rfl, ⟨h9, h10⟩, (by show wr S2 = 0; omega), (by show EN S2 ≤ EN S; omega)⟩
theorem ck_compile {sc : Nat × (Nat → Int32)} {d aw : Nat} {S : am_S} (h : SH aw S) (p0 : 0 ≤ wr S) (p1 : wr S ≤ 600) : am_E (am_PP sc) (d + 1463) 38 0 [some (.ref 0), none] [] S (am_N fun v S1 => ∃ r : Int32, v = some (.int r) ∧ Wz aw S S1 ∧ (wr S1 = 0) ∧ (EN S1 ≤ EN S + 10000 * wr S + 9000)) := by
  refine am_e2 (v := 0) hi_38_0 rfl ?_
  refine cm_20f (r := 1) h hi_38_1 (h.1.s (0, 0) (by decide)) (by decide) rfl ?_
  refine am_e32n (as := [.ref 1]) (la := [some (.ref 1)]) (rest := []) hi_38_4 (show am_hd 38 4 = none from by decide) (Nat.le_of_ble_eq_true rfl) (Nat.le_of_ble_eq_true rfl) (show 1 ≤ am_P0.2.2.1 39 from by decide +kernel) rfl (cl_recv (h.1.s (1, 1) (by decide))) rfl rfl (ck_fclear (d := (d + 1462)) h   ) ?_
  rintro v1 S2 ⟨rfl, h4⟩
  obtain ⟨h6, h7, ⟨h8, h9, h10, h11⟩, ⟨h12, h13, h14⟩, h15, h16⟩ := h4
  have h17 : kd aw S2 = kd aw S := kd_eq h8 h11
  have h18 := os_5 h12 1
  have h19 := os_13 h12 1
  show am_E _ _ _ _ [some (.ref 0), none] [] _ _
  refine am_e2 (v := 0) hi_38_7 rfl ?_
  refine cm_20f (r := 5) h6 hi_38_8 (h6.1.s (0, 0) (by decide)) (by decide) rfl ?_
  refine am_e32n (as := [.ref 5]) (la := [some (.ref 5)]) (rest := []) hi_38_11 (show am_hd 38 11 = none from by decide) (Nat.le_of_ble_eq_true rfl) (Nat.le_of_ble_eq_true rfl) (show 1 ≤ am_P0.2.2.1 40 from by decide +kernel) rfl (cl_recv (h6.1.s (5, 4) (by decide))) rfl rfl (ck_bclear (d := (d + 1462)) h6  ) ?_
  rintro v20 S21 ⟨rfl, h23, h24⟩
  have h24_ : iv S21 5 1 = 0 := h24
  have h32 := li_fl h23 h6 (by decide)
  obtain ⟨h26, h27, h36, ⟨h31, h33⟩, h35⟩ := h23
  have h28 : nx S21 = nx S2 := h36 2 2 (by decide)
  have h29 : lv S21 = lv S2 := h36 2 3 (by decide)
  have h30 : wr S21 = wr S2 := h36 3 1 (by decide)
  have h37 := h36 6 1 (by decide)
  have h38 := h36 13 1 (by decide)
  have h39 : kd aw S21 = kd aw S2 := kd_eq h28 h31
  show am_E _ _ _ _ [some (.ref 0), none] [] _ _
  refine am_e2 (v := 0) hi_38_14 rfl ?_
  refine cm_20f (r := 7) h26 hi_38_15 (h26.1.s (0, 0) (by decide)) (by decide) rfl ?_
  refine am_e32c (as := [.ref 7]) (la := [some (.ref 7), none]) (rest := []) hi_38_18 (show am_hd 38 18 = some (25, 1) from by decide) (Nat.le_of_ble_eq_true rfl) (Nat.le_of_ble_eq_true rfl) (show 1 ≤ am_P0.2.2.1 41 from by decide +kernel) rfl (cl_recv (h26.1.s (7, 6) (by decide))) rfl rfl (ck_chunk (d := d + 1440) h26 (by omega) (by omega) (by omega) (by omega)) ?_ ?_
  · intro S40 h41
    obtain ⟨h43, h44, h45, h46⟩ := h41
    show am_E _ _ _ _ [some (.ref 0), none] [] _ _
    refine am_e2 (v := 0) hi_38_25 rfl ?_
    refine cm_20f (r := 5) h43 hi_38_26 (h43.1.s (0, 0) (by decide)) (by decide) rfl ?_
    refine am_e32n (as := [.ref 5]) (la := [some (.ref 5)]) (rest := []) hi_38_29 (show am_hd 38 29 = none from by decide) (Nat.le_of_ble_eq_true rfl) (Nat.le_of_ble_eq_true rfl) (show 1 ≤ am_P0.2.2.1 40 from by decide +kernel) rfl (cl_recv (h43.1.s (5, 4) (by decide))) rfl rfl (ck_bclear (d := (d + 1462)) h43  ) ?_
    rintro v47 S48 ⟨rfl, h50, h51⟩
    have h51_ : iv S48 5 1 = 0 := h51
    have h59 := li_fl h50 h43 (by decide)
    obtain ⟨h53, h54, h63, ⟨h58, h60⟩, h62⟩ := h50
    have h55 : nx S48 = nx S40 := h63 2 2 (by decide)
    have h56 : lv S48 = lv S40 := h63 2 3 (by decide)
    have h57 : wr S48 = wr S40 := h63 3 1 (by decide)
    have h64 := h63 6 1 (by decide)
    have h65 := h63 13 1 (by decide)
    have h66 : kd aw S48 = kd aw S40 := kd_eq h55 h58
    show am_E _ _ _ _ [some (.ref 0), none] [] _ _
    refine am_e2 (v := 0) hi_38_32 rfl ?_
    refine cm_20f (r := 1) h53 hi_38_33 (h53.1.s (0, 0) (by decide)) (by decide) rfl ?_
    refine am_e32w (as := [.ref 1]) (la := [some (.ref 1)]) (rest := []) hi_38_36 (show am_hd 38 36 = none from by decide) (Nat.le_of_ble_eq_true rfl) (Nat.le_of_ble_eq_true rfl) (show 1 ≤ am_P0.2.2.1 152 from by decide +kernel) rfl (cl_recv (h53.1.s (1, 1) (by decide))) rfl rfl ?_
    refine am_e2 (v := 1) hi_152_0 rfl ?_
    refine cm_20i h53 hi_152_1 (h53.1.s (1, 1) (by decide)) (by decide) rfl fun v67 hv67 => ?_
    have hv67_ : v67.toInt = iv S48 1 0 := hv67
    refine am_e33 hi_152_4 ?_
    show am_E _ _ _ _ [some (.ref 0), none] [.int v67] _ _
    refine am_e3 (ls' := [some (.ref 0), some (.int v67)]) hi_38_39 (Nat.le_of_ble_eq_true rfl) rfl ?_
    refine am_e2 (v := 0) hi_38_40 rfl ?_
    refine am_e1 (v := v67) hi_38_41 rfl ?_
    by_cases c68 : ¬ v67.toInt = (0 : Int)
    · refine am_e12t hi_38_42 (am_cT (m := v67.toInt) (n := (0 : Int)) rfl (by decide) c68) ?_
      refine am_e2 (v := 0) hi_38_55 rfl ?_
      refine cm_20f (r := 1) h53 hi_38_56 (h53.1.s (0, 0) (by decide)) (by decide) rfl ?_
      refine am_e32w (as := [.ref 1]) (la := [some (.ref 1)]) (rest := [.ref 0]) hi_38_59 (show am_hd 38 59 = none from by decide) (Nat.le_of_ble_eq_true rfl) (Nat.le_of_ble_eq_true rfl) (show 1 ≤ am_P0.2.2.1 153 from by decide +kernel) rfl (cl_recv (h53.1.s (1, 1) (by decide))) rfl rfl ?_
      refine am_e2 (v := 1) hi_153_0 rfl ?_
      refine cm_20i h53 hi_153_1 (h53.1.s (1, 1) (by decide)) (by decide) rfl fun v69 hv69 => ?_
      have hv69_ : v69.toInt = iv S48 1 1 := hv69
      refine am_e33 hi_153_4 ?_
      show am_E _ _ _ _ [some (.ref 0), some (.int v67)] [.int v69, .ref 0] _ _
      refine cm_21 (v := .int v69) h53 hi_38_62 (h53.1.s (0, 0) (by decide)) (by decide) (by decide) rfl ⟨_, rfl⟩ rfl fun S70 h71 => ?_
      obtain ⟨h72, h73, ⟨h74, h75, h76, h77⟩, ⟨h78, h79, h80⟩, h81, h82⟩ := h71
      have h83 : kd aw S70 = kd aw S48 := kd_eq h74 h77
      have h84 := os_5 h78 1
      have h85 := os_13 h78 1
      refine am_e2 (v := 0) hi_38_65 rfl ?_
      refine cm_20f (r := 2) h72 hi_38_66 (h72.1.s (0, 0) (by decide)) (by decide) rfl ?_
      refine am_e32n (as := [.ref 2]) (la := [some (.ref 2)]) (rest := []) hi_38_69 (show am_hd 38 69 = none from by decide) (Nat.le_of_ble_eq_true rfl) (Nat.le_of_ble_eq_true rfl) (show 1 ≤ am_P0.2.2.1 154 from by decide +kernel) rfl (cl_recv (h72.1.s (2, 2) (by decide))) rfl rfl (ck_wclear (d := (d + 1461)) h72   ) ?_
      rintro v86 S87 ⟨rfl, h89, h90, h91⟩
      have h90_ : wr S87 = 0 := h90
      have h91_ : EN S87 ≤ EN S70 := h91
      obtain ⟨h93, h94⟩ := h89
      show am_E _ _ _ _ [some (.ref 0), some (.int v67)] [] _ _
      refine am_e1 (v := v67) hi_38_72 rfl ?_
      refine am_e12f hi_38_73 (am_cF (m := v67.toInt) (n := (0 : Int)) rfl (by decide) (by simp only [am_cI]; omega)) ?_
      refine am_e2 (v := 0) hi_38_76 rfl ?_
      refine cm_20f (r := 5) h93 hi_38_77 (h93.1.s (0, 0) (by decide)) (by decide) rfl ?_
      refine am_e32n (as := [.ref 5]) (la := [some (.ref 5)]) (rest := []) hi_38_80 (show am_hd 38 80 = none from by decide) (Nat.le_of_ble_eq_true rfl) (Nat.le_of_ble_eq_true rfl) (show 1 ≤ am_P0.2.2.1 40 from by decide +kernel) rfl (cl_recv (h93.1.s (5, 4) (by decide))) rfl rfl (ck_bclear (d := (d + 1462)) h93  ) ?_
      rintro v97 S98 ⟨rfl, h100, h101⟩
      have h101_ : iv S98 5 1 = 0 := h101
      have h109 := li_fl h100 h93 (by decide)
      obtain ⟨h103, h104, h113, ⟨h108, h110⟩, h112⟩ := h100
      have h105 : nx S98 = nx S87 := h113 2 2 (by decide)
      have h106 : lv S98 = lv S87 := h113 2 3 (by decide)
      have h107 : wr S98 = wr S87 := h113 3 1 (by decide)
      have h114 := h113 6 1 (by decide)
      have h115 := h113 13 1 (by decide)
      have h116 : kd aw S98 = kd aw S87 := kd_eq h105 h108
      show am_E _ _ _ _ [some (.ref 0), some (.int v67)] [] _ _
      refine am_e1 (v := v67) hi_38_83 rfl ?_
      obtain ⟨z117, hz117⟩ : ∃ q__, -v67 = q__ := ⟨_, rfl⟩
      refine am_e11 (z := z117) hi_38_84 hz117 ?_
      refine am_e33 hi_38_85 ?_
      exact ⟨z117, rfl, ⟨h103, ((((((h7.trans h27).trans h44).trans h54).trans h73).trans h94).trans h104)⟩, (by show wr S98 = 0; omega), (by show EN S98 ≤ EN S + 10000 * wr S + 9000; omega)⟩
    · refine am_e12f hi_38_42 (am_cF (m := v67.toInt) (n := (0 : Int)) rfl (by decide) c68) ?_
      refine am_e2 (v := 0) hi_38_45 rfl ?_
      refine cm_20f (r := 2) h53 hi_38_46 (h53.1.s (0, 0) (by decide)) (by decide) rfl ?_
      refine am_e32n (as := [.ref 2]) (la := [some (.ref 2)]) (rest := [.ref 0]) hi_38_49 (show am_hd 38 49 = none from by decide) (Nat.le_of_ble_eq_true rfl) (Nat.le_of_ble_eq_true rfl) (show 1 ≤ am_P0.2.2.1 35 from by decide +kernel) rfl (cl_recv (h53.1.s (2, 2) (by decide))) rfl rfl (ck_count (d := (d + 1461)) h53   ) ?_
      rintro v118 S119 ⟨r120, rfl, rfl, h122⟩
      have h122_ : r120.toInt = wr S48 := h122
      show am_E _ _ _ _ [some (.ref 0), some (.int v67)] [.int r120, .ref 0] _ _
      refine am_e18 hi_38_52 ?_
      refine cm_21 (v := .int r120) h53 hi_38_62 (h53.1.s (0, 0) (by decide)) (by decide) (by decide) rfl ⟨_, rfl⟩ rfl fun S124 h125 => ?_
      obtain ⟨h126, h127, ⟨h128, h129, h130, h131⟩, ⟨h132, h133, h134⟩, h135, h136⟩ := h125
      have h137 : kd aw S124 = kd aw S48 := kd_eq h128 h131
      have h138 := os_5 h132 1
      have h139 := os_13 h132 1
      refine am_e2 (v := 0) hi_38_65 rfl ?_
      refine cm_20f (r := 2) h126 hi_38_66 (h126.1.s (0, 0) (by decide)) (by decide) rfl ?_
      refine am_e32n (as := [.ref 2]) (la := [some (.ref 2)]) (rest := []) hi_38_69 (show am_hd 38 69 = none from by decide) (Nat.le_of_ble_eq_true rfl) (Nat.le_of_ble_eq_true rfl) (show 1 ≤ am_P0.2.2.1 154 from by decide +kernel) rfl (cl_recv (h126.1.s (2, 2) (by decide))) rfl rfl (ck_wclear (d := (d + 1461)) h126   ) ?_
      rintro v140 S141 ⟨rfl, h143, h144, h145⟩
      have h144_ : wr S141 = 0 := h144
      have h145_ : EN S141 ≤ EN S124 := h145
      obtain ⟨h147, h148⟩ := h143
      show am_E _ _ _ _ [some (.ref 0), some (.int v67)] [] _ _
      refine am_e1 (v := v67) hi_38_72 rfl ?_
      refine am_e12t hi_38_73 (am_cT (m := v67.toInt) (n := (0 : Int)) rfl (by decide) (by simp only [am_cI]; omega)) ?_
      refine am_e2 (v := 0) hi_38_86 rfl ?_
      refine cm_20f (r := 5) h147 hi_38_87 (h147.1.s (0, 0) (by decide)) (by decide) rfl ?_
      refine am_e32n (as := [.ref 5]) (la := [some (.ref 5)]) (rest := []) hi_38_90 (show am_hd 38 90 = none from by decide) (Nat.le_of_ble_eq_true rfl) (Nat.le_of_ble_eq_true rfl) (show 1 ≤ am_P0.2.2.1 155 from by decide +kernel) rfl (cl_recv (h147.1.s (5, 4) (by decide))) rfl rfl (ck_bcount (d := (d + 1462)) h147   ) ?_
      rintro v151 S152 ⟨r153, rfl, rfl, h155⟩
      have h155_ : r153.toInt = iv S141 5 1 := h155
      show am_E _ _ _ _ [some (.ref 0), some (.int v67)] [.int r153] _ _
      refine am_e33 hi_38_93 ?_
      exact ⟨r153, rfl, ⟨h147, (((((h7.trans h27).trans h44).trans h54).trans h127).trans h148)⟩, (by show wr S141 = 0; omega), (by show EN S141 ≤ EN S + 10000 * wr S + 9000; omega)⟩
  · rintro v159 S157 ⟨rfl, h158⟩
    obtain ⟨h160, h161, h162, h163⟩ := h158
    show am_E _ _ _ _ [some (.ref 0), none] [] _ _
    refine am_e18 hi_38_21 ?_
    refine am_e2 (v := 0) hi_38_32 rfl ?_
    refine cm_20f (r := 1) h160 hi_38_33 (h160.1.s (0, 0) (by decide)) (by decide) rfl ?_
    refine am_e32w (as := [.ref 1]) (la := [some (.ref 1)]) (rest := []) hi_38_36 (show am_hd 38 36 = none from by decide) (Nat.le_of_ble_eq_true rfl) (Nat.le_of_ble_eq_true rfl) (show 1 ≤ am_P0.2.2.1 152 from by decide +kernel) rfl (cl_recv (h160.1.s (1, 1) (by decide))) rfl rfl ?_
    refine am_e2 (v := 1) hi_152_0 rfl ?_
    refine cm_20i h160 hi_152_1 (h160.1.s (1, 1) (by decide)) (by decide) rfl fun v164 hv164 => ?_
    have hv164_ : v164.toInt = iv S157 1 0 := hv164
    refine am_e33 hi_152_4 ?_
    show am_E _ _ _ _ [some (.ref 0), none] [.int v164] _ _
    refine am_e3 (ls' := [some (.ref 0), some (.int v164)]) hi_38_39 (Nat.le_of_ble_eq_true rfl) rfl ?_
    refine am_e2 (v := 0) hi_38_40 rfl ?_
    refine am_e1 (v := v164) hi_38_41 rfl ?_
    by_cases c165 : ¬ v164.toInt = (0 : Int)
    · refine am_e12t hi_38_42 (am_cT (m := v164.toInt) (n := (0 : Int)) rfl (by decide) c165) ?_
      refine am_e2 (v := 0) hi_38_55 rfl ?_
      refine cm_20f (r := 1) h160 hi_38_56 (h160.1.s (0, 0) (by decide)) (by decide) rfl ?_
      refine am_e32w (as := [.ref 1]) (la := [some (.ref 1)]) (rest := [.ref 0]) hi_38_59 (show am_hd 38 59 = none from by decide) (Nat.le_of_ble_eq_true rfl) (Nat.le_of_ble_eq_true rfl) (show 1 ≤ am_P0.2.2.1 153 from by decide +kernel) rfl (cl_recv (h160.1.s (1, 1) (by decide))) rfl rfl ?_
      refine am_e2 (v := 1) hi_153_0 rfl ?_
      refine cm_20i h160 hi_153_1 (h160.1.s (1, 1) (by decide)) (by decide) rfl fun v166 hv166 => ?_
      have hv166_ : v166.toInt = iv S157 1 1 := hv166
      refine am_e33 hi_153_4 ?_
      show am_E _ _ _ _ [some (.ref 0), some (.int v164)] [.int v166, .ref 0] _ _
      refine cm_21 (v := .int v166) h160 hi_38_62 (h160.1.s (0, 0) (by decide)) (by decide) (by decide) rfl ⟨_, rfl⟩ rfl fun S167 h168 => ?_
      obtain ⟨h169, h170, ⟨h171, h172, h173, h174⟩, ⟨h175, h176, h177⟩, h178, h179⟩ := h168
      have h180 : kd aw S167 = kd aw S157 := kd_eq h171 h174
      have h181 := os_5 h175 1
      have h182 := os_13 h175 1
      refine am_e2 (v := 0) hi_38_65 rfl ?_
      refine cm_20f (r := 2) h169 hi_38_66 (h169.1.s (0, 0) (by decide)) (by decide) rfl ?_
      refine am_e32n (as := [.ref 2]) (la := [some (.ref 2)]) (rest := []) hi_38_69 (show am_hd 38 69 = none from by decide) (Nat.le_of_ble_eq_true rfl) (Nat.le_of_ble_eq_true rfl) (show 1 ≤ am_P0.2.2.1 154 from by decide +kernel) rfl (cl_recv (h169.1.s (2, 2) (by decide))) rfl rfl (ck_wclear (d := (d + 1461)) h169   ) ?_
      rintro v183 S184 ⟨rfl, h186, h187, h188⟩
      have h187_ : wr S184 = 0 := h187
      have h188_ : EN S184 ≤ EN S167 := h188
      obtain ⟨h190, h191⟩ := h186
      show am_E _ _ _ _ [some (.ref 0), some (.int v164)] [] _ _
      refine am_e1 (v := v164) hi_38_72 rfl ?_
      refine am_e12f hi_38_73 (am_cF (m := v164.toInt) (n := (0 : Int)) rfl (by decide) (by simp only [am_cI]; omega)) ?_
      refine am_e2 (v := 0) hi_38_76 rfl ?_
      refine cm_20f (r := 5) h190 hi_38_77 (h190.1.s (0, 0) (by decide)) (by decide) rfl ?_
      refine am_e32n (as := [.ref 5]) (la := [some (.ref 5)]) (rest := []) hi_38_80 (show am_hd 38 80 = none from by decide) (Nat.le_of_ble_eq_true rfl) (Nat.le_of_ble_eq_true rfl) (show 1 ≤ am_P0.2.2.1 40 from by decide +kernel) rfl (cl_recv (h190.1.s (5, 4) (by decide))) rfl rfl (ck_bclear (d := (d + 1462)) h190  ) ?_
      rintro v194 S195 ⟨rfl, h197, h198⟩
      have h198_ : iv S195 5 1 = 0 := h198
      have h206 := li_fl h197 h190 (by decide)
      obtain ⟨h200, h201, h210, ⟨h205, h207⟩, h209⟩ := h197
      have h202 : nx S195 = nx S184 := h210 2 2 (by decide)
      have h203 : lv S195 = lv S184 := h210 2 3 (by decide)
      have h204 : wr S195 = wr S184 := h210 3 1 (by decide)
      have h211 := h210 6 1 (by decide)
      have h212 := h210 13 1 (by decide)
      have h213 : kd aw S195 = kd aw S184 := kd_eq h202 h205
      show am_E _ _ _ _ [some (.ref 0), some (.int v164)] [] _ _
      refine am_e1 (v := v164) hi_38_83 rfl ?_
      obtain ⟨z214, hz214⟩ : ∃ q__, -v164 = q__ := ⟨_, rfl⟩
      refine am_e11 (z := z214) hi_38_84 hz214 ?_
      refine am_e33 hi_38_85 ?_
      exact ⟨z214, rfl, ⟨h200, (((((h7.trans h27).trans h161).trans h170).trans h191).trans h201)⟩, (by show wr S195 = 0; omega), (by show EN S195 ≤ EN S + 10000 * wr S + 9000; omega)⟩
    · refine am_e12f hi_38_42 (am_cF (m := v164.toInt) (n := (0 : Int)) rfl (by decide) c165) ?_
      refine am_e2 (v := 0) hi_38_45 rfl ?_
      refine cm_20f (r := 2) h160 hi_38_46 (h160.1.s (0, 0) (by decide)) (by decide) rfl ?_
      refine am_e32n (as := [.ref 2]) (la := [some (.ref 2)]) (rest := [.ref 0]) hi_38_49 (show am_hd 38 49 = none from by decide) (Nat.le_of_ble_eq_true rfl) (Nat.le_of_ble_eq_true rfl) (show 1 ≤ am_P0.2.2.1 35 from by decide +kernel) rfl (cl_recv (h160.1.s (2, 2) (by decide))) rfl rfl (ck_count (d := (d + 1461)) h160   ) ?_
      rintro v215 S216 ⟨r217, rfl, rfl, h219⟩
      have h219_ : r217.toInt = wr S157 := h219
      show am_E _ _ _ _ [some (.ref 0), some (.int v164)] [.int r217, .ref 0] _ _
      refine am_e18 hi_38_52 ?_
      refine cm_21 (v := .int r217) h160 hi_38_62 (h160.1.s (0, 0) (by decide)) (by decide) (by decide) rfl ⟨_, rfl⟩ rfl fun S221 h222 => ?_
      obtain ⟨h223, h224, ⟨h225, h226, h227, h228⟩, ⟨h229, h230, h231⟩, h232, h233⟩ := h222
      have h234 : kd aw S221 = kd aw S157 := kd_eq h225 h228
      have h235 := os_5 h229 1
      have h236 := os_13 h229 1
      refine am_e2 (v := 0) hi_38_65 rfl ?_
      refine cm_20f (r := 2) h223 hi_38_66 (h223.1.s (0, 0) (by decide)) (by decide) rfl ?_
      refine am_e32n (as := [.ref 2]) (la := [some (.ref 2)]) (rest := []) hi_38_69 (show am_hd 38 69 = none from by decide) (Nat.le_of_ble_eq_true rfl) (Nat.le_of_ble_eq_true rfl) (show 1 ≤ am_P0.2.2.1 154 from by decide +kernel) rfl (cl_recv (h223.1.s (2, 2) (by decide))) rfl rfl (ck_wclear (d := (d + 1461)) h223   ) ?_
      rintro v237 S238 ⟨rfl, h240, h241, h242⟩
      have h241_ : wr S238 = 0 := h241
      have h242_ : EN S238 ≤ EN S221 := h242
      obtain ⟨h244, h245⟩ := h240
      show am_E _ _ _ _ [some (.ref 0), some (.int v164)] [] _ _
      refine am_e1 (v := v164) hi_38_72 rfl ?_
      refine am_e12t hi_38_73 (am_cT (m := v164.toInt) (n := (0 : Int)) rfl (by decide) (by simp only [am_cI]; omega)) ?_
      refine am_e2 (v := 0) hi_38_86 rfl ?_
      refine cm_20f (r := 5) h244 hi_38_87 (h244.1.s (0, 0) (by decide)) (by decide) rfl ?_
      refine am_e32n (as := [.ref 5]) (la := [some (.ref 5)]) (rest := []) hi_38_90 (show am_hd 38 90 = none from by decide) (Nat.le_of_ble_eq_true rfl) (Nat.le_of_ble_eq_true rfl) (show 1 ≤ am_P0.2.2.1 155 from by decide +kernel) rfl (cl_recv (h244.1.s (5, 4) (by decide))) rfl rfl (ck_bcount (d := (d + 1462)) h244   ) ?_
      rintro v248 S249 ⟨r250, rfl, rfl, h252⟩
      have h252_ : r250.toInt = iv S238 5 1 := h252
      show am_E _ _ _ _ [some (.ref 0), some (.int v164)] [.int r250] _ _
      refine am_e33 hi_38_93 ?_
      exact ⟨r250, rfl, ⟨h244, ((((h7.trans h27).trans h161).trans h224).trans h245)⟩, (by show wr S238 = 0; omega), (by show EN S238 ≤ EN S + 10000 * wr S + 9000; omega)⟩
