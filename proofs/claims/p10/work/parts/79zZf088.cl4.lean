/-! THE CLASS: lists, bodies, what a name means (printed by wip/p2/cl4.py) -/
theorem ck_lsize {sc : Nat × (Nat → Int32)} {d aw : Nat} {S : am_S} {k : Nat} (h : SH aw S) (hl_k : k = 6 ∨ k = 13) : am_E (am_PP sc) (d + 0) 14 0 [some (.ref k)] [] S (am_N fun v S1 => ∃ r : Int32, v = some (.int r) ∧ S = S1 ∧ (r.toInt = iv S k 1) ∧ (0 ≤ r.toInt) ∧ (r.toInt ≤ 100000)) := by
  obtain ⟨ed, sz, mc, hfs, b6, b0, b1, hed⟩ := SH.lst (k := k) h hl_k
  rcases hed with ⟨hed, b7⟩ | ⟨a, n, hed, hR, b2, b3, b4⟩
  · subst hed
    refine am_e2 (v := k) hi_14_0 rfl ?_
    refine am_e20 (v := .int sz) hi_14_1 hfs rfl ?_
    refine am_e33 hi_14_4 ?_
    exact ⟨sz, rfl, rfl, (by show sz.toInt = iv S k 1; omega), (by show 0 ≤ sz.toInt; omega), (by show sz.toInt ≤ 100000; omega)⟩
  · subst hed
    refine am_e2 (v := k) hi_14_0 rfl ?_
    refine am_e20 (v := .int sz) hi_14_1 hfs rfl ?_
    refine am_e33 hi_14_4 ?_
    exact ⟨sz, rfl, rfl, (by show sz.toInt = iv S k 1; omega), (by show 0 ≤ sz.toInt; omega), (by show sz.toInt ≤ 100000; omega)⟩
theorem ck_lempty {sc : Nat × (Nat → Int32)} {d aw : Nat} {S : am_S} {k : Nat} (h : SH aw S) (hl_k : k = 6 ∨ k = 13) : am_E (am_PP sc) (d + 0) 47 0 [some (.ref k)] [] S (am_N fun v S1 => ∃ r : Int32, v = some (.int r) ∧ (r = 0 ∨ r = 1) ∧ S = S1) := by
  refine am_e2 (v := k) hi_47_0 rfl ?_
  refine cm_20i h hi_47_1 (cl_l h hl_k) (by decide) rfl fun v1 hv1 => ?_
  have hv1_ : v1.toInt = iv S k 1 := hv1
  by_cases c2 : ¬ v1.toInt = (0 : Int)
  · refine am_e12t hi_47_4 (am_cT (m := v1.toInt) (n := (0 : Int)) rfl (by decide) c2) ?_
    refine am_e0 hi_47_11 ?_
    refine am_e36 hi_47_12 (by decide) ?_
    exact ⟨0, rfl, (by decide), rfl⟩
  · refine am_e12f hi_47_4 (am_cF (m := v1.toInt) (n := (0 : Int)) rfl (by decide) c2) ?_
    refine am_e0 hi_47_7 ?_
    refine am_e18 hi_47_8 ?_
    refine am_e36 hi_47_12 (by decide) ?_
    exact ⟨1, rfl, (by decide), rfl⟩
theorem ck_lget {sc : Nat × (Nat → Int32)} {d aw : Nat} {S : am_S} {k : Nat} {i : Int32} (h : SH aw S) (hl_k : k = 6 ∨ k = 13) (p0 : 0 ≤ i.toInt) (p1 : i.toInt + 1 ≤ iv S k 1) : am_E (am_PP sc) (d + 2) 25 0 [some (.ref k), some (.int i)] [] S (am_N fun v S1 => ∃ r : Nat, v = some (.ref r) ∧ cl (am_fs S1) r = some 8 ∧ S = S1) := by
  obtain ⟨ed, sz, mc, hfs, b6, b0, b1, hed⟩ := SH.lst (k := k) h hl_k
  rcases hed with ⟨hed, b7⟩ | ⟨a, n, hed, hR, b2, b3, b4⟩
  · subst hed
    exfalso; omega
  · subst hed
    refine am_e1 (v := i) hi_25_0 rfl ?_
    refine am_e2 (v := k) hi_25_1 rfl ?_
    refine am_e20 (v := .int sz) hi_25_2 hfs rfl ?_
    refine am_e32w (as := [.int i, .int sz]) (la := [some (.int i), some (.int sz)]) (rest := []) hi_25_5 (am_hd0 (M := 25) (by decide) 5) (Nat.le_of_ble_eq_true rfl) (Nat.le_of_ble_eq_true rfl) (show 2 ≤ am_P0.2.2.1 26 from by decide +kernel) rfl rfl rfl rfl ?_
    refine am_e1 (v := i) hi_26_0 rfl ?_
    refine am_e1 (v := sz) hi_26_1 rfl ?_
    refine am_e29 hi_26_2 ?_
    refine am_e32w (as := [.int i, .int sz, .null]) (la := [some (.int i), some (.int sz), some .null]) (rest := []) hi_26_3 (am_hd0 (M := 26) (by decide) 3) (Nat.le_of_ble_eq_true rfl) (Nat.le_of_ble_eq_true rfl) (show 3 ≤ am_P0.2.2.1 27 from by decide +kernel) rfl rfl rfl rfl ?_
    refine am_e1 (v := i) hi_27_0 rfl ?_
    refine am_e12f hi_27_1 (am_cF (m := i.toInt) (n := (0 : Int)) rfl (by decide) (by simp only [am_cI]; omega)) ?_
    refine am_e1 (v := i) hi_27_4 rfl ?_
    refine am_e1 (v := sz) hi_27_5 rfl ?_
    refine am_e13t hi_27_6 (am_cT (m := i.toInt) (n := sz.toInt) rfl rfl (by simp only [am_cI]; omega)) ?_
    refine am_e1 (v := i) hi_27_16 rfl ?_
    refine am_e33 hi_27_17 ?_
    show am_E _ _ _ _ [some (.int i), some (.int sz)] [.int i] _ _
    refine am_e33 hi_26_6 ?_
    show am_E _ _ _ _ [some (.ref k), some (.int i)] [.int i] _ _
    refine am_e6i hi_25_8 ?_
    refine am_e2 (v := k) hi_25_9 rfl ?_
    refine am_e1 (v := i) hi_25_10 rfl ?_
    refine am_e32w (as := [.ref k, .int i]) (la := [some (.ref k), some (.int i)]) (rest := []) hi_25_11 (am_hd0 (M := 25) (by decide) 11) (Nat.le_of_ble_eq_true rfl) (Nat.le_of_ble_eq_true rfl) (show 2 ≤ am_P0.2.2.1 28 from by decide +kernel) rfl (cl_recv (cl_l h hl_k)) rfl rfl ?_
    refine am_e2 (v := k) hi_28_0 rfl ?_
    refine am_e20 (v := .ref a) hi_28_1 hfs rfl ?_
    refine am_e1 (v := i) hi_28_4 rfl ?_
    have h2 := cl_toNat (i := i)
    refine am_e39b h hi_28_5 hR (by omega) (by omega) (b4 _ (by omega)) fun b1 hb1 => ?_
    refine am_e34 hi_28_6 ?_
    show am_E _ _ _ _ [some (.ref k), some (.int i)] [.ref b1] _ _
    refine am_e34 hi_25_14 ?_
    exact ⟨b1, rfl, hb1, rfl⟩
theorem ck_ladd {sc : Nat × (Nat → Int32)} {d aw : Nat} {S : am_S} {k : Nat} {b : Nat} (h : SH aw S) (hc_b : cl (am_fs S) b = some 8) (hl_k : k = 6 ∨ k = 13) (p0 : iv S k 1 ≤ 700) : am_E (am_PP sc) (d + 6) 15 0 [some (.ref k), some (.ref b)] [] S (am_N fun v S1 => ∃ r : Int32, v = some (.int r) ∧ (r = 0 ∨ r = 1) ∧ Li aw k (1600) S S1 ∧ (iv S1 k 1 = iv S k 1 + 1)) := by
  obtain ⟨ed, sz, mc, hfs, b6, b0, b1, hed⟩ := SH.lst (k := k) h hl_k
  rcases hed with ⟨hed, b7⟩ | ⟨a, n, hed, hR, b2, b3, b4⟩
  · subst hed
    refine am_e2 (v := k) hi_15_0 rfl ?_
    refine am_e7 hi_15_1 ?_
    refine am_e20 (v := .int mc) hi_15_2 hfs rfl ?_
    refine am_e0 hi_15_5 ?_
    obtain ⟨z1, hz1⟩ : ∃ q__, am_bin 0 mc 1 = q__ := ⟨_, rfl⟩
    refine am_e10 (z := z1) hi_15_6 hz1 ?_
    refine cm_21l (k := k) (ed := .long 0) (sz := sz) (mc := z1) h hl_k hi_15_7 hfs (by decide) rfl rfl ⟨by omega, by omega, Or.inl ⟨rfl, by omega⟩⟩ (fun _ e => nomatch e) (fun e => by have qk : iv S k 1 = sz.toInt := (by unfold iv; rw [hfs]; rfl); obtain ⟨c0, -, q1, q2, q3⟩ := h.cnt; subst e; omega) fun S2 g3 g4 g5 g6 g7 => ?_
    have h14 := li_fl g3 h (by omega)
    obtain ⟨h8, h9, h18, ⟨h13, h15⟩, h17⟩ := g3
    have h10 : nx S2 = nx S := h18 2 2 (by omega)
    have h11 : lv S2 = lv S := h18 2 3 (by omega)
    have h12 : wr S2 = wr S := h18 3 1 (by omega)
    have h19 := h18 5 1 (by omega)
    have h20 : kd aw S2 = kd aw S := kd_eq h10 h13
    have hk21 := h9.1 _ _ hc_b
    have g4_ : iv S2 k 1 = sz.toInt := g4
    show am_E _ _ _ _ [some (.ref k), some (.ref b)] [] _ _
    refine am_e2 (v := k) hi_15_10 rfl ?_
    refine am_e2 (v := b) hi_15_11 rfl ?_
    refine am_e2 (v := k) hi_15_12 rfl ?_
    refine am_e20 (v := .long 0) hi_15_13 g5 rfl ?_
    refine am_e2 (v := k) hi_15_16 rfl ?_
    refine am_e20 (v := .int sz) hi_15_17 g5 rfl ?_
    refine am_e32w (as := [.ref k, .ref b, .long 0, .int sz]) (la := [some (.ref k), some (.ref b), some (.long 0), some (.int sz)]) (rest := []) hi_15_20 (am_hd0 (M := 15) (by decide) 20) (Nat.le_of_ble_eq_true rfl) (Nat.le_of_ble_eq_true rfl) (show 4 ≤ am_P0.2.2.1 16 from by decide +kernel) rfl (cl_recv (cl_l h8 hl_k)) rfl rfl ?_
    refine am_e1 (v := sz) hi_16_0 rfl ?_
    refine am_e2l hi_16_1 rfl ?_
    refine am_e24l hi_16_2 ?_
    refine am_e13f hi_16_3 (am_cF (m := sz.toInt) (n := (0 : Int)) rfl (by decide) (by simp only [am_cI]; omega)) ?_
    refine am_e2 (v := k) hi_16_6 rfl ?_
    refine am_e32w (as := [.ref k]) (la := [some (.ref k)]) (rest := []) hi_16_7 (am_hd0 (M := 16) (by decide) 7) (Nat.le_of_ble_eq_true rfl) (Nat.le_of_ble_eq_true rfl) (show 1 ≤ am_P0.2.2.1 17 from by decide +kernel) rfl (cl_recv (cl_l h8 hl_k)) rfl rfl ?_
    refine am_e2 (v := k) hi_17_0 rfl ?_
    refine am_e2 (v := k) hi_17_1 rfl ?_
    refine am_e20 (v := .int sz) hi_17_2 g5 rfl ?_
    refine am_e0 hi_17_5 ?_
    obtain ⟨z22, hz22, tz22⟩ := am_addI (x := sz) (y := 1) (m := sz.toInt) (n := (1 : Int)) rfl (by decide) (by omega) (by omega)
    refine am_e10 (z := z22) hi_17_6 hz22 ?_
    refine am_e32w (as := [.ref k, .int z22]) (la := [some (.ref k), some (.int z22), none, none]) (rest := []) hi_17_7 (am_hd0 (M := 17) (by decide) 7) (Nat.le_of_ble_eq_true rfl) (Nat.le_of_ble_eq_true rfl) (show 2 ≤ am_P0.2.2.1 18 from by decide +kernel) rfl (cl_recv (cl_l h8 hl_k)) rfl rfl ?_
    refine am_e2 (v := k) hi_18_0 rfl ?_
    refine am_e20 (v := .long 0) hi_18_1 g5 rfl ?_
    refine am_e24l hi_18_4 ?_
    refine am_e3 (ls' := [some (.ref k), some (.int z22), some (.int 0), none]) hi_18_5 (Nat.le_of_ble_eq_true rfl) rfl ?_
    refine am_e1 (v := 0) hi_18_6 rfl ?_
    refine am_e12f hi_18_7 (by decide) ?_
    refine am_e2 (v := k) hi_18_10 rfl ?_
    refine am_e20 (v := .long 0) hi_18_11 g5 rfl ?_
    refine am_eg hi_18_14 (by decide) rfl ?_
    show am_E _ _ _ _ [some (.ref k), some (.int z22), some (.int 0), none] [.long 0, .long 0] _ _
    refine am_eg (pc' := 45) (ls' := [some (.ref k), some (.int z22), some (.int 0), none]) (st' := []) (S1 := S2) hi_18_17 (by decide) (by simp only [am_do, if_true]) ?_
    show am_E _ _ _ 45 [some (.ref k), some (.int z22), some (.int 0), none] [] _ _
    refine am_e2 (v := k) hi_18_45 rfl ?_
    refine am_e0 hi_18_46 ?_
    refine am_e1 (v := z22) hi_18_48 rfl ?_
    refine am_e32n (as := [.int 10, .int z22]) (la := [some (.int 10), some (.int z22)]) (rest := [.ref k]) hi_18_49 (am_hd0 (M := 18) (by decide) 49) (Nat.le_of_ble_eq_true rfl) (Nat.le_of_ble_eq_true rfl) (show 2 ≤ am_P0.2.2.1 20 from by decide +kernel) rfl rfl rfl rfl (ck_max (d := (d + 2)) h8   ) ?_
    rintro v23 S24 ⟨r25, rfl, rfl, h27, h28, h29⟩
    have h27_ : (10 : Int) ≤ r25.toInt := h27
    have h28_ : z22.toInt ≤ r25.toInt := h28
    have h29_ : r25.toInt = (10 : Int) ∨ r25.toInt = z22.toInt := h29
    show am_E _ _ _ _ [some (.ref k), some (.int z22), some (.int 0), none] [.int r25, .ref k] _ _
    refine cm_38 (k := k) h8 hi_18_52 (by omega) (by omega) fun a31 S32 g33 g34 g35 g36 g37 g38 => ?_
    have h39 := cl_toNat (i := r25)
    have h46 := li_fl g33 h8 (by omega)
    obtain ⟨h40, h41, h50, ⟨h45, h47⟩, h49⟩ := g33
    have h42 : nx S32 = nx S2 := h50 2 2 (by omega)
    have h43 : lv S32 = lv S2 := h50 2 3 (by omega)
    have h44 : wr S32 = wr S2 := h50 3 1 (by omega)
    have h51 := h50 5 1 (by omega)
    have h52 : kd aw S32 = kd aw S2 := kd_eq h42 h45
    have hk53 := h41.1 _ _ hk21
    have hfs54 : am_fs S32 k = some (5, [.long 0, .int sz, .int z1]) := by rw [g34]; exact g5
    show am_E _ _ _ _ [some (.ref k), some (.int z22), some (.int 0), none] [.ref a31, .ref k] _ _
    refine am_e9 hi_18_55 ?_
    refine cm_21l (k := k) (ed := .ref a31) (sz := sz) (mc := z1) h40 hl_k hi_18_56 hfs54 (by decide) rfl rfl ⟨by omega, by omega, Or.inr ⟨_, _, rfl, g35, by omega, by omega, (fun i hi_ => absurd hi_ (by omega))⟩⟩ (fun a' e k' hk' _ => by cases e; exact g38 k' hk') (fun e => by have qk : iv S32 k 1 = sz.toInt := (by unfold iv; rw [hfs54]; rfl); obtain ⟨c0, -, q1, q2, q3⟩ := h40.cnt; subst e; omega) fun S55 g56 g57 g58 g59 g60 => ?_
    have h67 := li_fl g56 h40 (by omega)
    obtain ⟨h61, h62, h71, ⟨h66, h68⟩, h70⟩ := g56
    have h63 : nx S55 = nx S32 := h71 2 2 (by omega)
    have h64 : lv S55 = lv S32 := h71 2 3 (by omega)
    have h65 : wr S55 = wr S32 := h71 3 1 (by omega)
    have h72 := h71 5 1 (by omega)
    have h73 : kd aw S55 = kd aw S32 := kd_eq h63 h66
    have hk74 := h62.1 _ _ hk53
    have g57_ : iv S55 k 1 = sz.toInt := g57
    have hR75 : am_rar S55 a31 = some r25.toNatClampNeg := by rw [g59]; exact g35
    show am_E _ _ _ _ [some (.ref k), some (.int z22), some (.int 0), none] [.ref a31] _ _
    refine am_e34 hi_18_59 ?_
    show am_E _ _ _ _ [some (.ref k)] [.ref a31] _ _
    refine am_e34 hi_17_10 ?_
    show am_E _ _ _ _ [some (.ref k), some (.ref b), some (.long 0), some (.int sz)] [.ref a31] _ _
    refine am_e4 (ls' := [some (.ref k), some (.ref b), some (.ref a31), some (.int sz)]) hi_16_10 (Nat.le_of_ble_eq_true rfl) rfl ?_
    refine am_e2 (v := a31) hi_16_11 rfl ?_
    refine am_e1 (v := sz) hi_16_12 rfl ?_
    refine am_e2 (v := b) hi_16_13 rfl ?_
    refine cm_40b (k := k) h61 hi_16_14 hk74 hR75 (by omega) (by omega) fun S76 g77 g78 g79 g80 => ?_
    have h87 := li_fl g77 h61 (by omega)
    obtain ⟨h81, h82, h91, ⟨h86, h88⟩, h90⟩ := g77
    have h83 : nx S76 = nx S55 := h91 2 2 (by omega)
    have h84 : lv S76 = lv S55 := h91 2 3 (by omega)
    have h85 : wr S76 = wr S55 := h91 3 1 (by omega)
    have h92 := h91 5 1 (by omega)
    have h93 : kd aw S76 = kd aw S55 := kd_eq h83 h86
    have hk94 := h82.1 _ _ hk74
    have hfs96 : am_fs S76 k = some (5, [.ref a31, .int sz, .int z1]) := by rw [g78]; exact g58
    have hR97 : am_rar S76 a31 = some r25.toNatClampNeg := by rw [g79]; exact hR75
    have he95 : ∀ i : Nat, (i : Int) < sz.toInt + 1 → (am_rrf S76 a31 i).isSome = true := fun j hj => by have z := cl_toNat (i := sz); rw [g80]; split <;> first | rfl | (exfalso; omega)
    show am_E _ _ _ _ [some (.ref k), some (.ref b), some (.ref a31), some (.int sz)] [] _ _
    refine am_e2 (v := k) hi_16_15 rfl ?_
    refine am_e1 (v := sz) hi_16_16 rfl ?_
    refine am_e0 hi_16_17 ?_
    obtain ⟨z98, hz98, tz98⟩ := am_addI (x := sz) (y := 1) (m := sz.toInt) (n := (1 : Int)) rfl (by decide) (by omega) (by omega)
    refine am_e10 (z := z98) hi_16_18 hz98 ?_
    have he105 : ∀ i : Nat, (i : Int) < z98.toInt → (am_rrf S76 a31 i).isSome = true := fun i hi_ => he95 i (by omega)
    refine cm_21l (k := k) (ed := .ref a31) (sz := z98) (mc := z1) h81 hl_k hi_16_19 hfs96 (by decide) rfl rfl ⟨by omega, by omega, Or.inr ⟨_, _, rfl, hR97, by omega, by omega, he105⟩⟩ (fun a' e => by cases e; exact SH.dis h81 hl_k hfs96) (fun e => by have qk : iv S76 k 1 = sz.toInt := (by unfold iv; rw [hfs96]; rfl); obtain ⟨c0, -, q1, q2, q3⟩ := h81.cnt; subst e; omega) fun S99 g100 g101 g102 g103 g104 => ?_
    have h112 := li_fl g100 h81 (by omega)
    obtain ⟨h106, h107, h116, ⟨h111, h113⟩, h115⟩ := g100
    have h108 : nx S99 = nx S76 := h116 2 2 (by omega)
    have h109 : lv S99 = lv S76 := h116 2 3 (by omega)
    have h110 : wr S99 = wr S76 := h116 3 1 (by omega)
    have h117 := h116 5 1 (by omega)
    have h118 : kd aw S99 = kd aw S76 := kd_eq h108 h111
    have hk119 := h107.1 _ _ hk94
    have g101_ : iv S99 k 1 = z98.toInt := g101
    have hR120 : am_rar S99 a31 = some r25.toNatClampNeg := by rw [g103]; exact hR97
    have he121 : ∀ i : Nat, (i : Int) < z98.toInt → (am_rrf S99 a31 i).isSome = true := by rw [g104]; exact he105
    show am_E _ _ _ _ [some (.ref k), some (.ref b), some (.ref a31), some (.int sz)] [] _ _
    refine am_e35 hi_16_22 ?_
    show am_E _ _ _ _ [some (.ref k), some (.ref b)] [] _ _
    refine am_e0 hi_15_23 ?_
    refine am_e36 hi_15_24 (by decide) ?_
    exact ⟨1, rfl, (by decide), ⟨h106, ((((h9.trans h41).trans h62).trans h82).trans h107), (fun j i hj => ((h116 j i hj).trans ((h91 j i hj).trans ((h71 j i hj).trans ((h50 j i hj).trans (h18 j i hj)))))), ⟨(h111.trans (h86.trans (h66.trans (h45.trans h13)))), (h113.trans (h88.trans (h68.trans (h47.trans h15))))⟩, (by show EN S99 ≤ EN S + (1600); omega)⟩, (by show iv S99 k 1 = iv S k 1 + 1; omega)⟩
  · subst hed
    refine am_e2 (v := k) hi_15_0 rfl ?_
    refine am_e7 hi_15_1 ?_
    refine am_e20 (v := .int mc) hi_15_2 hfs rfl ?_
    refine am_e0 hi_15_5 ?_
    obtain ⟨z122, hz122⟩ : ∃ q__, am_bin 0 mc 1 = q__ := ⟨_, rfl⟩
    refine am_e10 (z := z122) hi_15_6 hz122 ?_
    refine cm_21l (k := k) (ed := .ref a) (sz := sz) (mc := z122) h hl_k hi_15_7 hfs (by decide) rfl rfl ⟨by omega, by omega, Or.inr ⟨_, _, rfl, hR, by omega, by omega, b4⟩⟩ (fun a' e => by cases e; exact SH.dis h hl_k hfs) (fun e => by have qk : iv S k 1 = sz.toInt := (by unfold iv; rw [hfs]; rfl); obtain ⟨c0, -, q1, q2, q3⟩ := h.cnt; subst e; omega) fun S123 g124 g125 g126 g127 g128 => ?_
    have h135 := li_fl g124 h (by omega)
    obtain ⟨h129, h130, h139, ⟨h134, h136⟩, h138⟩ := g124
    have h131 : nx S123 = nx S := h139 2 2 (by omega)
    have h132 : lv S123 = lv S := h139 2 3 (by omega)
    have h133 : wr S123 = wr S := h139 3 1 (by omega)
    have h140 := h139 5 1 (by omega)
    have h141 : kd aw S123 = kd aw S := kd_eq h131 h134
    have hk142 := h130.1 _ _ hc_b
    have g125_ : iv S123 k 1 = sz.toInt := g125
    have hR143 : am_rar S123 a = some n := by rw [g127]; exact hR
    have he144 : ∀ i : Nat, (i : Int) < sz.toInt → (am_rrf S123 a i).isSome = true := by rw [g128]; exact b4
    show am_E _ _ _ _ [some (.ref k), some (.ref b)] [] _ _
    refine am_e2 (v := k) hi_15_10 rfl ?_
    refine am_e2 (v := b) hi_15_11 rfl ?_
    refine am_e2 (v := k) hi_15_12 rfl ?_
    refine am_e20 (v := .ref a) hi_15_13 g126 rfl ?_
    refine am_e2 (v := k) hi_15_16 rfl ?_
    refine am_e20 (v := .int sz) hi_15_17 g126 rfl ?_
    refine am_e32w (as := [.ref k, .ref b, .ref a, .int sz]) (la := [some (.ref k), some (.ref b), some (.ref a), some (.int sz)]) (rest := []) hi_15_20 (am_hd0 (M := 15) (by decide) 20) (Nat.le_of_ble_eq_true rfl) (Nat.le_of_ble_eq_true rfl) (show 4 ≤ am_P0.2.2.1 16 from by decide +kernel) rfl (cl_recv (cl_l h129 hl_k)) rfl rfl ?_
    refine am_e1 (v := sz) hi_16_0 rfl ?_
    refine am_e2 (v := a) hi_16_1 rfl ?_
    obtain ⟨z145, hz145, tz145⟩ := of_nat (n := n) (by omega)
    refine am_e24r hi_16_2 hR143 hz145 ?_
    by_cases c146 : ¬ sz.toInt = z145.toInt
    · refine am_e13t hi_16_3 (am_cT (m := sz.toInt) (n := z145.toInt) rfl rfl c146) ?_
      refine am_e2 (v := a) hi_16_11 rfl ?_
      refine am_e1 (v := sz) hi_16_12 rfl ?_
      refine am_e2 (v := b) hi_16_13 rfl ?_
      refine cm_40b (k := k) h129 hi_16_14 hk142 hR143 (by omega) (by omega) fun S147 g148 g149 g150 g151 => ?_
      have h158 := li_fl g148 h129 (by omega)
      obtain ⟨h152, h153, h162, ⟨h157, h159⟩, h161⟩ := g148
      have h154 : nx S147 = nx S123 := h162 2 2 (by omega)
      have h155 : lv S147 = lv S123 := h162 2 3 (by omega)
      have h156 : wr S147 = wr S123 := h162 3 1 (by omega)
      have h163 := h162 5 1 (by omega)
      have h164 : kd aw S147 = kd aw S123 := kd_eq h154 h157
      have hk165 := h153.1 _ _ hk142
      have hfs167 : am_fs S147 k = some (5, [.ref a, .int sz, .int z122]) := by rw [g149]; exact g126
      have hR168 : am_rar S147 a = some n := by rw [g150]; exact hR143
      have he166 : ∀ i : Nat, (i : Int) < sz.toInt + 1 → (am_rrf S147 a i).isSome = true := fun j hj => by have z := cl_toNat (i := sz); rw [g151]; split <;> first | rfl | exact he144 j (by omega)
      show am_E _ _ _ _ [some (.ref k), some (.ref b), some (.ref a), some (.int sz)] [] _ _
      refine am_e2 (v := k) hi_16_15 rfl ?_
      refine am_e1 (v := sz) hi_16_16 rfl ?_
      refine am_e0 hi_16_17 ?_
      obtain ⟨z169, hz169, tz169⟩ := am_addI (x := sz) (y := 1) (m := sz.toInt) (n := (1 : Int)) rfl (by decide) (by omega) (by omega)
      refine am_e10 (z := z169) hi_16_18 hz169 ?_
      have he176 : ∀ i : Nat, (i : Int) < z169.toInt → (am_rrf S147 a i).isSome = true := fun i hi_ => he166 i (by omega)
      refine cm_21l (k := k) (ed := .ref a) (sz := z169) (mc := z122) h152 hl_k hi_16_19 hfs167 (by decide) rfl rfl ⟨by omega, by omega, Or.inr ⟨_, _, rfl, hR168, by omega, by omega, he176⟩⟩ (fun a' e => by cases e; exact SH.dis h152 hl_k hfs167) (fun e => by have qk : iv S147 k 1 = sz.toInt := (by unfold iv; rw [hfs167]; rfl); obtain ⟨c0, -, q1, q2, q3⟩ := h152.cnt; subst e; omega) fun S170 g171 g172 g173 g174 g175 => ?_
      have h183 := li_fl g171 h152 (by omega)
      obtain ⟨h177, h178, h187, ⟨h182, h184⟩, h186⟩ := g171
      have h179 : nx S170 = nx S147 := h187 2 2 (by omega)
      have h180 : lv S170 = lv S147 := h187 2 3 (by omega)
      have h181 : wr S170 = wr S147 := h187 3 1 (by omega)
      have h188 := h187 5 1 (by omega)
      have h189 : kd aw S170 = kd aw S147 := kd_eq h179 h182
      have hk190 := h178.1 _ _ hk165
      have g172_ : iv S170 k 1 = z169.toInt := g172
      have hR191 : am_rar S170 a = some n := by rw [g174]; exact hR168
      have he192 : ∀ i : Nat, (i : Int) < z169.toInt → (am_rrf S170 a i).isSome = true := by rw [g175]; exact he176
      show am_E _ _ _ _ [some (.ref k), some (.ref b), some (.ref a), some (.int sz)] [] _ _
      refine am_e35 hi_16_22 ?_
      show am_E _ _ _ _ [some (.ref k), some (.ref b)] [] _ _
      refine am_e0 hi_15_23 ?_
      refine am_e36 hi_15_24 (by decide) ?_
      exact ⟨1, rfl, (by decide), ⟨h177, ((h130.trans h153).trans h178), (fun j i hj => ((h187 j i hj).trans ((h162 j i hj).trans (h139 j i hj)))), ⟨(h182.trans (h157.trans h134)), (h184.trans (h159.trans h136))⟩, (by show EN S170 ≤ EN S + (1600); omega)⟩, (by show iv S170 k 1 = iv S k 1 + 1; omega)⟩
    · refine am_e13f hi_16_3 (am_cF (m := sz.toInt) (n := z145.toInt) rfl rfl c146) ?_
      refine am_e2 (v := k) hi_16_6 rfl ?_
      refine am_e32w (as := [.ref k]) (la := [some (.ref k)]) (rest := []) hi_16_7 (am_hd0 (M := 16) (by decide) 7) (Nat.le_of_ble_eq_true rfl) (Nat.le_of_ble_eq_true rfl) (show 1 ≤ am_P0.2.2.1 17 from by decide +kernel) rfl (cl_recv (cl_l h129 hl_k)) rfl rfl ?_
      refine am_e2 (v := k) hi_17_0 rfl ?_
      refine am_e2 (v := k) hi_17_1 rfl ?_
      refine am_e20 (v := .int sz) hi_17_2 g126 rfl ?_
      refine am_e0 hi_17_5 ?_
      obtain ⟨z193, hz193, tz193⟩ := am_addI (x := sz) (y := 1) (m := sz.toInt) (n := (1 : Int)) rfl (by decide) (by omega) (by omega)
      refine am_e10 (z := z193) hi_17_6 hz193 ?_
      refine am_e32w (as := [.ref k, .int z193]) (la := [some (.ref k), some (.int z193), none, none]) (rest := []) hi_17_7 (am_hd0 (M := 17) (by decide) 7) (Nat.le_of_ble_eq_true rfl) (Nat.le_of_ble_eq_true rfl) (show 2 ≤ am_P0.2.2.1 18 from by decide +kernel) rfl (cl_recv (cl_l h129 hl_k)) rfl rfl ?_
      refine am_e2 (v := k) hi_18_0 rfl ?_
      refine am_e20 (v := .ref a) hi_18_1 g126 rfl ?_
      obtain ⟨z194, hz194, tz194⟩ := of_nat (n := n) (by omega)
      refine am_e24r hi_18_4 hR143 hz194 ?_
      refine am_e3 (ls' := [some (.ref k), some (.int z193), some (.int z194), none]) hi_18_5 (Nat.le_of_ble_eq_true rfl) rfl ?_
      refine am_e1 (v := z194) hi_18_6 rfl ?_
      by_cases c195 : (0 : Int) < z194.toInt
      · refine am_e12t hi_18_7 (am_cT (m := z194.toInt) (n := (0 : Int)) rfl (by decide) c195) ?_
        refine am_e1 (v := z194) hi_18_20 rfl ?_
        refine am_e1 (v := z193) hi_18_21 rfl ?_
        refine am_e1 (v := z194) hi_18_22 rfl ?_
        obtain ⟨z196, hz196, tz196⟩ := am_subI (x := z193) (y := z194) (m := z193.toInt) (n := z194.toInt) rfl rfl (by omega) (by omega)
        refine am_e10 (z := z196) hi_18_23 hz196 ?_
        refine am_e1 (v := z194) hi_18_24 rfl ?_
        refine am_e0 hi_18_25 ?_
        obtain ⟨z197, hz197, tz197a, tz197b⟩ := sh_1 (x := z194) (by omega)
        refine am_e10 (z := z197) hi_18_26 hz197 ?_
        refine am_e32w (as := [.int z194, .int z196, .int z197]) (la := [some (.int z194), some (.int z196), some (.int z197), none]) (rest := []) hi_18_27 (am_hd0 (M := 18) (by decide) 27) (Nat.le_of_ble_eq_true rfl) (Nat.le_of_ble_eq_true rfl) (show 3 ≤ am_P0.2.2.1 19 from by decide +kernel) rfl rfl rfl rfl ?_
        refine am_e1 (v := z194) hi_19_0 rfl ?_
        refine am_e1 (v := z196) hi_19_1 rfl ?_
        refine am_e1 (v := z197) hi_19_2 rfl ?_
        refine am_e32n (as := [.int z196, .int z197]) (la := [some (.int z196), some (.int z197)]) (rest := [.int z194]) hi_19_3 (am_hd0 (M := 19) (by decide) 3) (Nat.le_of_ble_eq_true rfl) (Nat.le_of_ble_eq_true rfl) (show 2 ≤ am_P0.2.2.1 20 from by decide +kernel) rfl rfl rfl rfl (ck_max (d := (d + 1)) h129   ) ?_
        rintro v198 S199 ⟨r200, rfl, rfl, h202, h203, h204⟩
        have h202_ : z196.toInt ≤ r200.toInt := h202
        have h203_ : z197.toInt ≤ r200.toInt := h203
        have h204_ : r200.toInt = z196.toInt ∨ r200.toInt = z197.toInt := h204
        show am_E _ _ _ _ [some (.int z194), some (.int z196), some (.int z197), none] [.int r200, .int z194] _ _
        obtain ⟨z206, hz206, tz206⟩ := am_addI (x := z194) (y := r200) (m := z194.toInt) (n := r200.toInt) rfl rfl (by omega) (by omega)
        refine am_e10 (z := z206) hi_19_6 hz206 ?_
        refine am_e3 (ls' := [some (.int z194), some (.int z196), some (.int z197), some (.int z206)]) hi_19_7 (Nat.le_of_ble_eq_true rfl) rfl ?_
        refine am_e0 hi_19_8 ?_
        refine am_e1 (v := z206) hi_19_9 rfl ?_
        refine am_e13f hi_19_10 (am_cF (m := (0 : Int)) (n := z206.toInt) (by decide) rfl (by simp only [am_cI]; omega)) ?_
        refine am_e1 (v := z206) hi_19_13 rfl ?_
        refine am_e0 hi_19_14 ?_
        by_cases c207 : (2147483639 : Int) < z206.toInt
        · refine am_e13t hi_19_16 (am_cT (m := z206.toInt) (n := (2147483639 : Int)) rfl (by decide) c207) ?_
          refine am_e1 (v := z194) hi_19_21 rfl ?_
          refine am_e1 (v := z196) hi_19_22 rfl ?_
          refine am_e32w (as := [.int z194, .int z196]) (la := [some (.int z194), some (.int z196), none]) (rest := []) hi_19_23 (am_hd0 (M := 19) (by decide) 23) (Nat.le_of_ble_eq_true rfl) (Nat.le_of_ble_eq_true rfl) (show 2 ≤ am_P0.2.2.1 21 from by decide +kernel) rfl rfl rfl rfl ?_
          refine am_e1 (v := z194) hi_21_0 rfl ?_
          refine am_e1 (v := z196) hi_21_1 rfl ?_
          obtain ⟨z208, hz208, tz208⟩ := am_addI (x := z194) (y := z196) (m := z194.toInt) (n := z196.toInt) rfl rfl (by omega) (by omega)
          refine am_e10 (z := z208) hi_21_2 hz208 ?_
          refine am_e3 (ls' := [some (.int z194), some (.int z196), some (.int z208)]) hi_21_3 (Nat.le_of_ble_eq_true rfl) rfl ?_
          refine am_e1 (v := z208) hi_21_4 rfl ?_
          refine am_e12t hi_21_5 (am_cT (m := z208.toInt) (n := (0 : Int)) rfl (by decide) (by simp only [am_cI]; omega)) ?_
          refine am_e1 (v := z208) hi_21_49 rfl ?_
          refine am_e0 hi_21_50 ?_
          refine am_e13t hi_21_52 (am_cT (m := z208.toInt) (n := (2147483639 : Int)) rfl (by decide) (by simp only [am_cI]; omega)) ?_
          refine am_e1 (v := z208) hi_21_58 rfl ?_
          refine am_e33 hi_21_59 ?_
          show am_E _ _ _ _ [some (.int z194), some (.int z196), some (.int z197), some (.int z206)] [.int z208] _ _
          refine am_e33 hi_19_26 ?_
          show am_E _ _ _ _ [some (.ref k), some (.int z193), some (.int z194), none] [.int z208] _ _
          refine am_e3 (ls' := [some (.ref k), some (.int z193), some (.int z194), some (.int z208)]) hi_18_30 (Nat.le_of_ble_eq_true rfl) rfl ?_
          refine am_e2 (v := k) hi_18_31 rfl ?_
          refine am_e2 (v := k) hi_18_32 rfl ?_
          refine am_e20 (v := .ref a) hi_18_33 g126 rfl ?_
          refine am_e1 (v := z208) hi_18_36 rfl ?_
          refine am_e32w (as := [.ref a, .int z208]) (la := [some (.ref a), some (.int z208)]) (rest := [.ref k]) hi_18_37 (am_hd0 (M := 18) (by decide) 37) (Nat.le_of_ble_eq_true rfl) (Nat.le_of_ble_eq_true rfl) (show 2 ≤ am_P0.2.2.1 22 from by decide +kernel) rfl rfl rfl rfl ?_
          refine am_e2 (v := a) hi_22_0 rfl ?_
          refine am_e1 (v := z208) hi_22_1 rfl ?_
          refine am_e2 (v := a) hi_22_2 rfl ?_
          refine am_eg (pc' := 6) (ls' := [some (.ref a), some (.int z208)]) (st' := [.long 1, .int z208, .ref a]) (S1 := S123) hi_22_3 (by decide) (by simp only [am_do, am_rar_ok hR143]; rw [if_pos ⟨by omega, Nat.le_of_ble_eq_true rfl⟩]) ?_
          show am_E _ _ _ _ [some (.ref a), some (.int z208)] [.long 1, .int z208, .ref a] _ _
          refine am_e32w (as := [.ref a, .int z208, .long 1]) (la := [some (.ref a), some (.int z208), some (.long 1), none]) (rest := []) hi_22_6 (am_hd0 (M := 22) (by decide) 6) (Nat.le_of_ble_eq_true rfl) (Nat.le_of_ble_eq_true rfl) (show 3 ≤ am_P0.2.2.1 23 from by decide +kernel) rfl rfl rfl rfl ?_
          refine am_e2l hi_23_0 rfl ?_
          refine am_eg hi_23_1 (by decide) rfl ?_
          show am_E _ _ _ _ [some (.ref a), some (.int z208), some (.long 1), none] [.long 1, .long 1] _ _
          refine am_eg (pc' := 6) (ls' := [some (.ref a), some (.int z208), some (.long 1), none]) (st' := []) (S1 := S123) hi_23_3 (by decide) (by simp only [am_do, if_true]) ?_
          refine am_e1 (v := z208) hi_23_6 rfl ?_
          refine cm_38 (k := k) h129 hi_23_7 (by omega) (by omega) fun a209 S210 g211 g212 g213 g214 g215 g216 => ?_
          have h217 := cl_toNat (i := z208)
          have h224 := li_fl g211 h129 (by omega)
          obtain ⟨h218, h219, h228, ⟨h223, h225⟩, h227⟩ := g211
          have h220 : nx S210 = nx S123 := h228 2 2 (by omega)
          have h221 : lv S210 = lv S123 := h228 2 3 (by omega)
          have h222 : wr S210 = wr S123 := h228 3 1 (by omega)
          have h229 := h228 5 1 (by omega)
          have h230 : kd aw S210 = kd aw S123 := kd_eq h220 h223
          have hk231 := h219.1 _ _ hk142
          have hfs232 : am_fs S210 k = some (5, [.ref a, .int sz, .int z122]) := by rw [g212]; exact g126
          have hR233 : am_rar S210 a = some n := g214 _ _ hR143
          have he234 : ∀ i : Nat, (i : Int) < sz.toInt → (am_rrf S210 a i).isSome = true := by rw [g215]; exact he144
          show am_E _ _ _ _ [some (.ref a), some (.int z208), some (.long 1), none] [.ref a209] _ _
          refine am_e18 hi_23_10 ?_
          refine am_e4 (ls' := [some (.ref a), some (.int z208), some (.long 1), some (.ref a209)]) hi_23_24 (Nat.le_of_ble_eq_true rfl) rfl ?_
          refine am_e2 (v := a) hi_23_25 rfl ?_
          refine am_e0 hi_23_26 ?_
          refine am_e2 (v := a209) hi_23_27 rfl ?_
          refine am_e0 hi_23_28 ?_
          refine am_e2 (v := a) hi_23_29 rfl ?_
          obtain ⟨z235, hz235, tz235⟩ := of_nat (n := n) (by omega)
          refine am_e24r hi_23_30 hR233 hz235 ?_
          refine am_e1 (v := z208) hi_23_31 rfl ?_
          refine am_e32n (as := [.int z235, .int z208]) (la := [some (.int z235), some (.int z208)]) (rest := [.int 0, .ref a209, .int 0, .ref a]) hi_23_32 (am_hd0 (M := 23) (by decide) 32) (Nat.le_of_ble_eq_true rfl) (Nat.le_of_ble_eq_true rfl) (show 2 ≤ am_P0.2.2.1 24 from by decide +kernel) rfl rfl rfl rfl (ck_min (d := d) h218   ) ?_
          rintro v236 S237 ⟨r238, rfl, rfl, h240, h241, h242⟩
          have h240_ : r238.toInt ≤ z235.toInt := h240
          have h241_ : r238.toInt ≤ z208.toInt := h241
          have h242_ : r238.toInt = z235.toInt ∨ r238.toInt = z208.toInt := h242
          show am_E _ _ _ _ [some (.ref a), some (.int z208), some (.long 1), some (.ref a209)] [.int r238, .int 0, .ref a209, .int 0, .ref a] _ _
          refine cm_42 (k := k) h218 hi_23_35 hR233 g213 (by omega) (by omega) (by omega) (by omega) (by decide) g216 fun S244 g245 g246 g247 g248 => ?_
          have h255 := li_fl g245 h218 (by omega)
          obtain ⟨h249, h250, h259, ⟨h254, h256⟩, h258⟩ := g245
          have h251 : nx S244 = nx S210 := h259 2 2 (by omega)
          have h252 : lv S244 = lv S210 := h259 2 3 (by omega)
          have h253 : wr S244 = wr S210 := h259 3 1 (by omega)
          have h260 := h259 5 1 (by omega)
          have h261 : kd aw S244 = kd aw S210 := kd_eq h251 h254
          have hk262 := h250.1 _ _ hk231
          have hfs263 : am_fs S244 k = some (5, [.ref a, .int sz, .int z122]) := by rw [g246]; exact hfs232
          have hR264 : am_rar S244 a209 = some z208.toNatClampNeg := by rw [g247]; exact g213
          have he265 : ∀ i : Nat, (i : Int) < sz.toInt → (am_rrf S244 a209 i).isSome = true := fun i hi_ => by rw [g248 i (by omega)]; exact he234 i hi_
          have hf266 : ∀ k', k' = 6 ∨ k' = 13 → ∀ q1 q2, am_fs S244 k' ≠ some (5, [.ref a209, q1, q2]) := by rw [g246]; exact g216
          show am_E _ _ _ _ [some (.ref a), some (.int z208), some (.long 1), some (.ref a209)] [] _ _
          refine am_e2 (v := a209) hi_23_38 rfl ?_
          refine am_e34 hi_23_39 ?_
          show am_E _ _ _ _ [some (.ref a), some (.int z208)] [.ref a209] _ _
          refine am_e34 hi_22_9 ?_
          show am_E _ _ _ _ [some (.ref k), some (.int z193), some (.int z194), some (.int z208)] [.ref a209, .ref k] _ _
          refine am_e9 hi_18_40 ?_
          refine cm_21l (k := k) (ed := .ref a209) (sz := sz) (mc := z122) h249 hl_k hi_18_41 hfs263 (by decide) rfl rfl ⟨by omega, by omega, Or.inr ⟨_, _, rfl, hR264, by omega, by omega, he265⟩⟩ (fun a' e k' hk' _ => by cases e; exact hf266 k' hk') (fun e => by have qk : iv S244 k 1 = sz.toInt := (by unfold iv; rw [hfs263]; rfl); obtain ⟨c0, -, q1, q2, q3⟩ := h249.cnt; subst e; omega) fun S267 g268 g269 g270 g271 g272 => ?_
          have h279 := li_fl g268 h249 (by omega)
          obtain ⟨h273, h274, h283, ⟨h278, h280⟩, h282⟩ := g268
          have h275 : nx S267 = nx S244 := h283 2 2 (by omega)
          have h276 : lv S267 = lv S244 := h283 2 3 (by omega)
          have h277 : wr S267 = wr S244 := h283 3 1 (by omega)
          have h284 := h283 5 1 (by omega)
          have h285 : kd aw S267 = kd aw S244 := kd_eq h275 h278
          have hk286 := h274.1 _ _ hk262
          have g269_ : iv S267 k 1 = sz.toInt := g269
          have hR287 : am_rar S267 a209 = some z208.toNatClampNeg := by rw [g271]; exact hR264
          have he288 : ∀ i : Nat, (i : Int) < sz.toInt → (am_rrf S267 a209 i).isSome = true := by rw [g272]; exact he265
          show am_E _ _ _ _ [some (.ref k), some (.int z193), some (.int z194), some (.int z208)] [.ref a209] _ _
          refine am_e34 hi_18_44 ?_
          show am_E _ _ _ _ [some (.ref k)] [.ref a209] _ _
          refine am_e34 hi_17_10 ?_
          show am_E _ _ _ _ [some (.ref k), some (.ref b), some (.ref a), some (.int sz)] [.ref a209] _ _
          refine am_e4 (ls' := [some (.ref k), some (.ref b), some (.ref a209), some (.int sz)]) hi_16_10 (Nat.le_of_ble_eq_true rfl) rfl ?_
          refine am_e2 (v := a209) hi_16_11 rfl ?_
          refine am_e1 (v := sz) hi_16_12 rfl ?_
          refine am_e2 (v := b) hi_16_13 rfl ?_
          refine cm_40b (k := k) h273 hi_16_14 hk286 hR287 (by omega) (by omega) fun S289 g290 g291 g292 g293 => ?_
          have h300 := li_fl g290 h273 (by omega)
          obtain ⟨h294, h295, h304, ⟨h299, h301⟩, h303⟩ := g290
          have h296 : nx S289 = nx S267 := h304 2 2 (by omega)
          have h297 : lv S289 = lv S267 := h304 2 3 (by omega)
          have h298 : wr S289 = wr S267 := h304 3 1 (by omega)
          have h305 := h304 5 1 (by omega)
          have h306 : kd aw S289 = kd aw S267 := kd_eq h296 h299
          have hk307 := h295.1 _ _ hk286
          have hfs309 : am_fs S289 k = some (5, [.ref a209, .int sz, .int z122]) := by rw [g291]; exact g270
          have hR310 : am_rar S289 a209 = some z208.toNatClampNeg := by rw [g292]; exact hR287
          have he308 : ∀ i : Nat, (i : Int) < sz.toInt + 1 → (am_rrf S289 a209 i).isSome = true := fun j hj => by have z := cl_toNat (i := sz); rw [g293]; split <;> first | rfl | exact he288 j (by omega)
          show am_E _ _ _ _ [some (.ref k), some (.ref b), some (.ref a209), some (.int sz)] [] _ _
          refine am_e2 (v := k) hi_16_15 rfl ?_
          refine am_e1 (v := sz) hi_16_16 rfl ?_
          refine am_e0 hi_16_17 ?_
          obtain ⟨z311, hz311, tz311⟩ := am_addI (x := sz) (y := 1) (m := sz.toInt) (n := (1 : Int)) rfl (by decide) (by omega) (by omega)
          refine am_e10 (z := z311) hi_16_18 hz311 ?_
          have he318 : ∀ i : Nat, (i : Int) < z311.toInt → (am_rrf S289 a209 i).isSome = true := fun i hi_ => he308 i (by omega)
          refine cm_21l (k := k) (ed := .ref a209) (sz := z311) (mc := z122) h294 hl_k hi_16_19 hfs309 (by decide) rfl rfl ⟨by omega, by omega, Or.inr ⟨_, _, rfl, hR310, by omega, by omega, he318⟩⟩ (fun a' e => by cases e; exact SH.dis h294 hl_k hfs309) (fun e => by have qk : iv S289 k 1 = sz.toInt := (by unfold iv; rw [hfs309]; rfl); obtain ⟨c0, -, q1, q2, q3⟩ := h294.cnt; subst e; omega) fun S312 g313 g314 g315 g316 g317 => ?_
          have h325 := li_fl g313 h294 (by omega)
          obtain ⟨h319, h320, h329, ⟨h324, h326⟩, h328⟩ := g313
          have h321 : nx S312 = nx S289 := h329 2 2 (by omega)
          have h322 : lv S312 = lv S289 := h329 2 3 (by omega)
          have h323 : wr S312 = wr S289 := h329 3 1 (by omega)
          have h330 := h329 5 1 (by omega)
          have h331 : kd aw S312 = kd aw S289 := kd_eq h321 h324
          have hk332 := h320.1 _ _ hk307
          have g314_ : iv S312 k 1 = z311.toInt := g314
          have hR333 : am_rar S312 a209 = some z208.toNatClampNeg := by rw [g316]; exact hR310
          have he334 : ∀ i : Nat, (i : Int) < z311.toInt → (am_rrf S312 a209 i).isSome = true := by rw [g317]; exact he318
          show am_E _ _ _ _ [some (.ref k), some (.ref b), some (.ref a209), some (.int sz)] [] _ _
          refine am_e35 hi_16_22 ?_
          show am_E _ _ _ _ [some (.ref k), some (.ref b)] [] _ _
          refine am_e0 hi_15_23 ?_
          refine am_e36 hi_15_24 (by decide) ?_
          exact ⟨1, rfl, (by decide), ⟨h319, (((((h130.trans h219).trans h250).trans h274).trans h295).trans h320), (fun j i hj => ((h329 j i hj).trans ((h304 j i hj).trans ((h283 j i hj).trans ((h259 j i hj).trans ((h228 j i hj).trans (h139 j i hj))))))), ⟨(h324.trans (h299.trans (h278.trans (h254.trans (h223.trans h134))))), (h326.trans (h301.trans (h280.trans (h256.trans (h225.trans h136)))))⟩, (by show EN S312 ≤ EN S + (1600); omega)⟩, (by show iv S312 k 1 = iv S k 1 + 1; omega)⟩
        · refine am_e13f hi_19_16 (am_cF (m := z206.toInt) (n := (2147483639 : Int)) rfl (by decide) c207) ?_
          refine am_e1 (v := z206) hi_19_19 rfl ?_
          refine am_e33 hi_19_20 ?_
          show am_E _ _ _ _ [some (.ref k), some (.int z193), some (.int z194), none] [.int z206] _ _
          refine am_e3 (ls' := [some (.ref k), some (.int z193), some (.int z194), some (.int z206)]) hi_18_30 (Nat.le_of_ble_eq_true rfl) rfl ?_
          refine am_e2 (v := k) hi_18_31 rfl ?_
          refine am_e2 (v := k) hi_18_32 rfl ?_
          refine am_e20 (v := .ref a) hi_18_33 g126 rfl ?_
          refine am_e1 (v := z206) hi_18_36 rfl ?_
          refine am_e32w (as := [.ref a, .int z206]) (la := [some (.ref a), some (.int z206)]) (rest := [.ref k]) hi_18_37 (am_hd0 (M := 18) (by decide) 37) (Nat.le_of_ble_eq_true rfl) (Nat.le_of_ble_eq_true rfl) (show 2 ≤ am_P0.2.2.1 22 from by decide +kernel) rfl rfl rfl rfl ?_
          refine am_e2 (v := a) hi_22_0 rfl ?_
          refine am_e1 (v := z206) hi_22_1 rfl ?_
          refine am_e2 (v := a) hi_22_2 rfl ?_
          refine am_eg (pc' := 6) (ls' := [some (.ref a), some (.int z206)]) (st' := [.long 1, .int z206, .ref a]) (S1 := S123) hi_22_3 (by decide) (by simp only [am_do, am_rar_ok hR143]; rw [if_pos ⟨by omega, Nat.le_of_ble_eq_true rfl⟩]) ?_
          show am_E _ _ _ _ [some (.ref a), some (.int z206)] [.long 1, .int z206, .ref a] _ _
          refine am_e32w (as := [.ref a, .int z206, .long 1]) (la := [some (.ref a), some (.int z206), some (.long 1), none]) (rest := []) hi_22_6 (am_hd0 (M := 22) (by decide) 6) (Nat.le_of_ble_eq_true rfl) (Nat.le_of_ble_eq_true rfl) (show 3 ≤ am_P0.2.2.1 23 from by decide +kernel) rfl rfl rfl rfl ?_
          refine am_e2l hi_23_0 rfl ?_
          refine am_eg hi_23_1 (by decide) rfl ?_
          show am_E _ _ _ _ [some (.ref a), some (.int z206), some (.long 1), none] [.long 1, .long 1] _ _
          refine am_eg (pc' := 6) (ls' := [some (.ref a), some (.int z206), some (.long 1), none]) (st' := []) (S1 := S123) hi_23_3 (by decide) (by simp only [am_do, if_true]) ?_
          refine am_e1 (v := z206) hi_23_6 rfl ?_
          refine cm_38 (k := k) h129 hi_23_7 (by omega) (by omega) fun a335 S336 g337 g338 g339 g340 g341 g342 => ?_
          have h343 := cl_toNat (i := z206)
          have h350 := li_fl g337 h129 (by omega)
          obtain ⟨h344, h345, h354, ⟨h349, h351⟩, h353⟩ := g337
          have h346 : nx S336 = nx S123 := h354 2 2 (by omega)
          have h347 : lv S336 = lv S123 := h354 2 3 (by omega)
          have h348 : wr S336 = wr S123 := h354 3 1 (by omega)
          have h355 := h354 5 1 (by omega)
          have h356 : kd aw S336 = kd aw S123 := kd_eq h346 h349
          have hk357 := h345.1 _ _ hk142
          have hfs358 : am_fs S336 k = some (5, [.ref a, .int sz, .int z122]) := by rw [g338]; exact g126
          have hR359 : am_rar S336 a = some n := g340 _ _ hR143
          have he360 : ∀ i : Nat, (i : Int) < sz.toInt → (am_rrf S336 a i).isSome = true := by rw [g341]; exact he144
          show am_E _ _ _ _ [some (.ref a), some (.int z206), some (.long 1), none] [.ref a335] _ _
          refine am_e18 hi_23_10 ?_
          refine am_e4 (ls' := [some (.ref a), some (.int z206), some (.long 1), some (.ref a335)]) hi_23_24 (Nat.le_of_ble_eq_true rfl) rfl ?_
          refine am_e2 (v := a) hi_23_25 rfl ?_
          refine am_e0 hi_23_26 ?_
          refine am_e2 (v := a335) hi_23_27 rfl ?_
          refine am_e0 hi_23_28 ?_
          refine am_e2 (v := a) hi_23_29 rfl ?_
          obtain ⟨z361, hz361, tz361⟩ := of_nat (n := n) (by omega)
          refine am_e24r hi_23_30 hR359 hz361 ?_
          refine am_e1 (v := z206) hi_23_31 rfl ?_
          refine am_e32n (as := [.int z361, .int z206]) (la := [some (.int z361), some (.int z206)]) (rest := [.int 0, .ref a335, .int 0, .ref a]) hi_23_32 (am_hd0 (M := 23) (by decide) 32) (Nat.le_of_ble_eq_true rfl) (Nat.le_of_ble_eq_true rfl) (show 2 ≤ am_P0.2.2.1 24 from by decide +kernel) rfl rfl rfl rfl (ck_min (d := d) h344   ) ?_
          rintro v362 S363 ⟨r364, rfl, rfl, h366, h367, h368⟩
          have h366_ : r364.toInt ≤ z361.toInt := h366
          have h367_ : r364.toInt ≤ z206.toInt := h367
          have h368_ : r364.toInt = z361.toInt ∨ r364.toInt = z206.toInt := h368
          show am_E _ _ _ _ [some (.ref a), some (.int z206), some (.long 1), some (.ref a335)] [.int r364, .int 0, .ref a335, .int 0, .ref a] _ _
          refine cm_42 (k := k) h344 hi_23_35 hR359 g339 (by omega) (by omega) (by omega) (by omega) (by decide) g342 fun S370 g371 g372 g373 g374 => ?_
          have h381 := li_fl g371 h344 (by omega)
          obtain ⟨h375, h376, h385, ⟨h380, h382⟩, h384⟩ := g371
          have h377 : nx S370 = nx S336 := h385 2 2 (by omega)
          have h378 : lv S370 = lv S336 := h385 2 3 (by omega)
          have h379 : wr S370 = wr S336 := h385 3 1 (by omega)
          have h386 := h385 5 1 (by omega)
          have h387 : kd aw S370 = kd aw S336 := kd_eq h377 h380
          have hk388 := h376.1 _ _ hk357
          have hfs389 : am_fs S370 k = some (5, [.ref a, .int sz, .int z122]) := by rw [g372]; exact hfs358
          have hR390 : am_rar S370 a335 = some z206.toNatClampNeg := by rw [g373]; exact g339
          have he391 : ∀ i : Nat, (i : Int) < sz.toInt → (am_rrf S370 a335 i).isSome = true := fun i hi_ => by rw [g374 i (by omega)]; exact he360 i hi_
          have hf392 : ∀ k', k' = 6 ∨ k' = 13 → ∀ q1 q2, am_fs S370 k' ≠ some (5, [.ref a335, q1, q2]) := by rw [g372]; exact g342
          show am_E _ _ _ _ [some (.ref a), some (.int z206), some (.long 1), some (.ref a335)] [] _ _
          refine am_e2 (v := a335) hi_23_38 rfl ?_
          refine am_e34 hi_23_39 ?_
          show am_E _ _ _ _ [some (.ref a), some (.int z206)] [.ref a335] _ _
          refine am_e34 hi_22_9 ?_
          show am_E _ _ _ _ [some (.ref k), some (.int z193), some (.int z194), some (.int z206)] [.ref a335, .ref k] _ _
          refine am_e9 hi_18_40 ?_
          refine cm_21l (k := k) (ed := .ref a335) (sz := sz) (mc := z122) h375 hl_k hi_18_41 hfs389 (by decide) rfl rfl ⟨by omega, by omega, Or.inr ⟨_, _, rfl, hR390, by omega, by omega, he391⟩⟩ (fun a' e k' hk' _ => by cases e; exact hf392 k' hk') (fun e => by have qk : iv S370 k 1 = sz.toInt := (by unfold iv; rw [hfs389]; rfl); obtain ⟨c0, -, q1, q2, q3⟩ := h375.cnt; subst e; omega) fun S393 g394 g395 g396 g397 g398 => ?_
          have h405 := li_fl g394 h375 (by omega)
          obtain ⟨h399, h400, h409, ⟨h404, h406⟩, h408⟩ := g394
          have h401 : nx S393 = nx S370 := h409 2 2 (by omega)
          have h402 : lv S393 = lv S370 := h409 2 3 (by omega)
          have h403 : wr S393 = wr S370 := h409 3 1 (by omega)
          have h410 := h409 5 1 (by omega)
          have h411 : kd aw S393 = kd aw S370 := kd_eq h401 h404
          have hk412 := h400.1 _ _ hk388
          have g395_ : iv S393 k 1 = sz.toInt := g395
          have hR413 : am_rar S393 a335 = some z206.toNatClampNeg := by rw [g397]; exact hR390
          have he414 : ∀ i : Nat, (i : Int) < sz.toInt → (am_rrf S393 a335 i).isSome = true := by rw [g398]; exact he391
          show am_E _ _ _ _ [some (.ref k), some (.int z193), some (.int z194), some (.int z206)] [.ref a335] _ _
          refine am_e34 hi_18_44 ?_
          show am_E _ _ _ _ [some (.ref k)] [.ref a335] _ _
          refine am_e34 hi_17_10 ?_
          show am_E _ _ _ _ [some (.ref k), some (.ref b), some (.ref a), some (.int sz)] [.ref a335] _ _
          refine am_e4 (ls' := [some (.ref k), some (.ref b), some (.ref a335), some (.int sz)]) hi_16_10 (Nat.le_of_ble_eq_true rfl) rfl ?_
          refine am_e2 (v := a335) hi_16_11 rfl ?_
          refine am_e1 (v := sz) hi_16_12 rfl ?_
          refine am_e2 (v := b) hi_16_13 rfl ?_
          refine cm_40b (k := k) h399 hi_16_14 hk412 hR413 (by omega) (by omega) fun S415 g416 g417 g418 g419 => ?_
          have h426 := li_fl g416 h399 (by omega)
          obtain ⟨h420, h421, h430, ⟨h425, h427⟩, h429⟩ := g416
          have h422 : nx S415 = nx S393 := h430 2 2 (by omega)
          have h423 : lv S415 = lv S393 := h430 2 3 (by omega)
          have h424 : wr S415 = wr S393 := h430 3 1 (by omega)
          have h431 := h430 5 1 (by omega)
          have h432 : kd aw S415 = kd aw S393 := kd_eq h422 h425
          have hk433 := h421.1 _ _ hk412
          have hfs435 : am_fs S415 k = some (5, [.ref a335, .int sz, .int z122]) := by rw [g417]; exact g396
          have hR436 : am_rar S415 a335 = some z206.toNatClampNeg := by rw [g418]; exact hR413
          have he434 : ∀ i : Nat, (i : Int) < sz.toInt + 1 → (am_rrf S415 a335 i).isSome = true := fun j hj => by have z := cl_toNat (i := sz); rw [g419]; split <;> first | rfl | exact he414 j (by omega)
          show am_E _ _ _ _ [some (.ref k), some (.ref b), some (.ref a335), some (.int sz)] [] _ _
          refine am_e2 (v := k) hi_16_15 rfl ?_
          refine am_e1 (v := sz) hi_16_16 rfl ?_
          refine am_e0 hi_16_17 ?_
          obtain ⟨z437, hz437, tz437⟩ := am_addI (x := sz) (y := 1) (m := sz.toInt) (n := (1 : Int)) rfl (by decide) (by omega) (by omega)
          refine am_e10 (z := z437) hi_16_18 hz437 ?_
          have he444 : ∀ i : Nat, (i : Int) < z437.toInt → (am_rrf S415 a335 i).isSome = true := fun i hi_ => he434 i (by omega)
          refine cm_21l (k := k) (ed := .ref a335) (sz := z437) (mc := z122) h420 hl_k hi_16_19 hfs435 (by decide) rfl rfl ⟨by omega, by omega, Or.inr ⟨_, _, rfl, hR436, by omega, by omega, he444⟩⟩ (fun a' e => by cases e; exact SH.dis h420 hl_k hfs435) (fun e => by have qk : iv S415 k 1 = sz.toInt := (by unfold iv; rw [hfs435]; rfl); obtain ⟨c0, -, q1, q2, q3⟩ := h420.cnt; subst e; omega) fun S438 g439 g440 g441 g442 g443 => ?_
          have h451 := li_fl g439 h420 (by omega)
          obtain ⟨h445, h446, h455, ⟨h450, h452⟩, h454⟩ := g439
          have h447 : nx S438 = nx S415 := h455 2 2 (by omega)
          have h448 : lv S438 = lv S415 := h455 2 3 (by omega)
          have h449 : wr S438 = wr S415 := h455 3 1 (by omega)
          have h456 := h455 5 1 (by omega)
          have h457 : kd aw S438 = kd aw S415 := kd_eq h447 h450
          have hk458 := h446.1 _ _ hk433
          have g440_ : iv S438 k 1 = z437.toInt := g440
          have hR459 : am_rar S438 a335 = some z206.toNatClampNeg := by rw [g442]; exact hR436
          have he460 : ∀ i : Nat, (i : Int) < z437.toInt → (am_rrf S438 a335 i).isSome = true := by rw [g443]; exact he444
          show am_E _ _ _ _ [some (.ref k), some (.ref b), some (.ref a335), some (.int sz)] [] _ _
          refine am_e35 hi_16_22 ?_
          show am_E _ _ _ _ [some (.ref k), some (.ref b)] [] _ _
          refine am_e0 hi_15_23 ?_
          refine am_e36 hi_15_24 (by decide) ?_
          exact ⟨1, rfl, (by decide), ⟨h445, (((((h130.trans h345).trans h376).trans h400).trans h421).trans h446), (fun j i hj => ((h455 j i hj).trans ((h430 j i hj).trans ((h409 j i hj).trans ((h385 j i hj).trans ((h354 j i hj).trans (h139 j i hj))))))), ⟨(h450.trans (h425.trans (h404.trans (h380.trans (h349.trans h134))))), (h452.trans (h427.trans (h406.trans (h382.trans (h351.trans h136)))))⟩, (by show EN S438 ≤ EN S + (1600); omega)⟩, (by show iv S438 k 1 = iv S k 1 + 1; omega)⟩
      · refine am_e12f hi_18_7 (am_cF (m := z194.toInt) (n := (0 : Int)) rfl (by decide) c195) ?_
        refine am_e2 (v := k) hi_18_10 rfl ?_
        refine am_e20 (v := .ref a) hi_18_11 g126 rfl ?_
        refine am_eg hi_18_14 (by decide) rfl ?_
        show am_E _ _ _ _ [some (.ref k), some (.int z193), some (.int z194), none] [.long 0, .ref a] _ _
        refine am_eg (pc' := 20) (ls' := [some (.ref k), some (.int z193), some (.int z194), none]) (st' := []) (S1 := S123) hi_18_17 (by decide) (by simp only [am_do, if_true]) ?_
        show am_E _ _ _ 20 [some (.ref k), some (.int z193), some (.int z194), none] [] _ _
        refine am_e1 (v := z194) hi_18_20 rfl ?_
        refine am_e1 (v := z193) hi_18_21 rfl ?_
        refine am_e1 (v := z194) hi_18_22 rfl ?_
        obtain ⟨z461, hz461, tz461⟩ := am_subI (x := z193) (y := z194) (m := z193.toInt) (n := z194.toInt) rfl rfl (by omega) (by omega)
        refine am_e10 (z := z461) hi_18_23 hz461 ?_
        refine am_e1 (v := z194) hi_18_24 rfl ?_
        refine am_e0 hi_18_25 ?_
        obtain ⟨z462, hz462, tz462a, tz462b⟩ := sh_1 (x := z194) (by omega)
        refine am_e10 (z := z462) hi_18_26 hz462 ?_
        refine am_e32w (as := [.int z194, .int z461, .int z462]) (la := [some (.int z194), some (.int z461), some (.int z462), none]) (rest := []) hi_18_27 (am_hd0 (M := 18) (by decide) 27) (Nat.le_of_ble_eq_true rfl) (Nat.le_of_ble_eq_true rfl) (show 3 ≤ am_P0.2.2.1 19 from by decide +kernel) rfl rfl rfl rfl ?_
        refine am_e1 (v := z194) hi_19_0 rfl ?_
        refine am_e1 (v := z461) hi_19_1 rfl ?_
        refine am_e1 (v := z462) hi_19_2 rfl ?_
        refine am_e32n (as := [.int z461, .int z462]) (la := [some (.int z461), some (.int z462)]) (rest := [.int z194]) hi_19_3 (am_hd0 (M := 19) (by decide) 3) (Nat.le_of_ble_eq_true rfl) (Nat.le_of_ble_eq_true rfl) (show 2 ≤ am_P0.2.2.1 20 from by decide +kernel) rfl rfl rfl rfl (ck_max (d := (d + 1)) h129   ) ?_
        rintro v463 S464 ⟨r465, rfl, rfl, h467, h468, h469⟩
        have h467_ : z461.toInt ≤ r465.toInt := h467
        have h468_ : z462.toInt ≤ r465.toInt := h468
        have h469_ : r465.toInt = z461.toInt ∨ r465.toInt = z462.toInt := h469
        show am_E _ _ _ _ [some (.int z194), some (.int z461), some (.int z462), none] [.int r465, .int z194] _ _
        obtain ⟨z471, hz471, tz471⟩ := am_addI (x := z194) (y := r465) (m := z194.toInt) (n := r465.toInt) rfl rfl (by omega) (by omega)
        refine am_e10 (z := z471) hi_19_6 hz471 ?_
        refine am_e3 (ls' := [some (.int z194), some (.int z461), some (.int z462), some (.int z471)]) hi_19_7 (Nat.le_of_ble_eq_true rfl) rfl ?_
        refine am_e0 hi_19_8 ?_
        refine am_e1 (v := z471) hi_19_9 rfl ?_
        refine am_e13f hi_19_10 (am_cF (m := (0 : Int)) (n := z471.toInt) (by decide) rfl (by simp only [am_cI]; omega)) ?_
        refine am_e1 (v := z471) hi_19_13 rfl ?_
        refine am_e0 hi_19_14 ?_
        refine am_e13f hi_19_16 (am_cF (m := z471.toInt) (n := (2147483639 : Int)) rfl (by decide) (by simp only [am_cI]; omega)) ?_
        refine am_e1 (v := z471) hi_19_19 rfl ?_
        refine am_e33 hi_19_20 ?_
        show am_E _ _ _ _ [some (.ref k), some (.int z193), some (.int z194), none] [.int z471] _ _
        refine am_e3 (ls' := [some (.ref k), some (.int z193), some (.int z194), some (.int z471)]) hi_18_30 (Nat.le_of_ble_eq_true rfl) rfl ?_
        refine am_e2 (v := k) hi_18_31 rfl ?_
        refine am_e2 (v := k) hi_18_32 rfl ?_
        refine am_e20 (v := .ref a) hi_18_33 g126 rfl ?_
        refine am_e1 (v := z471) hi_18_36 rfl ?_
        refine am_e32w (as := [.ref a, .int z471]) (la := [some (.ref a), some (.int z471)]) (rest := [.ref k]) hi_18_37 (am_hd0 (M := 18) (by decide) 37) (Nat.le_of_ble_eq_true rfl) (Nat.le_of_ble_eq_true rfl) (show 2 ≤ am_P0.2.2.1 22 from by decide +kernel) rfl rfl rfl rfl ?_
        refine am_e2 (v := a) hi_22_0 rfl ?_
        refine am_e1 (v := z471) hi_22_1 rfl ?_
        refine am_e2 (v := a) hi_22_2 rfl ?_
        refine am_eg (pc' := 6) (ls' := [some (.ref a), some (.int z471)]) (st' := [.long 1, .int z471, .ref a]) (S1 := S123) hi_22_3 (by decide) (by simp only [am_do, am_rar_ok hR143]; rw [if_pos ⟨by omega, Nat.le_of_ble_eq_true rfl⟩]) ?_
        show am_E _ _ _ _ [some (.ref a), some (.int z471)] [.long 1, .int z471, .ref a] _ _
        refine am_e32w (as := [.ref a, .int z471, .long 1]) (la := [some (.ref a), some (.int z471), some (.long 1), none]) (rest := []) hi_22_6 (am_hd0 (M := 22) (by decide) 6) (Nat.le_of_ble_eq_true rfl) (Nat.le_of_ble_eq_true rfl) (show 3 ≤ am_P0.2.2.1 23 from by decide +kernel) rfl rfl rfl rfl ?_
        refine am_e2l hi_23_0 rfl ?_
        refine am_eg hi_23_1 (by decide) rfl ?_
        show am_E _ _ _ _ [some (.ref a), some (.int z471), some (.long 1), none] [.long 1, .long 1] _ _
        refine am_eg (pc' := 6) (ls' := [some (.ref a), some (.int z471), some (.long 1), none]) (st' := []) (S1 := S123) hi_23_3 (by decide) (by simp only [am_do, if_true]) ?_
        refine am_e1 (v := z471) hi_23_6 rfl ?_
        refine cm_38 (k := k) h129 hi_23_7 (by omega) (by omega) fun a472 S473 g474 g475 g476 g477 g478 g479 => ?_
        have h480 := cl_toNat (i := z471)
        have h487 := li_fl g474 h129 (by omega)
        obtain ⟨h481, h482, h491, ⟨h486, h488⟩, h490⟩ := g474
        have h483 : nx S473 = nx S123 := h491 2 2 (by omega)
        have h484 : lv S473 = lv S123 := h491 2 3 (by omega)
        have h485 : wr S473 = wr S123 := h491 3 1 (by omega)
        have h492 := h491 5 1 (by omega)
        have h493 : kd aw S473 = kd aw S123 := kd_eq h483 h486
        have hk494 := h482.1 _ _ hk142
        have hfs495 : am_fs S473 k = some (5, [.ref a, .int sz, .int z122]) := by rw [g475]; exact g126
        have hR496 : am_rar S473 a = some n := g477 _ _ hR143
        have he497 : ∀ i : Nat, (i : Int) < sz.toInt → (am_rrf S473 a i).isSome = true := by rw [g478]; exact he144
        show am_E _ _ _ _ [some (.ref a), some (.int z471), some (.long 1), none] [.ref a472] _ _
        refine am_e18 hi_23_10 ?_
        refine am_e4 (ls' := [some (.ref a), some (.int z471), some (.long 1), some (.ref a472)]) hi_23_24 (Nat.le_of_ble_eq_true rfl) rfl ?_
        refine am_e2 (v := a) hi_23_25 rfl ?_
        refine am_e0 hi_23_26 ?_
        refine am_e2 (v := a472) hi_23_27 rfl ?_
        refine am_e0 hi_23_28 ?_
        refine am_e2 (v := a) hi_23_29 rfl ?_
        obtain ⟨z498, hz498, tz498⟩ := of_nat (n := n) (by omega)
        refine am_e24r hi_23_30 hR496 hz498 ?_
        refine am_e1 (v := z471) hi_23_31 rfl ?_
        refine am_e32n (as := [.int z498, .int z471]) (la := [some (.int z498), some (.int z471)]) (rest := [.int 0, .ref a472, .int 0, .ref a]) hi_23_32 (am_hd0 (M := 23) (by decide) 32) (Nat.le_of_ble_eq_true rfl) (Nat.le_of_ble_eq_true rfl) (show 2 ≤ am_P0.2.2.1 24 from by decide +kernel) rfl rfl rfl rfl (ck_min (d := d) h481   ) ?_
        rintro v499 S500 ⟨r501, rfl, rfl, h503, h504, h505⟩
        have h503_ : r501.toInt ≤ z498.toInt := h503
        have h504_ : r501.toInt ≤ z471.toInt := h504
        have h505_ : r501.toInt = z498.toInt ∨ r501.toInt = z471.toInt := h505
        show am_E _ _ _ _ [some (.ref a), some (.int z471), some (.long 1), some (.ref a472)] [.int r501, .int 0, .ref a472, .int 0, .ref a] _ _
        refine cm_42 (k := k) h481 hi_23_35 hR496 g476 (by omega) (by omega) (by omega) (by omega) (by decide) g479 fun S507 g508 g509 g510 g511 => ?_
        have h518 := li_fl g508 h481 (by omega)
        obtain ⟨h512, h513, h522, ⟨h517, h519⟩, h521⟩ := g508
        have h514 : nx S507 = nx S473 := h522 2 2 (by omega)
        have h515 : lv S507 = lv S473 := h522 2 3 (by omega)
        have h516 : wr S507 = wr S473 := h522 3 1 (by omega)
        have h523 := h522 5 1 (by omega)
        have h524 : kd aw S507 = kd aw S473 := kd_eq h514 h517
        have hk525 := h513.1 _ _ hk494
        have hfs526 : am_fs S507 k = some (5, [.ref a, .int sz, .int z122]) := by rw [g509]; exact hfs495
        have hR527 : am_rar S507 a472 = some z471.toNatClampNeg := by rw [g510]; exact g476
        have he528 : ∀ i : Nat, (i : Int) < sz.toInt → (am_rrf S507 a472 i).isSome = true := fun i hi_ => by rw [g511 i (by omega)]; exact he497 i hi_
        have hf529 : ∀ k', k' = 6 ∨ k' = 13 → ∀ q1 q2, am_fs S507 k' ≠ some (5, [.ref a472, q1, q2]) := by rw [g509]; exact g479
        show am_E _ _ _ _ [some (.ref a), some (.int z471), some (.long 1), some (.ref a472)] [] _ _
        refine am_e2 (v := a472) hi_23_38 rfl ?_
        refine am_e34 hi_23_39 ?_
        show am_E _ _ _ _ [some (.ref a), some (.int z471)] [.ref a472] _ _
        refine am_e34 hi_22_9 ?_
        show am_E _ _ _ _ [some (.ref k), some (.int z193), some (.int z194), some (.int z471)] [.ref a472, .ref k] _ _
        refine am_e9 hi_18_40 ?_
        refine cm_21l (k := k) (ed := .ref a472) (sz := sz) (mc := z122) h512 hl_k hi_18_41 hfs526 (by decide) rfl rfl ⟨by omega, by omega, Or.inr ⟨_, _, rfl, hR527, by omega, by omega, he528⟩⟩ (fun a' e k' hk' _ => by cases e; exact hf529 k' hk') (fun e => by have qk : iv S507 k 1 = sz.toInt := (by unfold iv; rw [hfs526]; rfl); obtain ⟨c0, -, q1, q2, q3⟩ := h512.cnt; subst e; omega) fun S530 g531 g532 g533 g534 g535 => ?_
        have h542 := li_fl g531 h512 (by omega)
        obtain ⟨h536, h537, h546, ⟨h541, h543⟩, h545⟩ := g531
        have h538 : nx S530 = nx S507 := h546 2 2 (by omega)
        have h539 : lv S530 = lv S507 := h546 2 3 (by omega)
        have h540 : wr S530 = wr S507 := h546 3 1 (by omega)
        have h547 := h546 5 1 (by omega)
        have h548 : kd aw S530 = kd aw S507 := kd_eq h538 h541
        have hk549 := h537.1 _ _ hk525
        have g532_ : iv S530 k 1 = sz.toInt := g532
        have hR550 : am_rar S530 a472 = some z471.toNatClampNeg := by rw [g534]; exact hR527
        have he551 : ∀ i : Nat, (i : Int) < sz.toInt → (am_rrf S530 a472 i).isSome = true := by rw [g535]; exact he528
        show am_E _ _ _ _ [some (.ref k), some (.int z193), some (.int z194), some (.int z471)] [.ref a472] _ _
        refine am_e34 hi_18_44 ?_
        show am_E _ _ _ _ [some (.ref k)] [.ref a472] _ _
        refine am_e34 hi_17_10 ?_
        show am_E _ _ _ _ [some (.ref k), some (.ref b), some (.ref a), some (.int sz)] [.ref a472] _ _
        refine am_e4 (ls' := [some (.ref k), some (.ref b), some (.ref a472), some (.int sz)]) hi_16_10 (Nat.le_of_ble_eq_true rfl) rfl ?_
        refine am_e2 (v := a472) hi_16_11 rfl ?_
        refine am_e1 (v := sz) hi_16_12 rfl ?_
        refine am_e2 (v := b) hi_16_13 rfl ?_
        refine cm_40b (k := k) h536 hi_16_14 hk549 hR550 (by omega) (by omega) fun S552 g553 g554 g555 g556 => ?_
        have h563 := li_fl g553 h536 (by omega)
        obtain ⟨h557, h558, h567, ⟨h562, h564⟩, h566⟩ := g553
        have h559 : nx S552 = nx S530 := h567 2 2 (by omega)
        have h560 : lv S552 = lv S530 := h567 2 3 (by omega)
        have h561 : wr S552 = wr S530 := h567 3 1 (by omega)
        have h568 := h567 5 1 (by omega)
        have h569 : kd aw S552 = kd aw S530 := kd_eq h559 h562
        have hk570 := h558.1 _ _ hk549
        have hfs572 : am_fs S552 k = some (5, [.ref a472, .int sz, .int z122]) := by rw [g554]; exact g533
        have hR573 : am_rar S552 a472 = some z471.toNatClampNeg := by rw [g555]; exact hR550
        have he571 : ∀ i : Nat, (i : Int) < sz.toInt + 1 → (am_rrf S552 a472 i).isSome = true := fun j hj => by have z := cl_toNat (i := sz); rw [g556]; split <;> first | rfl | exact he551 j (by omega)
        show am_E _ _ _ _ [some (.ref k), some (.ref b), some (.ref a472), some (.int sz)] [] _ _
        refine am_e2 (v := k) hi_16_15 rfl ?_
        refine am_e1 (v := sz) hi_16_16 rfl ?_
        refine am_e0 hi_16_17 ?_
        obtain ⟨z574, hz574, tz574⟩ := am_addI (x := sz) (y := 1) (m := sz.toInt) (n := (1 : Int)) rfl (by decide) (by omega) (by omega)
        refine am_e10 (z := z574) hi_16_18 hz574 ?_
        have he581 : ∀ i : Nat, (i : Int) < z574.toInt → (am_rrf S552 a472 i).isSome = true := fun i hi_ => he571 i (by omega)
        refine cm_21l (k := k) (ed := .ref a472) (sz := z574) (mc := z122) h557 hl_k hi_16_19 hfs572 (by decide) rfl rfl ⟨by omega, by omega, Or.inr ⟨_, _, rfl, hR573, by omega, by omega, he581⟩⟩ (fun a' e => by cases e; exact SH.dis h557 hl_k hfs572) (fun e => by have qk : iv S552 k 1 = sz.toInt := (by unfold iv; rw [hfs572]; rfl); obtain ⟨c0, -, q1, q2, q3⟩ := h557.cnt; subst e; omega) fun S575 g576 g577 g578 g579 g580 => ?_
        have h588 := li_fl g576 h557 (by omega)
        obtain ⟨h582, h583, h592, ⟨h587, h589⟩, h591⟩ := g576
        have h584 : nx S575 = nx S552 := h592 2 2 (by omega)
        have h585 : lv S575 = lv S552 := h592 2 3 (by omega)
        have h586 : wr S575 = wr S552 := h592 3 1 (by omega)
        have h593 := h592 5 1 (by omega)
        have h594 : kd aw S575 = kd aw S552 := kd_eq h584 h587
        have hk595 := h583.1 _ _ hk570
        have g577_ : iv S575 k 1 = z574.toInt := g577
        have hR596 : am_rar S575 a472 = some z471.toNatClampNeg := by rw [g579]; exact hR573
        have he597 : ∀ i : Nat, (i : Int) < z574.toInt → (am_rrf S575 a472 i).isSome = true := by rw [g580]; exact he581
        show am_E _ _ _ _ [some (.ref k), some (.ref b), some (.ref a472), some (.int sz)] [] _ _
        refine am_e35 hi_16_22 ?_
        show am_E _ _ _ _ [some (.ref k), some (.ref b)] [] _ _
        refine am_e0 hi_15_23 ?_
        refine am_e36 hi_15_24 (by decide) ?_
        exact ⟨1, rfl, (by decide), ⟨h582, (((((h130.trans h482).trans h513).trans h537).trans h558).trans h583), (fun j i hj => ((h592 j i hj).trans ((h567 j i hj).trans ((h546 j i hj).trans ((h522 j i hj).trans ((h491 j i hj).trans (h139 j i hj))))))), ⟨(h587.trans (h562.trans (h541.trans (h517.trans (h486.trans h134))))), (h589.trans (h564.trans (h543.trans (h519.trans (h488.trans h136)))))⟩, (by show EN S575 ≤ EN S + (1600); omega)⟩, (by show iv S575 k 1 = iv S k 1 + 1; omega)⟩
theorem ck_reset {sc : Nat × (Nat → Int32)} {d aw : Nat} {S : am_S} {b : Nat} {x : Int32} (h : SH aw S) (hc_b : cl (am_fs S) b = some 8) : am_E (am_PP sc) (d + 1) 29 0 [some (.ref b), some (.int x)] [] S (am_N fun v S1 => v = none ∧ Wk aw S S1 ∧ (iv S1 8 1 = iv S 8 1) ∧ (iv S1 10 1 = iv S 10 1) ∧ (iv S1 14 1 = iv S 14 1) ∧ (iv S1 5 1 = iv S 5 1) ∧ (iv S1 6 1 = iv S 6 1) ∧ (iv S1 13 1 = iv S 13 1) ∧ (EN S1 ≤ EN S + 0)) := by
  refine am_e2 (v := b) hi_29_0 rfl ?_
  refine am_e1 (v := x) hi_29_1 rfl ?_
  refine cm_21 (v := .int x) h hi_29_2 hc_b (by decide) (by decide) rfl ⟨_, rfl⟩ rfl fun S1 h2 => ?_
  obtain ⟨h3, h4, ⟨h5, h6, h7, h8⟩, ⟨h9, h10, h11⟩, h12, h13⟩ := h2
  have h14 : kd aw S1 = kd aw S := kd_eq h5 h8
  have h15 := h12 8 (h.1.s (8, 3) (by decide))
  have h16 := h12 10 (h.1.s (10, 3) (by decide))
  have h17 := h12 14 (h.1.s (14, 3) (by decide))
  have h18 := os_5 h9 1
  have h19 := os_6 h9 1
  have h20 := os_13 h9 1
  have hk21 := h4.1 _ _ hc_b
  refine am_e2 (v := b) hi_29_5 rfl ?_
  refine am_e0 hi_29_6 ?_
  refine cm_21 (v := .int (-1)) h3 hi_29_7 hk21 (by decide) (by decide) rfl ⟨_, rfl⟩ rfl fun S22 h23 => ?_
  obtain ⟨h24, h25, ⟨h26, h27, h28, h29⟩, ⟨h30, h31, h32⟩, h33, h34⟩ := h23
  have h35 : kd aw S22 = kd aw S1 := kd_eq h26 h29
  have h36 := h33 8 (h3.1.s (8, 3) (by decide))
  have h37 := h33 10 (h3.1.s (10, 3) (by decide))
  have h38 := h33 14 (h3.1.s (14, 3) (by decide))
  have h39 := os_5 h30 1
  have h40 := os_6 h30 1
  have h41 := os_13 h30 1
  have hk42 := h25.1 _ _ hk21
  refine am_e2 (v := b) hi_29_10 rfl ?_
  refine am_e0 hi_29_11 ?_
  refine cm_21 (v := .int (-1)) h24 hi_29_12 hk42 (by decide) (by decide) rfl ⟨_, rfl⟩ rfl fun S43 h44 => ?_
  obtain ⟨h45, h46, ⟨h47, h48, h49, h50⟩, ⟨h51, h52, h53⟩, h54, h55⟩ := h44
  have h56 : kd aw S43 = kd aw S22 := kd_eq h47 h50
  have h57 := h54 8 (h24.1.s (8, 3) (by decide))
  have h58 := h54 10 (h24.1.s (10, 3) (by decide))
  have h59 := h54 14 (h24.1.s (14, 3) (by decide))
  have h60 := os_5 h51 1
  have h61 := os_6 h51 1
  have h62 := os_13 h51 1
  have hk63 := h46.1 _ _ hk42
  refine am_e2 (v := b) hi_29_15 rfl ?_
  refine am_e0 hi_29_16 ?_
  refine cm_21 (v := .int 0) h45 hi_29_17 hk63 (by decide) (by decide) rfl ⟨_, rfl⟩ rfl fun S64 h65 => ?_
  obtain ⟨h66, h67, ⟨h68, h69, h70, h71⟩, ⟨h72, h73, h74⟩, h75, h76⟩ := h65
  have h77 : kd aw S64 = kd aw S43 := kd_eq h68 h71
  have h78 := h75 8 (h45.1.s (8, 3) (by decide))
  have h79 := h75 10 (h45.1.s (10, 3) (by decide))
  have h80 := h75 14 (h45.1.s (14, 3) (by decide))
  have h81 := os_5 h72 1
  have h82 := os_6 h72 1
  have h83 := os_13 h72 1
  have hk84 := h67.1 _ _ hk63
  refine am_e2 (v := b) hi_29_20 rfl ?_
  refine am_e0 hi_29_21 ?_
  refine cm_21 (v := .int 0) h66 hi_29_22 hk84 (by decide) (by decide) rfl ⟨_, rfl⟩ rfl fun S85 h86 => ?_
  obtain ⟨h87, h88, ⟨h89, h90, h91, h92⟩, ⟨h93, h94, h95⟩, h96, h97⟩ := h86
  have h98 : kd aw S85 = kd aw S64 := kd_eq h89 h92
  have h99 := h96 8 (h66.1.s (8, 3) (by decide))
  have h100 := h96 10 (h66.1.s (10, 3) (by decide))
  have h101 := h96 14 (h66.1.s (14, 3) (by decide))
  have h102 := os_5 h93 1
  have h103 := os_6 h93 1
  have h104 := os_13 h93 1
  have hk105 := h88.1 _ _ hk84
  refine am_e2 (v := b) hi_29_25 rfl ?_
  refine am_e0 hi_29_26 ?_
  refine cm_21 (v := .int 0) h87 hi_29_27 hk105 (by decide) (by decide) rfl ⟨_, rfl⟩ rfl fun S106 h107 => ?_
  obtain ⟨h108, h109, ⟨h110, h111, h112, h113⟩, ⟨h114, h115, h116⟩, h117, h118⟩ := h107
  have h119 : kd aw S106 = kd aw S85 := kd_eq h110 h113
  have h120 := h117 8 (h87.1.s (8, 3) (by decide))
  have h121 := h117 10 (h87.1.s (10, 3) (by decide))
  have h122 := h117 14 (h87.1.s (14, 3) (by decide))
  have h123 := os_5 h114 1
  have h124 := os_6 h114 1
  have h125 := os_13 h114 1
  have hk126 := h109.1 _ _ hk105
  refine am_e2 (v := b) hi_29_30 rfl ?_
  refine am_e0 hi_29_31 ?_
  refine cm_21 (v := .int 0) h108 hi_29_32 hk126 (by decide) (by decide) rfl ⟨_, rfl⟩ rfl fun S127 h128 => ?_
  obtain ⟨h129, h130, ⟨h131, h132, h133, h134⟩, ⟨h135, h136, h137⟩, h138, h139⟩ := h128
  have h140 : kd aw S127 = kd aw S106 := kd_eq h131 h134
  have h141 := h138 8 (h108.1.s (8, 3) (by decide))
  have h142 := h138 10 (h108.1.s (10, 3) (by decide))
  have h143 := h138 14 (h108.1.s (14, 3) (by decide))
  have h144 := os_5 h135 1
  have h145 := os_6 h135 1
  have h146 := os_13 h135 1
  have hk147 := h130.1 _ _ hk126
  refine am_e2 (v := b) hi_29_35 rfl ?_
  refine am_e0 hi_29_36 ?_
  refine cm_21n (t := 4) (v := .int 0) h129 hi_29_37 hk147 (by decide) rfl ⟨_, rfl, (by decide), (by decide)⟩ rfl fun S148 h149 => ?_
  obtain ⟨h150, h151, ⟨h152, h153, h154, h155⟩, h156, h158, h159⟩ := h149
  have h161 : kd aw S148 = kd aw S127 := kd_eq h152 h155
  have h162 := h158 8 (h129.1.s (8, 3) (by decide))
  have h163 := h158 10 (h129.1.s (10, 3) (by decide))
  have h164 := h158 14 (h129.1.s (14, 3) (by decide))
  have h165 := os_5 h156 1
  have h166 := os_6 h156 1
  have h167 := os_13 h156 1
  have hk168 := h151.1 _ _ hk147
  refine am_e2 (v := b) hi_29_40 rfl ?_
  refine am_e0 hi_29_41 ?_
  refine cm_21 (v := .int 0) h150 hi_29_42 hk168 (by decide) (by decide) rfl ⟨_, rfl⟩ rfl fun S169 h170 => ?_
  obtain ⟨h171, h172, ⟨h173, h174, h175, h176⟩, ⟨h177, h178, h179⟩, h180, h181⟩ := h170
  have h182 : kd aw S169 = kd aw S148 := kd_eq h173 h176
  have h183 := h180 8 (h150.1.s (8, 3) (by decide))
  have h184 := h180 10 (h150.1.s (10, 3) (by decide))
  have h185 := h180 14 (h150.1.s (14, 3) (by decide))
  have h186 := os_5 h177 1
  have h187 := os_6 h177 1
  have h188 := os_13 h177 1
  have hk189 := h172.1 _ _ hk168
  refine am_e2 (v := b) hi_29_45 rfl ?_
  refine am_e0 hi_29_46 ?_
  refine cm_21 (v := .int 0) h171 hi_29_47 hk189 (by decide) (by decide) rfl ⟨_, rfl⟩ rfl fun S190 h191 => ?_
  obtain ⟨h192, h193, ⟨h194, h195, h196, h197⟩, ⟨h198, h199, h200⟩, h201, h202⟩ := h191
  have h203 : kd aw S190 = kd aw S169 := kd_eq h194 h197
  have h204 := h201 8 (h171.1.s (8, 3) (by decide))
  have h205 := h201 10 (h171.1.s (10, 3) (by decide))
  have h206 := h201 14 (h171.1.s (14, 3) (by decide))
  have h207 := os_5 h198 1
  have h208 := os_6 h198 1
  have h209 := os_13 h198 1
  have hk210 := h193.1 _ _ hk189
  refine am_e2 (v := b) hi_29_50 rfl ?_
  refine am_e0 hi_29_51 ?_
  refine cm_21 (v := .int 0) h192 hi_29_52 hk210 (by decide) (by decide) rfl ⟨_, rfl⟩ rfl fun S211 h212 => ?_
  obtain ⟨h213, h214, ⟨h215, h216, h217, h218⟩, ⟨h219, h220, h221⟩, h222, h223⟩ := h212
  have h224 : kd aw S211 = kd aw S190 := kd_eq h215 h218
  have h225 := h222 8 (h192.1.s (8, 3) (by decide))
  have h226 := h222 10 (h192.1.s (10, 3) (by decide))
  have h227 := h222 14 (h192.1.s (14, 3) (by decide))
  have h228 := os_5 h219 1
  have h229 := os_6 h219 1
  have h230 := os_13 h219 1
  have hk231 := h214.1 _ _ hk210
  refine am_e2 (v := b) hi_29_55 rfl ?_
  refine cm_20t h213 hi_29_56 hk231 (by decide) rfl fun t232 ht232 ht232b => ?_
  refine am_e0 hi_29_59 ?_
  refine am_e32n (as := [.ref t232, .int 0]) (la := [some (.ref t232), some (.int 0)]) (rest := []) hi_29_60 (am_hd0 (M := 29) (by decide) 60) (Nat.le_of_ble_eq_true rfl) (Nat.le_of_ble_eq_true rfl) (show 2 ≤ am_P0.2.2.1 30 from by decide +kernel) rfl (cl_recv ht232) rfl rfl (ck_cut (d := d) h213 ht232 (bt_ne ht232b).1  ) ?_
  rintro v233 S234 ⟨rfl, h236, h237, h238, h239⟩
  have h237_ : (0 ≤ (0 : Int) ∧ (0 : Int) < iv S211 t232 1 ∧ iv S234 t232 1 = (0 : Int)) ∨ (((0 : Int) < 0 ∨ iv S211 t232 1 ≤ (0 : Int)) ∧ iv S234 t232 1 = iv S211 t232 1) := h237
  have h238_ : EN S234 ≤ EN S211 + c_w t232 * (iv S234 t232 1 - iv S211 t232 1) := h238
  have h239_ : ∀ j, cl (am_fs S211) j = some 3 → j ≠ t232 → iv S234 j 1 = iv S211 j 1 := h239
  obtain ⟨h241, h242, ⟨h243, h244, h245, h246⟩, ⟨h247, h248, h249⟩⟩ := h236
  have h252 : kd aw S234 = kd aw S211 := kd_eq h243 h246
  have h253 := os_5 h247 1
  have h254 := os_6 h247 1
  have h255 := os_13 h247 1
  have hk256 := h242.1 _ _ hk231
  have h257 := h239_ 8 (h213.1.s (8, 3) (by decide)) (by have := bt_ne ht232b; omega)
  have h258 := h239_ 10 (h213.1.s (10, 3) (by decide)) (by have := bt_ne ht232b; omega)
  have h259 := h239_ 14 (h213.1.s (14, 3) (by decide)) (by have := bt_ne ht232b; omega)
  have h260 : EN S234 ≤ EN S211 := by have q := h238_; rw [show c_w t232 = 0 from bt_w ht232b, Int.zero_mul] at q; omega
  show am_E _ _ _ _ [some (.ref b), some (.int x)] [] _ _
  refine am_e2 (v := b) hi_29_63 rfl ?_
  refine cm_20t h241 hi_29_64 hk256 (by decide) rfl fun t261 ht261 ht261b => ?_
  refine am_e0 hi_29_67 ?_
  refine am_e32n (as := [.ref t261, .int 0]) (la := [some (.ref t261), some (.int 0)]) (rest := []) hi_29_68 (am_hd0 (M := 29) (by decide) 68) (Nat.le_of_ble_eq_true rfl) (Nat.le_of_ble_eq_true rfl) (show 2 ≤ am_P0.2.2.1 30 from by decide +kernel) rfl (cl_recv ht261) rfl rfl (ck_cut (d := d) h241 ht261 (bt_ne ht261b).1  ) ?_
  rintro v262 S263 ⟨rfl, h265, h266, h267, h268⟩
  have h266_ : (0 ≤ (0 : Int) ∧ (0 : Int) < iv S234 t261 1 ∧ iv S263 t261 1 = (0 : Int)) ∨ (((0 : Int) < 0 ∨ iv S234 t261 1 ≤ (0 : Int)) ∧ iv S263 t261 1 = iv S234 t261 1) := h266
  have h267_ : EN S263 ≤ EN S234 + c_w t261 * (iv S263 t261 1 - iv S234 t261 1) := h267
  have h268_ : ∀ j, cl (am_fs S234) j = some 3 → j ≠ t261 → iv S263 j 1 = iv S234 j 1 := h268
  obtain ⟨h270, h271, ⟨h272, h273, h274, h275⟩, ⟨h276, h277, h278⟩⟩ := h265
  have h281 : kd aw S263 = kd aw S234 := kd_eq h272 h275
  have h282 := os_5 h276 1
  have h283 := os_6 h276 1
  have h284 := os_13 h276 1
  have hk285 := h271.1 _ _ hk256
  have h286 := h268_ 8 (h241.1.s (8, 3) (by decide)) (by have := bt_ne ht261b; omega)
  have h287 := h268_ 10 (h241.1.s (10, 3) (by decide)) (by have := bt_ne ht261b; omega)
  have h288 := h268_ 14 (h241.1.s (14, 3) (by decide)) (by have := bt_ne ht261b; omega)
  have h289 : EN S263 ≤ EN S234 := by have q := h267_; rw [show c_w t261 = 0 from bt_w ht261b, Int.zero_mul] at q; omega
  show am_E _ _ _ _ [some (.ref b), some (.int x)] [] _ _
  refine am_e35 hi_29_71 ?_
  exact ⟨rfl, ⟨h270, ((((((((((((h4.trans h25).trans h46).trans h67).trans h88).trans h109).trans h130).trans h151).trans h172).trans h193).trans h214).trans h242).trans h271), ⟨(by show nx S263 = nx S; omega), (by show lv S263 = lv S; omega), (by show wr S263 = wr S; omega), (h275.trans (h246.trans (h218.trans (h197.trans (h176.trans (h155.trans (h134.trans (h113.trans (h92.trans (h71.trans (h50.trans (h29.trans h8))))))))))))⟩⟩, (by show iv S263 8 1 = iv S 8 1; omega), (by show iv S263 10 1 = iv S 10 1; omega), (by show iv S263 14 1 = iv S 14 1; omega), (by show iv S263 5 1 = iv S 5 1; omega), (by show iv S263 6 1 = iv S 6 1; omega), (by show iv S263 13 1 = iv S 13 1; omega), (by show EN S263 ≤ EN S + 0; omega)⟩
theorem ck_badd {sc : Nat × (Nat → Int32)} {d aw : Nat} {S : am_S} (h : SH aw S) (p0 : iv S 5 1 ≤ 650) : am_E (am_PP sc) (d + 7) 13 0 [some (.ref 5), none] [] S (am_N fun v S1 => ∃ r : Nat, v = some (.ref r) ∧ cl (am_fs S1) r = some 8 ∧ Wk aw S S1 ∧ (iv S1 8 1 = iv S 8 1) ∧ (iv S1 10 1 = iv S 10 1) ∧ (iv S1 14 1 = iv S 14 1) ∧ (iv S1 13 1 = iv S 13 1) ∧ (iv S1 5 1 = iv S 5 1 + 1) ∧ (EN S1 ≤ EN S + 2400)) := by
  obtain ⟨c0, -, q1, q2, q3⟩ := h.cnt
  refine am_e2 (v := 5) hi_13_0 rfl ?_
  refine cm_20i h hi_13_1 (h.1.s (5, 4) (by decide)) (by decide) rfl fun v1 hv1 => ?_
  have hv1_ : v1.toInt = iv S 5 1 := hv1
  refine am_e2 (v := 5) hi_13_4 rfl ?_
  refine cm_20f (r := 6) h hi_13_5 (h.1.s (5, 4) (by decide)) (by decide) rfl ?_
  refine am_e32n (as := [.ref 6]) (la := [some (.ref 6)]) (rest := [.int v1]) hi_13_8 (am_hd0 (M := 13) (by decide) 8) (Nat.le_of_ble_eq_true rfl) (Nat.le_of_ble_eq_true rfl) (show 1 ≤ am_P0.2.2.1 14 from by decide +kernel) rfl (cl_recv (h.1.s (6, 5) (by decide))) rfl rfl (ck_lsize (d := (d + 6)) h (by decide) ) ?_
  rintro v2 S3 ⟨r4, rfl, rfl, h6, h7, h8⟩
  have h6_ : r4.toInt = iv S 6 1 := h6
  have h7_ : 0 ≤ r4.toInt := h7
  have h8_ : r4.toInt ≤ 100000 := h8
  show am_E _ _ _ _ [some (.ref 5), none] [.int r4, .int v1] _ _
  by_cases c10 : v1.toInt < r4.toInt
  · refine am_e13t hi_13_11 (am_cT (m := v1.toInt) (n := r4.toInt) rfl rfl c10) ?_
    refine am_e2 (v := 5) hi_13_29 rfl ?_
    refine cm_20f (r := 6) h hi_13_30 (h.1.s (5, 4) (by decide)) (by decide) rfl ?_
    refine am_e2 (v := 5) hi_13_33 rfl ?_
    refine cm_20i h hi_13_34 (h.1.s (5, 4) (by decide)) (by decide) rfl fun v11 hv11 => ?_
    have hv11_ : v11.toInt = iv S 5 1 := hv11
    refine am_e32n (as := [.ref 6, .int v11]) (la := [some (.ref 6), some (.int v11)]) (rest := []) hi_13_37 (am_hd0 (M := 13) (by decide) 37) (Nat.le_of_ble_eq_true rfl) (Nat.le_of_ble_eq_true rfl) (show 2 ≤ am_P0.2.2.1 25 from by decide +kernel) rfl (cl_recv (h.1.s (6, 5) (by decide))) rfl rfl (ck_lget (d := (d + 4)) h (by decide) (by show 0 ≤ v11.toInt; omega) (by show v11.toInt + 1 ≤ iv S 6 1; omega)) ?_
    rintro v12 S13 ⟨r14, rfl, hb16, rfl⟩
    show am_E _ _ _ _ [some (.ref 5), none] [.ref r14] _ _
    obtain ⟨f17, hf17⟩ := cl_of hb16
    refine am_e30 hi_13_40 hf17 ?_
    refine am_e4 (ls' := [some (.ref 5), some (.ref r14)]) hi_13_43 (Nat.le_of_ble_eq_true rfl) rfl ?_
    refine am_e2 (v := r14) hi_13_44 rfl ?_
    refine am_e2 (v := 5) hi_13_45 rfl ?_
    refine cm_20i h hi_13_46 (h.1.s (5, 4) (by decide)) (by decide) rfl fun v18 hv18 => ?_
    have hv18_ : v18.toInt = iv S 5 1 := hv18
    refine am_e32n (as := [.ref r14, .int v18]) (la := [some (.ref r14), some (.int v18)]) (rest := []) hi_13_49 (am_hd0 (M := 13) (by decide) 49) (Nat.le_of_ble_eq_true rfl) (Nat.le_of_ble_eq_true rfl) (show 2 ≤ am_P0.2.2.1 29 from by decide +kernel) rfl (cl_recv hb16) rfl rfl (ck_reset (d := (d + 5)) h hb16  ) ?_
    rintro v19 S20 ⟨rfl, h22, h23, h24, h25, h26, h27, h28, h29⟩
    have h23_ : iv S20 8 1 = iv S 8 1 := h23
    have h24_ : iv S20 10 1 = iv S 10 1 := h24
    have h25_ : iv S20 14 1 = iv S 14 1 := h25
    have h26_ : iv S20 5 1 = iv S 5 1 := h26
    have h27_ : iv S20 6 1 = iv S 6 1 := h27
    have h28_ : iv S20 13 1 = iv S 13 1 := h28
    have h29_ : EN S20 ≤ EN S + 0 := h29
    obtain ⟨h31, h32, ⟨h33, h34, h35, h36⟩⟩ := h22
    have h42 : kd aw S20 = kd aw S := kd_eq h33 h36
    have hk43 := h32.1 _ _ hb16
    show am_E _ _ _ _ [some (.ref 5), some (.ref r14)] [] _ _
    refine am_e2 (v := 5) hi_13_52 rfl ?_
    refine am_e7 hi_13_53 ?_
    refine cm_20i h31 hi_13_54 (h31.1.s (5, 4) (by decide)) (by decide) rfl fun v44 hv44 => ?_
    have hv44_ : v44.toInt = iv S20 5 1 := hv44
    refine am_e0 hi_13_57 ?_
    obtain ⟨z45, hz45, tz45⟩ := am_addI (x := v44) (y := 1) (m := v44.toInt) (n := (1 : Int)) rfl (by decide) (by omega) (by omega)
    refine am_e10 (z := z45) hi_13_58 hz45 ?_
    refine cm_21c h31 hi_13_59 rfl (by omega) (by omega) fun S46 h47 h48 => ?_
    have h55 := li_fl h47 h31 (by decide)
    obtain ⟨h49, h50, h59, ⟨h54, h56⟩, h58⟩ := h47
    have h51 : nx S46 = nx S20 := h59 2 2 (by decide)
    have h52 : lv S46 = lv S20 := h59 2 3 (by decide)
    have h53 : wr S46 = wr S20 := h59 3 1 (by decide)
    have h60 := h59 6 1 (by decide)
    have h61 := h59 13 1 (by decide)
    have h62 := h59 8 1 (by decide)
    have h63 := h59 10 1 (by decide)
    have h64 := h59 14 1 (by decide)
    have h65 : kd aw S46 = kd aw S20 := kd_eq h51 h54
    have hk66 := h50.1 _ _ hk43
    have h67 : iv S46 5 1 = z45.toInt := h48
    refine am_e2 (v := r14) hi_13_62 rfl ?_
    refine am_e34 hi_13_63 ?_
    exact ⟨r14, rfl, hk66, ⟨h49, (h32.trans h50), ⟨(by show nx S46 = nx S; omega), (by show lv S46 = lv S; omega), (by show wr S46 = wr S; omega), (h54.trans h36)⟩⟩, (by show iv S46 8 1 = iv S 8 1; omega), (by show iv S46 10 1 = iv S 10 1; omega), (by show iv S46 14 1 = iv S 14 1; omega), (by show iv S46 13 1 = iv S 13 1; omega), (by show iv S46 5 1 = iv S 5 1 + 1; omega), (by show EN S46 ≤ EN S + 2400; omega)⟩
  · refine am_e13f hi_13_11 (am_cF (m := v1.toInt) (n := r4.toInt) rfl rfl c10) ?_
    refine am_e2 (v := 5) hi_13_14 rfl ?_
    refine cm_20f (r := 6) h hi_13_15 (h.1.s (5, 4) (by decide)) (by decide) rfl ?_
    refine cm_nb (d := d + 4) h fun b68 S69 h70 h71 h72 => ?_
    have h79 := li_fl h70 h (by decide)
    obtain ⟨h73, h74, h83, ⟨h78, h80⟩, h82⟩ := h70
    have h75 : nx S69 = nx S := h83 2 2 (by decide)
    have h76 : lv S69 = lv S := h83 2 3 (by decide)
    have h77 : wr S69 = wr S := h83 3 1 (by decide)
    have h84 := h83 6 1 (by decide)
    have h85 := h83 13 1 (by decide)
    have h86 := h83 8 1 (by decide)
    have h87 := h83 10 1 (by decide)
    have h88 := h83 14 1 (by decide)
    have h89 : kd aw S69 = kd aw S := kd_eq h75 h78
    show am_E _ _ _ _ [some (.ref 5), none] [.ref b68, .ref 6] _ _
    refine am_e32n (as := [.ref 6, .ref b68]) (la := [some (.ref 6), some (.ref b68)]) (rest := []) hi_13_25 (am_hd0 (M := 13) (by decide) 25) (Nat.le_of_ble_eq_true rfl) (Nat.le_of_ble_eq_true rfl) (show 2 ≤ am_P0.2.2.1 15 from by decide +kernel) rfl (cl_recv (h73.1.s (6, 5) (by decide))) rfl rfl (ck_ladd (d := d) h73 h72 (by decide) (by show iv S69 6 1 ≤ 700; omega)) ?_
    rintro v90 S91 ⟨r92, rfl, hb95, h93, h94⟩
    have h94_ : iv S91 6 1 = iv S69 6 1 + 1 := h94
    have h102 := li_fl h93 h73 (by decide)
    obtain ⟨h96, h97, h106, ⟨h101, h103⟩, h105⟩ := h93
    have h98 : nx S91 = nx S69 := h106 2 2 (by decide)
    have h99 : lv S91 = lv S69 := h106 2 3 (by decide)
    have h100 : wr S91 = wr S69 := h106 3 1 (by decide)
    have h107 := h106 5 1 (by decide)
    have h108 := h106 13 1 (by decide)
    have h109 := h106 8 1 (by decide)
    have h110 := h106 10 1 (by decide)
    have h111 := h106 14 1 (by decide)
    have h112 : kd aw S91 = kd aw S69 := kd_eq h98 h101
    have hb95_ : r92.toInt = 0 ∨ r92.toInt = 1 := hb95.elim (fun e => Or.inl (by rw [e]; rfl)) (fun e => Or.inr (by rw [e]; rfl))
    show am_E _ _ _ _ [some (.ref 5), none] [.int r92] _ _
    refine am_e6i hi_13_28 ?_
    refine am_e2 (v := 5) hi_13_29 rfl ?_
    refine cm_20f (r := 6) h96 hi_13_30 (h96.1.s (5, 4) (by decide)) (by decide) rfl ?_
    refine am_e2 (v := 5) hi_13_33 rfl ?_
    refine cm_20i h96 hi_13_34 (h96.1.s (5, 4) (by decide)) (by decide) rfl fun v113 hv113 => ?_
    have hv113_ : v113.toInt = iv S91 5 1 := hv113
    refine am_e32n (as := [.ref 6, .int v113]) (la := [some (.ref 6), some (.int v113)]) (rest := []) hi_13_37 (am_hd0 (M := 13) (by decide) 37) (Nat.le_of_ble_eq_true rfl) (Nat.le_of_ble_eq_true rfl) (show 2 ≤ am_P0.2.2.1 25 from by decide +kernel) rfl (cl_recv (h96.1.s (6, 5) (by decide))) rfl rfl (ck_lget (d := (d + 4)) h96 (by decide) (by show 0 ≤ v113.toInt; omega) (by show v113.toInt + 1 ≤ iv S91 6 1; omega)) ?_
    rintro v114 S115 ⟨r116, rfl, hb118, rfl⟩
    show am_E _ _ _ _ [some (.ref 5), none] [.ref r116] _ _
    obtain ⟨f119, hf119⟩ := cl_of hb118
    refine am_e30 hi_13_40 hf119 ?_
    refine am_e4 (ls' := [some (.ref 5), some (.ref r116)]) hi_13_43 (Nat.le_of_ble_eq_true rfl) rfl ?_
    refine am_e2 (v := r116) hi_13_44 rfl ?_
    refine am_e2 (v := 5) hi_13_45 rfl ?_
    refine cm_20i h96 hi_13_46 (h96.1.s (5, 4) (by decide)) (by decide) rfl fun v120 hv120 => ?_
    have hv120_ : v120.toInt = iv S91 5 1 := hv120
    refine am_e32n (as := [.ref r116, .int v120]) (la := [some (.ref r116), some (.int v120)]) (rest := []) hi_13_49 (am_hd0 (M := 13) (by decide) 49) (Nat.le_of_ble_eq_true rfl) (Nat.le_of_ble_eq_true rfl) (show 2 ≤ am_P0.2.2.1 29 from by decide +kernel) rfl (cl_recv hb118) rfl rfl (ck_reset (d := (d + 5)) h96 hb118  ) ?_
    rintro v121 S122 ⟨rfl, h124, h125, h126, h127, h128, h129, h130, h131⟩
    have h125_ : iv S122 8 1 = iv S91 8 1 := h125
    have h126_ : iv S122 10 1 = iv S91 10 1 := h126
    have h127_ : iv S122 14 1 = iv S91 14 1 := h127
    have h128_ : iv S122 5 1 = iv S91 5 1 := h128
    have h129_ : iv S122 6 1 = iv S91 6 1 := h129
    have h130_ : iv S122 13 1 = iv S91 13 1 := h130
    have h131_ : EN S122 ≤ EN S91 + 0 := h131
    obtain ⟨h133, h134, ⟨h135, h136, h137, h138⟩⟩ := h124
    have h144 : kd aw S122 = kd aw S91 := kd_eq h135 h138
    have hk145 := h134.1 _ _ hb118
    show am_E _ _ _ _ [some (.ref 5), some (.ref r116)] [] _ _
    refine am_e2 (v := 5) hi_13_52 rfl ?_
    refine am_e7 hi_13_53 ?_
    refine cm_20i h133 hi_13_54 (h133.1.s (5, 4) (by decide)) (by decide) rfl fun v146 hv146 => ?_
    have hv146_ : v146.toInt = iv S122 5 1 := hv146
    refine am_e0 hi_13_57 ?_
    obtain ⟨z147, hz147, tz147⟩ := am_addI (x := v146) (y := 1) (m := v146.toInt) (n := (1 : Int)) rfl (by decide) (by omega) (by omega)
    refine am_e10 (z := z147) hi_13_58 hz147 ?_
    refine cm_21c h133 hi_13_59 rfl (by omega) (by omega) fun S148 h149 h150 => ?_
    have h157 := li_fl h149 h133 (by decide)
    obtain ⟨h151, h152, h161, ⟨h156, h158⟩, h160⟩ := h149
    have h153 : nx S148 = nx S122 := h161 2 2 (by decide)
    have h154 : lv S148 = lv S122 := h161 2 3 (by decide)
    have h155 : wr S148 = wr S122 := h161 3 1 (by decide)
    have h162 := h161 6 1 (by decide)
    have h163 := h161 13 1 (by decide)
    have h164 := h161 8 1 (by decide)
    have h165 := h161 10 1 (by decide)
    have h166 := h161 14 1 (by decide)
    have h167 : kd aw S148 = kd aw S122 := kd_eq h153 h156
    have hk168 := h152.1 _ _ hk145
    have h169 : iv S148 5 1 = z147.toInt := h150
    refine am_e2 (v := r116) hi_13_62 rfl ?_
    refine am_e34 hi_13_63 ?_
    exact ⟨r116, rfl, hk168, ⟨h151, (((h74.trans h97).trans h134).trans h152), ⟨(by show nx S148 = nx S; omega), (by show lv S148 = lv S; omega), (by show wr S148 = wr S; omega), (h156.trans (h138.trans (h101.trans h78)))⟩⟩, (by show iv S148 8 1 = iv S 8 1; omega), (by show iv S148 10 1 = iv S 10 1; omega), (by show iv S148 14 1 = iv S 14 1; omega), (by show iv S148 13 1 = iv S 13 1; omega), (by show iv S148 5 1 = iv S 5 1 + 1; omega), (by show EN S148 ≤ EN S + 2400; omega)⟩
theorem ck_bclear {sc : Nat × (Nat → Int32)} {d aw : Nat} {S : am_S} (h : SH aw S) : am_E (am_PP sc) (d + 0) 40 0 [some (.ref 5)] [] S (am_N fun v S1 => v = none ∧ Li aw 5 (0) S S1 ∧ (iv S1 5 1 = 0)) := by
  obtain ⟨c0, -, q1, q2, q3⟩ := h.cnt
  refine am_e2 (v := 5) hi_40_0 rfl ?_
  refine am_e0 hi_40_1 ?_
  refine cm_21c h hi_40_2 rfl (by decide) (by have z0 : (0 : Int32).toInt = 0 := rfl; omega) fun S1 h2 h3 => ?_
  have h10 := li_fl h2 h (by decide)
  obtain ⟨h4, h5, h14, ⟨h9, h11⟩, h13⟩ := h2
  have h6 : nx S1 = nx S := h14 2 2 (by decide)
  have h7 : lv S1 = lv S := h14 2 3 (by decide)
  have h8 : wr S1 = wr S := h14 3 1 (by decide)
  have h15 := h14 6 1 (by decide)
  have h16 := h14 13 1 (by decide)
  have h17 : kd aw S1 = kd aw S := kd_eq h6 h9
  have h18 : iv S1 5 1 = (0 : Int) := h3
  refine am_e35 hi_40_5 ?_
  exact ⟨rfl, ⟨h4, h5, (fun j i hj => (h14 j i hj)), ⟨h9, h11⟩, (by show EN S1 ≤ EN S + (0); omega)⟩, (by show iv S1 5 1 = 0; omega)⟩
theorem ck_bcount {sc : Nat × (Nat → Int32)} {d aw : Nat} {S : am_S} (h : SH aw S) : am_E (am_PP sc) (d + 0) 155 0 [some (.ref 5)] [] S (am_N fun v S1 => ∃ r : Int32, v = some (.int r) ∧ S = S1 ∧ (r.toInt = iv S 5 1)) := by
  refine am_e2 (v := 5) hi_155_0 rfl ?_
  refine cm_20i h hi_155_1 (h.1.s (5, 4) (by decide)) (by decide) rfl fun v1 hv1 => ?_
  have hv1_ : v1.toInt = iv S 5 1 := hv1
  refine am_e33 hi_155_4 ?_
  exact ⟨v1, rfl, rfl, (by show v1.toInt = iv S 5 1; omega)⟩
theorem ck_lremove {sc : Nat × (Nat → Int32)} {d aw : Nat} {S : am_S} {i : Int32} (h : SH aw S) (p0 : iv S 13 1 = i.toInt + 1) (p1 : 0 ≤ i.toInt) : am_E (am_PP sc) (d + 2) 89 0 [some (.ref 13), some (.int i), none, none] [] S (am_N fun v S1 => ∃ r : Nat, v = some (.ref r) ∧ cl (am_fs S1) r = some 8 ∧ Li aw 13 (0) S S1 ∧ (iv S1 13 1 = i.toInt)) := by
  obtain ⟨ed, sz, mc, hfs, b6, b0, b1, hed⟩ := SH.lst (k := 13) h (by decide)
  rcases hed with ⟨hed, b7⟩ | ⟨a, n, hed, hR, b2, b3, b4⟩
  · subst hed
    exfalso; omega
  · subst hed
    refine am_e1 (v := i) hi_89_0 rfl ?_
    refine am_e2 (v := 13) hi_89_1 rfl ?_
    refine am_e20 (v := .int sz) hi_89_2 hfs rfl ?_
    refine am_e32w (as := [.int i, .int sz]) (la := [some (.int i), some (.int sz)]) (rest := []) hi_89_5 (am_hd0 (M := 89) (by decide) 5) (Nat.le_of_ble_eq_true rfl) (Nat.le_of_ble_eq_true rfl) (show 2 ≤ am_P0.2.2.1 26 from by decide +kernel) rfl rfl rfl rfl ?_
    refine am_e1 (v := i) hi_26_0 rfl ?_
    refine am_e1 (v := sz) hi_26_1 rfl ?_
    refine am_e29 hi_26_2 ?_
    refine am_e32w (as := [.int i, .int sz, .null]) (la := [some (.int i), some (.int sz), some .null]) (rest := []) hi_26_3 (am_hd0 (M := 26) (by decide) 3) (Nat.le_of_ble_eq_true rfl) (Nat.le_of_ble_eq_true rfl) (show 3 ≤ am_P0.2.2.1 27 from by decide +kernel) rfl rfl rfl rfl ?_
    refine am_e1 (v := i) hi_27_0 rfl ?_
    refine am_e12f hi_27_1 (am_cF (m := i.toInt) (n := (0 : Int)) rfl (by decide) (by simp only [am_cI]; omega)) ?_
    refine am_e1 (v := i) hi_27_4 rfl ?_
    refine am_e1 (v := sz) hi_27_5 rfl ?_
    refine am_e13t hi_27_6 (am_cT (m := i.toInt) (n := sz.toInt) rfl rfl (by simp only [am_cI]; omega)) ?_
    refine am_e1 (v := i) hi_27_16 rfl ?_
    refine am_e33 hi_27_17 ?_
    show am_E _ _ _ _ [some (.int i), some (.int sz)] [.int i] _ _
    refine am_e33 hi_26_6 ?_
    show am_E _ _ _ _ [some (.ref 13), some (.int i), none, none] [.int i] _ _
    refine am_e6i hi_89_8 ?_
    refine am_e2 (v := 13) hi_89_9 rfl ?_
    refine am_e20 (v := .ref a) hi_89_10 hfs rfl ?_
    refine am_e4 (ls' := [some (.ref 13), some (.int i), some (.ref a), none]) hi_89_13 (Nat.le_of_ble_eq_true rfl) rfl ?_
    refine am_e2 (v := a) hi_89_14 rfl ?_
    refine am_e1 (v := i) hi_89_15 rfl ?_
    have h2 := cl_toNat (i := i)
    refine am_e39b h hi_89_16 hR (by omega) (by omega) (b4 _ (by omega)) fun b1 hb1 => ?_
    refine am_e4 (ls' := [some (.ref 13), some (.int i), some (.ref a), some (.ref b1)]) hi_89_17 (Nat.le_of_ble_eq_true rfl) rfl ?_
    refine am_e2 (v := 13) hi_89_18 rfl ?_
    refine am_e2 (v := a) hi_89_19 rfl ?_
    refine am_e1 (v := i) hi_89_20 rfl ?_
    refine am_e32w (as := [.ref 13, .ref a, .int i]) (la := [some (.ref 13), some (.ref a), some (.int i), none]) (rest := []) hi_89_21 (am_hd0 (M := 89) (by decide) 21) (Nat.le_of_ble_eq_true rfl) (Nat.le_of_ble_eq_true rfl) (show 3 ≤ am_P0.2.2.1 90 from by decide +kernel) rfl (cl_recv (h.1.s (13, 5) (by decide))) rfl rfl ?_
    refine am_e2 (v := 13) hi_90_0 rfl ?_
    refine am_e7 hi_90_1 ?_
    refine am_e20 (v := .int mc) hi_90_2 hfs rfl ?_
    refine am_e0 hi_90_5 ?_
    obtain ⟨z3, hz3⟩ : ∃ q__, am_bin 0 mc 1 = q__ := ⟨_, rfl⟩
    refine am_e10 (z := z3) hi_90_6 hz3 ?_
    refine cm_21l (k := 13) (ed := .ref a) (sz := sz) (mc := z3) h (by decide) hi_90_7 hfs (by decide) rfl rfl ⟨by omega, by omega, Or.inr ⟨_, _, rfl, hR, by omega, by omega, b4⟩⟩ (fun a' e => by cases e; exact SH.dis h (by decide) hfs) (fun e => absurd e (by decide)) fun S4 g5 g6 g7 g8 g9 => ?_
    have h16 := li_fl g5 h (by decide)
    obtain ⟨h10, h11, h20, ⟨h15, h17⟩, h19⟩ := g5
    have h12 : nx S4 = nx S := h20 2 2 (by decide)
    have h13 : lv S4 = lv S := h20 2 3 (by decide)
    have h14 : wr S4 = wr S := h20 3 1 (by decide)
    have h21 := h20 5 1 (by decide)
    have h22 := h20 6 1 (by decide)
    have h23 : kd aw S4 = kd aw S := kd_eq h12 h15
    have hk24 := h11.1 _ _ hb1
    have g6_ : iv S4 13 1 = sz.toInt := g6
    have hR25 : am_rar S4 a = some n := by rw [g8]; exact hR
    have he26 : ∀ i : Nat, (i : Int) < sz.toInt → (am_rrf S4 a i).isSome = true := by rw [g9]; exact b4
    show am_E _ _ _ _ [some (.ref 13), some (.ref a), some (.int i), none] [] _ _
    refine am_e2 (v := 13) hi_90_10 rfl ?_
    refine am_e20 (v := .int sz) hi_90_11 g7 rfl ?_
    refine am_e0 hi_90_14 ?_
    obtain ⟨z27, hz27, tz27⟩ := am_subI (x := sz) (y := 1) (m := sz.toInt) (n := (1 : Int)) rfl (by decide) (by omega) (by omega)
    refine am_e10 (z := z27) hi_90_15 hz27 ?_
    refine am_e7i hi_90_16 ?_
    refine am_e3 (ls' := [some (.ref 13), some (.ref a), some (.int i), some (.int z27)]) hi_90_17 (Nat.le_of_ble_eq_true rfl) rfl ?_
    refine am_e1 (v := i) hi_90_18 rfl ?_
    refine am_e13t hi_90_19 (am_cT (m := z27.toInt) (n := i.toInt) rfl rfl (by simp only [am_cI]; omega)) ?_
    refine am_e2 (v := a) hi_90_34 rfl ?_
    refine am_e2 (v := 13) hi_90_35 rfl ?_
    refine am_e1 (v := z27) hi_90_36 rfl ?_
    refine am_e9 hi_90_37 ?_
    have he34 : ∀ i : Nat, (i : Int) < z27.toInt → (am_rrf S4 a i).isSome = true := fun i hi_ => he26 i (by omega)
    refine cm_21l (k := 13) (ed := .ref a) (sz := z27) (mc := z3) h10 (by decide) hi_90_38 g7 (by decide) rfl rfl ⟨by omega, by omega, Or.inr ⟨_, _, rfl, hR25, by omega, by omega, he34⟩⟩ (fun a' e => by cases e; exact SH.dis h10 (by decide) g7) (fun e => absurd e (by decide)) fun S28 g29 g30 g31 g32 g33 => ?_
    have h41 := li_fl g29 h10 (by decide)
    obtain ⟨h35, h36, h45, ⟨h40, h42⟩, h44⟩ := g29
    have h37 : nx S28 = nx S4 := h45 2 2 (by decide)
    have h38 : lv S28 = lv S4 := h45 2 3 (by decide)
    have h39 : wr S28 = wr S4 := h45 3 1 (by decide)
    have h46 := h45 5 1 (by decide)
    have h47 := h45 6 1 (by decide)
    have h48 : kd aw S28 = kd aw S4 := kd_eq h37 h40
    have hk49 := h36.1 _ _ hk24
    have g30_ : iv S28 13 1 = z27.toInt := g30
    have hR50 : am_rar S28 a = some n := by rw [g32]; exact hR25
    have he51 : ∀ i : Nat, (i : Int) < z27.toInt → (am_rrf S28 a i).isSome = true := by rw [g33]; exact he34
    show am_E _ _ _ _ [some (.ref 13), some (.ref a), some (.int i), some (.int z27)] [.int z27, .ref a] _ _
    refine am_e29 hi_90_41 ?_
    refine cm_40n (k := 13) h35 hi_90_42 hR50 (by omega) (by omega) (fun k' hk' sz' mc' e => by
        by_cases e2 : k' = 13
        · subst e2; rw [g31] at e; cases e; omega
        · exact absurd e (SH.dis h35 (by decide) g31 k' hk' e2 _ _)) fun S52 g53 g54 g55 => ?_
    have h62 := li_fl g53 h35 (by decide)
    obtain ⟨h56, h57, h66, ⟨h61, h63⟩, h65⟩ := g53
    have h58 : nx S52 = nx S28 := h66 2 2 (by decide)
    have h59 : lv S52 = lv S28 := h66 2 3 (by decide)
    have h60 : wr S52 = wr S28 := h66 3 1 (by decide)
    have h67 := h66 5 1 (by decide)
    have h68 := h66 6 1 (by decide)
    have h69 : kd aw S52 = kd aw S28 := kd_eq h58 h61
    have hk70 := h57.1 _ _ hk49
    have h71 : iv S52 13 1 = z27.toInt := by unfold iv; rw [g54, g31]; rfl
    show am_E _ _ _ _ [some (.ref 13), some (.ref a), some (.int i), some (.int z27)] [] _ _
    refine am_e35 hi_90_43 ?_
    show am_E _ _ _ _ [some (.ref 13), some (.int i), some (.ref a), some (.ref b1)] [] _ _
    refine am_e2 (v := b1) hi_89_24 rfl ?_
    refine am_e34 hi_89_25 ?_
    exact ⟨b1, rfl, hk70, ⟨h56, ((h11.trans h36).trans h57), (fun j i hj => ((h66 j i hj).trans ((h45 j i hj).trans (h20 j i hj)))), ⟨(h61.trans (h40.trans h15)), (h63.trans (h42.trans h17))⟩, (by show EN S52 ≤ EN S + (0); omega)⟩, (by show iv S52 13 1 = i.toInt; omega)⟩
theorem ck_lclear {sc : Nat × (Nat → Int32)} {d aw : Nat} {S : am_S} (h : SH aw S) : am_E (am_PP sc) (d + 0) 45 0 [some (.ref 13), none, none, none] [] S (am_N fun v S1 => v = none ∧ Li aw 13 (0) S S1 ∧ (iv S1 13 1 = 0)) := by
  obtain ⟨ed, sz, mc, hfs, b6, b0, b1, hed⟩ := SH.lst (k := 13) h (by decide)
  rcases hed with ⟨hed, b7⟩ | ⟨a, n, hed, hR, b2, b3, b4⟩
  · subst hed
    refine am_e2 (v := 13) hi_45_0 rfl ?_
    refine am_e7 hi_45_1 ?_
    refine am_e20 (v := .int mc) hi_45_2 hfs rfl ?_
    refine am_e0 hi_45_5 ?_
    obtain ⟨z1, hz1⟩ : ∃ q__, am_bin 0 mc 1 = q__ := ⟨_, rfl⟩
    refine am_e10 (z := z1) hi_45_6 hz1 ?_
    refine cm_21l (k := 13) (ed := .long 0) (sz := sz) (mc := z1) h (by decide) hi_45_7 hfs (by decide) rfl rfl ⟨by omega, by omega, Or.inl ⟨rfl, by omega⟩⟩ (fun _ e => nomatch e) (fun e => absurd e (by decide)) fun S2 g3 g4 g5 g6 g7 => ?_
    have h14 := li_fl g3 h (by decide)
    obtain ⟨h8, h9, h18, ⟨h13, h15⟩, h17⟩ := g3
    have h10 : nx S2 = nx S := h18 2 2 (by decide)
    have h11 : lv S2 = lv S := h18 2 3 (by decide)
    have h12 : wr S2 = wr S := h18 3 1 (by decide)
    have h19 := h18 5 1 (by decide)
    have h20 := h18 6 1 (by decide)
    have h21 : kd aw S2 = kd aw S := kd_eq h10 h13
    have g4_ : iv S2 13 1 = sz.toInt := g4
    show am_E _ _ _ _ [some (.ref 13), none, none, none] [] _ _
    refine am_e2 (v := 13) hi_45_10 rfl ?_
    refine am_e20 (v := .long 0) hi_45_11 g5 rfl ?_
    refine am_eg (pc' := 15) (ls' := [some (.ref 13), some (.long 0), none, none]) (st' := []) (S1 := S2) hi_45_14 (by decide) rfl ?_
    refine am_e2 (v := 13) hi_45_15 rfl ?_
    refine am_e20 (v := .int sz) hi_45_16 g5 rfl ?_
    refine am_e3 (ls' := [some (.ref 13), some (.long 0), some (.int sz), none]) hi_45_19 (Nat.le_of_ble_eq_true rfl) rfl ?_
    refine am_e2 (v := 13) hi_45_20 rfl ?_
    refine am_e0 hi_45_21 ?_
    refine am_e9 hi_45_22 ?_
    refine cm_21l (k := 13) (ed := .long 0) (sz := 0) (mc := z1) h8 (by decide) hi_45_23 g5 (by decide) rfl rfl ⟨by have z0 : (0 : Int32).toInt = 0 := rfl; omega, by have z0 : (0 : Int32).toInt = 0 := rfl; omega, Or.inl ⟨rfl, by have z0 : (0 : Int32).toInt = 0 := rfl; omega⟩⟩ (fun _ e => nomatch e) (fun e => absurd e (by decide)) fun S22 g23 g24 g25 g26 g27 => ?_
    have h34 := li_fl g23 h8 (by decide)
    obtain ⟨h28, h29, h38, ⟨h33, h35⟩, h37⟩ := g23
    have h30 : nx S22 = nx S2 := h38 2 2 (by decide)
    have h31 : lv S22 = lv S2 := h38 2 3 (by decide)
    have h32 : wr S22 = wr S2 := h38 3 1 (by decide)
    have h39 := h38 5 1 (by decide)
    have h40 := h38 6 1 (by decide)
    have h41 : kd aw S22 = kd aw S2 := kd_eq h30 h33
    have g24_ : iv S22 13 1 = (0 : Int) := g24
    show am_E _ _ _ _ [some (.ref 13), some (.long 0), some (.int sz), none] [.int 0] _ _
    refine am_e3 (ls' := [some (.ref 13), some (.long 0), some (.int sz), some (.int 0)]) hi_45_26 (Nat.le_of_ble_eq_true rfl) rfl ?_
    refine am_e1 (v := 0) hi_45_27 rfl ?_
    refine am_e1 (v := sz) hi_45_28 rfl ?_
    refine am_e13t hi_45_29 (am_cT (m := (0 : Int)) (n := sz.toInt) (by decide) rfl (by simp only [am_cI]; omega)) ?_
    refine am_e35 hi_45_42 ?_
    exact ⟨rfl, ⟨h28, (h9.trans h29), (fun j i hj => ((h38 j i hj).trans (h18 j i hj))), ⟨(h33.trans h13), (h35.trans h15)⟩, (by show EN S22 ≤ EN S + (0); omega)⟩, (by show iv S22 13 1 = 0; omega)⟩
  · subst hed
    refine am_e2 (v := 13) hi_45_0 rfl ?_
    refine am_e7 hi_45_1 ?_
    refine am_e20 (v := .int mc) hi_45_2 hfs rfl ?_
    refine am_e0 hi_45_5 ?_
    obtain ⟨z42, hz42⟩ : ∃ q__, am_bin 0 mc 1 = q__ := ⟨_, rfl⟩
    refine am_e10 (z := z42) hi_45_6 hz42 ?_
    refine cm_21l (k := 13) (ed := .ref a) (sz := sz) (mc := z42) h (by decide) hi_45_7 hfs (by decide) rfl rfl ⟨by omega, by omega, Or.inr ⟨_, _, rfl, hR, by omega, by omega, b4⟩⟩ (fun a' e => by cases e; exact SH.dis h (by decide) hfs) (fun e => absurd e (by decide)) fun S43 g44 g45 g46 g47 g48 => ?_
    have h55 := li_fl g44 h (by decide)
    obtain ⟨h49, h50, h59, ⟨h54, h56⟩, h58⟩ := g44
    have h51 : nx S43 = nx S := h59 2 2 (by decide)
    have h52 : lv S43 = lv S := h59 2 3 (by decide)
    have h53 : wr S43 = wr S := h59 3 1 (by decide)
    have h60 := h59 5 1 (by decide)
    have h61 := h59 6 1 (by decide)
    have h62 : kd aw S43 = kd aw S := kd_eq h51 h54
    have g45_ : iv S43 13 1 = sz.toInt := g45
    have hR63 : am_rar S43 a = some n := by rw [g47]; exact hR
    have he64 : ∀ i : Nat, (i : Int) < sz.toInt → (am_rrf S43 a i).isSome = true := by rw [g48]; exact b4
    show am_E _ _ _ _ [some (.ref 13), none, none, none] [] _ _
    refine am_e2 (v := 13) hi_45_10 rfl ?_
    refine am_e20 (v := .ref a) hi_45_11 g46 rfl ?_
    refine am_e4 (ls' := [some (.ref 13), some (.ref a), none, none]) hi_45_14 (Nat.le_of_ble_eq_true rfl) rfl ?_
    refine am_e2 (v := 13) hi_45_15 rfl ?_
    refine am_e20 (v := .int sz) hi_45_16 g46 rfl ?_
    refine am_e3 (ls' := [some (.ref 13), some (.ref a), some (.int sz), none]) hi_45_19 (Nat.le_of_ble_eq_true rfl) rfl ?_
    refine am_e2 (v := 13) hi_45_20 rfl ?_
    refine am_e0 hi_45_21 ?_
    refine am_e9 hi_45_22 ?_
    have he71 : ∀ i : Nat, (i : Int) < (0 : Int32).toInt → (am_rrf S43 a i).isSome = true := fun i hi_ => absurd hi_ (by have z0 : (0 : Int32).toInt = 0 := rfl; omega)
    refine cm_21l (k := 13) (ed := .ref a) (sz := 0) (mc := z42) h49 (by decide) hi_45_23 g46 (by decide) rfl rfl ⟨by have z0 : (0 : Int32).toInt = 0 := rfl; omega, by have z0 : (0 : Int32).toInt = 0 := rfl; omega, Or.inr ⟨_, _, rfl, hR63, by have z0 : (0 : Int32).toInt = 0 := rfl; omega, by omega, he71⟩⟩ (fun a' e => by cases e; exact SH.dis h49 (by decide) g46) (fun e => absurd e (by decide)) fun S65 g66 g67 g68 g69 g70 => ?_
    have h78 := li_fl g66 h49 (by decide)
    obtain ⟨h72, h73, h82, ⟨h77, h79⟩, h81⟩ := g66
    have h74 : nx S65 = nx S43 := h82 2 2 (by decide)
    have h75 : lv S65 = lv S43 := h82 2 3 (by decide)
    have h76 : wr S65 = wr S43 := h82 3 1 (by decide)
    have h83 := h82 5 1 (by decide)
    have h84 := h82 6 1 (by decide)
    have h85 : kd aw S65 = kd aw S43 := kd_eq h74 h77
    have g67_ : iv S65 13 1 = (0 : Int) := g67
    have hR86 : am_rar S65 a = some n := by rw [g69]; exact hR63
    have he87 : ∀ i : Nat, (i : Int) < (0 : Int32).toInt → (am_rrf S65 a i).isSome = true := by rw [g70]; exact he71
    show am_E _ _ _ _ [some (.ref 13), some (.ref a), some (.int sz), none] [.int 0] _ _
    refine am_e3 (ls' := [some (.ref 13), some (.ref a), some (.int sz), some (.int 0)]) hi_45_26 (Nat.le_of_ble_eq_true rfl) rfl ?_
    refine cf_lclear (to := sz) (by omega) (sz.toInt.toNat + 1) _ 0 h72 g68 hR86 (by decide) (by show sz.toInt - 0 < _; omega) fun S88 i91 g89 g90 => ?_
    have h98 := li_fl g89 h72 (by decide)
    obtain ⟨h92, h93, h102, ⟨h97, h99⟩, h101⟩ := g89
    have h94 : nx S88 = nx S65 := h102 2 2 (by decide)
    have h95 : lv S88 = lv S65 := h102 2 3 (by decide)
    have h96 : wr S88 = wr S65 := h102 3 1 (by decide)
    have h103 := h102 5 1 (by decide)
    have h104 := h102 6 1 (by decide)
    have h105 : kd aw S88 = kd aw S65 := kd_eq h94 h97
    show am_E _ _ _ _ [some (.ref 13), some (.ref a), some (.int sz), some (.int i91)] [] _ _
    refine am_e35 hi_45_42 ?_
    exact ⟨rfl, ⟨h92, ((h50.trans h73).trans h93), (fun j i hj => ((h102 j i hj).trans ((h82 j i hj).trans (h59 j i hj)))), ⟨(h97.trans (h77.trans h54)), (h99.trans (h79.trans h56))⟩, (by show EN S88 ≤ EN S + (0); omega)⟩, (by show iv S88 13 1 = 0; omega)⟩
theorem ck_sclear {sc : Nat × (Nat → Int32)} {d aw : Nat} {S : am_S} (h : SH aw S) : am_E (am_PP sc) (d + 2) 43 0 [some (.ref 12)] [] S (am_N fun v S1 => v = none ∧ Wk aw S S1 ∧ (iv S1 8 1 = iv S 8 1) ∧ (iv S1 10 1 = iv S 10 1) ∧ (iv S1 5 1 = iv S 5 1) ∧ (iv S1 13 1 = 0) ∧ (EN S1 ≤ EN S + 0)) := by
  refine am_e2 (v := 12) hi_43_0 rfl ?_
  refine cm_20f (r := 23) h hi_43_1 (h.1.s (12, 7) (by decide)) (by decide) rfl ?_
  refine am_e32n (as := [.ref 23]) (la := [some (.ref 23)]) (rest := []) hi_43_4 (am_hd0 (M := 43) (by decide) 4) (Nat.le_of_ble_eq_true rfl) (Nat.le_of_ble_eq_true rfl) (show 1 ≤ am_P0.2.2.1 44 from by decide +kernel) rfl (cl_recv (h.1.s (23, 9) (by decide))) rfl rfl (ck_jclear (d := d) h   ) ?_
  rintro v1 S2 ⟨rfl, h4, h5, h6, h7⟩
  have h5_ : iv S2 8 1 = iv S 8 1 := h5
  have h6_ : iv S2 10 1 = iv S 10 1 := h6
  have h7_ : iv S2 14 1 = iv S 14 1 := h7
  obtain ⟨h9, h10, ⟨h11, h12, h13, h14⟩, ⟨h15, h16, h17⟩, h19⟩ := h4
  have h20 : kd aw S2 = kd aw S := kd_eq h11 h14
  have h21 := os_5 h15 1
  have h22 := os_6 h15 1
  have h23 := os_13 h15 1
  show am_E _ _ _ _ [some (.ref 12)] [] _ _
  refine am_e2 (v := 12) hi_43_7 rfl ?_
  refine cm_20f (r := 13) h9 hi_43_8 (h9.1.s (12, 7) (by decide)) (by decide) rfl ?_
  refine am_e32n (as := [.ref 13]) (la := [some (.ref 13), none, none, none]) (rest := []) hi_43_11 (am_hd0 (M := 43) (by decide) 11) (Nat.le_of_ble_eq_true rfl) (Nat.le_of_ble_eq_true rfl) (show 1 ≤ am_P0.2.2.1 45 from by decide +kernel) rfl (cl_recv (h9.1.s (13, 5) (by decide))) rfl rfl (ck_lclear (d := (d + 1)) h9  ) ?_
  rintro v24 S25 ⟨rfl, h27, h28⟩
  have h28_ : iv S25 13 1 = 0 := h28
  have h36 := li_fl h27 h9 (by decide)
  obtain ⟨h30, h31, h40, ⟨h35, h37⟩, h39⟩ := h27
  have h32 : nx S25 = nx S2 := h40 2 2 (by decide)
  have h33 : lv S25 = lv S2 := h40 2 3 (by decide)
  have h34 : wr S25 = wr S2 := h40 3 1 (by decide)
  have h41 := h40 5 1 (by decide)
  have h42 := h40 6 1 (by decide)
  have h43 := h40 8 1 (by decide)
  have h44 := h40 10 1 (by decide)
  have h45 : kd aw S25 = kd aw S2 := kd_eq h32 h35
  show am_E _ _ _ _ [some (.ref 12)] [] _ _
  refine am_e2 (v := 12) hi_43_14 rfl ?_
  refine cm_20f (r := 14) h30 hi_43_15 (h30.1.s (12, 7) (by decide)) (by decide) rfl ?_
  refine am_e0 hi_43_18 ?_
  refine am_e32n (as := [.ref 14, .int 0]) (la := [some (.ref 14), some (.int 0)]) (rest := []) hi_43_19 (am_hd0 (M := 43) (by decide) 19) (Nat.le_of_ble_eq_true rfl) (Nat.le_of_ble_eq_true rfl) (show 2 ≤ am_P0.2.2.1 30 from by decide +kernel) rfl (cl_recv (h30.1.s (14, 3) (by decide))) rfl rfl (ck_cut (d := (d + 1)) h30 (h30.1.s (14, 3) (by decide)) (by decide)  ) ?_
  rintro v46 S47 ⟨rfl, h49, h50, h51, h52⟩
  have h50_ : (0 ≤ (0 : Int) ∧ (0 : Int) < iv S25 14 1 ∧ iv S47 14 1 = (0 : Int)) ∨ (((0 : Int) < 0 ∨ iv S25 14 1 ≤ (0 : Int)) ∧ iv S47 14 1 = iv S25 14 1) := h50
  have h51_ : EN S47 ≤ EN S25 + c_w 14 * (iv S47 14 1 - iv S25 14 1) := h51
  have h52_ : ∀ j, cl (am_fs S25) j = some 3 → j ≠ 14 → iv S47 j 1 = iv S25 j 1 := h52
  obtain ⟨h54, h55, ⟨h56, h57, h58, h59⟩, ⟨h60, h61, h62⟩⟩ := h49
  have h65 : kd aw S47 = kd aw S25 := kd_eq h56 h59
  have h66 := os_5 h60 1
  have h67 := os_6 h60 1
  have h68 := os_13 h60 1
  have h69 := h52_ 8 (h30.1.s (8, 3) (by decide)) (by decide)
  have h70 := h52_ 10 (h30.1.s (10, 3) (by decide)) (by decide)
  have h71 : EN S47 ≤ EN S25 := by have q := h51_; rw [show c_w 14 = 0 from rfl, Int.zero_mul] at q; omega
  show am_E _ _ _ _ [some (.ref 12)] [] _ _
  refine am_e2 (v := 12) hi_43_22 rfl ?_
  refine cm_20f (r := 16) h54 hi_43_23 (h54.1.s (12, 7) (by decide)) (by decide) rfl ?_
  refine am_e0 hi_43_26 ?_
  refine am_e32n (as := [.ref 16, .int 0]) (la := [some (.ref 16), some (.int 0)]) (rest := []) hi_43_27 (am_hd0 (M := 43) (by decide) 27) (Nat.le_of_ble_eq_true rfl) (Nat.le_of_ble_eq_true rfl) (show 2 ≤ am_P0.2.2.1 30 from by decide +kernel) rfl (cl_recv (h54.1.s (16, 3) (by decide))) rfl rfl (ck_cut (d := (d + 1)) h54 (h54.1.s (16, 3) (by decide)) (by decide)  ) ?_
  rintro v72 S73 ⟨rfl, h75, h76, h77, h78⟩
  have h76_ : (0 ≤ (0 : Int) ∧ (0 : Int) < iv S47 16 1 ∧ iv S73 16 1 = (0 : Int)) ∨ (((0 : Int) < 0 ∨ iv S47 16 1 ≤ (0 : Int)) ∧ iv S73 16 1 = iv S47 16 1) := h76
  have h77_ : EN S73 ≤ EN S47 + c_w 16 * (iv S73 16 1 - iv S47 16 1) := h77
  have h78_ : ∀ j, cl (am_fs S47) j = some 3 → j ≠ 16 → iv S73 j 1 = iv S47 j 1 := h78
  obtain ⟨h80, h81, ⟨h82, h83, h84, h85⟩, ⟨h86, h87, h88⟩⟩ := h75
  have h91 : kd aw S73 = kd aw S47 := kd_eq h82 h85
  have h92 := os_5 h86 1
  have h93 := os_6 h86 1
  have h94 := os_13 h86 1
  have h95 := h78_ 8 (h54.1.s (8, 3) (by decide)) (by decide)
  have h96 := h78_ 10 (h54.1.s (10, 3) (by decide)) (by decide)
  have h97 : EN S73 ≤ EN S47 := by have q := h77_; rw [show c_w 16 = 0 from rfl, Int.zero_mul] at q; omega
  show am_E _ _ _ _ [some (.ref 12)] [] _ _
  refine am_e35 hi_43_30 ?_
  exact ⟨rfl, ⟨h80, (((h10.trans h31).trans h55).trans h81), ⟨(by show nx S73 = nx S; omega), (by show lv S73 = lv S; omega), (by show wr S73 = wr S; omega), (h85.trans (h59.trans (h35.trans h14)))⟩⟩, (by show iv S73 8 1 = iv S 8 1; omega), (by show iv S73 10 1 = iv S 10 1; omega), (by show iv S73 5 1 = iv S 5 1; omega), (by show iv S73 13 1 = 0; omega), (by show EN S73 ≤ EN S + 0; omega)⟩
theorem ck_beginBody {sc : Nat × (Nat → Int32)} {d aw : Nat} {S : am_S} {x : Int32} (h : SH aw S) (p0 : iv S 5 1 ≤ 650) (p1 : iv S 13 1 ≤ 650) : am_E (am_PP sc) (d + 8) 46 0 [some (.ref 12), some (.int x), none] [] S (am_N fun v S1 => ∃ r : Nat, v = some (.ref r) ∧ cl (am_fs S1) r = some 8 ∧ Wk aw S S1 ∧ (iv S1 8 1 = iv S 8 1) ∧ (iv S1 10 1 = iv S 10 1) ∧ (iv S1 14 1 = iv S 14 1) ∧ (iv S1 5 1 = iv S 5 1 + 1) ∧ (iv S1 13 1 = iv S 13 1 + 1) ∧ (EN S1 ≤ EN S + 4400)) := by
  refine am_e2 (v := 12) hi_46_0 rfl ?_
  refine cm_20f (r := 5) h hi_46_1 (h.1.s (12, 7) (by decide)) (by decide) rfl ?_
  refine am_e32n (as := [.ref 5]) (la := [some (.ref 5), none]) (rest := []) hi_46_4 (am_hd0 (M := 46) (by decide) 4) (Nat.le_of_ble_eq_true rfl) (Nat.le_of_ble_eq_true rfl) (show 1 ≤ am_P0.2.2.1 13 from by decide +kernel) rfl (cl_recv (h.1.s (5, 4) (by decide))) rfl rfl (ck_badd (d := d) h   (by show iv S 5 1 ≤ 650; omega)) ?_
  rintro v1 S2 ⟨r3, rfl, hb11, h4, h5, h6, h7, h8, h9, h10⟩
  have h5_ : iv S2 8 1 = iv S 8 1 := h5
  have h6_ : iv S2 10 1 = iv S 10 1 := h6
  have h7_ : iv S2 14 1 = iv S 14 1 := h7
  have h8_ : iv S2 13 1 = iv S 13 1 := h8
  have h9_ : iv S2 5 1 = iv S 5 1 + 1 := h9
  have h10_ : EN S2 ≤ EN S + 2400 := h10
  obtain ⟨h12, h13, ⟨h14, h15, h16, h17⟩⟩ := h4
  have h23 : kd aw S2 = kd aw S := kd_eq h14 h17
  show am_E _ _ _ _ [some (.ref 12), some (.int x), none] [.ref r3] _ _
  refine am_e4 (ls' := [some (.ref 12), some (.int x), some (.ref r3)]) hi_46_7 (Nat.le_of_ble_eq_true rfl) rfl ?_
  refine am_e2 (v := r3) hi_46_8 rfl ?_
  refine am_e2 (v := 12) hi_46_9 rfl ?_
  refine cm_20f (r := 13) h12 hi_46_10 (h12.1.s (12, 7) (by decide)) (by decide) rfl ?_
  refine am_e32n (as := [.ref 13]) (la := [some (.ref 13)]) (rest := [.ref r3]) hi_46_13 (am_hd0 (M := 46) (by decide) 13) (Nat.le_of_ble_eq_true rfl) (Nat.le_of_ble_eq_true rfl) (show 1 ≤ am_P0.2.2.1 47 from by decide +kernel) rfl (cl_recv (h12.1.s (13, 5) (by decide))) rfl rfl (ck_lempty (d := (d + 7)) h12 (by decide) ) ?_
  rintro v24 S25 ⟨r26, rfl, hb28, rfl⟩
  have hb28_ : r26.toInt = 0 ∨ r26.toInt = 1 := hb28.elim (fun e => Or.inl (by rw [e]; rfl)) (fun e => Or.inr (by rw [e]; rfl))
  show am_E _ _ _ _ [some (.ref 12), some (.int x), some (.ref r3)] [.int r26, .ref r3] _ _
  by_cases c29 : r26.toInt = (0 : Int)
  · refine am_e12t hi_46_16 (am_cT (m := r26.toInt) (n := (0 : Int)) rfl (by decide) c29) ?_
    refine am_e2 (v := 12) hi_46_23 rfl ?_
    refine cm_20n h12 hi_46_24 fun hb30 => ?_
    refine cm_20i h12 hi_46_27 hb30 (by decide) rfl fun v31 hv31 => ?_
    have hv31_ : v31.toInt = iv S2 (nw S2) 2 := hv31
    refine cm_21 (v := .int v31) h12 hi_46_30 hb11 (by decide) (by decide) rfl ⟨_, rfl⟩ rfl fun S32 h33 => ?_
    obtain ⟨h34, h35, ⟨h36, h37, h38, h39⟩, ⟨h40, h41, h42⟩, h43, h44⟩ := h33
    have h45 : kd aw S32 = kd aw S2 := kd_eq h36 h39
    have h46 := h43 8 (h12.1.s (8, 3) (by decide))
    have h47 := h43 10 (h12.1.s (10, 3) (by decide))
    have h48 := h43 14 (h12.1.s (14, 3) (by decide))
    have h49 := os_5 h40 1
    have h50 := os_6 h40 1
    have h51 := os_13 h40 1
    have hk52 := h35.1 _ _ hb11
    refine am_e2 (v := r3) hi_46_33 rfl ?_
    refine am_e1 (v := x) hi_46_34 rfl ?_
    refine cm_21 (v := .int x) h34 hi_46_35 hk52 (by decide) (by decide) rfl ⟨_, rfl⟩ rfl fun S53 h54 => ?_
    obtain ⟨h55, h56, ⟨h57, h58, h59, h60⟩, ⟨h61, h62, h63⟩, h64, h65⟩ := h54
    have h66 : kd aw S53 = kd aw S32 := kd_eq h57 h60
    have h67 := h64 8 (h34.1.s (8, 3) (by decide))
    have h68 := h64 10 (h34.1.s (10, 3) (by decide))
    have h69 := h64 14 (h34.1.s (14, 3) (by decide))
    have h70 := os_5 h61 1
    have h71 := os_6 h61 1
    have h72 := os_13 h61 1
    have hk73 := h56.1 _ _ hk52
    refine am_e2 (v := r3) hi_46_38 rfl ?_
    refine am_e2 (v := 12) hi_46_39 rfl ?_
    refine cm_20f (r := 14) h55 hi_46_40 (h55.1.s (12, 7) (by decide)) (by decide) rfl ?_
    refine am_e32n (as := [.ref 14]) (la := [some (.ref 14)]) (rest := [.ref r3]) hi_46_43 (am_hd0 (M := 46) (by decide) 43) (Nat.le_of_ble_eq_true rfl) (Nat.le_of_ble_eq_true rfl) (show 1 ≤ am_P0.2.2.1 36 from by decide +kernel) rfl (cl_recv (h55.1.s (14, 3) (by decide))) rfl rfl (ck_rows (d := (d + 7)) h55 (h55.1.s (14, 3) (by decide))  ) ?_
    rintro v74 S75 ⟨r76, rfl, rfl, h78, h79, h80⟩
    have h78_ : r76.toInt = iv S53 14 1 := h78
    have h79_ : 0 ≤ r76.toInt := h79
    have h80_ : r76.toInt ≤ 2097154 := h80
    show am_E _ _ _ _ [some (.ref 12), some (.int x), some (.ref r3)] [.int r76, .ref r3] _ _
    refine cm_21n (t := 4) (v := .int r76) h55 hi_46_46 hk73 (by decide) rfl ⟨_, rfl, (by omega), (by omega)⟩ rfl fun S82 h83 => ?_
    obtain ⟨h84, h85, ⟨h86, h87, h88, h89⟩, h90, h92, h93⟩ := h83
    have h95 : kd aw S82 = kd aw S53 := kd_eq h86 h89
    have h96 := h92 8 (h55.1.s (8, 3) (by decide))
    have h97 := h92 10 (h55.1.s (10, 3) (by decide))
    have h98 := h92 14 (h55.1.s (14, 3) (by decide))
    have h99 := os_5 h90 1
    have h100 := os_6 h90 1
    have h101 := os_13 h90 1
    have hk102 := h85.1 _ _ hk73
    refine am_e2 (v := r3) hi_46_49 rfl ?_
    refine am_e2 (v := 12) hi_46_50 rfl ?_
    refine cm_20f (r := 23) h84 hi_46_51 (h84.1.s (12, 7) (by decide)) (by decide) rfl ?_
    refine am_e32n (as := [.ref 23]) (la := [some (.ref 23)]) (rest := [.ref r3]) hi_46_54 (am_hd0 (M := 46) (by decide) 54) (Nat.le_of_ble_eq_true rfl) (Nat.le_of_ble_eq_true rfl) (show 1 ≤ am_P0.2.2.1 48 from by decide +kernel) rfl (cl_recv (h84.1.s (23, 9) (by decide))) rfl rfl (ck_j48 (d := (d + 6)) h84   ) ?_
    rintro v103 S104 ⟨r105, rfl, rfl, h107, h108, h109⟩
    have h107_ : r105.toInt = iv S82 24 1 := h107
    have h108_ : 0 ≤ r105.toInt := h108
    have h109_ : r105.toInt ≤ 2097154 := h109
    show am_E _ _ _ _ [some (.ref 12), some (.int x), some (.ref r3)] [.int r105, .ref r3] _ _
    refine cm_21 (v := .int r105) h84 hi_46_57 hk102 (by decide) (by decide) rfl ⟨_, rfl⟩ rfl fun S111 h112 => ?_
    obtain ⟨h113, h114, ⟨h115, h116, h117, h118⟩, ⟨h119, h120, h121⟩, h122, h123⟩ := h112
    have h124 : kd aw S111 = kd aw S82 := kd_eq h115 h118
    have h125 := h122 8 (h84.1.s (8, 3) (by decide))
    have h126 := h122 10 (h84.1.s (10, 3) (by decide))
    have h127 := h122 14 (h84.1.s (14, 3) (by decide))
    have h128 := os_5 h119 1
    have h129 := os_6 h119 1
    have h130 := os_13 h119 1
    have hk131 := h114.1 _ _ hk102
    refine am_e2 (v := r3) hi_46_60 rfl ?_
    refine am_e2 (v := 12) hi_46_61 rfl ?_
    refine cm_20f (r := 23) h113 hi_46_62 (h113.1.s (12, 7) (by decide)) (by decide) rfl ?_
    refine am_e32n (as := [.ref 23]) (la := [some (.ref 23)]) (rest := [.ref r3]) hi_46_65 (am_hd0 (M := 46) (by decide) 65) (Nat.le_of_ble_eq_true rfl) (Nat.le_of_ble_eq_true rfl) (show 1 ≤ am_P0.2.2.1 49 from by decide +kernel) rfl (cl_recv (h113.1.s (23, 9) (by decide))) rfl rfl (ck_j49 (d := (d + 6)) h113   ) ?_
    rintro v132 S133 ⟨r134, rfl, rfl, h136, h137, h138⟩
    have h136_ : r134.toInt = iv S111 26 1 := h136
    have h137_ : 0 ≤ r134.toInt := h137
    have h138_ : r134.toInt ≤ 2097154 := h138
    show am_E _ _ _ _ [some (.ref 12), some (.int x), some (.ref r3)] [.int r134, .ref r3] _ _
    refine cm_21 (v := .int r134) h113 hi_46_68 hk131 (by decide) (by decide) rfl ⟨_, rfl⟩ rfl fun S140 h141 => ?_
    obtain ⟨h142, h143, ⟨h144, h145, h146, h147⟩, ⟨h148, h149, h150⟩, h151, h152⟩ := h141
    have h153 : kd aw S140 = kd aw S111 := kd_eq h144 h147
    have h154 := h151 8 (h113.1.s (8, 3) (by decide))
    have h155 := h151 10 (h113.1.s (10, 3) (by decide))
    have h156 := h151 14 (h113.1.s (14, 3) (by decide))
    have h157 := os_5 h148 1
    have h158 := os_6 h148 1
    have h159 := os_13 h148 1
    have hk160 := h143.1 _ _ hk131
    refine am_e2 (v := r3) hi_46_71 rfl ?_
    refine am_e2 (v := 12) hi_46_72 rfl ?_
    refine cm_20f (r := 23) h142 hi_46_73 (h142.1.s (12, 7) (by decide)) (by decide) rfl ?_
    refine am_e32n (as := [.ref 23]) (la := [some (.ref 23)]) (rest := [.ref r3]) hi_46_76 (am_hd0 (M := 46) (by decide) 76) (Nat.le_of_ble_eq_true rfl) (Nat.le_of_ble_eq_true rfl) (show 1 ≤ am_P0.2.2.1 50 from by decide +kernel) rfl (cl_recv (h142.1.s (23, 9) (by decide))) rfl rfl (ck_j50 (d := (d + 6)) h142   ) ?_
    rintro v161 S162 ⟨r163, rfl, rfl, h165, h166, h167⟩
    have h165_ : r163.toInt = iv S140 28 1 := h165
    have h166_ : 0 ≤ r163.toInt := h166
    have h167_ : r163.toInt ≤ 2097154 := h167
    show am_E _ _ _ _ [some (.ref 12), some (.int x), some (.ref r3)] [.int r163, .ref r3] _ _
    refine cm_21 (v := .int r163) h142 hi_46_79 hk160 (by decide) (by decide) rfl ⟨_, rfl⟩ rfl fun S169 h170 => ?_
    obtain ⟨h171, h172, ⟨h173, h174, h175, h176⟩, ⟨h177, h178, h179⟩, h180, h181⟩ := h170
    have h182 : kd aw S169 = kd aw S140 := kd_eq h173 h176
    have h183 := h180 8 (h142.1.s (8, 3) (by decide))
    have h184 := h180 10 (h142.1.s (10, 3) (by decide))
    have h185 := h180 14 (h142.1.s (14, 3) (by decide))
    have h186 := os_5 h177 1
    have h187 := os_6 h177 1
    have h188 := os_13 h177 1
    have hk189 := h172.1 _ _ hk160
    refine am_e2 (v := 12) hi_46_82 rfl ?_
    refine cm_20f (r := 13) h171 hi_46_83 (h171.1.s (12, 7) (by decide)) (by decide) rfl ?_
    refine am_e2 (v := r3) hi_46_86 rfl ?_
    refine am_e32n (as := [.ref 13, .ref r3]) (la := [some (.ref 13), some (.ref r3)]) (rest := []) hi_46_87 (am_hd0 (M := 46) (by decide) 87) (Nat.le_of_ble_eq_true rfl) (Nat.le_of_ble_eq_true rfl) (show 2 ≤ am_P0.2.2.1 15 from by decide +kernel) rfl (cl_recv (h171.1.s (13, 5) (by decide))) rfl rfl (ck_ladd (d := (d + 1)) h171 hk189 (by decide) (by show iv S169 13 1 ≤ 700; omega)) ?_
    rintro v190 S191 ⟨r192, rfl, hb195, h193, h194⟩
    have h194_ : iv S191 13 1 = iv S169 13 1 + 1 := h194
    have h202 := li_fl h193 h171 (by decide)
    obtain ⟨h196, h197, h206, ⟨h201, h203⟩, h205⟩ := h193
    have h198 : nx S191 = nx S169 := h206 2 2 (by decide)
    have h199 : lv S191 = lv S169 := h206 2 3 (by decide)
    have h200 : wr S191 = wr S169 := h206 3 1 (by decide)
    have h207 := h206 5 1 (by decide)
    have h208 := h206 6 1 (by decide)
    have h209 := h206 8 1 (by decide)
    have h210 := h206 10 1 (by decide)
    have h211 := h206 14 1 (by decide)
    have h212 : kd aw S191 = kd aw S169 := kd_eq h198 h201
    have hk213 := h197.1 _ _ hk189
    have hb195_ : r192.toInt = 0 ∨ r192.toInt = 1 := hb195.elim (fun e => Or.inl (by rw [e]; rfl)) (fun e => Or.inr (by rw [e]; rfl))
    show am_E _ _ _ _ [some (.ref 12), some (.int x), some (.ref r3)] [.int r192] _ _
    refine am_e6i hi_46_90 ?_
    refine am_e2 (v := 12) hi_46_91 rfl ?_
    refine am_e2 (v := r3) hi_46_92 rfl ?_
    refine cm_21n (t := 18) (v := .ref r3) h196 hi_46_93 (h196.1.s (12, 7) (by decide)) (by decide) rfl ⟨_, rfl, hk213⟩ rfl fun S214 h215 => ?_
    obtain ⟨h216, h217, ⟨h218, h219, h220, h221⟩, h222, h224, h225⟩ := h215
    have h227 : kd aw S214 = kd aw S191 := kd_eq h218 h221
    have h228 := h224 8 (h196.1.s (8, 3) (by decide))
    have h229 := h224 10 (h196.1.s (10, 3) (by decide))
    have h230 := h224 14 (h196.1.s (14, 3) (by decide))
    have h231 := os_5 h222 1
    have h232 := os_6 h222 1
    have h233 := os_13 h222 1
    have hk234 := h217.1 _ _ hk213
    refine am_e2 (v := 12) hi_46_96 rfl ?_
    refine am_e32n (as := [.ref 12]) (la := [some (.ref 12)]) (rest := []) hi_46_97 (am_hd0 (M := 46) (by decide) 97) (Nat.le_of_ble_eq_true rfl) (Nat.le_of_ble_eq_true rfl) (show 1 ≤ am_P0.2.2.1 51 from by decide +kernel) rfl (cl_recv (h216.1.s (12, 7) (by decide))) rfl rfl (ck_openBlock (d := (d + 4)) h216   ) ?_
    rintro v235 S236 ⟨rfl, h238, h239, h240, h241⟩
    have h239_ : iv S236 8 1 = iv S214 8 1 := h239
    have h240_ : iv S236 10 1 = iv S214 10 1 := h240
    have h241_ : iv S236 14 1 = iv S214 14 1 := h241
    obtain ⟨h243, h244, ⟨h245, h246, h247, h248⟩, ⟨h249, h250, h251⟩, h253⟩ := h238
    have h254 : kd aw S236 = kd aw S214 := kd_eq h245 h248
    have h255 := os_5 h249 1
    have h256 := os_6 h249 1
    have h257 := os_13 h249 1
    have hk258 := h244.1 _ _ hk234
    show am_E _ _ _ _ [some (.ref 12), some (.int x), some (.ref r3)] [] _ _
    refine am_e2 (v := r3) hi_46_100 rfl ?_
    refine am_e34 hi_46_101 ?_
    exact ⟨r3, rfl, hk258, ⟨h243, (((((((((h13.trans h35).trans h56).trans h85).trans h114).trans h143).trans h172).trans h197).trans h217).trans h244), ⟨(by show nx S236 = nx S; omega), (by show lv S236 = lv S; omega), (by show wr S236 = wr S; omega), (h248.trans (h221.trans (h201.trans (h176.trans (h147.trans (h118.trans (h89.trans (h60.trans (h39.trans h17)))))))))⟩⟩, (by show iv S236 8 1 = iv S 8 1; omega), (by show iv S236 10 1 = iv S 10 1; omega), (by show iv S236 14 1 = iv S 14 1; omega), (by show iv S236 5 1 = iv S 5 1 + 1; omega), (by show iv S236 13 1 = iv S 13 1 + 1; omega), (by show EN S236 ≤ EN S + 4400; omega)⟩
  · refine am_e12f hi_46_16 (am_cF (m := r26.toInt) (n := (0 : Int)) rfl (by decide) c29) ?_
    refine am_e0 hi_46_19 ?_
    refine am_e18 hi_46_20 ?_
    refine cm_21 (v := .int (-1)) h12 hi_46_30 hb11 (by decide) (by decide) rfl ⟨_, rfl⟩ rfl fun S259 h260 => ?_
    obtain ⟨h261, h262, ⟨h263, h264, h265, h266⟩, ⟨h267, h268, h269⟩, h270, h271⟩ := h260
    have h272 : kd aw S259 = kd aw S2 := kd_eq h263 h266
    have h273 := h270 8 (h12.1.s (8, 3) (by decide))
    have h274 := h270 10 (h12.1.s (10, 3) (by decide))
    have h275 := h270 14 (h12.1.s (14, 3) (by decide))
    have h276 := os_5 h267 1
    have h277 := os_6 h267 1
    have h278 := os_13 h267 1
    have hk279 := h262.1 _ _ hb11
    refine am_e2 (v := r3) hi_46_33 rfl ?_
    refine am_e1 (v := x) hi_46_34 rfl ?_
    refine cm_21 (v := .int x) h261 hi_46_35 hk279 (by decide) (by decide) rfl ⟨_, rfl⟩ rfl fun S280 h281 => ?_
    obtain ⟨h282, h283, ⟨h284, h285, h286, h287⟩, ⟨h288, h289, h290⟩, h291, h292⟩ := h281
    have h293 : kd aw S280 = kd aw S259 := kd_eq h284 h287
    have h294 := h291 8 (h261.1.s (8, 3) (by decide))
    have h295 := h291 10 (h261.1.s (10, 3) (by decide))
    have h296 := h291 14 (h261.1.s (14, 3) (by decide))
    have h297 := os_5 h288 1
    have h298 := os_6 h288 1
    have h299 := os_13 h288 1
    have hk300 := h283.1 _ _ hk279
    refine am_e2 (v := r3) hi_46_38 rfl ?_
    refine am_e2 (v := 12) hi_46_39 rfl ?_
    refine cm_20f (r := 14) h282 hi_46_40 (h282.1.s (12, 7) (by decide)) (by decide) rfl ?_
    refine am_e32n (as := [.ref 14]) (la := [some (.ref 14)]) (rest := [.ref r3]) hi_46_43 (am_hd0 (M := 46) (by decide) 43) (Nat.le_of_ble_eq_true rfl) (Nat.le_of_ble_eq_true rfl) (show 1 ≤ am_P0.2.2.1 36 from by decide +kernel) rfl (cl_recv (h282.1.s (14, 3) (by decide))) rfl rfl (ck_rows (d := (d + 7)) h282 (h282.1.s (14, 3) (by decide))  ) ?_
    rintro v301 S302 ⟨r303, rfl, rfl, h305, h306, h307⟩
    have h305_ : r303.toInt = iv S280 14 1 := h305
    have h306_ : 0 ≤ r303.toInt := h306
    have h307_ : r303.toInt ≤ 2097154 := h307
    show am_E _ _ _ _ [some (.ref 12), some (.int x), some (.ref r3)] [.int r303, .ref r3] _ _
    refine cm_21n (t := 4) (v := .int r303) h282 hi_46_46 hk300 (by decide) rfl ⟨_, rfl, (by omega), (by omega)⟩ rfl fun S309 h310 => ?_
    obtain ⟨h311, h312, ⟨h313, h314, h315, h316⟩, h317, h319, h320⟩ := h310
    have h322 : kd aw S309 = kd aw S280 := kd_eq h313 h316
    have h323 := h319 8 (h282.1.s (8, 3) (by decide))
    have h324 := h319 10 (h282.1.s (10, 3) (by decide))
    have h325 := h319 14 (h282.1.s (14, 3) (by decide))
    have h326 := os_5 h317 1
    have h327 := os_6 h317 1
    have h328 := os_13 h317 1
    have hk329 := h312.1 _ _ hk300
    refine am_e2 (v := r3) hi_46_49 rfl ?_
    refine am_e2 (v := 12) hi_46_50 rfl ?_
    refine cm_20f (r := 23) h311 hi_46_51 (h311.1.s (12, 7) (by decide)) (by decide) rfl ?_
    refine am_e32n (as := [.ref 23]) (la := [some (.ref 23)]) (rest := [.ref r3]) hi_46_54 (am_hd0 (M := 46) (by decide) 54) (Nat.le_of_ble_eq_true rfl) (Nat.le_of_ble_eq_true rfl) (show 1 ≤ am_P0.2.2.1 48 from by decide +kernel) rfl (cl_recv (h311.1.s (23, 9) (by decide))) rfl rfl (ck_j48 (d := (d + 6)) h311   ) ?_
    rintro v330 S331 ⟨r332, rfl, rfl, h334, h335, h336⟩
    have h334_ : r332.toInt = iv S309 24 1 := h334
    have h335_ : 0 ≤ r332.toInt := h335
    have h336_ : r332.toInt ≤ 2097154 := h336
    show am_E _ _ _ _ [some (.ref 12), some (.int x), some (.ref r3)] [.int r332, .ref r3] _ _
    refine cm_21 (v := .int r332) h311 hi_46_57 hk329 (by decide) (by decide) rfl ⟨_, rfl⟩ rfl fun S338 h339 => ?_
    obtain ⟨h340, h341, ⟨h342, h343, h344, h345⟩, ⟨h346, h347, h348⟩, h349, h350⟩ := h339
    have h351 : kd aw S338 = kd aw S309 := kd_eq h342 h345
    have h352 := h349 8 (h311.1.s (8, 3) (by decide))
    have h353 := h349 10 (h311.1.s (10, 3) (by decide))
    have h354 := h349 14 (h311.1.s (14, 3) (by decide))
    have h355 := os_5 h346 1
    have h356 := os_6 h346 1
    have h357 := os_13 h346 1
    have hk358 := h341.1 _ _ hk329
    refine am_e2 (v := r3) hi_46_60 rfl ?_
    refine am_e2 (v := 12) hi_46_61 rfl ?_
    refine cm_20f (r := 23) h340 hi_46_62 (h340.1.s (12, 7) (by decide)) (by decide) rfl ?_
    refine am_e32n (as := [.ref 23]) (la := [some (.ref 23)]) (rest := [.ref r3]) hi_46_65 (am_hd0 (M := 46) (by decide) 65) (Nat.le_of_ble_eq_true rfl) (Nat.le_of_ble_eq_true rfl) (show 1 ≤ am_P0.2.2.1 49 from by decide +kernel) rfl (cl_recv (h340.1.s (23, 9) (by decide))) rfl rfl (ck_j49 (d := (d + 6)) h340   ) ?_
    rintro v359 S360 ⟨r361, rfl, rfl, h363, h364, h365⟩
    have h363_ : r361.toInt = iv S338 26 1 := h363
    have h364_ : 0 ≤ r361.toInt := h364
    have h365_ : r361.toInt ≤ 2097154 := h365
    show am_E _ _ _ _ [some (.ref 12), some (.int x), some (.ref r3)] [.int r361, .ref r3] _ _
    refine cm_21 (v := .int r361) h340 hi_46_68 hk358 (by decide) (by decide) rfl ⟨_, rfl⟩ rfl fun S367 h368 => ?_
    obtain ⟨h369, h370, ⟨h371, h372, h373, h374⟩, ⟨h375, h376, h377⟩, h378, h379⟩ := h368
    have h380 : kd aw S367 = kd aw S338 := kd_eq h371 h374
    have h381 := h378 8 (h340.1.s (8, 3) (by decide))
    have h382 := h378 10 (h340.1.s (10, 3) (by decide))
    have h383 := h378 14 (h340.1.s (14, 3) (by decide))
    have h384 := os_5 h375 1
    have h385 := os_6 h375 1
    have h386 := os_13 h375 1
    have hk387 := h370.1 _ _ hk358
    refine am_e2 (v := r3) hi_46_71 rfl ?_
    refine am_e2 (v := 12) hi_46_72 rfl ?_
    refine cm_20f (r := 23) h369 hi_46_73 (h369.1.s (12, 7) (by decide)) (by decide) rfl ?_
    refine am_e32n (as := [.ref 23]) (la := [some (.ref 23)]) (rest := [.ref r3]) hi_46_76 (am_hd0 (M := 46) (by decide) 76) (Nat.le_of_ble_eq_true rfl) (Nat.le_of_ble_eq_true rfl) (show 1 ≤ am_P0.2.2.1 50 from by decide +kernel) rfl (cl_recv (h369.1.s (23, 9) (by decide))) rfl rfl (ck_j50 (d := (d + 6)) h369   ) ?_
    rintro v388 S389 ⟨r390, rfl, rfl, h392, h393, h394⟩
    have h392_ : r390.toInt = iv S367 28 1 := h392
    have h393_ : 0 ≤ r390.toInt := h393
    have h394_ : r390.toInt ≤ 2097154 := h394
    show am_E _ _ _ _ [some (.ref 12), some (.int x), some (.ref r3)] [.int r390, .ref r3] _ _
    refine cm_21 (v := .int r390) h369 hi_46_79 hk387 (by decide) (by decide) rfl ⟨_, rfl⟩ rfl fun S396 h397 => ?_
    obtain ⟨h398, h399, ⟨h400, h401, h402, h403⟩, ⟨h404, h405, h406⟩, h407, h408⟩ := h397
    have h409 : kd aw S396 = kd aw S367 := kd_eq h400 h403
    have h410 := h407 8 (h369.1.s (8, 3) (by decide))
    have h411 := h407 10 (h369.1.s (10, 3) (by decide))
    have h412 := h407 14 (h369.1.s (14, 3) (by decide))
    have h413 := os_5 h404 1
    have h414 := os_6 h404 1
    have h415 := os_13 h404 1
    have hk416 := h399.1 _ _ hk387
    refine am_e2 (v := 12) hi_46_82 rfl ?_
    refine cm_20f (r := 13) h398 hi_46_83 (h398.1.s (12, 7) (by decide)) (by decide) rfl ?_
    refine am_e2 (v := r3) hi_46_86 rfl ?_
    refine am_e32n (as := [.ref 13, .ref r3]) (la := [some (.ref 13), some (.ref r3)]) (rest := []) hi_46_87 (am_hd0 (M := 46) (by decide) 87) (Nat.le_of_ble_eq_true rfl) (Nat.le_of_ble_eq_true rfl) (show 2 ≤ am_P0.2.2.1 15 from by decide +kernel) rfl (cl_recv (h398.1.s (13, 5) (by decide))) rfl rfl (ck_ladd (d := (d + 1)) h398 hk416 (by decide) (by show iv S396 13 1 ≤ 700; omega)) ?_
    rintro v417 S418 ⟨r419, rfl, hb422, h420, h421⟩
    have h421_ : iv S418 13 1 = iv S396 13 1 + 1 := h421
    have h429 := li_fl h420 h398 (by decide)
    obtain ⟨h423, h424, h433, ⟨h428, h430⟩, h432⟩ := h420
    have h425 : nx S418 = nx S396 := h433 2 2 (by decide)
    have h426 : lv S418 = lv S396 := h433 2 3 (by decide)
    have h427 : wr S418 = wr S396 := h433 3 1 (by decide)
    have h434 := h433 5 1 (by decide)
    have h435 := h433 6 1 (by decide)
    have h436 := h433 8 1 (by decide)
    have h437 := h433 10 1 (by decide)
    have h438 := h433 14 1 (by decide)
    have h439 : kd aw S418 = kd aw S396 := kd_eq h425 h428
    have hk440 := h424.1 _ _ hk416
    have hb422_ : r419.toInt = 0 ∨ r419.toInt = 1 := hb422.elim (fun e => Or.inl (by rw [e]; rfl)) (fun e => Or.inr (by rw [e]; rfl))
    show am_E _ _ _ _ [some (.ref 12), some (.int x), some (.ref r3)] [.int r419] _ _
    refine am_e6i hi_46_90 ?_
    refine am_e2 (v := 12) hi_46_91 rfl ?_
    refine am_e2 (v := r3) hi_46_92 rfl ?_
    refine cm_21n (t := 18) (v := .ref r3) h423 hi_46_93 (h423.1.s (12, 7) (by decide)) (by decide) rfl ⟨_, rfl, hk440⟩ rfl fun S441 h442 => ?_
    obtain ⟨h443, h444, ⟨h445, h446, h447, h448⟩, h449, h451, h452⟩ := h442
    have h454 : kd aw S441 = kd aw S418 := kd_eq h445 h448
    have h455 := h451 8 (h423.1.s (8, 3) (by decide))
    have h456 := h451 10 (h423.1.s (10, 3) (by decide))
    have h457 := h451 14 (h423.1.s (14, 3) (by decide))
    have h458 := os_5 h449 1
    have h459 := os_6 h449 1
    have h460 := os_13 h449 1
    have hk461 := h444.1 _ _ hk440
    refine am_e2 (v := 12) hi_46_96 rfl ?_
    refine am_e32n (as := [.ref 12]) (la := [some (.ref 12)]) (rest := []) hi_46_97 (am_hd0 (M := 46) (by decide) 97) (Nat.le_of_ble_eq_true rfl) (Nat.le_of_ble_eq_true rfl) (show 1 ≤ am_P0.2.2.1 51 from by decide +kernel) rfl (cl_recv (h443.1.s (12, 7) (by decide))) rfl rfl (ck_openBlock (d := (d + 4)) h443   ) ?_
    rintro v462 S463 ⟨rfl, h465, h466, h467, h468⟩
    have h466_ : iv S463 8 1 = iv S441 8 1 := h466
    have h467_ : iv S463 10 1 = iv S441 10 1 := h467
    have h468_ : iv S463 14 1 = iv S441 14 1 := h468
    obtain ⟨h470, h471, ⟨h472, h473, h474, h475⟩, ⟨h476, h477, h478⟩, h480⟩ := h465
    have h481 : kd aw S463 = kd aw S441 := kd_eq h472 h475
    have h482 := os_5 h476 1
    have h483 := os_6 h476 1
    have h484 := os_13 h476 1
    have hk485 := h471.1 _ _ hk461
    show am_E _ _ _ _ [some (.ref 12), some (.int x), some (.ref r3)] [] _ _
    refine am_e2 (v := r3) hi_46_100 rfl ?_
    refine am_e34 hi_46_101 ?_
    exact ⟨r3, rfl, hk485, ⟨h470, (((((((((h13.trans h262).trans h283).trans h312).trans h341).trans h370).trans h399).trans h424).trans h444).trans h471), ⟨(by show nx S463 = nx S; omega), (by show lv S463 = lv S; omega), (by show wr S463 = wr S; omega), (h475.trans (h448.trans (h428.trans (h403.trans (h374.trans (h345.trans (h316.trans (h287.trans (h266.trans h17)))))))))⟩⟩, (by show iv S463 8 1 = iv S 8 1; omega), (by show iv S463 10 1 = iv S 10 1; omega), (by show iv S463 14 1 = iv S 14 1; omega), (by show iv S463 5 1 = iv S 5 1 + 1; omega), (by show iv S463 13 1 = iv S 13 1 + 1; omega), (by show EN S463 ≤ EN S + 4400; omega)⟩
theorem ck_endBody {sc : Nat × (Nat → Int32)} {d aw : Nat} {S : am_S} (h : SH aw S) : am_E (am_PP sc) (d + 4) 80 0 [some (.ref 12)] [] S (am_N fun v S1 => v = none ∧ Wk aw S S1 ∧ (iv S1 8 1 = iv S 8 1) ∧ (iv S1 10 1 = iv S 10 1) ∧ (iv S1 5 1 = iv S 5 1) ∧ ((2 ≤ iv S 13 1 ∧ iv S1 13 1 = iv S 13 1 - 1) ∨ (iv S 13 1 < 2 ∧ iv S1 13 1 = iv S 13 1)) ∧ (EN S1 ≤ EN S + 0)) := by
  refine am_e2 (v := 12) hi_80_0 rfl ?_
  refine am_e32n (as := [.ref 12]) (la := [some (.ref 12), none]) (rest := []) hi_80_1 (am_hd0 (M := 80) (by decide) 1) (Nat.le_of_ble_eq_true rfl) (Nat.le_of_ble_eq_true rfl) (show 1 ≤ am_P0.2.2.1 81 from by decide +kernel) rfl (cl_recv (h.1.s (12, 7) (by decide))) rfl rfl (ck_closeBlock (d := d) h   ) ?_
  rintro v1 S2 ⟨rfl, h4, h5, h6⟩
  have h5_ : iv S2 8 1 = iv S 8 1 := h5
  have h6_ : iv S2 10 1 = iv S 10 1 := h6
  obtain ⟨h8, h9, ⟨h10, h11, h12, h13⟩, ⟨h14, h15, h16⟩, h18⟩ := h4
  have h19 : kd aw S2 = kd aw S := kd_eq h10 h13
  have h20 := os_5 h14 1
  have h21 := os_6 h14 1
  have h22 := os_13 h14 1
  show am_E _ _ _ _ [some (.ref 12)] [] _ _
  refine am_e2 (v := 12) hi_80_4 rfl ?_
  refine cm_20f (r := 23) h8 hi_80_5 (h8.1.s (12, 7) (by decide)) (by decide) rfl ?_
  refine am_e2 (v := 12) hi_80_8 rfl ?_
  refine cm_20n h8 hi_80_9 fun hb23 => ?_
  refine cm_20i h8 hi_80_12 hb23 (by decide) rfl fun v24 hv24 => ?_
  have hv24_ : v24.toInt = iv S2 (nw S2) 11 := hv24
  refine am_e32n (as := [.ref 23, .int v24]) (la := [some (.ref 23), some (.int v24), none]) (rest := []) hi_80_15 (am_hd0 (M := 80) (by decide) 15) (Nat.le_of_ble_eq_true rfl) (Nat.le_of_ble_eq_true rfl) (show 2 ≤ am_P0.2.2.1 88 from by decide +kernel) rfl (cl_recv (h8.1.s (23, 9) (by decide))) rfl rfl (ck_refuseGotos (d := (d + 2)) h8   ) ?_
  rintro v25 S26 ⟨rfl, h28, h29, h30, h31⟩
  have h29_ : iv S26 8 1 = iv S2 8 1 := h29
  have h30_ : iv S26 10 1 = iv S2 10 1 := h30
  have h31_ : iv S26 14 1 = iv S2 14 1 := h31
  obtain ⟨h33, h34, ⟨h35, h36, h37, h38⟩, ⟨h39, h40, h41⟩, h43⟩ := h28
  have h44 : kd aw S26 = kd aw S2 := kd_eq h35 h38
  have h45 := os_5 h39 1
  have h46 := os_6 h39 1
  have h47 := os_13 h39 1
  show am_E _ _ _ _ [some (.ref 12)] [] _ _
  refine am_e2 (v := 12) hi_80_18 rfl ?_
  refine cm_20f (r := 13) h33 hi_80_19 (h33.1.s (12, 7) (by decide)) (by decide) rfl ?_
  refine am_e32n (as := [.ref 13]) (la := [some (.ref 13)]) (rest := []) hi_80_22 (am_hd0 (M := 80) (by decide) 22) (Nat.le_of_ble_eq_true rfl) (Nat.le_of_ble_eq_true rfl) (show 1 ≤ am_P0.2.2.1 14 from by decide +kernel) rfl (cl_recv (h33.1.s (13, 5) (by decide))) rfl rfl (ck_lsize (d := (d + 3)) h33 (by decide) ) ?_
  rintro v48 S49 ⟨r50, rfl, rfl, h52, h53, h54⟩
  have h52_ : r50.toInt = iv S26 13 1 := h52
  have h53_ : 0 ≤ r50.toInt := h53
  have h54_ : r50.toInt ≤ 100000 := h54
  show am_E _ _ _ _ [some (.ref 12)] [.int r50] _ _
  refine am_e0 hi_80_25 ?_
  by_cases c56 : r50.toInt ≤ (1 : Int)
  · refine am_e13t hi_80_26 (am_cT (m := r50.toInt) (n := (1 : Int)) rfl (by decide) c56) ?_
    refine am_e35 hi_80_69 ?_
    exact ⟨rfl, ⟨h33, (h9.trans h34), ⟨(by show nx S26 = nx S; omega), (by show lv S26 = lv S; omega), (by show wr S26 = wr S; omega), (h38.trans h13)⟩⟩, (by show iv S26 8 1 = iv S 8 1; omega), (by show iv S26 10 1 = iv S 10 1; omega), (by show iv S26 5 1 = iv S 5 1; omega), (by show (2 ≤ iv S 13 1 ∧ iv S26 13 1 = iv S 13 1 - 1) ∨ (iv S 13 1 < 2 ∧ iv S26 13 1 = iv S 13 1); omega), (by show EN S26 ≤ EN S + 0; omega)⟩
  · refine am_e13f hi_80_26 (am_cF (m := r50.toInt) (n := (1 : Int)) rfl (by decide) c56) ?_
    refine am_e2 (v := 12) hi_80_29 rfl ?_
    refine cm_20f (r := 13) h33 hi_80_30 (h33.1.s (12, 7) (by decide)) (by decide) rfl ?_
    refine am_e2 (v := 12) hi_80_33 rfl ?_
    refine cm_20f (r := 13) h33 hi_80_34 (h33.1.s (12, 7) (by decide)) (by decide) rfl ?_
    refine am_e32n (as := [.ref 13]) (la := [some (.ref 13)]) (rest := [.ref 13]) hi_80_37 (am_hd0 (M := 80) (by decide) 37) (Nat.le_of_ble_eq_true rfl) (Nat.le_of_ble_eq_true rfl) (show 1 ≤ am_P0.2.2.1 14 from by decide +kernel) rfl (cl_recv (h33.1.s (13, 5) (by decide))) rfl rfl (ck_lsize (d := (d + 3)) h33 (by decide) ) ?_
    rintro v57 S58 ⟨r59, rfl, rfl, h61, h62, h63⟩
    have h61_ : r59.toInt = iv S26 13 1 := h61
    have h62_ : 0 ≤ r59.toInt := h62
    have h63_ : r59.toInt ≤ 100000 := h63
    show am_E _ _ _ _ [some (.ref 12)] [.int r59, .ref 13] _ _
    refine am_e0 hi_80_40 ?_
    obtain ⟨z65, hz65, tz65⟩ := am_subI (x := r59) (y := 1) (m := r59.toInt) (n := (1 : Int)) rfl (by decide) (by omega) (by omega)
    refine am_e10 (z := z65) hi_80_41 hz65 ?_
    refine am_e32n (as := [.ref 13, .int z65]) (la := [some (.ref 13), some (.int z65), none, none]) (rest := []) hi_80_42 (am_hd0 (M := 80) (by decide) 42) (Nat.le_of_ble_eq_true rfl) (Nat.le_of_ble_eq_true rfl) (show 2 ≤ am_P0.2.2.1 89 from by decide +kernel) rfl (cl_recv (h33.1.s (13, 5) (by decide))) rfl rfl (ck_lremove (d := (d + 1)) h33  (by show iv S26 13 1 = z65.toInt + 1; omega) (by show 0 ≤ z65.toInt; omega)) ?_
    rintro v66 S67 ⟨r68, rfl, hb71, h69, h70⟩
    have h70_ : iv S67 13 1 = z65.toInt := h70
    have h78 := li_fl h69 h33 (by decide)
    obtain ⟨h72, h73, h82, ⟨h77, h79⟩, h81⟩ := h69
    have h74 : nx S67 = nx S26 := h82 2 2 (by decide)
    have h75 : lv S67 = lv S26 := h82 2 3 (by decide)
    have h76 : wr S67 = wr S26 := h82 3 1 (by decide)
    have h83 := h82 5 1 (by decide)
    have h84 := h82 6 1 (by decide)
    have h85 := h82 8 1 (by decide)
    have h86 := h82 10 1 (by decide)
    have h87 : kd aw S67 = kd aw S26 := kd_eq h74 h77
    show am_E _ _ _ _ [some (.ref 12)] [.ref r68] _ _
    refine am_eg hi_80_45 (by decide) rfl ?_
    refine am_e2 (v := 12) hi_80_46 rfl ?_
    refine am_e2 (v := 12) hi_80_47 rfl ?_
    refine cm_20f (r := 13) h72 hi_80_48 (h72.1.s (12, 7) (by decide)) (by decide) rfl ?_
    refine am_e2 (v := 12) hi_80_51 rfl ?_
    refine cm_20f (r := 13) h72 hi_80_52 (h72.1.s (12, 7) (by decide)) (by decide) rfl ?_
    refine am_e32n (as := [.ref 13]) (la := [some (.ref 13)]) (rest := [.ref 13, .ref 12]) hi_80_55 (am_hd0 (M := 80) (by decide) 55) (Nat.le_of_ble_eq_true rfl) (Nat.le_of_ble_eq_true rfl) (show 1 ≤ am_P0.2.2.1 14 from by decide +kernel) rfl (cl_recv (h72.1.s (13, 5) (by decide))) rfl rfl (ck_lsize (d := (d + 3)) h72 (by decide) ) ?_
    rintro v88 S89 ⟨r90, rfl, rfl, h92, h93, h94⟩
    have h92_ : r90.toInt = iv S67 13 1 := h92
    have h93_ : 0 ≤ r90.toInt := h93
    have h94_ : r90.toInt ≤ 100000 := h94
    show am_E _ _ _ _ [some (.ref 12)] [.int r90, .ref 13, .ref 12] _ _
    refine am_e0 hi_80_58 ?_
    obtain ⟨z96, hz96, tz96⟩ := am_subI (x := r90) (y := 1) (m := r90.toInt) (n := (1 : Int)) rfl (by decide) (by omega) (by omega)
    refine am_e10 (z := z96) hi_80_59 hz96 ?_
    refine am_e32n (as := [.ref 13, .int z96]) (la := [some (.ref 13), some (.int z96)]) (rest := [.ref 12]) hi_80_60 (am_hd0 (M := 80) (by decide) 60) (Nat.le_of_ble_eq_true rfl) (Nat.le_of_ble_eq_true rfl) (show 2 ≤ am_P0.2.2.1 25 from by decide +kernel) rfl (cl_recv (h72.1.s (13, 5) (by decide))) rfl rfl (ck_lget (d := (d + 1)) h72 (by decide) (by show 0 ≤ z96.toInt; omega) (by show z96.toInt + 1 ≤ iv S67 13 1; omega)) ?_
    rintro v97 S98 ⟨r99, rfl, hb101, rfl⟩
    show am_E _ _ _ _ [some (.ref 12)] [.ref r99, .ref 12] _ _
    obtain ⟨f102, hf102⟩ := cl_of hb101
    refine am_e30 hi_80_63 hf102 ?_
    refine cm_21n (t := 18) (v := .ref r99) h72 hi_80_66 (h72.1.s (12, 7) (by decide)) (by decide) rfl ⟨_, rfl, hb101⟩ rfl fun S103 h104 => ?_
    obtain ⟨h105, h106, ⟨h107, h108, h109, h110⟩, h111, h113, h114⟩ := h104
    have h116 : kd aw S103 = kd aw S67 := kd_eq h107 h110
    have h117 := h113 8 (h72.1.s (8, 3) (by decide))
    have h118 := h113 10 (h72.1.s (10, 3) (by decide))
    have h119 := os_5 h111 1
    have h120 := os_6 h111 1
    have h121 := os_13 h111 1
    refine am_e35 hi_80_69 ?_
    exact ⟨rfl, ⟨h105, (((h9.trans h34).trans h73).trans h106), ⟨(by show nx S103 = nx S; omega), (by show lv S103 = lv S; omega), (by show wr S103 = wr S; omega), (h110.trans (h77.trans (h38.trans h13)))⟩⟩, (by show iv S103 8 1 = iv S 8 1; omega), (by show iv S103 10 1 = iv S 10 1; omega), (by show iv S103 5 1 = iv S 5 1; omega), (by show (2 ≤ iv S 13 1 ∧ iv S103 13 1 = iv S 13 1 - 1) ∨ (iv S 13 1 < 2 ∧ iv S103 13 1 = iv S 13 1); omega), (by show EN S103 ≤ EN S + 0; omega)⟩
theorem cf_bringIn {sc : Nat × (Nat → Int32)} {d aw : Nat} {Sb : am_S} {x : Int32} {Q : Option (Option Value) → am_S → Prop} (h : SH aw Sb) (hx0 : ∀ (S : am_S) (x5 : Option Value) (f n i : Int32), Qv aw Sb S → (EN S ≤ EN Sb + 160 * iv Sb 13 1) → (iv S 8 1 = iv Sb 8 1) → (iv S 10 1 = iv Sb 10 1) → (iv S 14 1 = iv Sb 14 1) → am_E (am_PP sc) (d + 4) 68 69 [some (.ref 12), some (.int x), some (.int f), some (.int n), some (.int i), x5] [] S Q) : ∀ (N : Nat) (S : am_S) (x5 : Option Value) (f n i : Int32), Qv aw Sb S → (0 ≤ i.toInt) → (i.toInt ≤ iv Sb 13 1) → (EN S ≤ EN Sb + 160 * i.toInt) → (iv S 8 1 = iv Sb 8 1) → (iv S 10 1 = iv Sb 10 1) → (iv S 14 1 = iv Sb 14 1) → 2147483647 - i.toInt < (N : Int) → am_E (am_PP sc) (d + 4) 68 7 [some (.ref 12), some (.int x), some (.int f), some (.int n), some (.int i), x5] [] S Q := by
  intro N
  induction N with
  | zero =>
    intro S x5 f n i hrel  i0 i1 i2 i3 i4 i5 hN
    have := i32_le f
    have := i32_le n
    have := i32_le i
    have := i32_ge f
    have := i32_ge n
    have := i32_ge i
    exfalso
    omega
  | succ N ih =>
    intro S x5 f n i hrel  i0 i1 i2 i3 i4 i5 hN
    have hl_f := i32_le f
    have hg_f := i32_ge f
    have hl_n := i32_le n
    have hg_n := i32_ge n
    have hl_i := i32_le i
    have hg_i := i32_ge i
    obtain ⟨h1, h2, ⟨h3, h4, h5, h6⟩, ⟨h7, h8, h9⟩⟩ := hrel
    have h12 : kd aw S = kd aw Sb := kd_eq h3 h6
    have h13 := os_13 h7 1
    refine am_e1 (v := i) hi_68_7 rfl ?_
    refine am_e2 (v := 12) hi_68_9 rfl ?_
    refine cm_20f (r := 13) h1 hi_68_10 (h1.1.s (12, 7) (by decide)) (by decide) rfl ?_
    refine am_e32n (as := [.ref 13]) (la := [some (.ref 13)]) (rest := [.int i]) hi_68_13 (am_hd0 (M := 68) (by decide) 13) (Nat.le_of_ble_eq_true rfl) (Nat.le_of_ble_eq_true rfl) (show 1 ≤ am_P0.2.2.1 14 from by decide +kernel) rfl (cl_recv (h1.1.s (13, 5) (by decide))) rfl rfl (ck_lsize (d := (d + 3)) h1 (by decide) ) ?_
    rintro v14 S15 ⟨r16, rfl, rfl, h18, h19, h20⟩
    have h18_ : r16.toInt = iv S 13 1 := h18
    have h19_ : 0 ≤ r16.toInt := h19
    have h20_ : r16.toInt ≤ 100000 := h20
    show am_E _ _ _ _ [some (.ref 12), some (.int x), some (.int f), some (.int n), some (.int i), x5] [.int r16, .int i] _ _
    by_cases c22 : r16.toInt ≤ i.toInt
    · refine am_e13t hi_68_16 (am_cT (m := i.toInt) (n := r16.toInt) rfl rfl c22) ?_
      exact hx0 _ x5 f n i ⟨h1, h2, ⟨(by show nx S = nx Sb; omega), (by show lv S = lv Sb; omega), (by show wr S = wr Sb; omega), h6⟩, ⟨h7, h8, (by show fl S = fl Sb; omega)⟩⟩ (by show EN S ≤ EN Sb + 160 * iv Sb 13 1; omega) (by show iv S 8 1 = iv Sb 8 1; omega) (by show iv S 10 1 = iv Sb 10 1; omega) (by show iv S 14 1 = iv Sb 14 1; omega)
    · refine am_e13f hi_68_16 (am_cF (m := i.toInt) (n := r16.toInt) rfl rfl c22) ?_
      refine am_e2 (v := 12) hi_68_19 rfl ?_
      refine cm_20f (r := 13) h1 hi_68_20 (h1.1.s (12, 7) (by decide)) (by decide) rfl ?_
      refine am_e1 (v := i) hi_68_23 rfl ?_
      refine am_e32n (as := [.ref 13, .int i]) (la := [some (.ref 13), some (.int i)]) (rest := []) hi_68_25 (am_hd0 (M := 68) (by decide) 25) (Nat.le_of_ble_eq_true rfl) (Nat.le_of_ble_eq_true rfl) (show 2 ≤ am_P0.2.2.1 25 from by decide +kernel) rfl (cl_recv (h1.1.s (13, 5) (by decide))) rfl rfl (ck_lget (d := (d + 1)) h1 (by decide) (by show 0 ≤ i.toInt; omega) (by show i.toInt + 1 ≤ iv S 13 1; omega)) ?_
      rintro v23 S24 ⟨r25, rfl, hb27, rfl⟩
      show am_E _ _ _ _ [some (.ref 12), some (.int x), some (.int f), some (.int n), some (.int i), x5] [.ref r25] _ _
      obtain ⟨f28, hf28⟩ := cl_of hb27
      refine am_e30 hi_68_28 hf28 ?_
      refine am_e4 (ls' := [some (.ref 12), some (.int x), some (.int f), some (.int n), some (.int i), some (.ref r25)]) hi_68_31 (Nat.le_of_ble_eq_true rfl) rfl ?_
      refine am_e2 (v := r25) hi_68_33 rfl ?_
      refine cm_20s h1 hi_68_35 hb27 (by decide) rfl fun v29 hv29 hv29a hv29b => ?_
      refine am_e1 (v := x) hi_68_38 rfl ?_
      by_cases c30 : x.toInt < v29.toInt
      · refine am_e13t hi_68_39 (am_cT (m := v29.toInt) (n := x.toInt) rfl rfl c30) ?_
        refine am_e2 (v := r25) hi_68_53 rfl ?_
        refine am_e1 (v := f) hi_68_55 rfl ?_
        refine am_e1 (v := n) hi_68_56 rfl ?_
        refine am_e32n (as := [.ref r25, .int f, .int n]) (la := [some (.ref r25), some (.int f), some (.int n), none]) (rest := []) hi_68_57 (am_hd0 (M := 68) (by decide) 57) (Nat.le_of_ble_eq_true rfl) (Nat.le_of_ble_eq_true rfl) (show 3 ≤ am_P0.2.2.1 69 from by decide +kernel) rfl (cl_recv hb27) rfl rfl (ck_outerNumber (d := d) h1 hb27  ) ?_
        rintro v31 S32 ⟨r33, rfl, h34, h35, h36, h37⟩
        have h35_ : iv S32 8 1 = iv S 8 1 := h35
        have h36_ : iv S32 10 1 = iv S 10 1 := h36
        have h37_ : iv S32 14 1 = iv S 14 1 := h37
        obtain ⟨h39, h40, ⟨h41, h42, h43, h44⟩, ⟨h45, h46, h47⟩, h49⟩ := h34
        have h50 : kd aw S32 = kd aw S := kd_eq h41 h44
        have h51 := os_13 h45 1
        have hk52 := h40.1 _ _ hb27
        show am_E _ _ _ _ [some (.ref 12), some (.int x), some (.int f), some (.int n), some (.int i), some (.ref r25)] [.int r33] _ _
        refine am_e3 (ls' := [some (.ref 12), some (.int x), some (.int f), some (.int r33), some (.int i), some (.ref r25)]) hi_68_60 (Nat.le_of_ble_eq_true rfl) rfl ?_
        refine am_e0 hi_68_61 ?_
        refine am_e3 (ls' := [some (.ref 12), some (.int x), some (.int 0), some (.int r33), some (.int i), some (.ref r25)]) hi_68_62 (Nat.le_of_ble_eq_true rfl) rfl ?_
        obtain ⟨z53, hz53, tz53⟩ := am_addI (x := i) (y := 1) (m := i.toInt) (n := (1 : Int)) rfl (by decide) (by omega) (by omega)
        refine am_e5 (v := i) (z := z53) (ls' := [some (.ref 12), some (.int x), some (.int 0), some (.int r33), some (.int z53), some (.ref r25)]) hi_68_63 rfl hz53 rfl ?_
        refine am_e18 hi_68_66 ?_
        exact ih _ (some (.ref r25)) 0 r33 z53 ⟨h39, (h2.trans h40), ⟨(by show nx S32 = nx Sb; omega), (by show lv S32 = lv Sb; omega), (by show wr S32 = wr Sb; omega), (h44.trans h6)⟩, ⟨(h45.trans h7), (h46.trans h8), (by show fl S32 = fl Sb; omega)⟩⟩ (by show 0 ≤ z53.toInt; omega) (by show z53.toInt ≤ iv Sb 13 1; omega) (by show EN S32 ≤ EN Sb + 160 * z53.toInt; omega) (by show iv S32 8 1 = iv Sb 8 1; omega) (by show iv S32 10 1 = iv Sb 10 1; omega) (by show iv S32 14 1 = iv Sb 14 1; omega) (by show 2147483647 - z53.toInt < (N : Int); omega)
      · refine am_e13f hi_68_39 (am_cF (m := v29.toInt) (n := x.toInt) rfl rfl c30) ?_
        refine am_e1 (v := x) hi_68_42 rfl ?_
        refine am_e2 (v := r25) hi_68_43 rfl ?_
        refine cm_20s h1 hi_68_45 hb27 (by decide) rfl fun v54 hv54 hv54a hv54b => ?_
        obtain ⟨z55, hz55⟩ : ∃ q__, am_bin 1 x v54 = q__ := ⟨_, rfl⟩
        refine am_e10 (z := z55) hi_68_48 hz55 ?_
        refine am_e3 (ls' := [some (.ref 12), some (.int x), some (.int f), some (.int z55), some (.int i), some (.ref r25)]) hi_68_49 (Nat.le_of_ble_eq_true rfl) rfl ?_
        refine am_e18 hi_68_50 ?_
        obtain ⟨z56, hz56, tz56⟩ := am_addI (x := i) (y := 1) (m := i.toInt) (n := (1 : Int)) rfl (by decide) (by omega) (by omega)
        refine am_e5 (v := i) (z := z56) (ls' := [some (.ref 12), some (.int x), some (.int f), some (.int z55), some (.int z56), some (.ref r25)]) hi_68_63 rfl hz56 rfl ?_
        refine am_e18 hi_68_66 ?_
        exact ih _ (some (.ref r25)) f z55 z56 ⟨h1, h2, ⟨(by show nx S = nx Sb; omega), (by show lv S = lv Sb; omega), (by show wr S = wr Sb; omega), h6⟩, ⟨h7, h8, (by show fl S = fl Sb; omega)⟩⟩ (by show 0 ≤ z56.toInt; omega) (by show z56.toInt ≤ iv Sb 13 1; omega) (by show EN S ≤ EN Sb + 160 * z56.toInt; omega) (by show iv S 8 1 = iv Sb 8 1; omega) (by show iv S 10 1 = iv Sb 10 1; omega) (by show iv S 14 1 = iv Sb 14 1; omega) (by show 2147483647 - z56.toInt < (N : Int); omega)
theorem ck_bringIn {sc : Nat × (Nat → Int32)} {d aw : Nat} {S : am_S} {x : Int32} (h : SH aw S) (p0 : iv S 13 1 ≤ 49) (p1 : 0 ≤ iv S 13 1) : am_E (am_PP sc) (d + 4) 68 0 [some (.ref 12), some (.int x), none, none, none, none] [] S (am_N fun v S1 => ∃ r : Int32, v = some (.int r) ∧ Qu aw (7840) S S1 ∧ (iv S1 8 1 = iv S 8 1) ∧ (iv S1 10 1 = iv S 10 1) ∧ (iv S1 14 1 = iv S 14 1)) := by
  refine am_e0 hi_68_0 ?_
  refine am_e3 (ls' := [some (.ref 12), some (.int x), some (.int 1), none, none, none]) hi_68_1 (Nat.le_of_ble_eq_true rfl) rfl ?_
  refine am_e1 (v := x) hi_68_2 rfl ?_
  refine am_e3 (ls' := [some (.ref 12), some (.int x), some (.int 1), some (.int x), none, none]) hi_68_3 (Nat.le_of_ble_eq_true rfl) rfl ?_
  refine am_e0 hi_68_4 ?_
  refine am_e3 (ls' := [some (.ref 12), some (.int x), some (.int 1), some (.int x), some (.int 0), none]) hi_68_5 (Nat.le_of_ble_eq_true rfl) rfl ?_
  refine cf_bringIn (d := d) (Sb := S) (x := x) h    ?_ ((2147483647 - (0 : Int)).toNat + 1) S none 1 x 0 ⟨h, Ex.refl _, ⟨rfl, rfl, rfl, rfl⟩, ⟨rfl, rfl, rfl⟩⟩ (by show 0 ≤ (0 : Int); omega) (by show (0 : Int) ≤ iv S 13 1; omega) (by show EN S ≤ EN S + 160 * (0 : Int); omega) (by show iv S 8 1 = iv S 8 1; omega) (by show iv S 10 1 = iv S 10 1; omega) (by show iv S 14 1 = iv S 14 1; omega) (by show 2147483647 - (0 : Int) < _; omega)
  · intro S4 x510 f1 n2 i3 h5 h6 h7 h8 h9
    have h6_ : EN S4 ≤ EN S + 160 * iv S 13 1 := h6
    have h7_ : iv S4 8 1 = iv S 8 1 := h7
    have h8_ : iv S4 10 1 = iv S 10 1 := h8
    have h9_ : iv S4 14 1 = iv S 14 1 := h9
    obtain ⟨h11, h12, ⟨h13, h14, h15, h16⟩, ⟨h17, h18, h19⟩⟩ := h5
    have h22 : kd aw S4 = kd aw S := kd_eq h13 h16
    have h23 := os_5 h17 1
    have h24 := os_6 h17 1
    have h25 := os_13 h17 1
    show am_E _ _ _ _ [some (.ref 12), some (.int x), some (.int f1), some (.int n2), some (.int i3), x510] [] _ _
    refine am_e1 (v := n2) hi_68_69 rfl ?_
    refine am_e33 hi_68_70 ?_
    exact ⟨n2, rfl, ⟨h11, h12, ⟨(by show nx S4 = nx S; omega), (by show lv S4 = lv S; omega), (by show wr S4 = wr S; omega), h16⟩, ⟨h17, h18, (by show fl S4 = fl S; omega)⟩, (by show EN S4 ≤ EN S + (7840); omega)⟩, (by show iv S4 8 1 = iv S 8 1; omega), (by show iv S4 10 1 = iv S 10 1; omega), (by show iv S4 14 1 = iv S 14 1; omega)⟩
theorem ck_find {sc : Nat × (Nat → Int32)} {d aw : Nat} {S : am_S} {x : Int32} (h : SH aw S) (p0 : iv S 13 1 ≤ 49) (p1 : 0 ≤ iv S 13 1) : am_E (am_PP sc) (d + 5) 66 0 [some (.ref 12), some (.int x), none] [] S (am_N fun v S1 => v = none ∧ Qu aw (7840) S S1 ∧ (iv S1 8 1 = iv S 8 1) ∧ (iv S1 10 1 = iv S 10 1) ∧ (iv S1 14 1 = iv S 14 1)) := by
  refine am_e2 (v := 12) hi_66_0 rfl ?_
  refine am_e1 (v := x) hi_66_1 rfl ?_
  refine am_e32n (as := [.ref 12, .int x]) (la := [some (.ref 12), some (.int x), none]) (rest := []) hi_66_2 (am_hd0 (M := 66) (by decide) 2) (Nat.le_of_ble_eq_true rfl) (Nat.le_of_ble_eq_true rfl) (show 2 ≤ am_P0.2.2.1 67 from by decide +kernel) rfl (cl_recv (h.1.s (12, 7) (by decide))) rfl rfl (ck_visible (d := (d + 3)) h   ) ?_
  rintro v1 S2 ⟨r3, rfl, rfl⟩
  show am_E _ _ _ _ [some (.ref 12), some (.int x), none] [.int r3] _ _
  refine am_e3 (ls' := [some (.ref 12), some (.int x), some (.int r3)]) hi_66_5 (Nat.le_of_ble_eq_true rfl) rfl ?_
  refine am_e2 (v := 12) hi_66_6 rfl ?_
  refine am_e1 (v := r3) hi_66_7 rfl ?_
  by_cases c6 : r3.toInt < (0 : Int)
  · refine am_e12t hi_66_8 (am_cT (m := r3.toInt) (n := (0 : Int)) rfl (by decide) c6) ?_
    refine am_e0 hi_66_29 ?_
    refine cm_21 (v := .int 0) h hi_66_30 (h.1.s (12, 7) (by decide)) (by decide) (by decide) rfl (Or.inl rfl) rfl fun S7 h8 => ?_
    obtain ⟨h9, h10, ⟨h11, h12, h13, h14⟩, ⟨h15, h16, h17⟩, h18, h19⟩ := h8
    have h20 : kd aw S7 = kd aw S := kd_eq h11 h14
    have h21 := h18 8 (h.1.s (8, 3) (by decide))
    have h22 := h18 10 (h.1.s (10, 3) (by decide))
    have h23 := h18 14 (h.1.s (14, 3) (by decide))
    have h24 := os_5 h15 1
    have h25 := os_6 h15 1
    have h26 := os_13 h15 1
    refine am_e1 (v := r3) hi_66_33 rfl ?_
    refine am_e12f hi_66_34 (am_cF (m := r3.toInt) (n := (0 : Int)) rfl (by decide) (by simp only [am_cI]; omega)) ?_
    refine am_e2 (v := 12) hi_66_37 rfl ?_
    refine am_e0 hi_66_38 ?_
    refine cm_21 (v := .int 10) h9 hi_66_40 (h9.1.s (12, 7) (by decide)) (by decide) (by decide) rfl ⟨_, rfl⟩ rfl fun S27 h28 => ?_
    obtain ⟨h29, h30, ⟨h31, h32, h33, h34⟩, ⟨h35, h36, h37⟩, h38, h39⟩ := h28
    have h40 : kd aw S27 = kd aw S7 := kd_eq h31 h34
    have h41 := h38 8 (h9.1.s (8, 3) (by decide))
    have h42 := h38 10 (h9.1.s (10, 3) (by decide))
    have h43 := h38 14 (h9.1.s (14, 3) (by decide))
    have h44 := os_5 h35 1
    have h45 := os_6 h35 1
    have h46 := os_13 h35 1
    refine am_e2 (v := 12) hi_66_43 rfl ?_
    refine am_e1 (v := x) hi_66_44 rfl ?_
    refine cm_21 (v := .int x) h29 hi_66_45 (h29.1.s (12, 7) (by decide)) (by decide) (by decide) rfl ⟨_, rfl⟩ rfl fun S47 h48 => ?_
    obtain ⟨h49, h50, ⟨h51, h52, h53, h54⟩, ⟨h55, h56, h57⟩, h58, h59⟩ := h48
    have h60 : kd aw S47 = kd aw S27 := kd_eq h51 h54
    have h61 := h58 8 (h29.1.s (8, 3) (by decide))
    have h62 := h58 10 (h29.1.s (10, 3) (by decide))
    have h63 := h58 14 (h29.1.s (14, 3) (by decide))
    have h64 := os_5 h55 1
    have h65 := os_6 h55 1
    have h66 := os_13 h55 1
    refine am_e18 hi_66_48 ?_
    refine am_e35 hi_66_99 ?_
    exact ⟨rfl, ⟨h49, ((h10.trans h30).trans h50), ⟨(by show nx S47 = nx S; omega), (by show lv S47 = lv S; omega), (by show wr S47 = wr S; omega), (h54.trans (h34.trans h14))⟩, ⟨(h55.trans (h35.trans h15)), (h56.trans (h36.trans h16)), (by show fl S47 = fl S; omega)⟩, (by show EN S47 ≤ EN S + (7840); omega)⟩, (by show iv S47 8 1 = iv S 8 1; omega), (by show iv S47 10 1 = iv S 10 1; omega), (by show iv S47 14 1 = iv S 14 1; omega)⟩
  · refine am_e12f hi_66_8 (am_cF (m := r3.toInt) (n := (0 : Int)) rfl (by decide) c6) ?_
    refine am_e2 (v := 12) hi_66_11 rfl ?_
    refine cm_20f (r := 14) h hi_66_12 (h.1.s (12, 7) (by decide)) (by decide) rfl ?_
    refine am_e1 (v := r3) hi_66_15 rfl ?_
    refine am_e0 hi_66_16 ?_
    refine am_e32n (as := [.ref 14, .int r3, .int 1]) (la := [some (.ref 14), some (.int r3), some (.int 1)]) (rest := [.ref 12]) hi_66_17 (am_hd0 (M := 66) (by decide) 17) (Nat.le_of_ble_eq_true rfl) (Nat.le_of_ble_eq_true rfl) (show 3 ≤ am_P0.2.2.1 54 from by decide +kernel) rfl (cl_recv (h.1.s (14, 3) (by decide))) rfl rfl (ck_get (d := (d + 4)) h (h.1.s (14, 3) (by decide))  ) ?_
    rintro v67 S68 ⟨r69, rfl, rfl⟩
    show am_E _ _ _ _ [some (.ref 12), some (.int x), some (.int r3)] [.int r69, .ref 12] _ _
    refine am_e0 hi_66_20 ?_
    obtain ⟨z72, hz72⟩ : ∃ q__, am_bin 3 r69 2 = q__ := ⟨_, rfl⟩
    refine am_e10 (z := z72) hi_66_21 hz72 ?_
    by_cases c73 : z72.toInt = (0 : Int)
    · refine am_e12t hi_66_22 (am_cT (m := z72.toInt) (n := (0 : Int)) rfl (by decide) c73) ?_
      refine am_e0 hi_66_29 ?_
      refine cm_21 (v := .int 0) h hi_66_30 (h.1.s (12, 7) (by decide)) (by decide) (by decide) rfl (Or.inl rfl) rfl fun S74 h75 => ?_
      obtain ⟨h76, h77, ⟨h78, h79, h80, h81⟩, ⟨h82, h83, h84⟩, h85, h86⟩ := h75
      have h87 : kd aw S74 = kd aw S := kd_eq h78 h81
      have h88 := h85 8 (h.1.s (8, 3) (by decide))
      have h89 := h85 10 (h.1.s (10, 3) (by decide))
      have h90 := h85 14 (h.1.s (14, 3) (by decide))
      have h91 := os_5 h82 1
      have h92 := os_6 h82 1
      have h93 := os_13 h82 1
      refine am_e1 (v := r3) hi_66_33 rfl ?_
      refine am_e12t hi_66_34 (am_cT (m := r3.toInt) (n := (0 : Int)) rfl (by decide) (by simp only [am_cI]; omega)) ?_
      refine am_e1 (v := r3) hi_66_51 rfl ?_
      refine am_e2 (v := 12) hi_66_52 rfl ?_
      refine cm_20n h76 hi_66_53 fun hb94 => ?_
      refine cm_20s h76 hi_66_56 hb94 (by decide) rfl fun v95 hv95 hv95a hv95b => ?_
      have hv95c : v95.toInt = fl S74 := hv95
      by_cases c96 : r3.toInt < v95.toInt
      · refine am_e13t hi_66_59 (am_cT (m := r3.toInt) (n := v95.toInt) rfl rfl c96) ?_
        refine am_e2 (v := 12) hi_66_84 rfl ?_
        refine am_e0 hi_66_85 ?_
        refine cm_21 (v := .int 9) h76 hi_66_87 (h76.1.s (12, 7) (by decide)) (by decide) (by decide) rfl ⟨_, rfl⟩ rfl fun S97 h98 => ?_
        obtain ⟨h99, h100, ⟨h101, h102, h103, h104⟩, ⟨h105, h106, h107⟩, h108, h109⟩ := h98
        have h110 : kd aw S97 = kd aw S74 := kd_eq h101 h104
        have h111 := h108 8 (h76.1.s (8, 3) (by decide))
        have h112 := h108 10 (h76.1.s (10, 3) (by decide))
        have h113 := h108 14 (h76.1.s (14, 3) (by decide))
        have h114 := os_5 h105 1
        have h115 := os_6 h105 1
        have h116 := os_13 h105 1
        refine am_e2 (v := 12) hi_66_90 rfl ?_
        refine am_e2 (v := 12) hi_66_91 rfl ?_
        refine am_e1 (v := r3) hi_66_92 rfl ?_
        refine am_e32n (as := [.ref 12, .int r3]) (la := [some (.ref 12), some (.int r3), none, none, none, none]) (rest := [.ref 12]) hi_66_93 (am_hd0 (M := 66) (by decide) 93) (Nat.le_of_ble_eq_true rfl) (Nat.le_of_ble_eq_true rfl) (show 2 ≤ am_P0.2.2.1 68 from by decide +kernel) rfl (cl_recv (h99.1.s (12, 7) (by decide))) rfl rfl (ck_bringIn (d := d) h99   (by show iv S97 13 1 ≤ 49; omega) (by show 0 ≤ iv S97 13 1; omega)) ?_
        rintro v117 S118 ⟨r119, rfl, h120, h121, h122, h123⟩
        have h121_ : iv S118 8 1 = iv S97 8 1 := h121
        have h122_ : iv S118 10 1 = iv S97 10 1 := h122
        have h123_ : iv S118 14 1 = iv S97 14 1 := h123
        obtain ⟨h125, h126, ⟨h127, h128, h129, h130⟩, ⟨h131, h132, h133⟩, h135⟩ := h120
        have h136 : kd aw S118 = kd aw S97 := kd_eq h127 h130
        have h137 := os_5 h131 1
        have h138 := os_6 h131 1
        have h139 := os_13 h131 1
        show am_E _ _ _ _ [some (.ref 12), some (.int x), some (.int r3)] [.int r119, .ref 12] _ _
        refine cm_21 (v := .int r119) h125 hi_66_96 (h125.1.s (12, 7) (by decide)) (by decide) (by decide) rfl ⟨_, rfl⟩ rfl fun S140 h141 => ?_
        obtain ⟨h142, h143, ⟨h144, h145, h146, h147⟩, ⟨h148, h149, h150⟩, h151, h152⟩ := h141
        have h153 : kd aw S140 = kd aw S118 := kd_eq h144 h147
        have h154 := h151 8 (h125.1.s (8, 3) (by decide))
        have h155 := h151 10 (h125.1.s (10, 3) (by decide))
        have h156 := h151 14 (h125.1.s (14, 3) (by decide))
        have h157 := os_5 h148 1
        have h158 := os_6 h148 1
        have h159 := os_13 h148 1
        refine am_e35 hi_66_99 ?_
        exact ⟨rfl, ⟨h142, (((h77.trans h100).trans h126).trans h143), ⟨(by show nx S140 = nx S; omega), (by show lv S140 = lv S; omega), (by show wr S140 = wr S; omega), (h147.trans (h130.trans (h104.trans h81)))⟩, ⟨(h148.trans (h131.trans (h105.trans h82))), (h149.trans (h132.trans (h106.trans h83))), (by show fl S140 = fl S; omega)⟩, (by show EN S140 ≤ EN S + (7840); omega)⟩, (by show iv S140 8 1 = iv S 8 1; omega), (by show iv S140 10 1 = iv S 10 1; omega), (by show iv S140 14 1 = iv S 14 1; omega)⟩
      · refine am_e13f hi_66_59 (am_cF (m := r3.toInt) (n := v95.toInt) rfl rfl c96) ?_
        refine am_e2 (v := 12) hi_66_62 rfl ?_
        refine am_e0 hi_66_63 ?_
        refine cm_21 (v := .int 8) h76 hi_66_65 (h76.1.s (12, 7) (by decide)) (by decide) (by decide) rfl ⟨_, rfl⟩ rfl fun S160 h161 => ?_
        obtain ⟨h162, h163, ⟨h164, h165, h166, h167⟩, ⟨h168, h169, h170⟩, h171, h172⟩ := h161
        have h173 : kd aw S160 = kd aw S74 := kd_eq h164 h167
        have h174 := h171 8 (h76.1.s (8, 3) (by decide))
        have h175 := h171 10 (h76.1.s (10, 3) (by decide))
        have h176 := h171 14 (h76.1.s (14, 3) (by decide))
        have h177 := os_5 h168 1
        have h178 := os_6 h168 1
        have h179 := os_13 h168 1
        refine am_e2 (v := 12) hi_66_68 rfl ?_
        refine am_e1 (v := r3) hi_66_69 rfl ?_
        refine am_e2 (v := 12) hi_66_70 rfl ?_
        refine cm_20n h162 hi_66_71 fun hb180 => ?_
        refine cm_20s h162 hi_66_74 hb180 (by decide) rfl fun v181 hv181 hv181a hv181b => ?_
        have hv181c : v181.toInt = fl S160 := hv181
        obtain ⟨z182, hz182⟩ : ∃ q__, am_bin 1 r3 v181 = q__ := ⟨_, rfl⟩
        refine am_e10 (z := z182) hi_66_77 hz182 ?_
        refine cm_21 (v := .int z182) h162 hi_66_78 (h162.1.s (12, 7) (by decide)) (by decide) (by decide) rfl ⟨_, rfl⟩ rfl fun S183 h184 => ?_
        obtain ⟨h185, h186, ⟨h187, h188, h189, h190⟩, ⟨h191, h192, h193⟩, h194, h195⟩ := h184
        have h196 : kd aw S183 = kd aw S160 := kd_eq h187 h190
        have h197 := h194 8 (h162.1.s (8, 3) (by decide))
        have h198 := h194 10 (h162.1.s (10, 3) (by decide))
        have h199 := h194 14 (h162.1.s (14, 3) (by decide))
        have h200 := os_5 h191 1
        have h201 := os_6 h191 1
        have h202 := os_13 h191 1
        refine am_e18 hi_66_81 ?_
        refine am_e35 hi_66_99 ?_
        exact ⟨rfl, ⟨h185, ((h77.trans h163).trans h186), ⟨(by show nx S183 = nx S; omega), (by show lv S183 = lv S; omega), (by show wr S183 = wr S; omega), (h190.trans (h167.trans h81))⟩, ⟨(h191.trans (h168.trans h82)), (h192.trans (h169.trans h83)), (by show fl S183 = fl S; omega)⟩, (by show EN S183 ≤ EN S + (7840); omega)⟩, (by show iv S183 8 1 = iv S 8 1; omega), (by show iv S183 10 1 = iv S 10 1; omega), (by show iv S183 14 1 = iv S 14 1; omega)⟩
    · refine am_e12f hi_66_22 (am_cF (m := z72.toInt) (n := (0 : Int)) rfl (by decide) c73) ?_
      refine am_e0 hi_66_25 ?_
      refine am_e18 hi_66_26 ?_
      refine cm_21 (v := .int 1) h hi_66_30 (h.1.s (12, 7) (by decide)) (by decide) (by decide) rfl (Or.inr rfl) rfl fun S203 h204 => ?_
      obtain ⟨h205, h206, ⟨h207, h208, h209, h210⟩, ⟨h211, h212, h213⟩, h214, h215⟩ := h204
      have h216 : kd aw S203 = kd aw S := kd_eq h207 h210
      have h217 := h214 8 (h.1.s (8, 3) (by decide))
      have h218 := h214 10 (h.1.s (10, 3) (by decide))
      have h219 := h214 14 (h.1.s (14, 3) (by decide))
      have h220 := os_5 h211 1
      have h221 := os_6 h211 1
      have h222 := os_13 h211 1
      refine am_e1 (v := r3) hi_66_33 rfl ?_
      refine am_e12t hi_66_34 (am_cT (m := r3.toInt) (n := (0 : Int)) rfl (by decide) (by simp only [am_cI]; omega)) ?_
      refine am_e1 (v := r3) hi_66_51 rfl ?_
      refine am_e2 (v := 12) hi_66_52 rfl ?_
      refine cm_20n h205 hi_66_53 fun hb223 => ?_
      refine cm_20s h205 hi_66_56 hb223 (by decide) rfl fun v224 hv224 hv224a hv224b => ?_
      have hv224c : v224.toInt = fl S203 := hv224
      by_cases c225 : r3.toInt < v224.toInt
      · refine am_e13t hi_66_59 (am_cT (m := r3.toInt) (n := v224.toInt) rfl rfl c225) ?_
        refine am_e2 (v := 12) hi_66_84 rfl ?_
        refine am_e0 hi_66_85 ?_
        refine cm_21 (v := .int 9) h205 hi_66_87 (h205.1.s (12, 7) (by decide)) (by decide) (by decide) rfl ⟨_, rfl⟩ rfl fun S226 h227 => ?_
        obtain ⟨h228, h229, ⟨h230, h231, h232, h233⟩, ⟨h234, h235, h236⟩, h237, h238⟩ := h227
        have h239 : kd aw S226 = kd aw S203 := kd_eq h230 h233
        have h240 := h237 8 (h205.1.s (8, 3) (by decide))
        have h241 := h237 10 (h205.1.s (10, 3) (by decide))
        have h242 := h237 14 (h205.1.s (14, 3) (by decide))
        have h243 := os_5 h234 1
        have h244 := os_6 h234 1
        have h245 := os_13 h234 1
        refine am_e2 (v := 12) hi_66_90 rfl ?_
        refine am_e2 (v := 12) hi_66_91 rfl ?_
        refine am_e1 (v := r3) hi_66_92 rfl ?_
        refine am_e32n (as := [.ref 12, .int r3]) (la := [some (.ref 12), some (.int r3), none, none, none, none]) (rest := [.ref 12]) hi_66_93 (am_hd0 (M := 66) (by decide) 93) (Nat.le_of_ble_eq_true rfl) (Nat.le_of_ble_eq_true rfl) (show 2 ≤ am_P0.2.2.1 68 from by decide +kernel) rfl (cl_recv (h228.1.s (12, 7) (by decide))) rfl rfl (ck_bringIn (d := d) h228   (by show iv S226 13 1 ≤ 49; omega) (by show 0 ≤ iv S226 13 1; omega)) ?_
        rintro v246 S247 ⟨r248, rfl, h249, h250, h251, h252⟩
        have h250_ : iv S247 8 1 = iv S226 8 1 := h250
        have h251_ : iv S247 10 1 = iv S226 10 1 := h251
        have h252_ : iv S247 14 1 = iv S226 14 1 := h252
        obtain ⟨h254, h255, ⟨h256, h257, h258, h259⟩, ⟨h260, h261, h262⟩, h264⟩ := h249
        have h265 : kd aw S247 = kd aw S226 := kd_eq h256 h259
        have h266 := os_5 h260 1
        have h267 := os_6 h260 1
        have h268 := os_13 h260 1
        show am_E _ _ _ _ [some (.ref 12), some (.int x), some (.int r3)] [.int r248, .ref 12] _ _
        refine cm_21 (v := .int r248) h254 hi_66_96 (h254.1.s (12, 7) (by decide)) (by decide) (by decide) rfl ⟨_, rfl⟩ rfl fun S269 h270 => ?_
        obtain ⟨h271, h272, ⟨h273, h274, h275, h276⟩, ⟨h277, h278, h279⟩, h280, h281⟩ := h270
        have h282 : kd aw S269 = kd aw S247 := kd_eq h273 h276
        have h283 := h280 8 (h254.1.s (8, 3) (by decide))
        have h284 := h280 10 (h254.1.s (10, 3) (by decide))
        have h285 := h280 14 (h254.1.s (14, 3) (by decide))
        have h286 := os_5 h277 1
        have h287 := os_6 h277 1
        have h288 := os_13 h277 1
        refine am_e35 hi_66_99 ?_
        exact ⟨rfl, ⟨h271, (((h206.trans h229).trans h255).trans h272), ⟨(by show nx S269 = nx S; omega), (by show lv S269 = lv S; omega), (by show wr S269 = wr S; omega), (h276.trans (h259.trans (h233.trans h210)))⟩, ⟨(h277.trans (h260.trans (h234.trans h211))), (h278.trans (h261.trans (h235.trans h212))), (by show fl S269 = fl S; omega)⟩, (by show EN S269 ≤ EN S + (7840); omega)⟩, (by show iv S269 8 1 = iv S 8 1; omega), (by show iv S269 10 1 = iv S 10 1; omega), (by show iv S269 14 1 = iv S 14 1; omega)⟩
      · refine am_e13f hi_66_59 (am_cF (m := r3.toInt) (n := v224.toInt) rfl rfl c225) ?_
        refine am_e2 (v := 12) hi_66_62 rfl ?_
        refine am_e0 hi_66_63 ?_
        refine cm_21 (v := .int 8) h205 hi_66_65 (h205.1.s (12, 7) (by decide)) (by decide) (by decide) rfl ⟨_, rfl⟩ rfl fun S289 h290 => ?_
        obtain ⟨h291, h292, ⟨h293, h294, h295, h296⟩, ⟨h297, h298, h299⟩, h300, h301⟩ := h290
        have h302 : kd aw S289 = kd aw S203 := kd_eq h293 h296
        have h303 := h300 8 (h205.1.s (8, 3) (by decide))
        have h304 := h300 10 (h205.1.s (10, 3) (by decide))
        have h305 := h300 14 (h205.1.s (14, 3) (by decide))
        have h306 := os_5 h297 1
        have h307 := os_6 h297 1
        have h308 := os_13 h297 1
        refine am_e2 (v := 12) hi_66_68 rfl ?_
        refine am_e1 (v := r3) hi_66_69 rfl ?_
        refine am_e2 (v := 12) hi_66_70 rfl ?_
        refine cm_20n h291 hi_66_71 fun hb309 => ?_
        refine cm_20s h291 hi_66_74 hb309 (by decide) rfl fun v310 hv310 hv310a hv310b => ?_
        have hv310c : v310.toInt = fl S289 := hv310
        obtain ⟨z311, hz311⟩ : ∃ q__, am_bin 1 r3 v310 = q__ := ⟨_, rfl⟩
        refine am_e10 (z := z311) hi_66_77 hz311 ?_
        refine cm_21 (v := .int z311) h291 hi_66_78 (h291.1.s (12, 7) (by decide)) (by decide) (by decide) rfl ⟨_, rfl⟩ rfl fun S312 h313 => ?_
        obtain ⟨h314, h315, ⟨h316, h317, h318, h319⟩, ⟨h320, h321, h322⟩, h323, h324⟩ := h313
        have h325 : kd aw S312 = kd aw S289 := kd_eq h316 h319
        have h326 := h323 8 (h291.1.s (8, 3) (by decide))
        have h327 := h323 10 (h291.1.s (10, 3) (by decide))
        have h328 := h323 14 (h291.1.s (14, 3) (by decide))
        have h329 := os_5 h320 1
        have h330 := os_6 h320 1
        have h331 := os_13 h320 1
        refine am_e18 hi_66_81 ?_
        refine am_e35 hi_66_99 ?_
        exact ⟨rfl, ⟨h314, ((h206.trans h292).trans h315), ⟨(by show nx S312 = nx S; omega), (by show lv S312 = lv S; omega), (by show wr S312 = wr S; omega), (h319.trans (h296.trans h210))⟩, ⟨(h320.trans (h297.trans h211)), (h321.trans (h298.trans h212)), (by show fl S312 = fl S; omega)⟩, (by show EN S312 ≤ EN S + (7840); omega)⟩, (by show iv S312 8 1 = iv S 8 1; omega), (by show iv S312 10 1 = iv S 10 1; omega), (by show iv S312 14 1 = iv S 14 1; omega)⟩
