/-! THE CLASS: the table of words, a word more; a call that is caught -/
theorem cw_grow {a n a1 m : Nat} {S S1 : am_S} {r : Int32} (h : SH a S) (ht : am_fs S 3 = some (3, [.ref a, .int r])) (hA : am_arq S a = some (false, n)) (hc : Cp a S S1 a1 m) (hm : m = 2 * n) (h32 : 32 ≤ n) (hn : n ≤ 4194308) (h0 : 0 ≤ r.toInt) (hr : 4 * r.toInt ≤ n) (hr2 : (n : Int) < 4 * r.toInt + 4) :
    SH a1 (am_so S1 3 (3, [.ref a1, .int r])) ∧ Ex S (am_so S1 3 (3, [.ref a1, .int r])) ∧ EN (am_so S1 3 (3, [.ref a1, .int r])) ≤ EN S + 128 ∧ am_fs (am_so S1 3 (3, [.ref a1, .int r])) 3 = some (3, [.ref a1, .int r]) ∧ am_arq (am_so S1 3 (3, [.ref a1, .int r])) a1 = some (false, m) ∧ 94 ≤ a1 := by
  obtain ⟨c1, c2, c3, c4, ⟨c5, c5o⟩, c6, c7, c8, c9, c10⟩ := hc
  have ht1 : am_fs S1 3 = some (3, [.ref a, .int r]) := by rw [c7]; exact ht
  have h94 : 94 ≤ a1 := by rw [c1]; exact h.2
  have hA1 : am_arq S1 a = some (false, n) := c9 _ _ hA
  refine ⟨⟨?_, ?_⟩, ?_, ?_, ?_, ?_, h94⟩
  · rw [so_fs ht1, so_arq ht1, so_rar ht1, so_rrf ht1]
    have := c2.1.tab (t := 3) (a := a1) (n := m) (r := r) ht1 c8 (Or.inr h94) h0 (by omega) (by omega) (by omega) (by rw [if_pos rfl]; trivial) (fun _ k a' r' hk hF e => by
      obtain ⟨n', hn', -⟩ := h.1.tb k a' r' (by rw [← c7]; exact hF)
      have hl := am_ltl (am_arq_ok hn')
      rw [e, c1] at hl
      exact Nat.lt_irrefl _ hl)
    rw [if_pos rfl] at this
    exact this
  · rw [so_len]
    exact c2.2
  · exact c3.trans (so_ex ht1 (by decide) (fun j c' fs' hj => c2.1.rf j c' fs' hj))
  · have hs := c_sum_upd (k := 3) (f := c_phi (am_fs S1) (am_arq S1)) (f' := c_phi (c_set (am_fs S1) 3 (3, [.ref a1, .int r])) (am_arq S1)) _ (am_ltl (am_fs_ok ht1)) (fun j hj => by unfold c_phi; rw [c_set_ne hj])
    rw [c_phi_tab ht1 hA1, c_phi_tab (F := c_set (am_fs S1) 3 (3, [.ref a1, .int r])) c_set_eq c8] at hs
    have h8 : iv (am_so S1 3 (3, [.ref a1, .int r])) 8 1 = iv S1 8 1 := iv_so ht1 (by decide)
    have h10 : iv (am_so S1 3 (3, [.ref a1, .int r])) 10 1 = iv S1 10 1 := iv_so ht1 (by decide)
    have hE : EN (am_so S1 3 (3, [.ref a1, .int r])) = EN S1 - (if 32 * r.toInt - 4 * (n : Int) ≤ 0 then 0 else 32 * r.toInt - 4 * (n : Int)) + (if 32 * r.toInt - 4 * (m : Int) ≤ 0 then 0 else 32 * r.toInt - 4 * (m : Int)) := by
      unfold EN
      rw [so_fs ht1, so_arq ht1, so_len, hs, h8, h10]
      show 128 * (S1.2.1 : Int) + S1.2.2 + _ + _ + _ = _
      omega
    rw [hE, c6]
    split <;> split <;> omega
  · rw [so_fs ht1, c_set_eq]
  · rw [so_arq ht1]
    exact c8
theorem cw_tail {sc : Nat × (Nat → Int32)} {d a n : Nat} {S : am_S} {r z1 x1 x2 x3 x4 : Int32} (h : SH a S) (hfs : am_fs S 3 = some (3, [.ref a, .int r])) (hA : am_arq S a = some (false, n)) (hr : a < 39 ∨ 94 ≤ a) (b0 : 0 ≤ r.toInt) (b1 : 4 * r.toInt + 4 ≤ n) (b3 : n ≤ 16777232) (tz1 : z1.toInt = 4 * r.toInt) : am_E (am_PP sc) d 31 52 [some (.ref 3), some (.int x1), some (.int x2), some (.int x3), some (.int x4), some (.int z1)] [] S (am_N fun v S1 => ∃ q : Int32, v = some (.int q) ∧ SH a S1 ∧ Ex S S1 ∧ wr S1 = r.toInt + 1 ∧ EN S1 ≤ EN S + 32) := by
  refine am_e2 (v := 3) hi_31_52 rfl ?_
  refine am_e20 (v := .ref a) hi_31_53 hfs rfl ?_
  refine am_e1 (v := z1) hi_31_56 rfl ?_
  refine am_e1 (v := x1) hi_31_58 rfl ?_
  refine cm_26w h hi_31_59 hA hr (by omega) (by omega) fun S1 h1 e1 i1 n1 f1 q1 => ?_
  have hf1 : am_fs S1 3 = some (3, [.ref a, .int r]) := by rw [f1]; exact hfs
  have hA1 : am_arq S1 a = some (false, n) := by rw [q1]; exact hA
  show am_E _ _ _ _ [some (.ref 3), some (.int x1), some (.int x2), some (.int x3), some (.int x4), some (.int z1)] [] _ _
  refine am_e2 (v := 3) hi_31_60 rfl ?_
  refine am_e20 (v := .ref a) hi_31_61 hf1 rfl ?_
  refine am_e1 (v := z1) hi_31_64 rfl ?_
  refine am_e0 hi_31_66 ?_
  obtain ⟨y1, hy1, ty1⟩ := am_addI (x := z1) (y := 1) (m := z1.toInt) (n := (1 : Int)) rfl (by decide) (by omega) (by omega)
  refine am_e10 (z := y1) hi_31_67 hy1 ?_
  refine am_e1 (v := x2) hi_31_68 rfl ?_
  refine cm_26w h1 hi_31_69 hA1 hr (by omega) (by omega) fun S2 h2 e2 i2 n2 f2 q2 => ?_
  have hf2 : am_fs S2 3 = some (3, [.ref a, .int r]) := by rw [f2]; exact hf1
  have hA2 : am_arq S2 a = some (false, n) := by rw [q2]; exact hA1
  show am_E _ _ _ _ [some (.ref 3), some (.int x1), some (.int x2), some (.int x3), some (.int x4), some (.int z1)] [] _ _
  refine am_e2 (v := 3) hi_31_70 rfl ?_
  refine am_e20 (v := .ref a) hi_31_71 hf2 rfl ?_
  refine am_e1 (v := z1) hi_31_74 rfl ?_
  refine am_e0 hi_31_76 ?_
  obtain ⟨y2, hy2, ty2⟩ := am_addI (x := z1) (y := 2) (m := z1.toInt) (n := (2 : Int)) rfl (by decide) (by omega) (by omega)
  refine am_e10 (z := y2) hi_31_77 hy2 ?_
  refine am_e1 (v := x3) hi_31_78 rfl ?_
  refine cm_26w h2 hi_31_79 hA2 hr (by omega) (by omega) fun S3 h3 e3 i3 n3 f3 q3 => ?_
  have hf3 : am_fs S3 3 = some (3, [.ref a, .int r]) := by rw [f3]; exact hf2
  have hA3 : am_arq S3 a = some (false, n) := by rw [q3]; exact hA2
  show am_E _ _ _ _ [some (.ref 3), some (.int x1), some (.int x2), some (.int x3), some (.int x4), some (.int z1)] [] _ _
  refine am_e2 (v := 3) hi_31_80 rfl ?_
  refine am_e20 (v := .ref a) hi_31_81 hf3 rfl ?_
  refine am_e1 (v := z1) hi_31_84 rfl ?_
  refine am_e0 hi_31_86 ?_
  obtain ⟨y3, hy3, ty3⟩ := am_addI (x := z1) (y := 3) (m := z1.toInt) (n := (3 : Int)) rfl (by decide) (by omega) (by omega)
  refine am_e10 (z := y3) hi_31_87 hy3 ?_
  refine am_e1 (v := x4) hi_31_88 rfl ?_
  refine cm_26w h3 hi_31_90 hA3 hr (by omega) (by omega) fun S4 h4 e4 i4 n4 f4 q4 => ?_
  have hf4 : am_fs S4 3 = some (3, [.ref a, .int r]) := by rw [f4]; exact hf3
  have hA4 : am_arq S4 a = some (false, n) := by rw [q4]; exact hA3
  show am_E _ _ _ _ [some (.ref 3), some (.int x1), some (.int x2), some (.int x3), some (.int x4), some (.int z1)] [] _ _
  refine am_e2 (v := 3) hi_31_91 rfl ?_
  refine am_e7 hi_31_92 ?_
  refine am_e20 (v := .int r) hi_31_93 hf4 rfl ?_
  refine am_e0 hi_31_96 ?_
  obtain ⟨w, hw, tw⟩ := am_addI (x := r) (y := 1) (m := r.toInt) (n := (1 : Int)) rfl (by decide) (by omega) (by omega)
  refine am_e10 (z := w) hi_31_97 hw ?_
  obtain ⟨g1, g2, g3⟩ := h4.rows (r' := w) hf4 hA4 (by omega) (by omega)
  refine cm_21r h4 hi_31_98 hf4 hA4 rfl (by omega) (by omega) fun S5 e5 => ?_
  have g4 : am_fs S5 3 = some (3, [.ref a, .int w]) := by rw [e5, so_fs hf4, c_set_eq]
  refine am_e2 (v := 3) hi_31_101 rfl ?_
  refine am_e20 (v := .int w) hi_31_102 g4 rfl ?_
  refine am_e0 hi_31_105 ?_
  obtain ⟨u, hu, tu⟩ := am_subI (x := w) (y := 1) (m := w.toInt) (n := (1 : Int)) rfl (by decide) (by omega) (by omega)
  refine am_e10 (z := u) hi_31_106 hu ?_
  refine am_e33 hi_31_107 ⟨u, rfl, by rw [e5]; exact g1, ?_, ?_, ?_⟩
  · rw [e5]; exact (((e1.trans e2).trans e3).trans e4).trans g2
  · rw [show wr S5 = w.toInt from by rw [e5]; exact iv_tab hf4]; exact tw
  · rw [e5, g3, show c_w 3 = 0 from rfl, Int.zero_mul]; split <;> split <;> omega
theorem ck_addw {sc : Nat × (Nat → Int32)} {d aw : Nat} {S : am_S} {x1 x2 x3 x4 : Int32} (h : SH aw S) (hw : wr S ≤ 600) : am_E (am_PP sc) (d + 2) 31 0 [some (.ref 3), some (.int x1), some (.int x2), some (.int x3), some (.int x4), none] [] S (am_N fun v S1 => ∃ (q : Int32) (aw1 : Nat), v = some (.int q) ∧ SH aw1 S1 ∧ Ex S S1 ∧ wr S1 = wr S + 1 ∧ EN S1 ≤ EN S + 160) := by
  obtain ⟨a, r, n, hfs, hA, b0, b1, b2, b3, b4, b5, b6, b7⟩ := h.tab (h.1.s (3, 3) (by decide))
  have ea := b7 rfl
  subst ea
  have b8 : r.toInt = wr S := b6
  refine am_e2 (v := 3) hi_31_0 rfl ?_
  refine am_e20 (v := .int r) hi_31_1 hfs rfl ?_
  refine am_e0 hi_31_4 ?_
  obtain ⟨z1, hz1, tz1⟩ := am_mulI (x := r) (y := 4) (m := r.toInt) (n := (4 : Int)) rfl (by decide) (by omega) (by omega)
  refine am_e10 (z := z1) hi_31_5 hz1 ?_
  refine am_e3 (ls' := [some (.ref 3), some (.int x1), some (.int x2), some (.int x3), some (.int x4), some (.int z1)]) hi_31_6 (Nat.le_of_ble_eq_true rfl) rfl ?_
  refine am_e1 (v := z1) hi_31_8 rfl ?_
  refine am_e0 hi_31_10 ?_
  obtain ⟨z2, hz2, tz2⟩ := am_addI (x := z1) (y := 4) (m := z1.toInt) (n := (4 : Int)) rfl (by decide) (by omega) (by omega)
  refine am_e10 (z := z2) hi_31_11 hz2 ?_
  refine am_e2 (v := 3) hi_31_12 rfl ?_
  refine am_e20 (v := .ref a) hi_31_13 hfs rfl ?_
  obtain ⟨z3, hz3, tz3⟩ := of_nat (n := n) (by omega)
  refine am_e24 hi_31_16 hA hz3 ?_
  by_cases c4 : z2.toInt ≤ z3.toInt
  · refine am_e13t hi_31_17 (am_cT (m := z2.toInt) (n := z3.toInt) rfl rfl c4) ?_
    refine am_E.mono (cw_tail h hfs hA b5 b0 (by omega) (by omega) (by omega)) ?_
    rintro (_ | v) S1 q
    · exact (show False from q).elim
    · obtain ⟨q1, e, q2, q3, q4, q5⟩ := q
      exact ⟨q1, a, e, q2, q3, by omega, by omega⟩
  · refine am_e13f hi_31_17 (am_cF (m := z2.toInt) (n := z3.toInt) rfl rfl c4) ?_
    refine am_e2 (v := 3) hi_31_20 rfl ?_
    refine am_e20 (v := .int r) hi_31_21 hfs rfl ?_
    refine am_e0 hi_31_24 ?_
    refine am_e13t hi_31_26 (am_cT (m := r.toInt) (n := (1048576 : Int)) rfl (by decide) (by simp only [am_cI]; omega)) ?_
    refine am_e2 (v := 3) hi_31_34 rfl ?_
    refine am_e2 (v := 3) hi_31_35 rfl ?_
    refine am_e20 (v := .ref a) hi_31_36 hfs rfl ?_
    refine am_e2 (v := 3) hi_31_39 rfl ?_
    refine am_e20 (v := .ref a) hi_31_40 hfs rfl ?_
    refine am_e24 hi_31_43 hA hz3 ?_
    refine am_e0 hi_31_44 ?_
    obtain ⟨z5, hz5, tz5⟩ := am_mulI (x := z3) (y := 2) (m := z3.toInt) (n := (2 : Int)) rfl (by decide) (by omega) (by omega)
    refine am_e10 (z := z5) hi_31_45 hz5 ?_
    refine am_e32n (as := [.ref a, .int z5]) (la := [some (.ref a), some (.int z5), none]) (rest := [.ref 3]) hi_31_46 (am_hd0 (M := 31) (by decide) 46) (Nat.le_of_ble_eq_true rfl) (Nat.le_of_ble_eq_true rfl) (show 2 ≤ am_P0.2.2.1 32 from by decide +kernel) rfl rfl rfl rfl (ck_copy (d := d) (n := n) h hA (by omega) (by omega) (by omega)) ?_
    rintro v1 S1 ⟨a1, rfl, hcp⟩
    show am_E _ _ _ _ [some (.ref 3), some (.int x1), some (.int x2), some (.int x3), some (.int x4), some (.int z1)] [.ref a1, .ref 3] _ _
    refine am_e21 (fs' := [.ref a1, .int r]) hi_31_49 (show am_fs S1 3 = some (3, [.ref a, .int r]) from by rw [hcp.2.2.2.2.2.2.1]; exact hfs) (Nat.le_of_ble_eq_true rfl) rfl rfl ?_
    have hm : z5.toNatClampNeg = 2 * n := by rw [cl_toNat]; omega
    obtain ⟨g1, g2, g3, g4, g5, g6⟩ := cw_grow h hfs hA hcp hm b2 (by omega) b0 b1 (by omega)
    show am_E _ _ _ _ [some (.ref 3), some (.int x1), some (.int x2), some (.int x3), some (.int x4), some (.int z1)] [] (am_so S1 3 (3, [.ref a1, .int r])) _
    refine am_E.mono (cw_tail (n := z5.toNatClampNeg) g1 g4 g5 (Or.inr g6) b0 (by omega) (by omega) (by omega)) ?_
    rintro (_ | v) S1 q
    · exact (show False from q).elim
    · obtain ⟨q1, e, q2, q3, q4, q5⟩ := q
      exact ⟨q1, a1, e, q2, g2.trans q3, by omega, by omega⟩
theorem ck_wadd {sc : Nat × (Nat → Int32)} {d aw : Nat} {S : am_S} {k x : Int32} (h : SH aw S) (hw : wr S ≤ 600) : am_E (am_PP sc) (d + 3) 37 0 [some (.ref 2), some (.int k), some (.int x)] [] S (am_N fun v S1 => ∃ (q : Int32) (aw1 : Nat), v = some (.int q) ∧ SH aw1 S1 ∧ Ex S S1 ∧ q.toInt = wr S + 1 ∧ wr S1 = wr S + 1 ∧ EN S1 ≤ EN S + 160) := by
  refine am_e2 (v := 2) hi_37_0 rfl ?_
  refine cm_20f (r := 3) h hi_37_1 (h.1.s (2, 2) (by decide)) (by decide) rfl ?_
  refine am_e1 (v := k) hi_37_4 rfl ?_
  refine am_e1 (v := x) hi_37_5 rfl ?_
  refine am_e0 hi_37_6 ?_
  refine am_e0 hi_37_7 ?_
  refine am_e32n (as := [.ref 3, .int k, .int x, .int 0, .int 0]) (la := [some (.ref 3), some (.int k), some (.int x), some (.int 0), some (.int 0), none]) (rest := []) hi_37_8 (am_hd0 (M := 37) (by decide) 8) (Nat.le_of_ble_eq_true rfl) (Nat.le_of_ble_eq_true rfl) (show 5 ≤ am_P0.2.2.1 31 from by decide +kernel) rfl (cl_recv (h.1.s (3, 3) (by decide))) rfl rfl (ck_addw (d := d) h hw) ?_
  rintro v S1 ⟨q, aw1, rfl, h1, h2, h3, h4⟩
  show am_E _ _ _ _ [some (.ref 2), some (.int k), some (.int x)] [.int q] _ _
  refine am_e6i hi_37_11 ?_
  refine am_e2 (v := 2) hi_37_12 rfl ?_
  refine cm_20f (r := 3) h1 hi_37_13 (h1.1.s (2, 2) (by decide)) (by decide) rfl ?_
  refine am_e32n (as := [.ref 3]) (la := [some (.ref 3)]) (rest := []) hi_37_16 (am_hd0 (M := 37) (by decide) 16) (Nat.le_of_ble_eq_true rfl) (Nat.le_of_ble_eq_true rfl) (show 1 ≤ am_P0.2.2.1 36 from by decide +kernel) rfl (cl_recv (h1.1.s (3, 3) (by decide))) rfl rfl (ck_rows (d := d + 2) h1 (h1.1.s (3, 3) (by decide))) ?_
  rintro v S2 ⟨r, rfl, rfl, e1, -, -⟩
  have e2 : r.toInt = wr S1 := e1
  refine am_e33 hi_37_19 ⟨r, aw1, rfl, h1, h2, by omega, h3, h4⟩
theorem ck_known {sc : Nat × (Nat → Int32)} {d : Nat} {S : am_S} {k : Int32} : am_E (am_PP sc) d 34 0 [some (.int k)] [] S (am_N fun v S1 => ∃ r : Int32, v = some (.int r) ∧ S = S1 ∧ ((r = 1 ∧ mw_ok k.toInt) ∨ (r = 0 ∧ ¬ mw_ok k.toInt))) := by
  refine am_e1 (v := k) hi_34_0 rfl ?_
  refine am_e0 hi_34_1 ?_
  by_cases c1 : k.toInt < (1 : Int)
  · refine am_e13t hi_34_2 (am_cT (m := k.toInt) (n := (1 : Int)) rfl (by decide) c1) ?_
    refine am_e1 (v := k) hi_34_10 rfl ?_
    refine am_e0 hi_34_11 ?_
    refine am_e13t hi_34_13 (am_cT (m := k.toInt) (n := (10 : Int)) rfl (by decide) (by simp only [am_cI]; omega)) ?_
    refine am_e1 (v := k) hi_34_22 rfl ?_
    refine am_e0 hi_34_23 ?_
    refine am_e13t hi_34_25 (am_cT (m := k.toInt) (n := (40 : Int)) rfl (by decide) (by simp only [am_cI]; omega)) ?_
    refine am_e0 hi_34_38 ?_
    refine am_e36 hi_34_39 (by decide) ?_
    exact ⟨0, rfl, rfl, (Or.inr ⟨rfl, by unfold mw_ok; omega⟩)⟩
  · refine am_e13f hi_34_2 (am_cF (m := k.toInt) (n := (1 : Int)) rfl (by decide) c1) ?_
    refine am_e1 (v := k) hi_34_5 rfl ?_
    refine am_e0 hi_34_6 ?_
    by_cases c2 : k.toInt ≤ (3 : Int)
    · refine am_e13t hi_34_7 (am_cT (m := k.toInt) (n := (3 : Int)) rfl (by decide) c2) ?_
      refine am_e0 hi_34_34 ?_
      refine am_e18 hi_34_35 ?_
      refine am_e36 hi_34_39 (by decide) ?_
      exact ⟨1, rfl, rfl, (Or.inl ⟨rfl, by unfold mw_ok; omega⟩)⟩
    · refine am_e13f hi_34_7 (am_cF (m := k.toInt) (n := (3 : Int)) rfl (by decide) c2) ?_
      refine am_e1 (v := k) hi_34_10 rfl ?_
      refine am_e0 hi_34_11 ?_
      by_cases c3 : k.toInt < (10 : Int)
      · refine am_e13t hi_34_13 (am_cT (m := k.toInt) (n := (10 : Int)) rfl (by decide) c3) ?_
        refine am_e1 (v := k) hi_34_22 rfl ?_
        refine am_e0 hi_34_23 ?_
        refine am_e13t hi_34_25 (am_cT (m := k.toInt) (n := (40 : Int)) rfl (by decide) (by simp only [am_cI]; omega)) ?_
        refine am_e0 hi_34_38 ?_
        refine am_e36 hi_34_39 (by decide) ?_
        exact ⟨0, rfl, rfl, (Or.inr ⟨rfl, by unfold mw_ok; omega⟩)⟩
      · refine am_e13f hi_34_13 (am_cF (m := k.toInt) (n := (10 : Int)) rfl (by decide) c3) ?_
        refine am_e1 (v := k) hi_34_16 rfl ?_
        refine am_e0 hi_34_17 ?_
        by_cases c4 : k.toInt ≤ (31 : Int)
        · refine am_e13t hi_34_19 (am_cT (m := k.toInt) (n := (31 : Int)) rfl (by decide) c4) ?_
          refine am_e0 hi_34_34 ?_
          refine am_e18 hi_34_35 ?_
          refine am_e36 hi_34_39 (by decide) ?_
          exact ⟨1, rfl, rfl, (Or.inl ⟨rfl, by unfold mw_ok; omega⟩)⟩
        · refine am_e13f hi_34_19 (am_cF (m := k.toInt) (n := (31 : Int)) rfl (by decide) c4) ?_
          refine am_e1 (v := k) hi_34_22 rfl ?_
          refine am_e0 hi_34_23 ?_
          by_cases c5 : k.toInt < (40 : Int)
          · refine am_e13t hi_34_25 (am_cT (m := k.toInt) (n := (40 : Int)) rfl (by decide) c5) ?_
            refine am_e0 hi_34_38 ?_
            refine am_e36 hi_34_39 (by decide) ?_
            exact ⟨0, rfl, rfl, (Or.inr ⟨rfl, by unfold mw_ok; omega⟩)⟩
          · refine am_e13f hi_34_25 (am_cF (m := k.toInt) (n := (40 : Int)) rfl (by decide) c5) ?_
            refine am_e1 (v := k) hi_34_28 rfl ?_
            refine am_e0 hi_34_29 ?_
            by_cases c6 : (72 : Int) < k.toInt
            · refine am_e13t hi_34_31 (am_cT (m := k.toInt) (n := (72 : Int)) rfl (by decide) c6) ?_
              refine am_e0 hi_34_38 ?_
              refine am_e36 hi_34_39 (by decide) ?_
              exact ⟨0, rfl, rfl, (Or.inr ⟨rfl, by unfold mw_ok; omega⟩)⟩
            · refine am_e13f hi_34_31 (am_cF (m := k.toInt) (n := (72 : Int)) rfl (by decide) c6) ?_
              refine am_e0 hi_34_34 ?_
              refine am_e18 hi_34_35 ?_
              refine am_e36 hi_34_39 (by decide) ?_
              exact ⟨1, rfl, rfl, (Or.inl ⟨rfl, by unfold mw_ok; omega⟩)⟩
theorem ck_word {sc : Nat × (Nat → Int32)} {d aw : Nat} {S : am_S} {k x : Int32} (h : SH aw S) (h0 : 0 ≤ wr S) (hw : wr S ≤ 600) : am_E (am_PP sc) (d + 4) 33 0 [some (.ref 0), some (.int k), some (.int x)] [] S (am_N fun v S1 => ∃ (q : Int32) (aw1 : Nat), v = some (.int q) ∧ SH aw1 S1 ∧ Ex S S1 ∧ q.toInt = (if mw_ok k.toInt then wr S + 1 else -1) ∧ wr S1 = (if mw_ok k.toInt then wr S + 1 else wr S) ∧ EN S1 ≤ EN S + 160) := by
  refine am_e1 (v := k) hi_33_0 rfl ?_
  refine am_e32n (as := [.int k]) (la := [some (.int k)]) (rest := []) hi_33_1 (am_hd0 (M := 33) (by decide) 1) (Nat.le_of_ble_eq_true rfl) (Nat.le_of_ble_eq_true rfl) (show 1 ≤ am_P0.2.2.1 34 from by decide +kernel) rfl rfl rfl rfl (ck_known (d := d + 3)) ?_
  rintro v S1 ⟨r, rfl, rfl, hr⟩
  show am_E _ _ _ _ [some (.ref 0), some (.int k), some (.int x)] [.int r] _ _
  rcases hr with ⟨rfl, hk⟩ | ⟨rfl, hk⟩
  · refine am_e12t hi_33_4 (by decide) ?_
    refine am_e2 (v := 0) hi_33_9 rfl ?_
    refine cm_20f (r := 2) h hi_33_10 (h.1.s (0, 0) (by decide)) (by decide) rfl ?_
    refine am_e32n (as := [.ref 2]) (la := [some (.ref 2)]) (rest := []) hi_33_13 (am_hd0 (M := 33) (by decide) 13) (Nat.le_of_ble_eq_true rfl) (Nat.le_of_ble_eq_true rfl) (show 1 ≤ am_P0.2.2.1 35 from by decide +kernel) rfl (cl_recv (h.1.s (2, 2) (by decide))) rfl rfl (ck_count (d := d + 2) h) ?_
    rintro v S1 ⟨r, rfl, rfl, e1⟩
    have e2 : r.toInt = wr S := e1
    show am_E _ _ _ _ [some (.ref 0), some (.int k), some (.int x)] [.int r] _ _
    refine am_e0 hi_33_16 ?_
    refine am_e13t hi_33_19 (am_cT (m := r.toInt) (n := (16384 : Int)) rfl (by decide) (by simp only [am_cI]; omega)) ?_
    refine am_e2 (v := 0) hi_33_25 rfl ?_
    refine cm_20f (r := 2) h hi_33_26 (h.1.s (0, 0) (by decide)) (by decide) rfl ?_
    refine am_e1 (v := k) hi_33_29 rfl ?_
    refine am_e1 (v := x) hi_33_30 rfl ?_
    refine am_e32n (as := [.ref 2, .int k, .int x]) (la := [some (.ref 2), some (.int k), some (.int x)]) (rest := []) hi_33_31 (am_hd0 (M := 33) (by decide) 31) (Nat.le_of_ble_eq_true rfl) (Nat.le_of_ble_eq_true rfl) (show 3 ≤ am_P0.2.2.1 37 from by decide +kernel) rfl (cl_recv (h.1.s (2, 2) (by decide))) rfl rfl (ck_wadd (d := d) h hw) ?_
    rintro v S1 ⟨q, aw1, rfl, g1, g2, g3, g4, g5⟩
    refine am_e33 hi_33_34 ⟨q, aw1, rfl, g1, g2, ?_, ?_, g5⟩
    · rw [if_pos hk]; exact g3
    · rw [if_pos hk]; exact g4
  · refine am_e12f hi_33_4 (by decide) ?_
    refine am_e0 hi_33_7 ?_
    refine am_e33 hi_33_8 ⟨-1, aw, rfl, h, Ex.refl S, ?_, ?_, by omega⟩
    · rw [if_neg hk]; rfl
    · rw [if_neg hk]
section CTC
variable {P : am_P} {d M pc : Nat} {ls : am_V} {st : List Value} {S : am_S} {Q : Option (Option Value) → am_S → Prop} {a b c nx' : Nat} {x : Int32} {tab : List (Int32 × Nat)}
/-- a call whose throw is caught here -/
theorem am_e32c {R : Option Value → am_S → Prop} {T : am_S → Prop} {as rest : List Value} {la : am_V} {hp j : Nat} (hi : P.1 M pc = some (32, a, b, c, x, nx', tab)) (hh : P.2.2.2.1 M pc = some (hp, j)) (hb : b ≤ st.length) (hb8 : st.length ≤ b + 8) (hm : b ≤ P.2.2.1 a) (has : (st.take b).reverse = as) (hr : am_recv c as S = true) (hla : am_in as (P.2.2.1 a) = la) (hrest : st.drop b = rest)
    (hc : am_E P d a 0 la [] S (am_T R T)) (kt : ∀ S1, T S1 → am_E P (d + 1) M hp (ls.set j none) [] S1 Q) (k : ∀ v S1, R v S1 → am_E P (d + 1) M nx' ls (v.toList ++ rest) S1 Q) : am_E P (d + 1) M pc ls st S Q := by
  obtain ⟨o1, S1, r1, q1⟩ := hc
  cases o1 with
  | some v =>
    obtain ⟨o, S', r, q⟩ := k v S1 q1
    exact ⟨o, S', am_q32 hi hb hb8 hm has hr hla hrest r1 r, q⟩
  | none =>
    obtain ⟨o, S', r, q⟩ := kt S1 q1
    refine ⟨o, S', am_R.callC hi ⟨hb, hb8, hm, by rw [has]; exact hr⟩ ?_ hh r, q⟩
    rw [has, hla]
    exact r1
end CTC
/-- the chunk was read, or refused -/
def Ck (aw : Nat) (S S' : am_S) : Prop := SH aw S' ∧ Ex S S' ∧ wr S' = wr S ∧ EN S' ≤ EN S + 10000 * wr S + 9000
/-- nothing said of words -/
def Wz (aw : Nat) (S S' : am_S) : Prop := SH aw S' ∧ Ex S S'
theorem cw_cut {aw : Nat} {S : am_S} (h : SH aw S) : ∃ a r n, am_fs S 3 = some (3, [.ref a, .int r]) ∧ am_arq S a = some (false, n) ∧ r.toInt = wr S ∧ 0 ≤ r.toInt ∧ (0 < r.toInt → SH aw (am_so S 3 (3, [.ref a, .int 0])) ∧ Ex S (am_so S 3 (3, [.ref a, .int 0])) ∧ wr (am_so S 3 (3, [.ref a, .int 0])) = 0 ∧ EN (am_so S 3 (3, [.ref a, .int 0])) ≤ EN S) := by
  obtain ⟨a, r, n, hfs, hA, b0, b1, b2, b3, b4, b5, b6, b7⟩ := h.tab (h.1.s (3, 3) (by decide))
  refine ⟨a, r, n, hfs, hA, b6, b0, fun _ => ?_⟩
  have z0 : (0 : Int32).toInt = 0 := rfl
  obtain ⟨g1, g2, g3⟩ := h.rows (r' := 0) hfs hA (by omega) (by omega)
  refine ⟨g1, g2, iv_tab hfs, ?_⟩
  rw [g3, show c_w 3 = 0 from rfl, Int.zero_mul, z0]
  split <;> split <;> omega
