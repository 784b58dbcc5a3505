/-! THE REFERENCE: labels (printed by wip/p2/ref10.py) -/
theorem lp_label {sc : Nat × (Nat → Int32)} {d : Nat} {S0 : am_S} {f : Nat → Int32} {g : Nat → Nat → Int32} {w : Int32} {gs : List mg_E} {bc : List (List Nat)} {fl : List Nat} {fk : Int} {pj : List Nat}  (hR : RJ f g gs bc fl fk pj) (p0 : (0 : Int) ≤ (f 32).toInt) (p1 : (f 32).toInt ≤ (63 : Int)) (p2 : (f 53).toInt ≤ (4096 : Int)) (p3 : (0 : Int) ≤ (f 68).toInt) (p4 : (f 68).toInt ≤ (65534 : Int)) (p5 : (0 : Int) ≤ (f 4).toInt) (p6 : (f 0).toInt ≤ (16384 : Int)) (p7 : (0 : Int) ≤ (f 48).toInt) (p8 : (f 48).toInt ≤ (8192 : Int)) (p9 : (f 4).toInt ≤ (f 0).toInt) (p10 : (f 4).toInt ≤ (8192 : Int)) (p11 : (f 48).toInt ≤ (f 4).toInt) (p12 : (0 : Int) ≤ (f 44).toInt) (p13 : (f 44).toInt ≤ (8191 : Int)) (p14 : (1 : Int) ≤ (f 37).toInt) (p15 : (f 37).toInt ≤ (128 : Int)) (p16 : (0 : Int) ≤ w.toInt) (p17 : w.toInt ≤ (16383 : Int)) (p18 : (0 : Int) ≤ (f 8).toInt) : ∀ (N : Nat) (S : am_S) (tx th kept kk k0 a b : Int32) (gx : Nat → Nat → Int32), MS S0 S (upd (upd f 8 a) 9 b) gx → RJ (upd (upd f 8 a) 9 b) gx gs bc fl fk pj → (∀ j, j ∉ [49, 50, 51, 52, 71] → gx j = g j) → (∃ b0 : Nat, (b0 : Int) < (f 37).toInt ∧ k0.toInt ≤ (g 40 b0).toInt) → (0 : Int) ≤ kept.toInt → kept.toInt ≤ kk.toInt → kk.toInt ≤ (8192 : Int) → kept.toInt ≤ (f 4).toInt → (kept.toInt ≤ (f 48).toInt ∨ kept.toInt ≤ k0.toInt) → (0 : Int) ≤ a.toInt → 8192 - kk.toInt < (N : Int) → am_E (am_PP sc) (d + 2) 229 58 [some (.ref 39), some (.int w), some (.int tx), some (.int th), some (.int kept), some (.int kk)] [] S (am_N fun v S1 => (∃ a : Int32, ∃ b : Int32, ∃ y : Int32, ∃ z : Int32, ∃ g' : Nat → Nat → Int32, v = none ∧ MS S0 S1 (upd (upd (upd (upd f 8 a) 9 b) 44 y) 48 z) g' ∧ (RJ (upd (upd (upd (upd f 8 a) 9 b) 44 y) 48 z) g' gs bc fl fk pj) ∧ (y.toInt = (f 44).toInt + 1) ∧ ((0 : Int) ≤ z.toInt) ∧ (z.toInt ≤ (f 4).toInt) ∧ (∀ j, j ∉ [45, 46, 47, 49, 50, 51, 52, 71] → g' j = g j) ∧ ((0 : Int) ≤ a.toInt))) := by
  intro N
  induction N with
  | zero =>
    intro S  tx th kept kk k0 a b gx  hS hRl hx hk0 i0 i1 i2 i3 i4 i5 hN
    exfalso
    omega
  | succ N ih =>
    intro S  tx th kept kk k0 a b gx  hS hRl hx hk0 i0 i1 i2 i3 i4 i5 hN
    refine am_e1 (v := kk) hi_229_58 rfl ?_
    refine am_e2 (v := 39) hi_229_60 rfl ?_
    refine mm_20 (v := .int (f 48)) hS hi_229_61 rfl ?_
    by_cases c0 : (f 48).toInt ≤ kk.toInt
    · refine am_e13t hi_229_64 (am_cT (m := kk.toInt) (n := (f 48).toInt) rfl rfl c0) ?_
      refine am_e2 (v := 39) hi_229_204 rfl ?_
      refine am_e1 (v := kept) hi_229_205 rfl ?_
      refine mm_21 (v := kept) hS hi_229_207 rfl (Nat.le_of_ble_eq_true rfl) ms_48 ?_
      intro S1 hS2
      obtain ⟨b0, hb1, hb2⟩ := hk0
      have hR3 : RJ (upd (upd (upd f 8 a) 9 b) 48 kept) gx gs bc fl fk pj := rj_gotos (b := b0) (v := kept) hRl hb1 (by have h9 : (gx 40 b0) = g 40 b0 := (by rw [show gx 40 = g 40 from hx 40 (by decide)]); show kept.toInt ≤ (f 48).toInt ∨ kept.toInt ≤ (gx 40 b0).toInt; rw [h9]; omega)
      refine am_e2 (v := 39) hi_229_210 rfl ?_
      refine mm_20 (v := .ref 68) hS2 hi_229_211 rfl ?_
      refine am_e2 (v := 39) hi_229_214 rfl ?_
      refine mm_20 (v := .int (f 44)) hS2 hi_229_215 rfl ?_
      refine am_e1 (v := tx) hi_229_218 rfl ?_
      refine mm_26 hS2 ma_45 hi_229_219 (by decide) (by omega) (by omega) (fun h => nomatch h) ?_
      intro S4 hS5
      refine am_e2 (v := 39) hi_229_220 rfl ?_
      refine mm_20 (v := .ref 69) hS5 hi_229_221 rfl ?_
      refine am_e2 (v := 39) hi_229_224 rfl ?_
      refine mm_20 (v := .int (f 44)) hS5 hi_229_225 rfl ?_
      refine am_e2 (v := 39) hi_229_228 rfl ?_
      refine am_e32n (as := [.ref 39]) (la := [some (.ref 39)]) (rest := [.int (f 44), .ref 69]) hi_229_229 (am_hd0 (M := 229) (by decide) 229) (Nat.le_of_ble_eq_true rfl) (Nat.le_of_ble_eq_true rfl) (show 1 ≤ am_P0.2.2.1 210 from by decide +kernel) rfl (am_recv_ok hS5.fs) rfl rfl (ct_here (d := (d + 1)) hS5 hR3  (by show (0 : Int) ≤ (f 32).toInt; omega) (by show (f 32).toInt ≤ (63 : Int); omega) (by show (f 53).toInt ≤ (4096 : Int); omega) (by show (0 : Int) ≤ (f 68).toInt; omega) (by show (f 68).toInt ≤ (65534 : Int); omega)) ?_
      rintro v6 S7 (⟨r8, hv9, hS10, h11, h12⟩)
      subst hv9
      have h11_ : (0 : Int) ≤ r8.toInt := h11
      have h12_ : r8.toInt ≤ (f 68).toInt := h12
      show am_E _ _ _ _ [some (.ref 39), some (.int w), some (.int tx), some (.int th), some (.int kept), some (.int kk)] [.int r8, .int (f 44), .ref 69] _ _
      refine mm_26 hS10 ma_46 hi_229_232 (by decide) (by omega) (by omega) (fun h => nomatch h) ?_
      intro S14 hS15
      refine am_e2 (v := 39) hi_229_233 rfl ?_
      refine mm_20 (v := .ref 70) hS15 hi_229_234 rfl ?_
      refine am_e2 (v := 39) hi_229_237 rfl ?_
      refine mm_20 (v := .int (f 44)) hS15 hi_229_238 rfl ?_
      refine am_e2 (v := 39) hi_229_241 rfl ?_
      refine am_e32n (as := [.ref 39]) (la := [some (.ref 39)]) (rest := [.int (f 44), .ref 70]) hi_229_242 (am_hd0 (M := 229) (by decide) 242) (Nat.le_of_ble_eq_true rfl) (Nat.le_of_ble_eq_true rfl) (show 1 ≤ am_P0.2.2.1 197 from by decide +kernel) rfl (am_recv_ok hS15.fs) rfl rfl (ct_count (d := (d + 1)) hS15   (by show (0 : Int) ≤ (f 32).toInt; omega) (by show (f 32).toInt ≤ (63 : Int); omega)) ?_
      rintro v16 S17 (⟨r18, hv19, hS20⟩)
      subst hv19
      show am_E _ _ _ _ [some (.ref 39), some (.int w), some (.int tx), some (.int th), some (.int kept), some (.int kk)] [.int r18, .int (f 44), .ref 70] _ _
      refine mm_26 hS20 ma_47 hi_229_245 (by decide) (by omega) (by omega) (fun h => nomatch h) ?_
      intro S22 hS23
      refine am_e2 (v := 39) hi_229_246 rfl ?_
      refine am_e7 hi_229_247 ?_
      refine mm_20 (v := .int (f 44)) hS23 hi_229_248 rfl ?_
      refine am_e0 hi_229_251 ?_
      obtain ⟨z24, hz24, tz24⟩ := am_addI (x := f 44) (y := 1) (m := (f 44).toInt) (n := (1 : Int)) rfl (by decide) (by omega) (by omega)
      refine am_e10 (z := z24) hi_229_252 hz24 ?_
      refine mm_21 (v := z24) hS23 hi_229_253 rfl (Nat.le_of_ble_eq_true rfl) ms_44 ?_
      intro S25 hS26
      replace hS26 : MS S0 S25 (upd (upd (upd (upd f 8 a) 9 b) 44 z24) 48 kept) (upg (upg (upg gx 45 (f 44).toNatClampNeg tx) 46 (f 44).toNatClampNeg r8) 47 (f 44).toNatClampNeg r18) := hS26
      refine am_e35 hi_229_256 ?_
      exact ⟨a, b, z24, kept, _, rfl, hS26, hR3, (by show z24.toInt = (f 44).toInt + 1; omega), (by show (0 : Int) ≤ kept.toInt; omega), (by show kept.toInt ≤ (f 4).toInt; omega), (fun j hj => ((show ∀ j, j ∉ [45, 46, 47, 49, 50, 51, 52, 71] → (upg (upg (upg gx 45 (f 44).toNatClampNeg tx) 46 (f 44).toNatClampNeg r8) 47 (f 44).toNatClampNeg r18) j = gx j from by intro j hj; simp only [List.mem_cons, List.not_mem_nil, or_false, not_or] at hj; simp only [upg, hj, if_false]) j hj).trans ((show ∀ j, j ∉ [45, 46, 47, 49, 50, 51, 52, 71] → gx j = g j from fun j hj => hx j (fun q => hj (mem_sub (L := [49, 50, 51, 52, 71]) (L' := [45, 46, 47, 49, 50, 51, 52, 71]) (by decide) q))) j hj)), (by show (0 : Int) ≤ a.toInt; omega)⟩
    · refine am_e13f hi_229_64 (am_cF (m := kk.toInt) (n := (f 48).toInt) rfl rfl c0) ?_
      refine am_e2 (v := 39) hi_229_67 rfl ?_
      refine mm_20 (v := .ref 71) hS hi_229_68 rfl ?_
      refine am_e1 (v := kk) hi_229_71 rfl ?_
      refine mm_25 hS ma_49 hi_229_73 (by decide) (by omega) (by omega) ?_
      show am_E _ _ _ _ [some (.ref 39), some (.int w), some (.int tx), some (.int th), some (.int kept), some (.int kk)] [.int (gx 49 kk.toNatClampNeg)] _ _
      refine am_e1 (v := tx) hi_229_74 rfl ?_
      by_cases c27 : ¬ (gx 49 kk.toNatClampNeg).toInt = tx.toInt
      · refine am_e13t hi_229_75 (am_cT (m := (gx 49 kk.toNatClampNeg).toInt) (n := tx.toInt) rfl rfl c27) ?_
        refine am_e2 (v := 39) hi_229_139 rfl ?_
        refine mm_20 (v := .ref 71) hS hi_229_140 rfl ?_
        refine am_e1 (v := kept) hi_229_143 rfl ?_
        refine am_e2 (v := 39) hi_229_145 rfl ?_
        refine mm_20 (v := .ref 71) hS hi_229_146 rfl ?_
        refine am_e1 (v := kk) hi_229_149 rfl ?_
        refine mm_25 hS ma_49 hi_229_151 (by decide) (by omega) (by omega) ?_
        show am_E _ _ _ _ [some (.ref 39), some (.int w), some (.int tx), some (.int th), some (.int kept), some (.int kk)] [.int (gx 49 kk.toNatClampNeg), .int kept, .ref 71] _ _
        refine mm_26 hS ma_49 hi_229_152 (by decide) (by omega) (by omega) (fun h => nomatch h) ?_
        intro S28 hS29
        refine am_e2 (v := 39) hi_229_153 rfl ?_
        refine mm_20 (v := .ref 72) hS29 hi_229_154 rfl ?_
        refine am_e1 (v := kept) hi_229_157 rfl ?_
        refine am_e2 (v := 39) hi_229_159 rfl ?_
        refine mm_20 (v := .ref 72) hS29 hi_229_160 rfl ?_
        refine am_e1 (v := kk) hi_229_163 rfl ?_
        refine mm_25 hS29 ma_50 hi_229_165 (by decide) (by omega) (by omega) ?_
        show am_E _ _ _ _ [some (.ref 39), some (.int w), some (.int tx), some (.int th), some (.int kept), some (.int kk)] [.int (gx 50 kk.toNatClampNeg), .int kept, .ref 72] _ _
        refine mm_26 hS29 ma_50 hi_229_166 (by decide) (by omega) (by omega) (fun h => nomatch h) ?_
        intro S30 hS31
        refine am_e2 (v := 39) hi_229_167 rfl ?_
        refine mm_20 (v := .ref 73) hS31 hi_229_168 rfl ?_
        refine am_e1 (v := kept) hi_229_171 rfl ?_
        refine am_e2 (v := 39) hi_229_173 rfl ?_
        refine mm_20 (v := .ref 73) hS31 hi_229_174 rfl ?_
        refine am_e1 (v := kk) hi_229_177 rfl ?_
        refine mm_25 hS31 ma_51 hi_229_179 (by decide) (by omega) (by omega) ?_
        show am_E _ _ _ _ [some (.ref 39), some (.int w), some (.int tx), some (.int th), some (.int kept), some (.int kk)] [.int (gx 51 kk.toNatClampNeg), .int kept, .ref 73] _ _
        have r32 : 0 ≤ (gx 51 kk.toNatClampNeg).toInt ∧ (gx 51 kk.toNatClampNeg).toInt < 65535 := RJ.gc hRl kk.toNatClampNeg
        refine mm_26 hS31 ma_51 hi_229_180 (by decide) (by omega) (by omega) (fun h => nomatch h) ?_
        intro S33 hS34
        have hR35 : RJ (upd (upd f 8 a) 9 b) (upg (upg (upg gx 49 kept.toNatClampNeg (gx 49 kk.toNatClampNeg)) 50 kept.toNatClampNeg (gx 50 kk.toNatClampNeg)) 51 kept.toNatClampNeg (gx 51 kk.toNatClampNeg)) gs bc fl fk pj := rj_gcopy (k := kk.toNatClampNeg) hRl (by show ((kk.toNatClampNeg : Nat) : Int) < (f 48).toInt; rw [cl_toNat]; omega)
        refine am_e2 (v := 39) hi_229_181 rfl ?_
        refine mm_20 (v := .ref 74) hS34 hi_229_182 rfl ?_
        refine am_e1 (v := kept) hi_229_185 rfl ?_
        refine am_e2 (v := 39) hi_229_187 rfl ?_
        refine mm_20 (v := .ref 74) hS34 hi_229_188 rfl ?_
        refine am_e1 (v := kk) hi_229_191 rfl ?_
        refine mm_25 hS34 ma_52 hi_229_193 (by decide) (by omega) (by omega) ?_
        show am_E _ _ _ _ [some (.ref 39), some (.int w), some (.int tx), some (.int th), some (.int kept), some (.int kk)] [.int (gx 52 kk.toNatClampNeg), .int kept, .ref 74] _ _
        refine mm_26 hS34 ma_52 hi_229_194 (by decide) (by omega) (by omega) (fun h => nomatch h) ?_
        intro S36 hS37
        obtain ⟨z38, hz38, tz38⟩ := am_addI (x := kept) (y := 1) (m := kept.toInt) (n := (1 : Int)) rfl (by decide) (by omega) (by omega)
        refine am_e5 (v := kept) (z := z38) (ls' := [some (.ref 39), some (.int w), some (.int tx), some (.int th), some (.int z38), some (.int kk)]) hi_229_195 rfl hz38 rfl ?_
        obtain ⟨z39, hz39, tz39⟩ := am_addI (x := kk) (y := 1) (m := kk.toInt) (n := (1 : Int)) rfl (by decide) (by omega) (by omega)
        refine am_e5 (v := kk) (z := z39) (ls' := [some (.ref 39), some (.int w), some (.int tx), some (.int th), some (.int z38), some (.int z39)]) hi_229_198 rfl hz39 rfl ?_
        refine am_e18 hi_229_201 ?_
        exact ih _ tx th z38 z39 k0 a b _ hS37 hR35 (fun j hj => ((show ∀ j, j ∉ [49, 50, 51, 52, 71] → (upg (upg (upg (upg gx 49 kept.toNatClampNeg (gx 49 kk.toNatClampNeg)) 50 kept.toNatClampNeg (gx 50 kk.toNatClampNeg)) 51 kept.toNatClampNeg (gx 51 kk.toNatClampNeg)) 52 kept.toNatClampNeg (gx 52 kk.toNatClampNeg)) j = gx j from by intro j hj; simp only [List.mem_cons, List.not_mem_nil, or_false, not_or] at hj; simp only [upg, hj, if_false]) j hj).trans (hx j hj)) hk0 (by show (0 : Int) ≤ z38.toInt; omega) (by show z38.toInt ≤ z39.toInt; omega) (by show z39.toInt ≤ (8192 : Int); omega) (by show z38.toInt ≤ (f 4).toInt; omega) (by show z38.toInt ≤ (f 48).toInt ∨ z38.toInt ≤ k0.toInt; omega) (by show (0 : Int) ≤ a.toInt; omega) (by show 8192 - z39.toInt < (N : Int); omega)
      · refine am_e13f hi_229_75 (am_cF (m := (gx 49 kk.toNatClampNeg).toInt) (n := tx.toInt) rfl rfl c27) ?_
        refine am_e2 (v := 39) hi_229_78 rfl ?_
        refine mm_20 (v := .ref 74) hS hi_229_79 rfl ?_
        refine am_e1 (v := kk) hi_229_82 rfl ?_
        refine mm_25 hS ma_52 hi_229_84 (by decide) (by omega) (by omega) ?_
        show am_E _ _ _ _ [some (.ref 39), some (.int w), some (.int tx), some (.int th), some (.int kept), some (.int kk)] [.int (gx 52 kk.toNatClampNeg)] _ _
        refine am_e1 (v := th) hi_229_85 rfl ?_
        by_cases c40 : th.toInt ≤ (gx 52 kk.toNatClampNeg).toInt
        · refine am_e13t hi_229_86 (am_cT (m := (gx 52 kk.toNatClampNeg).toInt) (n := th.toInt) rfl rfl c40) ?_
          refine am_e2 (v := 39) hi_229_102 rfl ?_
          refine mm_20 (v := .ref 90) hS hi_229_103 rfl ?_
          refine am_e2 (v := 39) hi_229_106 rfl ?_
          refine mm_20 (v := .ref 73) hS hi_229_107 rfl ?_
          refine am_e1 (v := kk) hi_229_110 rfl ?_
          refine mm_25 hS ma_51 hi_229_112 (by decide) (by omega) (by omega) ?_
          show am_E _ _ _ _ [some (.ref 39), some (.int w), some (.int tx), some (.int th), some (.int kept), some (.int kk)] [.int (gx 51 kk.toNatClampNeg), .ref 90] _ _
          have r41 : 0 ≤ (gx 51 kk.toNatClampNeg).toInt ∧ (gx 51 kk.toNatClampNeg).toInt < 65535 := RJ.gc hRl kk.toNatClampNeg
          refine am_e2 (v := 39) hi_229_113 rfl ?_
          refine am_e32n (as := [.ref 39]) (la := [some (.ref 39)]) (rest := [.int (gx 51 kk.toNatClampNeg), .ref 90]) hi_229_114 (am_hd0 (M := 229) (by decide) 114) (Nat.le_of_ble_eq_true rfl) (Nat.le_of_ble_eq_true rfl) (show 1 ≤ am_P0.2.2.1 197 from by decide +kernel) rfl (am_recv_ok hS.fs) rfl rfl (ct_count (d := (d + 1)) hS   (by show (0 : Int) ≤ (f 32).toInt; omega) (by show (f 32).toInt ≤ (63 : Int); omega)) ?_
          rintro v42 S43 (⟨r44, hv45, hS46⟩)
          subst hv45
          show am_E _ _ _ _ [some (.ref 39), some (.int w), some (.int tx), some (.int th), some (.int kept), some (.int kk)] [.int r44, .int (gx 51 kk.toNatClampNeg), .ref 90] _ _
          refine mm_26 hS46 ma_71 hi_229_117 (by decide) (by omega) (by omega) (fun h => nomatch h) ?_
          intro S48 hS49
          have hR50 : RJ (upd (upd f 8 a) 9 b) (upg gx 71 (gx 51 kk.toNatClampNeg).toNatClampNeg r44) gs bc fl fk pj := RJ.lead hRl (RJ.go hRl (i := kk.toNatClampNeg) (by show ((kk.toNatClampNeg : Nat) : Int) < (f 48).toInt; rw [cl_toNat]; omega)).2.1
          refine am_e2 (v := 39) hi_229_118 rfl ?_
          refine mm_20 (v := .ref 90) hS49 hi_229_119 rfl ?_
          refine am_e2 (v := 39) hi_229_122 rfl ?_
          refine mm_20 (v := .ref 73) hS49 hi_229_123 rfl ?_
          refine am_e1 (v := kk) hi_229_126 rfl ?_
          refine mm_25 hS49 ma_51 hi_229_128 (by decide) (by omega) (by omega) ?_
          show am_E _ _ _ _ [some (.ref 39), some (.int w), some (.int tx), some (.int th), some (.int kept), some (.int kk)] [.int (gx 51 kk.toNatClampNeg), .ref 90] _ _
          have r51 : 0 ≤ (gx 51 kk.toNatClampNeg).toInt ∧ (gx 51 kk.toNatClampNeg).toInt < 65535 := RJ.gc hR50 kk.toNatClampNeg
          refine am_e0 hi_229_129 ?_
          obtain ⟨z52, hz52, tz52⟩ := am_addI (x := gx 51 kk.toNatClampNeg) (y := 1) (m := (gx 51 kk.toNatClampNeg).toInt) (n := (1 : Int)) rfl (by decide) (by omega) (by omega)
          refine am_e10 (z := z52) hi_229_130 hz52 ?_
          refine am_e2 (v := 39) hi_229_131 rfl ?_
          refine am_e32n (as := [.ref 39]) (la := [some (.ref 39)]) (rest := [.int z52, .ref 90]) hi_229_132 (am_hd0 (M := 229) (by decide) 132) (Nat.le_of_ble_eq_true rfl) (Nat.le_of_ble_eq_true rfl) (show 1 ≤ am_P0.2.2.1 210 from by decide +kernel) rfl (am_recv_ok hS49.fs) rfl rfl (ct_here (d := (d + 1)) hS49 hR50  (by show (0 : Int) ≤ (f 32).toInt; omega) (by show (f 32).toInt ≤ (63 : Int); omega) (by show (f 53).toInt ≤ (4096 : Int); omega) (by show (0 : Int) ≤ (f 68).toInt; omega) (by show (f 68).toInt ≤ (65534 : Int); omega)) ?_
          rintro v53 S54 (⟨r55, hv56, hS57, h58, h59⟩)
          subst hv56
          have h58_ : (0 : Int) ≤ r55.toInt := h58
          have h59_ : r55.toInt ≤ (f 68).toInt := h59
          show am_E _ _ _ _ [some (.ref 39), some (.int w), some (.int tx), some (.int th), some (.int kept), some (.int kk)] [.int r55, .int z52, .ref 90] _ _
          refine mm_26 hS57 ma_71 hi_229_135 (by decide) (by omega) (by omega) (fun h => nomatch h) ?_
          intro S61 hS62
          have hix : z52.toNatClampNeg = (gx 51 kk.toNatClampNeg).toInt.toNat + 1 := by rw [cl_toNat]; omega
          have hR63 : RJ (upd (upd f 8 a) 9 b) (upg (upg gx 71 (gx 51 kk.toNatClampNeg).toNatClampNeg r44) 71 z52.toNatClampNeg r55) gs bc fl fk pj := by rw [hix]; exact RJ.lead hR50 (RJ.go hR50 (i := kk.toNatClampNeg) (by show ((kk.toNatClampNeg : Nat) : Int) < (f 48).toInt; rw [cl_toNat]; omega)).2.2
          refine am_e18 hi_229_136 ?_
          obtain ⟨z64, hz64, tz64⟩ := am_addI (x := kk) (y := 1) (m := kk.toInt) (n := (1 : Int)) rfl (by decide) (by omega) (by omega)
          refine am_e5 (v := kk) (z := z64) (ls' := [some (.ref 39), some (.int w), some (.int tx), some (.int th), some (.int kept), some (.int z64)]) hi_229_198 rfl hz64 rfl ?_
          refine am_e18 hi_229_201 ?_
          exact ih _ tx th kept z64 k0 a b _ hS62 hR63 (fun j hj => ((show ∀ j, j ∉ [49, 50, 51, 52, 71] → (upg (upg gx 71 (gx 51 kk.toNatClampNeg).toNatClampNeg r44) 71 z52.toNatClampNeg r55) j = gx j from by intro j hj; simp only [List.mem_cons, List.not_mem_nil, or_false, not_or] at hj; simp only [upg, hj, if_false]) j hj).trans (hx j hj)) hk0 (by show (0 : Int) ≤ kept.toInt; omega) (by show kept.toInt ≤ z64.toInt; omega) (by show z64.toInt ≤ (8192 : Int); omega) (by show kept.toInt ≤ (f 4).toInt; omega) (by show kept.toInt ≤ (f 48).toInt ∨ kept.toInt ≤ k0.toInt; omega) (by show (0 : Int) ≤ a.toInt; omega) (by show 8192 - z64.toInt < (N : Int); omega)
        · refine am_e13f hi_229_86 (am_cF (m := (gx 52 kk.toNatClampNeg).toInt) (n := th.toInt) rfl rfl c40) ?_
          refine am_e2 (v := 39) hi_229_89 rfl ?_
          refine am_e0 hi_229_90 ?_
          refine am_e2 (v := 39) hi_229_92 rfl ?_
          refine mm_20 (v := .ref 72) hS hi_229_93 rfl ?_
          refine am_e1 (v := kk) hi_229_96 rfl ?_
          refine mm_25 hS ma_50 hi_229_98 (by decide) (by omega) (by omega) ?_
          show am_E _ _ _ _ [some (.ref 39), some (.int w), some (.int tx), some (.int th), some (.int kept), some (.int kk)] [.int (gx 50 kk.toNatClampNeg), .int 14, .ref 39] _ _
          refine am_e32n (as := [.ref 39, .int 14, .int (gx 50 kk.toNatClampNeg)]) (la := [some (.ref 39), some (.int 14), some (.int (gx 50 kk.toNatClampNeg))]) (rest := []) hi_229_99 (am_hd0 (M := 229) (by decide) 99) (Nat.le_of_ble_eq_true rfl) (Nat.le_of_ble_eq_true rfl) (show 3 ≤ am_P0.2.2.1 191 from by decide +kernel) rfl (am_recv_ok hS.fs) rfl rfl (ct_failName (d := (d + 1)) hS   (by show (0 : Int) ≤ (14 : Int); omega) (by show (0 : Int) ≤ a.toInt; omega)) ?_
          rintro v65 S66 (⟨a67, b68, hv69, hS70, h71⟩)
          subst hv69
          have h71_ : (0 : Int) ≤ a67.toInt := h71
          replace hS70 : MS S0 S66 (upd (upd f 8 a67) 9 b68) gx := hS70
          show am_E _ _ _ _ [some (.ref 39), some (.int w), some (.int tx), some (.int th), some (.int kept), some (.int kk)] [] _ _
          refine am_e2 (v := 39) hi_229_102 rfl ?_
          refine mm_20 (v := .ref 90) hS70 hi_229_103 rfl ?_
          refine am_e2 (v := 39) hi_229_106 rfl ?_
          refine mm_20 (v := .ref 73) hS70 hi_229_107 rfl ?_
          refine am_e1 (v := kk) hi_229_110 rfl ?_
          refine mm_25 hS70 ma_51 hi_229_112 (by decide) (by omega) (by omega) ?_
          show am_E _ _ _ _ [some (.ref 39), some (.int w), some (.int tx), some (.int th), some (.int kept), some (.int kk)] [.int (gx 51 kk.toNatClampNeg), .ref 90] _ _
          have r73 : 0 ≤ (gx 51 kk.toNatClampNeg).toInt ∧ (gx 51 kk.toNatClampNeg).toInt < 65535 := RJ.gc hRl kk.toNatClampNeg
          refine am_e2 (v := 39) hi_229_113 rfl ?_
          refine am_e32n (as := [.ref 39]) (la := [some (.ref 39)]) (rest := [.int (gx 51 kk.toNatClampNeg), .ref 90]) hi_229_114 (am_hd0 (M := 229) (by decide) 114) (Nat.le_of_ble_eq_true rfl) (Nat.le_of_ble_eq_true rfl) (show 1 ≤ am_P0.2.2.1 197 from by decide +kernel) rfl (am_recv_ok hS70.fs) rfl rfl (ct_count (d := (d + 1)) hS70   (by show (0 : Int) ≤ (f 32).toInt; omega) (by show (f 32).toInt ≤ (63 : Int); omega)) ?_
          rintro v74 S75 (⟨r76, hv77, hS78⟩)
          subst hv77
          show am_E _ _ _ _ [some (.ref 39), some (.int w), some (.int tx), some (.int th), some (.int kept), some (.int kk)] [.int r76, .int (gx 51 kk.toNatClampNeg), .ref 90] _ _
          refine mm_26 hS78 ma_71 hi_229_117 (by decide) (by omega) (by omega) (fun h => nomatch h) ?_
          intro S80 hS81
          have hR82 : RJ (upd (upd f 8 a67) 9 b68) (upg gx 71 (gx 51 kk.toNatClampNeg).toNatClampNeg r76) gs bc fl fk pj := RJ.lead hRl (RJ.go hRl (i := kk.toNatClampNeg) (by show ((kk.toNatClampNeg : Nat) : Int) < (f 48).toInt; rw [cl_toNat]; omega)).2.1
          refine am_e2 (v := 39) hi_229_118 rfl ?_
          refine mm_20 (v := .ref 90) hS81 hi_229_119 rfl ?_
          refine am_e2 (v := 39) hi_229_122 rfl ?_
          refine mm_20 (v := .ref 73) hS81 hi_229_123 rfl ?_
          refine am_e1 (v := kk) hi_229_126 rfl ?_
          refine mm_25 hS81 ma_51 hi_229_128 (by decide) (by omega) (by omega) ?_
          show am_E _ _ _ _ [some (.ref 39), some (.int w), some (.int tx), some (.int th), some (.int kept), some (.int kk)] [.int (gx 51 kk.toNatClampNeg), .ref 90] _ _
          have r83 : 0 ≤ (gx 51 kk.toNatClampNeg).toInt ∧ (gx 51 kk.toNatClampNeg).toInt < 65535 := RJ.gc hR82 kk.toNatClampNeg
          refine am_e0 hi_229_129 ?_
          obtain ⟨z84, hz84, tz84⟩ := am_addI (x := gx 51 kk.toNatClampNeg) (y := 1) (m := (gx 51 kk.toNatClampNeg).toInt) (n := (1 : Int)) rfl (by decide) (by omega) (by omega)
          refine am_e10 (z := z84) hi_229_130 hz84 ?_
          refine am_e2 (v := 39) hi_229_131 rfl ?_
          refine am_e32n (as := [.ref 39]) (la := [some (.ref 39)]) (rest := [.int z84, .ref 90]) hi_229_132 (am_hd0 (M := 229) (by decide) 132) (Nat.le_of_ble_eq_true rfl) (Nat.le_of_ble_eq_true rfl) (show 1 ≤ am_P0.2.2.1 210 from by decide +kernel) rfl (am_recv_ok hS81.fs) rfl rfl (ct_here (d := (d + 1)) hS81 hR82  (by show (0 : Int) ≤ (f 32).toInt; omega) (by show (f 32).toInt ≤ (63 : Int); omega) (by show (f 53).toInt ≤ (4096 : Int); omega) (by show (0 : Int) ≤ (f 68).toInt; omega) (by show (f 68).toInt ≤ (65534 : Int); omega)) ?_
          rintro v85 S86 (⟨r87, hv88, hS89, h90, h91⟩)
          subst hv88
          have h90_ : (0 : Int) ≤ r87.toInt := h90
          have h91_ : r87.toInt ≤ (f 68).toInt := h91
          show am_E _ _ _ _ [some (.ref 39), some (.int w), some (.int tx), some (.int th), some (.int kept), some (.int kk)] [.int r87, .int z84, .ref 90] _ _
          refine mm_26 hS89 ma_71 hi_229_135 (by decide) (by omega) (by omega) (fun h => nomatch h) ?_
          intro S93 hS94
          have hix : z84.toNatClampNeg = (gx 51 kk.toNatClampNeg).toInt.toNat + 1 := by rw [cl_toNat]; omega
          have hR95 : RJ (upd (upd f 8 a67) 9 b68) (upg (upg gx 71 (gx 51 kk.toNatClampNeg).toNatClampNeg r76) 71 z84.toNatClampNeg r87) gs bc fl fk pj := by rw [hix]; exact RJ.lead hR82 (RJ.go hR82 (i := kk.toNatClampNeg) (by show ((kk.toNatClampNeg : Nat) : Int) < (f 48).toInt; rw [cl_toNat]; omega)).2.2
          refine am_e18 hi_229_136 ?_
          obtain ⟨z96, hz96, tz96⟩ := am_addI (x := kk) (y := 1) (m := kk.toInt) (n := (1 : Int)) rfl (by decide) (by omega) (by omega)
          refine am_e5 (v := kk) (z := z96) (ls' := [some (.ref 39), some (.int w), some (.int tx), some (.int th), some (.int kept), some (.int z96)]) hi_229_198 rfl hz96 rfl ?_
          refine am_e18 hi_229_201 ?_
          exact ih _ tx th kept z96 k0 a67 b68 _ hS94 hR95 (fun j hj => ((show ∀ j, j ∉ [49, 50, 51, 52, 71] → (upg (upg gx 71 (gx 51 kk.toNatClampNeg).toNatClampNeg r76) 71 z84.toNatClampNeg r87) j = gx j from by intro j hj; simp only [List.mem_cons, List.not_mem_nil, or_false, not_or] at hj; simp only [upg, hj, if_false]) j hj).trans (hx j hj)) hk0 (by show (0 : Int) ≤ kept.toInt; omega) (by show kept.toInt ≤ z96.toInt; omega) (by show z96.toInt ≤ (8192 : Int); omega) (by show kept.toInt ≤ (f 4).toInt; omega) (by show kept.toInt ≤ (f 48).toInt ∨ kept.toInt ≤ k0.toInt; omega) (by show (0 : Int) ≤ a67.toInt; omega) (by show 8192 - z96.toInt < (N : Int); omega)
theorem ct_label {sc : Nat × (Nat → Int32)} {d : Nat} {S0 S : am_S} {f : Nat → Int32} {g : Nat → Nat → Int32} {w : Int32} {gs : List mg_E} {bc : List (List Nat)} {fl : List Nat} {fk : Int} {pj : List Nat} (hS : MS S0 S f g) (hR : RJ f g gs bc fl fk pj) (p0 : (0 : Int) ≤ (f 32).toInt) (p1 : (f 32).toInt ≤ (63 : Int)) (p2 : (f 53).toInt ≤ (4096 : Int)) (p3 : (0 : Int) ≤ (f 68).toInt) (p4 : (f 68).toInt ≤ (65534 : Int)) (p5 : (0 : Int) ≤ (f 4).toInt) (p6 : (f 0).toInt ≤ (16384 : Int)) (p7 : (0 : Int) ≤ (f 48).toInt) (p8 : (f 48).toInt ≤ (8192 : Int)) (p9 : (f 4).toInt ≤ (f 0).toInt) (p10 : (f 4).toInt ≤ (8192 : Int)) (p11 : (f 48).toInt ≤ (f 4).toInt) (p12 : (0 : Int) ≤ (f 44).toInt) (p13 : (f 44).toInt ≤ (8191 : Int)) (p14 : (1 : Int) ≤ (f 37).toInt) (p15 : (f 37).toInt ≤ (128 : Int)) (p16 : (0 : Int) ≤ w.toInt) (p17 : w.toInt ≤ (16383 : Int)) (p18 : (0 : Int) ≤ (f 8).toInt) : am_E (am_PP sc) (d + 2) 229 0 [some (.ref 39), some (.int w), none, none, none, none] [] S (am_N fun v S1 => (∃ a : Int32, ∃ b : Int32, ∃ y : Int32, ∃ z : Int32, ∃ g' : Nat → Nat → Int32, v = none ∧ MS S0 S1 (upd (upd (upd (upd f 8 a) 9 b) 44 y) 48 z) g' ∧ (RJ (upd (upd (upd (upd f 8 a) 9 b) 44 y) 48 z) g' gs bc fl fk pj) ∧ (y.toInt = (f 44).toInt + 1) ∧ ((0 : Int) ≤ z.toInt) ∧ (z.toInt ≤ (f 4).toInt) ∧ (∀ j, j ∉ [45, 46, 47, 49, 50, 51, 52, 71] → g' j = g j) ∧ ((0 : Int) ≤ a.toInt))) := by
  refine am_e2 (v := 39) hi_229_0 rfl ?_
  refine mm_20 (v := .ref 41) hS hi_229_1 rfl ?_
  refine am_e1 (v := w) hi_229_4 rfl ?_
  refine mm_25 hS ma_2 hi_229_5 (by decide) (by omega) (by omega) ?_
  show am_E _ _ _ _ [some (.ref 39), some (.int w), none, none, none, none] [.int (g 2 w.toNatClampNeg)] _ _
  refine am_e3 (ls' := [some (.ref 39), some (.int w), some (.int (g 2 w.toNatClampNeg)), none, none, none]) hi_229_6 (Nat.le_of_ble_eq_true rfl) rfl ?_
  refine am_e2 (v := 39) hi_229_7 rfl ?_
  refine am_e1 (v := g 2 w.toNatClampNeg) hi_229_8 rfl ?_
  refine am_e32n (as := [.ref 39, .int (g 2 w.toNatClampNeg)]) (la := [some (.ref 39), some (.int (g 2 w.toNatClampNeg)), none]) (rest := []) hi_229_9 (am_hd0 (M := 229) (by decide) 9) (Nat.le_of_ble_eq_true rfl) (Nat.le_of_ble_eq_true rfl) (show 2 ≤ am_P0.2.2.1 230 from by decide +kernel) rfl (am_recv_ok hS.fs) rfl rfl (ct_labelOf (d := (d + 1)) hS hR  (by show (0 : Int) ≤ (f 32).toInt; omega) (by show (f 32).toInt ≤ (63 : Int); omega) (by show (0 : Int) ≤ (f 44).toInt; omega) (by show (f 44).toInt ≤ (8192 : Int); omega)) ?_
  rintro v0 S1 (⟨r2, hv3, hS4, h5, h6⟩)
  subst hv3
  have h5_ : (-1 : Int) ≤ r2.toInt := h5
  have h6_ : r2.toInt < (f 44).toInt := h6
  show am_E _ _ _ _ [some (.ref 39), some (.int w), some (.int (g 2 w.toNatClampNeg)), none, none, none] [.int r2] _ _
  by_cases c8 : r2.toInt < (0 : Int)
  · refine am_e12t hi_229_12 (am_cT (m := r2.toInt) (n := (0 : Int)) rfl (by decide) c8) ?_
    refine am_e2 (v := 39) hi_229_22 rfl ?_
    refine am_e32n (as := [.ref 39]) (la := [some (.ref 39), none, none, none]) (rest := []) hi_229_23 (am_hd0 (M := 229) (by decide) 23) (Nat.le_of_ble_eq_true rfl) (Nat.le_of_ble_eq_true rfl) (show 1 ≤ am_P0.2.2.1 231 from by decide +kernel) rfl (am_recv_ok hS4.fs) rfl rfl (ct_isAtEnd (d := d) hS4   (by show (0 : Int) ≤ (f 4).toInt; omega) (by show (f 0).toInt ≤ (16384 : Int); omega) (by show (f 4).toInt ≤ (f 0).toInt; omega)) ?_
    rintro v9 S10 (⟨r11, hv12, hS13, h14⟩)
    subst hv12
    have h14_ : r11 = 0 ∨ r11 = 1 := h14
    show am_E _ _ _ _ [some (.ref 39), some (.int w), some (.int (g 2 w.toNatClampNeg)), none, none, none] [.int r11] _ _
    by_cases c16 : r11.toInt = (0 : Int)
    · refine am_e12t hi_229_26 (am_cT (m := r11.toInt) (n := (0 : Int)) rfl (by decide) c16) ?_
      refine am_e2 (v := 39) hi_229_36 rfl ?_
      refine am_e32n (as := [.ref 39]) (la := [some (.ref 39)]) (rest := []) hi_229_37 (am_hd0 (M := 229) (by decide) 37) (Nat.le_of_ble_eq_true rfl) (Nat.le_of_ble_eq_true rfl) (show 1 ≤ am_P0.2.2.1 197 from by decide +kernel) rfl (am_recv_ok hS13.fs) rfl rfl (ct_count (d := (d + 1)) hS13   (by show (0 : Int) ≤ (f 32).toInt; omega) (by show (f 32).toInt ≤ (63 : Int); omega)) ?_
      rintro v17 S18 (⟨r19, hv20, hS21⟩)
      subst hv20
      show am_E _ _ _ _ [some (.ref 39), some (.int w), some (.int (g 2 w.toNatClampNeg)), none, none, none] [.int r19] _ _
      refine am_e3 (ls' := [some (.ref 39), some (.int w), some (.int (g 2 w.toNatClampNeg)), some (.int r19), none, none]) hi_229_40 (Nat.le_of_ble_eq_true rfl) rfl ?_
      refine am_e2 (v := 39) hi_229_41 rfl ?_
      refine mm_20 (v := .ref 64) hS21 hi_229_42 rfl ?_
      refine am_e2 (v := 39) hi_229_45 rfl ?_
      refine mm_20 (v := .int (f 37)) hS21 hi_229_46 rfl ?_
      refine am_e0 hi_229_49 ?_
      obtain ⟨z23, hz23, tz23⟩ := am_subI (x := f 37) (y := 1) (m := (f 37).toInt) (n := (1 : Int)) rfl (by decide) (by omega) (by omega)
      refine am_e10 (z := z23) hi_229_50 hz23 ?_
      refine mm_25 hS21 ma_40 hi_229_51 (by decide) (by omega) (by omega) ?_
      show am_E _ _ _ _ [some (.ref 39), some (.int w), some (.int (g 2 w.toNatClampNeg)), some (.int r19), none, none] [.int (g 40 z23.toNatClampNeg)] _ _
      have r24 : 0 ≤ (g 40 z23.toNatClampNeg).toInt ∧ (g 40 z23.toNatClampNeg).toInt ≤ (f 4).toInt := RJ.bg (i := z23) hR (by omega) (by show z23.toInt < (f 37).toInt; omega)
      refine am_e3 (ls' := [some (.ref 39), some (.int w), some (.int (g 2 w.toNatClampNeg)), some (.int r19), some (.int (g 40 z23.toNatClampNeg)), none]) hi_229_52 (Nat.le_of_ble_eq_true rfl) rfl ?_
      refine am_e1 (v := g 40 z23.toNatClampNeg) hi_229_54 rfl ?_
      refine am_e3 (ls' := [some (.ref 39), some (.int w), some (.int (g 2 w.toNatClampNeg)), some (.int r19), some (.int (g 40 z23.toNatClampNeg)), some (.int (g 40 z23.toNatClampNeg))]) hi_229_56 (Nat.le_of_ble_eq_true rfl) rfl ?_
      exact lp_label hR p0 p1 p2 p3 p4 p5 p6 p7 p8 p9 p10 p11 p12 p13 p14 p15 p16 p17 p18 ((8192 - (g 40 z23.toNatClampNeg).toInt).toNat + 1) _ (g 2 w.toNatClampNeg) r19 (g 40 z23.toNatClampNeg) (g 40 z23.toNatClampNeg) (g 40 z23.toNatClampNeg) (f 8) (f 9) _ hS21 hR (fun _ _ => rfl) ⟨z23.toNatClampNeg, by rw [cl_toNat]; omega, Int.le_refl _⟩ (by show (0 : Int) ≤ (g 40 z23.toNatClampNeg).toInt; omega) (by show (g 40 z23.toNatClampNeg).toInt ≤ (g 40 z23.toNatClampNeg).toInt; omega) (by show (g 40 z23.toNatClampNeg).toInt ≤ (8192 : Int); omega) (by show (g 40 z23.toNatClampNeg).toInt ≤ (f 4).toInt; omega) (by show (g 40 z23.toNatClampNeg).toInt ≤ (f 48).toInt ∨ (g 40 z23.toNatClampNeg).toInt ≤ (g 40 z23.toNatClampNeg).toInt; omega) (by show (0 : Int) ≤ (f 8).toInt; omega) (by show 8192 - (g 40 z23.toNatClampNeg).toInt < _; omega)
    · refine am_e12f hi_229_26 (am_cF (m := r11.toInt) (n := (0 : Int)) rfl (by decide) c16) ?_
      refine am_e2 (v := 39) hi_229_29 rfl ?_
      refine am_e32w (as := [.ref 39]) (la := [some (.ref 39)]) (rest := []) hi_229_30 (am_hd0 (M := 229) (by decide) 30) (Nat.le_of_ble_eq_true rfl) (Nat.le_of_ble_eq_true rfl) (show 1 ≤ am_P0.2.2.1 232 from by decide +kernel) rfl (am_recv_ok hS13.fs) rfl rfl ?_
      refine am_e2 (v := 39) hi_232_0 rfl ?_
      refine mm_20 (v := .ref 62) hS13 hi_232_1 rfl ?_
      refine am_e2 (v := 39) hi_232_4 rfl ?_
      refine mm_20 (v := .int (f 37)) hS13 hi_232_5 rfl ?_
      refine am_e0 hi_232_8 ?_
      obtain ⟨z25, hz25, tz25⟩ := am_subI (x := f 37) (y := 1) (m := (f 37).toInt) (n := (1 : Int)) rfl (by decide) (by omega) (by omega)
      refine am_e10 (z := z25) hi_232_9 hz25 ?_
      refine mm_25 hS13 ma_38 hi_232_10 (by decide) (by omega) (by omega) ?_
      show am_E _ _ _ _ [some (.ref 39)] [.int (g 38 z25.toNatClampNeg)] _ _
      have r26 : 0 ≤ (g 38 z25.toNatClampNeg).toInt ∧ (g 38 z25.toNatClampNeg).toInt ≤ (f 24).toInt := RJ.bl (i := z25) hR (by omega) (by show z25.toInt < (f 37).toInt; omega)
      refine am_e2 (v := 39) hi_232_11 rfl ?_
      refine mm_20 (v := .ref 59) hS13 hi_232_12 rfl ?_
      refine am_e2 (v := 39) hi_232_15 rfl ?_
      refine mm_20 (v := .int (f 32)) hS13 hi_232_16 rfl ?_
      refine mm_25 hS13 ma_34 hi_232_19 (by decide) (by omega) (by omega) ?_
      show am_E _ _ _ _ [some (.ref 39)] [.int (g 34 (f 32).toNatClampNeg), .int (g 38 z25.toNatClampNeg)] _ _
      have r27 : 0 ≤ (g 34 (f 32).toNatClampNeg).toInt := RJ.ba hR (f 32).toNatClampNeg
      obtain ⟨z28, hz28⟩ : ∃ q__, am_bin 1 (g 38 z25.toNatClampNeg) (g 34 (f 32).toNatClampNeg) = q__ := ⟨_, rfl⟩
      refine am_e10 (z := z28) hi_232_20 hz28 ?_
      refine am_e33 hi_232_21 ?_
      show am_E _ _ _ _ [some (.ref 39), some (.int w), some (.int (g 2 w.toNatClampNeg)), none, none, none] [.int z28] _ _
      refine am_e18 hi_229_33 ?_
      refine am_e3 (ls' := [some (.ref 39), some (.int w), some (.int (g 2 w.toNatClampNeg)), some (.int z28), none, none]) hi_229_40 (Nat.le_of_ble_eq_true rfl) rfl ?_
      refine am_e2 (v := 39) hi_229_41 rfl ?_
      refine mm_20 (v := .ref 64) hS13 hi_229_42 rfl ?_
      refine am_e2 (v := 39) hi_229_45 rfl ?_
      refine mm_20 (v := .int (f 37)) hS13 hi_229_46 rfl ?_
      refine am_e0 hi_229_49 ?_
      refine am_e10 (z := z25) hi_229_50 hz25 ?_
      refine mm_25 hS13 ma_40 hi_229_51 (by decide) (by omega) (by omega) ?_
      show am_E _ _ _ _ [some (.ref 39), some (.int w), some (.int (g 2 w.toNatClampNeg)), some (.int z28), none, none] [.int (g 40 z25.toNatClampNeg)] _ _
      have r29 : 0 ≤ (g 40 z25.toNatClampNeg).toInt ∧ (g 40 z25.toNatClampNeg).toInt ≤ (f 4).toInt := RJ.bg (i := z25) hR (by omega) (by show z25.toInt < (f 37).toInt; omega)
      refine am_e3 (ls' := [some (.ref 39), some (.int w), some (.int (g 2 w.toNatClampNeg)), some (.int z28), some (.int (g 40 z25.toNatClampNeg)), none]) hi_229_52 (Nat.le_of_ble_eq_true rfl) rfl ?_
      refine am_e1 (v := g 40 z25.toNatClampNeg) hi_229_54 rfl ?_
      refine am_e3 (ls' := [some (.ref 39), some (.int w), some (.int (g 2 w.toNatClampNeg)), some (.int z28), some (.int (g 40 z25.toNatClampNeg)), some (.int (g 40 z25.toNatClampNeg))]) hi_229_56 (Nat.le_of_ble_eq_true rfl) rfl ?_
      exact lp_label hR p0 p1 p2 p3 p4 p5 p6 p7 p8 p9 p10 p11 p12 p13 p14 p15 p16 p17 p18 ((8192 - (g 40 z25.toNatClampNeg).toInt).toNat + 1) _ (g 2 w.toNatClampNeg) z28 (g 40 z25.toNatClampNeg) (g 40 z25.toNatClampNeg) (g 40 z25.toNatClampNeg) (f 8) (f 9) _ hS13 hR (fun _ _ => rfl) ⟨z25.toNatClampNeg, by rw [cl_toNat]; omega, Int.le_refl _⟩ (by show (0 : Int) ≤ (g 40 z25.toNatClampNeg).toInt; omega) (by show (g 40 z25.toNatClampNeg).toInt ≤ (g 40 z25.toNatClampNeg).toInt; omega) (by show (g 40 z25.toNatClampNeg).toInt ≤ (8192 : Int); omega) (by show (g 40 z25.toNatClampNeg).toInt ≤ (f 4).toInt; omega) (by show (g 40 z25.toNatClampNeg).toInt ≤ (f 48).toInt ∨ (g 40 z25.toNatClampNeg).toInt ≤ (g 40 z25.toNatClampNeg).toInt; omega) (by show (0 : Int) ≤ (f 8).toInt; omega) (by show 8192 - (g 40 z25.toNatClampNeg).toInt < _; omega)
  · refine am_e12f hi_229_12 (am_cF (m := r2.toInt) (n := (0 : Int)) rfl (by decide) c8) ?_
    refine am_e2 (v := 39) hi_229_15 rfl ?_
    refine am_e0 hi_229_16 ?_
    refine am_e1 (v := w) hi_229_18 rfl ?_
    refine am_e32n (as := [.ref 39, .int 13, .int w]) (la := [some (.ref 39), some (.int 13), some (.int w)]) (rest := []) hi_229_19 (am_hd0 (M := 229) (by decide) 19) (Nat.le_of_ble_eq_true rfl) (Nat.le_of_ble_eq_true rfl) (show 3 ≤ am_P0.2.2.1 191 from by decide +kernel) rfl (am_recv_ok hS4.fs) rfl rfl (ct_failName (d := (d + 1)) hS4   (by show (0 : Int) ≤ (13 : Int); omega) (by show (0 : Int) ≤ (f 8).toInt; omega)) ?_
    rintro v30 S31 (⟨a32, b33, hv34, hS35, h36⟩)
    subst hv34
    have h36_ : (0 : Int) ≤ a32.toInt := h36
    show am_E _ _ _ _ [some (.ref 39), some (.int w), some (.int (g 2 w.toNatClampNeg)), none, none, none] [] _ _
    refine am_e2 (v := 39) hi_229_22 rfl ?_
    refine am_e32n (as := [.ref 39]) (la := [some (.ref 39), none, none, none]) (rest := []) hi_229_23 (am_hd0 (M := 229) (by decide) 23) (Nat.le_of_ble_eq_true rfl) (Nat.le_of_ble_eq_true rfl) (show 1 ≤ am_P0.2.2.1 231 from by decide +kernel) rfl (am_recv_ok hS35.fs) rfl rfl (ct_isAtEnd (d := d) hS35   (by show (0 : Int) ≤ (f 4).toInt; omega) (by show (f 0).toInt ≤ (16384 : Int); omega) (by show (f 4).toInt ≤ (f 0).toInt; omega)) ?_
    rintro v38 S39 (⟨r40, hv41, hS42, h43⟩)
    subst hv41
    have h43_ : r40 = 0 ∨ r40 = 1 := h43
    show am_E _ _ _ _ [some (.ref 39), some (.int w), some (.int (g 2 w.toNatClampNeg)), none, none, none] [.int r40] _ _
    by_cases c45 : r40.toInt = (0 : Int)
    · refine am_e12t hi_229_26 (am_cT (m := r40.toInt) (n := (0 : Int)) rfl (by decide) c45) ?_
      refine am_e2 (v := 39) hi_229_36 rfl ?_
      refine am_e32n (as := [.ref 39]) (la := [some (.ref 39)]) (rest := []) hi_229_37 (am_hd0 (M := 229) (by decide) 37) (Nat.le_of_ble_eq_true rfl) (Nat.le_of_ble_eq_true rfl) (show 1 ≤ am_P0.2.2.1 197 from by decide +kernel) rfl (am_recv_ok hS42.fs) rfl rfl (ct_count (d := (d + 1)) hS42   (by show (0 : Int) ≤ (f 32).toInt; omega) (by show (f 32).toInt ≤ (63 : Int); omega)) ?_
      rintro v46 S47 (⟨r48, hv49, hS50⟩)
      subst hv49
      show am_E _ _ _ _ [some (.ref 39), some (.int w), some (.int (g 2 w.toNatClampNeg)), none, none, none] [.int r48] _ _
      refine am_e3 (ls' := [some (.ref 39), some (.int w), some (.int (g 2 w.toNatClampNeg)), some (.int r48), none, none]) hi_229_40 (Nat.le_of_ble_eq_true rfl) rfl ?_
      refine am_e2 (v := 39) hi_229_41 rfl ?_
      refine mm_20 (v := .ref 64) hS50 hi_229_42 rfl ?_
      refine am_e2 (v := 39) hi_229_45 rfl ?_
      refine mm_20 (v := .int (f 37)) hS50 hi_229_46 rfl ?_
      refine am_e0 hi_229_49 ?_
      obtain ⟨z52, hz52, tz52⟩ := am_subI (x := f 37) (y := 1) (m := (f 37).toInt) (n := (1 : Int)) rfl (by decide) (by omega) (by omega)
      refine am_e10 (z := z52) hi_229_50 hz52 ?_
      refine mm_25 hS50 ma_40 hi_229_51 (by decide) (by omega) (by omega) ?_
      show am_E _ _ _ _ [some (.ref 39), some (.int w), some (.int (g 2 w.toNatClampNeg)), some (.int r48), none, none] [.int (g 40 z52.toNatClampNeg)] _ _
      have r53 : 0 ≤ (g 40 z52.toNatClampNeg).toInt ∧ (g 40 z52.toNatClampNeg).toInt ≤ (f 4).toInt := RJ.bg (i := z52) hR (by omega) (by show z52.toInt < (f 37).toInt; omega)
      refine am_e3 (ls' := [some (.ref 39), some (.int w), some (.int (g 2 w.toNatClampNeg)), some (.int r48), some (.int (g 40 z52.toNatClampNeg)), none]) hi_229_52 (Nat.le_of_ble_eq_true rfl) rfl ?_
      refine am_e1 (v := g 40 z52.toNatClampNeg) hi_229_54 rfl ?_
      refine am_e3 (ls' := [some (.ref 39), some (.int w), some (.int (g 2 w.toNatClampNeg)), some (.int r48), some (.int (g 40 z52.toNatClampNeg)), some (.int (g 40 z52.toNatClampNeg))]) hi_229_56 (Nat.le_of_ble_eq_true rfl) rfl ?_
      exact lp_label hR p0 p1 p2 p3 p4 p5 p6 p7 p8 p9 p10 p11 p12 p13 p14 p15 p16 p17 p18 ((8192 - (g 40 z52.toNatClampNeg).toInt).toNat + 1) _ (g 2 w.toNatClampNeg) r48 (g 40 z52.toNatClampNeg) (g 40 z52.toNatClampNeg) (g 40 z52.toNatClampNeg) a32 b33 _ hS50 hR (fun _ _ => rfl) ⟨z52.toNatClampNeg, by rw [cl_toNat]; omega, Int.le_refl _⟩ (by show (0 : Int) ≤ (g 40 z52.toNatClampNeg).toInt; omega) (by show (g 40 z52.toNatClampNeg).toInt ≤ (g 40 z52.toNatClampNeg).toInt; omega) (by show (g 40 z52.toNatClampNeg).toInt ≤ (8192 : Int); omega) (by show (g 40 z52.toNatClampNeg).toInt ≤ (f 4).toInt; omega) (by show (g 40 z52.toNatClampNeg).toInt ≤ (f 48).toInt ∨ (g 40 z52.toNatClampNeg).toInt ≤ (g 40 z52.toNatClampNeg).toInt; omega) (by show (0 : Int) ≤ a32.toInt; omega) (by show 8192 - (g 40 z52.toNatClampNeg).toInt < _; omega)
    · refine am_e12f hi_229_26 (am_cF (m := r40.toInt) (n := (0 : Int)) rfl (by decide) c45) ?_
      refine am_e2 (v := 39) hi_229_29 rfl ?_
      refine am_e32w (as := [.ref 39]) (la := [some (.ref 39)]) (rest := []) hi_229_30 (am_hd0 (M := 229) (by decide) 30) (Nat.le_of_ble_eq_true rfl) (Nat.le_of_ble_eq_true rfl) (show 1 ≤ am_P0.2.2.1 232 from by decide +kernel) rfl (am_recv_ok hS42.fs) rfl rfl ?_
      refine am_e2 (v := 39) hi_232_0 rfl ?_
      refine mm_20 (v := .ref 62) hS42 hi_232_1 rfl ?_
      refine am_e2 (v := 39) hi_232_4 rfl ?_
      refine mm_20 (v := .int (f 37)) hS42 hi_232_5 rfl ?_
      refine am_e0 hi_232_8 ?_
      obtain ⟨z54, hz54, tz54⟩ := am_subI (x := f 37) (y := 1) (m := (f 37).toInt) (n := (1 : Int)) rfl (by decide) (by omega) (by omega)
      refine am_e10 (z := z54) hi_232_9 hz54 ?_
      refine mm_25 hS42 ma_38 hi_232_10 (by decide) (by omega) (by omega) ?_
      show am_E _ _ _ _ [some (.ref 39)] [.int (g 38 z54.toNatClampNeg)] _ _
      have r55 : 0 ≤ (g 38 z54.toNatClampNeg).toInt ∧ (g 38 z54.toNatClampNeg).toInt ≤ (f 24).toInt := RJ.bl (i := z54) hR (by omega) (by show z54.toInt < (f 37).toInt; omega)
      refine am_e2 (v := 39) hi_232_11 rfl ?_
      refine mm_20 (v := .ref 59) hS42 hi_232_12 rfl ?_
      refine am_e2 (v := 39) hi_232_15 rfl ?_
      refine mm_20 (v := .int (f 32)) hS42 hi_232_16 rfl ?_
      refine mm_25 hS42 ma_34 hi_232_19 (by decide) (by omega) (by omega) ?_
      show am_E _ _ _ _ [some (.ref 39)] [.int (g 34 (f 32).toNatClampNeg), .int (g 38 z54.toNatClampNeg)] _ _
      have r56 : 0 ≤ (g 34 (f 32).toNatClampNeg).toInt := RJ.ba hR (f 32).toNatClampNeg
      obtain ⟨z57, hz57⟩ : ∃ q__, am_bin 1 (g 38 z54.toNatClampNeg) (g 34 (f 32).toNatClampNeg) = q__ := ⟨_, rfl⟩
      refine am_e10 (z := z57) hi_232_20 hz57 ?_
      refine am_e33 hi_232_21 ?_
      show am_E _ _ _ _ [some (.ref 39), some (.int w), some (.int (g 2 w.toNatClampNeg)), none, none, none] [.int z57] _ _
      refine am_e18 hi_229_33 ?_
      refine am_e3 (ls' := [some (.ref 39), some (.int w), some (.int (g 2 w.toNatClampNeg)), some (.int z57), none, none]) hi_229_40 (Nat.le_of_ble_eq_true rfl) rfl ?_
      refine am_e2 (v := 39) hi_229_41 rfl ?_
      refine mm_20 (v := .ref 64) hS42 hi_229_42 rfl ?_
      refine am_e2 (v := 39) hi_229_45 rfl ?_
      refine mm_20 (v := .int (f 37)) hS42 hi_229_46 rfl ?_
      refine am_e0 hi_229_49 ?_
      refine am_e10 (z := z54) hi_229_50 hz54 ?_
      refine mm_25 hS42 ma_40 hi_229_51 (by decide) (by omega) (by omega) ?_
      show am_E _ _ _ _ [some (.ref 39), some (.int w), some (.int (g 2 w.toNatClampNeg)), some (.int z57), none, none] [.int (g 40 z54.toNatClampNeg)] _ _
      have r58 : 0 ≤ (g 40 z54.toNatClampNeg).toInt ∧ (g 40 z54.toNatClampNeg).toInt ≤ (f 4).toInt := RJ.bg (i := z54) hR (by omega) (by show z54.toInt < (f 37).toInt; omega)
      refine am_e3 (ls' := [some (.ref 39), some (.int w), some (.int (g 2 w.toNatClampNeg)), some (.int z57), some (.int (g 40 z54.toNatClampNeg)), none]) hi_229_52 (Nat.le_of_ble_eq_true rfl) rfl ?_
      refine am_e1 (v := g 40 z54.toNatClampNeg) hi_229_54 rfl ?_
      refine am_e3 (ls' := [some (.ref 39), some (.int w), some (.int (g 2 w.toNatClampNeg)), some (.int z57), some (.int (g 40 z54.toNatClampNeg)), some (.int (g 40 z54.toNatClampNeg))]) hi_229_56 (Nat.le_of_ble_eq_true rfl) rfl ?_
      exact lp_label hR p0 p1 p2 p3 p4 p5 p6 p7 p8 p9 p10 p11 p12 p13 p14 p15 p16 p17 p18 ((8192 - (g 40 z54.toNatClampNeg).toInt).toNat + 1) _ (g 2 w.toNatClampNeg) z57 (g 40 z54.toNatClampNeg) (g 40 z54.toNatClampNeg) (g 40 z54.toNatClampNeg) a32 b33 _ hS42 hR (fun _ _ => rfl) ⟨z54.toNatClampNeg, by rw [cl_toNat]; omega, Int.le_refl _⟩ (by show (0 : Int) ≤ (g 40 z54.toNatClampNeg).toInt; omega) (by show (g 40 z54.toNatClampNeg).toInt ≤ (g 40 z54.toNatClampNeg).toInt; omega) (by show (g 40 z54.toNatClampNeg).toInt ≤ (8192 : Int); omega) (by show (g 40 z54.toNatClampNeg).toInt ≤ (f 4).toInt; omega) (by show (g 40 z54.toNatClampNeg).toInt ≤ (f 48).toInt ∨ (g 40 z54.toNatClampNeg).toInt ≤ (g 40 z54.toNatClampNeg).toInt; omega) (by show (0 : Int) ≤ a32.toInt; omega) (by show 8192 - (g 40 z54.toNatClampNeg).toInt < _; omega)
