/-! THE REFERENCE: blocks closed, a jump joins its chain (printed by wip/p2/ref15.py) -/
theorem ct_putc {sc : Nat × (Nat → Int32)} {d : Nat} {S0 S : am_S} {f : Nat → Int32} {g : Nat → Nat → Int32} {op : Int32} {a : Int32} {b : Int32} {w : Int32} {gs : List mg_E} {bc : List (List Nat)} {fl : List Nat} {fk : Int} {pj : List Nat} (hS : MS S0 S f g) (hR : RJ f g gs bc fl fk pj) (ha : a.toInt = fk) (p0 : (0 : Int) ≤ (f 32).toInt) (p1 : (f 32).toInt ≤ (63 : Int)) (p2 : (f 53).toInt ≤ (4096 : Int)) (p3 : (0 : Int) ≤ (f 68).toInt) (p4 : (f 68).toInt ≤ (65534 : Int)) : am_E (am_PP sc) (d + 0) 189 0 [some (.ref 39), some (.int op), some (.int a), some (.int b), some (.int w)] [] S (am_N fun v S1 => (∃ z : Int32, ∃ r : Int32, ∃ g' : Nat → Nat → Int32, v = some (.int r) ∧ MS S0 S1 (upd f 68 z) g' ∧ (RJ (upd f 68 z) g' gs bc ((f 68).toNatClampNeg :: fl) ((f 68).toInt + 1) pj) ∧ (z.toInt = (f 68).toInt + 1) ∧ (r.toInt = (f 68).toInt) ∧ (∀ j, j ∉ [60, 69, 70, 71, 72, 73] → g' j = g j))) := by
  refine am_e2 (v := 39) hi_189_0 rfl ?_
  refine mm_20 (v := .int (f 68)) hS hi_189_1 rfl ?_
  refine am_e0 hi_189_4 ?_
  refine am_e13f hi_189_6 (am_cF (m := (f 68).toInt) (n := (65536 : Int)) rfl (by decide) (by simp only [am_cI]; omega)) ?_
  refine am_e2 (v := 39) hi_189_9 rfl ?_
  refine mm_20 (v := .ref 88) hS hi_189_10 rfl ?_
  refine am_e2 (v := 39) hi_189_13 rfl ?_
  refine mm_20 (v := .int (f 68)) hS hi_189_14 rfl ?_
  refine am_e2 (v := 39) hi_189_17 rfl ?_
  refine mm_20 (v := .ref 58) hS hi_189_18 rfl ?_
  refine am_e2 (v := 39) hi_189_21 rfl ?_
  refine mm_20 (v := .int (f 32)) hS hi_189_22 rfl ?_
  refine mm_25 hS ma_33 hi_189_25 (by decide) (by omega) (by omega) ?_
  show am_E _ _ _ _ [some (.ref 39), some (.int op), some (.int a), some (.int b), some (.int w)] [.int (g 33 (f 32).toNatClampNeg), .int (f 68), .ref 88] _ _
  have r0 : 0 ≤ (g 33 (f 32).toNatClampNeg).toInt ∧ (g 33 (f 32).toNatClampNeg).toInt < (f 53).toInt := RJ.fn (i := f 32) hR (by omega) (by show (f 32).toInt ≤ (f 32).toInt; omega)
  refine mm_26 hS ma_69 hi_189_26 (by decide) (by omega) (by omega) (fun h => nomatch h) ?_
  intro S1 hS2
  refine am_e2 (v := 39) hi_189_27 rfl ?_
  refine mm_20 (v := .ref 89) hS2 hi_189_28 rfl ?_
  refine am_e2 (v := 39) hi_189_31 rfl ?_
  refine mm_20 (v := .int (f 68)) hS2 hi_189_32 rfl ?_
  refine am_e1 (v := op) hi_189_35 rfl ?_
  refine mm_26 hS2 ma_70 hi_189_36 (by decide) (by omega) (by omega) (fun h => nomatch h) ?_
  intro S3 hS4
  refine am_e2 (v := 39) hi_189_37 rfl ?_
  refine mm_20 (v := .ref 90) hS4 hi_189_38 rfl ?_
  refine am_e2 (v := 39) hi_189_41 rfl ?_
  refine mm_20 (v := .int (f 68)) hS4 hi_189_42 rfl ?_
  refine am_e1 (v := a) hi_189_45 rfl ?_
  refine mm_26 hS4 ma_71 hi_189_46 (by decide) (by omega) (by omega) (fun h => nomatch h) ?_
  intro S5 hS6
  refine am_e2 (v := 39) hi_189_47 rfl ?_
  refine mm_20 (v := .ref 91) hS6 hi_189_48 rfl ?_
  refine am_e2 (v := 39) hi_189_51 rfl ?_
  refine mm_20 (v := .int (f 68)) hS6 hi_189_52 rfl ?_
  refine am_e1 (v := b) hi_189_55 rfl ?_
  refine mm_26 hS6 ma_72 hi_189_56 (by decide) (by omega) (by omega) (fun h => nomatch h) ?_
  intro S7 hS8
  refine am_e2 (v := 39) hi_189_57 rfl ?_
  refine mm_20 (v := .ref 92) hS8 hi_189_58 rfl ?_
  refine am_e2 (v := 39) hi_189_61 rfl ?_
  refine mm_20 (v := .int (f 68)) hS8 hi_189_62 rfl ?_
  refine am_e1 (v := w) hi_189_65 rfl ?_
  refine mm_26 hS8 ma_73 hi_189_67 (by decide) (by omega) (by omega) (fun h => nomatch h) ?_
  intro S9 hS10
  refine am_e2 (v := 39) hi_189_68 rfl ?_
  refine am_e7 hi_189_69 ?_
  refine mm_20 (v := .int (f 68)) hS10 hi_189_70 rfl ?_
  refine am_e0 hi_189_73 ?_
  obtain ⟨z11, hz11, tz11⟩ := am_addI (x := f 68) (y := 1) (m := (f 68).toInt) (n := (1 : Int)) rfl (by decide) (by omega) (by omega)
  refine am_e10 (z := z11) hi_189_74 hz11 ?_
  refine mm_21 (v := z11) hS10 hi_189_75 rfl (Nat.le_of_ble_eq_true rfl) ms_68 ?_
  intro S12 hS13
  refine am_e2 (v := 39) hi_189_78 rfl ?_
  refine mm_20 (v := .ref 81) hS13 hi_189_79 rfl ?_
  refine am_e2 (v := 39) hi_189_82 rfl ?_
  refine mm_20 (v := .ref 58) hS13 hi_189_83 rfl ?_
  refine am_e2 (v := 39) hi_189_86 rfl ?_
  refine mm_20 (v := .int (f 32)) hS13 hi_189_87 rfl ?_
  refine mm_25 hS13 ma_33 hi_189_90 (by decide) (by omega) (by omega) ?_
  show am_E _ _ _ _ [some (.ref 39), some (.int op), some (.int a), some (.int b), some (.int w)] [.int (g 33 (f 32).toNatClampNeg), .ref 81] _ _
  have r14 : 0 ≤ (g 33 (f 32).toNatClampNeg).toInt ∧ (g 33 (f 32).toNatClampNeg).toInt < (f 53).toInt := RJ.fn (i := f 32) hR (by omega) (by show (f 32).toInt ≤ (f 32).toInt; omega)
  refine am_e8 hi_189_91 ?_
  refine mm_25 hS13 ma_60 hi_189_92 (by decide) (by omega) (by omega) ?_
  show am_E _ _ _ _ [some (.ref 39), some (.int op), some (.int a), some (.int b), some (.int w)] [.int (g 60 (g 33 (f 32).toNatClampNeg).toNatClampNeg), .int (g 33 (f 32).toNatClampNeg), .ref 81] _ _
  have r15 : 0 ≤ (g 60 (g 33 (f 32).toNatClampNeg).toNatClampNeg).toInt ∧ (g 60 (g 33 (f 32).toNatClampNeg).toNatClampNeg).toInt ≤ (f 68).toInt := RJ.codes (i := g 33 (f 32).toNatClampNeg) hR (by show 0 ≤ (f 68).toInt; omega) (by omega) (by show (g 33 (f 32).toNatClampNeg).toInt < (f 53).toInt; omega)
  refine am_e0 hi_189_93 ?_
  obtain ⟨z16, hz16, tz16⟩ := am_addI (x := g 60 (g 33 (f 32).toNatClampNeg).toNatClampNeg) (y := 1) (m := (g 60 (g 33 (f 32).toNatClampNeg).toNatClampNeg).toInt) (n := (1 : Int)) rfl (by decide) (by omega) (by omega)
  refine am_e10 (z := z16) hi_189_94 hz16 ?_
  refine mm_26 hS13 ma_60 hi_189_95 (by decide) (by omega) (by omega) (fun h => nomatch h) ?_
  intro S17 hS18
  refine am_e2 (v := 39) hi_189_96 rfl ?_
  refine mm_20 (v := .int z11) hS18 hi_189_97 rfl ?_
  refine am_e0 hi_189_100 ?_
  obtain ⟨z19, hz19, tz19⟩ := am_subI (x := z11) (y := 1) (m := z11.toInt) (n := (1 : Int)) rfl (by decide) (by omega) (by omega)
  refine am_e10 (z := z19) hi_189_101 hz19 ?_
  refine am_e33 hi_189_102 ?_
  exact ⟨z11, z19, _, rfl, hS18, (rj_putc hR (by omega) ha (by omega) ⟨by omega, by omega⟩ (by omega)), (by show z11.toInt = (f 68).toInt + 1; omega), (by show z19.toInt = (f 68).toInt; omega), (by intro j hj; simp only [List.mem_cons, List.not_mem_nil, or_false, not_or] at hj; simp only [upg, hj, if_false])⟩
theorem lp_dropBlock2 {sc : Nat × (Nat → Int32)} {d : Nat} {S0 : am_S} {f : Nat → Int32} {g : Nat → Nat → Int32} {c : List Nat} {gs : List mg_E} {bc : List (List Nat)} {fl : List Nat} {fk : Int} {pj : List Nat}  (hR : RJ f g gs (c :: bc) fl fk pj) (p0 : (0 : Int) ≤ (f 32).toInt) (p1 : (f 32).toInt ≤ (63 : Int)) (p2 : (0 : Int) ≤ (f 48).toInt) (p3 : (f 48).toInt ≤ (8192 : Int)) (p4 : (f 4).toInt ≤ (8192 : Int)) (p5 : (1 : Int) ≤ (f 37).toInt) (p6 : (f 37).toInt ≤ (128 : Int)) : ∀ (N : Nat) (S : am_S) (x2 : Option Value) (kk z : Int32) (gx : Nat → Nat → Int32), MS S0 S (upd f 37 z) gx → (∀ j, j ∉ [52] → gx j = g j) → (0 : Int) ≤ kk.toInt → kk.toInt ≤ (8192 : Int) → z.toInt = (f 37).toInt - 1 → 8192 - kk.toInt < (N : Int) → am_E (am_PP sc) (d + 0) 224 20 [some (.ref 39), some (.int kk), x2] [] S (am_N fun v S1 => (∃ l : Int32, ∃ z : Int32, ∃ b : Int32, ∃ g' : Nat → Nat → Int32, v = none ∧ MS S0 S1 (upd (upd (upd f 24 l) 37 z) 44 b) g' ∧ (RJ (upd (upd (upd f 24 l) 37 z) 44 b) g' gs bc fl fk pj) ∧ (z.toInt = (f 37).toInt - 1) ∧ ((0 : Int) ≤ l.toInt) ∧ (l.toInt ≤ (f 24).toInt) ∧ ((0 : Int) ≤ b.toInt) ∧ (b.toInt ≤ (f 4).toInt) ∧ (∀ j, j ∉ [52] → g' j = g j) ∧ (fl = [] → RJ (upd (upd (upd f 24 l) 37 z) 44 b) g' gs bc c (g' 43 z.toNatClampNeg).toInt pj) ∧ (l = g 38 z.toNatClampNeg))) := by
  intro N
  induction N with
  | zero =>
    intro S x2 kk z gx  hS  hx i0 i1 i2 hN
    exfalso
    omega
  | succ N ih =>
    intro S x2 kk z gx  hS  hx i0 i1 i2 hN
    refine am_e1 (v := kk) hi_224_20 rfl ?_
    refine am_e2 (v := 39) hi_224_21 rfl ?_
    refine mm_20 (v := .int (f 48)) hS hi_224_22 rfl ?_
    by_cases c0 : (f 48).toInt ≤ kk.toInt
    · refine am_e13t hi_224_25 (am_cT (m := kk.toInt) (n := (f 48).toInt) rfl rfl c0) ?_
      refine am_e2 (v := 39) hi_224_80 rfl ?_
      refine am_e2 (v := 39) hi_224_81 rfl ?_
      refine mm_20 (v := .ref 62) hS hi_224_82 rfl ?_
      refine am_e2 (v := 39) hi_224_85 rfl ?_
      refine mm_20 (v := .int z) hS hi_224_86 rfl ?_
      refine mm_25 hS ma_38 hi_224_89 (by decide) (by omega) (by omega) ?_
      show am_E _ _ _ _ _ (.int (gx 38 z.toNatClampNeg) :: _) _ _
      rw [show gx 38 = g 38 from hx 38 (by decide)]
      show am_E _ _ _ _ [some (.ref 39), some (.int kk), x2] [.int (g 38 z.toNatClampNeg), .ref 39] _ _
      have r1 : 0 ≤ (g 38 z.toNatClampNeg).toInt ∧ (g 38 z.toNatClampNeg).toInt ≤ (f 24).toInt := RJ.bl (i := z) hR (by omega) (by show z.toInt < (f 37).toInt; omega)
      refine mm_21 (v := g 38 z.toNatClampNeg) hS hi_224_90 rfl (Nat.le_of_ble_eq_true rfl) ms_24 ?_
      intro S2 hS3
      replace hS3 : MS S0 S2 (upd (upd f 24 (g 38 z.toNatClampNeg)) 37 z) gx := hS3
      refine am_e2 (v := 39) hi_224_93 rfl ?_
      refine am_e2 (v := 39) hi_224_94 rfl ?_
      refine mm_20 (v := .ref 63) hS3 hi_224_95 rfl ?_
      refine am_e2 (v := 39) hi_224_98 rfl ?_
      refine mm_20 (v := .int z) hS3 hi_224_99 rfl ?_
      refine mm_25 hS3 ma_39 hi_224_102 (by decide) (by omega) (by omega) ?_
      show am_E _ _ _ _ _ (.int (gx 39 z.toNatClampNeg) :: _) _ _
      rw [show gx 39 = g 39 from hx 39 (by decide)]
      show am_E _ _ _ _ [some (.ref 39), some (.int kk), x2] [.int (g 39 z.toNatClampNeg), .ref 39] _ _
      have r4 : 0 ≤ (g 39 z.toNatClampNeg).toInt ∧ (g 39 z.toNatClampNeg).toInt ≤ (f 4).toInt := RJ.bb (i := z) hR (by omega) (by show z.toInt < (f 37).toInt; omega)
      refine mm_21 (v := g 39 z.toNatClampNeg) hS3 hi_224_103 rfl (Nat.le_of_ble_eq_true rfl) ms_44 ?_
      intro S5 hS6
      refine am_e35 hi_224_106 ?_
      have hdr := rj_drop (g' := gx) (l := g 38 z.toNatClampNeg) (b := g 39 z.toNatClampNeg) (z := z) hR (by omega) (by omega) rfl (hx)
      exact ⟨(g 38 z.toNatClampNeg), z, (g 39 z.toNatClampNeg), _, rfl, hS6, hdr.1, (by show z.toInt = (f 37).toInt - 1; omega), (by show (0 : Int) ≤ ((g 38 z.toNatClampNeg)).toInt; omega), (by show ((g 38 z.toNatClampNeg)).toInt ≤ (f 24).toInt; omega), (by show (0 : Int) ≤ ((g 39 z.toNatClampNeg)).toInt; omega), (by show ((g 39 z.toNatClampNeg)).toInt ≤ (f 4).toInt; omega), hx, hdr.2, rfl⟩
    · refine am_e13f hi_224_25 (am_cF (m := kk.toInt) (n := (f 48).toInt) rfl rfl c0) ?_
      refine am_e2 (v := 39) hi_224_28 rfl ?_
      refine mm_20 (v := .ref 62) hS hi_224_29 rfl ?_
      refine am_e2 (v := 39) hi_224_32 rfl ?_
      refine mm_20 (v := .int z) hS hi_224_33 rfl ?_
      refine mm_25 hS ma_38 hi_224_36 (by decide) (by omega) (by omega) ?_
      show am_E _ _ _ _ _ (.int (gx 38 z.toNatClampNeg) :: _) _ _
      rw [show gx 38 = g 38 from hx 38 (by decide)]
      show am_E _ _ _ _ [some (.ref 39), some (.int kk), x2] [.int (g 38 z.toNatClampNeg)] _ _
      have r7 : 0 ≤ (g 38 z.toNatClampNeg).toInt ∧ (g 38 z.toNatClampNeg).toInt ≤ (f 24).toInt := RJ.bl (i := z) hR (by omega) (by show z.toInt < (f 37).toInt; omega)
      refine am_e2 (v := 39) hi_224_37 rfl ?_
      refine mm_20 (v := .ref 59) hS hi_224_38 rfl ?_
      refine am_e2 (v := 39) hi_224_41 rfl ?_
      refine mm_20 (v := .int (f 32)) hS hi_224_42 rfl ?_
      refine mm_25 hS ma_34 hi_224_45 (by decide) (by omega) (by omega) ?_
      show am_E _ _ _ _ _ (.int (gx 34 (f 32).toNatClampNeg) :: _) _ _
      rw [show gx 34 = g 34 from hx 34 (by decide)]
      show am_E _ _ _ _ [some (.ref 39), some (.int kk), x2] [.int (g 34 (f 32).toNatClampNeg), .int (g 38 z.toNatClampNeg)] _ _
      have r8 : 0 ≤ (g 34 (f 32).toNatClampNeg).toInt := RJ.ba hR (f 32).toNatClampNeg
      obtain ⟨z9, hz9⟩ : ∃ q__, am_bin 1 (g 38 z.toNatClampNeg) (g 34 (f 32).toNatClampNeg) = q__ := ⟨_, rfl⟩
      refine am_e10 (z := z9) hi_224_46 hz9 ?_
      refine am_e3 (ls' := [some (.ref 39), some (.int kk), some (.int z9)]) hi_224_47 (Nat.le_of_ble_eq_true rfl) rfl ?_
      refine am_e2 (v := 39) hi_224_48 rfl ?_
      refine mm_20 (v := .ref 74) hS hi_224_49 rfl ?_
      refine am_e1 (v := kk) hi_224_52 rfl ?_
      refine am_e2 (v := 39) hi_224_53 rfl ?_
      refine mm_20 (v := .ref 74) hS hi_224_54 rfl ?_
      refine am_e1 (v := kk) hi_224_57 rfl ?_
      refine mm_25 hS ma_52 hi_224_58 (by decide) (by omega) (by omega) ?_
      show am_E _ _ _ _ [some (.ref 39), some (.int kk), some (.int z9)] [.int (gx 52 kk.toNatClampNeg), .int kk, .ref 74] _ _
      refine am_e1 (v := z9) hi_224_59 rfl ?_
      by_cases c10 : (gx 52 kk.toNatClampNeg).toInt ≤ z9.toInt
      · refine am_e13t hi_224_60 (am_cT (m := (gx 52 kk.toNatClampNeg).toInt) (n := z9.toInt) rfl rfl c10) ?_
        refine am_e2 (v := 39) hi_224_67 rfl ?_
        refine mm_20 (v := .ref 74) hS hi_224_68 rfl ?_
        refine am_e1 (v := kk) hi_224_71 rfl ?_
        refine mm_25 hS ma_52 hi_224_72 (by decide) (by omega) (by omega) ?_
        show am_E _ _ _ _ [some (.ref 39), some (.int kk), some (.int z9)] [.int (gx 52 kk.toNatClampNeg), .int kk, .ref 74] _ _
        refine mm_26 hS ma_52 hi_224_73 (by decide) (by omega) (by omega) (fun h => nomatch h) ?_
        intro S11 hS12
        obtain ⟨z13, hz13, tz13⟩ := am_addI (x := kk) (y := 1) (m := kk.toInt) (n := (1 : Int)) rfl (by decide) (by omega) (by omega)
        refine am_e5 (v := kk) (z := z13) (ls' := [some (.ref 39), some (.int z13), some (.int z9)]) hi_224_74 rfl hz13 rfl ?_
        refine am_e18 hi_224_77 ?_
        exact ih _ (some (.int z9)) z13 z _ hS12 (fun j hj => ((show ∀ j, j ∉ [52] → (upg gx 52 kk.toNatClampNeg (gx 52 kk.toNatClampNeg)) j = gx j from by intro j hj; simp only [List.mem_cons, List.not_mem_nil, or_false, not_or] at hj; simp only [upg, hj, if_false]) j hj).trans (hx j hj)) (by show (0 : Int) ≤ z13.toInt; omega) (by show z13.toInt ≤ (8192 : Int); omega) (by show z.toInt = (f 37).toInt - 1; omega) (by show 8192 - z13.toInt < (N : Int); omega)
      · refine am_e13f hi_224_60 (am_cF (m := (gx 52 kk.toNatClampNeg).toInt) (n := z9.toInt) rfl rfl c10) ?_
        refine am_e1 (v := z9) hi_224_63 rfl ?_
        refine am_e18 hi_224_64 ?_
        refine mm_26 hS ma_52 hi_224_73 (by decide) (by omega) (by omega) (fun h => nomatch h) ?_
        intro S14 hS15
        obtain ⟨z16, hz16, tz16⟩ := am_addI (x := kk) (y := 1) (m := kk.toInt) (n := (1 : Int)) rfl (by decide) (by omega) (by omega)
        refine am_e5 (v := kk) (z := z16) (ls' := [some (.ref 39), some (.int z16), some (.int z9)]) hi_224_74 rfl hz16 rfl ?_
        refine am_e18 hi_224_77 ?_
        exact ih _ (some (.int z9)) z16 z _ hS15 (fun j hj => ((show ∀ j, j ∉ [52] → (upg gx 52 kk.toNatClampNeg z9) j = gx j from by intro j hj; simp only [List.mem_cons, List.not_mem_nil, or_false, not_or] at hj; simp only [upg, hj, if_false]) j hj).trans (hx j hj)) (by show (0 : Int) ≤ z16.toInt; omega) (by show z16.toInt ≤ (8192 : Int); omega) (by show z.toInt = (f 37).toInt - 1; omega) (by show 8192 - z16.toInt < (N : Int); omega)
theorem ct_dropBlock2 {sc : Nat × (Nat → Int32)} {d : Nat} {S0 S : am_S} {f : Nat → Int32} {g : Nat → Nat → Int32} {c : List Nat} {gs : List mg_E} {bc : List (List Nat)} {fl : List Nat} {fk : Int} {pj : List Nat} (hS : MS S0 S f g) (hR : RJ f g gs (c :: bc) fl fk pj) (p0 : (0 : Int) ≤ (f 32).toInt) (p1 : (f 32).toInt ≤ (63 : Int)) (p2 : (0 : Int) ≤ (f 48).toInt) (p3 : (f 48).toInt ≤ (8192 : Int)) (p4 : (f 4).toInt ≤ (8192 : Int)) (p5 : (1 : Int) ≤ (f 37).toInt) (p6 : (f 37).toInt ≤ (128 : Int)) : am_E (am_PP sc) (d + 0) 224 0 [some (.ref 39), none, none] [] S (am_N fun v S1 => (∃ l : Int32, ∃ z : Int32, ∃ b : Int32, ∃ g' : Nat → Nat → Int32, v = none ∧ MS S0 S1 (upd (upd (upd f 24 l) 37 z) 44 b) g' ∧ (RJ (upd (upd (upd f 24 l) 37 z) 44 b) g' gs bc fl fk pj) ∧ (z.toInt = (f 37).toInt - 1) ∧ ((0 : Int) ≤ l.toInt) ∧ (l.toInt ≤ (f 24).toInt) ∧ ((0 : Int) ≤ b.toInt) ∧ (b.toInt ≤ (f 4).toInt) ∧ (∀ j, j ∉ [52] → g' j = g j) ∧ (fl = [] → RJ (upd (upd (upd f 24 l) 37 z) 44 b) g' gs bc c (g' 43 z.toNatClampNeg).toInt pj) ∧ (l = g 38 z.toNatClampNeg))) := by
  refine am_e2 (v := 39) hi_224_0 rfl ?_
  refine am_e7 hi_224_1 ?_
  refine mm_20 (v := .int (f 37)) hS hi_224_2 rfl ?_
  refine am_e0 hi_224_5 ?_
  obtain ⟨z0, hz0, tz0⟩ := am_subI (x := f 37) (y := 1) (m := (f 37).toInt) (n := (1 : Int)) rfl (by decide) (by omega) (by omega)
  refine am_e10 (z := z0) hi_224_6 hz0 ?_
  refine mm_21 (v := z0) hS hi_224_7 rfl (Nat.le_of_ble_eq_true rfl) ms_37 ?_
  intro S1 hS2
  refine am_e2 (v := 39) hi_224_10 rfl ?_
  refine mm_20 (v := .ref 64) hS2 hi_224_11 rfl ?_
  refine am_e2 (v := 39) hi_224_14 rfl ?_
  refine mm_20 (v := .int z0) hS2 hi_224_15 rfl ?_
  refine mm_25 hS2 ma_40 hi_224_18 (by decide) (by omega) (by omega) ?_
  show am_E _ _ _ _ [some (.ref 39), none, none] [.int (g 40 z0.toNatClampNeg)] _ _
  have r3 : 0 ≤ (g 40 z0.toNatClampNeg).toInt ∧ (g 40 z0.toNatClampNeg).toInt ≤ (f 4).toInt := RJ.bg (i := z0) hR (by omega) (by show z0.toInt < (f 37).toInt; omega)
  refine am_e3 (ls' := [some (.ref 39), some (.int (g 40 z0.toNatClampNeg)), none]) hi_224_19 (Nat.le_of_ble_eq_true rfl) rfl ?_
  exact lp_dropBlock2 hR p0 p1 p2 p3 p4 p5 p6 ((8192 - (g 40 z0.toNatClampNeg).toInt).toNat + 1) _ none (g 40 z0.toNatClampNeg) z0 _ hS2 (fun _ _ => rfl) (by show (0 : Int) ≤ (g 40 z0.toNatClampNeg).toInt; omega) (by show (g 40 z0.toNatClampNeg).toInt ≤ (8192 : Int); omega) (by show z0.toInt = (f 37).toInt - 1; omega) (by show 8192 - (g 40 z0.toNatClampNeg).toInt < _; omega)
theorem lp_unhide2 {sc : Nat × (Nat → Int32)} {d : Nat} {S0 : am_S} {f : Nat → Int32} {g : Nat → Nat → Int32} {s : Int32} {gs : List mg_E} {bc : List (List Nat)} {fl : List Nat} {fk : Int} {pj : List Nat}  (hR : RJ f g gs bc fl fk pj) (hu0 : 0 ≤ (g 34 (f 32).toNatClampNeg).toInt + s.toInt) (hu1 : (g 34 (f 32).toNatClampNeg).toInt + s.toInt ≤ (f 24).toInt) (hu2 : ∀ b : Nat, (b : Int) < (f 37).toInt → (g 38 b).toInt ≤ (g 34 (f 32).toNatClampNeg).toInt + s.toInt) (p0 : (0 : Int) ≤ (f 32).toInt) (p1 : (f 32).toInt ≤ (63 : Int)) (p2 : (0 : Int) ≤ (f 48).toInt) (p3 : (f 48).toInt ≤ (8192 : Int)) (p4 : (0 : Int) ≤ (f 37).toInt) (p5 : (f 37).toInt ≤ (127 : Int)) (p6 : (f 24).toInt ≤ (16384 : Int)) : ∀ (N : Nat) (S : am_S) (kk l : Int32) (gx : Nat → Nat → Int32), MS S0 S (upd f 24 l) gx → (∀ j, j ∉ [52] → gx j = g j) → (0 : Int) ≤ kk.toInt → kk.toInt ≤ (8192 : Int) → l.toInt = (g 34 (f 32).toNatClampNeg).toInt + s.toInt → 8192 - kk.toInt < (N : Int) → am_E (am_PP sc) (d + 0) 256 25 [some (.ref 39), some (.int s), some (.int kk)] [] S (am_N fun v S1 => (∃ l : Int32, ∃ g' : Nat → Nat → Int32, v = none ∧ MS S0 S1 (upd f 24 l) g' ∧ (RJ (upd f 24 l) g' gs bc fl fk pj) ∧ ((0 : Int) ≤ l.toInt) ∧ (l.toInt ≤ (f 24).toInt) ∧ (∀ j, j ∉ [52] → g' j = g j))) := by
  intro N
  induction N with
  | zero =>
    intro S  kk l gx  hS  hx i0 i1 i2 hN
    exfalso
    omega
  | succ N ih =>
    intro S  kk l gx  hS  hx i0 i1 i2 hN
    refine am_e1 (v := kk) hi_256_25 rfl ?_
    refine am_e2 (v := 39) hi_256_26 rfl ?_
    refine mm_20 (v := .int (f 48)) hS hi_256_27 rfl ?_
    by_cases c0 : (f 48).toInt ≤ kk.toInt
    · refine am_e13t hi_256_30 (am_cT (m := kk.toInt) (n := (f 48).toInt) rfl rfl c0) ?_
      refine am_e35 hi_256_65 ?_
      have hba : 0 ≤ (g 34 (f 32).toNatClampNeg).toInt := RJ.ba hR _
      have hul : RJ (upd f 24 l) g gs bc fl fk pj := rj_locals hR (fun b hb => by have := hu2 b hb; omega)
      exact ⟨l, _, rfl, hS, (hul.ext (fun j hj => (hx) j (by simp only [List.mem_cons, List.not_mem_nil, or_false] at hj ⊢; omega))), (by show (0 : Int) ≤ l.toInt; omega), (by show l.toInt ≤ (f 24).toInt; omega), hx⟩
    · refine am_e13f hi_256_30 (am_cF (m := kk.toInt) (n := (f 48).toInt) rfl rfl c0) ?_
      refine am_e2 (v := 39) hi_256_33 rfl ?_
      refine mm_20 (v := .ref 74) hS hi_256_34 rfl ?_
      refine am_e1 (v := kk) hi_256_37 rfl ?_
      refine am_e2 (v := 39) hi_256_38 rfl ?_
      refine mm_20 (v := .ref 74) hS hi_256_39 rfl ?_
      refine am_e1 (v := kk) hi_256_42 rfl ?_
      refine mm_25 hS ma_52 hi_256_43 (by decide) (by omega) (by omega) ?_
      show am_E _ _ _ _ [some (.ref 39), some (.int s), some (.int kk)] [.int (gx 52 kk.toNatClampNeg), .int kk, .ref 74] _ _
      refine am_e1 (v := s) hi_256_44 rfl ?_
      by_cases c1 : (gx 52 kk.toNatClampNeg).toInt ≤ s.toInt
      · refine am_e13t hi_256_45 (am_cT (m := (gx 52 kk.toNatClampNeg).toInt) (n := s.toInt) rfl rfl c1) ?_
        refine am_e2 (v := 39) hi_256_52 rfl ?_
        refine mm_20 (v := .ref 74) hS hi_256_53 rfl ?_
        refine am_e1 (v := kk) hi_256_56 rfl ?_
        refine mm_25 hS ma_52 hi_256_57 (by decide) (by omega) (by omega) ?_
        show am_E _ _ _ _ [some (.ref 39), some (.int s), some (.int kk)] [.int (gx 52 kk.toNatClampNeg), .int kk, .ref 74] _ _
        refine mm_26 hS ma_52 hi_256_58 (by decide) (by omega) (by omega) (fun h => nomatch h) ?_
        intro S2 hS3
        obtain ⟨z4, hz4, tz4⟩ := am_addI (x := kk) (y := 1) (m := kk.toInt) (n := (1 : Int)) rfl (by decide) (by omega) (by omega)
        refine am_e5 (v := kk) (z := z4) (ls' := [some (.ref 39), some (.int s), some (.int z4)]) hi_256_59 rfl hz4 rfl ?_
        refine am_e18 hi_256_62 ?_
        exact ih _ z4 l _ hS3 (fun j hj => ((show ∀ j, j ∉ [52] → (upg gx 52 kk.toNatClampNeg (gx 52 kk.toNatClampNeg)) j = gx j from by intro j hj; simp only [List.mem_cons, List.not_mem_nil, or_false, not_or] at hj; simp only [upg, hj, if_false]) j hj).trans (hx j hj)) (by show (0 : Int) ≤ z4.toInt; omega) (by show z4.toInt ≤ (8192 : Int); omega) (by show l.toInt = (g 34 (f 32).toNatClampNeg).toInt + s.toInt; omega) (by show 8192 - z4.toInt < (N : Int); omega)
      · refine am_e13f hi_256_45 (am_cF (m := (gx 52 kk.toNatClampNeg).toInt) (n := s.toInt) rfl rfl c1) ?_
        refine am_e1 (v := s) hi_256_48 rfl ?_
        refine am_e18 hi_256_49 ?_
        refine mm_26 hS ma_52 hi_256_58 (by decide) (by omega) (by omega) (fun h => nomatch h) ?_
        intro S5 hS6
        obtain ⟨z7, hz7, tz7⟩ := am_addI (x := kk) (y := 1) (m := kk.toInt) (n := (1 : Int)) rfl (by decide) (by omega) (by omega)
        refine am_e5 (v := kk) (z := z7) (ls' := [some (.ref 39), some (.int s), some (.int z7)]) hi_256_59 rfl hz7 rfl ?_
        refine am_e18 hi_256_62 ?_
        exact ih _ z7 l _ hS6 (fun j hj => ((show ∀ j, j ∉ [52] → (upg gx 52 kk.toNatClampNeg s) j = gx j from by intro j hj; simp only [List.mem_cons, List.not_mem_nil, or_false, not_or] at hj; simp only [upg, hj, if_false]) j hj).trans (hx j hj)) (by show (0 : Int) ≤ z7.toInt; omega) (by show z7.toInt ≤ (8192 : Int); omega) (by show l.toInt = (g 34 (f 32).toNatClampNeg).toInt + s.toInt; omega) (by show 8192 - z7.toInt < (N : Int); omega)
theorem ct_unhide2 {sc : Nat × (Nat → Int32)} {d : Nat} {S0 S : am_S} {f : Nat → Int32} {g : Nat → Nat → Int32} {s : Int32} {gs : List mg_E} {bc : List (List Nat)} {fl : List Nat} {fk : Int} {pj : List Nat} (hS : MS S0 S f g) (hR : RJ f g gs bc fl fk pj) (hu0 : 0 ≤ (g 34 (f 32).toNatClampNeg).toInt + s.toInt) (hu1 : (g 34 (f 32).toNatClampNeg).toInt + s.toInt ≤ (f 24).toInt) (hu2 : ∀ b : Nat, (b : Int) < (f 37).toInt → (g 38 b).toInt ≤ (g 34 (f 32).toNatClampNeg).toInt + s.toInt) (p0 : (0 : Int) ≤ (f 32).toInt) (p1 : (f 32).toInt ≤ (63 : Int)) (p2 : (0 : Int) ≤ (f 48).toInt) (p3 : (f 48).toInt ≤ (8192 : Int)) (p4 : (0 : Int) ≤ (f 37).toInt) (p5 : (f 37).toInt ≤ (127 : Int)) (p6 : (f 24).toInt ≤ (16384 : Int)) : am_E (am_PP sc) (d + 0) 256 0 [some (.ref 39), some (.int s), none] [] S (am_N fun v S1 => (∃ l : Int32, ∃ g' : Nat → Nat → Int32, v = none ∧ MS S0 S1 (upd f 24 l) g' ∧ (RJ (upd f 24 l) g' gs bc fl fk pj) ∧ ((0 : Int) ≤ l.toInt) ∧ (l.toInt ≤ (f 24).toInt) ∧ (∀ j, j ∉ [52] → g' j = g j))) := by
  refine am_e2 (v := 39) hi_256_0 rfl ?_
  refine am_e2 (v := 39) hi_256_1 rfl ?_
  refine mm_20 (v := .ref 59) hS hi_256_2 rfl ?_
  refine am_e2 (v := 39) hi_256_5 rfl ?_
  refine mm_20 (v := .int (f 32)) hS hi_256_6 rfl ?_
  refine mm_25 hS ma_34 hi_256_9 (by decide) (by omega) (by omega) ?_
  show am_E _ _ _ _ [some (.ref 39), some (.int s), none] [.int (g 34 (f 32).toNatClampNeg), .ref 39] _ _
  have r0 : 0 ≤ (g 34 (f 32).toNatClampNeg).toInt := RJ.ba hR (f 32).toNatClampNeg
  refine am_e1 (v := s) hi_256_10 rfl ?_
  obtain ⟨z1, hz1, tz1⟩ := am_addI (x := g 34 (f 32).toNatClampNeg) (y := s) (m := (g 34 (f 32).toNatClampNeg).toInt) (n := s.toInt) rfl rfl (by omega) (by omega)
  refine am_e10 (z := z1) hi_256_11 hz1 ?_
  refine mm_21 (v := z1) hS hi_256_12 rfl (Nat.le_of_ble_eq_true rfl) ms_24 ?_
  intro S2 hS3
  refine am_e2 (v := 39) hi_256_15 rfl ?_
  refine mm_20 (v := .ref 64) hS3 hi_256_16 rfl ?_
  refine am_e2 (v := 39) hi_256_19 rfl ?_
  refine mm_20 (v := .int (f 37)) hS3 hi_256_20 rfl ?_
  refine mm_25 hS3 ma_40 hi_256_23 (by decide) (by omega) (by omega) ?_
  show am_E _ _ _ _ [some (.ref 39), some (.int s), none] [.int (g 40 (f 37).toNatClampNeg)] _ _
  have r4 : 0 ≤ (g 40 (f 37).toNatClampNeg).toInt := RJ.bg0 hR (f 37).toNatClampNeg
  refine am_e3 (ls' := [some (.ref 39), some (.int s), some (.int (g 40 (f 37).toNatClampNeg))]) hi_256_24 (Nat.le_of_ble_eq_true rfl) rfl ?_
  by_cases hk : (f 48).toInt ≤ (g 40 (f 37).toNatClampNeg).toInt
  · refine am_e1 (v := g 40 (f 37).toNatClampNeg) hi_256_25 rfl ?_
    refine am_e2 (v := 39) hi_256_26 rfl ?_
    refine mm_20 (v := .int (f 48)) hS3 hi_256_27 rfl ?_
    refine am_e13t hi_256_30 (am_cT (m := (g 40 (f 37).toNatClampNeg).toInt) (n := (f 48).toInt) rfl rfl (by simp only [am_cI]; omega)) ?_
    refine am_e35 hi_256_65 ?_
    have hba : 0 ≤ (g 34 (f 32).toNatClampNeg).toInt := RJ.ba hR _
    have hul : RJ (upd f 24 z1) g gs bc fl fk pj := rj_locals hR (fun b hb => by have := hu2 b hb; omega)
    exact ⟨z1, _, rfl, hS3, (hul.ext (fun j hj => ((fun _ _ => rfl)) j (by simp only [List.mem_cons, List.not_mem_nil, or_false] at hj ⊢; omega))), (by show (0 : Int) ≤ z1.toInt; omega), (by show z1.toInt ≤ (f 24).toInt; omega), (fun _ _ => rfl)⟩
  · exact lp_unhide2 hR hu0 hu1 hu2 p0 p1 p2 p3 p4 p5 p6 ((8192 - (g 40 (f 37).toNatClampNeg).toInt).toNat + 1) _ (g 40 (f 37).toNatClampNeg) z1 _ hS3 (fun _ _ => rfl) (by show (0 : Int) ≤ (g 40 (f 37).toNatClampNeg).toInt; omega) (by show (g 40 (f 37).toNatClampNeg).toInt ≤ (8192 : Int); omega) (by show z1.toInt = (g 34 (f 32).toNatClampNeg).toInt + s.toInt; omega) (by show 8192 - (g 40 (f 37).toNatClampNeg).toInt < _; omega)
