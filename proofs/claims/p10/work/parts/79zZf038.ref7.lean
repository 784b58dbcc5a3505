/-! THE REFERENCE: blocks closed, gotos lost, labels found (printed by wip/p2/ref7.py) -/
theorem lp_dropBlock {sc : Nat × (Nat → Int32)} {d : Nat} {S0 : am_S} {f : Nat → Int32} {g : Nat → Nat → Int32} {c : List Nat} {gs : List mg_E} {bc : List (List Nat)} {fl : List Nat} {fk : Int} {pj : List Nat}  (hR : RJ f g gs (c :: bc) fl fk pj) (p0 : (0 : Int) ≤ (f 32).toInt) (p1 : (f 32).toInt ≤ (63 : Int)) (p2 : (0 : Int) ≤ (f 48).toInt) (p3 : (f 48).toInt ≤ (8192 : Int)) (p4 : (f 4).toInt ≤ (8192 : Int)) (p5 : (1 : Int) ≤ (f 37).toInt) (p6 : (f 37).toInt ≤ (128 : Int)) : ∀ (N : Nat) (S : am_S) (x2 : Option Value) (kk z : Int32) (gx : Nat → Nat → Int32), MS S0 S (upd f 37 z) gx → (∀ j, j ∉ [52] → gx j = g j) → (0 : Int) ≤ kk.toInt → kk.toInt ≤ (8192 : Int) → z.toInt = (f 37).toInt - 1 → 8192 - kk.toInt < (N : Int) → am_E (am_PP sc) (d + 0) 224 20 [some (.ref 39), some (.int kk), x2] [] S (am_N fun v S1 => (∃ l : Int32, ∃ z : Int32, ∃ b : Int32, ∃ g' : Nat → Nat → Int32, v = none ∧ MS S0 S1 (upd (upd (upd f 24 l) 37 z) 44 b) g' ∧ (RJ (upd (upd (upd f 24 l) 37 z) 44 b) g' gs bc fl fk pj) ∧ (z.toInt = (f 37).toInt - 1) ∧ ((0 : Int) ≤ l.toInt) ∧ (l.toInt ≤ (f 24).toInt) ∧ ((0 : Int) ≤ b.toInt) ∧ (b.toInt ≤ (f 4).toInt) ∧ (∀ j, j ∉ [52] → g' j = g j) ∧ (fl = [] → RJ (upd (upd (upd f 24 l) 37 z) 44 b) g' gs bc c (g' 43 z.toNatClampNeg).toInt pj))) := by
  intro N
  induction N with
  | zero =>
    intro S x2 kk z gx  hS  hx i0 i1 i2 hN
    exfalso
    omega
  | succ N ih =>
    intro S x2 kk z gx  hS  hx i0 i1 i2 hN
    refine am_e1 (v := kk) hi_224_20 rfl ?_
    refine am_e2 (v := 39) hi_224_21 rfl ?_
    refine mm_20 (v := .int (f 48)) hS hi_224_22 rfl ?_
    by_cases c0 : (f 48).toInt ≤ kk.toInt
    · refine am_e13t hi_224_25 (am_cT (m := kk.toInt) (n := (f 48).toInt) rfl rfl c0) ?_
      refine am_e2 (v := 39) hi_224_80 rfl ?_
      refine am_e2 (v := 39) hi_224_81 rfl ?_
      refine mm_20 (v := .ref 62) hS hi_224_82 rfl ?_
      refine am_e2 (v := 39) hi_224_85 rfl ?_
      refine mm_20 (v := .int z) hS hi_224_86 rfl ?_
      refine mm_25 hS ma_38 hi_224_89 (by decide) (by omega) (by omega) ?_
      show am_E _ _ _ _ _ (.int (gx 38 z.toNatClampNeg) :: _) _ _
      rw [show gx 38 = g 38 from hx 38 (by decide)]
      show am_E _ _ _ _ [some (.ref 39), some (.int kk), x2] [.int (g 38 z.toNatClampNeg), .ref 39] _ _
      have r1 : 0 ≤ (g 38 z.toNatClampNeg).toInt ∧ (g 38 z.toNatClampNeg).toInt ≤ (f 24).toInt := RJ.bl (i := z) hR (by omega) (by show z.toInt < (f 37).toInt; omega)
      refine mm_21 (v := g 38 z.toNatClampNeg) hS hi_224_90 rfl (Nat.le_of_ble_eq_true rfl) ms_24 ?_
      intro S2 hS3
      replace hS3 : MS S0 S2 (upd (upd f 24 (g 38 z.toNatClampNeg)) 37 z) gx := hS3
      refine am_e2 (v := 39) hi_224_93 rfl ?_
      refine am_e2 (v := 39) hi_224_94 rfl ?_
      refine mm_20 (v := .ref 63) hS3 hi_224_95 rfl ?_
      refine am_e2 (v := 39) hi_224_98 rfl ?_
      refine mm_20 (v := .int z) hS3 hi_224_99 rfl ?_
      refine mm_25 hS3 ma_39 hi_224_102 (by decide) (by omega) (by omega) ?_
      show am_E _ _ _ _ _ (.int (gx 39 z.toNatClampNeg) :: _) _ _
      rw [show gx 39 = g 39 from hx 39 (by decide)]
      show am_E _ _ _ _ [some (.ref 39), some (.int kk), x2] [.int (g 39 z.toNatClampNeg), .ref 39] _ _
      have r4 : 0 ≤ (g 39 z.toNatClampNeg).toInt ∧ (g 39 z.toNatClampNeg).toInt ≤ (f 4).toInt := RJ.bb (i := z) hR (by omega) (by show z.toInt < (f 37).toInt; omega)
      refine mm_21 (v := g 39 z.toNatClampNeg) hS3 hi_224_103 rfl (Nat.le_of_ble_eq_true rfl) ms_44 ?_
      intro S5 hS6
      refine am_e35 hi_224_106 ?_
      have hdr := rj_drop (g' := gx) (l := g 38 z.toNatClampNeg) (b := g 39 z.toNatClampNeg) (z := z) hR (by omega) (by omega) rfl (hx)
      exact ⟨(g 38 z.toNatClampNeg), z, (g 39 z.toNatClampNeg), _, rfl, hS6, hdr.1, (by show z.toInt = (f 37).toInt - 1; omega), (by show (0 : Int) ≤ ((g 38 z.toNatClampNeg)).toInt; omega), (by show ((g 38 z.toNatClampNeg)).toInt ≤ (f 24).toInt; omega), (by show (0 : Int) ≤ ((g 39 z.toNatClampNeg)).toInt; omega), (by show ((g 39 z.toNatClampNeg)).toInt ≤ (f 4).toInt; omega), hx, hdr.2⟩
    · refine am_e13f hi_224_25 (am_cF (m := kk.toInt) (n := (f 48).toInt) rfl rfl c0) ?_
      refine am_e2 (v := 39) hi_224_28 rfl ?_
      refine mm_20 (v := .ref 62) hS hi_224_29 rfl ?_
      refine am_e2 (v := 39) hi_224_32 rfl ?_
      refine mm_20 (v := .int z) hS hi_224_33 rfl ?_
      refine mm_25 hS ma_38 hi_224_36 (by decide) (by omega) (by omega) ?_
      show am_E _ _ _ _ _ (.int (gx 38 z.toNatClampNeg) :: _) _ _
      rw [show gx 38 = g 38 from hx 38 (by decide)]
      show am_E _ _ _ _ [some (.ref 39), some (.int kk), x2] [.int (g 38 z.toNatClampNeg)] _ _
      have r7 : 0 ≤ (g 38 z.toNatClampNeg).toInt ∧ (g 38 z.toNatClampNeg).toInt ≤ (f 24).toInt := RJ.bl (i := z) hR (by omega) (by show z.toInt < (f 37).toInt; omega)
      refine am_e2 (v := 39) hi_224_37 rfl ?_
      refine mm_20 (v := .ref 59) hS hi_224_38 rfl ?_
      refine am_e2 (v := 39) hi_224_41 rfl ?_
      refine mm_20 (v := .int (f 32)) hS hi_224_42 rfl ?_
      refine mm_25 hS ma_34 hi_224_45 (by decide) (by omega) (by omega) ?_
      show am_E _ _ _ _ _ (.int (gx 34 (f 32).toNatClampNeg) :: _) _ _
      rw [show gx 34 = g 34 from hx 34 (by decide)]
      show am_E _ _ _ _ [some (.ref 39), some (.int kk), x2] [.int (g 34 (f 32).toNatClampNeg), .int (g 38 z.toNatClampNeg)] _ _
      have r8 : 0 ≤ (g 34 (f 32).toNatClampNeg).toInt := RJ.ba hR (f 32).toNatClampNeg
      obtain ⟨z9, hz9⟩ : ∃ q__, am_bin 1 (g 38 z.toNatClampNeg) (g 34 (f 32).toNatClampNeg) = q__ := ⟨_, rfl⟩
      refine am_e10 (z := z9) hi_224_46 hz9 ?_
      refine am_e3 (ls' := [some (.ref 39), some (.int kk), some (.int z9)]) hi_224_47 (Nat.le_of_ble_eq_true rfl) rfl ?_
      refine am_e2 (v := 39) hi_224_48 rfl ?_
      refine mm_20 (v := .ref 74) hS hi_224_49 rfl ?_
      refine am_e1 (v := kk) hi_224_52 rfl ?_
      refine am_e2 (v := 39) hi_224_53 rfl ?_
      refine mm_20 (v := .ref 74) hS hi_224_54 rfl ?_
      refine am_e1 (v := kk) hi_224_57 rfl ?_
      refine mm_25 hS ma_52 hi_224_58 (by decide) (by omega) (by omega) ?_
      show am_E _ _ _ _ [some (.ref 39), some (.int kk), some (.int z9)] [.int (gx 52 kk.toNatClampNeg), .int kk, .ref 74] _ _
      refine am_e1 (v := z9) hi_224_59 rfl ?_
      by_cases c10 : (gx 52 kk.toNatClampNeg).toInt ≤ z9.toInt
      · refine am_e13t hi_224_60 (am_cT (m := (gx 52 kk.toNatClampNeg).toInt) (n := z9.toInt) rfl rfl c10) ?_
        refine am_e2 (v := 39) hi_224_67 rfl ?_
        refine mm_20 (v := .ref 74) hS hi_224_68 rfl ?_
        refine am_e1 (v := kk) hi_224_71 rfl ?_
        refine mm_25 hS ma_52 hi_224_72 (by decide) (by omega) (by omega) ?_
        show am_E _ _ _ _ [some (.ref 39), some (.int kk), some (.int z9)] [.int (gx 52 kk.toNatClampNeg), .int kk, .ref 74] _ _
        refine mm_26 hS ma_52 hi_224_73 (by decide) (by omega) (by omega) (fun h => nomatch h) ?_
        intro S11 hS12
        obtain ⟨z13, hz13, tz13⟩ := am_addI (x := kk) (y := 1) (m := kk.toInt) (n := (1 : Int)) rfl (by decide) (by omega) (by omega)
        refine am_e5 (v := kk) (z := z13) (ls' := [some (.ref 39), some (.int z13), some (.int z9)]) hi_224_74 rfl hz13 rfl ?_
        refine am_e18 hi_224_77 ?_
        exact ih _ (some (.int z9)) z13 z _ hS12 (fun j hj => ((show ∀ j, j ∉ [52] → (upg gx 52 kk.toNatClampNeg (gx 52 kk.toNatClampNeg)) j = gx j from by intro j hj; simp only [List.mem_cons, List.not_mem_nil, or_false, not_or] at hj; simp only [upg, hj, if_false]) j hj).trans (hx j hj)) (by show (0 : Int) ≤ z13.toInt; omega) (by show z13.toInt ≤ (8192 : Int); omega) (by show z.toInt = (f 37).toInt - 1; omega) (by show 8192 - z13.toInt < (N : Int); omega)
      · refine am_e13f hi_224_60 (am_cF (m := (gx 52 kk.toNatClampNeg).toInt) (n := z9.toInt) rfl rfl c10) ?_
        refine am_e1 (v := z9) hi_224_63 rfl ?_
        refine am_e18 hi_224_64 ?_
        refine mm_26 hS ma_52 hi_224_73 (by decide) (by omega) (by omega) (fun h => nomatch h) ?_
        intro S14 hS15
        obtain ⟨z16, hz16, tz16⟩ := am_addI (x := kk) (y := 1) (m := kk.toInt) (n := (1 : Int)) rfl (by decide) (by omega) (by omega)
        refine am_e5 (v := kk) (z := z16) (ls' := [some (.ref 39), some (.int z16), some (.int z9)]) hi_224_74 rfl hz16 rfl ?_
        refine am_e18 hi_224_77 ?_
        exact ih _ (some (.int z9)) z16 z _ hS15 (fun j hj => ((show ∀ j, j ∉ [52] → (upg gx 52 kk.toNatClampNeg z9) j = gx j from by intro j hj; simp only [List.mem_cons, List.not_mem_nil, or_false, not_or] at hj; simp only [upg, hj, if_false]) j hj).trans (hx j hj)) (by show (0 : Int) ≤ z16.toInt; omega) (by show z16.toInt ≤ (8192 : Int); omega) (by show z.toInt = (f 37).toInt - 1; omega) (by show 8192 - z16.toInt < (N : Int); omega)
theorem ct_dropBlock {sc : Nat × (Nat → Int32)} {d : Nat} {S0 S : am_S} {f : Nat → Int32} {g : Nat → Nat → Int32} {c : List Nat} {gs : List mg_E} {bc : List (List Nat)} {fl : List Nat} {fk : Int} {pj : List Nat} (hS : MS S0 S f g) (hR : RJ f g gs (c :: bc) fl fk pj) (p0 : (0 : Int) ≤ (f 32).toInt) (p1 : (f 32).toInt ≤ (63 : Int)) (p2 : (0 : Int) ≤ (f 48).toInt) (p3 : (f 48).toInt ≤ (8192 : Int)) (p4 : (f 4).toInt ≤ (8192 : Int)) (p5 : (1 : Int) ≤ (f 37).toInt) (p6 : (f 37).toInt ≤ (128 : Int)) : am_E (am_PP sc) (d + 0) 224 0 [some (.ref 39), none, none] [] S (am_N fun v S1 => (∃ l : Int32, ∃ z : Int32, ∃ b : Int32, ∃ g' : Nat → Nat → Int32, v = none ∧ MS S0 S1 (upd (upd (upd f 24 l) 37 z) 44 b) g' ∧ (RJ (upd (upd (upd f 24 l) 37 z) 44 b) g' gs bc fl fk pj) ∧ (z.toInt = (f 37).toInt - 1) ∧ ((0 : Int) ≤ l.toInt) ∧ (l.toInt ≤ (f 24).toInt) ∧ ((0 : Int) ≤ b.toInt) ∧ (b.toInt ≤ (f 4).toInt) ∧ (∀ j, j ∉ [52] → g' j = g j) ∧ (fl = [] → RJ (upd (upd (upd f 24 l) 37 z) 44 b) g' gs bc c (g' 43 z.toNatClampNeg).toInt pj))) := by
  refine am_e2 (v := 39) hi_224_0 rfl ?_
  refine am_e7 hi_224_1 ?_
  refine mm_20 (v := .int (f 37)) hS hi_224_2 rfl ?_
  refine am_e0 hi_224_5 ?_
  obtain ⟨z0, hz0, tz0⟩ := am_subI (x := f 37) (y := 1) (m := (f 37).toInt) (n := (1 : Int)) rfl (by decide) (by omega) (by omega)
  refine am_e10 (z := z0) hi_224_6 hz0 ?_
  refine mm_21 (v := z0) hS hi_224_7 rfl (Nat.le_of_ble_eq_true rfl) ms_37 ?_
  intro S1 hS2
  refine am_e2 (v := 39) hi_224_10 rfl ?_
  refine mm_20 (v := .ref 64) hS2 hi_224_11 rfl ?_
  refine am_e2 (v := 39) hi_224_14 rfl ?_
  refine mm_20 (v := .int z0) hS2 hi_224_15 rfl ?_
  refine mm_25 hS2 ma_40 hi_224_18 (by decide) (by omega) (by omega) ?_
  show am_E _ _ _ _ [some (.ref 39), none, none] [.int (g 40 z0.toNatClampNeg)] _ _
  have r3 : 0 ≤ (g 40 z0.toNatClampNeg).toInt ∧ (g 40 z0.toNatClampNeg).toInt ≤ (f 4).toInt := RJ.bg (i := z0) hR (by omega) (by show z0.toInt < (f 37).toInt; omega)
  refine am_e3 (ls' := [some (.ref 39), some (.int (g 40 z0.toNatClampNeg)), none]) hi_224_19 (Nat.le_of_ble_eq_true rfl) rfl ?_
  exact lp_dropBlock hR p0 p1 p2 p3 p4 p5 p6 ((8192 - (g 40 z0.toNatClampNeg).toInt).toNat + 1) _ none (g 40 z0.toNatClampNeg) z0 _ hS2 (fun _ _ => rfl) (by show (0 : Int) ≤ (g 40 z0.toNatClampNeg).toInt; omega) (by show (g 40 z0.toNatClampNeg).toInt ≤ (8192 : Int); omega) (by show z0.toInt = (f 37).toInt - 1; omega) (by show 8192 - (g 40 z0.toNatClampNeg).toInt < _; omega)
theorem lp_lostGotos {sc : Nat × (Nat → Int32)} {d : Nat} {S0 : am_S} {f : Nat → Int32} {g : Nat → Nat → Int32} {gs : List mg_E} {bc : List (List Nat)} {fl : List Nat} {fk : Int} {pj : List Nat}  (hR : RJ f g gs bc fl fk pj) (p0 : (0 : Int) ≤ (f 32).toInt) (p1 : (f 32).toInt ≤ (63 : Int)) (p2 : (0 : Int) ≤ (f 48).toInt) (p3 : (f 48).toInt ≤ (8192 : Int)) (p4 : (f 4).toInt ≤ (8192 : Int)) (p5 : (0 : Int) ≤ (f 8).toInt) : ∀ (N : Nat) (S : am_S) (kk a b : Int32), MS S0 S (upd (upd f 8 a) 9 b) g → (0 : Int) ≤ kk.toInt → kk.toInt ≤ (8192 : Int) → (0 : Int) ≤ a.toInt → 8192 - kk.toInt < (N : Int) → am_E (am_PP sc) (d + 1) 223 10 [some (.ref 39), some (.int kk)] [] S (am_N fun v S1 => (∃ a : Int32, ∃ b : Int32, ∃ z : Int32, v = none ∧ MS S0 S1 (upd (upd (upd f 8 a) 9 b) 48 z) g ∧ (RJ (upd (upd (upd f 8 a) 9 b) 48 z) g gs bc fl fk pj) ∧ ((0 : Int) ≤ z.toInt) ∧ (z.toInt ≤ (f 4).toInt) ∧ ((0 : Int) ≤ a.toInt))) := by
  intro N
  induction N with
  | zero =>
    intro S  kk a b   hS   i0 i1 i2 hN
    exfalso
    omega
  | succ N ih =>
    intro S  kk a b   hS   i0 i1 i2 hN
    refine am_e1 (v := kk) hi_223_10 rfl ?_
    refine am_e2 (v := 39) hi_223_11 rfl ?_
    refine mm_20 (v := .int (f 48)) hS hi_223_12 rfl ?_
    by_cases c0 : (f 48).toInt ≤ kk.toInt
    · refine am_e13t hi_223_15 (am_cT (m := kk.toInt) (n := (f 48).toInt) rfl rfl c0) ?_
      refine am_e2 (v := 39) hi_223_36 rfl ?_
      refine am_e2 (v := 39) hi_223_37 rfl ?_
      refine mm_20 (v := .ref 61) hS hi_223_38 rfl ?_
      refine am_e2 (v := 39) hi_223_41 rfl ?_
      refine mm_20 (v := .int (f 32)) hS hi_223_42 rfl ?_
      refine mm_25 hS ma_36 hi_223_45 (by decide) (by omega) (by omega) ?_
      show am_E _ _ _ _ [some (.ref 39), some (.int kk)] [.int (g 36 (f 32).toNatClampNeg), .ref 39] _ _
      have r1 : 0 ≤ (g 36 (f 32).toNatClampNeg).toInt ∧ (g 36 (f 32).toNatClampNeg).toInt ≤ (f 4).toInt := RJ.fg (i := f 32) hR (by omega) (by show (f 32).toInt ≤ (f 32).toInt; omega)
      refine mm_21 (v := g 36 (f 32).toNatClampNeg) hS hi_223_46 rfl (Nat.le_of_ble_eq_true rfl) ms_48 ?_
      intro S2 hS3
      refine am_e35 hi_223_49 ?_
      exact ⟨a, b, (g 36 (f 32).toNatClampNeg), rfl, hS3, (rj_lost (i := f 32) hR (by omega) (Int.le_refl _) rfl), (by show (0 : Int) ≤ ((g 36 (f 32).toNatClampNeg)).toInt; omega), (by show ((g 36 (f 32).toNatClampNeg)).toInt ≤ (f 4).toInt; omega), (by show (0 : Int) ≤ a.toInt; omega)⟩
    · refine am_e13f hi_223_15 (am_cF (m := kk.toInt) (n := (f 48).toInt) rfl rfl c0) ?_
      refine am_e2 (v := 39) hi_223_18 rfl ?_
      refine am_e0 hi_223_19 ?_
      refine am_e2 (v := 39) hi_223_21 rfl ?_
      refine mm_20 (v := .ref 72) hS hi_223_22 rfl ?_
      refine am_e1 (v := kk) hi_223_25 rfl ?_
      refine mm_25 hS ma_50 hi_223_26 (by decide) (by omega) (by omega) ?_
      show am_E _ _ _ _ [some (.ref 39), some (.int kk)] [.int (g 50 kk.toNatClampNeg), .int 12, .ref 39] _ _
      refine am_e32n (as := [.ref 39, .int 12, .int (g 50 kk.toNatClampNeg)]) (la := [some (.ref 39), some (.int 12), some (.int (g 50 kk.toNatClampNeg))]) (rest := []) hi_223_27 (am_hd0 (M := 223) (by decide) 27) (Nat.le_of_ble_eq_true rfl) (Nat.le_of_ble_eq_true rfl) (show 3 ≤ am_P0.2.2.1 191 from by decide +kernel) rfl (am_recv_ok hS.fs) rfl rfl (ct_failName (d := d) hS   (by show (0 : Int) ≤ (12 : Int); omega) (by show (0 : Int) ≤ a.toInt; omega)) ?_
      rintro v4 S5 (⟨a6, b7, hv8, hS9, h10⟩)
      subst hv8
      have h10_ : (0 : Int) ≤ a6.toInt := h10
      replace hS9 : MS S0 S5 (upd (upd f 8 a6) 9 b7) g := hS9
      show am_E _ _ _ _ [some (.ref 39), some (.int kk)] [] _ _
      obtain ⟨z12, hz12, tz12⟩ := am_addI (x := kk) (y := 1) (m := kk.toInt) (n := (1 : Int)) rfl (by decide) (by omega) (by omega)
      refine am_e5 (v := kk) (z := z12) (ls' := [some (.ref 39), some (.int z12)]) hi_223_30 rfl hz12 rfl ?_
      refine am_e18 hi_223_33 ?_
      exact ih _ z12 a6 b7 hS9 (by show (0 : Int) ≤ z12.toInt; omega) (by show z12.toInt ≤ (8192 : Int); omega) (by show (0 : Int) ≤ a6.toInt; omega) (by show 8192 - z12.toInt < (N : Int); omega)
theorem ct_lostGotos {sc : Nat × (Nat → Int32)} {d : Nat} {S0 S : am_S} {f : Nat → Int32} {g : Nat → Nat → Int32} {gs : List mg_E} {bc : List (List Nat)} {fl : List Nat} {fk : Int} {pj : List Nat} (hS : MS S0 S f g) (hR : RJ f g gs bc fl fk pj) (p0 : (0 : Int) ≤ (f 32).toInt) (p1 : (f 32).toInt ≤ (63 : Int)) (p2 : (0 : Int) ≤ (f 48).toInt) (p3 : (f 48).toInt ≤ (8192 : Int)) (p4 : (f 4).toInt ≤ (8192 : Int)) (p5 : (0 : Int) ≤ (f 8).toInt) : am_E (am_PP sc) (d + 1) 223 0 [some (.ref 39), none] [] S (am_N fun v S1 => (∃ a : Int32, ∃ b : Int32, ∃ z : Int32, v = none ∧ MS S0 S1 (upd (upd (upd f 8 a) 9 b) 48 z) g ∧ (RJ (upd (upd (upd f 8 a) 9 b) 48 z) g gs bc fl fk pj) ∧ ((0 : Int) ≤ z.toInt) ∧ (z.toInt ≤ (f 4).toInt) ∧ ((0 : Int) ≤ a.toInt))) := by
  refine am_e2 (v := 39) hi_223_0 rfl ?_
  refine mm_20 (v := .ref 61) hS hi_223_1 rfl ?_
  refine am_e2 (v := 39) hi_223_4 rfl ?_
  refine mm_20 (v := .int (f 32)) hS hi_223_5 rfl ?_
  refine mm_25 hS ma_36 hi_223_8 (by decide) (by omega) (by omega) ?_
  show am_E _ _ _ _ [some (.ref 39), none] [.int (g 36 (f 32).toNatClampNeg)] _ _
  have r0 : 0 ≤ (g 36 (f 32).toNatClampNeg).toInt ∧ (g 36 (f 32).toNatClampNeg).toInt ≤ (f 4).toInt := RJ.fg (i := f 32) hR (by omega) (by show (f 32).toInt ≤ (f 32).toInt; omega)
  refine am_e3 (ls' := [some (.ref 39), some (.int (g 36 (f 32).toNatClampNeg))]) hi_223_9 (Nat.le_of_ble_eq_true rfl) rfl ?_
  exact lp_lostGotos hR p0 p1 p2 p3 p4 p5 ((8192 - (g 36 (f 32).toNatClampNeg).toInt).toNat + 1) _ (g 36 (f 32).toNatClampNeg) (f 8) (f 9) hS (by show (0 : Int) ≤ (g 36 (f 32).toNatClampNeg).toInt; omega) (by show (g 36 (f 32).toNatClampNeg).toInt ≤ (8192 : Int); omega) (by show (0 : Int) ≤ (f 8).toInt; omega) (by show 8192 - (g 36 (f 32).toNatClampNeg).toInt < _; omega)
theorem lp_labelOf {sc : Nat × (Nat → Int32)} {d : Nat} {S0 : am_S} {f : Nat → Int32} {g : Nat → Nat → Int32} {tx : Int32} {gs : List mg_E} {bc : List (List Nat)} {fl : List Nat} {fk : Int} {pj : List Nat}  (hR : RJ f g gs bc fl fk pj) (p0 : (0 : Int) ≤ (f 32).toInt) (p1 : (f 32).toInt ≤ (63 : Int)) (p2 : (0 : Int) ≤ (f 44).toInt) (p3 : (f 44).toInt ≤ (8192 : Int)) : ∀ (N : Nat) (S : am_S) (l : Int32), MS S0 S f g → (-1 : Int) ≤ l.toInt → l.toInt < (f 44).toInt → l.toInt + 1 < (N : Int) → am_E (am_PP sc) (d + 0) 230 7 [some (.ref 39), some (.int tx), some (.int l)] [] S (am_N fun v S1 => (∃ r : Int32, v = some (.int r) ∧ MS S0 S1 f g ∧ ((-1 : Int) ≤ r.toInt) ∧ (r.toInt < (f 44).toInt))) := by
  intro N
  induction N with
  | zero =>
    intro S  l   hS   i0 i1 hN
    exfalso
    omega
  | succ N ih =>
    intro S  l   hS   i0 i1 hN
    refine am_e1 (v := l) hi_230_7 rfl ?_
    refine am_e2 (v := 39) hi_230_8 rfl ?_
    refine mm_20 (v := .ref 60) hS hi_230_9 rfl ?_
    refine am_e2 (v := 39) hi_230_12 rfl ?_
    refine mm_20 (v := .int (f 32)) hS hi_230_13 rfl ?_
    refine mm_25 hS ma_35 hi_230_16 (by decide) (by omega) (by omega) ?_
    show am_E _ _ _ _ [some (.ref 39), some (.int tx), some (.int l)] [.int (g 35 (f 32).toNatClampNeg), .int l] _ _
    have r0 : 0 ≤ (g 35 (f 32).toNatClampNeg).toInt := RJ.fl_ hR (f 32).toNatClampNeg
    by_cases c1 : l.toInt < (g 35 (f 32).toNatClampNeg).toInt
    · refine am_e13t hi_230_17 (am_cT (m := l.toInt) (n := (g 35 (f 32).toNatClampNeg).toInt) rfl rfl c1) ?_
      refine am_e1 (v := l) hi_230_36 rfl ?_
      refine am_e2 (v := 39) hi_230_37 rfl ?_
      refine mm_20 (v := .ref 60) hS hi_230_38 rfl ?_
      refine am_e2 (v := 39) hi_230_41 rfl ?_
      refine mm_20 (v := .int (f 32)) hS hi_230_42 rfl ?_
      refine mm_25 hS ma_35 hi_230_45 (by decide) (by omega) (by omega) ?_
      show am_E _ _ _ _ [some (.ref 39), some (.int tx), some (.int l)] [.int (g 35 (f 32).toNatClampNeg), .int l] _ _
      have r2 : 0 ≤ (g 35 (f 32).toNatClampNeg).toInt := RJ.fl_ hR (f 32).toNatClampNeg
      refine am_e13t hi_230_46 (am_cT (m := l.toInt) (n := (g 35 (f 32).toNatClampNeg).toInt) rfl rfl (by simp only [am_cI]; omega)) ?_
      refine am_e0 hi_230_53 ?_
      refine am_e33 hi_230_54 ?_
      exact ⟨(-1), rfl, hS, (by show (-1 : Int) ≤ (-1 : Int); omega), (by show (-1 : Int) < (f 44).toInt; omega)⟩
    · refine am_e13f hi_230_17 (am_cF (m := l.toInt) (n := (g 35 (f 32).toNatClampNeg).toInt) rfl rfl c1) ?_
      refine am_e2 (v := 39) hi_230_20 rfl ?_
      refine mm_20 (v := .ref 68) hS hi_230_21 rfl ?_
      refine am_e1 (v := l) hi_230_24 rfl ?_
      refine mm_25 hS ma_45 hi_230_25 (by decide) (by omega) (by omega) ?_
      show am_E _ _ _ _ [some (.ref 39), some (.int tx), some (.int l)] [.int (g 45 l.toNatClampNeg)] _ _
      refine am_e1 (v := tx) hi_230_26 rfl ?_
      by_cases c3 : (g 45 l.toNatClampNeg).toInt = tx.toInt
      · refine am_e13t hi_230_27 (am_cT (m := (g 45 l.toNatClampNeg).toInt) (n := tx.toInt) rfl rfl c3) ?_
        refine am_e1 (v := l) hi_230_36 rfl ?_
        refine am_e2 (v := 39) hi_230_37 rfl ?_
        refine mm_20 (v := .ref 60) hS hi_230_38 rfl ?_
        refine am_e2 (v := 39) hi_230_41 rfl ?_
        refine mm_20 (v := .int (f 32)) hS hi_230_42 rfl ?_
        refine mm_25 hS ma_35 hi_230_45 (by decide) (by omega) (by omega) ?_
        show am_E _ _ _ _ [some (.ref 39), some (.int tx), some (.int l)] [.int (g 35 (f 32).toNatClampNeg), .int l] _ _
        have r4 : 0 ≤ (g 35 (f 32).toNatClampNeg).toInt := RJ.fl_ hR (f 32).toNatClampNeg
        refine am_e13f hi_230_46 (am_cF (m := l.toInt) (n := (g 35 (f 32).toNatClampNeg).toInt) rfl rfl (by simp only [am_cI]; omega)) ?_
        refine am_e1 (v := l) hi_230_49 rfl ?_
        refine am_e18 hi_230_50 ?_
        refine am_e33 hi_230_54 ?_
        exact ⟨l, rfl, hS, (by show (-1 : Int) ≤ l.toInt; omega), (by show l.toInt < (f 44).toInt; omega)⟩
      · refine am_e13f hi_230_27 (am_cF (m := (g 45 l.toNatClampNeg).toInt) (n := tx.toInt) rfl rfl c3) ?_
        obtain ⟨z5, hz5, tz5⟩ := am_addI (x := l) (y := (-1)) (m := l.toInt) (n := (-1 : Int)) rfl (by decide) (by omega) (by omega)
        refine am_e5 (v := l) (z := z5) (ls' := [some (.ref 39), some (.int tx), some (.int z5)]) hi_230_30 rfl hz5 rfl ?_
        refine am_e18 hi_230_33 ?_
        exact ih _ z5 hS (by show (-1 : Int) ≤ z5.toInt; omega) (by show z5.toInt < (f 44).toInt; omega) (by show z5.toInt + 1 < (N : Int); omega)
theorem ct_labelOf {sc : Nat × (Nat → Int32)} {d : Nat} {S0 S : am_S} {f : Nat → Int32} {g : Nat → Nat → Int32} {tx : Int32} {gs : List mg_E} {bc : List (List Nat)} {fl : List Nat} {fk : Int} {pj : List Nat} (hS : MS S0 S f g) (hR : RJ f g gs bc fl fk pj) (p0 : (0 : Int) ≤ (f 32).toInt) (p1 : (f 32).toInt ≤ (63 : Int)) (p2 : (0 : Int) ≤ (f 44).toInt) (p3 : (f 44).toInt ≤ (8192 : Int)) : am_E (am_PP sc) (d + 0) 230 0 [some (.ref 39), some (.int tx), none] [] S (am_N fun v S1 => (∃ r : Int32, v = some (.int r) ∧ MS S0 S1 f g ∧ ((-1 : Int) ≤ r.toInt) ∧ (r.toInt < (f 44).toInt))) := by
  refine am_e2 (v := 39) hi_230_0 rfl ?_
  refine mm_20 (v := .int (f 44)) hS hi_230_1 rfl ?_
  refine am_e0 hi_230_4 ?_
  obtain ⟨z0, hz0, tz0⟩ := am_subI (x := f 44) (y := 1) (m := (f 44).toInt) (n := (1 : Int)) rfl (by decide) (by omega) (by omega)
  refine am_e10 (z := z0) hi_230_5 hz0 ?_
  refine am_e3 (ls' := [some (.ref 39), some (.int tx), some (.int z0)]) hi_230_6 (Nat.le_of_ble_eq_true rfl) rfl ?_
  exact lp_labelOf hR p0 p1 p2 p3 ((z0.toInt + 1).toNat + 1) _ z0 hS (by show (-1 : Int) ≤ z0.toInt; omega) (by show z0.toInt < (f 44).toInt; omega) (by show z0.toInt + 1 < _; omega)
