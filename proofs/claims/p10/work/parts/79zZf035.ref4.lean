/-! THE REFERENCE: outer locals, what a name means (printed by wip/p2/ref4.py) -/
theorem lp_outerOf {sc : Nat × (Nat → Int32)} {d : Nat} {S0 : am_S} {f : Nat → Int32} {g : Nat → Nat → Int32} {ff : Int32} {id : Int32} {kd : Int32} {nb : Int32} {gs : List mg_E} {bc : List (List Nat)} {fl : List Nat} {fk : Int} {pj : List Nat}  (hR : RJ f g gs bc fl fk pj) (p0 : (0 : Int) ≤ ff.toInt) (p1 : ff.toInt < (f 53).toInt) (p2 : (f 53).toInt ≤ (4096 : Int)) (p3 : (0 : Int) ≤ (f 62).toInt) (p4 : (f 62).toInt ≤ (65534 : Int)) : ∀ (N : Nat) (S : am_S) (i k : Int32), MS S0 S f g → (0 : Int) ≤ k.toInt → k.toInt ≤ (f 62).toInt → (0 : Int) ≤ i.toInt → i.toInt ≤ k.toInt → (f 62).toInt - k.toInt < (N : Int) → am_E (am_PP sc) (d + 0) 207 6 [some (.ref 39), some (.int ff), some (.int id), some (.int kd), some (.int nb), some (.int i), some (.int k)] [] S (am_N fun v S1 => (∃ o : Int32, ∃ g' : Nat → Nat → Int32, ∃ r : Int32, v = some (.int r) ∧ MS S0 S1 (upd f 62 o) g' ∧ (RJ (upd f 62 o) g' gs bc fl fk pj) ∧ ((f 62).toInt ≤ o.toInt) ∧ (o.toInt ≤ (f 62).toInt + 1) ∧ (∀ j, j ∉ [63, 64, 65, 66, 67] → g' j = g j))) := by
  intro N
  induction N with
  | zero =>
    intro S  i k   hS   i0 i1 i2 i3 hN
    exfalso
    omega
  | succ N ih =>
    intro S  i k   hS   i0 i1 i2 i3 hN
    refine am_e1 (v := k) hi_207_6 rfl ?_
    refine am_e2 (v := 39) hi_207_8 rfl ?_
    refine mm_20 (v := .int (f 62)) hS hi_207_9 rfl ?_
    by_cases c0 : (f 62).toInt ≤ k.toInt
    · refine am_e13t hi_207_12 (am_cT (m := k.toInt) (n := (f 62).toInt) rfl rfl c0) ?_
      refine am_e2 (v := 39) hi_207_49 rfl ?_
      refine mm_20 (v := .ref 83) hS hi_207_50 rfl ?_
      refine am_e2 (v := 39) hi_207_53 rfl ?_
      refine mm_20 (v := .int (f 62)) hS hi_207_54 rfl ?_
      refine am_e1 (v := ff) hi_207_57 rfl ?_
      refine mm_26 hS ma_63 hi_207_58 (by decide) (by omega) (by omega) (fun h => nomatch h) ?_
      intro S1 hS2
      refine am_e2 (v := 39) hi_207_59 rfl ?_
      refine mm_20 (v := .ref 84) hS2 hi_207_60 rfl ?_
      refine am_e2 (v := 39) hi_207_63 rfl ?_
      refine mm_20 (v := .int (f 62)) hS2 hi_207_64 rfl ?_
      refine am_e1 (v := id) hi_207_67 rfl ?_
      refine mm_26 hS2 ma_64 hi_207_68 (by decide) (by omega) (by omega) (fun h => nomatch h) ?_
      intro S3 hS4
      refine am_e2 (v := 39) hi_207_69 rfl ?_
      refine mm_20 (v := .ref 85) hS4 hi_207_70 rfl ?_
      refine am_e2 (v := 39) hi_207_73 rfl ?_
      refine mm_20 (v := .int (f 62)) hS4 hi_207_74 rfl ?_
      refine am_e1 (v := kd) hi_207_77 rfl ?_
      refine mm_26 hS4 ma_65 hi_207_78 (by decide) (by omega) (by omega) (fun h => nomatch h) ?_
      intro S5 hS6
      refine am_e2 (v := 39) hi_207_79 rfl ?_
      refine mm_20 (v := .ref 86) hS6 hi_207_80 rfl ?_
      refine am_e2 (v := 39) hi_207_83 rfl ?_
      refine mm_20 (v := .int (f 62)) hS6 hi_207_84 rfl ?_
      refine am_e1 (v := nb) hi_207_87 rfl ?_
      refine mm_26 hS6 ma_66 hi_207_89 (by decide) (by omega) (by omega) (fun h => nomatch h) ?_
      intro S7 hS8
      refine am_e2 (v := 39) hi_207_90 rfl ?_
      refine am_e7 hi_207_91 ?_
      refine mm_20 (v := .int (f 62)) hS8 hi_207_92 rfl ?_
      refine am_e0 hi_207_95 ?_
      obtain ⟨z9, hz9, tz9⟩ := am_addI (x := f 62) (y := 1) (m := (f 62).toInt) (n := (1 : Int)) rfl (by decide) (by omega) (by omega)
      refine am_e10 (z := z9) hi_207_96 hz9 ?_
      refine mm_21 (v := z9) hS8 hi_207_97 rfl (Nat.le_of_ble_eq_true rfl) ms_62 ?_
      intro S10 hS11
      refine am_e2 (v := 39) hi_207_100 rfl ?_
      refine mm_20 (v := .ref 87) hS11 hi_207_101 rfl ?_
      refine am_e1 (v := ff) hi_207_104 rfl ?_
      refine am_e8 hi_207_105 ?_
      refine mm_25 hS11 ma_67 hi_207_106 (by decide) (by omega) (by omega) ?_
      show am_E _ _ _ _ [some (.ref 39), some (.int ff), some (.int id), some (.int kd), some (.int nb), some (.int i), some (.int k)] [.int (g 67 ff.toNatClampNeg), .int ff, .ref 87] _ _
      have r12 : 0 ≤ (g 67 ff.toNatClampNeg).toInt ∧ (g 67 ff.toNatClampNeg).toInt ≤ (f 62).toInt := RJ.oc (i := ff) hR (by show 0 ≤ (f 62).toInt; omega) (by omega) (by show ff.toInt < (f 53).toInt; omega)
      refine am_e0 hi_207_107 ?_
      obtain ⟨z13, hz13, tz13⟩ := am_addI (x := g 67 ff.toNatClampNeg) (y := 1) (m := (g 67 ff.toNatClampNeg).toInt) (n := (1 : Int)) rfl (by decide) (by omega) (by omega)
      refine am_e10 (z := z13) hi_207_108 hz13 ?_
      refine mm_26 hS11 ma_67 hi_207_109 (by decide) (by omega) (by omega) (fun h => nomatch h) ?_
      intro S14 hS15
      refine am_e1 (v := i) hi_207_110 rfl ?_
      refine am_e33 hi_207_112 ?_
      exact ⟨z9, _, i, rfl, hS15, (rj_outer hR (by omega) (by omega) ⟨by omega, by omega⟩ (by omega)), (by show (f 62).toInt ≤ z9.toInt; omega), (by show z9.toInt ≤ (f 62).toInt + 1; omega), (by intro j hj; simp only [List.mem_cons, List.not_mem_nil, or_false, not_or] at hj; simp only [upg, hj, if_false])⟩
    · refine am_e13f hi_207_12 (am_cF (m := k.toInt) (n := (f 62).toInt) rfl rfl c0) ?_
      refine am_e2 (v := 39) hi_207_15 rfl ?_
      refine mm_20 (v := .ref 83) hS hi_207_16 rfl ?_
      refine am_e1 (v := k) hi_207_19 rfl ?_
      refine mm_25 hS ma_63 hi_207_21 (by decide) (by omega) (by omega) ?_
      show am_E _ _ _ _ [some (.ref 39), some (.int ff), some (.int id), some (.int kd), some (.int nb), some (.int i), some (.int k)] [.int (g 63 k.toNatClampNeg)] _ _
      refine am_e1 (v := ff) hi_207_22 rfl ?_
      by_cases c16 : ¬ (g 63 k.toNatClampNeg).toInt = ff.toInt
      · refine am_e13t hi_207_23 (am_cT (m := (g 63 k.toNatClampNeg).toInt) (n := ff.toInt) rfl rfl c16) ?_
        obtain ⟨z17, hz17, tz17⟩ := am_addI (x := k) (y := 1) (m := k.toInt) (n := (1 : Int)) rfl (by decide) (by omega) (by omega)
        refine am_e5 (v := k) (z := z17) (ls' := [some (.ref 39), some (.int ff), some (.int id), some (.int kd), some (.int nb), some (.int i), some (.int z17)]) hi_207_43 rfl hz17 rfl ?_
        refine am_e18 hi_207_46 ?_
        exact ih _ i z17 hS (by show (0 : Int) ≤ z17.toInt; omega) (by show z17.toInt ≤ (f 62).toInt; omega) (by show (0 : Int) ≤ i.toInt; omega) (by show i.toInt ≤ z17.toInt; omega) (by show (f 62).toInt - z17.toInt < (N : Int); omega)
      · refine am_e13f hi_207_23 (am_cF (m := (g 63 k.toNatClampNeg).toInt) (n := ff.toInt) rfl rfl c16) ?_
        refine am_e2 (v := 39) hi_207_26 rfl ?_
        refine mm_20 (v := .ref 84) hS hi_207_27 rfl ?_
        refine am_e1 (v := k) hi_207_30 rfl ?_
        refine mm_25 hS ma_64 hi_207_32 (by decide) (by omega) (by omega) ?_
        show am_E _ _ _ _ [some (.ref 39), some (.int ff), some (.int id), some (.int kd), some (.int nb), some (.int i), some (.int k)] [.int (g 64 k.toNatClampNeg)] _ _
        refine am_e1 (v := id) hi_207_33 rfl ?_
        by_cases c18 : ¬ (g 64 k.toNatClampNeg).toInt = id.toInt
        · refine am_e13t hi_207_34 (am_cT (m := (g 64 k.toNatClampNeg).toInt) (n := id.toInt) rfl rfl c18) ?_
          obtain ⟨z19, hz19, tz19⟩ := am_addI (x := i) (y := 1) (m := i.toInt) (n := (1 : Int)) rfl (by decide) (by omega) (by omega)
          refine am_e5 (v := i) (z := z19) (ls' := [some (.ref 39), some (.int ff), some (.int id), some (.int kd), some (.int nb), some (.int z19), some (.int k)]) hi_207_40 rfl hz19 rfl ?_
          obtain ⟨z20, hz20, tz20⟩ := am_addI (x := k) (y := 1) (m := k.toInt) (n := (1 : Int)) rfl (by decide) (by omega) (by omega)
          refine am_e5 (v := k) (z := z20) (ls' := [some (.ref 39), some (.int ff), some (.int id), some (.int kd), some (.int nb), some (.int z19), some (.int z20)]) hi_207_43 rfl hz20 rfl ?_
          refine am_e18 hi_207_46 ?_
          exact ih _ z19 z20 hS (by show (0 : Int) ≤ z20.toInt; omega) (by show z20.toInt ≤ (f 62).toInt; omega) (by show (0 : Int) ≤ z19.toInt; omega) (by show z19.toInt ≤ z20.toInt; omega) (by show (f 62).toInt - z20.toInt < (N : Int); omega)
        · refine am_e13f hi_207_34 (am_cF (m := (g 64 k.toNatClampNeg).toInt) (n := id.toInt) rfl rfl c18) ?_
          refine am_e1 (v := i) hi_207_37 rfl ?_
          refine am_e33 hi_207_39 ?_
          exact ⟨(f 62), _, i, rfl, hS, hR, (Int.le_refl _), (by show (f 62).toInt ≤ (f 62).toInt + 1; omega), (fun _ _ => rfl)⟩
theorem ct_outerOf {sc : Nat × (Nat → Int32)} {d : Nat} {S0 S : am_S} {f : Nat → Int32} {g : Nat → Nat → Int32} {ff : Int32} {id : Int32} {kd : Int32} {nb : Int32} {gs : List mg_E} {bc : List (List Nat)} {fl : List Nat} {fk : Int} {pj : List Nat} (hS : MS S0 S f g) (hR : RJ f g gs bc fl fk pj) (p0 : (0 : Int) ≤ ff.toInt) (p1 : ff.toInt < (f 53).toInt) (p2 : (f 53).toInt ≤ (4096 : Int)) (p3 : (0 : Int) ≤ (f 62).toInt) (p4 : (f 62).toInt ≤ (65534 : Int)) : am_E (am_PP sc) (d + 0) 207 0 [some (.ref 39), some (.int ff), some (.int id), some (.int kd), some (.int nb), none, none] [] S (am_N fun v S1 => (∃ o : Int32, ∃ g' : Nat → Nat → Int32, ∃ r : Int32, v = some (.int r) ∧ MS S0 S1 (upd f 62 o) g' ∧ (RJ (upd f 62 o) g' gs bc fl fk pj) ∧ ((f 62).toInt ≤ o.toInt) ∧ (o.toInt ≤ (f 62).toInt + 1) ∧ (∀ j, j ∉ [63, 64, 65, 66, 67] → g' j = g j))) := by
  refine am_e0 hi_207_0 ?_
  refine am_e3 (ls' := [some (.ref 39), some (.int ff), some (.int id), some (.int kd), some (.int nb), some (.int 0), none]) hi_207_1 (Nat.le_of_ble_eq_true rfl) rfl ?_
  refine am_e0 hi_207_3 ?_
  refine am_e3 (ls' := [some (.ref 39), some (.int ff), some (.int id), some (.int kd), some (.int nb), some (.int 0), some (.int 0)]) hi_207_4 (Nat.le_of_ble_eq_true rfl) rfl ?_
  exact lp_outerOf hR p0 p1 p2 p3 p4 (((f 62).toInt - (0 : Int)).toNat + 1) _ 0 0 hS (by show (0 : Int) ≤ (0 : Int); omega) (by show (0 : Int) ≤ (f 62).toInt; omega) (by show (0 : Int) ≤ (0 : Int); omega) (by show (0 : Int) ≤ (0 : Int); omega) (by show (f 62).toInt - (0 : Int) < _; omega)
theorem lp_resolve {sc : Nat × (Nat → Int32)} {d : Nat} {S0 : am_S} {f : Nat → Int32} {g : Nat → Nat → Int32} {w : Int32} {gs : List mg_E} {bc : List (List Nat)} {fl : List Nat} {fk : Int} {pj : List Nat}  (hR : RJ f g gs bc fl fk pj) (p0 : (0 : Int) ≤ (f 32).toInt) (p1 : (f 32).toInt ≤ (63 : Int)) (p2 : (f 53).toInt ≤ (4096 : Int)) (p3 : (0 : Int) ≤ (f 24).toInt) (p4 : (f 24).toInt ≤ (16384 : Int)) (p5 : (0 : Int) ≤ (f 62).toInt) (p6 : (f 62).toInt ≤ (65000 : Int)) (p7 : (0 : Int) ≤ w.toInt) (p8 : w.toInt ≤ (16383 : Int)) : ∀ (N : Nat) (S : am_S) (l dd k o m : Int32) (gx : Nat → Nat → Int32), MS S0 S (upd (upd f 62 o) 75 m) gx → RJ (upd (upd f 62 o) 75 m) gx gs bc fl fk pj → (∀ j, j ∉ [63, 64, 65, 66, 67] → gx j = g j) → (0 : Int) ≤ l.toInt → l.toInt < (f 24).toInt → (0 : Int) ≤ dd.toInt → dd.toInt ≤ (63 : Int) → dd.toInt < k.toInt → k.toInt ≤ (64 : Int) → (f 62).toInt ≤ o.toInt → o.toInt ≤ (f 62).toInt + k.toInt → 64 - k.toInt < (N : Int) → am_E (am_PP sc) (d + 1) 205 61 [some (.ref 39), some (.int w), some (.int l), some (.int dd), some (.int k)] [] S (am_N fun v S1 => (∃ o : Int32, ∃ m : Int32, ∃ g' : Nat → Nat → Int32, ∃ r : Int32, v = some (.int r) ∧ MS S0 S1 (upd (upd f 62 o) 75 m) g' ∧ (RJ (upd (upd f 62 o) 75 m) g' gs bc fl fk pj) ∧ ((f 62).toInt ≤ o.toInt) ∧ (o.toInt ≤ (f 62).toInt + 64) ∧ ((0 : Int) ≤ r.toInt) ∧ (r.toInt ≤ (2 : Int)) ∧ (∀ j, j ∉ [63, 64, 65, 66, 67] → g' j = g j))) := by
  intro N
  induction N with
  | zero =>
    intro S  l dd k o m gx  hS hRl hx i0 i1 i2 i3 i4 i5 i6 i7 hN
    exfalso
    omega
  | succ N ih =>
    intro S  l dd k o m gx  hS hRl hx i0 i1 i2 i3 i4 i5 i6 i7 hN
    refine am_e1 (v := k) hi_205_61 rfl ?_
    refine am_e2 (v := 39) hi_205_63 rfl ?_
    refine mm_20 (v := .int (f 32)) hS hi_205_64 rfl ?_
    by_cases c0 : (f 32).toInt < k.toInt
    · refine am_e13t hi_205_67 (am_cT (m := k.toInt) (n := (f 32).toInt) rfl rfl c0) ?_
      refine am_e0 hi_205_114 ?_
      refine am_e33 hi_205_115 ?_
      exact ⟨o, m, _, 1, rfl, hS, hRl, (by show (f 62).toInt ≤ o.toInt; omega), (by show o.toInt ≤ (f 62).toInt + 64; omega), (by show (0 : Int) ≤ (1 : Int); omega), (by show (1 : Int) ≤ (2 : Int); omega), hx⟩
    · refine am_e13f hi_205_67 (am_cF (m := k.toInt) (n := (f 32).toInt) rfl rfl c0) ?_
      refine am_e2 (v := 39) hi_205_70 rfl ?_
      refine am_e2 (v := 39) hi_205_71 rfl ?_
      refine am_e2 (v := 39) hi_205_72 rfl ?_
      refine mm_20 (v := .ref 58) hS hi_205_73 rfl ?_
      refine am_e1 (v := k) hi_205_76 rfl ?_
      refine mm_25 hS ma_33 hi_205_78 (by decide) (by omega) (by omega) ?_
      show am_E _ _ _ _ _ (.int (gx 33 k.toNatClampNeg) :: _) _ _
      rw [show gx 33 = g 33 from hx 33 (by decide)]
      show am_E _ _ _ _ [some (.ref 39), some (.int w), some (.int l), some (.int dd), some (.int k)] [.int (g 33 k.toNatClampNeg), .ref 39, .ref 39] _ _
      have r1 : 0 ≤ (g 33 k.toNatClampNeg).toInt ∧ (g 33 k.toNatClampNeg).toInt < (f 53).toInt := by
        have h := RJ.fn (i := k) hRl (by omega) (by show k.toInt ≤ (f 32).toInt; omega)
        rw [show gx 33 = g 33 from hx 33 (by decide)] at h
        exact h
      refine am_e2 (v := 39) hi_205_79 rfl ?_
      refine mm_20 (v := .ref 54) hS hi_205_80 rfl ?_
      refine am_e1 (v := l) hi_205_83 rfl ?_
      refine mm_25 hS ma_27 hi_205_84 (by decide) (by omega) (by omega) ?_
      show am_E _ _ _ _ _ (.int (gx 27 l.toNatClampNeg) :: _) _ _
      rw [show gx 27 = g 27 from hx 27 (by decide)]
      show am_E _ _ _ _ [some (.ref 39), some (.int w), some (.int l), some (.int dd), some (.int k)] [.int (g 27 l.toNatClampNeg), .int (g 33 k.toNatClampNeg), .ref 39, .ref 39] _ _
      refine am_e1 (v := k) hi_205_85 rfl ?_
      refine am_e1 (v := dd) hi_205_87 rfl ?_
      refine am_e0 hi_205_88 ?_
      obtain ⟨z2, hz2, tz2⟩ := am_addI (x := dd) (y := 1) (m := dd.toInt) (n := (1 : Int)) rfl (by decide) (by omega) (by omega)
      refine am_e10 (z := z2) hi_205_89 hz2 ?_
      by_cases c3 : ¬ k.toInt = z2.toInt
      · refine am_e13t hi_205_90 (am_cT (m := k.toInt) (n := z2.toInt) rfl rfl c3) ?_
        refine am_e0 hi_205_97 ?_
        refine am_e2 (v := 39) hi_205_98 rfl ?_
        refine mm_20 (v := .int m) hS hi_205_99 rfl ?_
        refine am_e32n (as := [.ref 39, .int (g 33 k.toNatClampNeg), .int (g 27 l.toNatClampNeg), .int 0, .int m]) (la := [some (.ref 39), some (.int (g 33 k.toNatClampNeg)), some (.int (g 27 l.toNatClampNeg)), some (.int 0), some (.int m), none, none]) (rest := [.ref 39]) hi_205_102 (am_hd0 (M := 205) (by decide) 102) (Nat.le_of_ble_eq_true rfl) (Nat.le_of_ble_eq_true rfl) (show 5 ≤ am_P0.2.2.1 207 from by decide +kernel) rfl (am_recv_ok hS.fs) rfl rfl (ct_outerOf (d := d) hS hRl  (by show (0 : Int) ≤ (g 33 k.toNatClampNeg).toInt; omega) (by show (g 33 k.toNatClampNeg).toInt < (f 53).toInt; omega) (by show (f 53).toInt ≤ (4096 : Int); omega) (by show (0 : Int) ≤ o.toInt; omega) (by show o.toInt ≤ (65534 : Int); omega)) ?_
        rintro v4 S5 (⟨o6, g'7, r8, hv9, hS10, hR14, h11, h12, h13⟩)
        subst hv9
        have h11_ : o.toInt ≤ o6.toInt := h11
        have h12_ : o6.toInt ≤ o.toInt + 1 := h12
        have h13_ : ∀ j, j ∉ [63, 64, 65, 66, 67] → g'7 j = gx j := h13
        replace hS10 : MS S0 S5 (upd (upd f 62 o6) 75 m) g'7 := hS10
        have hR14_ : RJ (upd (upd f 62 o6) 75 m) g'7 gs bc fl fk pj := hR14
        show am_E _ _ _ _ [some (.ref 39), some (.int w), some (.int l), some (.int dd), some (.int k)] [.int r8, .ref 39] _ _
        refine mm_21 (v := r8) hS10 hi_205_105 rfl (Nat.le_of_ble_eq_true rfl) ms_75 ?_
        intro S15 hS16
        replace hS16 : MS S0 S15 (upd (upd f 62 o6) 75 r8) g'7 := hS16
        obtain ⟨z17, hz17, tz17⟩ := am_addI (x := k) (y := 1) (m := k.toInt) (n := (1 : Int)) rfl (by decide) (by omega) (by omega)
        refine am_e5 (v := k) (z := z17) (ls' := [some (.ref 39), some (.int w), some (.int l), some (.int dd), some (.int z17)]) hi_205_108 rfl hz17 rfl ?_
        refine am_e18 hi_205_111 ?_
        exact ih _ l dd z17 o6 r8 _ hS16 hR14_ (fun j hj => (h13_ j hj).trans (hx j hj)) (by show (0 : Int) ≤ l.toInt; omega) (by show l.toInt < (f 24).toInt; omega) (by show (0 : Int) ≤ dd.toInt; omega) (by show dd.toInt ≤ (63 : Int); omega) (by show dd.toInt < z17.toInt; omega) (by show z17.toInt ≤ (64 : Int); omega) (by show (f 62).toInt ≤ o6.toInt; omega) (by show o6.toInt ≤ (f 62).toInt + z17.toInt; omega) (by show 64 - z17.toInt < (N : Int); omega)
      · refine am_e13f hi_205_90 (am_cF (m := k.toInt) (n := z2.toInt) rfl rfl c3) ?_
        refine am_e0 hi_205_93 ?_
        refine am_e18 hi_205_94 ?_
        refine am_e2 (v := 39) hi_205_98 rfl ?_
        refine mm_20 (v := .int m) hS hi_205_99 rfl ?_
        refine am_e32n (as := [.ref 39, .int (g 33 k.toNatClampNeg), .int (g 27 l.toNatClampNeg), .int 1, .int m]) (la := [some (.ref 39), some (.int (g 33 k.toNatClampNeg)), some (.int (g 27 l.toNatClampNeg)), some (.int 1), some (.int m), none, none]) (rest := [.ref 39]) hi_205_102 (am_hd0 (M := 205) (by decide) 102) (Nat.le_of_ble_eq_true rfl) (Nat.le_of_ble_eq_true rfl) (show 5 ≤ am_P0.2.2.1 207 from by decide +kernel) rfl (am_recv_ok hS.fs) rfl rfl (ct_outerOf (d := d) hS hRl  (by show (0 : Int) ≤ (g 33 k.toNatClampNeg).toInt; omega) (by show (g 33 k.toNatClampNeg).toInt < (f 53).toInt; omega) (by show (f 53).toInt ≤ (4096 : Int); omega) (by show (0 : Int) ≤ o.toInt; omega) (by show o.toInt ≤ (65534 : Int); omega)) ?_
        rintro v18 S19 (⟨o20, g'21, r22, hv23, hS24, hR28, h25, h26, h27⟩)
        subst hv23
        have h25_ : o.toInt ≤ o20.toInt := h25
        have h26_ : o20.toInt ≤ o.toInt + 1 := h26
        have h27_ : ∀ j, j ∉ [63, 64, 65, 66, 67] → g'21 j = gx j := h27
        replace hS24 : MS S0 S19 (upd (upd f 62 o20) 75 m) g'21 := hS24
        have hR28_ : RJ (upd (upd f 62 o20) 75 m) g'21 gs bc fl fk pj := hR28
        show am_E _ _ _ _ [some (.ref 39), some (.int w), some (.int l), some (.int dd), some (.int k)] [.int r22, .ref 39] _ _
        refine mm_21 (v := r22) hS24 hi_205_105 rfl (Nat.le_of_ble_eq_true rfl) ms_75 ?_
        intro S29 hS30
        replace hS30 : MS S0 S29 (upd (upd f 62 o20) 75 r22) g'21 := hS30
        obtain ⟨z31, hz31, tz31⟩ := am_addI (x := k) (y := 1) (m := k.toInt) (n := (1 : Int)) rfl (by decide) (by omega) (by omega)
        refine am_e5 (v := k) (z := z31) (ls' := [some (.ref 39), some (.int w), some (.int l), some (.int dd), some (.int z31)]) hi_205_108 rfl hz31 rfl ?_
        refine am_e18 hi_205_111 ?_
        exact ih _ l dd z31 o20 r22 _ hS30 hR28_ (fun j hj => (h27_ j hj).trans (hx j hj)) (by show (0 : Int) ≤ l.toInt; omega) (by show l.toInt < (f 24).toInt; omega) (by show (0 : Int) ≤ dd.toInt; omega) (by show dd.toInt ≤ (63 : Int); omega) (by show dd.toInt < z31.toInt; omega) (by show z31.toInt ≤ (64 : Int); omega) (by show (f 62).toInt ≤ o20.toInt; omega) (by show o20.toInt ≤ (f 62).toInt + z31.toInt; omega) (by show 64 - z31.toInt < (N : Int); omega)
theorem ct_resolve {sc : Nat × (Nat → Int32)} {d : Nat} {S0 S : am_S} {f : Nat → Int32} {g : Nat → Nat → Int32} {w : Int32} {gs : List mg_E} {bc : List (List Nat)} {fl : List Nat} {fk : Int} {pj : List Nat} (hS : MS S0 S f g) (hR : RJ f g gs bc fl fk pj) (p0 : (0 : Int) ≤ (f 32).toInt) (p1 : (f 32).toInt ≤ (63 : Int)) (p2 : (f 53).toInt ≤ (4096 : Int)) (p3 : (0 : Int) ≤ (f 24).toInt) (p4 : (f 24).toInt ≤ (16384 : Int)) (p5 : (0 : Int) ≤ (f 62).toInt) (p6 : (f 62).toInt ≤ (65000 : Int)) (p7 : (0 : Int) ≤ w.toInt) (p8 : w.toInt ≤ (16383 : Int)) : am_E (am_PP sc) (d + 1) 205 0 [some (.ref 39), some (.int w), none, none, none] [] S (am_N fun v S1 => (∃ o : Int32, ∃ m : Int32, ∃ g' : Nat → Nat → Int32, ∃ r : Int32, v = some (.int r) ∧ MS S0 S1 (upd (upd f 62 o) 75 m) g' ∧ (RJ (upd (upd f 62 o) 75 m) g' gs bc fl fk pj) ∧ ((f 62).toInt ≤ o.toInt) ∧ (o.toInt ≤ (f 62).toInt + 64) ∧ ((0 : Int) ≤ r.toInt) ∧ (r.toInt ≤ (2 : Int)) ∧ (∀ j, j ∉ [63, 64, 65, 66, 67] → g' j = g j))) := by
  refine am_e2 (v := 39) hi_205_0 rfl ?_
  refine am_e2 (v := 39) hi_205_1 rfl ?_
  refine mm_20 (v := .ref 41) hS hi_205_2 rfl ?_
  refine am_e1 (v := w) hi_205_5 rfl ?_
  refine mm_25 hS ma_2 hi_205_6 (by decide) (by omega) (by omega) ?_
  show am_E _ _ _ _ [some (.ref 39), some (.int w), none, none, none] [.int (g 2 w.toNatClampNeg), .ref 39] _ _
  refine am_e32n (as := [.ref 39, .int (g 2 w.toNatClampNeg)]) (la := [some (.ref 39), some (.int (g 2 w.toNatClampNeg)), none]) (rest := []) hi_205_7 (am_hd0 (M := 205) (by decide) 7) (Nat.le_of_ble_eq_true rfl) (Nat.le_of_ble_eq_true rfl) (show 2 ≤ am_P0.2.2.1 206 from by decide +kernel) rfl (am_recv_ok hS.fs) rfl rfl (ct_find (d := d) hS   (by show (0 : Int) ≤ (f 24).toInt; omega) (by show (f 24).toInt ≤ (16384 : Int); omega)) ?_
  rintro v0 S1 (⟨r2, hv3, hS4, h5, h6⟩)
  subst hv3
  have h5_ : (-1 : Int) ≤ r2.toInt := h5
  have h6_ : r2.toInt < (f 24).toInt := h6
  show am_E _ _ _ _ [some (.ref 39), some (.int w), none, none, none] [.int r2] _ _
  refine am_e3 (ls' := [some (.ref 39), some (.int w), some (.int r2), none, none]) hi_205_10 (Nat.le_of_ble_eq_true rfl) rfl ?_
  refine am_e2 (v := 39) hi_205_11 rfl ?_
  refine am_e2 (v := 39) hi_205_12 rfl ?_
  refine mm_20 (v := .ref 41) hS4 hi_205_13 rfl ?_
  refine am_e1 (v := w) hi_205_16 rfl ?_
  refine mm_25 hS4 ma_2 hi_205_17 (by decide) (by omega) (by omega) ?_
  show am_E _ _ _ _ [some (.ref 39), some (.int w), some (.int r2), none, none] [.int (g 2 w.toNatClampNeg), .ref 39] _ _
  refine mm_21 (v := g 2 w.toNatClampNeg) hS4 hi_205_18 rfl (Nat.le_of_ble_eq_true rfl) ms_75 ?_
  intro S8 hS9
  refine am_e1 (v := r2) hi_205_21 rfl ?_
  by_cases c10 : (0 : Int) ≤ r2.toInt
  · refine am_e12t hi_205_22 (am_cT (m := r2.toInt) (n := (0 : Int)) rfl (by decide) c10) ?_
    refine am_e2 (v := 39) hi_205_27 rfl ?_
    refine mm_20 (v := .ref 53) hS9 hi_205_28 rfl ?_
    refine am_e1 (v := r2) hi_205_31 rfl ?_
    refine mm_25 hS9 ma_26 hi_205_32 (by decide) (by omega) (by omega) ?_
    show am_E _ _ _ _ [some (.ref 39), some (.int w), some (.int r2), none, none] [.int (g 26 r2.toNatClampNeg)] _ _
    have r11 : 0 ≤ (g 26 r2.toNatClampNeg).toInt ∧ (g 26 r2.toNatClampNeg).toInt < 64 := RJ.ld hR r2.toNatClampNeg
    refine am_e3 (ls' := [some (.ref 39), some (.int w), some (.int r2), some (.int (g 26 r2.toNatClampNeg)), none]) hi_205_33 (Nat.le_of_ble_eq_true rfl) rfl ?_
    refine am_e2 (v := 39) hi_205_34 rfl ?_
    refine am_e1 (v := r2) hi_205_35 rfl ?_
    refine am_e2 (v := 39) hi_205_36 rfl ?_
    refine mm_20 (v := .ref 59) hS9 hi_205_37 rfl ?_
    refine am_e1 (v := g 26 r2.toNatClampNeg) hi_205_40 rfl ?_
    refine mm_25 hS9 ma_34 hi_205_41 (by decide) (by omega) (by omega) ?_
    show am_E _ _ _ _ [some (.ref 39), some (.int w), some (.int r2), some (.int (g 26 r2.toNatClampNeg)), none] [.int (g 34 (g 26 r2.toNatClampNeg).toNatClampNeg), .int r2, .ref 39] _ _
    obtain ⟨z12, hz12⟩ : ∃ q__, am_bin 1 r2 (g 34 (g 26 r2.toNatClampNeg).toNatClampNeg) = q__ := ⟨_, rfl⟩
    refine am_e10 (z := z12) hi_205_42 hz12 ?_
    refine mm_21 (v := z12) hS9 hi_205_43 rfl (Nat.le_of_ble_eq_true rfl) ms_75 ?_
    intro S13 hS14
    replace hS14 : MS S0 S13 (upd f 75 z12) g := hS14
    refine am_e1 (v := g 26 r2.toNatClampNeg) hi_205_46 rfl ?_
    refine am_e2 (v := 39) hi_205_47 rfl ?_
    refine mm_20 (v := .int (f 32)) hS14 hi_205_48 rfl ?_
    by_cases c15 : ¬ (g 26 r2.toNatClampNeg).toInt = (f 32).toInt
    · refine am_e13t hi_205_51 (am_cT (m := (g 26 r2.toNatClampNeg).toInt) (n := (f 32).toInt) rfl rfl c15) ?_
      refine am_e1 (v := g 26 r2.toNatClampNeg) hi_205_56 rfl ?_
      refine am_e0 hi_205_57 ?_
      obtain ⟨z16, hz16, tz16⟩ := am_addI (x := g 26 r2.toNatClampNeg) (y := 1) (m := (g 26 r2.toNatClampNeg).toInt) (n := (1 : Int)) rfl (by decide) (by omega) (by omega)
      refine am_e10 (z := z16) hi_205_58 hz16 ?_
      refine am_e3 (ls' := [some (.ref 39), some (.int w), some (.int r2), some (.int (g 26 r2.toNatClampNeg)), some (.int z16)]) hi_205_59 (Nat.le_of_ble_eq_true rfl) rfl ?_
      exact lp_resolve hR p0 p1 p2 p3 p4 p5 p6 p7 p8 ((64 - z16.toInt).toNat + 1) _ r2 (g 26 r2.toNatClampNeg) z16 (f 62) z12 _ hS14 hR (fun _ _ => rfl) (by show (0 : Int) ≤ r2.toInt; omega) (by show r2.toInt < (f 24).toInt; omega) (by show (0 : Int) ≤ (g 26 r2.toNatClampNeg).toInt; omega) (by show (g 26 r2.toNatClampNeg).toInt ≤ (63 : Int); omega) (by show (g 26 r2.toNatClampNeg).toInt < z16.toInt; omega) (by show z16.toInt ≤ (64 : Int); omega) (by show (f 62).toInt ≤ (f 62).toInt; omega) (by show (f 62).toInt ≤ (f 62).toInt + z16.toInt; omega) (by show 64 - z16.toInt < _; omega)
    · refine am_e13f hi_205_51 (am_cF (m := (g 26 r2.toNatClampNeg).toInt) (n := (f 32).toInt) rfl rfl c15) ?_
      refine am_e0 hi_205_54 ?_
      refine am_e33 hi_205_55 ?_
      exact ⟨(f 62), z12, _, 0, rfl, hS14, hR, (by show (f 62).toInt ≤ ((f 62)).toInt; omega), (by show ((f 62)).toInt ≤ (f 62).toInt + 64; omega), (by show (0 : Int) ≤ (0 : Int); omega), (by show (0 : Int) ≤ (2 : Int); omega), (fun _ _ => rfl)⟩
  · refine am_e12f hi_205_22 (am_cF (m := r2.toInt) (n := (0 : Int)) rfl (by decide) c10) ?_
    refine am_e0 hi_205_25 ?_
    refine am_e33 hi_205_26 ?_
    exact ⟨(f 62), g 2 w.toNatClampNeg, _, 2, rfl, hS9, hR, (by show (f 62).toInt ≤ ((f 62)).toInt; omega), (by show ((f 62)).toInt ≤ (f 62).toInt + 64; omega), (by show (0 : Int) ≤ (2 : Int); omega), (by show (2 : Int) ≤ (2 : Int); omega), (fun _ _ => rfl)⟩
