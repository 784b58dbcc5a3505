/-! THE REFERENCE: hidden locals, tails (printed by wip/p2/ref8.py) -/
theorem lp_unhide {sc : Nat × (Nat → Int32)} {d : Nat} {S0 : am_S} {f : Nat → Int32} {g : Nat → Nat → Int32} {s : Int32} {gs : List mg_E} {bc : List (List Nat)} {fl : List Nat} {fk : Int} {pj : List Nat}  (hR : RJ f g gs bc fl fk pj) (hu1 : (g 34 (f 32).toNatClampNeg).toInt + s.toInt ≤ (f 24).toInt) (hu2 : ∀ b : Nat, (b : Int) < (f 37).toInt → (g 38 b).toInt ≤ (g 34 (f 32).toNatClampNeg).toInt + s.toInt) (p0 : (0 : Int) ≤ (f 32).toInt) (p1 : (f 32).toInt ≤ (63 : Int)) (p2 : (0 : Int) ≤ (f 48).toInt) (p3 : (f 48).toInt ≤ (8192 : Int)) (p4 : (0 : Int) ≤ (f 37).toInt) (p5 : (f 37).toInt ≤ (127 : Int)) (p6 : (0 : Int) ≤ s.toInt) (p7 : s.toInt ≤ (16384 : Int)) (p8 : (f 24).toInt ≤ (16384 : Int)) : ∀ (N : Nat) (S : am_S) (kk l : Int32) (gx : Nat → Nat → Int32), MS S0 S (upd f 24 l) gx → (∀ j, j ∉ [52] → gx j = g j) → (0 : Int) ≤ kk.toInt → kk.toInt ≤ (8192 : Int) → l.toInt = (g 34 (f 32).toNatClampNeg).toInt + s.toInt → 8192 - kk.toInt < (N : Int) → am_E (am_PP sc) (d + 0) 256 25 [some (.ref 39), some (.int s), some (.int kk)] [] S (am_N fun v S1 => (∃ l : Int32, ∃ g' : Nat → Nat → Int32, v = none ∧ MS S0 S1 (upd f 24 l) g' ∧ (RJ (upd f 24 l) g' gs bc fl fk pj) ∧ ((0 : Int) ≤ l.toInt) ∧ (l.toInt ≤ (f 24).toInt) ∧ (∀ j, j ∉ [52] → g' j = g j))) := by
  intro N
  induction N with
  | zero =>
    intro S  kk l gx  hS  hx i0 i1 i2 hN
    exfalso
    omega
  | succ N ih =>
    intro S  kk l gx  hS  hx i0 i1 i2 hN
    refine am_e1 (v := kk) hi_256_25 rfl ?_
    refine am_e2 (v := 39) hi_256_26 rfl ?_
    refine mm_20 (v := .int (f 48)) hS hi_256_27 rfl ?_
    by_cases c0 : (f 48).toInt ≤ kk.toInt
    · refine am_e13t hi_256_30 (am_cT (m := kk.toInt) (n := (f 48).toInt) rfl rfl c0) ?_
      refine am_e35 hi_256_65 ?_
      have hba : 0 ≤ (g 34 (f 32).toNatClampNeg).toInt := RJ.ba hR _
      have hul : RJ (upd f 24 l) g gs bc fl fk pj := rj_locals hR (fun b hb => by have := hu2 b hb; omega)
      exact ⟨l, _, rfl, hS, (hul.ext (fun j hj => (hx) j (by simp only [List.mem_cons, List.not_mem_nil, or_false] at hj ⊢; omega))), (by show (0 : Int) ≤ l.toInt; omega), (by show l.toInt ≤ (f 24).toInt; omega), hx⟩
    · refine am_e13f hi_256_30 (am_cF (m := kk.toInt) (n := (f 48).toInt) rfl rfl c0) ?_
      refine am_e2 (v := 39) hi_256_33 rfl ?_
      refine mm_20 (v := .ref 74) hS hi_256_34 rfl ?_
      refine am_e1 (v := kk) hi_256_37 rfl ?_
      refine am_e2 (v := 39) hi_256_38 rfl ?_
      refine mm_20 (v := .ref 74) hS hi_256_39 rfl ?_
      refine am_e1 (v := kk) hi_256_42 rfl ?_
      refine mm_25 hS ma_52 hi_256_43 (by decide) (by omega) (by omega) ?_
      show am_E _ _ _ _ [some (.ref 39), some (.int s), some (.int kk)] [.int (gx 52 kk.toNatClampNeg), .int kk, .ref 74] _ _
      refine am_e1 (v := s) hi_256_44 rfl ?_
      by_cases c1 : (gx 52 kk.toNatClampNeg).toInt ≤ s.toInt
      · refine am_e13t hi_256_45 (am_cT (m := (gx 52 kk.toNatClampNeg).toInt) (n := s.toInt) rfl rfl c1) ?_
        refine am_e2 (v := 39) hi_256_52 rfl ?_
        refine mm_20 (v := .ref 74) hS hi_256_53 rfl ?_
        refine am_e1 (v := kk) hi_256_56 rfl ?_
        refine mm_25 hS ma_52 hi_256_57 (by decide) (by omega) (by omega) ?_
        show am_E _ _ _ _ [some (.ref 39), some (.int s), some (.int kk)] [.int (gx 52 kk.toNatClampNeg), .int kk, .ref 74] _ _
        refine mm_26 hS ma_52 hi_256_58 (by decide) (by omega) (by omega) (fun h => nomatch h) ?_
        intro S2 hS3
        obtain ⟨z4, hz4, tz4⟩ := am_addI (x := kk) (y := 1) (m := kk.toInt) (n := (1 : Int)) rfl (by decide) (by omega) (by omega)
        refine am_e5 (v := kk) (z := z4) (ls' := [some (.ref 39), some (.int s), some (.int z4)]) hi_256_59 rfl hz4 rfl ?_
        refine am_e18 hi_256_62 ?_
        exact ih _ z4 l _ hS3 (fun j hj => ((show ∀ j, j ∉ [52] → (upg gx 52 kk.toNatClampNeg (gx 52 kk.toNatClampNeg)) j = gx j from by intro j hj; simp only [List.mem_cons, List.not_mem_nil, or_false, not_or] at hj; simp only [upg, hj, if_false]) j hj).trans (hx j hj)) (by show (0 : Int) ≤ z4.toInt; omega) (by show z4.toInt ≤ (8192 : Int); omega) (by show l.toInt = (g 34 (f 32).toNatClampNeg).toInt + s.toInt; omega) (by show 8192 - z4.toInt < (N : Int); omega)
      · refine am_e13f hi_256_45 (am_cF (m := (gx 52 kk.toNatClampNeg).toInt) (n := s.toInt) rfl rfl c1) ?_
        refine am_e1 (v := s) hi_256_48 rfl ?_
        refine am_e18 hi_256_49 ?_
        refine mm_26 hS ma_52 hi_256_58 (by decide) (by omega) (by omega) (fun h => nomatch h) ?_
        intro S5 hS6
        obtain ⟨z7, hz7, tz7⟩ := am_addI (x := kk) (y := 1) (m := kk.toInt) (n := (1 : Int)) rfl (by decide) (by omega) (by omega)
        refine am_e5 (v := kk) (z := z7) (ls' := [some (.ref 39), some (.int s), some (.int z7)]) hi_256_59 rfl hz7 rfl ?_
        refine am_e18 hi_256_62 ?_
        exact ih _ z7 l _ hS6 (fun j hj => ((show ∀ j, j ∉ [52] → (upg gx 52 kk.toNatClampNeg s) j = gx j from by intro j hj; simp only [List.mem_cons, List.not_mem_nil, or_false, not_or] at hj; simp only [upg, hj, if_false]) j hj).trans (hx j hj)) (by show (0 : Int) ≤ z7.toInt; omega) (by show z7.toInt ≤ (8192 : Int); omega) (by show l.toInt = (g 34 (f 32).toNatClampNeg).toInt + s.toInt; omega) (by show 8192 - z7.toInt < (N : Int); omega)
theorem ct_unhide {sc : Nat × (Nat → Int32)} {d : Nat} {S0 S : am_S} {f : Nat → Int32} {g : Nat → Nat → Int32} {s : Int32} {gs : List mg_E} {bc : List (List Nat)} {fl : List Nat} {fk : Int} {pj : List Nat} (hS : MS S0 S f g) (hR : RJ f g gs bc fl fk pj) (hu1 : (g 34 (f 32).toNatClampNeg).toInt + s.toInt ≤ (f 24).toInt) (hu2 : ∀ b : Nat, (b : Int) < (f 37).toInt → (g 38 b).toInt ≤ (g 34 (f 32).toNatClampNeg).toInt + s.toInt) (p0 : (0 : Int) ≤ (f 32).toInt) (p1 : (f 32).toInt ≤ (63 : Int)) (p2 : (0 : Int) ≤ (f 48).toInt) (p3 : (f 48).toInt ≤ (8192 : Int)) (p4 : (0 : Int) ≤ (f 37).toInt) (p5 : (f 37).toInt ≤ (127 : Int)) (p6 : (0 : Int) ≤ s.toInt) (p7 : s.toInt ≤ (16384 : Int)) (p8 : (f 24).toInt ≤ (16384 : Int)) : am_E (am_PP sc) (d + 0) 256 0 [some (.ref 39), some (.int s), none] [] S (am_N fun v S1 => (∃ l : Int32, ∃ g' : Nat → Nat → Int32, v = none ∧ MS S0 S1 (upd f 24 l) g' ∧ (RJ (upd f 24 l) g' gs bc fl fk pj) ∧ ((0 : Int) ≤ l.toInt) ∧ (l.toInt ≤ (f 24).toInt) ∧ (∀ j, j ∉ [52] → g' j = g j))) := by
  refine am_e2 (v := 39) hi_256_0 rfl ?_
  refine am_e2 (v := 39) hi_256_1 rfl ?_
  refine mm_20 (v := .ref 59) hS hi_256_2 rfl ?_
  refine am_e2 (v := 39) hi_256_5 rfl ?_
  refine mm_20 (v := .int (f 32)) hS hi_256_6 rfl ?_
  refine mm_25 hS ma_34 hi_256_9 (by decide) (by omega) (by omega) ?_
  show am_E _ _ _ _ [some (.ref 39), some (.int s), none] [.int (g 34 (f 32).toNatClampNeg), .ref 39] _ _
  have r0 : 0 ≤ (g 34 (f 32).toNatClampNeg).toInt := RJ.ba hR (f 32).toNatClampNeg
  refine am_e1 (v := s) hi_256_10 rfl ?_
  obtain ⟨z1, hz1, tz1⟩ := am_addI (x := g 34 (f 32).toNatClampNeg) (y := s) (m := (g 34 (f 32).toNatClampNeg).toInt) (n := s.toInt) rfl rfl (by omega) (by omega)
  refine am_e10 (z := z1) hi_256_11 hz1 ?_
  refine mm_21 (v := z1) hS hi_256_12 rfl (Nat.le_of_ble_eq_true rfl) ms_24 ?_
  intro S2 hS3
  refine am_e2 (v := 39) hi_256_15 rfl ?_
  refine mm_20 (v := .ref 64) hS3 hi_256_16 rfl ?_
  refine am_e2 (v := 39) hi_256_19 rfl ?_
  refine mm_20 (v := .int (f 37)) hS3 hi_256_20 rfl ?_
  refine mm_25 hS3 ma_40 hi_256_23 (by decide) (by omega) (by omega) ?_
  show am_E _ _ _ _ [some (.ref 39), some (.int s), none] [.int (g 40 (f 37).toNatClampNeg)] _ _
  have r4 : 0 ≤ (g 40 (f 37).toNatClampNeg).toInt := RJ.bg0 hR (f 37).toNatClampNeg
  refine am_e3 (ls' := [some (.ref 39), some (.int s), some (.int (g 40 (f 37).toNatClampNeg))]) hi_256_24 (Nat.le_of_ble_eq_true rfl) rfl ?_
  by_cases hk : (f 48).toInt ≤ (g 40 (f 37).toNatClampNeg).toInt
  · refine am_e1 (v := g 40 (f 37).toNatClampNeg) hi_256_25 rfl ?_
    refine am_e2 (v := 39) hi_256_26 rfl ?_
    refine mm_20 (v := .int (f 48)) hS3 hi_256_27 rfl ?_
    refine am_e13t hi_256_30 (am_cT (m := (g 40 (f 37).toNatClampNeg).toInt) (n := (f 48).toInt) rfl rfl (by simp only [am_cI]; omega)) ?_
    refine am_e35 hi_256_65 ?_
    have hba : 0 ≤ (g 34 (f 32).toNatClampNeg).toInt := RJ.ba hR _
    have hul : RJ (upd f 24 z1) g gs bc fl fk pj := rj_locals hR (fun b hb => by have := hu2 b hb; omega)
    exact ⟨z1, _, rfl, hS3, (hul.ext (fun j hj => ((fun _ _ => rfl)) j (by simp only [List.mem_cons, List.not_mem_nil, or_false] at hj ⊢; omega))), (by show (0 : Int) ≤ z1.toInt; omega), (by show z1.toInt ≤ (f 24).toInt; omega), (fun _ _ => rfl)⟩
  · exact lp_unhide hR hu1 hu2 p0 p1 p2 p3 p4 p5 p6 p7 p8 ((8192 - (g 40 (f 37).toNatClampNeg).toInt).toNat + 1) _ (g 40 (f 37).toNatClampNeg) z1 _ hS3 (fun _ _ => rfl) (by show (0 : Int) ≤ (g 40 (f 37).toNatClampNeg).toInt; omega) (by show (g 40 (f 37).toNatClampNeg).toInt ≤ (8192 : Int); omega) (by show z1.toInt = (g 34 (f 32).toNatClampNeg).toInt + s.toInt; omega) (by show 8192 - (g 40 (f 37).toNatClampNeg).toInt < _; omega)
theorem lp_mayTail {sc : Nat × (Nat → Int32)} {d : Nat} {S0 : am_S} {f : Nat → Int32} {g : Nat → Nat → Int32} {gs : List mg_E} {bc : List (List Nat)} {fl : List Nat} {fk : Int} {pj : List Nat}  (hR : RJ f g gs bc fl fk pj) (p0 : (0 : Int) ≤ (f 32).toInt) (p1 : (f 32).toInt ≤ (63 : Int)) (p2 : (0 : Int) ≤ (f 24).toInt) (p3 : (f 24).toInt ≤ (16384 : Int)) : ∀ (N : Nat) (S : am_S) (m l : Int32), MS S0 S f g → (m = 0 ∨ m = 1) → (0 : Int) ≤ l.toInt → l.toInt ≤ (16384 : Int) → 16384 - l.toInt < (N : Int) → am_E (am_PP sc) (d + 0) 262 12 [some (.ref 39), some (.int m), some (.int l)] [] S (am_N fun v S1 => (∃ r : Int32, v = some (.int r) ∧ MS S0 S1 f g ∧ (r = 0 ∨ r = 1))) := by
  intro N
  induction N with
  | zero =>
    intro S  m l   hS  hm i0 i1 hN
    exfalso
    omega
  | succ N ih =>
    intro S  m l   hS  hm i0 i1 hN
    refine am_e1 (v := l) hi_262_12 rfl ?_
    refine am_e2 (v := 39) hi_262_13 rfl ?_
    refine mm_20 (v := .int (f 24)) hS hi_262_14 rfl ?_
    by_cases c0 : (f 24).toInt ≤ l.toInt
    · refine am_e13t hi_262_17 (am_cT (m := l.toInt) (n := (f 24).toInt) rfl rfl c0) ?_
      refine am_e1 (v := m) hi_262_45 rfl ?_
      refine am_e36 hi_262_46 hm ?_
      exact ⟨m, rfl, hS, hm⟩
    · refine am_e13f hi_262_17 (am_cF (m := l.toInt) (n := (f 24).toInt) rfl rfl c0) ?_
      refine am_e1 (v := m) hi_262_20 rfl ?_
      by_cases c1 : m.toInt = (0 : Int)
      · refine am_e12t hi_262_21 (am_cT (m := m.toInt) (n := (0 : Int)) rfl (by decide) c1) ?_
        refine am_e0 hi_262_37 ?_
        refine am_e3 (ls' := [some (.ref 39), some (.int 0), some (.int l)]) hi_262_38 (Nat.le_of_ble_eq_true rfl) rfl ?_
        obtain ⟨z2, hz2, tz2⟩ := am_addI (x := l) (y := 1) (m := l.toInt) (n := (1 : Int)) rfl (by decide) (by omega) (by omega)
        refine am_e5 (v := l) (z := z2) (ls' := [some (.ref 39), some (.int 0), some (.int z2)]) hi_262_39 rfl hz2 rfl ?_
        refine am_e18 hi_262_42 ?_
        exact ih _ 0 z2 hS (by decide) (by show (0 : Int) ≤ z2.toInt; omega) (by show z2.toInt ≤ (16384 : Int); omega) (by show 16384 - z2.toInt < (N : Int); omega)
      · refine am_e12f hi_262_21 (am_cF (m := m.toInt) (n := (0 : Int)) rfl (by decide) c1) ?_
        refine am_e2 (v := 39) hi_262_24 rfl ?_
        refine mm_20 (v := .ref 57) hS hi_262_25 rfl ?_
        refine am_e1 (v := l) hi_262_28 rfl ?_
        refine mm_25 hS ma_30 hi_262_29 (by decide) (by omega) (by omega) ?_
        show am_E _ _ _ _ [some (.ref 39), some (.int m), some (.int l)] [.int (g 30 l.toNatClampNeg)] _ _
        by_cases c3 : ¬ (g 30 l.toNatClampNeg).toInt = (0 : Int)
        · refine am_e12t hi_262_30 (am_cT (m := (g 30 l.toNatClampNeg).toInt) (n := (0 : Int)) rfl (by decide) c3) ?_
          refine am_e0 hi_262_37 ?_
          refine am_e3 (ls' := [some (.ref 39), some (.int 0), some (.int l)]) hi_262_38 (Nat.le_of_ble_eq_true rfl) rfl ?_
          obtain ⟨z4, hz4, tz4⟩ := am_addI (x := l) (y := 1) (m := l.toInt) (n := (1 : Int)) rfl (by decide) (by omega) (by omega)
          refine am_e5 (v := l) (z := z4) (ls' := [some (.ref 39), some (.int 0), some (.int z4)]) hi_262_39 rfl hz4 rfl ?_
          refine am_e18 hi_262_42 ?_
          exact ih _ 0 z4 hS (by decide) (by show (0 : Int) ≤ z4.toInt; omega) (by show z4.toInt ≤ (16384 : Int); omega) (by show 16384 - z4.toInt < (N : Int); omega)
        · refine am_e12f hi_262_30 (am_cF (m := (g 30 l.toNatClampNeg).toInt) (n := (0 : Int)) rfl (by decide) c3) ?_
          refine am_e0 hi_262_33 ?_
          refine am_e18 hi_262_34 ?_
          refine am_e3 (ls' := [some (.ref 39), some (.int 1), some (.int l)]) hi_262_38 (Nat.le_of_ble_eq_true rfl) rfl ?_
          obtain ⟨z5, hz5, tz5⟩ := am_addI (x := l) (y := 1) (m := l.toInt) (n := (1 : Int)) rfl (by decide) (by omega) (by omega)
          refine am_e5 (v := l) (z := z5) (ls' := [some (.ref 39), some (.int 1), some (.int z5)]) hi_262_39 rfl hz5 rfl ?_
          refine am_e18 hi_262_42 ?_
          exact ih _ 1 z5 hS (by decide) (by show (0 : Int) ≤ z5.toInt; omega) (by show z5.toInt ≤ (16384 : Int); omega) (by show 16384 - z5.toInt < (N : Int); omega)
theorem ct_mayTail {sc : Nat × (Nat → Int32)} {d : Nat} {S0 S : am_S} {f : Nat → Int32} {g : Nat → Nat → Int32} {gs : List mg_E} {bc : List (List Nat)} {fl : List Nat} {fk : Int} {pj : List Nat} (hS : MS S0 S f g) (hR : RJ f g gs bc fl fk pj) (p0 : (0 : Int) ≤ (f 32).toInt) (p1 : (f 32).toInt ≤ (63 : Int)) (p2 : (0 : Int) ≤ (f 24).toInt) (p3 : (f 24).toInt ≤ (16384 : Int)) : am_E (am_PP sc) (d + 0) 262 0 [some (.ref 39), none, none] [] S (am_N fun v S1 => (∃ r : Int32, v = some (.int r) ∧ MS S0 S1 f g ∧ (r = 0 ∨ r = 1))) := by
  refine am_e0 hi_262_0 ?_
  refine am_e3 (ls' := [some (.ref 39), some (.int 1), none]) hi_262_1 (Nat.le_of_ble_eq_true rfl) rfl ?_
  refine am_e2 (v := 39) hi_262_2 rfl ?_
  refine mm_20 (v := .ref 59) hS hi_262_3 rfl ?_
  refine am_e2 (v := 39) hi_262_6 rfl ?_
  refine mm_20 (v := .int (f 32)) hS hi_262_7 rfl ?_
  refine mm_25 hS ma_34 hi_262_10 (by decide) (by omega) (by omega) ?_
  show am_E _ _ _ _ [some (.ref 39), some (.int 1), none] [.int (g 34 (f 32).toNatClampNeg)] _ _
  have r0 : 0 ≤ (g 34 (f 32).toNatClampNeg).toInt := RJ.ba hR (f 32).toNatClampNeg
  refine am_e3 (ls' := [some (.ref 39), some (.int 1), some (.int (g 34 (f 32).toNatClampNeg))]) hi_262_11 (Nat.le_of_ble_eq_true rfl) rfl ?_
  by_cases hk : (f 24).toInt ≤ (g 34 (f 32).toNatClampNeg).toInt
  · refine am_e1 (v := g 34 (f 32).toNatClampNeg) hi_262_12 rfl ?_
    refine am_e2 (v := 39) hi_262_13 rfl ?_
    refine mm_20 (v := .int (f 24)) hS hi_262_14 rfl ?_
    refine am_e13t hi_262_17 (am_cT (m := (g 34 (f 32).toNatClampNeg).toInt) (n := (f 24).toInt) rfl rfl (by simp only [am_cI]; omega)) ?_
    refine am_e1 (v := 1) hi_262_45 rfl ?_
    refine am_e36 hi_262_46 (by decide) ?_
    exact ⟨1, rfl, hS, (by decide)⟩
  · exact lp_mayTail hR p0 p1 p2 p3 ((16384 - (g 34 (f 32).toNatClampNeg).toInt).toNat + 1) _ 1 (g 34 (f 32).toNatClampNeg) hS (by decide) (by show (0 : Int) ≤ (g 34 (f 32).toNatClampNeg).toInt; omega) (by show (g 34 (f 32).toNatClampNeg).toInt ≤ (16384 : Int); omega) (by show 16384 - (g 34 (f 32).toNatClampNeg).toInt < _; omega)
