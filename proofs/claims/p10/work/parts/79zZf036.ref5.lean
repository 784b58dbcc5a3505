/-! THE REFERENCE: values loaded, nils (printed by wip/p2/ref5.py) -/
theorem ct_load {sc : Nat × (Nat → Int32)} {d : Nat} {S0 S : am_S} {f : Nat → Int32} {g : Nat → Nat → Int32} {gs : List mg_E} {bc : List (List Nat)} {fl : List Nat} {fk : Int} {pj : List Nat} (hS : MS S0 S f g) (hR : RJ f g gs bc fl fk pj) (p0 : (0 : Int) ≤ (f 32).toInt) (p1 : (f 32).toInt ≤ (63 : Int)) (p2 : (f 53).toInt ≤ (4096 : Int)) (p3 : (0 : Int) ≤ (f 68).toInt) (p4 : (f 68).toInt ≤ (65534 : Int)) (p5 : (1 : Int) ≤ (f 15).toInt) (p6 : (f 15).toInt ≤ (32767 : Int)) (p7 : (0 : Int) ≤ (f 24).toInt) (p8 : (f 24).toInt ≤ (16384 : Int)) (p9 : (0 : Int) ≤ (f 62).toInt) (p10 : (f 62).toInt ≤ (65000 : Int)) : am_E (am_PP sc) (d + 2) 204 0 [some (.ref 39), none, none, none] [] S (am_N fun v S1 => (∃ o : Int32, ∃ s : Int32, ∃ m : Int32, ∃ g' : Nat → Nat → Int32, v = none ∧ MS S0 S1 (upd (upd (upd f 62 o) 68 s) 75 m) g' ∧ (RJ (upd (upd (upd f 62 o) 68 s) 75 m) g' gs bc fl fk pj) ∧ ((f 62).toInt ≤ o.toInt) ∧ (o.toInt ≤ (f 62).toInt + 64) ∧ ((f 68).toInt ≤ s.toInt) ∧ (s.toInt ≤ (f 68).toInt + 1) ∧ (o.toInt + 64 * mj_n (g' 16) (f 15).toNatClampNeg 3 ≤ (f 62).toInt + 64 * mj_n (g 16) (f 15).toNatClampNeg 3) ∧ (∀ j, j ∉ [16, 60, 63, 64, 65, 66, 67, 69, 70, 71, 72, 73] → g' j = g j))) := by
  refine am_e2 (v := 39) hi_204_0 rfl ?_
  refine mm_20 (v := .int (f 15)) hS hi_204_1 rfl ?_
  refine am_e0 hi_204_4 ?_
  obtain ⟨z0, hz0, tz0⟩ := am_subI (x := f 15) (y := 1) (m := (f 15).toInt) (n := (1 : Int)) rfl (by decide) (by omega) (by omega)
  refine am_e10 (z := z0) hi_204_5 hz0 ?_
  refine am_e3 (ls' := [some (.ref 39), some (.int z0), none, none]) hi_204_6 (Nat.le_of_ble_eq_true rfl) rfl ?_
  refine am_e2 (v := 39) hi_204_7 rfl ?_
  refine mm_20 (v := .ref 48) hS hi_204_8 rfl ?_
  refine am_e1 (v := z0) hi_204_11 rfl ?_
  refine mm_25 hS ma_18 hi_204_12 (by decide) (by omega) (by omega) ?_
  show am_E _ _ _ _ [some (.ref 39), some (.int z0), none, none] [.int (g 18 z0.toNatClampNeg)] _ _
  have r1 : (g 16 z0.toNatClampNeg).toInt = 3 → 0 ≤ (g 18 z0.toNatClampNeg).toInt ∧ (g 18 z0.toNatClampNeg).toInt < 16384 := RJ.vw hR z0.toNatClampNeg
  refine am_e3 (ls' := [some (.ref 39), some (.int z0), some (.int (g 18 z0.toNatClampNeg)), none]) hi_204_13 (Nat.le_of_ble_eq_true rfl) rfl ?_
  refine am_e2 (v := 39) hi_204_14 rfl ?_
  refine mm_20 (v := .ref 46) hS hi_204_15 rfl ?_
  refine am_e1 (v := z0) hi_204_18 rfl ?_
  refine mm_25 hS ma_16 hi_204_19 (by decide) (by omega) (by omega) ?_
  show am_E _ _ _ _ [some (.ref 39), some (.int z0), some (.int (g 18 z0.toNatClampNeg)), none] [.int (g 16 z0.toNatClampNeg)] _ _
  by_cases c2 : (g 16 z0.toNatClampNeg).toInt = 3
  · refine am_e19 (t := 48) hi_204_20 (am_swI (v := g 16 z0.toNatClampNeg) (w := 3) (by decide) (by decide) c2) ?_
    refine am_e2 (v := 39) hi_204_48 rfl ?_
    refine am_e1 (v := g 18 z0.toNatClampNeg) hi_204_49 rfl ?_
    refine am_e32n (as := [.ref 39, .int (g 18 z0.toNatClampNeg)]) (la := [some (.ref 39), some (.int (g 18 z0.toNatClampNeg)), none, none, none]) (rest := []) hi_204_50 (am_hd0 (M := 204) (by decide) 50) (Nat.le_of_ble_eq_true rfl) (Nat.le_of_ble_eq_true rfl) (show 2 ≤ am_P0.2.2.1 205 from by decide +kernel) rfl (am_recv_ok hS.fs) rfl rfl (ct_resolve (d := d) hS hR  (by show (0 : Int) ≤ (f 32).toInt; omega) (by show (f 32).toInt ≤ (63 : Int); omega) (by show (f 53).toInt ≤ (4096 : Int); omega) (by show (0 : Int) ≤ (f 24).toInt; omega) (by show (f 24).toInt ≤ (16384 : Int); omega) (by show (0 : Int) ≤ (f 62).toInt; omega) (by show (f 62).toInt ≤ (65000 : Int); omega) (by show (0 : Int) ≤ (g 18 z0.toNatClampNeg).toInt; omega) (by show (g 18 z0.toNatClampNeg).toInt ≤ (16383 : Int); omega)) ?_
    rintro v3 S4 (⟨o5, m6, g'7, r8, hv9, hS10, hR16, h11, h12, h13, h14, h15⟩)
    subst hv9
    have h11_ : (f 62).toInt ≤ o5.toInt := h11
    have h12_ : o5.toInt ≤ (f 62).toInt + 64 := h12
    have h13_ : (0 : Int) ≤ r8.toInt := h13
    have h14_ : r8.toInt ≤ (2 : Int) := h14
    have h15_ : ∀ j, j ∉ [63, 64, 65, 66, 67] → g'7 j = g j := h15
    have hR16_ : RJ (upd (upd f 62 o5) 75 m6) g'7 gs bc fl fk pj := hR16
    show am_E _ _ _ _ [some (.ref 39), some (.int z0), some (.int (g 18 z0.toNatClampNeg)), none] [.int r8] _ _
    refine am_e3 (ls' := [some (.ref 39), some (.int z0), some (.int (g 18 z0.toNatClampNeg)), some (.int r8)]) hi_204_53 (Nat.le_of_ble_eq_true rfl) rfl ?_
    refine am_e2 (v := 39) hi_204_54 rfl ?_
    refine am_e0 hi_204_55 ?_
    refine am_e1 (v := r8) hi_204_57 rfl ?_
    obtain ⟨z17, hz17, tz17⟩ := am_addI (x := 8) (y := r8) (m := (8 : Int)) (n := r8.toInt) (by decide) rfl (by omega) (by omega)
    refine am_e10 (z := z17) hi_204_58 hz17 ?_
    refine am_e2 (v := 39) hi_204_59 rfl ?_
    refine mm_20 (v := .int m6) hS10 hi_204_60 rfl ?_
    refine am_e0 hi_204_63 ?_
    refine am_e1 (v := g 18 z0.toNatClampNeg) hi_204_64 rfl ?_
    refine am_e32n (as := [.ref 39, .int z17, .int m6, .int 0, .int (g 18 z0.toNatClampNeg)]) (la := [some (.ref 39), some (.int z17), some (.int m6), some (.int 0), some (.int (g 18 z0.toNatClampNeg))]) (rest := []) hi_204_65 (am_hd0 (M := 204) (by decide) 65) (Nat.le_of_ble_eq_true rfl) (Nat.le_of_ble_eq_true rfl) (show 5 ≤ am_P0.2.2.1 189 from by decide +kernel) rfl (am_recv_ok hS10.fs) rfl rfl (ct_put (d := (d + 1)) hS10 hR16_  (by show (0 : Int) ≤ (f 32).toInt; omega) (by show (f 32).toInt ≤ (63 : Int); omega) (by show (f 53).toInt ≤ (4096 : Int); omega) (by show (0 : Int) ≤ (f 68).toInt; omega) (by show (f 68).toInt ≤ (65534 : Int); omega)) ?_
    rintro v18 S19 (⟨z20, r21, g'22, hv23, hS24, hR28, h25, h26, h27⟩)
    subst hv23
    have h25_ : z20.toInt = (f 68).toInt + 1 := h25
    have h26_ : r21.toInt = (f 68).toInt := h26
    have h27_ : ∀ j, j ∉ [60, 69, 70, 71, 72, 73] → g'22 j = g'7 j := h27
    replace hS24 : MS S0 S19 (upd (upd (upd f 62 o5) 68 z20) 75 m6) g'22 := hS24
    have hR28_ : RJ (upd (upd (upd f 62 o5) 68 z20) 75 m6) g'22 gs bc fl fk ((f 68).toNatClampNeg :: pj) := hR28
    show am_E _ _ _ _ [some (.ref 39), some (.int z0), some (.int (g 18 z0.toNatClampNeg)), some (.int r8)] [.int r21] _ _
    refine am_e6i hi_204_68 ?_
    refine am_e18 hi_204_69 ?_
    refine am_e2 (v := 39) hi_204_103 rfl ?_
    refine mm_20 (v := .ref 46) hS24 hi_204_104 rfl ?_
    refine am_e1 (v := z0) hi_204_107 rfl ?_
    refine am_e0 hi_204_108 ?_
    refine mm_26 hS24 ma_16 hi_204_109 (by decide) (by omega) (by omega) (fun h => nomatch h) ?_
    intro S29 hS30
    refine am_e35 hi_204_110 ?_
    have hcl := mj_clear (a := g 16) (v := z0.toNatClampNeg) (n := (f 15).toNatClampNeg) (by rw [cl_toNat, cl_toNat]; omega)
    exact ⟨o5, z20, m6, _, rfl, hS30, (rj_load (RJ.fewer hR28_ (fun j hj => List.mem_cons_of_mem _ hj))), (by show (f 62).toInt ≤ o5.toInt; omega), (by show o5.toInt ≤ (f 62).toInt + 64; omega), (by show (f 68).toInt ≤ z20.toInt; omega), (by show z20.toInt ≤ (f 68).toInt + 1; omega), (by show o5.toInt + 64 * mj_n (upd (g'22 16) z0.toNatClampNeg 0) (f 15).toNatClampNeg 3 ≤ (f 62).toInt + 64 * mj_n (g 16) (f 15).toNatClampNeg 3; rw [show g'22 16 = g'7 16 from h27_ 16 (by decide), show g'7 16 = g 16 from h15_ 16 (by decide)]; split at hcl <;> omega), (fun j hj => ((show ∀ j, j ∉ [16, 60, 63, 64, 65, 66, 67, 69, 70, 71, 72, 73] → (upg g'22 16 z0.toNatClampNeg 0) j = g'22 j from by intro j hj; simp only [List.mem_cons, List.not_mem_nil, or_false, not_or] at hj; simp only [upg, hj, if_false]) j hj).trans ((fun j hj => ((show ∀ j, j ∉ [16, 60, 63, 64, 65, 66, 67, 69, 70, 71, 72, 73] → g'22 j = g'7 j from fun j hj => h27_ j (fun q => hj (mem_sub (L := [60, 69, 70, 71, 72, 73]) (L' := [16, 60, 63, 64, 65, 66, 67, 69, 70, 71, 72, 73]) (by decide) q))) j hj).trans ((show ∀ j, j ∉ [16, 60, 63, 64, 65, 66, 67, 69, 70, 71, 72, 73] → g'7 j = g j from fun j hj => h15_ j (fun q => hj (mem_sub (L := [63, 64, 65, 66, 67]) (L' := [16, 60, 63, 64, 65, 66, 67, 69, 70, 71, 72, 73]) (by decide) q))) j hj)) j hj))⟩
  by_cases c31 : (g 16 z0.toNatClampNeg).toInt = 4
  · refine am_e19 (t := 72) hi_204_20 (am_swI (v := g 16 z0.toNatClampNeg) (w := 4) (by decide) (by decide) c31) ?_
    refine am_e2 (v := 39) hi_204_72 rfl ?_
    refine am_e0 hi_204_73 ?_
    refine am_e0 hi_204_75 ?_
    refine am_e0 hi_204_76 ?_
    refine am_e1 (v := g 18 z0.toNatClampNeg) hi_204_77 rfl ?_
    refine am_e32n (as := [.ref 39, .int 11, .int 0, .int 0, .int (g 18 z0.toNatClampNeg)]) (la := [some (.ref 39), some (.int 11), some (.int 0), some (.int 0), some (.int (g 18 z0.toNatClampNeg))]) (rest := []) hi_204_78 (am_hd0 (M := 204) (by decide) 78) (Nat.le_of_ble_eq_true rfl) (Nat.le_of_ble_eq_true rfl) (show 5 ≤ am_P0.2.2.1 189 from by decide +kernel) rfl (am_recv_ok hS.fs) rfl rfl (ct_put (d := (d + 1)) hS hR  (by show (0 : Int) ≤ (f 32).toInt; omega) (by show (f 32).toInt ≤ (63 : Int); omega) (by show (f 53).toInt ≤ (4096 : Int); omega) (by show (0 : Int) ≤ (f 68).toInt; omega) (by show (f 68).toInt ≤ (65534 : Int); omega)) ?_
    rintro v32 S33 (⟨z34, r35, g'36, hv37, hS38, hR42, h39, h40, h41⟩)
    subst hv37
    have h39_ : z34.toInt = (f 68).toInt + 1 := h39
    have h40_ : r35.toInt = (f 68).toInt := h40
    have h41_ : ∀ j, j ∉ [60, 69, 70, 71, 72, 73] → g'36 j = g j := h41
    have hR42_ : RJ (upd f 68 z34) g'36 gs bc fl fk ((f 68).toNatClampNeg :: pj) := hR42
    show am_E _ _ _ _ [some (.ref 39), some (.int z0), some (.int (g 18 z0.toNatClampNeg)), none] [.int r35] _ _
    refine am_e6i hi_204_81 ?_
    refine am_e18 hi_204_82 ?_
    refine am_e2 (v := 39) hi_204_103 rfl ?_
    refine mm_20 (v := .ref 46) hS38 hi_204_104 rfl ?_
    refine am_e1 (v := z0) hi_204_107 rfl ?_
    refine am_e0 hi_204_108 ?_
    refine mm_26 hS38 ma_16 hi_204_109 (by decide) (by omega) (by omega) (fun h => nomatch h) ?_
    intro S43 hS44
    refine am_e35 hi_204_110 ?_
    have hcl := mj_clear (a := g 16) (v := z0.toNatClampNeg) (n := (f 15).toNatClampNeg) (by rw [cl_toNat, cl_toNat]; omega)
    exact ⟨(f 62), z34, (f 75), _, rfl, hS44, (rj_load (RJ.fewer hR42_ (fun j hj => List.mem_cons_of_mem _ hj))), (by show (f 62).toInt ≤ (f 62).toInt; omega), (by show (f 62).toInt ≤ (f 62).toInt + 64; omega), (by show (f 68).toInt ≤ z34.toInt; omega), (by show z34.toInt ≤ (f 68).toInt + 1; omega), (by show (f 62).toInt + 64 * mj_n (upd (g'36 16) z0.toNatClampNeg 0) (f 15).toNatClampNeg 3 ≤ (f 62).toInt + 64 * mj_n (g 16) (f 15).toNatClampNeg 3; rw [show g'36 16 = g 16 from h41_ 16 (by decide)]; split at hcl <;> omega), (fun j hj => ((show ∀ j, j ∉ [16, 60, 63, 64, 65, 66, 67, 69, 70, 71, 72, 73] → (upg g'36 16 z0.toNatClampNeg 0) j = g'36 j from by intro j hj; simp only [List.mem_cons, List.not_mem_nil, or_false, not_or] at hj; simp only [upg, hj, if_false]) j hj).trans ((show ∀ j, j ∉ [16, 60, 63, 64, 65, 66, 67, 69, 70, 71, 72, 73] → g'36 j = g j from fun j hj => h41_ j (fun q => hj (mem_sub (L := [60, 69, 70, 71, 72, 73]) (L' := [16, 60, 63, 64, 65, 66, 67, 69, 70, 71, 72, 73]) (by decide) q))) j hj))⟩
  by_cases c45 : (g 16 z0.toNatClampNeg).toInt = 5
  · refine am_e19 (t := 85) hi_204_20 (am_swI (v := g 16 z0.toNatClampNeg) (w := 5) (by decide) (by decide) c45) ?_
    refine am_e2 (v := 39) hi_204_85 rfl ?_
    refine am_e0 hi_204_86 ?_
    refine am_e2 (v := 39) hi_204_88 rfl ?_
    refine mm_20 (v := .ref 47) hS hi_204_89 rfl ?_
    refine am_e1 (v := z0) hi_204_92 rfl ?_
    refine mm_25 hS ma_17 hi_204_93 (by decide) (by omega) (by omega) ?_
    show am_E _ _ _ _ [some (.ref 39), some (.int z0), some (.int (g 18 z0.toNatClampNeg)), none] [.int (g 17 z0.toNatClampNeg), .int 12, .ref 39] _ _
    have r46 : (g 16 z0.toNatClampNeg).toInt = 1 ∨ (g 16 z0.toNatClampNeg).toInt = 2 → 0 ≤ (g 17 z0.toNatClampNeg).toInt ∧ (g 17 z0.toNatClampNeg).toInt < 65536 := RJ.vc hR z0.toNatClampNeg
    refine am_e0 hi_204_94 ?_
    refine am_e1 (v := g 18 z0.toNatClampNeg) hi_204_95 rfl ?_
    refine am_e32n (as := [.ref 39, .int 12, .int (g 17 z0.toNatClampNeg), .int 0, .int (g 18 z0.toNatClampNeg)]) (la := [some (.ref 39), some (.int 12), some (.int (g 17 z0.toNatClampNeg)), some (.int 0), some (.int (g 18 z0.toNatClampNeg))]) (rest := []) hi_204_96 (am_hd0 (M := 204) (by decide) 96) (Nat.le_of_ble_eq_true rfl) (Nat.le_of_ble_eq_true rfl) (show 5 ≤ am_P0.2.2.1 189 from by decide +kernel) rfl (am_recv_ok hS.fs) rfl rfl (ct_put (d := (d + 1)) hS hR  (by show (0 : Int) ≤ (f 32).toInt; omega) (by show (f 32).toInt ≤ (63 : Int); omega) (by show (f 53).toInt ≤ (4096 : Int); omega) (by show (0 : Int) ≤ (f 68).toInt; omega) (by show (f 68).toInt ≤ (65534 : Int); omega)) ?_
    rintro v47 S48 (⟨z49, r50, g'51, hv52, hS53, hR57, h54, h55, h56⟩)
    subst hv52
    have h54_ : z49.toInt = (f 68).toInt + 1 := h54
    have h55_ : r50.toInt = (f 68).toInt := h55
    have h56_ : ∀ j, j ∉ [60, 69, 70, 71, 72, 73] → g'51 j = g j := h56
    have hR57_ : RJ (upd f 68 z49) g'51 gs bc fl fk ((f 68).toNatClampNeg :: pj) := hR57
    show am_E _ _ _ _ [some (.ref 39), some (.int z0), some (.int (g 18 z0.toNatClampNeg)), none] [.int r50] _ _
    refine am_e6i hi_204_99 ?_
    refine am_e18 hi_204_100 ?_
    refine am_e2 (v := 39) hi_204_103 rfl ?_
    refine mm_20 (v := .ref 46) hS53 hi_204_104 rfl ?_
    refine am_e1 (v := z0) hi_204_107 rfl ?_
    refine am_e0 hi_204_108 ?_
    refine mm_26 hS53 ma_16 hi_204_109 (by decide) (by omega) (by omega) (fun h => nomatch h) ?_
    intro S58 hS59
    refine am_e35 hi_204_110 ?_
    have hcl := mj_clear (a := g 16) (v := z0.toNatClampNeg) (n := (f 15).toNatClampNeg) (by rw [cl_toNat, cl_toNat]; omega)
    exact ⟨(f 62), z49, (f 75), _, rfl, hS59, (rj_load (RJ.fewer hR57_ (fun j hj => List.mem_cons_of_mem _ hj))), (by show (f 62).toInt ≤ (f 62).toInt; omega), (by show (f 62).toInt ≤ (f 62).toInt + 64; omega), (by show (f 68).toInt ≤ z49.toInt; omega), (by show z49.toInt ≤ (f 68).toInt + 1; omega), (by show (f 62).toInt + 64 * mj_n (upd (g'51 16) z0.toNatClampNeg 0) (f 15).toNatClampNeg 3 ≤ (f 62).toInt + 64 * mj_n (g 16) (f 15).toNatClampNeg 3; rw [show g'51 16 = g 16 from h56_ 16 (by decide)]; split at hcl <;> omega), (fun j hj => ((show ∀ j, j ∉ [16, 60, 63, 64, 65, 66, 67, 69, 70, 71, 72, 73] → (upg g'51 16 z0.toNatClampNeg 0) j = g'51 j from by intro j hj; simp only [List.mem_cons, List.not_mem_nil, or_false, not_or] at hj; simp only [upg, hj, if_false]) j hj).trans ((show ∀ j, j ∉ [16, 60, 63, 64, 65, 66, 67, 69, 70, 71, 72, 73] → g'51 j = g j from fun j hj => h56_ j (fun q => hj (mem_sub (L := [60, 69, 70, 71, 72, 73]) (L' := [16, 60, 63, 64, 65, 66, 67, 69, 70, 71, 72, 73]) (by decide) q))) j hj))⟩
  refine am_e19 (t := 103) hi_204_20 (am_swK (v := g 16 z0.toNatClampNeg) (ks := [3, 4, 5]) (by decide) (by intro k hk; simp only [List.mem_cons, List.not_mem_nil, or_false] at hk; rcases hk with rfl | rfl | rfl <;> omega)) ?_
  refine am_e2 (v := 39) hi_204_103 rfl ?_
  refine mm_20 (v := .ref 46) hS hi_204_104 rfl ?_
  refine am_e1 (v := z0) hi_204_107 rfl ?_
  refine am_e0 hi_204_108 ?_
  refine mm_26 hS ma_16 hi_204_109 (by decide) (by omega) (by omega) (fun h => nomatch h) ?_
  intro S60 hS61
  refine am_e35 hi_204_110 ?_
  have hcl := mj_clear (a := g 16) (v := z0.toNatClampNeg) (n := (f 15).toNatClampNeg) (by rw [cl_toNat, cl_toNat]; omega)
  exact ⟨(f 62), (f 68), (f 75), _, rfl, hS61, (rj_load hR), (by show (f 62).toInt ≤ (f 62).toInt; omega), (by show (f 62).toInt ≤ (f 62).toInt + 64; omega), (by show (f 68).toInt ≤ (f 68).toInt; omega), (by show (f 68).toInt ≤ (f 68).toInt + 1; omega), (by show (f 62).toInt + 64 * mj_n (upd (g 16) z0.toNatClampNeg 0) (f 15).toNatClampNeg 3 ≤ (f 62).toInt + 64 * mj_n (g 16) (f 15).toNatClampNeg 3; split at hcl <;> omega), (show ∀ j, j ∉ [16, 60, 63, 64, 65, 66, 67, 69, 70, 71, 72, 73] → (upg g 16 z0.toNatClampNeg 0) j = g j from by intro j hj; simp only [List.mem_cons, List.not_mem_nil, or_false, not_or] at hj; simp only [upg, hj, if_false])⟩
theorem lp_nils {sc : Nat × (Nat → Int32)} {d : Nat} {S0 : am_S} {f : Nat → Int32} {g : Nat → Nat → Int32} {k : Int32} {gs : List mg_E} {bc : List (List Nat)} {fl : List Nat} {fk : Int} {pj : List Nat}  (hR : RJ f g gs bc fl fk pj) (p0 : (0 : Int) ≤ (f 32).toInt) (p1 : (f 32).toInt ≤ (63 : Int)) (p2 : (f 53).toInt ≤ (4096 : Int)) (p3 : (0 : Int) ≤ (f 68).toInt) (p4 : (f 68).toInt ≤ (65534 : Int)) (p5 : (f 68).toInt + k.toInt ≤ 65534) : ∀ (N : Nat) (S : am_S) (i s : Int32) (gx : Nat → Nat → Int32), MS S0 S (upd f 68 s) gx → RJ (upd f 68 s) gx gs bc fl fk pj → (∀ j, j ∉ [60, 69, 70, 71, 72, 73] → gx j = g j) → (0 : Int) ≤ i.toInt → i.toInt ≤ k.toInt → s.toInt = (f 68).toInt + i.toInt → k.toInt - i.toInt < (N : Int) → am_E (am_PP sc) (d + 1) 240 2 [some (.ref 39), some (.int k), some (.int i)] [] S (am_N fun v S1 => (∃ s : Int32, ∃ g' : Nat → Nat → Int32, v = none ∧ MS S0 S1 (upd f 68 s) g' ∧ (RJ (upd f 68 s) g' gs bc fl fk pj) ∧ ((f 68).toInt ≤ s.toInt) ∧ (s.toInt ≤ (f 68).toInt + k.toInt ∨ s.toInt ≤ (f 68).toInt) ∧ (∀ j, j ∉ [60, 69, 70, 71, 72, 73] → g' j = g j))) := by
  intro N
  induction N with
  | zero =>
    intro S  i s gx  hS hRl hx i0 i1 i2 hN
    exfalso
    omega
  | succ N ih =>
    intro S  i s gx  hS hRl hx i0 i1 i2 hN
    refine am_e1 (v := i) hi_240_2 rfl ?_
    refine am_e1 (v := k) hi_240_3 rfl ?_
    by_cases c0 : k.toInt ≤ i.toInt
    · refine am_e13t hi_240_4 (am_cT (m := i.toInt) (n := k.toInt) rfl rfl c0) ?_
      refine am_e35 hi_240_22 ?_
      exact ⟨s, _, rfl, hS, hRl, (by show (f 68).toInt ≤ s.toInt; omega), (by show s.toInt ≤ (f 68).toInt + k.toInt ∨ s.toInt ≤ (f 68).toInt; omega), hx⟩
    · refine am_e13f hi_240_4 (am_cF (m := i.toInt) (n := k.toInt) rfl rfl c0) ?_
      refine am_e2 (v := 39) hi_240_7 rfl ?_
      refine am_e0 hi_240_8 ?_
      refine am_e0 hi_240_9 ?_
      refine am_e0 hi_240_10 ?_
      refine am_e0 hi_240_11 ?_
      refine am_e32n (as := [.ref 39, .int 1, .int 0, .int 0, .int 0]) (la := [some (.ref 39), some (.int 1), some (.int 0), some (.int 0), some (.int 0)]) (rest := []) hi_240_12 (am_hd0 (M := 240) (by decide) 12) (Nat.le_of_ble_eq_true rfl) (Nat.le_of_ble_eq_true rfl) (show 5 ≤ am_P0.2.2.1 189 from by decide +kernel) rfl (am_recv_ok hS.fs) rfl rfl (ct_put (d := d) hS hRl  (by show (0 : Int) ≤ (f 32).toInt; omega) (by show (f 32).toInt ≤ (63 : Int); omega) (by show (f 53).toInt ≤ (4096 : Int); omega) (by show (0 : Int) ≤ s.toInt; omega) (by show s.toInt ≤ (65534 : Int); omega)) ?_
      rintro v1 S2 (⟨z3, r4, g'5, hv6, hS7, hR11, h8, h9, h10⟩)
      subst hv6
      have h8_ : z3.toInt = s.toInt + 1 := h8
      have h9_ : r4.toInt = s.toInt := h9
      have h10_ : ∀ j, j ∉ [60, 69, 70, 71, 72, 73] → g'5 j = gx j := h10
      replace hS7 : MS S0 S2 (upd f 68 z3) g'5 := hS7
      have hR11_ : RJ (upd f 68 z3) g'5 gs bc fl fk (s.toNatClampNeg :: pj) := hR11
      show am_E _ _ _ _ [some (.ref 39), some (.int k), some (.int i)] [.int r4] _ _
      refine am_e6i hi_240_15 ?_
      obtain ⟨z12, hz12, tz12⟩ := am_addI (x := i) (y := 1) (m := i.toInt) (n := (1 : Int)) rfl (by decide) (by omega) (by omega)
      refine am_e5 (v := i) (z := z12) (ls' := [some (.ref 39), some (.int k), some (.int z12)]) hi_240_16 rfl hz12 rfl ?_
      refine am_e18 hi_240_19 ?_
      exact ih _ z12 z3 _ hS7 (RJ.fewer hR11_ (fun j hj => List.mem_cons_of_mem _ hj)) (fun j hj => (h10_ j hj).trans (hx j hj)) (by show (0 : Int) ≤ z12.toInt; omega) (by show z12.toInt ≤ k.toInt; omega) (by show z3.toInt = (f 68).toInt + z12.toInt; omega) (by show k.toInt - z12.toInt < (N : Int); omega)
theorem ct_nils {sc : Nat × (Nat → Int32)} {d : Nat} {S0 S : am_S} {f : Nat → Int32} {g : Nat → Nat → Int32} {k : Int32} {gs : List mg_E} {bc : List (List Nat)} {fl : List Nat} {fk : Int} {pj : List Nat} (hS : MS S0 S f g) (hR : RJ f g gs bc fl fk pj) (p0 : (0 : Int) ≤ (f 32).toInt) (p1 : (f 32).toInt ≤ (63 : Int)) (p2 : (f 53).toInt ≤ (4096 : Int)) (p3 : (0 : Int) ≤ (f 68).toInt) (p4 : (f 68).toInt ≤ (65534 : Int)) (p5 : (f 68).toInt + k.toInt ≤ 65534) : am_E (am_PP sc) (d + 1) 240 0 [some (.ref 39), some (.int k), none] [] S (am_N fun v S1 => (∃ s : Int32, ∃ g' : Nat → Nat → Int32, v = none ∧ MS S0 S1 (upd f 68 s) g' ∧ (RJ (upd f 68 s) g' gs bc fl fk pj) ∧ ((f 68).toInt ≤ s.toInt) ∧ (s.toInt ≤ (f 68).toInt + k.toInt ∨ s.toInt ≤ (f 68).toInt) ∧ (∀ j, j ∉ [60, 69, 70, 71, 72, 73] → g' j = g j))) := by
  refine am_e0 hi_240_0 ?_
  refine am_e3 (ls' := [some (.ref 39), some (.int k), some (.int 0)]) hi_240_1 (Nat.le_of_ble_eq_true rfl) rfl ?_
  by_cases hk : k.toInt ≤ 0
  · refine am_e1 (v := 0) hi_240_2 rfl ?_
    refine am_e1 (v := k) hi_240_3 rfl ?_
    refine am_e13t hi_240_4 (am_cT (m := (0 : Int)) (n := k.toInt) (by decide) rfl (by simp only [am_cI]; omega)) ?_
    refine am_e35 hi_240_22 ?_
    exact ⟨(f 68), _, rfl, hS, hR, (by show (f 68).toInt ≤ (f 68).toInt; omega), (by show (f 68).toInt ≤ (f 68).toInt + k.toInt ∨ (f 68).toInt ≤ (f 68).toInt; omega), (fun _ _ => rfl)⟩
  · exact lp_nils hR p0 p1 p2 p3 p4 p5 ((k.toInt - (0 : Int)).toNat + 1) _ 0 (f 68) _ hS hR (fun _ _ => rfl) (by show (0 : Int) ≤ (0 : Int); omega) (by show (0 : Int) ≤ k.toInt; omega) (by show (f 68).toInt = (f 68).toInt + (0 : Int); omega) (by show k.toInt - (0 : Int) < _; omega)
