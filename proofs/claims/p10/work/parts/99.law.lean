/-! THE LAW: class and reference side by side -/
theorem lw_word {sc : Nat × (Nat → Int32)} {j : Nat} {S : am_S} {i : Int32} (hL : sc.1 ≤ 2048) (hi0 : i.toInt = 4 * j) (hi1 : i.toInt + 4 ≤ sc.1) (hI : LI j S) (h5 : L5 j S) (hj6 : j ≤ 512) (hk : ∀ S1, LI (j + 1) S1 → L5 (j + 1) S1 → am_E (am_PP sc) 1500 278 311 [some (.long 2), some (.ref 0), some (.ref 39), some (.int i)] [] S1 LQ) : am_E (am_PP sc) 1500 278 84 [some (.long 2), some (.ref 0), some (.ref 39), some (.int i)] [] S LQ := by
  obtain ⟨aw, f, g, h, m, hr, h0, w0, w1, en⟩ := hI
  have r53 := hr.2.2.2.1
  obtain ⟨⟨A, K, cs, kk, LL, hC, hK, hJ, hJj⟩, hA⟩ := h5
  refine am_e2 (v := 0) hi_278_84 rfl ?_
  refine am_e2l hi_278_85 rfl ?_
  refine am_e1 (v := i) hi_278_86 rfl ?_
  refine am_e0 hi_278_87 ?_
  obtain ⟨ya1, hya1, tya1⟩ := am_addI (x := i) (y := 1) (m := i.toInt) (n := (1 : Int)) rfl (by decide) (by omega) (by omega)
  refine am_e10 (z := ya1) hi_278_88 hya1 ?_
  have hxa1 := mm_idx (i := ya1) (n := sc.1) (by omega) (by omega)
  refine am_e25s hi_278_89 hxa1.1 rfl hxa1.2 hL rfl ?_
  refine am_e2l hi_278_90 rfl ?_
  refine am_e1 (v := i) hi_278_91 rfl ?_
  refine am_e0 hi_278_92 ?_
  obtain ⟨ya2, hya2, tya2⟩ := am_addI (x := i) (y := 2) (m := i.toInt) (n := (2 : Int)) rfl (by decide) (by omega) (by omega)
  refine am_e10 (z := ya2) hi_278_93 hya2 ?_
  have hxa2 := mm_idx (i := ya2) (n := sc.1) (by omega) (by omega)
  refine am_e25s hi_278_94 hxa2.1 rfl hxa2.2 hL rfl ?_
  refine am_e32n (d := 1499) (as := [.ref 0, .int (sc.2 ya1.toNatClampNeg), .int (sc.2 ya2.toNatClampNeg)]) (la := [some (.ref 0), some (.int (sc.2 ya1.toNatClampNeg)), some (.int (sc.2 ya2.toNatClampNeg))]) (rest := []) hi_278_95 (am_hd0 (M := 278) (by decide) 95) (Nat.le_of_ble_eq_true rfl) (Nat.le_of_ble_eq_true rfl) (show 3 ≤ am_P0.2.2.1 33 from by decide +kernel) rfl (cl_recv (h.1.s (0, 0) (by decide))) rfl rfl (e_two (ck_word (d := 1495) h w0 (by omega)) (fun N => l_and (lc33 (N := N) hC) (al_l hA))) ?_
  rintro v1 S1 ⟨⟨q, aw1, rfl, g1, g2, g3, g4, g5⟩, ⟨-, hC1⟩, hA1⟩
  show am_E _ _ _ _ [some (.long 2), some (.ref 0), some (.ref 39), some (.int i)] [.int q] _ _
  refine am_e6i hi_278_98 ?_
  have m1 := ms_ex m g2
  have hK1 : MK S1 S1 kk := ms_ex hK g2
  refine am_e2 (v := 39) hi_278_99 rfl ?_
  refine am_e2l hi_278_100 rfl ?_
  refine am_e1 (v := i) hi_278_101 rfl ?_
  refine am_e0 hi_278_102 ?_
  obtain ⟨yb1, hyb1, tyb1⟩ := am_addI (x := i) (y := 1) (m := i.toInt) (n := (1 : Int)) rfl (by decide) (by omega) (by omega)
  refine am_e10 (z := yb1) hi_278_103 hyb1 ?_
  have hxb1 := mm_idx (i := yb1) (n := sc.1) (by omega) (by omega)
  refine am_e25s hi_278_104 hxb1.1 rfl hxb1.2 hL rfl ?_
  refine am_e2l hi_278_105 rfl ?_
  refine am_e1 (v := i) hi_278_106 rfl ?_
  refine am_e0 hi_278_107 ?_
  obtain ⟨yb2, hyb2, tyb2⟩ := am_addI (x := i) (y := 2) (m := i.toInt) (n := (2 : Int)) rfl (by decide) (by omega) (by omega)
  refine am_e10 (z := yb2) hi_278_108 hyb2 ?_
  have hxb2 := mm_idx (i := yb2) (n := sc.1) (by omega) (by omega)
  refine am_e25s hi_278_109 hxb2.1 rfl hxb2.2 hL rfl ?_
  refine am_e32n (d := 1499) (as := [.ref 39, .int (sc.2 yb1.toNatClampNeg), .int (sc.2 yb2.toNatClampNeg)]) (la := [some (.ref 39), some (.int (sc.2 yb1.toNatClampNeg)), some (.int (sc.2 yb2.toNatClampNeg)), none]) (rest := []) hi_278_110 (am_hd0 (M := 278) (by decide) 110) (Nat.le_of_ble_eq_true rfl) (Nat.le_of_ble_eq_true rfl) (show 3 ≤ am_P0.2.2.1 174 from by decide +kernel) rfl (am_recv_ok m1.fs) rfl rfl (e_two (ct_word (d := 1499) m1 (by omega) (by omega)) (fun N => l_and (lt174 (N := N) hK1) (al_l hA1))) ?_
  rintro v2 S2 ⟨⟨r, z, g', rfl, m2, hg, e1, e2⟩, ⟨-, hK2⟩, hA2⟩
  show am_E _ _ _ _ [some (.long 2), some (.ref 0), some (.ref 39), some (.int i)] [.int r] _ _
  obtain ⟨e3, e4⟩ := sm_en g1 m1 m2
  have ey : ya1 = yb1 := by rw [← hya1, ← hyb1]
  subst ey
  have ez : ya2 = yb2 := by rw [← hya2, ← hyb2]
  subst ez
  refine am_e6i hi_278_113 ?_
  refine am_e18 hi_278_114 ?_
  refine hk S2 ⟨aw1, _, _, sm_sh g1 m1 m2, ms_self m2, ri_word hr hg, ?_, ?_, ?_, ?_⟩ (l5_word hJ hC1 m2 hJj hK2 hA2)
  · show (upd f 0 z 0).toInt = wr S2; rw [show upd f 0 z 0 = z from rfl, e2, e4, g4, h0]
  · rw [e4, g4]; split <;> omega
  · rw [e4, g4]; split <;> omega
  · rw [e3, e4, g4]; split <;> omega
theorem lw_compile {sc : Nat × (Nat → Int32)} {j : Nat} {S : am_S} {i : Int32} (hL : sc.1 ≤ 2048) (hi0 : i.toInt = 4 * j) (hi1 : i.toInt + 4 ≤ sc.1) (hI : LI j S) (h5 : L5 j S) (hj6 : j ≤ 512) (hk : ∀ S1, LI (j + 1) S1 → L5 (j + 1) S1 → am_E (am_PP sc) 1500 278 311 [some (.long 2), some (.ref 0), some (.ref 39), some (.int i)] [] S1 LQ) : am_E (am_PP sc) 1500 278 117 [some (.long 2), some (.ref 0), some (.ref 39), some (.int i)] [] S LQ := by
  obtain ⟨aw, f, g, h, m, hr, h0, w0, w1, en⟩ := hI
  have r53 := hr.2.2.2.1
  obtain ⟨⟨A, K, cs, kk, LL, hC, hK, hJ, hJj⟩, hA⟩ := h5
  refine am_e2 (v := 0) hi_278_117 rfl ?_
  refine am_e32n (d := 1499) (as := [.ref 0]) (la := [some (.ref 0), none]) (rest := []) hi_278_118 (am_hd0 (M := 278) (by decide) 118) (Nat.le_of_ble_eq_true rfl) (Nat.le_of_ble_eq_true rfl) (show 1 ≤ am_P0.2.2.1 38 from by decide +kernel) rfl (cl_recv (h.1.s (0, 0) (by decide))) rfl rfl (e_two (ck_compile (d := 36) h w0 (by omega)) (fun N => l_and (lc38 (N := N) hC) (al_l hA))) ?_
  rintro v1 S1 ⟨⟨q, rfl, ⟨g1, g2⟩, g3, g4⟩, ⟨mm, s1, ww, hc41, -, hC1⟩, hA1⟩
  show am_E _ _ _ _ [some (.long 2), some (.ref 0), some (.ref 39), some (.int i)] [.int q] _ _
  refine am_e6i hi_278_121 ?_
  have m1 := ms_ex m g2
  have hK1 : MK S1 S1 kk := ms_ex hK g2
  refine am_e2 (v := 39) hi_278_122 rfl ?_
  refine am_e32n (d := 1499) (as := [.ref 39]) (la := [some (.ref 39), none]) (rest := []) hi_278_123 (am_hd0 (M := 278) (by decide) 123) (Nat.le_of_ble_eq_true rfl) (Nat.le_of_ble_eq_true rfl) (show 1 ≤ am_P0.2.2.1 175 from by decide +kernel) rfl (am_recv_ok m1.fs) rfl rfl (e_two (ct_cmp2 (d := 1490) m1 hr (by omega) (by omega)) (fun N => l_and (l_and (lt175 (N := N) hK1) (ly175 hK1)) (al_l hA1))) ?_
  rintro v2 S2 ⟨⟨r, f', g', rfl, m2, hr2, e1, hQ2⟩, ⟨⟨-, hK2⟩, hT⟩, hA2⟩
  show am_E _ _ _ _ [some (.long 2), some (.ref 0), some (.ref 39), some (.int i)] [.int r] _ _
  obtain ⟨e3, e4⟩ := sm_en g1 m1 m2
  refine am_e6i hi_278_126 ?_
  refine am_e18 hi_278_127 ?_
  refine hk S2 ⟨aw, f', g', sm_sh g1 m1 m2, ms_self m2, hr2, by omega, by omega, by omega, by omega⟩ (l5_comp hJ hC hc41 hC1 m2 hK2 hT hJj (by omega) hA1 (by omega) hA2 hr2 hQ2)
theorem lw_place {sc : Nat × (Nat → Int32)} {j : Nat} {S : am_S} {i : Int32} (hL : sc.1 ≤ 2048) (hi0 : i.toInt = 4 * j) (hi1 : i.toInt + 4 ≤ sc.1) (hI : LI j S) (h5 : L5 j S) (hj6 : j ≤ 512) (hk : ∀ S1, LI (j + 1) S1 → L5 (j + 1) S1 → am_E (am_PP sc) 1500 278 311 [some (.long 2), some (.ref 0), some (.ref 39), some (.int i)] [] S1 LQ) : am_E (am_PP sc) 1500 278 130 [some (.long 2), some (.ref 0), some (.ref 39), some (.int i)] [] S LQ := by
  obtain ⟨aw, f, g, h, m, hr, h0, w0, w1, en⟩ := hI
  have r53 := hr.2.2.2.1
  obtain ⟨⟨A, K, cs, kk, LL, hC, hK, hJ, hJj⟩, hA⟩ := h5
  refine am_e2 (v := 0) hi_278_130 rfl ?_
  refine am_e32n (d := 1499) (as := [.ref 0]) (la := [some (.ref 0)]) (rest := []) hi_278_131 (am_hd0 (M := 278) (by decide) 131) (Nat.le_of_ble_eq_true rfl) (Nat.le_of_ble_eq_true rfl) (show 1 ≤ am_P0.2.2.1 156 from by decide +kernel) rfl (cl_recv (h.1.s (0, 0) (by decide))) rfl rfl (ck_place (d := 1499) h) ?_
  rintro v1 S1 ⟨q, rfl, rfl⟩
  show am_E _ _ _ _ [some (.long 2), some (.ref 0), some (.ref 39), some (.int i)] [.int q] _ _
  refine am_e6i hi_278_134 ?_
  have m1 := m
  refine am_e2 (v := 39) hi_278_135 rfl ?_
  refine am_e32n (d := 1499) (as := [.ref 39]) (la := [some (.ref 39)]) (rest := []) hi_278_136 (am_hd0 (M := 278) (by decide) 136) (Nat.le_of_ble_eq_true rfl) (Nat.le_of_ble_eq_true rfl) (show 1 ≤ am_P0.2.2.1 267 from by decide +kernel) rfl (am_recv_ok m1.fs) rfl rfl (e_two (ct_place (d := 1499) m1 hr r53.1 r53.2) (fun N => al_l hA)) ?_
  rintro v2 S2 ⟨⟨r, rfl, m2⟩, hA2⟩
  show am_E _ _ _ _ [some (.long 2), some (.ref 0), some (.ref 39), some (.int i)] [.int r] _ _
  obtain ⟨e3, e4⟩ := sm_en h m1 m2
  refine am_e6i hi_278_139 ?_
  refine am_e18 hi_278_140 ?_
  refine hk S2 ⟨aw, f, g, sm_sh h m1 m2, ms_self m2, hr, by omega, by omega, by omega, by omega⟩ (l5_same hJ hC m hK m2 hJj hA2)
theorem lw_functions {sc : Nat × (Nat → Int32)} {j : Nat} {S : am_S} {i : Int32} (hL : sc.1 ≤ 2048) (hi0 : i.toInt = 4 * j) (hi1 : i.toInt + 4 ≤ sc.1) (hI : LI j S) (h5 : L5 j S) (hj6 : j ≤ 512) (hk : ∀ S1, LI (j + 1) S1 → L5 (j + 1) S1 → am_E (am_PP sc) 1500 278 311 [some (.long 2), some (.ref 0), some (.ref 39), some (.int i)] [] S1 LQ) : am_E (am_PP sc) 1500 278 143 [some (.long 2), some (.ref 0), some (.ref 39), some (.int i)] [] S LQ := by
  obtain ⟨aw, f, g, h, m, hr, h0, w0, w1, en⟩ := hI
  have r53 := hr.2.2.2.1
  obtain ⟨⟨A, K, cs, kk, LL, hC, hK, hJ, hJj⟩, hA⟩ := h5
  refine am_e2 (v := 0) hi_278_143 rfl ?_
  refine am_e32n (d := 1499) (as := [.ref 0]) (la := [some (.ref 0)]) (rest := []) hi_278_144 (am_hd0 (M := 278) (by decide) 144) (Nat.le_of_ble_eq_true rfl) (Nat.le_of_ble_eq_true rfl) (show 1 ≤ am_P0.2.2.1 157 from by decide +kernel) rfl (cl_recv (h.1.s (0, 0) (by decide))) rfl rfl (ck_functions (d := 1498) h) ?_
  rintro v1 S1 ⟨q, rfl, rfl⟩
  show am_E _ _ _ _ [some (.long 2), some (.ref 0), some (.ref 39), some (.int i)] [.int q] _ _
  refine am_e6i hi_278_147 ?_
  have m1 := m
  refine am_e2 (v := 39) hi_278_148 rfl ?_
  refine am_e32n (d := 1499) (as := [.ref 39]) (la := [some (.ref 39)]) (rest := []) hi_278_149 (am_hd0 (M := 278) (by decide) 149) (Nat.le_of_ble_eq_true rfl) (Nat.le_of_ble_eq_true rfl) (show 1 ≤ am_P0.2.2.1 268 from by decide +kernel) rfl (am_recv_ok m1.fs) rfl rfl (e_two (ct_functions (d := 1499) m1 hr r53.1 r53.2) (fun N => al_l hA)) ?_
  rintro v2 S2 ⟨⟨r, rfl, m2⟩, hA2⟩
  show am_E _ _ _ _ [some (.long 2), some (.ref 0), some (.ref 39), some (.int i)] [.int r] _ _
  obtain ⟨e3, e4⟩ := sm_en h m1 m2
  refine am_e6i hi_278_152 ?_
  refine am_e18 hi_278_153 ?_
  refine hk S2 ⟨aw, f, g, sm_sh h m1 m2, ms_self m2, hr, by omega, by omega, by omega, by omega⟩ (l5_same hJ hC m hK m2 hJj hA2)
theorem lw_function {sc : Nat × (Nat → Int32)} {j : Nat} {S : am_S} {i : Int32} (hL : sc.1 ≤ 2048) (hi0 : i.toInt = 4 * j) (hi1 : i.toInt + 4 ≤ sc.1) (hI : LI j S) (h5 : L5 j S) (hj6 : j ≤ 512) (hk : ∀ S1, LI (j + 1) S1 → L5 (j + 1) S1 → am_E (am_PP sc) 1500 278 311 [some (.long 2), some (.ref 0), some (.ref 39), some (.int i)] [] S1 LQ) : am_E (am_PP sc) 1500 278 156 [some (.long 2), some (.ref 0), some (.ref 39), some (.int i)] [] S LQ := by
  obtain ⟨aw, f, g, h, m, hr, h0, w0, w1, en⟩ := hI
  have r53 := hr.2.2.2.1
  obtain ⟨⟨A, K, cs, kk, LL, hC, hK, hJ, hJj⟩, hA⟩ := h5
  refine am_e2 (v := 0) hi_278_156 rfl ?_
  refine am_e2l hi_278_157 rfl ?_
  refine am_e1 (v := i) hi_278_158 rfl ?_
  refine am_e0 hi_278_159 ?_
  obtain ⟨ya1, hya1, tya1⟩ := am_addI (x := i) (y := 1) (m := i.toInt) (n := (1 : Int)) rfl (by decide) (by omega) (by omega)
  refine am_e10 (z := ya1) hi_278_160 hya1 ?_
  have hxa1 := mm_idx (i := ya1) (n := sc.1) (by omega) (by omega)
  refine am_e25s hi_278_161 hxa1.1 rfl hxa1.2 hL rfl ?_
  refine am_e2l hi_278_162 rfl ?_
  refine am_e1 (v := i) hi_278_163 rfl ?_
  refine am_e0 hi_278_164 ?_
  obtain ⟨ya2, hya2, tya2⟩ := am_addI (x := i) (y := 2) (m := i.toInt) (n := (2 : Int)) rfl (by decide) (by omega) (by omega)
  refine am_e10 (z := ya2) hi_278_165 hya2 ?_
  have hxa2 := mm_idx (i := ya2) (n := sc.1) (by omega) (by omega)
  refine am_e25s hi_278_166 hxa2.1 rfl hxa2.2 hL rfl ?_
  refine am_e32n (d := 1499) (as := [.ref 0, .int (sc.2 ya1.toNatClampNeg), .int (sc.2 ya2.toNatClampNeg)]) (la := [some (.ref 0), some (.int (sc.2 ya1.toNatClampNeg)), some (.int (sc.2 ya2.toNatClampNeg)), none]) (rest := []) hi_278_167 (am_hd0 (M := 278) (by decide) 167) (Nat.le_of_ble_eq_true rfl) (Nat.le_of_ble_eq_true rfl) (show 3 ≤ am_P0.2.2.1 158 from by decide +kernel) rfl (cl_recv (h.1.s (0, 0) (by decide))) rfl rfl (ck_function (d := 1495) h) ?_
  rintro v1 S1 ⟨q, rfl, rfl⟩
  show am_E _ _ _ _ [some (.long 2), some (.ref 0), some (.ref 39), some (.int i)] [.int q] _ _
  refine am_e6i hi_278_170 ?_
  have m1 := m
  refine am_e2 (v := 39) hi_278_171 rfl ?_
  refine am_e2l hi_278_172 rfl ?_
  refine am_e1 (v := i) hi_278_173 rfl ?_
  refine am_e0 hi_278_174 ?_
  obtain ⟨yb1, hyb1, tyb1⟩ := am_addI (x := i) (y := 1) (m := i.toInt) (n := (1 : Int)) rfl (by decide) (by omega) (by omega)
  refine am_e10 (z := yb1) hi_278_175 hyb1 ?_
  have hxb1 := mm_idx (i := yb1) (n := sc.1) (by omega) (by omega)
  refine am_e25s hi_278_176 hxb1.1 rfl hxb1.2 hL rfl ?_
  refine am_e2l hi_278_177 rfl ?_
  refine am_e1 (v := i) hi_278_178 rfl ?_
  refine am_e0 hi_278_179 ?_
  obtain ⟨yb2, hyb2, tyb2⟩ := am_addI (x := i) (y := 2) (m := i.toInt) (n := (2 : Int)) rfl (by decide) (by omega) (by omega)
  refine am_e10 (z := yb2) hi_278_180 hyb2 ?_
  have hxb2 := mm_idx (i := yb2) (n := sc.1) (by omega) (by omega)
  refine am_e25s hi_278_181 hxb2.1 rfl hxb2.2 hL rfl ?_
  refine am_e32n (d := 1499) (as := [.ref 39, .int (sc.2 yb1.toNatClampNeg), .int (sc.2 yb2.toNatClampNeg)]) (la := [some (.ref 39), some (.int (sc.2 yb1.toNatClampNeg)), some (.int (sc.2 yb2.toNatClampNeg))]) (rest := []) hi_278_182 (am_hd0 (M := 278) (by decide) 182) (Nat.le_of_ble_eq_true rfl) (Nat.le_of_ble_eq_true rfl) (show 3 ≤ am_P0.2.2.1 269 from by decide +kernel) rfl (am_recv_ok m1.fs) rfl rfl (e_two (ct_function (d := 1498) m1 hr r53.1 r53.2) (fun N => al_l hA)) ?_
  rintro v2 S2 ⟨⟨r, rfl, m2⟩, hA2⟩
  show am_E _ _ _ _ [some (.long 2), some (.ref 0), some (.ref 39), some (.int i)] [.int r] _ _
  obtain ⟨e3, e4⟩ := sm_en h m1 m2
  refine am_e6i hi_278_185 ?_
  refine am_e18 hi_278_186 ?_
  refine hk S2 ⟨aw, f, g, sm_sh h m1 m2, ms_self m2, hr, by omega, by omega, by omega, by omega⟩ (l5_same hJ hC m hK m2 hJj hA2)
theorem lw_outer {sc : Nat × (Nat → Int32)} {j : Nat} {S : am_S} {i : Int32} (hL : sc.1 ≤ 2048) (hi0 : i.toInt = 4 * j) (hi1 : i.toInt + 4 ≤ sc.1) (hI : LI j S) (h5 : L5 j S) (hj6 : j ≤ 512) (hk : ∀ S1, LI (j + 1) S1 → L5 (j + 1) S1 → am_E (am_PP sc) 1500 278 311 [some (.long 2), some (.ref 0), some (.ref 39), some (.int i)] [] S1 LQ) : am_E (am_PP sc) 1500 278 189 [some (.long 2), some (.ref 0), some (.ref 39), some (.int i)] [] S LQ := by
  obtain ⟨aw, f, g, h, m, hr, h0, w0, w1, en⟩ := hI
  have r53 := hr.2.2.2.1
  obtain ⟨⟨A, K, cs, kk, LL, hC, hK, hJ, hJj⟩, hA⟩ := h5
  refine am_e2 (v := 0) hi_278_189 rfl ?_
  refine am_e2l hi_278_190 rfl ?_
  refine am_e1 (v := i) hi_278_191 rfl ?_
  refine am_e0 hi_278_192 ?_
  obtain ⟨ya1, hya1, tya1⟩ := am_addI (x := i) (y := 1) (m := i.toInt) (n := (1 : Int)) rfl (by decide) (by omega) (by omega)
  refine am_e10 (z := ya1) hi_278_193 hya1 ?_
  have hxa1 := mm_idx (i := ya1) (n := sc.1) (by omega) (by omega)
  refine am_e25s hi_278_194 hxa1.1 rfl hxa1.2 hL rfl ?_
  refine am_e2l hi_278_195 rfl ?_
  refine am_e1 (v := i) hi_278_196 rfl ?_
  refine am_e0 hi_278_197 ?_
  obtain ⟨ya2, hya2, tya2⟩ := am_addI (x := i) (y := 2) (m := i.toInt) (n := (2 : Int)) rfl (by decide) (by omega) (by omega)
  refine am_e10 (z := ya2) hi_278_198 hya2 ?_
  have hxa2 := mm_idx (i := ya2) (n := sc.1) (by omega) (by omega)
  refine am_e25s hi_278_199 hxa2.1 rfl hxa2.2 hL rfl ?_
  refine am_e2l hi_278_200 rfl ?_
  refine am_e1 (v := i) hi_278_201 rfl ?_
  refine am_e0 hi_278_202 ?_
  obtain ⟨ya3, hya3, tya3⟩ := am_addI (x := i) (y := 3) (m := i.toInt) (n := (3 : Int)) rfl (by decide) (by omega) (by omega)
  refine am_e10 (z := ya3) hi_278_203 hya3 ?_
  have hxa3 := mm_idx (i := ya3) (n := sc.1) (by omega) (by omega)
  refine am_e25s hi_278_204 hxa3.1 rfl hxa3.2 hL rfl ?_
  refine am_e32n (d := 1499) (as := [.ref 0, .int (sc.2 ya1.toNatClampNeg), .int (sc.2 ya2.toNatClampNeg), .int (sc.2 ya3.toNatClampNeg)]) (la := [some (.ref 0), some (.int (sc.2 ya1.toNatClampNeg)), some (.int (sc.2 ya2.toNatClampNeg)), some (.int (sc.2 ya3.toNatClampNeg)), none]) (rest := []) hi_278_205 (am_hd0 (M := 278) (by decide) 205) (Nat.le_of_ble_eq_true rfl) (Nat.le_of_ble_eq_true rfl) (show 4 ≤ am_P0.2.2.1 160 from by decide +kernel) rfl (cl_recv (h.1.s (0, 0) (by decide))) rfl rfl (ck_outer (d := 1495) h) ?_
  rintro v1 S1 ⟨q, rfl, rfl⟩
  show am_E _ _ _ _ [some (.long 2), some (.ref 0), some (.ref 39), some (.int i)] [.int q] _ _
  refine am_e6i hi_278_208 ?_
  have m1 := m
  refine am_e2 (v := 39) hi_278_209 rfl ?_
  refine am_e2l hi_278_210 rfl ?_
  refine am_e1 (v := i) hi_278_211 rfl ?_
  refine am_e0 hi_278_212 ?_
  obtain ⟨yb1, hyb1, tyb1⟩ := am_addI (x := i) (y := 1) (m := i.toInt) (n := (1 : Int)) rfl (by decide) (by omega) (by omega)
  refine am_e10 (z := yb1) hi_278_213 hyb1 ?_
  have hxb1 := mm_idx (i := yb1) (n := sc.1) (by omega) (by omega)
  refine am_e25s hi_278_214 hxb1.1 rfl hxb1.2 hL rfl ?_
  refine am_e2l hi_278_215 rfl ?_
  refine am_e1 (v := i) hi_278_216 rfl ?_
  refine am_e0 hi_278_217 ?_
  obtain ⟨yb2, hyb2, tyb2⟩ := am_addI (x := i) (y := 2) (m := i.toInt) (n := (2 : Int)) rfl (by decide) (by omega) (by omega)
  refine am_e10 (z := yb2) hi_278_218 hyb2 ?_
  have hxb2 := mm_idx (i := yb2) (n := sc.1) (by omega) (by omega)
  refine am_e25s hi_278_219 hxb2.1 rfl hxb2.2 hL rfl ?_
  refine am_e2l hi_278_220 rfl ?_
  refine am_e1 (v := i) hi_278_221 rfl ?_
  refine am_e0 hi_278_222 ?_
  obtain ⟨yb3, hyb3, tyb3⟩ := am_addI (x := i) (y := 3) (m := i.toInt) (n := (3 : Int)) rfl (by decide) (by omega) (by omega)
  refine am_e10 (z := yb3) hi_278_223 hyb3 ?_
  have hxb3 := mm_idx (i := yb3) (n := sc.1) (by omega) (by omega)
  refine am_e25s hi_278_224 hxb3.1 rfl hxb3.2 hL rfl ?_
  refine am_e32n (d := 1499) (as := [.ref 39, .int (sc.2 yb1.toNatClampNeg), .int (sc.2 yb2.toNatClampNeg), .int (sc.2 yb3.toNatClampNeg)]) (la := [some (.ref 39), some (.int (sc.2 yb1.toNatClampNeg)), some (.int (sc.2 yb2.toNatClampNeg)), some (.int (sc.2 yb3.toNatClampNeg)), none, none]) (rest := []) hi_278_225 (am_hd0 (M := 278) (by decide) 225) (Nat.le_of_ble_eq_true rfl) (Nat.le_of_ble_eq_true rfl) (show 4 ≤ am_P0.2.2.1 271 from by decide +kernel) rfl (am_recv_ok m1.fs) rfl rfl (e_two (ct_outer (d := 1498) m1 hr r53.1 r53.2) (fun N => al_l hA)) ?_
  rintro v2 S2 ⟨⟨r, rfl, m2⟩, hA2⟩
  show am_E _ _ _ _ [some (.long 2), some (.ref 0), some (.ref 39), some (.int i)] [.int r] _ _
  obtain ⟨e3, e4⟩ := sm_en h m1 m2
  refine am_e6i hi_278_228 ?_
  refine am_e18 hi_278_229 ?_
  refine hk S2 ⟨aw, f, g, sm_sh h m1 m2, ms_self m2, hr, by omega, by omega, by omega, by omega⟩ (l5_same hJ hC m hK m2 hJj hA2)
theorem lw_code {sc : Nat × (Nat → Int32)} {j : Nat} {S : am_S} {i : Int32} (hL : sc.1 ≤ 2048) (hi0 : i.toInt = 4 * j) (hi1 : i.toInt + 4 ≤ sc.1) (hI : LI j S) (h5 : L5 j S) (hj6 : j ≤ 512) (hk : ∀ S1, LI (j + 1) S1 → L5 (j + 1) S1 → am_E (am_PP sc) 1500 278 311 [some (.long 2), some (.ref 0), some (.ref 39), some (.int i)] [] S1 LQ) : am_E (am_PP sc) 1500 278 232 [some (.long 2), some (.ref 0), some (.ref 39), some (.int i)] [] S LQ := by
  obtain ⟨aw, f, g, h, m, hr, h0, w0, w1, en⟩ := hI
  have r53 := hr.2.2.2.1
  obtain ⟨⟨A, K, cs, kk, LL, hC, hK, hJ, hJj⟩, hA⟩ := h5
  refine am_e2 (v := 0) hi_278_232 rfl ?_
  refine am_e2l hi_278_233 rfl ?_
  refine am_e1 (v := i) hi_278_234 rfl ?_
  refine am_e0 hi_278_235 ?_
  obtain ⟨ya1, hya1, tya1⟩ := am_addI (x := i) (y := 1) (m := i.toInt) (n := (1 : Int)) rfl (by decide) (by omega) (by omega)
  refine am_e10 (z := ya1) hi_278_236 hya1 ?_
  have hxa1 := mm_idx (i := ya1) (n := sc.1) (by omega) (by omega)
  refine am_e25s hi_278_237 hxa1.1 rfl hxa1.2 hL rfl ?_
  refine am_e2l hi_278_238 rfl ?_
  refine am_e1 (v := i) hi_278_239 rfl ?_
  refine am_e0 hi_278_240 ?_
  obtain ⟨ya2, hya2, tya2⟩ := am_addI (x := i) (y := 2) (m := i.toInt) (n := (2 : Int)) rfl (by decide) (by omega) (by omega)
  refine am_e10 (z := ya2) hi_278_241 hya2 ?_
  have hxa2 := mm_idx (i := ya2) (n := sc.1) (by omega) (by omega)
  refine am_e25s hi_278_242 hxa2.1 rfl hxa2.2 hL rfl ?_
  refine am_e2l hi_278_243 rfl ?_
  refine am_e1 (v := i) hi_278_244 rfl ?_
  refine am_e0 hi_278_245 ?_
  obtain ⟨ya3, hya3, tya3⟩ := am_addI (x := i) (y := 3) (m := i.toInt) (n := (3 : Int)) rfl (by decide) (by omega) (by omega)
  refine am_e10 (z := ya3) hi_278_246 hya3 ?_
  have hxa3 := mm_idx (i := ya3) (n := sc.1) (by omega) (by omega)
  refine am_e25s hi_278_247 hxa3.1 rfl hxa3.2 hL rfl ?_
  refine am_e32n (d := 1499) (as := [.ref 0, .int (sc.2 ya1.toNatClampNeg), .int (sc.2 ya2.toNatClampNeg), .int (sc.2 ya3.toNatClampNeg)]) (la := [some (.ref 0), some (.int (sc.2 ya1.toNatClampNeg)), some (.int (sc.2 ya2.toNatClampNeg)), some (.int (sc.2 ya3.toNatClampNeg)), none]) (rest := []) hi_278_248 (am_hd0 (M := 278) (by decide) 248) (Nat.le_of_ble_eq_true rfl) (Nat.le_of_ble_eq_true rfl) (show 4 ≤ am_P0.2.2.1 162 from by decide +kernel) rfl (cl_recv (h.1.s (0, 0) (by decide))) rfl rfl (ck_code (d := 1495) h) ?_
  rintro v1 S1 ⟨q, rfl, rfl⟩
  show am_E _ _ _ _ [some (.long 2), some (.ref 0), some (.ref 39), some (.int i)] [.int q] _ _
  refine am_e6i hi_278_251 ?_
  have m1 := m
  refine am_e2 (v := 39) hi_278_252 rfl ?_
  refine am_e2l hi_278_253 rfl ?_
  refine am_e1 (v := i) hi_278_254 rfl ?_
  refine am_e0 hi_278_255 ?_
  obtain ⟨yb1, hyb1, tyb1⟩ := am_addI (x := i) (y := 1) (m := i.toInt) (n := (1 : Int)) rfl (by decide) (by omega) (by omega)
  refine am_e10 (z := yb1) hi_278_256 hyb1 ?_
  have hxb1 := mm_idx (i := yb1) (n := sc.1) (by omega) (by omega)
  refine am_e25s hi_278_257 hxb1.1 rfl hxb1.2 hL rfl ?_
  refine am_e2l hi_278_258 rfl ?_
  refine am_e1 (v := i) hi_278_259 rfl ?_
  refine am_e0 hi_278_260 ?_
  obtain ⟨yb2, hyb2, tyb2⟩ := am_addI (x := i) (y := 2) (m := i.toInt) (n := (2 : Int)) rfl (by decide) (by omega) (by omega)
  refine am_e10 (z := yb2) hi_278_261 hyb2 ?_
  have hxb2 := mm_idx (i := yb2) (n := sc.1) (by omega) (by omega)
  refine am_e25s hi_278_262 hxb2.1 rfl hxb2.2 hL rfl ?_
  refine am_e2l hi_278_263 rfl ?_
  refine am_e1 (v := i) hi_278_264 rfl ?_
  refine am_e0 hi_278_265 ?_
  obtain ⟨yb3, hyb3, tyb3⟩ := am_addI (x := i) (y := 3) (m := i.toInt) (n := (3 : Int)) rfl (by decide) (by omega) (by omega)
  refine am_e10 (z := yb3) hi_278_266 hyb3 ?_
  have hxb3 := mm_idx (i := yb3) (n := sc.1) (by omega) (by omega)
  refine am_e25s hi_278_267 hxb3.1 rfl hxb3.2 hL rfl ?_
  refine am_e32n (d := 1499) (as := [.ref 39, .int (sc.2 yb1.toNatClampNeg), .int (sc.2 yb2.toNatClampNeg), .int (sc.2 yb3.toNatClampNeg)]) (la := [some (.ref 39), some (.int (sc.2 yb1.toNatClampNeg)), some (.int (sc.2 yb2.toNatClampNeg)), some (.int (sc.2 yb3.toNatClampNeg)), none]) (rest := []) hi_278_268 (am_hd0 (M := 278) (by decide) 268) (Nat.le_of_ble_eq_true rfl) (Nat.le_of_ble_eq_true rfl) (show 4 ≤ am_P0.2.2.1 272 from by decide +kernel) rfl (am_recv_ok m1.fs) rfl rfl (e_two (ct_code (d := 1498) m1 hr r53.1 r53.2) (fun N => al_l hA)) ?_
  rintro v2 S2 ⟨⟨r, rfl, m2⟩, hA2⟩
  show am_E _ _ _ _ [some (.long 2), some (.ref 0), some (.ref 39), some (.int i)] [.int r] _ _
  obtain ⟨e3, e4⟩ := sm_en h m1 m2
  refine am_e6i hi_278_271 ?_
  refine am_e18 hi_278_272 ?_
  refine hk S2 ⟨aw, f, g, sm_sh h m1 m2, ms_self m2, hr, by omega, by omega, by omega, by omega⟩ (l5_same hJ hC m hK m2 hJj hA2)
theorem lw_depth {sc : Nat × (Nat → Int32)} {j : Nat} {S : am_S} {i : Int32} (hL : sc.1 ≤ 2048) (hi0 : i.toInt = 4 * j) (hi1 : i.toInt + 4 ≤ sc.1) (hI : LI j S) (h5 : L5 j S) (hj6 : j ≤ 512) (hk : ∀ S1, LI (j + 1) S1 → L5 (j + 1) S1 → am_E (am_PP sc) 1500 278 311 [some (.long 2), some (.ref 0), some (.ref 39), some (.int i)] [] S1 LQ) : am_E (am_PP sc) 1500 278 275 [some (.long 2), some (.ref 0), some (.ref 39), some (.int i)] [] S LQ := by
  obtain ⟨aw, f, g, h, m, hr, h0, w0, w1, en⟩ := hI
  have r53 := hr.2.2.2.1
  obtain ⟨⟨A, K, cs, kk, LL, hC, hK, hJ, hJj⟩, hA⟩ := h5
  refine am_e2 (v := 0) hi_278_275 rfl ?_
  refine am_e2l hi_278_276 rfl ?_
  refine am_e1 (v := i) hi_278_277 rfl ?_
  refine am_e0 hi_278_278 ?_
  obtain ⟨ya1, hya1, tya1⟩ := am_addI (x := i) (y := 1) (m := i.toInt) (n := (1 : Int)) rfl (by decide) (by omega) (by omega)
  refine am_e10 (z := ya1) hi_278_279 hya1 ?_
  have hxa1 := mm_idx (i := ya1) (n := sc.1) (by omega) (by omega)
  refine am_e25s hi_278_280 hxa1.1 rfl hxa1.2 hL rfl ?_
  refine am_e32n (d := 1499) (as := [.ref 0, .int (sc.2 ya1.toNatClampNeg)]) (la := [some (.ref 0), some (.int (sc.2 ya1.toNatClampNeg)), none]) (rest := []) hi_278_281 (am_hd0 (M := 278) (by decide) 281) (Nat.le_of_ble_eq_true rfl) (Nat.le_of_ble_eq_true rfl) (show 2 ≤ am_P0.2.2.1 163 from by decide +kernel) rfl (cl_recv (h.1.s (0, 0) (by decide))) rfl rfl (ck_depth (d := 1495) h) ?_
  rintro v1 S1 ⟨q, rfl, rfl⟩
  show am_E _ _ _ _ [some (.long 2), some (.ref 0), some (.ref 39), some (.int i)] [.int q] _ _
  refine am_e6i hi_278_284 ?_
  have m1 := m
  refine am_e2 (v := 39) hi_278_285 rfl ?_
  refine am_e2l hi_278_286 rfl ?_
  refine am_e1 (v := i) hi_278_287 rfl ?_
  refine am_e0 hi_278_288 ?_
  obtain ⟨yb1, hyb1, tyb1⟩ := am_addI (x := i) (y := 1) (m := i.toInt) (n := (1 : Int)) rfl (by decide) (by omega) (by omega)
  refine am_e10 (z := yb1) hi_278_289 hyb1 ?_
  have hxb1 := mm_idx (i := yb1) (n := sc.1) (by omega) (by omega)
  refine am_e25s hi_278_290 hxb1.1 rfl hxb1.2 hL rfl ?_
  refine am_e32n (d := 1499) (as := [.ref 39, .int (sc.2 yb1.toNatClampNeg)]) (la := [some (.ref 39), some (.int (sc.2 yb1.toNatClampNeg)), none, none, none, none]) (rest := []) hi_278_291 (am_hd0 (M := 278) (by decide) 291) (Nat.le_of_ble_eq_true rfl) (Nat.le_of_ble_eq_true rfl) (show 2 ≤ am_P0.2.2.1 273 from by decide +kernel) rfl (am_recv_ok m1.fs) rfl rfl (e_two (ct_depth (d := 1498) m1 hr r53.1 r53.2) (fun N => al_l hA)) ?_
  rintro v2 S2 ⟨⟨r, rfl, m2⟩, hA2⟩
  show am_E _ _ _ _ [some (.long 2), some (.ref 0), some (.ref 39), some (.int i)] [.int r] _ _
  obtain ⟨e3, e4⟩ := sm_en h m1 m2
  refine am_e6i hi_278_294 ?_
  refine am_e18 hi_278_295 ?_
  refine hk S2 ⟨aw, f, g, sm_sh h m1 m2, ms_self m2, hr, by omega, by omega, by omega, by omega⟩ (l5_same hJ hC m hK m2 hJj hA2)
theorem lw_flaws {sc : Nat × (Nat → Int32)} {j : Nat} {S : am_S} {i : Int32} (hL : sc.1 ≤ 2048) (hi0 : i.toInt = 4 * j) (hi1 : i.toInt + 4 ≤ sc.1) (hI : LI j S) (h5 : L5 j S) (hj6 : j ≤ 512) (hk : ∀ S1, LI (j + 1) S1 → L5 (j + 1) S1 → am_E (am_PP sc) 1500 278 311 [some (.long 2), some (.ref 0), some (.ref 39), some (.int i)] [] S1 LQ) : am_E (am_PP sc) 1500 278 298 [some (.long 2), some (.ref 0), some (.ref 39), some (.int i)] [] S LQ := by
  obtain ⟨aw, f, g, h, m, hr, h0, w0, w1, en⟩ := hI
  have r53 := hr.2.2.2.1
  obtain ⟨⟨A, K, cs, kk, LL, hC, hK, hJ, hJj⟩, hA⟩ := h5
  refine am_e2 (v := 0) hi_278_298 rfl ?_
  refine am_e32n (d := 1499) (as := [.ref 0]) (la := [some (.ref 0)]) (rest := []) hi_278_299 (am_hd0 (M := 278) (by decide) 299) (Nat.le_of_ble_eq_true rfl) (Nat.le_of_ble_eq_true rfl) (show 1 ≤ am_P0.2.2.1 166 from by decide +kernel) rfl (cl_recv (h.1.s (0, 0) (by decide))) rfl rfl (e_two (ck_flaws (d := 1491) h) (fun N => lc166 (N := N) hC)) ?_
  rintro v1 S1 ⟨⟨q, rfl, rfl⟩, hq, -⟩
  show am_E _ _ _ _ [some (.long 2), some (.ref 0), some (.ref 39), some (.int i)] [.int q] _ _
  have m1 := m
  refine am_e2 (v := 39) hi_278_302 rfl ?_
  refine am_e32n (d := 1499) (as := [.ref 39]) (la := [some (.ref 39), none, none, none, none, none, none, none]) (rest := [.int q]) hi_278_303 (am_hd0 (M := 278) (by decide) 303) (Nat.le_of_ble_eq_true rfl) (Nat.le_of_ble_eq_true rfl) (show 1 ≤ am_P0.2.2.1 275 from by decide +kernel) rfl (am_recv_ok m1.fs) rfl rfl (e_two (ct_flaws (d := 1497) m1 hr r53.1 r53.2) (fun N => l_and (lt275 (N := N) hK) (al_l hA))) ?_
  rintro v2 S2 ⟨⟨r, rfl, m2⟩, ⟨hr5, -⟩, hA2⟩
  show am_E _ _ _ _ [some (.long 2), some (.ref 0), some (.ref 39), some (.int i)] [.int r, .int q] _ _
  obtain ⟨e3, e4⟩ := sm_en h m1 m2
  have eqr : q = r := by
    have q1 := Option.some.inj (Option.some.inj hq)
    have q2 := Option.some.inj (Option.some.inj hr5)
    injection q1 with q3
    injection q2 with q4
    rw [q3, q4]
    exact flaws_ok hJ.2.2.2.1.1 hJ.2.2.1 hJ.2.2.2.2.2.1 hJ.2.2.2.2.1.1 hJ.2.2.2.2.2.2.2 hJ.2.2.2.2.2.2.1
  refine am_e13t hi_278_306 (am_cT (m := q.toInt) (n := r.toInt) rfl rfl (by simp only [am_cI]; rw [eqr])) ?_
  refine hk S2 ⟨aw, f, g, sm_sh h m1 m2, ms_self m2, hr, by omega, by omega, by omega, by omega⟩ (l5_same hJ hC m hK m2 hJj hA2)
theorem lw_loop {sc : Nat × (Nat → Int32)} (hL : sc.1 ≤ 2048) : ∀ (N j : Nat) (S : am_S) (i : Int32), i.toInt = 4 * j → LI j S → L5 j S → j ≤ 512 → 513 - j < N → am_E (am_PP sc) 1500 278 18 [some (.long 2), some (.ref 0), some (.ref 39), some (.int i)] [] S LQ := by
  intro N
  induction N with
  | zero => intro j S i _ _ _ _ hN; omega
  | succ N ih =>
    intro j S i hi hI h5 hj hN
    refine am_e1 (v := i) hi_278_18 rfl ?_
    refine am_e2l hi_278_19 rfl ?_
    obtain ⟨z, hz, tz⟩ := of_nat (n := sc.1) (by omega)
    refine am_e24s hi_278_20 hL hz ?_
    refine am_e0 hi_278_21 ?_
    obtain ⟨w, hw, tw⟩ := am_subI (x := z) (y := 4) (m := z.toInt) (n := (4 : Int)) rfl (by decide) (by omega) (by omega)
    refine am_e10 (z := w) hi_278_22 hw ?_
    by_cases c1 : w.toInt < i.toInt
    · refine am_e13t hi_278_23 (am_cT (m := i.toInt) (n := w.toInt) rfl rfl c1) ?_
      refine am_e0 hi_278_317 ?_
      refine am_e36 hi_278_318 (by decide) ⟨rfl, ?_⟩
      obtain ⟨aw, f, g, h, m, hr, h0, w0, w1, en⟩ := hI
      have := en_lo h
      omega
    · refine am_e13f hi_278_23 (am_cF (m := i.toInt) (n := w.toInt) rfl rfl c1) ?_
      have hi1 : i.toInt + 4 ≤ sc.1 := by omega
      have hk : ∀ S1, LI (j + 1) S1 → L5 (j + 1) S1 → am_E (am_PP sc) 1500 278 311 [some (.long 2), some (.ref 0), some (.ref 39), some (.int i)] [] S1 LQ := by
        intro S1 h1 h51
        obtain ⟨y, hy, ty⟩ := am_addI (x := i) (y := 4) (m := i.toInt) (n := (4 : Int)) rfl (by decide) (by omega) (by omega)
        refine am_e5 (v := i) (z := y) (ls' := [some (.long 2), some (.ref 0), some (.ref 39), some (.int y)]) hi_278_311 rfl hy rfl ?_
        refine am_e18 hi_278_314 ?_
        exact ih (j + 1) S1 y (by omega) h1 h51 (by omega) (by omega)
      refine am_e2l hi_278_26 rfl ?_
      refine am_e1 (v := i) hi_278_27 rfl ?_
      have hx := mm_idx (i := i) (n := sc.1) (by omega) (by omega)
      refine am_e25s hi_278_28 hx.1 rfl hx.2 hL rfl ?_
      refine am_e0 hi_278_29 ?_
      obtain ⟨q, hq⟩ : ∃ q__, am_bin 3 (sc.2 i.toNatClampNeg) 15 = q__ := ⟨_, rfl⟩
      refine am_e10 (z := q) hi_278_31 hq ?_
      by_cases c10 : q.toInt = 0
      · refine am_e19 (t := 84) hi_278_32 (am_swI (v := q) (w := 0) (by decide) (by decide) c10) ?_
        exact lw_word hL hi hi1 hI h5 hj hk
      by_cases c11 : q.toInt = 1
      · refine am_e19 (t := 117) hi_278_32 (am_swI (v := q) (w := 1) (by decide) (by decide) c11) ?_
        exact lw_compile hL hi hi1 hI h5 hj hk
      by_cases c12 : q.toInt = 2
      · refine am_e19 (t := 130) hi_278_32 (am_swI (v := q) (w := 2) (by decide) (by decide) c12) ?_
        exact lw_place hL hi hi1 hI h5 hj hk
      by_cases c13 : q.toInt = 3
      · refine am_e19 (t := 143) hi_278_32 (am_swI (v := q) (w := 3) (by decide) (by decide) c13) ?_
        exact lw_functions hL hi hi1 hI h5 hj hk
      by_cases c14 : q.toInt = 4
      · refine am_e19 (t := 156) hi_278_32 (am_swI (v := q) (w := 4) (by decide) (by decide) c14) ?_
        exact lw_function hL hi hi1 hI h5 hj hk
      by_cases c15 : q.toInt = 5
      · refine am_e19 (t := 189) hi_278_32 (am_swI (v := q) (w := 5) (by decide) (by decide) c15) ?_
        exact lw_outer hL hi hi1 hI h5 hj hk
      by_cases c16 : q.toInt = 6
      · refine am_e19 (t := 232) hi_278_32 (am_swI (v := q) (w := 6) (by decide) (by decide) c16) ?_
        exact lw_code hL hi hi1 hI h5 hj hk
      by_cases c17 : q.toInt = 7
      · refine am_e19 (t := 275) hi_278_32 (am_swI (v := q) (w := 7) (by decide) (by decide) c17) ?_
        exact lw_depth hL hi hi1 hI h5 hj hk
      by_cases c18 : q.toInt = 8
      · refine am_e19 (t := 298) hi_278_32 (am_swI (v := q) (w := 8) (by decide) (by decide) c18) ?_
        exact lw_flaws hL hi hi1 hI h5 hj hk
      refine am_e19 (t := 311) hi_278_32 (am_swK (v := q) (ks := [0, 1, 2, 3, 4, 5, 6, 7, 8]) (by decide) (by intro k hk2; simp only [List.mem_cons, List.not_mem_nil, or_false] at hk2; rcases hk2 with rfl | rfl | rfl | rfl | rfl | rfl | rfl | rfl | rfl <;> omega)) ?_
      obtain ⟨aw, f, g, h, m, hr, h0, w0, w1, en⟩ := hI
      exact hk S ⟨aw, f, g, h, m, hr, h0, w0, by omega, by omega⟩ (l5_up h5)
theorem lw_all1 {L : Nat} {xs : Nat → Int32} {S1 : am_S} (hL : L ≤ 2048) (a1 : am_R am_X0 1499 0 0 [some (.ref 0), none] [] am_z0 (some none) S1) (a2 : S1.1.length = 39) (a3 : S1.2.1 = 39) (a4 : S1.2.2 = 522) (nF : ∀ k, k < 39 → am_fs S1 k = st_F k) (nA : ∀ k, k < 39 → am_arq S1 k = st_A k) (nR : ∀ k, k < 39 → am_rar S1 k = st_R k) (g0 : am_rrf S1 38 0 = some 33) (g1 : ∀ i b, am_rrf S1 38 i = some b → b = 33) (gU : am_arf S1 35 0 = 45 ∧ am_arf S1 35 1 = 0 ∧ am_arf S1 35 2 = 0 ∧ am_arf S1 35 3 = 0) : ∃ S' : am_S, am_R (am_PP (L, xs)) 1500 278 0 (am_in [.long 2] 4) [] ([], 0, 0) (some (some (.int 1))) S' ∧ S'.2.1 ≤ 61024 ∧ S'.2.2 ≤ 8913034 := by
  have hA1 : AL S1 := by
    obtain ⟨n, hr⟩ := a1
    refine al_run _ _ _ _ _ _ _ _ _ hr ?_
    intro k t n f hk
    cases k with
    | zero => cases hk
    | succ k => cases hk
  have hA2 : AL (nm_S S1) := by
    have hm : am_E (am_PP (L, xs)) 1499 173 0 [some (.ref 39)] [] (am_ap S1 [.inr (.inr (11, am_nb 11))] 1 77) (am_N fun v S9 => v = none ∧ S9 = nm_S S1) := nm_0 (d := 1498) a2
    obtain ⟨o2, S2, ⟨n, hr⟩, q2⟩ := hm
    cases o2 with
    | none => exact (show False from q2).elim
    | some v2 =>
      obtain ⟨rfl, rfl⟩ := q2
      exact al_run _ _ _ _ _ _ _ _ _ hr (AL.snoc (c := .inr (.inr (11, am_nb 11))) (m := S1.2.1 + 1) (m' := 77) hA1 (fun t n f e => nomatch e))
  have hE : am_E (am_PP (L, xs)) 1500 278 18 [some (.long 2), some (.ref 0), some (.ref 39), some (.int 0)] [] (nm_S S1) LQ := by
    refine lw_loop (sc := (L, xs)) hL 514 0 (nm_S S1) 0 rfl ?_ (l5_start a2 nF nA nR g0 gU hA2) (by decide) (by decide)
    obtain ⟨e1, e2⟩ := en_start a2 nF nA a3 a4
    exact ⟨4, st_f, st_g, sh_start a2 nF nA nR g0 g1, ms_start a2, ri_start, by rw [e2]; rfl, by omega, by omega, by omega⟩
  obtain ⟨o, S', ⟨n, hrun⟩, rfl, hb⟩ := hE
  have hup := am_run_up _ _ _ _ _ _ _ _ _ _ hrun
  have hs : (nm_S S1).2.2 = 1291864 := by
    show S1.2.2 + 1291342 = 1291864
    rw [a4]
  rw [hs] at hup
  refine ⟨S', ?_, by omega, by omega⟩
  have hm : am_E (am_PP (L, xs)) 1499 173 0 [some (.ref 39)] [] (am_ap S1 [.inr (.inr (11, am_nb 11))] 1 77) (am_N fun v S9 => v = none ∧ S9 = nm_S S1) := nm_0 (d := 1498) a2
  obtain ⟨o2, S2, r2, q2⟩ := hm
  cases o2 with
  | none => exact (show False from q2).elim
  | some v2 =>
    obtain ⟨rfl, rfl⟩ := q2
    show am_R _ _ _ _ [some (.long 2), none, none, none] _ _ _ _
    refine am_q22 (k := 0) (S1 := am_z0) hi_278_0 rfl rfl ?_
    refine am_q7 hi_278_3 ?_
    refine am_q32 (d := 1499) (v := none) (S1 := S1) (as := [.ref 0]) (la := [some (.ref 0), none]) (rest := [.ref 0]) hi_278_4 (Nat.le_of_ble_eq_true rfl) (Nat.le_of_ble_eq_true rfl) (show 1 ≤ am_P0.2.2.1 0 from by decide +kernel) rfl rfl rfl rfl (am_R_sc a1) ?_
    show am_R _ _ _ _ [some (.long 2), none, none, none] [.ref 0] _ _ _
    refine am_q4 (ls' := [some (.long 2), some (.ref 0), none, none]) hi_278_7 (Nat.le_of_ble_eq_true rfl) rfl ?_
    refine am_q22 (k := 39) (S1 := am_ap S1 [.inr (.inr (11, am_nb 11))] 1 77) hi_278_8 a2 rfl ?_
    refine am_q7 hi_278_11 ?_
    refine am_q32 (d := 1499) (v := none) (S1 := nm_S S1) (as := [.ref 39]) (la := [some (.ref 39)]) (rest := [.ref 39]) hi_278_12 (Nat.le_of_ble_eq_true rfl) (Nat.le_of_ble_eq_true rfl) (show 1 ≤ am_P0.2.2.1 173 from by decide +kernel) rfl rfl rfl rfl r2 ?_
    show am_R _ _ _ _ [some (.long 2), some (.ref 0), none, none] [.ref 39] _ _ _
    refine am_q4 (ls' := [some (.long 2), some (.ref 0), some (.ref 39), none]) hi_278_15 (Nat.le_of_ble_eq_true rfl) rfl ?_
    refine am_q0 hi_278_16 ?_
    refine am_q3 (ls' := [some (.long 2), some (.ref 0), some (.ref 39), some (.int 0)]) hi_278_17 (Nat.le_of_ble_eq_true rfl) rfl ?_
    exact ⟨n, hrun⟩
theorem lw_all {L : Nat} {xs : Nat → Int32} (hL : L ≤ 2048) : ∃ S' : am_S, am_R (am_PP (L, xs)) 1500 278 0 (am_in [.long 2] 4) [] ([], 0, 0) (some (some (.int 1))) S' ∧ S'.2.1 ≤ 61024 ∧ S'.2.2 ≤ 8913034 :=
  lw_all1 (S1 := am_S1) hL (am_oS_R am_new1.1) am_new1.2.1 am_new1.2.2.1 am_new1.2.2.2 am_newF am_newA am_newR am_newG.1 am_newG1 am_newU
