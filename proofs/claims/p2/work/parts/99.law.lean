/-! THE LAW: class and reference side by side -/
theorem ma_all : (List.range 54).all (fun i => mm_ar.any (fun q => Nat.beq q.2.1 (40 + i))) = true := by decide +kernel
theorem ms_in {S0 S : am_S} {f : Nat → Int32} {g : Nat → Nat → Int32} {k : Nat} (h : MS S0 S f g) (h1 : 40 ≤ k) (h2 : k < 94) : ∃ q ∈ mm_ar, q.2.1 = k ∧ S.1[k]? = some (.inl (q.2.2.1, q.2.2.2, g q.1)) := by
  have ha := List.all_eq_true.mp ma_all (k - 40) (List.mem_range.mpr (by omega))
  obtain ⟨q, hq, he⟩ := List.any_eq_true.mp ha
  have he2 : q.2.1 = k := by
    have := Nat.eq_of_beq_eq_true he
    omega
  exact ⟨q, hq, he2, by rw [← he2]; exact h.2.1 q hq⟩
theorem ms_ex {S S1 : am_S} {f : Nat → Int32} {g : Nat → Nat → Int32} (h : MS S S f g) (e : Ex S S1) : MS S1 S1 f g := by
  refine ⟨?_, fun q hq => ?_, rfl, rfl, fun _ _ => rfl⟩
  · have h1 := h.1
    unfold am_fs at h1 ⊢
    rw [e.2.1 39 (by decide) (by decide)]
    exact h1
  · have h2 := ma_in hq
    rw [e.2.1 _ (by omega) h2.2]
    exact h.2.1 q hq
theorem ms_self {S S1 : am_S} {f : Nat → Int32} {g : Nat → Nat → Int32} (h : MS S S1 f g) : MS S1 S1 f g := ⟨h.1, h.2.1, rfl, rfl, fun _ _ => rfl⟩
section SM
variable {S1 S2 : am_S} {f f' : Nat → Int32} {g g' : Nat → Nat → Int32} {aw : Nat}
theorem sm_fs (m2 : MS S1 S2 f' g') {k : Nat} (hk : k < 39 ∨ 94 ≤ k) : am_fs S2 k = am_fs S1 k := by
  unfold am_fs
  rw [m2.2.2.2.2 k hk]
theorem sm_fs_or {S0 S : am_S} (m : MS S0 S f g) {k c : Nat} {fs : List Value} (h : am_fs S k = some (c, fs)) : (k < 39 ∨ 94 ≤ k) ∨ (k = 39 ∧ c = 11) := by
  by_cases hk : k < 39 ∨ 94 ≤ k
  · exact Or.inl hk
  · right
    by_cases h39 : k = 39
    · subst h39
      rw [m.1] at h
      cases h
      exact ⟨rfl, rfl⟩
    · obtain ⟨q, -, -, hq⟩ := ms_in m (k := k) (by omega) (by omega)
      unfold am_fs at h
      rw [hq] at h
      cases h
theorem sm_rar_or {S0 S : am_S} (m : MS S0 S f g) {k n : Nat} (h : am_rar S k = some n) : k < 39 ∨ 94 ≤ k := by
  by_cases hk : k < 39 ∨ 94 ≤ k
  · exact hk
  · exfalso
    unfold am_rar at h
    by_cases h39 : k = 39
    · subst h39
      rw [am_fs_ok m.1] at h
      cases h
    · obtain ⟨q, -, -, hq⟩ := ms_in m (k := k) (by omega) (by omega)
      rw [hq] at h
      cases h
theorem sm_rrf_or {S0 S : am_S} (m : MS S0 S f g) {k i b : Nat} (h : am_rrf S k i = some b) : k < 39 ∨ 94 ≤ k := by
  have hr : ∃ n, am_rar S k = some n := by
    unfold am_rrf at h
    unfold am_rar
    rcases hc : S.1[k]? with _ | (q | (q | q))
    · rw [hc] at h; cases h
    · rw [hc] at h; cases h
    · exact ⟨_, rfl⟩
    · rw [hc] at h; cases h
  obtain ⟨n, hn⟩ := hr
  exact sm_rar_or m hn
theorem sm_cl (m1 : MS S1 S1 f g) (m2 : MS S1 S2 f' g') {k c : Nat} (h : cl (am_fs S1) k = some c) : cl (am_fs S2) k = some c := by
  obtain ⟨fs, hf⟩ := cl_of h
  rcases sm_fs_or m1 hf with hk | ⟨rfl, rfl⟩
  · rw [← sm_fs m2 hk] at hf
    exact cl_mk hf
  · exact cl_mk m2.1
theorem sm_arq (m1 : MS S1 S1 f g) (m2 : MS S1 S2 f' g') {k : Nat} {q : Bool × Nat} (h : am_arq S1 k = some q) : am_arq S2 k = some q := by
  by_cases hk : k < 39 ∨ 94 ≤ k
  · unfold am_arq at h ⊢
    rw [m2.2.2.2.2 k hk]
    exact h
  · by_cases h39 : k = 39
    · subst h39
      unfold am_arq at h
      rw [am_fs_ok m1.1] at h
      cases h
    · obtain ⟨q1, h1, h2, h3⟩ := ms_in m1 (k := k) (by omega) (by omega)
      have h4 := m2.2.1 q1 h1
      rw [h2] at h4
      unfold am_arq at h ⊢
      rw [h3] at h
      rw [h4]
      exact h
theorem sm_rar (m2 : MS S1 S2 f' g') {k : Nat} (hk : k < 39 ∨ 94 ≤ k) : am_rar S2 k = am_rar S1 k := by
  unfold am_rar
  rw [m2.2.2.2.2 k hk]
theorem sm_rrf (m2 : MS S1 S2 f' g') {k : Nat} (hk : k < 39 ∨ 94 ≤ k) : am_rrf S2 k = am_rrf S1 k := by
  unfold am_rrf
  rw [m2.2.2.2.2 k hk]
theorem sm_sh (h : SH aw S1) (m1 : MS S1 S1 f g) (m2 : MS S1 S2 f' g') : SH aw S2 := by
  have hm : ∀ j c', cl (am_fs S1) j = some c' → cl (am_fs S2) j = some c' := fun j c' q => sm_cl m1 m2 q
  have hA : ∀ a q, am_arq S1 a = some q → am_arq S2 a = some q := fun a q z => sm_arq m1 m2 z
  have hR : ∀ a q, am_rar S1 a = some q → am_rar S2 a = some q := fun a q z => by rw [sm_rar m2 (h.1.rr a q z)]; exact z
  have hc : ∀ k, k < 39 → c_al (am_fs S1) (am_rar S1) (am_rrf S1) k → c_al (am_fs S2) (am_rar S2) (am_rrf S2) k := by
    rintro k hk ⟨ed, sz, mc, e1, b1, b2, e2⟩
    refine ⟨ed, sz, mc, by rw [sm_fs m2 (Or.inl hk)]; exact e1, b1, b2, ?_⟩
    rcases e2 with e2 | ⟨a', n', ea, hr, hle, hn, hel⟩
    · exact Or.inl e2
    · exact Or.inr ⟨a', n', ea, hR _ _ hr, hle, hn, fun i hi => by rw [sm_rrf m2 (h.1.rr a' n' hr)]; exact hel i hi⟩
  refine ⟨⟨fun k c fs q => ?_, fun p hp => hm _ _ (h.1.s p hp), fun k a r q => ?_, ?_, hc 6 (by decide) h.1.l6, hc 13 (by decide) h.1.l13, fun a q1 q2 q3 q4 e => ?_, fun a i b q => ?_, fun j c fs q h1 h2 => ?_, fun a n q => sm_rar_or m2 q, ?_⟩, by rw [m2.2.2.2.1]; exact h.2⟩
  · rcases sm_fs_or m2 q with hk | ⟨rfl, rfl⟩
    · rw [sm_fs m2 hk] at q
      rcases h.1.t k c fs q with e | ⟨e1, e2⟩
      · exact Or.inl e
      · exact Or.inr ⟨e1, c_f_mono hm hA hR e2⟩
    · exact Or.inl rfl
  · rcases sm_fs_or m2 q with hk | ⟨-, e⟩
    · rw [sm_fs m2 hk] at q
      obtain ⟨n, b1, b2⟩ := h.1.tb k a r q
      exact ⟨n, hA _ _ b1, b2⟩
    · cases e
  · obtain ⟨r, hr⟩ := h.1.aw
    exact ⟨r, by rw [sm_fs m2 (Or.inl (by decide))]; exact hr⟩
  · rw [sm_fs m2 (Or.inl (by decide))] at e ⊢
    exact h.1.ld a q1 q2 q3 q4 e
  · have hk := sm_rrf_or m2 q
    rw [sm_rrf m2 hk] at q
    exact hm _ _ (h.1.rg a i b q)
  · rcases sm_fs_or m2 q with hk | ⟨-, e⟩
    · omega
    · exact e
  · obtain ⟨k1, c1, m3, s1, q1, e1, e2, e3⟩ := h.1.ct
    exact ⟨k1, c1, m3, s1, q1, by rw [sm_fs m2 (Or.inl (by decide))]; exact e1, by rw [sm_fs m2 (Or.inl (by decide))]; exact e2, e3⟩
theorem sm_iv (m2 : MS S1 S2 f' g') {k i : Nat} (hk : k < 39) : iv S2 k i = iv S1 k i := by
  unfold iv
  rw [sm_fs m2 (Or.inl hk)]
theorem sm_en (h : SH aw S1) (m1 : MS S1 S1 f g) (m2 : MS S1 S2 f' g') : EN S2 = EN S1 ∧ wr S2 = wr S1 := by
  refine ⟨?_, sm_iv m2 (by decide)⟩
  have e : ∀ k, c_phi (am_fs S2) (am_arq S2) k = c_phi (am_fs S1) (am_arq S1) k := by
    intro k
    by_cases hk : k < 39 ∨ 94 ≤ k
    · unfold c_phi
      rw [sm_fs m2 hk]
      split
      · rename_i a r hq
        obtain ⟨n, b1, -⟩ := h.1.tb k a r hq
        rw [b1, sm_arq m1 m2 b1]
      · rfl
    · have z : ∀ {S0 S : am_S} {f0 : Nat → Int32} {g0 : Nat → Nat → Int32}, MS S0 S f0 g0 → c_phi (am_fs S) (am_arq S) k = 0 := by
        intro S0 S f0 g0 m
        cases hq : am_fs S k with
        | none => unfold c_phi; rw [hq]
        | some q =>
          obtain ⟨c, fs⟩ := q
          rcases sm_fs_or m hq with e | ⟨-, rfl⟩
          · exact absurd e hk
          · unfold c_phi
            rw [hq]
            split
            · rename_i y; cases y
            · rfl
      rw [z m1, z m2]
  unfold EN
  rw [sm_iv m2 (by decide), sm_iv m2 (by decide), m2.2.2.2.1, c_sum_ext _ (fun j _ => e j), m2.2.2.1]
end SM
theorem en_lo {aw : Nat} {S : am_S} (h : SH aw S) : 128 * (S.2.1 : Int) + S.2.2 ≤ EN S := by
  obtain ⟨a, r, n, -, -, b0, -, -, -, -, -, b6, -⟩ := h.tab (h.1.s (8, 3) (by decide))
  obtain ⟨a', r', n', -, -, b0', -, -, -, -, -, b6', -⟩ := h.tab (h.1.s (10, 3) (by decide))
  have b8 : r.toInt = iv S 8 1 := b6
  have b10 : r'.toInt = iv S 10 1 := b6'
  have hs := c_sum_nn (c_phi_nn (am_fs S) (am_arq S)) S.1.length
  unfold EN
  omega
theorem ri_word {f : Nat → Int32} {g g' : Nat → Nat → Int32} {z : Int32} (h : RI f g) (hg : ∀ j, j ∉ [1, 2] → g' j = g j) : RI (upd f 0 z) g' := by
  have e : ∀ j, j ≠ 0 → upd f 0 z j = f j := fun j hj => by unfold upd; rw [if_neg hj]
  unfold RI at h ⊢
  rw [hg 16 (by decide), hg 17 (by decide), hg 18 (by decide), hg 26 (by decide), hg 34 (by decide), hg 35 (by decide), hg 36 (by decide), hg 38 (by decide), hg 39 (by decide), hg 40 (by decide), hg 51 (by decide), hg 67 (by decide), hg 63 (by decide), hg 61 (by decide), hg 60 (by decide), hg 74 (by decide), e 19 (by decide), e 53 (by decide), e 62 (by decide)]
  exact h
/-- what holds between two calls of the law -/
def LI (j : Nat) (S : am_S) : Prop := ∃ aw f g, SH aw S ∧ MS S S f g ∧ RI f g ∧ (f 0).toInt = wr S ∧ 0 ≤ wr S ∧ wr S ≤ j ∧ EN S + 10000 * wr S ≤ 1303896 + 10160 * j
def LQ : Option (Option Value) → am_S → Prop := fun o S' => o = some (some (.int 1)) ∧ 128 * (S'.2.1 : Int) + S'.2.2 ≤ 6505816
theorem lw_word {sc : Nat × (Nat → Int32)} {j : Nat} {S : am_S} {i : Int32} (hL : sc.1 ≤ 2048) (hi0 : i.toInt = 4 * j) (hi1 : i.toInt + 4 ≤ sc.1) (hI : LI j S) (hk : ∀ S1, LI (j + 1) S1 → am_E (am_PP sc) 1500 278 311 [some (.long 2), some (.ref 0), some (.ref 39), some (.int i)] [] S1 LQ) : am_E (am_PP sc) 1500 278 84 [some (.long 2), some (.ref 0), some (.ref 39), some (.int i)] [] S LQ := by
  obtain ⟨aw, f, g, h, m, hr, h0, w0, w1, en⟩ := hI
  have r53 := hr.2.2.2.1
  refine am_e2 (v := 0) hi_278_84 rfl ?_
  refine am_e2l hi_278_85 rfl ?_
  refine am_e1 (v := i) hi_278_86 rfl ?_
  refine am_e0 hi_278_87 ?_
  obtain ⟨ya1, hya1, tya1⟩ := am_addI (x := i) (y := 1) (m := i.toInt) (n := (1 : Int)) rfl (by decide) (by omega) (by omega)
  refine am_e10 (z := ya1) hi_278_88 hya1 ?_
  have hxa1 := mm_idx (i := ya1) (n := sc.1) (by omega) (by omega)
  refine am_e25s hi_278_89 hxa1.1 rfl hxa1.2 hL rfl ?_
  refine am_e2l hi_278_90 rfl ?_
  refine am_e1 (v := i) hi_278_91 rfl ?_
  refine am_e0 hi_278_92 ?_
  obtain ⟨ya2, hya2, tya2⟩ := am_addI (x := i) (y := 2) (m := i.toInt) (n := (2 : Int)) rfl (by decide) (by omega) (by omega)
  refine am_e10 (z := ya2) hi_278_93 hya2 ?_
  have hxa2 := mm_idx (i := ya2) (n := sc.1) (by omega) (by omega)
  refine am_e25s hi_278_94 hxa2.1 rfl hxa2.2 hL rfl ?_
  refine am_e32n (d := 1499) (as := [.ref 0, .int (sc.2 ya1.toNatClampNeg), .int (sc.2 ya2.toNatClampNeg)]) (la := [some (.ref 0), some (.int (sc.2 ya1.toNatClampNeg)), some (.int (sc.2 ya2.toNatClampNeg))]) (rest := []) hi_278_95 (am_hd0 (M := 278) (by decide) 95) (Nat.le_of_ble_eq_true rfl) (Nat.le_of_ble_eq_true rfl) (show 3 ≤ am_P0.2.2.1 33 from by decide +kernel) rfl (cl_recv (h.1.s (0, 0) (by decide))) rfl rfl (ck_word (d := 1495) h w0 (by omega)) ?_
  rintro v1 S1 ⟨q, aw1, rfl, g1, g2, g3, g4, g5⟩
  show am_E _ _ _ _ [some (.long 2), some (.ref 0), some (.ref 39), some (.int i)] [.int q] _ _
  have m1 := ms_ex m g2
  refine am_e2 (v := 39) hi_278_98 rfl ?_
  refine am_e2l hi_278_99 rfl ?_
  refine am_e1 (v := i) hi_278_100 rfl ?_
  refine am_e0 hi_278_101 ?_
  obtain ⟨yb1, hyb1, tyb1⟩ := am_addI (x := i) (y := 1) (m := i.toInt) (n := (1 : Int)) rfl (by decide) (by omega) (by omega)
  refine am_e10 (z := yb1) hi_278_102 hyb1 ?_
  have hxb1 := mm_idx (i := yb1) (n := sc.1) (by omega) (by omega)
  refine am_e25s hi_278_103 hxb1.1 rfl hxb1.2 hL rfl ?_
  refine am_e2l hi_278_104 rfl ?_
  refine am_e1 (v := i) hi_278_105 rfl ?_
  refine am_e0 hi_278_106 ?_
  obtain ⟨yb2, hyb2, tyb2⟩ := am_addI (x := i) (y := 2) (m := i.toInt) (n := (2 : Int)) rfl (by decide) (by omega) (by omega)
  refine am_e10 (z := yb2) hi_278_107 hyb2 ?_
  have hxb2 := mm_idx (i := yb2) (n := sc.1) (by omega) (by omega)
  refine am_e25s hi_278_108 hxb2.1 rfl hxb2.2 hL rfl ?_
  refine am_e32n (d := 1499) (as := [.ref 39, .int (sc.2 yb1.toNatClampNeg), .int (sc.2 yb2.toNatClampNeg)]) (la := [some (.ref 39), some (.int (sc.2 yb1.toNatClampNeg)), some (.int (sc.2 yb2.toNatClampNeg)), none]) (rest := [.int q]) hi_278_109 (am_hd0 (M := 278) (by decide) 109) (Nat.le_of_ble_eq_true rfl) (Nat.le_of_ble_eq_true rfl) (show 3 ≤ am_P0.2.2.1 174 from by decide +kernel) rfl (am_recv_ok m1.fs) rfl rfl (ct_word (d := 1499) m1 (by omega) (by omega)) ?_
  rintro v2 S2 ⟨r, z, g', rfl, m2, hg, e1, e2⟩
  show am_E _ _ _ _ [some (.long 2), some (.ref 0), some (.ref 39), some (.int i)] [.int r, .int q] _ _
  obtain ⟨e3, e4⟩ := sm_en g1 m1 m2
  have ey : ya1 = yb1 := by rw [← hya1, ← hyb1]
  subst ey
  refine am_e13t hi_278_112 (am_cT (m := q.toInt) (n := r.toInt) rfl rfl (by simp only [am_cI]; rw [g3, e1, h0])) ?_
  refine hk S2 ⟨aw1, _, _, sm_sh g1 m1 m2, ms_self m2, ri_word hr hg, ?_, ?_, ?_, ?_⟩
  · show (upd f 0 z 0).toInt = wr S2; rw [show upd f 0 z 0 = z from rfl, e2, e4, g4, h0]
  · rw [e4, g4]; split <;> omega
  · rw [e4, g4]; split <;> omega
  · rw [e3, e4, g4]; split <;> omega
theorem lw_compile {sc : Nat × (Nat → Int32)} {j : Nat} {S : am_S} {i : Int32} (hL : sc.1 ≤ 2048) (hi0 : i.toInt = 4 * j) (hi1 : i.toInt + 4 ≤ sc.1) (hI : LI j S) (hk : ∀ S1, LI (j + 1) S1 → am_E (am_PP sc) 1500 278 311 [some (.long 2), some (.ref 0), some (.ref 39), some (.int i)] [] S1 LQ) : am_E (am_PP sc) 1500 278 117 [some (.long 2), some (.ref 0), some (.ref 39), some (.int i)] [] S LQ := by
  obtain ⟨aw, f, g, h, m, hr, h0, w0, w1, en⟩ := hI
  have r53 := hr.2.2.2.1
  refine am_e2 (v := 0) hi_278_117 rfl ?_
  refine am_e32n (d := 1499) (as := [.ref 0]) (la := [some (.ref 0), none]) (rest := []) hi_278_118 (am_hd0 (M := 278) (by decide) 118) (Nat.le_of_ble_eq_true rfl) (Nat.le_of_ble_eq_true rfl) (show 1 ≤ am_P0.2.2.1 38 from by decide +kernel) rfl (cl_recv (h.1.s (0, 0) (by decide))) rfl rfl (ck_compile (d := 36) h w0 (by omega)) ?_
  rintro v1 S1 ⟨q, rfl, ⟨g1, g2⟩, g3, g4⟩
  show am_E _ _ _ _ [some (.long 2), some (.ref 0), some (.ref 39), some (.int i)] [.int q] _ _
  refine am_e6i hi_278_121 ?_
  have m1 := ms_ex m g2
  refine am_e2 (v := 39) hi_278_122 rfl ?_
  refine am_e32n (d := 1499) (as := [.ref 39]) (la := [some (.ref 39), none]) (rest := []) hi_278_123 (am_hd0 (M := 278) (by decide) 123) (Nat.le_of_ble_eq_true rfl) (Nat.le_of_ble_eq_true rfl) (show 1 ≤ am_P0.2.2.1 175 from by decide +kernel) rfl (am_recv_ok m1.fs) rfl rfl (ct_compile (d := 1490) m1 hr (by omega) (by omega)) ?_
  rintro v2 S2 ⟨r, f', g', rfl, m2, hr2, e1⟩
  show am_E _ _ _ _ [some (.long 2), some (.ref 0), some (.ref 39), some (.int i)] [.int r] _ _
  obtain ⟨e3, e4⟩ := sm_en g1 m1 m2
  refine am_e6i hi_278_126 ?_
  refine am_e18 hi_278_127 ?_
  refine hk S2 ⟨aw, f', g', sm_sh g1 m1 m2, ms_self m2, hr2, by omega, by omega, by omega, by omega⟩
theorem lw_place {sc : Nat × (Nat → Int32)} {j : Nat} {S : am_S} {i : Int32} (hL : sc.1 ≤ 2048) (hi0 : i.toInt = 4 * j) (hi1 : i.toInt + 4 ≤ sc.1) (hI : LI j S) (hk : ∀ S1, LI (j + 1) S1 → am_E (am_PP sc) 1500 278 311 [some (.long 2), some (.ref 0), some (.ref 39), some (.int i)] [] S1 LQ) : am_E (am_PP sc) 1500 278 130 [some (.long 2), some (.ref 0), some (.ref 39), some (.int i)] [] S LQ := by
  obtain ⟨aw, f, g, h, m, hr, h0, w0, w1, en⟩ := hI
  have r53 := hr.2.2.2.1
  refine am_e2 (v := 0) hi_278_130 rfl ?_
  refine am_e32n (d := 1499) (as := [.ref 0]) (la := [some (.ref 0)]) (rest := []) hi_278_131 (am_hd0 (M := 278) (by decide) 131) (Nat.le_of_ble_eq_true rfl) (Nat.le_of_ble_eq_true rfl) (show 1 ≤ am_P0.2.2.1 156 from by decide +kernel) rfl (cl_recv (h.1.s (0, 0) (by decide))) rfl rfl (ck_place (d := 1499) h) ?_
  rintro v1 S1 ⟨q, rfl, rfl⟩
  show am_E _ _ _ _ [some (.long 2), some (.ref 0), some (.ref 39), some (.int i)] [.int q] _ _
  refine am_e6i hi_278_134 ?_
  have m1 := m
  refine am_e2 (v := 39) hi_278_135 rfl ?_
  refine am_e32n (d := 1499) (as := [.ref 39]) (la := [some (.ref 39)]) (rest := []) hi_278_136 (am_hd0 (M := 278) (by decide) 136) (Nat.le_of_ble_eq_true rfl) (Nat.le_of_ble_eq_true rfl) (show 1 ≤ am_P0.2.2.1 267 from by decide +kernel) rfl (am_recv_ok m1.fs) rfl rfl (ct_place (d := 1499) m1 hr r53.1 r53.2) ?_
  rintro v2 S2 ⟨r, rfl, m2⟩
  show am_E _ _ _ _ [some (.long 2), some (.ref 0), some (.ref 39), some (.int i)] [.int r] _ _
  obtain ⟨e3, e4⟩ := sm_en h m1 m2
  refine am_e6i hi_278_139 ?_
  refine am_e18 hi_278_140 ?_
  refine hk S2 ⟨aw, f, g, sm_sh h m1 m2, ms_self m2, hr, by omega, by omega, by omega, by omega⟩
theorem lw_functions {sc : Nat × (Nat → Int32)} {j : Nat} {S : am_S} {i : Int32} (hL : sc.1 ≤ 2048) (hi0 : i.toInt = 4 * j) (hi1 : i.toInt + 4 ≤ sc.1) (hI : LI j S) (hk : ∀ S1, LI (j + 1) S1 → am_E (am_PP sc) 1500 278 311 [some (.long 2), some (.ref 0), some (.ref 39), some (.int i)] [] S1 LQ) : am_E (am_PP sc) 1500 278 143 [some (.long 2), some (.ref 0), some (.ref 39), some (.int i)] [] S LQ := by
  obtain ⟨aw, f, g, h, m, hr, h0, w0, w1, en⟩ := hI
  have r53 := hr.2.2.2.1
  refine am_e2 (v := 0) hi_278_143 rfl ?_
  refine am_e32n (d := 1499) (as := [.ref 0]) (la := [some (.ref 0)]) (rest := []) hi_278_144 (am_hd0 (M := 278) (by decide) 144) (Nat.le_of_ble_eq_true rfl) (Nat.le_of_ble_eq_true rfl) (show 1 ≤ am_P0.2.2.1 157 from by decide +kernel) rfl (cl_recv (h.1.s (0, 0) (by decide))) rfl rfl (ck_functions (d := 1498) h) ?_
  rintro v1 S1 ⟨q, rfl, rfl⟩
  show am_E _ _ _ _ [some (.long 2), some (.ref 0), some (.ref 39), some (.int i)] [.int q] _ _
  refine am_e6i hi_278_147 ?_
  have m1 := m
  refine am_e2 (v := 39) hi_278_148 rfl ?_
  refine am_e32n (d := 1499) (as := [.ref 39]) (la := [some (.ref 39)]) (rest := []) hi_278_149 (am_hd0 (M := 278) (by decide) 149) (Nat.le_of_ble_eq_true rfl) (Nat.le_of_ble_eq_true rfl) (show 1 ≤ am_P0.2.2.1 268 from by decide +kernel) rfl (am_recv_ok m1.fs) rfl rfl (ct_functions (d := 1499) m1 hr r53.1 r53.2) ?_
  rintro v2 S2 ⟨r, rfl, m2⟩
  show am_E _ _ _ _ [some (.long 2), some (.ref 0), some (.ref 39), some (.int i)] [.int r] _ _
  obtain ⟨e3, e4⟩ := sm_en h m1 m2
  refine am_e6i hi_278_152 ?_
  refine am_e18 hi_278_153 ?_
  refine hk S2 ⟨aw, f, g, sm_sh h m1 m2, ms_self m2, hr, by omega, by omega, by omega, by omega⟩
theorem lw_function {sc : Nat × (Nat → Int32)} {j : Nat} {S : am_S} {i : Int32} (hL : sc.1 ≤ 2048) (hi0 : i.toInt = 4 * j) (hi1 : i.toInt + 4 ≤ sc.1) (hI : LI j S) (hk : ∀ S1, LI (j + 1) S1 → am_E (am_PP sc) 1500 278 311 [some (.long 2), some (.ref 0), some (.ref 39), some (.int i)] [] S1 LQ) : am_E (am_PP sc) 1500 278 156 [some (.long 2), some (.ref 0), some (.ref 39), some (.int i)] [] S LQ := by
  obtain ⟨aw, f, g, h, m, hr, h0, w0, w1, en⟩ := hI
  have r53 := hr.2.2.2.1
  refine am_e2 (v := 0) hi_278_156 rfl ?_
  refine am_e2l hi_278_157 rfl ?_
  refine am_e1 (v := i) hi_278_158 rfl ?_
  refine am_e0 hi_278_159 ?_
  obtain ⟨ya1, hya1, tya1⟩ := am_addI (x := i) (y := 1) (m := i.toInt) (n := (1 : Int)) rfl (by decide) (by omega) (by omega)
  refine am_e10 (z := ya1) hi_278_160 hya1 ?_
  have hxa1 := mm_idx (i := ya1) (n := sc.1) (by omega) (by omega)
  refine am_e25s hi_278_161 hxa1.1 rfl hxa1.2 hL rfl ?_
  refine am_e2l hi_278_162 rfl ?_
  refine am_e1 (v := i) hi_278_163 rfl ?_
  refine am_e0 hi_278_164 ?_
  obtain ⟨ya2, hya2, tya2⟩ := am_addI (x := i) (y := 2) (m := i.toInt) (n := (2 : Int)) rfl (by decide) (by omega) (by omega)
  refine am_e10 (z := ya2) hi_278_165 hya2 ?_
  have hxa2 := mm_idx (i := ya2) (n := sc.1) (by omega) (by omega)
  refine am_e25s hi_278_166 hxa2.1 rfl hxa2.2 hL rfl ?_
  refine am_e32n (d := 1499) (as := [.ref 0, .int (sc.2 ya1.toNatClampNeg), .int (sc.2 ya2.toNatClampNeg)]) (la := [some (.ref 0), some (.int (sc.2 ya1.toNatClampNeg)), some (.int (sc.2 ya2.toNatClampNeg)), none]) (rest := []) hi_278_167 (am_hd0 (M := 278) (by decide) 167) (Nat.le_of_ble_eq_true rfl) (Nat.le_of_ble_eq_true rfl) (show 3 ≤ am_P0.2.2.1 158 from by decide +kernel) rfl (cl_recv (h.1.s (0, 0) (by decide))) rfl rfl (ck_function (d := 1495) h) ?_
  rintro v1 S1 ⟨q, rfl, rfl⟩
  show am_E _ _ _ _ [some (.long 2), some (.ref 0), some (.ref 39), some (.int i)] [.int q] _ _
  refine am_e6i hi_278_170 ?_
  have m1 := m
  refine am_e2 (v := 39) hi_278_171 rfl ?_
  refine am_e2l hi_278_172 rfl ?_
  refine am_e1 (v := i) hi_278_173 rfl ?_
  refine am_e0 hi_278_174 ?_
  obtain ⟨yb1, hyb1, tyb1⟩ := am_addI (x := i) (y := 1) (m := i.toInt) (n := (1 : Int)) rfl (by decide) (by omega) (by omega)
  refine am_e10 (z := yb1) hi_278_175 hyb1 ?_
  have hxb1 := mm_idx (i := yb1) (n := sc.1) (by omega) (by omega)
  refine am_e25s hi_278_176 hxb1.1 rfl hxb1.2 hL rfl ?_
  refine am_e2l hi_278_177 rfl ?_
  refine am_e1 (v := i) hi_278_178 rfl ?_
  refine am_e0 hi_278_179 ?_
  obtain ⟨yb2, hyb2, tyb2⟩ := am_addI (x := i) (y := 2) (m := i.toInt) (n := (2 : Int)) rfl (by decide) (by omega) (by omega)
  refine am_e10 (z := yb2) hi_278_180 hyb2 ?_
  have hxb2 := mm_idx (i := yb2) (n := sc.1) (by omega) (by omega)
  refine am_e25s hi_278_181 hxb2.1 rfl hxb2.2 hL rfl ?_
  refine am_e32n (d := 1499) (as := [.ref 39, .int (sc.2 yb1.toNatClampNeg), .int (sc.2 yb2.toNatClampNeg)]) (la := [some (.ref 39), some (.int (sc.2 yb1.toNatClampNeg)), some (.int (sc.2 yb2.toNatClampNeg))]) (rest := []) hi_278_182 (am_hd0 (M := 278) (by decide) 182) (Nat.le_of_ble_eq_true rfl) (Nat.le_of_ble_eq_true rfl) (show 3 ≤ am_P0.2.2.1 269 from by decide +kernel) rfl (am_recv_ok m1.fs) rfl rfl (ct_function (d := 1498) m1 hr r53.1 r53.2) ?_
  rintro v2 S2 ⟨r, rfl, m2⟩
  show am_E _ _ _ _ [some (.long 2), some (.ref 0), some (.ref 39), some (.int i)] [.int r] _ _
  obtain ⟨e3, e4⟩ := sm_en h m1 m2
  refine am_e6i hi_278_185 ?_
  refine am_e18 hi_278_186 ?_
  refine hk S2 ⟨aw, f, g, sm_sh h m1 m2, ms_self m2, hr, by omega, by omega, by omega, by omega⟩
theorem lw_outer {sc : Nat × (Nat → Int32)} {j : Nat} {S : am_S} {i : Int32} (hL : sc.1 ≤ 2048) (hi0 : i.toInt = 4 * j) (hi1 : i.toInt + 4 ≤ sc.1) (hI : LI j S) (hk : ∀ S1, LI (j + 1) S1 → am_E (am_PP sc) 1500 278 311 [some (.long 2), some (.ref 0), some (.ref 39), some (.int i)] [] S1 LQ) : am_E (am_PP sc) 1500 278 189 [some (.long 2), some (.ref 0), some (.ref 39), some (.int i)] [] S LQ := by
  obtain ⟨aw, f, g, h, m, hr, h0, w0, w1, en⟩ := hI
  have r53 := hr.2.2.2.1
  refine am_e2 (v := 0) hi_278_189 rfl ?_
  refine am_e2l hi_278_190 rfl ?_
  refine am_e1 (v := i) hi_278_191 rfl ?_
  refine am_e0 hi_278_192 ?_
  obtain ⟨ya1, hya1, tya1⟩ := am_addI (x := i) (y := 1) (m := i.toInt) (n := (1 : Int)) rfl (by decide) (by omega) (by omega)
  refine am_e10 (z := ya1) hi_278_193 hya1 ?_
  have hxa1 := mm_idx (i := ya1) (n := sc.1) (by omega) (by omega)
  refine am_e25s hi_278_194 hxa1.1 rfl hxa1.2 hL rfl ?_
  refine am_e2l hi_278_195 rfl ?_
  refine am_e1 (v := i) hi_278_196 rfl ?_
  refine am_e0 hi_278_197 ?_
  obtain ⟨ya2, hya2, tya2⟩ := am_addI (x := i) (y := 2) (m := i.toInt) (n := (2 : Int)) rfl (by decide) (by omega) (by omega)
  refine am_e10 (z := ya2) hi_278_198 hya2 ?_
  have hxa2 := mm_idx (i := ya2) (n := sc.1) (by omega) (by omega)
  refine am_e25s hi_278_199 hxa2.1 rfl hxa2.2 hL rfl ?_
  refine am_e2l hi_278_200 rfl ?_
  refine am_e1 (v := i) hi_278_201 rfl ?_
  refine am_e0 hi_278_202 ?_
  obtain ⟨ya3, hya3, tya3⟩ := am_addI (x := i) (y := 3) (m := i.toInt) (n := (3 : Int)) rfl (by decide) (by omega) (by omega)
  refine am_e10 (z := ya3) hi_278_203 hya3 ?_
  have hxa3 := mm_idx (i := ya3) (n := sc.1) (by omega) (by omega)
  refine am_e25s hi_278_204 hxa3.1 rfl hxa3.2 hL rfl ?_
  refine am_e32n (d := 1499) (as := [.ref 0, .int (sc.2 ya1.toNatClampNeg), .int (sc.2 ya2.toNatClampNeg), .int (sc.2 ya3.toNatClampNeg)]) (la := [some (.ref 0), some (.int (sc.2 ya1.toNatClampNeg)), some (.int (sc.2 ya2.toNatClampNeg)), some (.int (sc.2 ya3.toNatClampNeg)), none]) (rest := []) hi_278_205 (am_hd0 (M := 278) (by decide) 205) (Nat.le_of_ble_eq_true rfl) (Nat.le_of_ble_eq_true rfl) (show 4 ≤ am_P0.2.2.1 160 from by decide +kernel) rfl (cl_recv (h.1.s (0, 0) (by decide))) rfl rfl (ck_outer (d := 1495) h) ?_
  rintro v1 S1 ⟨q, rfl, rfl⟩
  show am_E _ _ _ _ [some (.long 2), some (.ref 0), some (.ref 39), some (.int i)] [.int q] _ _
  refine am_e6i hi_278_208 ?_
  have m1 := m
  refine am_e2 (v := 39) hi_278_209 rfl ?_
  refine am_e2l hi_278_210 rfl ?_
  refine am_e1 (v := i) hi_278_211 rfl ?_
  refine am_e0 hi_278_212 ?_
  obtain ⟨yb1, hyb1, tyb1⟩ := am_addI (x := i) (y := 1) (m := i.toInt) (n := (1 : Int)) rfl (by decide) (by omega) (by omega)
  refine am_e10 (z := yb1) hi_278_213 hyb1 ?_
  have hxb1 := mm_idx (i := yb1) (n := sc.1) (by omega) (by omega)
  refine am_e25s hi_278_214 hxb1.1 rfl hxb1.2 hL rfl ?_
  refine am_e2l hi_278_215 rfl ?_
  refine am_e1 (v := i) hi_278_216 rfl ?_
  refine am_e0 hi_278_217 ?_
  obtain ⟨yb2, hyb2, tyb2⟩ := am_addI (x := i) (y := 2) (m := i.toInt) (n := (2 : Int)) rfl (by decide) (by omega) (by omega)
  refine am_e10 (z := yb2) hi_278_218 hyb2 ?_
  have hxb2 := mm_idx (i := yb2) (n := sc.1) (by omega) (by omega)
  refine am_e25s hi_278_219 hxb2.1 rfl hxb2.2 hL rfl ?_
  refine am_e2l hi_278_220 rfl ?_
  refine am_e1 (v := i) hi_278_221 rfl ?_
  refine am_e0 hi_278_222 ?_
  obtain ⟨yb3, hyb3, tyb3⟩ := am_addI (x := i) (y := 3) (m := i.toInt) (n := (3 : Int)) rfl (by decide) (by omega) (by omega)
  refine am_e10 (z := yb3) hi_278_223 hyb3 ?_
  have hxb3 := mm_idx (i := yb3) (n := sc.1) (by omega) (by omega)
  refine am_e25s hi_278_224 hxb3.1 rfl hxb3.2 hL rfl ?_
  refine am_e32n (d := 1499) (as := [.ref 39, .int (sc.2 yb1.toNatClampNeg), .int (sc.2 yb2.toNatClampNeg), .int (sc.2 yb3.toNatClampNeg)]) (la := [some (.ref 39), some (.int (sc.2 yb1.toNatClampNeg)), some (.int (sc.2 yb2.toNatClampNeg)), some (.int (sc.2 yb3.toNatClampNeg)), none, none]) (rest := []) hi_278_225 (am_hd0 (M := 278) (by decide) 225) (Nat.le_of_ble_eq_true rfl) (Nat.le_of_ble_eq_true rfl) (show 4 ≤ am_P0.2.2.1 271 from by decide +kernel) rfl (am_recv_ok m1.fs) rfl rfl (ct_outer (d := 1498) m1 hr r53.1 r53.2) ?_
  rintro v2 S2 ⟨r, rfl, m2⟩
  show am_E _ _ _ _ [some (.long 2), some (.ref 0), some (.ref 39), some (.int i)] [.int r] _ _
  obtain ⟨e3, e4⟩ := sm_en h m1 m2
  refine am_e6i hi_278_228 ?_
  refine am_e18 hi_278_229 ?_
  refine hk S2 ⟨aw, f, g, sm_sh h m1 m2, ms_self m2, hr, by omega, by omega, by omega, by omega⟩
theorem lw_code {sc : Nat × (Nat → Int32)} {j : Nat} {S : am_S} {i : Int32} (hL : sc.1 ≤ 2048) (hi0 : i.toInt = 4 * j) (hi1 : i.toInt + 4 ≤ sc.1) (hI : LI j S) (hk : ∀ S1, LI (j + 1) S1 → am_E (am_PP sc) 1500 278 311 [some (.long 2), some (.ref 0), some (.ref 39), some (.int i)] [] S1 LQ) : am_E (am_PP sc) 1500 278 232 [some (.long 2), some (.ref 0), some (.ref 39), some (.int i)] [] S LQ := by
  obtain ⟨aw, f, g, h, m, hr, h0, w0, w1, en⟩ := hI
  have r53 := hr.2.2.2.1
  refine am_e2 (v := 0) hi_278_232 rfl ?_
  refine am_e2l hi_278_233 rfl ?_
  refine am_e1 (v := i) hi_278_234 rfl ?_
  refine am_e0 hi_278_235 ?_
  obtain ⟨ya1, hya1, tya1⟩ := am_addI (x := i) (y := 1) (m := i.toInt) (n := (1 : Int)) rfl (by decide) (by omega) (by omega)
  refine am_e10 (z := ya1) hi_278_236 hya1 ?_
  have hxa1 := mm_idx (i := ya1) (n := sc.1) (by omega) (by omega)
  refine am_e25s hi_278_237 hxa1.1 rfl hxa1.2 hL rfl ?_
  refine am_e2l hi_278_238 rfl ?_
  refine am_e1 (v := i) hi_278_239 rfl ?_
  refine am_e0 hi_278_240 ?_
  obtain ⟨ya2, hya2, tya2⟩ := am_addI (x := i) (y := 2) (m := i.toInt) (n := (2 : Int)) rfl (by decide) (by omega) (by omega)
  refine am_e10 (z := ya2) hi_278_241 hya2 ?_
  have hxa2 := mm_idx (i := ya2) (n := sc.1) (by omega) (by omega)
  refine am_e25s hi_278_242 hxa2.1 rfl hxa2.2 hL rfl ?_
  refine am_e2l hi_278_243 rfl ?_
  refine am_e1 (v := i) hi_278_244 rfl ?_
  refine am_e0 hi_278_245 ?_
  obtain ⟨ya3, hya3, tya3⟩ := am_addI (x := i) (y := 3) (m := i.toInt) (n := (3 : Int)) rfl (by decide) (by omega) (by omega)
  refine am_e10 (z := ya3) hi_278_246 hya3 ?_
  have hxa3 := mm_idx (i := ya3) (n := sc.1) (by omega) (by omega)
  refine am_e25s hi_278_247 hxa3.1 rfl hxa3.2 hL rfl ?_
  refine am_e32n (d := 1499) (as := [.ref 0, .int (sc.2 ya1.toNatClampNeg), .int (sc.2 ya2.toNatClampNeg), .int (sc.2 ya3.toNatClampNeg)]) (la := [some (.ref 0), some (.int (sc.2 ya1.toNatClampNeg)), some (.int (sc.2 ya2.toNatClampNeg)), some (.int (sc.2 ya3.toNatClampNeg)), none]) (rest := []) hi_278_248 (am_hd0 (M := 278) (by decide) 248) (Nat.le_of_ble_eq_true rfl) (Nat.le_of_ble_eq_true rfl) (show 4 ≤ am_P0.2.2.1 162 from by decide +kernel) rfl (cl_recv (h.1.s (0, 0) (by decide))) rfl rfl (ck_code (d := 1495) h) ?_
  rintro v1 S1 ⟨q, rfl, rfl⟩
  show am_E _ _ _ _ [some (.long 2), some (.ref 0), some (.ref 39), some (.int i)] [.int q] _ _
  refine am_e6i hi_278_251 ?_
  have m1 := m
  refine am_e2 (v := 39) hi_278_252 rfl ?_
  refine am_e2l hi_278_253 rfl ?_
  refine am_e1 (v := i) hi_278_254 rfl ?_
  refine am_e0 hi_278_255 ?_
  obtain ⟨yb1, hyb1, tyb1⟩ := am_addI (x := i) (y := 1) (m := i.toInt) (n := (1 : Int)) rfl (by decide) (by omega) (by omega)
  refine am_e10 (z := yb1) hi_278_256 hyb1 ?_
  have hxb1 := mm_idx (i := yb1) (n := sc.1) (by omega) (by omega)
  refine am_e25s hi_278_257 hxb1.1 rfl hxb1.2 hL rfl ?_
  refine am_e2l hi_278_258 rfl ?_
  refine am_e1 (v := i) hi_278_259 rfl ?_
  refine am_e0 hi_278_260 ?_
  obtain ⟨yb2, hyb2, tyb2⟩ := am_addI (x := i) (y := 2) (m := i.toInt) (n := (2 : Int)) rfl (by decide) (by omega) (by omega)
  refine am_e10 (z := yb2) hi_278_261 hyb2 ?_
  have hxb2 := mm_idx (i := yb2) (n := sc.1) (by omega) (by omega)
  refine am_e25s hi_278_262 hxb2.1 rfl hxb2.2 hL rfl ?_
  refine am_e2l hi_278_263 rfl ?_
  refine am_e1 (v := i) hi_278_264 rfl ?_
  refine am_e0 hi_278_265 ?_
  obtain ⟨yb3, hyb3, tyb3⟩ := am_addI (x := i) (y := 3) (m := i.toInt) (n := (3 : Int)) rfl (by decide) (by omega) (by omega)
  refine am_e10 (z := yb3) hi_278_266 hyb3 ?_
  have hxb3 := mm_idx (i := yb3) (n := sc.1) (by omega) (by omega)
  refine am_e25s hi_278_267 hxb3.1 rfl hxb3.2 hL rfl ?_
  refine am_e32n (d := 1499) (as := [.ref 39, .int (sc.2 yb1.toNatClampNeg), .int (sc.2 yb2.toNatClampNeg), .int (sc.2 yb3.toNatClampNeg)]) (la := [some (.ref 39), some (.int (sc.2 yb1.toNatClampNeg)), some (.int (sc.2 yb2.toNatClampNeg)), some (.int (sc.2 yb3.toNatClampNeg)), none]) (rest := []) hi_278_268 (am_hd0 (M := 278) (by decide) 268) (Nat.le_of_ble_eq_true rfl) (Nat.le_of_ble_eq_true rfl) (show 4 ≤ am_P0.2.2.1 272 from by decide +kernel) rfl (am_recv_ok m1.fs) rfl rfl (ct_code (d := 1498) m1 hr r53.1 r53.2) ?_
  rintro v2 S2 ⟨r, rfl, m2⟩
  show am_E _ _ _ _ [some (.long 2), some (.ref 0), some (.ref 39), some (.int i)] [.int r] _ _
  obtain ⟨e3, e4⟩ := sm_en h m1 m2
  refine am_e6i hi_278_271 ?_
  refine am_e18 hi_278_272 ?_
  refine hk S2 ⟨aw, f, g, sm_sh h m1 m2, ms_self m2, hr, by omega, by omega, by omega, by omega⟩
theorem lw_depth {sc : Nat × (Nat → Int32)} {j : Nat} {S : am_S} {i : Int32} (hL : sc.1 ≤ 2048) (hi0 : i.toInt = 4 * j) (hi1 : i.toInt + 4 ≤ sc.1) (hI : LI j S) (hk : ∀ S1, LI (j + 1) S1 → am_E (am_PP sc) 1500 278 311 [some (.long 2), some (.ref 0), some (.ref 39), some (.int i)] [] S1 LQ) : am_E (am_PP sc) 1500 278 275 [some (.long 2), some (.ref 0), some (.ref 39), some (.int i)] [] S LQ := by
  obtain ⟨aw, f, g, h, m, hr, h0, w0, w1, en⟩ := hI
  have r53 := hr.2.2.2.1
  refine am_e2 (v := 0) hi_278_275 rfl ?_
  refine am_e2l hi_278_276 rfl ?_
  refine am_e1 (v := i) hi_278_277 rfl ?_
  refine am_e0 hi_278_278 ?_
  obtain ⟨ya1, hya1, tya1⟩ := am_addI (x := i) (y := 1) (m := i.toInt) (n := (1 : Int)) rfl (by decide) (by omega) (by omega)
  refine am_e10 (z := ya1) hi_278_279 hya1 ?_
  have hxa1 := mm_idx (i := ya1) (n := sc.1) (by omega) (by omega)
  refine am_e25s hi_278_280 hxa1.1 rfl hxa1.2 hL rfl ?_
  refine am_e32n (d := 1499) (as := [.ref 0, .int (sc.2 ya1.toNatClampNeg)]) (la := [some (.ref 0), some (.int (sc.2 ya1.toNatClampNeg)), none]) (rest := []) hi_278_281 (am_hd0 (M := 278) (by decide) 281) (Nat.le_of_ble_eq_true rfl) (Nat.le_of_ble_eq_true rfl) (show 2 ≤ am_P0.2.2.1 163 from by decide +kernel) rfl (cl_recv (h.1.s (0, 0) (by decide))) rfl rfl (ck_depth (d := 1495) h) ?_
  rintro v1 S1 ⟨q, rfl, rfl⟩
  show am_E _ _ _ _ [some (.long 2), some (.ref 0), some (.ref 39), some (.int i)] [.int q] _ _
  refine am_e6i hi_278_284 ?_
  have m1 := m
  refine am_e2 (v := 39) hi_278_285 rfl ?_
  refine am_e2l hi_278_286 rfl ?_
  refine am_e1 (v := i) hi_278_287 rfl ?_
  refine am_e0 hi_278_288 ?_
  obtain ⟨yb1, hyb1, tyb1⟩ := am_addI (x := i) (y := 1) (m := i.toInt) (n := (1 : Int)) rfl (by decide) (by omega) (by omega)
  refine am_e10 (z := yb1) hi_278_289 hyb1 ?_
  have hxb1 := mm_idx (i := yb1) (n := sc.1) (by omega) (by omega)
  refine am_e25s hi_278_290 hxb1.1 rfl hxb1.2 hL rfl ?_
  refine am_e32n (d := 1499) (as := [.ref 39, .int (sc.2 yb1.toNatClampNeg)]) (la := [some (.ref 39), some (.int (sc.2 yb1.toNatClampNeg)), none, none, none, none]) (rest := []) hi_278_291 (am_hd0 (M := 278) (by decide) 291) (Nat.le_of_ble_eq_true rfl) (Nat.le_of_ble_eq_true rfl) (show 2 ≤ am_P0.2.2.1 273 from by decide +kernel) rfl (am_recv_ok m1.fs) rfl rfl (ct_depth (d := 1498) m1 hr r53.1 r53.2) ?_
  rintro v2 S2 ⟨r, rfl, m2⟩
  show am_E _ _ _ _ [some (.long 2), some (.ref 0), some (.ref 39), some (.int i)] [.int r] _ _
  obtain ⟨e3, e4⟩ := sm_en h m1 m2
  refine am_e6i hi_278_294 ?_
  refine am_e18 hi_278_295 ?_
  refine hk S2 ⟨aw, f, g, sm_sh h m1 m2, ms_self m2, hr, by omega, by omega, by omega, by omega⟩
theorem lw_flaws {sc : Nat × (Nat → Int32)} {j : Nat} {S : am_S} {i : Int32} (hL : sc.1 ≤ 2048) (hi0 : i.toInt = 4 * j) (hi1 : i.toInt + 4 ≤ sc.1) (hI : LI j S) (hk : ∀ S1, LI (j + 1) S1 → am_E (am_PP sc) 1500 278 311 [some (.long 2), some (.ref 0), some (.ref 39), some (.int i)] [] S1 LQ) : am_E (am_PP sc) 1500 278 298 [some (.long 2), some (.ref 0), some (.ref 39), some (.int i)] [] S LQ := by
  obtain ⟨aw, f, g, h, m, hr, h0, w0, w1, en⟩ := hI
  have r53 := hr.2.2.2.1
  refine am_e2 (v := 0) hi_278_298 rfl ?_
  refine am_e32n (d := 1499) (as := [.ref 0]) (la := [some (.ref 0)]) (rest := []) hi_278_299 (am_hd0 (M := 278) (by decide) 299) (Nat.le_of_ble_eq_true rfl) (Nat.le_of_ble_eq_true rfl) (show 1 ≤ am_P0.2.2.1 166 from by decide +kernel) rfl (cl_recv (h.1.s (0, 0) (by decide))) rfl rfl (ck_flaws (d := 1491) h) ?_
  rintro v1 S1 ⟨q, rfl, rfl⟩
  show am_E _ _ _ _ [some (.long 2), some (.ref 0), some (.ref 39), some (.int i)] [.int q] _ _
  refine am_e6i hi_278_302 ?_
  have m1 := m
  refine am_e2 (v := 39) hi_278_303 rfl ?_
  refine am_e32n (d := 1499) (as := [.ref 39]) (la := [some (.ref 39), none, none, none, none, none, none, none]) (rest := []) hi_278_304 (am_hd0 (M := 278) (by decide) 304) (Nat.le_of_ble_eq_true rfl) (Nat.le_of_ble_eq_true rfl) (show 1 ≤ am_P0.2.2.1 275 from by decide +kernel) rfl (am_recv_ok m1.fs) rfl rfl (ct_flaws (d := 1497) m1 hr r53.1 r53.2) ?_
  rintro v2 S2 ⟨r, rfl, m2⟩
  show am_E _ _ _ _ [some (.long 2), some (.ref 0), some (.ref 39), some (.int i)] [.int r] _ _
  obtain ⟨e3, e4⟩ := sm_en h m1 m2
  refine am_e6i hi_278_307 ?_
  refine am_e18 hi_278_308 ?_
  refine hk S2 ⟨aw, f, g, sm_sh h m1 m2, ms_self m2, hr, by omega, by omega, by omega, by omega⟩
theorem lw_loop {sc : Nat × (Nat → Int32)} (hL : sc.1 ≤ 2048) : ∀ (N j : Nat) (S : am_S) (i : Int32), i.toInt = 4 * j → LI j S → j ≤ 512 → 513 - j < N → am_E (am_PP sc) 1500 278 18 [some (.long 2), some (.ref 0), some (.ref 39), some (.int i)] [] S LQ := by
  intro N
  induction N with
  | zero => intro j S i _ _ _ hN; omega
  | succ N ih =>
    intro j S i hi hI hj hN
    refine am_e1 (v := i) hi_278_18 rfl ?_
    refine am_e2l hi_278_19 rfl ?_
    obtain ⟨z, hz, tz⟩ := of_nat (n := sc.1) (by omega)
    refine am_e24s hi_278_20 hL hz ?_
    refine am_e0 hi_278_21 ?_
    obtain ⟨w, hw, tw⟩ := am_subI (x := z) (y := 4) (m := z.toInt) (n := (4 : Int)) rfl (by decide) (by omega) (by omega)
    refine am_e10 (z := w) hi_278_22 hw ?_
    by_cases c1 : w.toInt < i.toInt
    · refine am_e13t hi_278_23 (am_cT (m := i.toInt) (n := w.toInt) rfl rfl c1) ?_
      refine am_e0 hi_278_317 ?_
      refine am_e36 hi_278_318 (by decide) ⟨rfl, ?_⟩
      obtain ⟨aw, f, g, h, m, hr, h0, w0, w1, en⟩ := hI
      have := en_lo h
      omega
    · refine am_e13f hi_278_23 (am_cF (m := i.toInt) (n := w.toInt) rfl rfl c1) ?_
      have hi1 : i.toInt + 4 ≤ sc.1 := by omega
      have hk : ∀ S1, LI (j + 1) S1 → am_E (am_PP sc) 1500 278 311 [some (.long 2), some (.ref 0), some (.ref 39), some (.int i)] [] S1 LQ := by
        intro S1 h1
        obtain ⟨y, hy, ty⟩ := am_addI (x := i) (y := 4) (m := i.toInt) (n := (4 : Int)) rfl (by decide) (by omega) (by omega)
        refine am_e5 (v := i) (z := y) (ls' := [some (.long 2), some (.ref 0), some (.ref 39), some (.int y)]) hi_278_311 rfl hy rfl ?_
        refine am_e18 hi_278_314 ?_
        exact ih (j + 1) S1 y (by omega) h1 (by omega) (by omega)
      refine am_e2l hi_278_26 rfl ?_
      refine am_e1 (v := i) hi_278_27 rfl ?_
      have hx := mm_idx (i := i) (n := sc.1) (by omega) (by omega)
      refine am_e25s hi_278_28 hx.1 rfl hx.2 hL rfl ?_
      refine am_e0 hi_278_29 ?_
      obtain ⟨q, hq⟩ : ∃ q__, am_bin 3 (sc.2 i.toNatClampNeg) 15 = q__ := ⟨_, rfl⟩
      refine am_e10 (z := q) hi_278_31 hq ?_
      by_cases c10 : q.toInt = 0
      · refine am_e19 (t := 84) hi_278_32 (am_swI (v := q) (w := 0) (by decide) (by decide) c10) ?_
        exact lw_word hL hi hi1 hI hk
      by_cases c11 : q.toInt = 1
      · refine am_e19 (t := 117) hi_278_32 (am_swI (v := q) (w := 1) (by decide) (by decide) c11) ?_
        exact lw_compile hL hi hi1 hI hk
      by_cases c12 : q.toInt = 2
      · refine am_e19 (t := 130) hi_278_32 (am_swI (v := q) (w := 2) (by decide) (by decide) c12) ?_
        exact lw_place hL hi hi1 hI hk
      by_cases c13 : q.toInt = 3
      · refine am_e19 (t := 143) hi_278_32 (am_swI (v := q) (w := 3) (by decide) (by decide) c13) ?_
        exact lw_functions hL hi hi1 hI hk
      by_cases c14 : q.toInt = 4
      · refine am_e19 (t := 156) hi_278_32 (am_swI (v := q) (w := 4) (by decide) (by decide) c14) ?_
        exact lw_function hL hi hi1 hI hk
      by_cases c15 : q.toInt = 5
      · refine am_e19 (t := 189) hi_278_32 (am_swI (v := q) (w := 5) (by decide) (by decide) c15) ?_
        exact lw_outer hL hi hi1 hI hk
      by_cases c16 : q.toInt = 6
      · refine am_e19 (t := 232) hi_278_32 (am_swI (v := q) (w := 6) (by decide) (by decide) c16) ?_
        exact lw_code hL hi hi1 hI hk
      by_cases c17 : q.toInt = 7
      · refine am_e19 (t := 275) hi_278_32 (am_swI (v := q) (w := 7) (by decide) (by decide) c17) ?_
        exact lw_depth hL hi hi1 hI hk
      by_cases c18 : q.toInt = 8
      · refine am_e19 (t := 298) hi_278_32 (am_swI (v := q) (w := 8) (by decide) (by decide) c18) ?_
        exact lw_flaws hL hi hi1 hI hk
      refine am_e19 (t := 311) hi_278_32 (am_swK (v := q) (ks := [0, 1, 2, 3, 4, 5, 6, 7, 8]) (by decide) (by intro k hk2; simp only [List.mem_cons, List.not_mem_nil, or_false] at hk2; rcases hk2 with rfl | rfl | rfl | rfl | rfl | rfl | rfl | rfl | rfl <;> omega)) ?_
      obtain ⟨aw, f, g, h, m, hr, h0, w0, w1, en⟩ := hI
      exact hk S ⟨aw, f, g, h, m, hr, h0, w0, by omega, by omega⟩
theorem lw_all1 {L : Nat} {xs : Nat → Int32} {S1 : am_S} (hL : L ≤ 2048) (a1 : am_R am_X0 1499 0 0 [some (.ref 0), none] [] am_z0 (some none) S1) (a2 : S1.1.length = 39) (a3 : S1.2.1 = 39) (a4 : S1.2.2 = 522) (nF : ∀ k, k < 39 → am_fs S1 k = st_F k) (nA : ∀ k, k < 39 → am_arq S1 k = st_A k) (nR : ∀ k, k < 39 → am_rar S1 k = st_R k) (g0 : am_rrf S1 38 0 = some 33) (g1 : ∀ i b, am_rrf S1 38 i = some b → b = 33) : ∃ S' : am_S, am_R (am_PP (L, xs)) 1500 278 0 (am_in [.long 2] 4) [] ([], 0, 0) (some (some (.int 1))) S' ∧ S'.2.1 ≤ 61024 ∧ S'.2.2 ≤ 8913034 := by
  have hE : am_E (am_PP (L, xs)) 1500 278 18 [some (.long 2), some (.ref 0), some (.ref 39), some (.int 0)] [] (nm_S S1) LQ := by
    refine lw_loop (sc := (L, xs)) hL 514 0 (nm_S S1) 0 rfl ?_ (by decide) (by decide)
    obtain ⟨e1, e2⟩ := en_start a2 nF nA a3 a4
    exact ⟨4, st_f, st_g, sh_start a2 nF nA nR g0 g1, ms_start a2, ri_start, by rw [e2]; rfl, by omega, by omega, by omega⟩
  obtain ⟨o, S', ⟨n, hrun⟩, rfl, hb⟩ := hE
  have hup := am_run_up _ _ _ _ _ _ _ _ _ _ hrun
  have hs : (nm_S S1).2.2 = 1291864 := by
    show S1.2.2 + 1291342 = 1291864
    rw [a4]
  rw [hs] at hup
  refine ⟨S', ?_, by omega, by omega⟩
  have hm : am_E (am_PP (L, xs)) 1499 173 0 [some (.ref 39)] [] (am_ap S1 [.inr (.inr (11, am_nb 11))] 1 77) (am_N fun v S9 => v = none ∧ S9 = nm_S S1) := nm_0 (d := 1498) a2
  obtain ⟨o2, S2, r2, q2⟩ := hm
  cases o2 with
  | none => exact (show False from q2).elim
  | some v2 =>
    obtain ⟨rfl, rfl⟩ := q2
    show am_R _ _ _ _ [some (.long 2), none, none, none] _ _ _ _
    refine am_q22 (k := 0) (S1 := am_z0) hi_278_0 rfl rfl ?_
    refine am_q7 hi_278_3 ?_
    refine am_q32 (d := 1499) (v := none) (S1 := S1) (as := [.ref 0]) (la := [some (.ref 0), none]) (rest := [.ref 0]) hi_278_4 (Nat.le_of_ble_eq_true rfl) (Nat.le_of_ble_eq_true rfl) (show 1 ≤ am_P0.2.2.1 0 from by decide +kernel) rfl rfl rfl rfl (am_R_sc a1) ?_
    show am_R _ _ _ _ [some (.long 2), none, none, none] [.ref 0] _ _ _
    refine am_q4 (ls' := [some (.long 2), some (.ref 0), none, none]) hi_278_7 (Nat.le_of_ble_eq_true rfl) rfl ?_
    refine am_q22 (k := 39) (S1 := am_ap S1 [.inr (.inr (11, am_nb 11))] 1 77) hi_278_8 a2 rfl ?_
    refine am_q7 hi_278_11 ?_
    refine am_q32 (d := 1499) (v := none) (S1 := nm_S S1) (as := [.ref 39]) (la := [some (.ref 39)]) (rest := [.ref 39]) hi_278_12 (Nat.le_of_ble_eq_true rfl) (Nat.le_of_ble_eq_true rfl) (show 1 ≤ am_P0.2.2.1 173 from by decide +kernel) rfl rfl rfl rfl r2 ?_
    show am_R _ _ _ _ [some (.long 2), some (.ref 0), none, none] [.ref 39] _ _ _
    refine am_q4 (ls' := [some (.long 2), some (.ref 0), some (.ref 39), none]) hi_278_15 (Nat.le_of_ble_eq_true rfl) rfl ?_
    refine am_q0 hi_278_16 ?_
    refine am_q3 (ls' := [some (.long 2), some (.ref 0), some (.ref 39), some (.int 0)]) hi_278_17 (Nat.le_of_ble_eq_true rfl) rfl ?_
    exact ⟨n, hrun⟩
theorem lw_all {L : Nat} {xs : Nat → Int32} (hL : L ≤ 2048) : ∃ S' : am_S, am_R (am_PP (L, xs)) 1500 278 0 (am_in [.long 2] 4) [] ([], 0, 0) (some (some (.int 1))) S' ∧ S'.2.1 ≤ 61024 ∧ S'.2.2 ≤ 8913034 :=
  lw_all1 (S1 := am_S1) hL (am_oS_R am_new1.1) am_new1.2.1 am_new1.2.2.1 am_new1.2.2.2 am_newF am_newA am_newR am_newG.1 am_newG1
