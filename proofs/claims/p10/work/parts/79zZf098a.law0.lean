/-! THE LAW: class and reference side by side -/
theorem ma_all : (List.range 54).all (fun i => mm_ar.any (fun q => Nat.beq q.2.1 (40 + i))) = true := by decide +kernel
theorem ms_in {S0 S : am_S} {f : Nat → Int32} {g : Nat → Nat → Int32} {k : Nat} (h : MS S0 S f g) (h1 : 40 ≤ k) (h2 : k < 94) : ∃ q ∈ mm_ar, q.2.1 = k ∧ S.1[k]? = some (.inl (q.2.2.1, q.2.2.2, g q.1)) := by
  have ha := List.all_eq_true.mp ma_all (k - 40) (List.mem_range.mpr (by omega))
  obtain ⟨q, hq, he⟩ := List.any_eq_true.mp ha
  have he2 : q.2.1 = k := by
    have := Nat.eq_of_beq_eq_true he
    omega
  exact ⟨q, hq, he2, by rw [← he2]; exact h.2.1 q hq⟩
theorem ms_ex {S S1 : am_S} {f : Nat → Int32} {g : Nat → Nat → Int32} (h : MS S S f g) (e : Ex S S1) : MS S1 S1 f g := by
  refine ⟨?_, fun q hq => ?_, rfl, rfl, fun _ _ => rfl⟩
  · have h1 := h.1
    unfold am_fs at h1 ⊢
    rw [e.2.1 39 (by decide) (by decide)]
    exact h1
  · have h2 := ma_in hq
    rw [e.2.1 _ (by omega) h2.2]
    exact h.2.1 q hq
theorem ms_self {S S1 : am_S} {f : Nat → Int32} {g : Nat → Nat → Int32} (h : MS S S1 f g) : MS S1 S1 f g := ⟨h.1, h.2.1, rfl, rfl, fun _ _ => rfl⟩
section SM
variable {S1 S2 : am_S} {f f' : Nat → Int32} {g g' : Nat → Nat → Int32} {aw : Nat}
theorem sm_fs (m2 : MS S1 S2 f' g') {k : Nat} (hk : k < 39 ∨ 94 ≤ k) : am_fs S2 k = am_fs S1 k := by
  unfold am_fs
  rw [m2.2.2.2.2 k hk]
theorem sm_fs_or {S0 S : am_S} (m : MS S0 S f g) {k c : Nat} {fs : List Value} (h : am_fs S k = some (c, fs)) : (k < 39 ∨ 94 ≤ k) ∨ (k = 39 ∧ c = 11) := by
  by_cases hk : k < 39 ∨ 94 ≤ k
  · exact Or.inl hk
  · right
    by_cases h39 : k = 39
    · subst h39
      rw [m.1] at h
      cases h
      exact ⟨rfl, rfl⟩
    · obtain ⟨q, -, -, hq⟩ := ms_in m (k := k) (by omega) (by omega)
      unfold am_fs at h
      rw [hq] at h
      cases h
theorem sm_rar_or {S0 S : am_S} (m : MS S0 S f g) {k n : Nat} (h : am_rar S k = some n) : k < 39 ∨ 94 ≤ k := by
  by_cases hk : k < 39 ∨ 94 ≤ k
  · exact hk
  · exfalso
    unfold am_rar at h
    by_cases h39 : k = 39
    · subst h39
      rw [am_fs_ok m.1] at h
      cases h
    · obtain ⟨q, -, -, hq⟩ := ms_in m (k := k) (by omega) (by omega)
      rw [hq] at h
      cases h
theorem sm_rrf_or {S0 S : am_S} (m : MS S0 S f g) {k i b : Nat} (h : am_rrf S k i = some b) : k < 39 ∨ 94 ≤ k := by
  have hr : ∃ n, am_rar S k = some n := by
    unfold am_rrf at h
    unfold am_rar
    rcases hc : S.1[k]? with _ | (q | (q | q))
    · rw [hc] at h; cases h
    · rw [hc] at h; cases h
    · exact ⟨_, rfl⟩
    · rw [hc] at h; cases h
  obtain ⟨n, hn⟩ := hr
  exact sm_rar_or m hn
theorem sm_cl (m1 : MS S1 S1 f g) (m2 : MS S1 S2 f' g') {k c : Nat} (h : cl (am_fs S1) k = some c) : cl (am_fs S2) k = some c := by
  obtain ⟨fs, hf⟩ := cl_of h
  rcases sm_fs_or m1 hf with hk | ⟨rfl, rfl⟩
  · rw [← sm_fs m2 hk] at hf
    exact cl_mk hf
  · exact cl_mk m2.1
theorem sm_arq (m1 : MS S1 S1 f g) (m2 : MS S1 S2 f' g') {k : Nat} {q : Bool × Nat} (h : am_arq S1 k = some q) : am_arq S2 k = some q := by
  by_cases hk : k < 39 ∨ 94 ≤ k
  · unfold am_arq at h ⊢
    rw [m2.2.2.2.2 k hk]
    exact h
  · by_cases h39 : k = 39
    · subst h39
      unfold am_arq at h
      rw [am_fs_ok m1.1] at h
      cases h
    · obtain ⟨q1, h1, h2, h3⟩ := ms_in m1 (k := k) (by omega) (by omega)
      have h4 := m2.2.1 q1 h1
      rw [h2] at h4
      unfold am_arq at h ⊢
      rw [h3] at h
      rw [h4]
      exact h
theorem sm_rar (m2 : MS S1 S2 f' g') {k : Nat} (hk : k < 39 ∨ 94 ≤ k) : am_rar S2 k = am_rar S1 k := by
  unfold am_rar
  rw [m2.2.2.2.2 k hk]
theorem sm_rrf (m2 : MS S1 S2 f' g') {k : Nat} (hk : k < 39 ∨ 94 ≤ k) : am_rrf S2 k = am_rrf S1 k := by
  unfold am_rrf
  rw [m2.2.2.2.2 k hk]
theorem sm_sh (h : SH aw S1) (m1 : MS S1 S1 f g) (m2 : MS S1 S2 f' g') : SH aw S2 := by
  have hm : ∀ j c', cl (am_fs S1) j = some c' → cl (am_fs S2) j = some c' := fun j c' q => sm_cl m1 m2 q
  have hA : ∀ a q, am_arq S1 a = some q → am_arq S2 a = some q := fun a q z => sm_arq m1 m2 z
  have hR : ∀ a q, am_rar S1 a = some q → am_rar S2 a = some q := fun a q z => by rw [sm_rar m2 (h.1.rr a q z)]; exact z
  have hc : ∀ k, k < 39 → c_al (am_fs S1) (am_rar S1) (am_rrf S1) k → c_al (am_fs S2) (am_rar S2) (am_rrf S2) k := by
    rintro k hk ⟨ed, sz, mc, e1, b1, b2, e2⟩
    refine ⟨ed, sz, mc, by rw [sm_fs m2 (Or.inl hk)]; exact e1, b1, b2, ?_⟩
    rcases e2 with e2 | ⟨a', n', ea, hr, hle, hn, hel⟩
    · exact Or.inl e2
    · exact Or.inr ⟨a', n', ea, hR _ _ hr, hle, hn, fun i hi => by rw [sm_rrf m2 (h.1.rr a' n' hr)]; exact hel i hi⟩
  refine ⟨⟨fun k c fs q => ?_, fun p hp => hm _ _ (h.1.s p hp), fun k a r q => ?_, ?_, hc 6 (by decide) h.1.l6, hc 13 (by decide) h.1.l13, fun a q1 q2 q3 q4 e => ?_, fun a i b q => ?_, fun j c fs q h1 h2 => ?_, fun a n q => sm_rar_or m2 q, ?_⟩, by rw [m2.2.2.2.1]; exact h.2⟩
  · rcases sm_fs_or m2 q with hk | ⟨rfl, rfl⟩
    · rw [sm_fs m2 hk] at q
      rcases h.1.t k c fs q with e | ⟨e1, e2⟩
      · exact Or.inl e
      · exact Or.inr ⟨e1, c_f_mono hm hA hR e2⟩
    · exact Or.inl rfl
  · rcases sm_fs_or m2 q with hk | ⟨-, e⟩
    · rw [sm_fs m2 hk] at q
      obtain ⟨n, b1, b2⟩ := h.1.tb k a r q
      exact ⟨n, hA _ _ b1, b2⟩
    · cases e
  · obtain ⟨r, hr⟩ := h.1.aw
    exact ⟨r, by rw [sm_fs m2 (Or.inl (by decide))]; exact hr⟩
  · rw [sm_fs m2 (Or.inl (by decide))] at e ⊢
    exact h.1.ld a q1 q2 q3 q4 e
  · have hk := sm_rrf_or m2 q
    rw [sm_rrf m2 hk] at q
    exact hm _ _ (h.1.rg a i b q)
  · rcases sm_fs_or m2 q with hk | ⟨-, e⟩
    · omega
    · exact e
  · obtain ⟨k1, c1, m3, s1, q1, e1, e2, e3⟩ := h.1.ct
    exact ⟨k1, c1, m3, s1, q1, by rw [sm_fs m2 (Or.inl (by decide))]; exact e1, by rw [sm_fs m2 (Or.inl (by decide))]; exact e2, e3⟩
theorem sm_iv (m2 : MS S1 S2 f' g') {k i : Nat} (hk : k < 39) : iv S2 k i = iv S1 k i := by
  unfold iv
  rw [sm_fs m2 (Or.inl hk)]
theorem sm_en (h : SH aw S1) (m1 : MS S1 S1 f g) (m2 : MS S1 S2 f' g') : EN S2 = EN S1 ∧ wr S2 = wr S1 := by
  refine ⟨?_, sm_iv m2 (by decide)⟩
  have e : ∀ k, c_phi (am_fs S2) (am_arq S2) k = c_phi (am_fs S1) (am_arq S1) k := by
    intro k
    by_cases hk : k < 39 ∨ 94 ≤ k
    · unfold c_phi
      rw [sm_fs m2 hk]
      split
      · rename_i a r hq
        obtain ⟨n, b1, -⟩ := h.1.tb k a r hq
        rw [b1, sm_arq m1 m2 b1]
      · rfl
    · have z : ∀ {S0 S : am_S} {f0 : Nat → Int32} {g0 : Nat → Nat → Int32}, MS S0 S f0 g0 → c_phi (am_fs S) (am_arq S) k = 0 := by
        intro S0 S f0 g0 m
        cases hq : am_fs S k with
        | none => unfold c_phi; rw [hq]
        | some q =>
          obtain ⟨c, fs⟩ := q
          rcases sm_fs_or m hq with e | ⟨-, rfl⟩
          · exact absurd e hk
          · unfold c_phi
            rw [hq]
            split
            · rename_i y; cases y
            · rfl
      rw [z m1, z m2]
  unfold EN
  rw [sm_iv m2 (by decide), sm_iv m2 (by decide), m2.2.2.2.1, c_sum_ext _ (fun j _ => e j), m2.2.2.1]
end SM
theorem en_lo {aw : Nat} {S : am_S} (h : SH aw S) : 128 * (S.2.1 : Int) + S.2.2 ≤ EN S := by
  obtain ⟨a, r, n, -, -, b0, -, -, -, -, -, b6, -⟩ := h.tab (h.1.s (8, 3) (by decide))
  obtain ⟨a', r', n', -, -, b0', -, -, -, -, -, b6', -⟩ := h.tab (h.1.s (10, 3) (by decide))
  have b8 : r.toInt = iv S 8 1 := b6
  have b10 : r'.toInt = iv S 10 1 := b6'
  have hs := c_sum_nn (c_phi_nn (am_fs S) (am_arq S)) S.1.length
  unfold EN
  omega
theorem ri_word {f : Nat → Int32} {g g' : Nat → Nat → Int32} {z : Int32} (h : RI f g) (hg : ∀ j, j ∉ [1, 2] → g' j = g j) : RI (upd f 0 z) g' := by
  have e : ∀ j, j ≠ 0 → upd f 0 z j = f j := fun j hj => by unfold upd; rw [if_neg hj]
  unfold RI at h ⊢
  rw [hg 16 (by decide), hg 17 (by decide), hg 18 (by decide), hg 26 (by decide), hg 34 (by decide), hg 35 (by decide), hg 36 (by decide), hg 38 (by decide), hg 39 (by decide), hg 40 (by decide), hg 51 (by decide), hg 67 (by decide), hg 63 (by decide), hg 61 (by decide), hg 60 (by decide), hg 74 (by decide), e 19 (by decide), e 53 (by decide), e 62 (by decide)]
  exact h
/-- what holds between two calls of the law -/
def LI (j : Nat) (S : am_S) : Prop := ∃ aw f g, SH aw S ∧ MS S S f g ∧ RI f g ∧ (f 0).toInt = wr S ∧ 0 ≤ wr S ∧ wr S ≤ j ∧ EN S + 10000 * wr S ≤ 1303896 + 10160 * j
def LQ : Option (Option Value) → am_S → Prop := fun o S' => o = some (some (.int 1)) ∧ 128 * (S'.2.1 : Int) + S'.2.2 ≤ 6505816
