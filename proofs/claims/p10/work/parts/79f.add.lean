/-! A ROW IS ADDED -/
section ADD
variable {sc : Nat × (Nat → Int32)} {N d : Nat} {A : Nat → Nat} {K : Nat} {S : am_S} {s : cS} {t : cT}
theorem lc24 {x y : Int32} : am_L (am_PP sc) N d 24 0 [some (.int x), some (.int y)] [] S (fun o S1 => S1 = S ∧ o = some (some (.int (if x ≤ y then x else y)))) := by
  refine l1 (v := x) hi_24_0 rfl ?_
  refine l1 (v := y) hi_24_1 rfl ?_
  by_cases c1 : y < x
  · refine l13t hi_24_2 (decide_eq_true c1) ?_
    refine l1 (v := y) hi_24_9 rfl ?_
    refine l33 hi_24_10 ⟨rfl, ?_⟩
    rw [if_neg]
    rw [i_le]; rw [i_lt] at c1; omega
  · refine l13f hi_24_2 (decide_eq_false c1) ?_
    refine l1 (v := x) hi_24_5 rfl ?_
    refine l18 hi_24_6 ?_
    refine l33 hi_24_10 ⟨rfl, ?_⟩
    rw [if_pos]
    rw [i_le]; rw [i_lt] at c1; omega
theorem lc32 {b n : Nat} {g : Nat → Int32} {m : Int32} (hb : S.1[b]? = some (.inl (false, n, g))) (hn : n ≤ 16777216) (hm : ¬ m = Int32.ofNat n) : am_L (am_PP sc) N d 32 0 [some (.ref b), some (.int m), none] [] S (fun o S1 => o = some (some (.ref S.1.length)) ∧ S1.1.length = S.1.length + 1 ∧ (∀ k, k < S.1.length → S1.1[k]? = S.1[k]?) ∧ ∃ g1, S1.1[S.1.length]? = some (.inl (false, m.toNatClampNeg, g1)) ∧ ∀ j : Nat, (j : Int) < n → (j : Int) < m.toInt → g1 j = g j) := by
  refine l1 (v := m) hi_32_0 rfl ?_
  refine l2 (v := b) hi_32_1 rfl ?_
  refine l24 hi_32_2 hb ?_
  refine l13t hi_32_3 (decide_eq_true hm) ?_
  refine l1 (v := m) hi_32_14 rfl ?_
  refine l23 hi_32_15 (fun m0 m1 => ?_)
  refine l4 (ls' := [some (.ref b), some (.int m), some (.ref S.1.length)]) hi_32_17 (Nat.le_of_ble_eq_true rfl) rfl ?_
  have hbl := am_ltl hb
  have hb1 : (S.1 ++ [(.inl (decide (0 = 1), m.toNatClampNeg, fun _ => 0) : am_C)])[b]? = some (.inl (false, n, g)) := by
    rw [List.getElem?_append_left hbl]; exact hb
  have hn1 : (S.1 ++ [(.inl (decide (0 = 1), m.toNatClampNeg, fun _ => 0) : am_C)])[S.1.length]? = some (.inl (false, m.toNatClampNeg, fun _ => 0)) := by
    rw [List.getElem?_append_right (Nat.le_refl _), Nat.sub_self]; rfl
  refine l2 (v := b) hi_32_18 rfl ?_
  refine l0 hi_32_19 ?_
  refine l2 (v := S.1.length) hi_32_20 rfl ?_
  refine l0 hi_32_21 ?_
  refine l2 (v := b) hi_32_22 rfl ?_
  refine l24 hi_32_23 hb1 ?_
  refine l1 (v := m) hi_32_24 rfl ?_
  refine l32 (as := [.int (Int32.ofNat n), .int m]) (la := [some (.int (Int32.ofNat n)), some (.int m)]) (rest := [.int 0, .ref S.1.length, .int 0, .ref b]) hi_32_25 (am_hd0 (M := 32) (by decide) 25) rfl rfl rfl (fun N' d' _ => lc24 (N := N') (d := d')) ?_ (fun _ q => nomatch q.2)
  rintro v S1 ⟨rfl, ev⟩
  cases ev
  refine l41 hi_32_28 hb1 hn1 (fun q => ?_)
  refine l2 (v := S.1.length) hi_32_31 rfl ?_
  refine l34 hi_32_32 ⟨rfl, ?_, fun k hk => ?_, _, sa_eq hn1, fun j h1 h2 => ?_⟩
  · rw [sa_ln]
    show (S.1 ++ _).length = _
    rw [List.length_append]
    rfl
  · rw [sa_ne (by omega)]
    show (S.1 ++ _)[k]? = _
    rw [List.getElem?_append_left hk]
  · have e : (if Int32.ofNat n ≤ m then Int32.ofNat n else m).toNatClampNeg = (if Int32.ofNat n ≤ m then Int32.ofNat n else m).toInt.toNat := rfl
    have h3 := i_nat hn
    have h4 : (j : Int) < (if Int32.ofNat n ≤ m then Int32.ofNat n else m).toInt := by
      split
      · omega
      · exact h2
    show va_cpy g (fun _ => 0) 0 0 _ j = g j
    unfold va_cpy
    rw [if_pos ⟨Nat.zero_le _, by rw [e]; omega⟩]
    congr 1
    omega
theorem i4 {r : Int32} (h0 : 0 ≤ r.toInt) (h1 : r.toInt ≤ 1048576) : (r * 4).toInt = 4 * r.toInt := by
  have e4 : (4 : Int32).toInt = 4 := rfl
  rw [i_mul rfl e4 (by omega) (by omega)]
  omega
/-- the cells are written -/
theorem tad_go {B : cT → Nat} {S1 : am_S} {b' k' : Nat} {g' : Nat → Int32} {v1 v2 v3 v4 : Int32} (h : CMB A B K S s) (ht : cTl K t) (h20 : s.r t < 1048576) (hb : b' = B t ∨ S.1.length ≤ b') (hl : S.1.length ≤ S1.1.length) (hs : ∀ k, k < S.1.length → k ≠ cTa A t → S1.1[k]? = S.1[k]?) (ho : am_fs S1 (cTa A t) = some (3, [.ref b', .int (s.r t)])) (ha : S1.1[b']? = some (.inl (false, 32 * 2 ^ k', g'))) (hk : k' ≤ 17) (h4 : 4 * (s.r t).toInt + 4 ≤ ((32 * 2 ^ k' : Nat) : Int)) (hg : ∀ j : Nat, (j : Int) < 4 * (s.r t).toInt → g' j = s.c t j) (ne : cTa A t ≠ b') :
    am_L (am_PP sc) N d 31 52 [some (.ref (cTa A t)), some (.int v1), some (.int v2), some (.int v3), some (.int v4), some (.int (s.r t * 4))] [] S1 (fun o S' => o = some (some (.int (tad s t v1 v2 v3 v4).2)) ∧ CM A K S' (tad s t v1 v2 v3 v4).1) := by
  obtain ⟨r0, r1⟩ := h.lim ht
  have e := i4 r0 r1
  have i1 : (s.r t * 4 + 1).toInt = 4 * (s.r t).toInt + 1 := i_add e rfl (by omega) (by omega)
  have i2 : (s.r t * 4 + 2).toInt = 4 * (s.r t).toInt + 2 := i_add e rfl (by omega) (by omega)
  have i3 : (s.r t * 4 + 3).toInt = 4 * (s.r t).toInt + 3 := i_add e rfl (by omega) (by omega)
  have n0 : (s.r t * 4).toNatClampNeg = 4 * (s.r t).toInt.toNat := by show (s.r t * 4).toInt.toNat = _; rw [e]; omega
  have n1 : (s.r t * 4 + 1).toNatClampNeg = 4 * (s.r t).toInt.toNat + 1 := by show (s.r t * 4 + 1).toInt.toNat = _; rw [i1]; omega
  have n2 : (s.r t * 4 + 2).toNatClampNeg = 4 * (s.r t).toInt.toNat + 2 := by show (s.r t * 4 + 2).toInt.toNat = _; rw [i2]; omega
  have n3 : (s.r t * 4 + 3).toNatClampNeg = 4 * (s.r t).toInt.toNat + 3 := by show (s.r t * 4 + 3).toInt.toNat = _; rw [i3]; omega
  have ot : ∀ (S2 : am_S) (n : Nat) (f : Nat → Int32), am_fs S2 (cTa A t) = some (3, [.ref b', .int (s.r t)]) → am_fs (cm_sa S2 b' false n f) (cTa A t) = some (3, [.ref b', .int (s.r t)]) := fun S2 n f h2 => by rw [fs_of (sa_ne ne)]; exact h2
  refine l2 (v := cTa A t) hi_31_52 rfl ?_
  refine l20r (v := .ref b') hi_31_53 ho rfl ?_
  refine l1 (v := s.r t * 4) hi_31_56 rfl ?_
  refine l1 (v := v1) hi_31_58 rfl ?_
  refine l26r hi_31_59 ha (fun _ _ => ?_)
  have o1 := ot _ (32 * 2 ^ k') (upd g' (s.r t * 4).toNatClampNeg v1) ho
  have a1 := sa_eq (t := false) (n := 32 * 2 ^ k') (f := upd g' (s.r t * 4).toNatClampNeg v1) ha
  refine l2 (v := cTa A t) hi_31_60 rfl ?_
  refine l20r (v := .ref b') hi_31_61 o1 rfl ?_
  refine l1 (v := s.r t * 4) hi_31_64 rfl ?_
  refine l0 hi_31_66 ?_
  refine l10 hi_31_67 ?_
  refine l1 (v := v2) hi_31_68 rfl ?_
  refine l26r (i := s.r t * 4 + 1) hi_31_69 a1 (fun _ _ => ?_)
  have o2 := ot _ (32 * 2 ^ k') (upd (upd g' (s.r t * 4).toNatClampNeg v1) (s.r t * 4 + 1).toNatClampNeg v2) o1
  have a2 := sa_eq (t := false) (n := 32 * 2 ^ k') (f := upd (upd g' (s.r t * 4).toNatClampNeg v1) (s.r t * 4 + 1).toNatClampNeg v2) a1
  refine l2 (v := cTa A t) hi_31_70 rfl ?_
  refine l20r (v := .ref b') hi_31_71 o2 rfl ?_
  refine l1 (v := s.r t * 4) hi_31_74 rfl ?_
  refine l0 hi_31_76 ?_
  refine l10 hi_31_77 ?_
  refine l1 (v := v3) hi_31_78 rfl ?_
  refine l26r (i := s.r t * 4 + 2) hi_31_79 a2 (fun _ _ => ?_)
  have o3 := ot _ (32 * 2 ^ k') (upd (upd (upd g' (s.r t * 4).toNatClampNeg v1) (s.r t * 4 + 1).toNatClampNeg v2) (s.r t * 4 + 2).toNatClampNeg v3) o2
  have a3 := sa_eq (t := false) (n := 32 * 2 ^ k') (f := upd (upd (upd g' (s.r t * 4).toNatClampNeg v1) (s.r t * 4 + 1).toNatClampNeg v2) (s.r t * 4 + 2).toNatClampNeg v3) a2
  refine l2 (v := cTa A t) hi_31_80 rfl ?_
  refine l20r (v := .ref b') hi_31_81 o3 rfl ?_
  refine l1 (v := s.r t * 4) hi_31_84 rfl ?_
  refine l0 hi_31_86 ?_
  refine l10 hi_31_87 ?_
  refine l1 (v := v4) hi_31_88 rfl ?_
  refine l26r (i := s.r t * 4 + 3) hi_31_90 a3 (fun _ _ => ?_)
  have o4 := ot _ (32 * 2 ^ k') (upd (upd (upd (upd g' (s.r t * 4).toNatClampNeg v1) (s.r t * 4 + 1).toNatClampNeg v2) (s.r t * 4 + 2).toNatClampNeg v3) (s.r t * 4 + 3).toNatClampNeg v4) o3
  have a4 := sa_eq (t := false) (n := 32 * 2 ^ k') (f := upd (upd (upd (upd g' (s.r t * 4).toNatClampNeg v1) (s.r t * 4 + 1).toNatClampNeg v2) (s.r t * 4 + 2).toNatClampNeg v3) (s.r t * 4 + 3).toNatClampNeg v4) a3
  refine l2 (v := cTa A t) hi_31_91 rfl ?_
  refine l7 hi_31_92 ?_
  refine l20r (v := .int (s.r t)) hi_31_93 o4 rfl ?_
  refine l0 hi_31_96 ?_
  refine l10 hi_31_97 ?_
  refine l21r (v := .int (s.r t + 1)) hi_31_98 o4 (fun _ => ?_)
  refine l2 (v := cTa A t) hi_31_101 rfl ?_
  refine l20r (v := .int (s.r t + 1)) hi_31_102 (cso_eq o4) rfl ?_
  refine l0 hi_31_105 ?_
  refine l10 hi_31_106 ?_
  have hr : (s.r t + 1).toInt = (s.r t).toInt + 1 := i_add rfl rfl (by omega) (by omega)
  have hr2 : am_bin 1 (s.r t + 1) 1 = s.r t := by
    show s.r t + 1 - 1 = s.r t
    exact Int32.add_sub_cancel _ _
  rw [i_lt] at h20
  have e20 : (1048576 : Int32).toInt = 1048576 := rfl
  refine l33 hi_31_107 ⟨?_, ?_⟩
  · unfold tad
    rw [if_pos (by rw [i_lt]; exact h20), hr2]
  · unfold tad
    rw [if_pos (by rw [i_lt]; exact h20)]
    refine h.tab ht hb ?_ (fun k h1 h2 h3 => ?_) (cso_eq o4) (cso_a o4 a4) hk (by omega) (by omega) (fun j hj => ?_)
    · rw [so_ln, sa_ln, sa_ln, sa_ln, sa_ln]; exact hl
    · rw [so_ne h2, sa_ne h3, sa_ne h3, sa_ne h3, sa_ne h3]; exact hs k h1 h2
    · rw [n0, n1, n2, n3]
      unfold upd
      by_cases q3 : j = 4 * (s.r t).toInt.toNat + 3
      · rw [if_pos q3, if_pos q3]
      · rw [if_neg q3, if_neg q3]
        by_cases q2 : j = 4 * (s.r t).toInt.toNat + 2
        · rw [if_pos q2, if_pos q2]
        · rw [if_neg q2, if_neg q2]
          by_cases q1 : j = 4 * (s.r t).toInt.toNat + 1
          · rw [if_pos q1, if_pos q1]
          · rw [if_neg q1, if_neg q1]
            by_cases q0 : j = 4 * (s.r t).toInt.toNat
            · rw [if_pos q0, if_pos q0]
            · rw [if_neg q0, if_neg q0]
              exact hg j (by omega)
theorem lc31 {v1 v2 v3 v4 : Int32} (hS : CM A K S s) (ht : cTl K t) : am_L (am_PP sc) N d 31 0 [some (.ref (cTa A t)), some (.int v1), some (.int v2), some (.int v3), some (.int v4), none] [] S (fun o S1 => o = some (some (.int (tad s t v1 v2 v3 v4).2)) ∧ CM A K S1 (tad s t v1 v2 v3 v4).1) := by
  obtain ⟨B, h⟩ := hS
  have hq : CM A K S s := ⟨B, h⟩
  obtain ⟨r0, r1⟩ := h.lim ht
  obtain ⟨k, g, g1, g2, g3, g4, g5⟩ := h.ar t ht
  have hp := p2_17 g2
  have e20 : (1048576 : Int32).toInt = 1048576 := rfl
  have e4 := i4 r0 r1
  have en : (Int32.ofNat (32 * 2 ^ k)).toInt = ((32 * 2 ^ k : Nat) : Int) := i_nat (by omega)
  have i5 : (s.r t * 4 + 4).toInt = 4 * (s.r t).toInt + 4 := i_add e4 rfl (by omega) (by omega)
  refine l2 (v := cTa A t) hi_31_0 rfl ?_
  refine l20r (v := .int (s.r t)) hi_31_1 (h.ta t ht) rfl ?_
  refine l0 hi_31_4 ?_
  refine l10 hi_31_5 ?_
  refine l3 (v := s.r t * 4) (ls' := [some (.ref (cTa A t)), some (.int v1), some (.int v2), some (.int v3), some (.int v4), some (.int (s.r t * 4))]) hi_31_6 (Nat.le_of_ble_eq_true rfl) rfl ?_
  refine l1 (v := s.r t * 4) hi_31_8 rfl ?_
  refine l0 hi_31_10 ?_
  refine l10 hi_31_11 ?_
  refine l2 (v := cTa A t) hi_31_12 rfl ?_
  refine l20r (v := .ref (B t)) hi_31_13 (h.ta t ht) rfl ?_
  refine l24 hi_31_16 g1 ?_
  by_cases c1 : s.r t * 4 + 4 ≤ Int32.ofNat (32 * 2 ^ k)
  · refine l13t (v := s.r t * 4 + 4) hi_31_17 (decide_eq_true c1) ?_
    rw [i_le] at c1
    have h20 : s.r t < 1048576 := by rw [i_lt, e20]; omega
    exact tad_go h ht h20 (Or.inl rfl) (Nat.le_refl _) (fun _ _ _ => rfl) (h.ta t ht) g1 g2 (by omega) g5 (h.bt ht)
  · refine l13f (v := s.r t * 4 + 4) hi_31_17 (decide_eq_false c1) ?_
    rw [i_le] at c1
    refine l2 (v := cTa A t) hi_31_20 rfl ?_
    refine l20r (v := .int (s.r t)) hi_31_21 (h.ta t ht) rfl ?_
    refine l0 hi_31_24 ?_
    by_cases c2 : s.r t < 1048576
    · refine l13t hi_31_26 (decide_eq_true c2) ?_
      refine l2 (v := cTa A t) hi_31_34 rfl ?_
      refine l2 (v := cTa A t) hi_31_35 rfl ?_
      refine l20r (v := .ref (B t)) hi_31_36 (h.ta t ht) rfl ?_
      refine l2 (v := cTa A t) hi_31_39 rfl ?_
      refine l20r (v := .ref (B t)) hi_31_40 (h.ta t ht) rfl ?_
      refine l24 hi_31_43 g1 ?_
      refine l0 hi_31_44 ?_
      refine l10 hi_31_45 ?_
      have c2' := c2
      rw [i_lt, e20] at c2'
      have i6 : (Int32.ofNat (32 * 2 ^ k) * 2).toInt = ((32 * 2 ^ k : Nat) : Int) * 2 := i_mul en rfl (by omega) (by omega)
      refine l32 (as := [.ref (B t), .int (Int32.ofNat (32 * 2 ^ k) * 2)]) (la := [some (.ref (B t)), some (.int (Int32.ofNat (32 * 2 ^ k) * 2)), none]) (rest := [.ref (cTa A t)]) hi_31_46 (am_hd0 (M := 31) (by decide) 46) rfl rfl rfl (fun N' d' _ => lc32 (N := N') (d := d') g1 (by omega) (fun e => by
        have e' := congrArg Int32.toInt e
        rw [i6, en] at e'
        have := Nat.pow_pos (n := k) (show 0 < 2 by decide)
        omega)) ?_ (fun _ q => nomatch q.1)
      rintro v S1 ⟨ev, q1, q2, g', q3, q4⟩
      cases ev
      have ot : am_fs S1 (cTa A t) = some (3, [.ref (B t), .int (s.r t)]) := by
        rw [fs_of (q2 _ (am_ltl (am_fs_ok (h.ta t ht))))]
        exact h.ta t ht
      refine l21r (v := .ref S.1.length) hi_31_49 ot (fun _ => ?_)
      have hk1 : k + 1 ≤ 17 := by
        rcases Nat.lt_or_ge k 17 with q | q
        · omega
        · have e17 : k = 17 := by omega
          subst e17
          have : (2 : Nat) ^ 17 = 131072 := rfl
          omega
      have hm : (Int32.ofNat (32 * 2 ^ k) * 2).toNatClampNeg = 32 * 2 ^ (k + 1) := by
        show (Int32.ofNat (32 * 2 ^ k) * 2).toInt.toNat = _
        rw [i6, Nat.pow_succ]
        omega
      rw [hm] at q3
      refine tad_go (S1 := cm_so S1 (cTa A t) (3, [.ref S.1.length, .int (s.r t)])) h ht c2 (Or.inr (Nat.le_refl _)) (by rw [so_ln, q1]; omega) (fun k0 hk0 hk2 => by rw [so_ne hk2]; exact q2 k0 hk0) (cso_eq ot) (cso_a ot q3) hk1 ?_ (fun j hj => ?_) (Nat.ne_of_lt (am_ltl (am_fs_ok (h.ta t ht))))
      · rw [Nat.pow_succ]
        have := Nat.pow_pos (n := k) (show 0 < 2 by decide)
        omega
      · rw [q4 j (by omega) (by rw [i6]; omega)]
        exact g5 j hj
    · refine l13f hi_31_26 (decide_eq_false c2) ?_
      refine l2 (v := cTa A t) hi_31_29 rfl ?_
      refine l20r (v := .int (s.r t)) hi_31_30 (h.ta t ht) rfl ?_
      refine l33 hi_31_33 ⟨?_, ?_⟩
      · unfold tad; rw [if_neg c2]
      · unfold tad; rw [if_neg c2]; exact hq
end ADD
