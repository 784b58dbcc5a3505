/-! THE OPEN BODIES: one is taken away, all are -/
theorem nf_same {s : cS} {k j : Nat} {v : Int32} (h : s.f k j = v) : nf s k j v = s := by
  unfold nf
  have e : (fun a => if a = k then upd (s.f a) j v else s.f a) = s.f := by
    funext a
    by_cases e : a = k
    · rw [if_pos e]
      funext i
      unfold upd
      by_cases e2 : i = j
      · rw [if_pos e2, e, e2, h]
      · rw [if_neg e2]
    · rw [if_neg e]
  rw [e]
theorem nf_at {s : cS} {k j : Nat} {v : Int32} : (nf s k j v).f k j = v := by rw [nf_eq]; exact if_pos rfl
section LSQ
variable {sc : Nat × (Nat → Int32)} {N d : Nat} {A : Nat → Nat} {K : Nat} {S : am_S} {s : cS}
theorem lc90 {k a m : Nat} {g : Nat → Option Nat} {sz mc : Int32} (hk : am_fs S k = some (5, [.ref a, .int sz, .int mc])) (ha : S.1[a]? = some (.inr (.inl (m, g)))) (h0 : 0 ≤ (sz - 1).toInt) : am_L (am_PP sc) N d 90 0 [some (.ref k), some (.ref a), some (.int (sz - 1)), none] [] S (fun o S1 => o = some none ∧ S1.1.length = S.1.length ∧ (∀ j, j ≠ k → j ≠ a → S1.1[j]? = S.1[j]?) ∧ (∃ mc', am_fs S1 k = some (5, [.ref a, .int (sz - 1), .int mc'])) ∧ ∃ g', S1.1[a]? = some (.inr (.inl (m, g'))) ∧ ∀ i : Nat, (i : Int) < (sz - 1).toInt → g' i = g i) := by
  have ka : k ≠ a := fun e => by
    have h1 := am_fs_ok hk
    rw [e, ha] at h1
    cases h1
  refine l2 (v := k) hi_90_0 rfl ?_
  refine l7 hi_90_1 ?_
  refine l20r (v := .int mc) hi_90_2 hk rfl ?_
  refine l0 hi_90_5 ?_
  refine l10 hi_90_6 ?_
  refine l21r (v := .int (mc + 1)) hi_90_7 hk (fun _ => ?_)
  have hk1 : am_fs (cm_so S k (5, [.ref a, .int sz, .int (mc + 1)])) k = some (5, [.ref a, .int sz, .int (mc + 1)]) := cso_eq hk
  have ha1 : (cm_so S k (5, [.ref a, .int sz, .int (mc + 1)])).1[a]? = some (.inr (.inl (m, g))) := cso_r hk ha
  refine l2 (v := k) hi_90_10 rfl ?_
  refine l20r (v := .int sz) hi_90_11 hk1 rfl ?_
  refine l0 hi_90_14 ?_
  refine l10 hi_90_15 ?_
  refine l7i (v := sz - 1) hi_90_16 ?_
  refine l3 (v := sz - 1) (ls' := [some (.ref k), some (.ref a), some (.int (sz - 1)), some (.int (sz - 1))]) hi_90_17 (Nat.le_of_ble_eq_true rfl) rfl ?_
  refine l1 (v := sz - 1) hi_90_18 rfl ?_
  refine l13t hi_90_19 (decide_eq_true (Int32.le_refl _)) ?_
  refine l2 (v := a) hi_90_34 rfl ?_
  refine l2 (v := k) hi_90_35 rfl ?_
  refine l1 (v := sz - 1) hi_90_36 rfl ?_
  refine l9 hi_90_37 ?_
  refine l21r (v := .int (sz - 1)) hi_90_38 hk1 (fun _ => ?_)
  have hk2 : am_fs (cm_so (cm_so S k (5, [.ref a, .int sz, .int (mc + 1)])) k (5, [.ref a, .int (sz - 1), .int (mc + 1)])) k = some (5, [.ref a, .int (sz - 1), .int (mc + 1)]) := cso_eq hk1
  refine l29 hi_90_41 ?_
  refine l40n hi_90_42 (cso_r hk1 ha1) (fun q1 q2 => ?_)
  refine l35 hi_90_43 ⟨rfl, ?_, fun j r1 r2 => ?_, ⟨mc + 1, ?_⟩, _, sr_eq (cso_r hk1 ha1), fun i hi => ?_⟩
  · rw [sr_ln, so_ln, so_ln]
  · rw [sr_ne r2, so_ne r1, so_ne r1]
  · rw [fs_of (sr_ne ka)]; exact hk2
  · have : i ≠ (sz - 1).toNatClampNeg := fun e => by
      have e2 : (sz - 1).toNatClampNeg = (sz - 1).toInt.toNat := rfl
      omega
    exact if_neg this
theorem lc89o (hS : CM A K S s) : am_L (am_PP sc) N d 89 0 [some (.ref 13), some (.int (s.f 13 1 - 1)), none, none] [] S (fun o S1 => (∃ r, o = some (some (.ref r))) ∧ CM A K S1 (nf s 13 1 (s.f 13 1 - 1))) := by
  obtain ⟨B, h⟩ := hS
  obtain ⟨e6, m6, e13, m13, g1, g2, g3, g4, g5, g6⟩ := h.li
  refine l1 (v := s.f 13 1 - 1) hi_89_0 rfl ?_
  refine l2 (v := 13) hi_89_1 rfl ?_
  refine l20r (v := .int (s.f 13 1)) hi_89_2 g2 rfl ?_
  refine l32 (as := [.int (s.f 13 1 - 1), .int (s.f 13 1)]) (la := [some (.int (s.f 13 1 - 1)), some (.int (s.f 13 1))]) (rest := []) hi_89_5 (am_hd0 (M := 89) (by decide) 5) rfl rfl rfl (fun N' d' _ => lc26 (N := N') (d := d')) ?_ (fun _ q => nomatch q.2.2.2)
  rintro v S1 ⟨eS, h1, h2, ev⟩
  rw [eS]
  cases ev
  rcases g5 with ⟨e, q⟩ | ⟨a, m, g, e, q1, q2, q3, q4, q5⟩
  · exfalso; omega
  subst e
  refine l6i hi_89_8 ?_
  refine l2 (v := 13) hi_89_9 rfl ?_
  refine l20r (v := .ref a) hi_89_10 g2 rfl ?_
  refine l4 (ls' := [some (.ref 13), some (.int (s.f 13 1 - 1)), some (.ref a), none]) hi_89_13 (Nat.le_of_ble_eq_true rfl) rfl ?_
  refine l2 (v := a) hi_89_14 rfl ?_
  refine l1 (v := s.f 13 1 - 1) hi_89_15 rfl ?_
  refine l39 hi_89_16 q1 (fun _ _ => ?_)
  have hg := q5 (s.f 13 1 - 1).toNatClampNeg (by have e2 : (s.f 13 1 - 1).toNatClampNeg = (s.f 13 1 - 1).toInt.toNat := rfl; omega)
  rw [hg]
  show am_L _ _ _ _ _ _ (.ref (A (s.op (s.f 13 1 - 1).toNatClampNeg)) :: []) _ _
  generalize A (s.op (s.f 13 1 - 1).toNatClampNeg) = w
  refine l4 (ls' := [some (.ref 13), some (.int (s.f 13 1 - 1)), some (.ref a), some (.ref w)]) hi_89_17 (Nat.le_of_ble_eq_true rfl) rfl ?_
  refine l2 (v := 13) hi_89_18 rfl ?_
  refine l2 (v := a) hi_89_19 rfl ?_
  refine l1 (v := s.f 13 1 - 1) hi_89_20 rfl ?_
  refine l32 (as := [.ref 13, .ref a, .int (s.f 13 1 - 1)]) (la := [some (.ref 13), some (.ref a), some (.int (s.f 13 1 - 1)), none]) (rest := []) hi_89_21 (am_hd0 (M := 89) (by decide) 21) rfl rfl rfl (fun N' d' _ => lc90 (N := N') (d := d') g2 q1 h1) ?_ (fun _ q => nomatch q.1)
  rintro v S1 ⟨ev, r1, r2, ⟨mc', r3⟩, g', r4, r5⟩
  cases ev
  refine l2 (v := w) hi_89_24 rfl ?_
  refine l34 hi_89_25 ⟨⟨_, rfl⟩, ?_⟩
  exact h.lst (op' := s.op) g2 (Nat.le_of_eq r1.symm) (fun j _ p2 p3 => r2 j p2 (fun e => p3 (by rw [e]))) r3 h1 (Or.inr ⟨a, m, g', rfl, r4, by omega, q3, q4, fun i hi => (r5 i (by omega)).trans (q5 i (by omega))⟩) (Or.inl rfl) (fun i hi => h.ol i (by omega))
theorem lc45b {a : Nat} {t : Int32} : ∀ (N : Nat) (S : am_S) (i : Int32), CM A K S s → s.f 13 1 = 0 → (∃ mc : Int32, am_fs S 13 = some (5, [.ref a, .int 0, .int mc])) → am_L (am_PP sc) N d 45 27 [some (.ref 13), some (.ref a), some (.int t), some (.int i)] [] S (fun o S1 => o = some none ∧ CM A K S1 s) := by
  intro N
  induction N with
  | zero => intros; exact l_zero
  | succ N ih =>
    intro S i hS h0 hm
    refine l1d (v := i) hi_45_27 rfl ?_
    refine l1 (v := t) hi_45_28 rfl ?_
    by_cases c1 : t ≤ i
    · refine l13t hi_45_29 (decide_eq_true c1) ?_
      exact l35 hi_45_42 ⟨rfl, hS⟩
    · refine l13f hi_45_29 (decide_eq_false c1) ?_
      obtain ⟨B, h⟩ := hS
      obtain ⟨mc, hm⟩ := hm
      obtain ⟨e6, m6, e13, m13, g1, g2, g3, g4, g5, g6⟩ := h.li
      obtain rfl : e13 = .ref a := by
        rw [hm] at g2
        simp only [Option.some.injEq, Prod.mk.injEq, List.cons.injEq, true_and] at g2
        exact g2.1.symm
      refine l2 (v := a) hi_45_32 rfl ?_
      refine l1 (v := i) hi_45_33 rfl ?_
      refine l29 hi_45_34 ?_
      rcases g5 with ⟨e, q⟩ | ⟨a', m, g, e, q1, q2, q3, q4, q5⟩
      · cases e
      cases e
      refine l40n hi_45_35 q1 (fun _ _ => ?_)
      refine l5 (v := i) (ls' := [some (.ref 13), some (.ref a), some (.int t), some (.int (i + 1))]) hi_45_36 rfl rfl ?_
      refine l18 hi_45_39 ?_
      have ne : (13 : Nat) ≠ a := fun e => by
        have h1 := am_fs_ok hm
        rw [e, q1] at h1
        cases h1
      have hm' : am_fs (cm_sr S a m (va_up g i.toNatClampNeg none)) 13 = some (5, [.ref a, .int 0, .int mc]) := by
        rw [fs_of (sr_ne ne)]; exact hm
      refine (ih _ _ ?_ h0 ⟨mc, hm'⟩)
      have e0 : (0 : Int32).toInt = 0 := rfl
      have key := h.lst (S' := cm_sr S a m (va_up g i.toNatClampNeg none)) (e13 := .ref a) (m13 := mc) (op' := s.op) (sz' := 0) (by rw [hm, h0]) (Nat.le_of_eq sr_ln.symm) (fun j _ _ p3 => sr_ne (fun e => p3 (by rw [e]))) hm' (by omega) (Or.inr ⟨a, m, _, rfl, sr_eq q1, by rw [e0]; exact Nat.zero_le _, q3, q4, fun i hi => by rw [e0] at hi; exact absurd hi (Nat.not_lt_zero _)⟩) (Or.inl rfl) (fun i hi => by omega)
      have e : np (nf s 13 1 0) s.op = s := nf_same h0
      rw [e] at key
      exact key
theorem lc45 (hS : CM A K S s) : am_L (am_PP sc) N d 45 0 [some (.ref 13), none, none, none] [] S (fun o S1 => o = some none ∧ CM A K S1 (nf s 13 1 0)) := by
  obtain ⟨B, h⟩ := hS
  obtain ⟨e6, m6, e13, m13, g1, g2, g3, g4, g5, g6⟩ := h.li
  have e0 : (0 : Int32).toInt = 0 := rfl
  refine l2 (v := 13) hi_45_0 rfl ?_
  refine l7 hi_45_1 ?_
  refine l20r (v := .int m13) hi_45_2 g2 rfl ?_
  refine l0 hi_45_5 ?_
  refine l10 hi_45_6 ?_
  refine l21r (v := .int (m13 + 1)) hi_45_7 g2 (fun _ => ?_)
  have k1 : am_fs (cm_so S 13 (5, [e13, .int (s.f 13 1), .int (m13 + 1)])) 13 = some (5, [e13, .int (s.f 13 1), .int (m13 + 1)]) := cso_eq g2
  refine l2 (v := 13) hi_45_10 rfl ?_
  refine l20r (v := e13) hi_45_11 k1 rfl ?_
  have key : ∀ (ed : Value), ed = e13 → CM A K (cm_so (cm_so S 13 (5, [e13, .int (s.f 13 1), .int (m13 + 1)])) 13 (5, [e13, .int 0, .int (m13 + 1)])) (nf s 13 1 0) := fun ed hed => by
    refine h.lst (op' := s.op) g2 (by rw [so_ln, so_ln]; exact Nat.le_refl _) (fun j _ p2 _ => by rw [so_ne p2, so_ne p2]) (cso_eq k1) (by omega) ?_ (Or.inl rfl) (fun i hi => by omega)
    rcases g5 with ⟨e, q⟩ | ⟨a, m, g, e, q1, q2, q3, q4, q5⟩
    · exact Or.inl ⟨e, rfl⟩
    · exact Or.inr ⟨a, m, g, e, cso_r k1 (cso_r g2 q1), by rw [e0]; exact Nat.zero_le _, q3, q4, fun i hi => by rw [e0] at hi; exact absurd hi (Nat.not_lt_zero _)⟩
  rcases g5 with ⟨e, q⟩ | ⟨a, m, g, e, q1, q2, q3, q4, q5⟩
  · subst e
    refine l4l (ls' := [some (.ref 13), some (.long 0), none, none]) hi_45_14 (Nat.le_of_ble_eq_true rfl) rfl ?_
    refine l2 (v := 13) hi_45_15 rfl ?_
    refine l20r (v := .int (s.f 13 1)) hi_45_16 k1 rfl ?_
    refine l3 (ls' := [some (.ref 13), some (.long 0), some (.int (s.f 13 1)), none]) hi_45_19 (Nat.le_of_ble_eq_true rfl) rfl ?_
    refine l2 (v := 13) hi_45_20 rfl ?_
    refine l0 hi_45_21 ?_
    refine l9 hi_45_22 ?_
    refine l21r (v := .int 0) hi_45_23 k1 (fun _ => ?_)
    refine l3 (ls' := [some (.ref 13), some (.long 0), some (.int (s.f 13 1)), some (.int 0)]) hi_45_26 (Nat.le_of_ble_eq_true rfl) rfl ?_
    refine l1 (v := 0) hi_45_27 rfl ?_
    refine l1 (v := s.f 13 1) hi_45_28 rfl ?_
    refine l13t hi_45_29 (decide_eq_true (show s.f 13 1 ≤ 0 by rw [i_le]; omega)) ?_
    exact l35 hi_45_42 ⟨rfl, key _ rfl⟩
  · subst e
    refine l4 (ls' := [some (.ref 13), some (.ref a), none, none]) hi_45_14 (Nat.le_of_ble_eq_true rfl) rfl ?_
    refine l2 (v := 13) hi_45_15 rfl ?_
    refine l20r (v := .int (s.f 13 1)) hi_45_16 k1 rfl ?_
    refine l3 (ls' := [some (.ref 13), some (.ref a), some (.int (s.f 13 1)), none]) hi_45_19 (Nat.le_of_ble_eq_true rfl) rfl ?_
    refine l2 (v := 13) hi_45_20 rfl ?_
    refine l0 hi_45_21 ?_
    refine l9 hi_45_22 ?_
    refine l21r (v := .int 0) hi_45_23 k1 (fun _ => ?_)
    refine l3 (ls' := [some (.ref 13), some (.ref a), some (.int (s.f 13 1)), some (.int 0)]) hi_45_26 (Nat.le_of_ble_eq_true rfl) rfl ?_
    exact lc45b _ _ _ (key _ rfl) nf_at ⟨_, cso_eq k1⟩
end LSQ
