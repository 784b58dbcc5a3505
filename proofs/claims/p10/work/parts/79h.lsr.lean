/-! LISTS OF THE CLASS BY ROLES -/
section LSR
variable {sc : Nat × (Nat → Int32)} {N d : Nat} {A : Nat → Nat} {K : Nat} {S : am_S} {s : cS}
theorem CMB.ls {B : cT → Nat} {k : Nat} (h : CMB A B K S s) (hk : k = 6 ∨ k = 13) : ∃ ed mc, am_fs S k = some (5, [ed, .int (s.f k 1), .int mc]) := by
  obtain ⟨e6, m6, e13, m13, g1, g2, -⟩ := h.li
  rcases hk with rfl | rfl
  · exact ⟨_, _, g1⟩
  · exact ⟨_, _, g2⟩
theorem lc14 {k : Nat} (hS : CM A K S s) (hk : k = 6 ∨ k = 13) : am_L (am_PP sc) N d 14 0 [some (.ref k)] [] S (fun o S1 => o = some (some (.int (s.f k 1))) ∧ CM A K S1 s) := by
  obtain ⟨B, h⟩ := hS
  obtain ⟨ed, mc, g⟩ := h.ls hk
  refine l2 (v := k) hi_14_0 rfl ?_
  refine l20r hi_14_1 g rfl ?_
  exact l33 hi_14_4 ⟨rfl, B, h⟩
theorem lc47 {k : Nat} (hS : CM A K S s) (hk : k = 6 ∨ k = 13) : am_L (am_PP sc) N d 47 0 [some (.ref k)] [] S (fun o S1 => o = some (some (.int (if s.f k 1 ≠ 0 then 0 else 1))) ∧ CM A K S1 s) := by
  obtain ⟨B, h⟩ := hS
  obtain ⟨ed, mc, g⟩ := h.ls hk
  refine l2 (v := k) hi_47_0 rfl ?_
  refine l20r (v := .int (s.f k 1)) hi_47_1 g rfl ?_
  by_cases c1 : s.f k 1 ≠ 0
  · refine l12t hi_47_4 (decide_eq_true c1) ?_
    refine l0 hi_47_11 ?_
    exact l36 hi_47_12 fun _ => ⟨by rw [if_pos c1], B, h⟩
  · refine l12f hi_47_4 (decide_eq_false c1) ?_
    refine l0 hi_47_7 ?_
    refine l18 hi_47_8 ?_
    exact l36 hi_47_12 fun _ => ⟨by rw [if_neg c1], B, h⟩
/-- an element is read -/
theorem lc25r {k a m : Nat} {g : Nat → Option Nat} {sz mc i : Int32} (hk : am_fs S k = some (5, [.ref a, .int sz, .int mc])) (ha : S.1[a]? = some (.inr (.inl (m, g)))) : am_L (am_PP sc) N d 25 0 [some (.ref k), some (.int i)] [] S (fun o S1 => S1 = S ∧ 0 ≤ i.toInt ∧ i.toInt < sz.toInt ∧ ∀ r, g i.toInt.toNat = some r → o = some (some (.ref r))) := by
  refine l1 (v := i) hi_25_0 rfl ?_
  refine l2 (v := k) hi_25_1 rfl ?_
  refine l20r (v := .int sz) hi_25_2 hk rfl ?_
  refine l32 (as := [.int i, .int sz]) (la := [some (.int i), some (.int sz)]) (rest := []) hi_25_5 (am_hd0 (M := 25) (by decide) 5) rfl rfl rfl (fun N' d' _ => lc26 (N := N') (d := d')) ?_ (fun _ q => nomatch q.2.2.2)
  rintro v S1 ⟨eS, h1, h2, ev⟩
  rw [eS]
  cases ev
  refine l6i hi_25_8 ?_
  refine l2 (v := k) hi_25_9 rfl ?_
  refine l1 (v := i) hi_25_10 rfl ?_
  refine l32 (Q1 := fun o S1 => S1 = S ∧ o = some (some (va_rf (g i.toInt.toNat)))) (as := [.ref k, .int i]) (la := [some (.ref k), some (.int i)]) (rest := []) hi_25_11 (am_hd0 (M := 25) (by decide) 11) rfl rfl rfl (fun N' d' _ => ?_) ?_ (fun _ q => nomatch q.2)
  · refine l2 (v := k) hi_28_0 rfl ?_
    refine l20r (v := .ref a) hi_28_1 hk rfl ?_
    refine l1 (v := i) hi_28_4 rfl ?_
    refine l39 hi_28_5 ha (fun q1 q2 => ?_)
    show am_L _ _ _ _ _ _ (va_rf (g i.toInt.toNat) :: []) _ _
    cases hg : g i.toInt.toNat with
    | none => exact l34n hi_28_6 ⟨rfl, rfl⟩
    | some r => exact l34 hi_28_6 ⟨rfl, rfl⟩
  · rintro v S1 ⟨eS, ev⟩
    rw [eS]
    cases ev
    show am_L _ _ _ _ _ _ (va_rf (g i.toInt.toNat) :: []) _ _
    cases hg : g i.toInt.toNat with
    | none => exact l34n hi_25_14 ⟨rfl, h1, h2, fun r e => nomatch e⟩
    | some r => exact l34 hi_25_14 ⟨rfl, h1, h2, fun r' e => by cases e; rfl⟩
theorem lc25l {k : Nat} {sz mc i : Int32} (hk : am_fs S k = some (5, [.long 0, .int sz, .int mc])) (h0 : sz.toInt = 0) {Q : Option (Option Value) → am_S → Prop} : am_L (am_PP sc) N d 25 0 [some (.ref k), some (.int i)] [] S Q := by
  refine l1 (v := i) hi_25_0 rfl ?_
  refine l2 (v := k) hi_25_1 rfl ?_
  refine l20r (v := .int sz) hi_25_2 hk rfl ?_
  refine l32 (as := [.int i, .int sz]) (la := [some (.int i), some (.int sz)]) (rest := []) hi_25_5 (am_hd0 (M := 25) (by decide) 5) rfl rfl rfl (fun N' d' _ => lc26 (N := N') (d := d')) ?_ (fun _ q => nomatch q.2.2.2)
  rintro v S1 ⟨eS, h1, h2, ev⟩
  omega
theorem lc25o {i : Int32} (hS : CM A K S s) : am_L (am_PP sc) N d 25 0 [some (.ref 13), some (.int i)] [] S (fun o S1 => o = some (some (.ref (A (s.op i.toInt.toNat)))) ∧ s.op i.toInt.toNat ≤ K ∧ CM A K S1 s) := by
  obtain ⟨B, h⟩ := hS
  obtain ⟨e6, m6, e13, m13, g1, g2, g3, g4, g5, g6⟩ := h.li
  rcases g5 with ⟨rfl, q⟩ | ⟨a, m, g, rfl, q1, q2, q3, q4, q5⟩
  · exact lc25l g2 (by omega)
  · refine am_L.mono (lc25r g2 q1) (fun o S1 q => ?_)
    obtain ⟨rfl, h1, h2, h3⟩ := q
    exact ⟨h3 _ (q5 _ (by omega)), h.ol _ (by omega), B, h⟩
theorem lc25k {i : Int32} (hS : CM A K S s) : am_L (am_PP sc) N d 25 0 [some (.ref 6), some (.int i)] [] S (fun o S1 => o = some (some (.ref (A (i.toInt.toNat + 1)))) ∧ i.toInt.toNat + 1 ≤ K ∧ CM A K S1 s) := by
  obtain ⟨B, h⟩ := hS
  obtain ⟨e6, m6, e13, m13, g1, g2, g3, g4, g5, g6⟩ := h.li
  have kk := h.kk
  rcases g3 with ⟨rfl, q⟩ | ⟨a, m, g, rfl, q1, q2, q3, q4, q5⟩
  · exact lc25l g1 (by omega)
  · refine am_L.mono (lc25r g1 q1) (fun o S1 q => ?_)
    obtain ⟨rfl, h1, h2, h3⟩ := q
    exact ⟨h3 _ (q5 _ (by omega)), by omega, B, h⟩
/-- an element is added -/
def AddR (S : am_S) (k v : Nat) (ed : Value) (g : Nat → Option Nat) (sz : Int32) (S1 : am_S) : Prop := ∃ (a' m' : Nat) (g' : Nat → Option Nat) (mc' : Int32), am_fs S1 k = some (5, [.ref a', .int (sz + 1), .int mc']) ∧ S1.1[a']? = some (.inr (.inl (m', g'))) ∧ m' ≤ 16777216 ∧ (sz + 1).toInt = sz.toInt + 1 ∧ sz.toInt + 1 ≤ m' ∧ g' sz.toInt.toNat = some v ∧ (∀ i : Nat, (i : Int) < sz.toInt → g' i = g i) ∧ (ed = .ref a' ∨ a' = S.1.length) ∧ S.1.length ≤ S1.1.length ∧ ∀ j, j < S.1.length → j ≠ k → ed ≠ .ref j → S1.1[j]? = S.1[j]?
theorem lc16 {k v m : Nat} {ed : Value} {g : Nat → Option Nat} {sz mc : Int32} (hk : am_fs S k = some (5, [ed, .int sz, .int mc])) (he : c_ed S ed m g) (hm : m ≤ 16777216) (h0 : 0 ≤ sz.toInt) (h1 : sz.toInt ≤ m) : am_L (am_PP sc) N d 16 0 [some (.ref k), some (.ref v), some ed, some (.int sz)] [] S (fun o S1 => o = some none ∧ AddR S k v ed g sz S1) := by
  have kl := am_ltl (am_fs_ok hk)
  have go : ∀ (S2 : am_S) (a' m' : Nat) (g2 : Nat → Option Nat), am_fs S2 k = some (5, [.ref a', .int sz, .int mc]) → S2.1[a']? = some (.inr (.inl (m', g2))) → m' ≤ 16777216 → (∀ i : Nat, (i : Int) < sz.toInt → (i : Int) < m' → g2 i = g i) → (ed = .ref a' ∨ a' = S.1.length) → S.1.length ≤ S2.1.length → (∀ j, j < S.1.length → j ≠ k → ed ≠ .ref j → S2.1[j]? = S.1[j]?) → am_L (am_PP sc) N d 16 11 [some (.ref k), some (.ref v), some (.ref a'), some (.int sz)] [] S2 (fun o S1 => o = some none ∧ AddR S k v ed g sz S1) := by
    intro S2 a' m' g2 p1 p2 p3 p4 p5 p6 p7
    refine l2 (v := a') hi_16_11 rfl ?_
    refine l1 (v := sz) hi_16_12 rfl ?_
    refine l2 (v := v) hi_16_13 rfl ?_
    refine l40 hi_16_14 p2 (fun q1 q2 => ?_)
    have hka : k ≠ a' := fun e => by
      have e1 := am_fs_ok p1
      rw [e, p2] at e1
      cases e1
    have p1' : am_fs (cm_sr S2 a' m' (va_up g2 sz.toNatClampNeg (some v))) k = some (5, [.ref a', .int sz, .int mc]) := by
      rw [fs_of (sr_ne hka)]; exact p1
    refine l2 (v := k) hi_16_15 rfl ?_
    refine l1 (v := sz) hi_16_16 rfl ?_
    refine l0 hi_16_17 ?_
    refine l10 hi_16_18 ?_
    refine l21r (v := .int (sz + 1)) hi_16_19 p1' (fun _ => ?_)
    have e1 : (sz + 1).toInt = sz.toInt + 1 := i_add rfl rfl (by omega) (by omega)
    refine l35 hi_16_22 ⟨rfl, a', m', _, mc, cso_eq p1', cso_r p1' (sr_eq p2), p3, e1, by omega, ?_, fun i hi => ?_, p5, ?_, fun j r1 r2 r3 => ?_⟩
    · exact if_pos rfl
    · have : i ≠ sz.toNatClampNeg := fun e => by
        have e2 : sz.toNatClampNeg = sz.toInt.toNat := rfl
        omega
      exact (if_neg this).trans (p4 i hi (by omega))
    · rw [so_ln, sr_ln]; exact p6
    · rw [so_ne r2, sr_ne]
      · exact p7 j r1 r2 r3
      · intro e
        rcases p5 with p5 | p5
        · exact r3 (by rw [p5, e])
        · omega
  refine l1 (v := sz) hi_16_0 rfl ?_
  have grow : am_L (am_PP sc) N d 16 6 [some (.ref k), some (.ref v), some ed, some (.int sz)] [] S (fun o S1 => o = some none ∧ AddR S k v ed g sz S1) → am_L (am_PP sc) N d 16 6 [some (.ref k), some (.ref v), some ed, some (.int sz)] [] S (fun o S1 => o = some none ∧ AddR S k v ed g sz S1) := fun q => q
  have gr : sz.toInt = m → am_L (am_PP sc) N d 16 6 [some (.ref k), some (.ref v), some ed, some (.int sz)] [] S (fun o S1 => o = some none ∧ AddR S k v ed g sz S1) := by
    intro em
    refine l2 (v := k) hi_16_6 rfl ?_
    refine l32 (Q1 := fun o S1 => o = some (some (.ref S.1.length)) ∧ S1.1.length = S.1.length + 1 ∧ (∀ j, j < S.1.length → j ≠ k → S1.1[j]? = S.1[j]?) ∧ am_fs S1 k = some (5, [.ref S.1.length, .int sz, .int mc]) ∧ ∃ m1 g1, m1 ≤ 16777216 ∧ S1.1[S.1.length]? = some (.inr (.inl (m1, g1))) ∧ ∀ j : Nat, j < m → j < m1 → g1 j = g j) (as := [.ref k]) (la := [some (.ref k)]) (rest := []) hi_16_7 (am_hd0 (M := 16) (by decide) 7) rfl rfl rfl (fun N' d' _ => ?_) ?_ (fun _ q => nomatch q.1)
    · refine l2 (v := k) hi_17_0 rfl ?_
      refine l2 (v := k) hi_17_1 rfl ?_
      refine l20r (v := .int sz) hi_17_2 hk rfl ?_
      refine l0 hi_17_5 ?_
      refine l10 hi_17_6 ?_
      refine l32 (as := [.ref k, .int (am_bin 0 sz 1)]) (la := [some (.ref k), some (.int (am_bin 0 sz 1)), none, none]) (rest := []) hi_17_7 (am_hd0 (M := 17) (by decide) 7) rfl rfl rfl (fun N' d' _ => lc18 (N := N') (d := d') hk he hm) ?_ (fun _ q => nomatch q.1)
      rintro v S1 ⟨ev, q⟩
      cases ev
      exact l34 hi_17_10 ⟨rfl, q⟩
    · rintro v' S1 ⟨ev, q1, q2, q3, m1, g1, q4, q5, q6⟩
      cases ev
      refine l4 (ls' := [some (.ref k), some (.ref v), some (.ref S.1.length), some (.int sz)]) hi_16_10 (Nat.le_of_ble_eq_true rfl) rfl ?_
      exact go S1 S.1.length m1 g1 q3 q5 q4 (fun i hi hi2 => q6 i (by omega) (by omega)) (Or.inr rfl) (by omega) (fun j r1 r2 _ => q2 j r1 r2)
  rcases he with ⟨rfl, rfl⟩ | ⟨a, rfl, ha⟩
  · refine l2l (z := 0) hi_16_1 rfl ?_
    refine l24l hi_16_2 ?_
    have e : sz = 0 := Int32.toInt_inj.mp (by have e0 : (0 : Int32).toInt = 0 := rfl; omega)
    refine l13f hi_16_3 (decide_eq_false (fun q => q e)) ?_
    exact gr (by omega)
  · refine l2 (v := a) hi_16_1 rfl ?_
    refine l24r hi_16_2 ha ?_
    by_cases c1 : ¬ sz = Int32.ofNat m
    · refine l13t hi_16_3 (decide_eq_true c1) ?_
      exact go S a m g hk ha hm (fun i _ _ => rfl) (Or.inl rfl) (Nat.le_refl _) (fun j _ _ _ => rfl)
    · refine l13f hi_16_3 (decide_eq_false c1) ?_
      have c2 : sz = Int32.ofNat m := Decidable.of_not_not c1
      exact gr (by rw [c2]; exact i_nat hm)
theorem lc15 {k v m : Nat} {ed : Value} {g : Nat → Option Nat} {sz mc : Int32} (hk : am_fs S k = some (5, [ed, .int sz, .int mc])) (he : c_ed S ed m g) (hm : m ≤ 16777216) (h0 : 0 ≤ sz.toInt) (h1 : sz.toInt ≤ m) : am_L (am_PP sc) N d 15 0 [some (.ref k), some (.ref v)] [] S (fun o S1 => o = some (some (.int 1)) ∧ AddR S k v ed g sz S1) := by
  have kl := am_ltl (am_fs_ok hk)
  refine l2 (v := k) hi_15_0 rfl ?_
  refine l7 hi_15_1 ?_
  refine l20r (v := .int mc) hi_15_2 hk rfl ?_
  refine l0 hi_15_5 ?_
  refine l10 hi_15_6 ?_
  refine l21r (v := .int (mc + 1)) hi_15_7 hk (fun _ => ?_)
  have hk1 : am_fs (cm_so S k (5, [ed, .int sz, .int (mc + 1)])) k = some (5, [ed, .int sz, .int (mc + 1)]) := cso_eq hk
  refine l2 (v := k) hi_15_10 rfl ?_
  refine l2 (v := v) hi_15_11 rfl ?_
  refine l2 (v := k) hi_15_12 rfl ?_
  refine l20r (v := ed) hi_15_13 hk1 rfl ?_
  refine l2 (v := k) hi_15_16 rfl ?_
  refine l20r (v := .int sz) hi_15_17 hk1 rfl ?_
  have he1 : c_ed (cm_so S k (5, [ed, .int sz, .int (mc + 1)])) ed m g := by
    rcases he with he | ⟨a, e1, e2⟩
    · exact Or.inl he
    · exact Or.inr ⟨a, e1, cso_r hk e2⟩
  refine l32 (as := [.ref k, .ref v, ed, .int sz]) (la := [some (.ref k), some (.ref v), some ed, some (.int sz)]) (rest := []) hi_15_20 (am_hd0 (M := 15) (by decide) 20) rfl rfl rfl (fun N' d' _ => lc16 (N := N') (d := d') hk1 he1 hm h0 h1) ?_ (fun _ q => nomatch q.1)
  rintro v' S1 ⟨ev, a', m', g', mc', q1, q2, q3, q4, q5, q6, q7, q8, q9, q10⟩
  cases ev
  refine l0 hi_15_23 ?_
  refine l36 hi_15_24 (fun _ => ⟨rfl, a', m', g', mc', q1, q2, q3, q4, q5, q6, q7, ?_, ?_, fun j r1 r2 r3 => ?_⟩)
  · rw [so_ln] at q8; exact q8
  · rw [so_ln] at q9; exact q9
  · rw [q10 j (by rw [so_ln]; exact r1) r2 r3, so_ne r2]
/-- the list of begun bodies is changed -/
theorem CMB.lst {B : cT → Nat} {S' : am_S} {e13 e' : Value} {m13 m' sz' : Int32} {op' : Nat → Nat} (h : CMB A B K S s) (g2 : am_fs S 13 = some (5, [e13, .int (s.f 13 1), .int m13])) (hl : S.1.length ≤ S'.1.length) (hs : ∀ j, j < S.1.length → j ≠ 13 → e13 ≠ .ref j → S'.1[j]? = S.1[j]?) (ho : am_fs S' 13 = some (5, [e', .int sz', .int m'])) (h0 : 0 ≤ sz'.toInt) (hli : c_li S' A e' sz'.toInt.toNat op') (hfr : e' = e13 ∨ ∀ a, e' = .ref a → S.1.length ≤ a) (hop : ∀ i : Nat, (i : Int) < sz'.toInt → op' i ≤ K) : CM A K S' (np (nf s 13 1 sz') op') := by
  obtain ⟨e6, m6, e13', m13', k1, k2, k3, k4, k5, k6⟩ := h.li
  rw [g2] at k2
  cases k2
  have nob : ∀ j q, am_fs S j = some q → e13 ≠ .ref j := fun j q hq e => by
    rcases k5 with ⟨k5, -⟩ | ⟨a, m, g, k5, k7, -⟩
    · rw [k5] at e; cases e
    · rw [k5] at e
      cases e
      rw [am_fs_ok hq] at k7
      cases k7
  have nar : ∀ (j : Nat) (c : Bool × Nat × (Nat → Int32)), S.1[j]? = some (.inl c) → e13 ≠ .ref j := fun j c hq e => by
    rcases k5 with ⟨k5, -⟩ | ⟨a, m, g, k5, k7, -⟩
    · rw [k5] at e; cases e
    · rw [k5] at e
      cases e
      rw [hq] at k7
      cases k7
  have fsn : ∀ j q, am_fs S j = some q → j ≠ 13 → am_fs S' j = some q := fun j q hq hj => (fs_of (hs j (am_ltl (am_fs_ok hq)) hj (nob j q hq))).trans hq
  have c13 : ∀ (c : am_C), S.1[13]? = some c → c = .inr (.inr (5, [e13, .int (s.f 13 1), .int m13])) := fun c hc => by
    rw [am_fs_ok g2] at hc
    cases hc
    rfl
  have f6 : (nf s 13 1 sz').f 6 = s.f 6 := nf_ne (by decide)
  have f13 : (nf s 13 1 sz').f 13 1 = sz' := by rw [nf_eq]; exact if_pos rfl
  refine ⟨B, Nat.le_trans h.len hl, fun k c hk => ?_, fun x hx => ?_, fun t ht => ?_, fun t ht => ?_, h.ai, h.aj, fun x hx => Nat.le_trans (h.al x hx) hl, h.bi, h.bj, ?_, ?_, ?_, h.nl⟩
  · show am_fs S' k = some (c, c_fl k (A s.now) ((nf s 13 1 sz').f k))
    have hki := c_so_in hk
    rw [nf_ne (by omega)]
    exact fsn _ _ (h.so k c hk) (by omega)
  · exact fsn _ _ (h.bo x hx) (by have := h.ai x hx; omega)
  · exact fsn _ _ (h.ta t ht) (by have := ca_st h.ai ht; simp only [List.mem_cons, List.not_mem_nil, or_false] at this; omega)
  · obtain ⟨k7, g, q1, q2⟩ := h.ar t ht
    refine ⟨k7, g, ?_, q2⟩
    rw [hs _ (am_ltl q1) (fun e => ?_) (nar _ _ q1)]
    · exact q1
    · rw [e] at q1
      have := c13 _ q1
      cases this
  · show ((nf s 13 1 sz').f 6 1).toInt = K
    rw [f6]
    exact h.kk
  · refine ⟨e6, m6, e', m', ?_, ?_, ?_, ?_, ?_, ?_⟩
    · show am_fs S' 6 = some (5, [e6, .int ((nf s 13 1 sz').f 6 1), .int m6])
      rw [f6]
      exact fsn _ _ k1 (by decide)
    · show am_fs S' 13 = some (5, [e', .int ((nf s 13 1 sz').f 13 1), .int m'])
      rw [f13]
      exact ho
    · rcases k3 with k3 | ⟨a, m, g, p1, p2, p3⟩
      · exact Or.inl k3
      · refine Or.inr ⟨a, m, g, p1, ?_, p3⟩
        rw [hs a (am_ltl p2) (fun e => ?_) (fun e => k6 a p1 e)]
        · exact p2
        · rw [e] at p2
          have := c13 _ p2
          cases this
    · show 0 ≤ ((nf s 13 1 sz').f 13 1).toInt
      rw [f13]
      exact h0
    · show c_li S' A e' ((nf s 13 1 sz').f 13 1).toInt.toNat op'
      rw [f13]
      exact hli
    · intro a p1 p2
      rcases hfr with e | e
      · exact k6 a p1 (e ▸ p2)
      · have e2 := e a p2
        rcases k3 with ⟨k3, -⟩ | ⟨a', m, g, p3, p4, -⟩
        · rw [k3] at p1; cases p1
        · rw [p3] at p1
          cases p1
          have := am_ltl p4
          omega
  · intro i hi
    have hi' : (i : Int) < ((nf s 13 1 sz').f 13 1).toInt := hi
    rw [f13] at hi'
    exact hop i hi'
def npush (s : cS) (x : Nat) : cS := np (nf s 13 1 (s.f 13 1 + 1)) (fun j => if j = (s.f 13 1).toInt.toNat then x else s.op j)
theorem lc15o {x : Nat} (hS : CM A K S s) (hx : x ≤ K) : am_L (am_PP sc) N d 15 0 [some (.ref 13), some (.ref (A x))] [] S (fun o S1 => o = some (some (.int 1)) ∧ CM A K S1 (npush s x)) := by
  obtain ⟨B, h⟩ := hS
  obtain ⟨e6, m6, e13, m13, g1, g2, g3, g4, g5, g6⟩ := h.li
  have fin : ∀ (m : Nat) (g : Nat → Option Nat), (∀ i : Nat, (i : Int) < (s.f 13 1).toInt → g i = some (A (s.op i))) → (∀ a, e13 = .ref a → a < 39 ∨ 94 ≤ a) → ∀ (o : Option (Option Value)) (S1 : am_S), o = some (some (.int 1)) ∧ AddR S 13 (A x) e13 g (s.f 13 1) S1 → o = some (some (.int 1)) ∧ CM A K S1 (npush s x) := by
    rintro m g hg ha o S1 ⟨eo, a', m', g', mc', q1, q2, q3, q4, q5, q6, q7, q8, q9, q10⟩
    refine ⟨eo, h.lst g2 q9 q10 q1 (by omega) (Or.inr ⟨a', m', g', rfl, q2, by omega, q3, ?_, fun i hi => ?_⟩) ?_ (fun i hi => ?_)⟩
    · rcases q8 with q8 | q8
      · exact ha a' q8
      · rw [q8]; exact Or.inr h.len
    · show g' i = some (A (if i = (s.f 13 1).toInt.toNat then x else s.op i))
      by_cases e : i = (s.f 13 1).toInt.toNat
      · rw [if_pos e, e]; exact q6
      · rw [if_neg e, q7 i (by omega)]; exact hg i (by omega)
    · rcases q8 with q8 | q8
      · exact Or.inl q8.symm
      · exact Or.inr (fun a e => by cases e; exact Nat.le_of_eq q8.symm)
    · show (if i = (s.f 13 1).toInt.toNat then x else s.op i) ≤ K
      by_cases e : i = (s.f 13 1).toInt.toNat
      · rw [if_pos e]; exact hx
      · rw [if_neg e]; exact h.ol i (by omega)
  rcases g5 with ⟨e, q⟩ | ⟨a, m, g, e, q1, q2, q3, q4, q5⟩
  · refine am_L.mono (lc15 (m := 0) (g := fun _ => none) g2 (Or.inl ⟨e, rfl⟩) (by decide) g4 (by omega)) (fun o S1 => fin 0 _ (fun i hi => by omega) (fun a e2 => by rw [e] at e2; cases e2) o S1)
  · refine am_L.mono (lc15 g2 (Or.inr ⟨a, e, q1⟩) q3 g4 (by omega)) (fun o S1 => fin m g (fun i hi => q5 i (by omega)) (fun a' e2 => by rw [e] at e2; cases e2; exact q4) o S1)
end LSR
