/-! LISTS OF THE CLASS: what every run of the library's methods does -/
theorem sr_ne {S : am_S} {k j n : Nat} {f : Nat → Option Nat} (h : j ≠ k) : (cm_sr S k n f).1[j]? = S.1[j]? := by
  show (S.1.set k _)[j]? = _
  rw [List.getElem?_set_ne (fun z => h z.symm)]
theorem sr_eq {S : am_S} {k n : Nat} {f : Nat → Option Nat} {c : am_C} (h : S.1[k]? = some c) : (cm_sr S k n f).1[k]? = some (.inr (.inl (n, f))) := by
  show (S.1.set k _)[k]? = _
  rw [List.getElem?_set_self (am_ltl h)]
theorem sr_ln {S : am_S} {k n : Nat} {f : Nat → Option Nat} : (cm_sr S k n f).1.length = S.1.length := List.length_set
section LST
variable {sc : Nat × (Nat → Int32)} {N d : Nat} {S : am_S}
theorem l_none {P : am_P} {N d M pc : Nat} {ls : am_V} {st : List Value} {Q : Option (Option Value) → am_S → Prop} (hi : P.1 M pc = none) : am_L P N d M pc ls st S Q := by
  intro n hn o S' h
  cases n with
  | zero => simp [am_run] at h
  | succ n =>
    rw [am_run, hi] at h
    cases h
theorem hn_27_12 : (am_PP sc).1 27 12 = none := (by decide +kernel : am_P0.1 27 12 = none)
theorem hn_21_9 : (am_PP sc).1 21 8 = none := (by decide +kernel : am_P0.1 21 8 = none)
theorem lc20 {x y : Int32} : am_L (am_PP sc) N d 20 0 [some (.int x), some (.int y)] [] S (fun o S1 => S1 = S ∧ o = some (some (.int (if x < y then y else x)))) := by
  refine l1 (v := x) hi_20_0 rfl ?_
  refine l1 (v := y) hi_20_1 rfl ?_
  by_cases c1 : x < y
  · refine l13t hi_20_2 (decide_eq_true c1) ?_
    refine l1 (v := y) hi_20_9 rfl ?_
    exact l33 hi_20_10 ⟨rfl, by rw [if_pos c1]⟩
  · refine l13f hi_20_2 (decide_eq_false c1) ?_
    refine l1 (v := x) hi_20_5 rfl ?_
    refine l18 hi_20_6 ?_
    exact l33 hi_20_10 ⟨rfl, by rw [if_neg c1]⟩
theorem lc21 {x y : Int32} : am_L (am_PP sc) N d 21 0 [some (.int x), some (.int y), none] [] S (fun o S1 => S1 = S ∧ ∃ r, o = some (some (.int r))) := by
  refine l1 (v := x) hi_21_0 rfl ?_
  refine l1 (v := y) hi_21_1 rfl ?_
  refine l10 hi_21_2 ?_
  refine l3 (ls' := [some (.int x), some (.int y), some (.int (x + y))]) hi_21_3 (Nat.le_of_ble_eq_true rfl) rfl ?_
  refine l1 (v := x + y) hi_21_4 rfl ?_
  by_cases c1 : 0 ≤ x + y
  · refine l12t hi_21_5 (decide_eq_true c1) ?_
    refine l1 (v := x + y) hi_21_49 rfl ?_
    refine l0 hi_21_50 ?_
    by_cases c2 : 2147483639 < x + y
    · refine l13t hi_21_52 (decide_eq_true c2) ?_
      refine l1 (v := x + y) hi_21_58 rfl ?_
      exact l33 hi_21_59 ⟨rfl, _, rfl⟩
    · refine l13f hi_21_52 (decide_eq_false c2) ?_
      refine l0 hi_21_55 ?_
      exact l33 hi_21_57 ⟨rfl, _, rfl⟩
  · refine l12f hi_21_5 (decide_eq_false c1) ?_
    exact l_none hn_21_9
theorem lc19 {x y z : Int32} : am_L (am_PP sc) N d 19 0 [some (.int x), some (.int y), some (.int z), none] [] S (fun o S1 => S1 = S ∧ ∃ r, o = some (some (.int r))) := by
  refine l1 (v := x) hi_19_0 rfl ?_
  refine l1 (v := y) hi_19_1 rfl ?_
  refine l1 (v := z) hi_19_2 rfl ?_
  refine l32 (as := [.int y, .int z]) (la := [some (.int y), some (.int z)]) (rest := [.int x]) hi_19_3 (am_hd0 (M := 19) (by decide) 3) rfl rfl rfl (fun N' d' _ => lc20 (N := N') (d := d')) ?_ (fun _ q => nomatch q.2)
  rintro v S1 ⟨eS, ev⟩
  rw [eS]
  cases ev
  refine l10 hi_19_6 ?_
  generalize am_bin 0 x (if y < z then z else y) = w
  refine l3 (ls' := [some (.int x), some (.int y), some (.int z), some (.int w)]) hi_19_7 (Nat.le_of_ble_eq_true rfl) rfl ?_
  refine l0 hi_19_8 ?_
  refine l1 (v := w) hi_19_9 rfl ?_
  have hh : am_L (am_PP sc) N d 19 21 [some (.int x), some (.int y), some (.int z), some (.int w)] [] S (fun o S1 => S1 = S ∧ ∃ r, o = some (some (.int r))) := by
    refine l1 (v := x) hi_19_21 rfl ?_
    refine l1 (v := y) hi_19_22 rfl ?_
    refine l32 (as := [.int x, .int y]) (la := [some (.int x), some (.int y), none]) (rest := []) hi_19_23 (am_hd0 (M := 19) (by decide) 23) rfl rfl rfl (fun N' d' _ => lc21 (N := N') (d := d')) ?_ (fun _ q => nomatch q.2.choose_spec)
    rintro v S1 ⟨eS, r, ev⟩
    rw [eS]
    cases ev
    exact l33 hi_19_26 ⟨rfl, _, rfl⟩
  by_cases c1 : w ≤ 0
  · refine l13t hi_19_10 (decide_eq_true c1) ?_
    exact hh
  · refine l13f hi_19_10 (decide_eq_false c1) ?_
    refine l1 (v := w) hi_19_13 rfl ?_
    refine l0 hi_19_14 ?_
    by_cases c2 : 2147483639 < w
    · refine l13t hi_19_16 (decide_eq_true c2) ?_
      exact hh
    · refine l13f hi_19_16 (decide_eq_false c2) ?_
      refine l1 (v := w) hi_19_19 rfl ?_
      exact l33 hi_19_20 ⟨rfl, _, rfl⟩
theorem lc27 {i n : Int32} : am_L (am_PP sc) N d 27 0 [some (.int i), some (.int n), some .null] [] S (fun o S1 => S1 = S ∧ 0 ≤ i.toInt ∧ i.toInt < n.toInt ∧ o = some (some (.int i))) := by
  have e0 : (0 : Int32).toInt = 0 := rfl
  have bad : am_L (am_PP sc) N d 27 9 [some (.int i), some (.int n), some .null] [] S (fun o S1 => S1 = S ∧ 0 ≤ i.toInt ∧ i.toInt < n.toInt ∧ o = some (some (.int i))) := by
    refine l2n hi_27_9 rfl ?_
    refine l1 (v := i) hi_27_10 rfl ?_
    refine l1 (v := n) hi_27_11 rfl ?_
    exact l_none hn_27_12
  refine l1 (v := i) hi_27_0 rfl ?_
  by_cases c1 : i < 0
  · refine l12t hi_27_1 (decide_eq_true c1) ?_
    exact bad
  · refine l12f hi_27_1 (decide_eq_false c1) ?_
    refine l1 (v := i) hi_27_4 rfl ?_
    refine l1 (v := n) hi_27_5 rfl ?_
    by_cases c2 : i < n
    · refine l13t hi_27_6 (decide_eq_true c2) ?_
      refine l1 (v := i) hi_27_16 rfl ?_
      rw [i_lt] at c1 c2
      exact l33 hi_27_17 ⟨rfl, by omega, c2, rfl⟩
    · refine l13f hi_27_6 (decide_eq_false c2) ?_
      exact bad
theorem lc26 {i n : Int32} : am_L (am_PP sc) N d 26 0 [some (.int i), some (.int n)] [] S (fun o S1 => S1 = S ∧ 0 ≤ i.toInt ∧ i.toInt < n.toInt ∧ o = some (some (.int i))) := by
  refine l1 (v := i) hi_26_0 rfl ?_
  refine l1 (v := n) hi_26_1 rfl ?_
  refine l29 hi_26_2 ?_
  refine l32 (as := [.int i, .int n, .null]) (la := [some (.int i), some (.int n), some .null]) (rest := []) hi_26_3 (am_hd0 (M := 26) (by decide) 3) rfl rfl rfl (fun N' d' _ => lc27 (N := N') (d := d')) ?_ (fun _ q => nomatch q.2.2.2)
  rintro v S1 ⟨eS, h1, h2, ev⟩
  rw [eS]
  cases ev
  exact l33 hi_26_6 ⟨rfl, h1, h2, rfl⟩
theorem lc23 {a m : Nat} {g : Nat → Option Nat} {n : Int32} (ha : S.1[a]? = some (.inr (.inl (m, g)))) (hm : m ≤ 16777216) : am_L (am_PP sc) N d 23 0 [some (.ref a), some (.int n), some (.long 1), none] [] S (fun o S1 => o = some (some (.ref S.1.length)) ∧ S1.1.length = S.1.length + 1 ∧ (∀ k, k < S.1.length → S1.1[k]? = S.1[k]?) ∧ n.toInt ≤ 16777216 ∧ ∃ g1, S1.1[S.1.length]? = some (.inr (.inl (n.toNatClampNeg, g1))) ∧ ∀ j : Nat, (j : Int) < m → (j : Int) < n.toInt → g1 j = g j) := by
  refine l2l (z := 1) hi_23_0 rfl ?_
  refine l45 hi_23_1 ?_
  refine l17 hi_23_3 ?_
  refine l1 (v := n) hi_23_6 rfl ?_
  refine l38 hi_23_7 (fun n0 n1 => ?_)
  refine l18 hi_23_10 ?_
  refine l4 (ls' := [some (.ref a), some (.int n), some (.long 1), some (.ref S.1.length)]) hi_23_24 (Nat.le_of_ble_eq_true rfl) rfl ?_
  have hbl := am_ltl ha
  have hb1 : (S.1 ++ [(.inr (.inl (n.toNatClampNeg, fun _ => none)) : am_C)])[a]? = some (.inr (.inl (m, g))) := by
    rw [List.getElem?_append_left hbl]; exact ha
  have hn1 : (S.1 ++ [(.inr (.inl (n.toNatClampNeg, fun _ => none)) : am_C)])[S.1.length]? = some (.inr (.inl (n.toNatClampNeg, fun _ => none))) := by
    rw [List.getElem?_append_right (Nat.le_refl _), Nat.sub_self]; rfl
  refine l2 (v := a) hi_23_25 rfl ?_
  refine l0 hi_23_26 ?_
  refine l2 (v := S.1.length) hi_23_27 rfl ?_
  refine l0 hi_23_28 ?_
  refine l2 (v := a) hi_23_29 rfl ?_
  refine l24r hi_23_30 hb1 ?_
  refine l1 (v := n) hi_23_31 rfl ?_
  refine l32 (as := [.int (Int32.ofNat m), .int n]) (la := [some (.int (Int32.ofNat m)), some (.int n)]) (rest := [.int 0, .ref S.1.length, .int 0, .ref a]) hi_23_32 (am_hd0 (M := 23) (by decide) 32) rfl rfl rfl (fun N' d' _ => lc24 (N := N') (d := d')) ?_ (fun _ q => nomatch q.2)
  rintro v S1 ⟨rfl, ev⟩
  cases ev
  refine l42 hi_23_35 hb1 hn1 (fun q => ?_)
  refine l2 (v := S.1.length) hi_23_38 rfl ?_
  refine l34 hi_23_39 ⟨rfl, ?_, fun k hk => ?_, n1, _, sr_eq hn1, fun j h1 h2 => ?_⟩
  · rw [sr_ln]
    show (S.1 ++ _).length = _
    rw [List.length_append]
    rfl
  · rw [sr_ne (by omega)]
    show (S.1 ++ _)[k]? = _
    rw [List.getElem?_append_left hk]
  · have e : (if Int32.ofNat m ≤ n then Int32.ofNat m else n).toNatClampNeg = (if Int32.ofNat m ≤ n then Int32.ofNat m else n).toInt.toNat := rfl
    have h3 := i_nat hm
    have h4 : (j : Int) < (if Int32.ofNat m ≤ n then Int32.ofNat m else n).toInt := by
      split
      · omega
      · exact h2
    show va_cpy g (fun _ => none) 0 0 _ j = g j
    unfold va_cpy
    rw [if_pos ⟨Nat.zero_le _, by rw [e]; omega⟩]
    congr 1
    omega
theorem lc22 {a m : Nat} {g : Nat → Option Nat} {n : Int32} (ha : S.1[a]? = some (.inr (.inl (m, g)))) (hm : m ≤ 16777216) : am_L (am_PP sc) N d 22 0 [some (.ref a), some (.int n)] [] S (fun o S1 => o = some (some (.ref S.1.length)) ∧ S1.1.length = S.1.length + 1 ∧ (∀ k, k < S.1.length → S1.1[k]? = S.1[k]?) ∧ n.toInt ≤ 16777216 ∧ ∃ g1, S1.1[S.1.length]? = some (.inr (.inl (n.toNatClampNeg, g1))) ∧ ∀ j : Nat, (j : Int) < m → (j : Int) < n.toInt → g1 j = g j) := by
  refine l2 (v := a) hi_22_0 rfl ?_
  refine l1 (v := n) hi_22_1 rfl ?_
  refine l2 (v := a) hi_22_2 rfl ?_
  refine l44 hi_22_3 ?_
  refine l32 (as := [.ref a, .int n, .long 1]) (la := [some (.ref a), some (.int n), some (.long 1), none]) (rest := []) hi_22_6 (am_hd0 (M := 22) (by decide) 6) rfl rfl rfl (fun N' d' _ => lc23 (N := N') (d := d') ha hm) ?_ (fun _ q => nomatch q.1)
  rintro v S1 ⟨ev, q⟩
  cases ev
  exact l34 hi_22_9 ⟨rfl, q⟩
/-- what a list's field holds -/
def c_ed (S : am_S) (ed : Value) (m : Nat) (g : Nat → Option Nat) : Prop := (ed = .long 0 ∧ m = 0) ∨ ∃ a, ed = .ref a ∧ S.1[a]? = some (.inr (.inl (m, g)))
theorem lc18 {k m : Nat} {ed : Value} {g : Nat → Option Nat} {sz mc n : Int32} (hk : am_fs S k = some (5, [ed, .int sz, .int mc])) (he : c_ed S ed m g) (hm : m ≤ 16777216) : am_L (am_PP sc) N d 18 0 [some (.ref k), some (.int n), none, none] [] S (fun o S1 => o = some (some (.ref S.1.length)) ∧ S1.1.length = S.1.length + 1 ∧ (∀ j, j < S.1.length → j ≠ k → S1.1[j]? = S.1[j]?) ∧ am_fs S1 k = some (5, [.ref S.1.length, .int sz, .int mc]) ∧ ∃ m1 g1, m1 ≤ 16777216 ∧ S1.1[S.1.length]? = some (.inr (.inl (m1, g1))) ∧ ∀ j : Nat, j < m → j < m1 → g1 j = g j) := by
  have kl := am_ltl (am_fs_ok hk)
  refine l2 (v := k) hi_18_0 rfl ?_
  refine l20r (v := ed) hi_18_1 hk rfl ?_
  rcases he with ⟨rfl, rfl⟩ | ⟨a, rfl, ha⟩
  · refine l24l hi_18_4 ?_
    refine l3 (ls' := [some (.ref k), some (.int n), some (.int 0), none]) hi_18_5 (Nat.le_of_ble_eq_true rfl) rfl ?_
    refine l1 (v := 0) hi_18_6 rfl ?_
    refine l12f hi_18_7 (by decide) ?_
    refine l2 (v := k) hi_18_10 rfl ?_
    refine l20r (v := .long 0) hi_18_11 hk rfl ?_
    refine l43 hi_18_14 ?_
    refine l16y hi_18_17 ?_
    refine l2 (v := k) hi_18_45 rfl ?_
    refine l0 hi_18_46 ?_
    refine l1 (v := n) hi_18_48 rfl ?_
    refine l32 (as := [.int 10, .int n]) (la := [some (.int 10), some (.int n)]) (rest := [.ref k]) hi_18_49 (am_hd0 (M := 18) (by decide) 49) rfl rfl rfl (fun N' d' _ => lc20 (N := N') (d := d')) ?_ (fun _ q => nomatch q.2)
    rintro v S1 ⟨eS, ev⟩
    rw [eS]
    cases ev
    generalize (if 10 < n then n else 10) = w
    refine l38 hi_18_52 (fun w0 w1 => ?_)
    refine l9 hi_18_55 ?_
    have hk1 : am_fs (S.1 ++ [(.inr (.inl (w.toNatClampNeg, fun _ => none)) : am_C)], S.2.1 + 1, S.2.2 + w.toNatClampNeg) k = some (5, [.long 0, .int sz, .int mc]) := by
      rw [fs_of (S := S) (by show (S.1 ++ _)[k]? = _; rw [List.getElem?_append_left kl])]
      exact hk
    have hn1 : ((S.1 ++ [(.inr (.inl (w.toNatClampNeg, fun _ => none)) : am_C)], S.2.1 + 1, S.2.2 + w.toNatClampNeg) : am_S).1[S.1.length]? = some (.inr (.inl (w.toNatClampNeg, fun _ => none))) := by
      show (S.1 ++ _)[S.1.length]? = _
      rw [List.getElem?_append_right (Nat.le_refl _), Nat.sub_self]; rfl
    refine l21r hi_18_56 hk1 (fun _ => ?_)
    refine l34 hi_18_59 ⟨rfl, ?_, fun j h1 h2 => ?_, cso_eq hk1, _, _, ?_, cso_r hk1 hn1, fun j h1 => absurd h1 (Nat.not_lt_zero _)⟩
    · rw [so_ln]
      show (S.1 ++ _).length = _
      rw [List.length_append]
      rfl
    · rw [so_ne h2]
      show (S.1 ++ _)[j]? = _
      rw [List.getElem?_append_left h1]
    · show w.toInt.toNat ≤ _
      omega
  · refine l24r hi_18_4 ha ?_
    refine l3 (ls' := [some (.ref k), some (.int n), some (.int (Int32.ofNat m)), none]) hi_18_5 (Nat.le_of_ble_eq_true rfl) rfl ?_
    refine l1 (v := Int32.ofNat m) hi_18_6 rfl ?_
    have go : am_L (am_PP sc) N d 18 20 [some (.ref k), some (.int n), some (.int (Int32.ofNat m)), none] [] S (fun o S1 => o = some (some (.ref S.1.length)) ∧ S1.1.length = S.1.length + 1 ∧ (∀ j, j < S.1.length → j ≠ k → S1.1[j]? = S.1[j]?) ∧ am_fs S1 k = some (5, [.ref S.1.length, .int sz, .int mc]) ∧ ∃ m1 g1, m1 ≤ 16777216 ∧ S1.1[S.1.length]? = some (.inr (.inl (m1, g1))) ∧ ∀ j : Nat, j < m → j < m1 → g1 j = g j) := by
      refine l1 (v := Int32.ofNat m) hi_18_20 rfl ?_
      refine l1 (v := n) hi_18_21 rfl ?_
      refine l1 (v := Int32.ofNat m) hi_18_22 rfl ?_
      refine l10 hi_18_23 ?_
      refine l1 (v := Int32.ofNat m) hi_18_24 rfl ?_
      refine l0 hi_18_25 ?_
      refine l10 hi_18_26 ?_
      refine l32 (as := [.int (Int32.ofNat m), .int (am_bin 1 n (Int32.ofNat m)), .int (am_bin 5 (Int32.ofNat m) 1)]) (la := [some (.int (Int32.ofNat m)), some (.int (am_bin 1 n (Int32.ofNat m))), some (.int (am_bin 5 (Int32.ofNat m) 1)), none]) (rest := []) hi_18_27 (am_hd0 (M := 18) (by decide) 27) rfl rfl rfl (fun N' d' _ => lc19 (N := N') (d := d')) ?_ (fun _ q => nomatch q.2.choose_spec)
      rintro v S1 ⟨eS, w, ev⟩
      rw [eS]
      cases ev
      refine l3 (ls' := [some (.ref k), some (.int n), some (.int (Int32.ofNat m)), some (.int w)]) hi_18_30 (Nat.le_of_ble_eq_true rfl) rfl ?_
      refine l2 (v := k) hi_18_31 rfl ?_
      refine l2 (v := k) hi_18_32 rfl ?_
      refine l20r (v := .ref a) hi_18_33 hk rfl ?_
      refine l1 (v := w) hi_18_36 rfl ?_
      refine l32 (as := [.ref a, .int w]) (la := [some (.ref a), some (.int w)]) (rest := [.ref k]) hi_18_37 (am_hd0 (M := 18) (by decide) 37) rfl rfl rfl (fun N' d' _ => lc22 (N := N') (d := d') ha hm) ?_ (fun _ q => nomatch q.1)
      rintro v S1 ⟨ev, q1, q2, q3, g1, q4, q5⟩
      cases ev
      refine l9 hi_18_40 ?_
      have hk1 : am_fs S1 k = some (5, [.ref a, .int sz, .int mc]) := by rw [fs_of (q2 k kl)]; exact hk
      refine l21r hi_18_41 hk1 (fun _ => ?_)
      refine l34 hi_18_44 ⟨rfl, ?_, fun j h1 h2 => ?_, cso_eq hk1, _, _, ?_, cso_r hk1 q4, fun j h1 h2 => q5 j (by omega) ?_⟩
      · rw [so_ln]; exact q1
      · rw [so_ne h2]; exact q2 j h1
      · show w.toInt.toNat ≤ _
        omega
      · have : w.toNatClampNeg = w.toInt.toNat := rfl
        omega
    by_cases c1 : 0 < Int32.ofNat m
    · refine l12t hi_18_7 (decide_eq_true c1) ?_
      exact go
    · refine l12f hi_18_7 (decide_eq_false c1) ?_
      refine l2 (v := k) hi_18_10 rfl ?_
      refine l20r (v := .ref a) hi_18_11 hk rfl ?_
      refine l43 hi_18_14 ?_
      refine l16n hi_18_17 ?_
      exact go
end LST
