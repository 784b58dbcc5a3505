/-! OUTERS: what else happens to names -/
section OU6
variable {s s' : cS} {k k' : kS} {E : List (Nat × oR)} {X : List xF} {f f' : xF} {r : List xF} {b : Nat}
theorem IS.fr {m c : Nat} (h : IS k m c) (e31 : k'.1 31 = k.1 31) (e27 : k'.2 27 = k.2 27) : IS k' m c := by
  unfold IS
  rw [e31, e27]
  exact h
theorem OU.fr {F A : Nat} (h : OU b s k X) (hu : ∀ x, s'.r (.u x) = s.r (.u x) ∧ s'.c (.u x) = s.c (.u x)) (hk : kFr F A k k') (hF : F &&& 4620693219829612544 = 0) (hA : A &&& 285924533142699376640 = 0) : OU b s' k' X := by
  have tb : ∀ (A M j : Nat), A &&& M = 0 → M.testBit j = true → A.testBit j = false := fun A M j ez hj => by
    have := congrArg (fun q => q.testBit j) ez
    simp only [Nat.testBit_and, hj, Bool.and_true, Nat.zero_testBit] at this
    exact this
  have e31 := hk.1 31 (tb _ _ 31 hF (by decide))
  have e53 := hk.1 53 (tb _ _ 53 hF (by decide))
  have e62 := hk.1 62 (tb _ _ 62 hF (by decide))
  have e26 := hk.2 26 (tb _ _ 26 hA (by decide))
  have e27 := hk.2 27 (tb _ _ 27 hA (by decide))
  have e63 := hk.2 63 (tb _ _ 63 hA (by decide))
  have e64 := hk.2 64 (tb _ _ 64 hA (by decide))
  have e65 := hk.2 65 (tb _ _ 65 hA (by decide))
  have e66 := hk.2 66 (tb _ _ 66 hA (by decide))
  have e67 := hk.2 67 (tb _ _ 67 hA (by decide))
  obtain ⟨E, N, c, o1, o2, o3, o4, o5, o6, o7, o8, o9⟩ := h
  refine ⟨E, N, c, by rw [e53]; exact o1, ⟨o2.1, fun x hx => by rw [(hu _).1]; exact o2.2 x hx⟩, o3, o4, o5, ?_, fun x hx => ⟨(o7 x hx).1.same (hu _).1 (hu _).2, by rw [e67]; exact (o7 x hx).2⟩, OI.fr o8 e26 e27, o9.fr e31 e27⟩
  unfold OE
  rw [e62, e63, e64, e65, e66]
  exact o6
/-- locals go away -/
theorem OU.cut (h : OU b s k (f :: r)) (h1 : f'.1 = f.1) (h2 : f'.2.1.length ≤ f.2.1.length) (h3 : f'.2.2.1.length ≤ f.2.2.1.length) : OU b s k (f' :: r) := by
  obtain ⟨E, N, c, o1, o2, o3, o4, o5, o6, o7, ⟨p1, p2, p3, p4⟩, o9⟩ := h
  have o4' : c + wX (f' :: r) ≤ b := by
    have e1 : wX (f :: r) = wX r + f.2.2.1.length := rfl
    have e2 : wX (f' :: r) = wX r + f'.2.2.1.length := rfl
    omega
  refine ⟨E, N, c, o1, o2, o3, o4', o5, o6, o7, ⟨fun n hn => p1 n (by omega), by rw [h1]; exact p2, by rw [h1]; exact p3, p4⟩, o9.less ?_⟩
  show (kL r ++ f'.2.1).length ≤ (kL r ++ f.2.1).length
  rw [List.length_append, List.length_append]
  omega
/-- a local more -/
theorem OU.psh {b' : Nat} (h : OU b s k (f :: r)) (hb : b < 1000000) (hb1 : b ≤ b') (hb2 : b + 1 + f'.2.2.1.length ≤ b' + f.2.2.1.length) (h1 : f'.1 = f.1) (h2 : f'.2.1.length = f.2.1.length + 1) (hu : ∀ x, s'.r (.u x) = s.r (.u x) ∧ s'.c (.u x) = s.c (.u x)) (e26 : k'.2 26 = upd (k.2 26) (kL (f :: r)).length (xn r.length)) (e27 : k'.2 27 = upd (k.2 27) (kL (f :: r)).length (k.1 31)) (e31 : k'.1 31 = k.1 31 + 1) (e53 : k'.1 53 = k.1 53) (e62 : k'.1 62 = k.1 62) (eA : ∀ j, j = 63 ∨ j = 64 ∨ j = 65 ∨ j = 66 ∨ j = 67 → k'.2 j = k.2 j) : OU b' s' k' (f' :: r) := by
  have w1 : wX (f :: r) = wX r + f.2.2.1.length := rfl
  have w2 : wX (f' :: r) = wX r + f'.2.2.1.length := rfl
  have eK : (kL (f :: r)).length = (kL r).length + f.2.1.length := by show (kL r ++ f.2.1).length = _; rw [List.length_append]
  have eK' : (kL (f' :: r)).length = (kL (f :: r)).length + 1 := by show (kL r ++ f'.2.1).length = _; rw [List.length_append, eK, h2]; omega
  have lo26 : ∀ i, i < (kL (f :: r)).length → k'.2 26 i = k.2 26 i := fun i hi => by rw [e26]; unfold upd; exact if_neg (by omega)
  have lo27 : ∀ i, i < (kL (f :: r)).length → k'.2 27 i = k.2 27 i := fun i hi => by rw [e27]; unfold upd; exact if_neg (by omega)
  have hi27 : k'.2 27 (kL (f :: r)).length = k.1 31 := by rw [e27]; exact if_pos rfl
  obtain ⟨E, N, c, o1, o2, o3, o4, o5, o6, o7, ⟨p1, p2, p3, p4⟩, q1, q2, q3⟩ := h
  have low : ∀ {Z : List xF}, OI k E Z → (kL Z).length ≤ (kL (f :: r)).length → OI k' E Z := by
    intro Z
    induction Z with
    | nil => intro _ _; trivial
    | cons g Y ih =>
      rintro ⟨a1, a2, a3, a4⟩ hl
      have lZ : (kL (g :: Y)).length = (kL Y).length + g.2.1.length := by show (kL Y ++ g.2.1).length = _; rw [List.length_append]
      refine ⟨fun n hn => by rw [lo26 _ (by omega)]; exact a1 n hn, a2, fun q hq => ?_, ih a4 (by omega)⟩
      obtain ⟨h', r', b1, b2⟩ := a3 q hq
      refine ⟨h', r', b1, ?_⟩
      rcases b2 with ⟨c1, n, c2, c3, c4⟩ | c1
      · refine Or.inl ⟨c1, n, c2, c3, ?_⟩
        have lY : (kL Y).length = (kL r').length + h'.2.1.length := by rw [b1]; show (kL r' ++ h'.2.1).length = _; rw [List.length_append]
        rw [lo27 _ (by omega)]
        exact c4
      · exact Or.inr c1
  have hl := low (Z := f :: r) ⟨p1, p2, p3, p4⟩ (Nat.le_refl _)
  obtain ⟨g1, g2, g3, g4⟩ := hl
  refine ⟨E, N, c + 1, by rw [e53]; exact o1, ⟨o2.1, fun x hx => by rw [(hu _).1]; exact o2.2 x hx⟩, by omega, by omega, o5, ?_, fun x hx => ⟨(o7 x hx).1.same (hu _).1 (hu _).2, by rw [eA 67 (by decide)]; exact (o7 x hx).2⟩, ⟨fun n hn => ?_, by rw [h1]; exact g2, by rw [h1]; exact g3, g4⟩, ?_, ?_, ?_⟩
  · unfold OE
    rw [e62, eA 63 (by decide), eA 64 (by decide), eA 65 (by decide), eA 66 (by decide)]
    exact o6
  · rcases Nat.lt_or_ge n f.2.1.length with z | z
    · exact g1 n z
    · have en : (kL r).length + n = (kL (f :: r)).length := by omega
      rw [en, e26]
      exact if_pos rfl
  · rw [e31, q1]
    exact xn_succ (by omega)
  · rw [eK']
    intro i j hij hj
    rcases Nat.lt_or_ge j (kL (f :: r)).length with z | z
    · rw [lo27 i (by omega), lo27 j z]
      exact q2 i j hij z
    · have ej : j = (kL (f :: r)).length := by omega
      rw [ej, hi27, lo27 i (by omega), q1, xn_i (by omega)]
      exact q3 i (by omega)
  · rw [eK']
    intro i hi
    rcases Nat.lt_or_ge i (kL (f :: r)).length with z | z
    · rw [lo27 i z]
      have := q3 i z
      omega
    · have ej : i = (kL (f :: r)).length := by omega
      rw [ej, hi27, q1, xn_i (by omega)]
      omega
/-- a function ends -/
theorem OU.fin (h : OU b s k (f :: r)) : OU b s k r := by
  obtain ⟨E, N, c, o1, o2, o3, o4, o5, o6, o7, p, o9⟩ := h
  have w1 : wX (f :: r) = wX r + f.2.2.1.length := rfl
  exact ⟨E, N, c, o1, o2, o3, by omega, o5, o6, o7, p.2.2.2, o9.less (kL_app (P := [f]))⟩
/-- a function begins -/
theorem OU.bgn {n : Nat} (h : OU b s k X) (hn : k.1 53 = xn n) (hn2 : n < 1000000) (h1 : f.1 = n + 1) (h2 : f.2.1 = []) (h3 : f.2.2.1 = []) (hu : ∀ x, x ≠ n + 1 → s'.r (.u x) = s.r (.u x) ∧ s'.c (.u x) = s.c (.u x)) (hr : (s'.r (.u (n + 1))).toInt = 0) (e53 : k'.1 53 = k.1 53 + 1) (e62 : k'.1 62 = k.1 62) (e31 : k'.1 31 = k.1 31) (eA : ∀ j, j = 26 ∨ j = 27 ∨ j = 63 ∨ j = 64 ∨ j = 65 ∨ j = 66 → k'.2 j = k.2 j) (e67 : k'.2 67 = upd (k.2 67) n 0) : OU b s' k' (f :: X) := by
  obtain ⟨E, N, c, o1, ⟨o2, on⟩, o3, o4, o5, o6, o7, o8, o9⟩ := h
  have eN : N = n := xn_inj (by omega) (by omega) (o1.symm.trans hn)
  subst eN
  have e0 : oo E N = [] := by
    unfold oo
    rw [List.map_eq_nil_iff, List.filter_eq_nil_iff]
    intro q hq z
    have := o5 q hq
    have := of_decide_eq_true z
    omega
  have ef : f.1 - 1 = N := by omega
  have w1 : wX (f :: X) = wX X + f.2.2.1.length := rfl
  rw [h3] at w1
  have w2 : ([] : List xR).length = 0 := rfl
  refine ⟨E, N + 1, c, ?_, ⟨by omega, fun x hx => by rw [(hu (x + 1) (by omega)).1]; exact on x (by omega)⟩, o3, by omega, fun q hq => by have := o5 q hq; omega, ?_, fun x hx => ?_, ⟨?_, ?_, ?_, OI.fr o8 (eA 26 (by decide)) (eA 27 (by decide))⟩, ?_⟩
  · rw [e53, o1]
    exact xn_succ (by omega)
  · unfold OE
    rw [e62, eA 63 (by decide), eA 64 (by decide), eA 65 (by decide), eA 66 (by decide)]
    exact o6
  · rw [e67]
    rcases Nat.lt_or_ge x N with z | z
    · refine ⟨(o7 x z).1.same (hu _ (by omega)).1 (hu _ (by omega)).2, ?_⟩
      unfold upd
      rw [if_neg (by omega)]
      exact (o7 x z).2
    · have ex : x = N := by omega
      subst ex
      rw [e0]
      refine ⟨⟨hr, fun i q hq => by cases hq⟩, ?_⟩
      exact if_pos rfl
  · rw [h2]
    intro n hn
    cases hn
  · rw [ef, e0]
    exact List.nodup_nil
  · rw [ef, e0]
    intro q hq
    cases hq
  · have : kL (f :: X) = kL X := by show kL X ++ f.2.1 = _; rw [h2]; exact List.append_nil _
    rw [this]
    exact o9.fr e31 (eA 27 (by decide))
theorem OU.mono {b' : Nat} (h : OU b s k X) (hb : b ≤ b') : OU b' s k X := by
  obtain ⟨E, h⟩ := h
  exact ⟨E, h.mono hb⟩
/-- a local more that waits -/
theorem OU.wai (h : OU b s k (f :: r)) (h1 : f'.1 = f.1) (h2 : f'.2.1 = f.2.1) (h3 : f'.2.2.1.length ≤ f.2.2.1.length + 1) : OU (b + 1) s k (f' :: r) := by
  obtain ⟨E, N, c, o1, o2, o3, o4, o5, o6, o7, ⟨p1, p2, p3, p4⟩, o9⟩ := h
  have w1 : wX (f :: r) = wX r + f.2.2.1.length := rfl
  have w2 : wX (f' :: r) = wX r + f'.2.2.1.length := rfl
  have e : kL (f' :: r) = kL (f :: r) := by show kL r ++ f'.2.1 = kL r ++ f.2.1; rw [h2]
  refine ⟨E, N, c, o1, o2, by omega, by omega, o5, o6, o7, ⟨by rw [h2]; exact p1, by rw [h1]; exact p2, by rw [h1]; exact p3, p4⟩, ?_⟩
  rw [e]
  exact o9
end OU6
