/-! DEPTH: both loops alike -/
theorem dep_go {k : kS} {s : cS} {n B : Nat} {U : List xR} {x1 : Int32} (hU : TR s (.i (n + 1)) U) (hl : U.length ≤ 100000) (hB : B ≤ 100000) (e60 : kr k 60 x1 = xn U.length) (e61 : kr k 61 x1 = xn B) (hr : ∀ (i : Nat) (u : xR), U[i]? = some u → ∃ g : Nat, g ≤ 100000 ∧ k.2 74 (B + i) = xn g ∧ kR k g = u) (hw : ∀ u ∈ U, wfr u) : ∀ (d i : Nat) (a b : Int32), i + d = U.length → ∃ m R, kwh (c164b7 s (n + 1)) m (a, b, xn i) = (1, R) ∧ kwh (k273b17 k x1) m (a, b, xn i) = (1, R) := by
  have er : s.r (.i (n + 1)) = xn U.length := xn_eq hU.1 (by omega)
  intro d
  induction d with
  | zero =>
    intro i a b hi
    obtain rfl : i = U.length := by omega
    have e1 : c164b7 s (n + 1) (a, b, xn U.length) = (1, (a, b, xn U.length)) := by
      unfold c164b7
      rw [if_pos (by show s.r (.i (n + 1)) ≤ xn U.length; rw [er]; exact Int32.le_refl _)]
    have e2 : k273b17 k x1 (a, b, xn U.length) = (1, (a, b, xn U.length)) := by
      unfold k273b17
      rw [if_pos (by show kr k 60 x1 ≤ xn U.length; rw [e60]; exact Int32.le_refl _)]
    exact ⟨1, (a, b, xn U.length), by rw [kwh_out (by rw [e1]; exact Nat.succ_ne_zero _), e1], by rw [kwh_out (by rw [e2]; exact Nat.succ_ne_zero _), e2]⟩
  | succ d ih =>
    intro i a b hi
    obtain ⟨u, hu⟩ : ∃ u, U[i]? = some u := ⟨_, List.getElem?_eq_getElem (by omega)⟩
    obtain ⟨g, v1, v2, v3⟩ := hr i u hu
    obtain ⟨w1, w2, w3, w4⟩ := hU.2 i u hu
    have hwf := hw u (List.mem_of_getElem? hu)
    have ii : (xn i).toInt = i := xn_i (by omega)
    have z0 : (0 : Int32).toInt = 0 := rfl
    have et : ∀ (c : Int32), ¬ c < 0 → c < 4 → tg s (.i (n + 1)) (xn i) c = s.c (.i (n + 1)) (4 * i + c.toInt.toNat) := fun c h1 h2 => by
      unfold tg ci
      rw [if_neg (by rw [i_lt]; omega), er, if_neg (by rw [i_le, xn_i (by omega), xn_i (by omega)]; omega), if_neg h1, if_pos h2, ii]
      rfl
    have t0 : tg s (.i (n + 1)) (xn i) 0 = u.1 := (et 0 (by decide) (by decide)).trans w1
    have t1 : tg s (.i (n + 1)) (xn i) 1 = u.2.1 := (et 1 (by decide) (by decide)).trans w2
    have t2 : tg s (.i (n + 1)) (xn i) 2 = u.2.2.1 := (et 2 (by decide) (by decide)).trans w3
    obtain ⟨e, he⟩ : ∃ e, e = k274 k u.1 u.2.1 u.2.2.1 := ⟨_, rfl⟩
    have c165e : c165 s (n + 1) (xn i) = e := by
      unfold c165
      rw [t0, t1, t2, he]
      exact eff_eq hwf.1 hwf.2
    have e74 : kr k 74 (xn B + xn i) = xn g := by
      show k.2 74 (xn B + xn i).toNatClampNeg = _
      rw [xn_add (by omega), xn_nat (by omega), v2]
    have eg : ∀ j, kr k j (xn g) = k.2 j g := fun j => by
      show k.2 j (xn g).toNatClampNeg = _
      rw [xn_nat (by omega)]
    have q1 : k.2 70 g = u.1 := congrArg (fun q => q.1) v3
    have q2 : k.2 71 g = u.2.1 := congrArg (fun q => q.2.1) v3
    have q3 : k.2 72 g = u.2.2.1 := congrArg (fun q => q.2.2.1) v3
    have s1 : c164b7 s (n + 1) (a, b, xn i) = (0, (a + e, if a + e ≤ b then b else a + e, xn (i + 1))) := by
      unfold c164b7
      rw [if_neg (by show ¬ s.r (.i (n + 1)) ≤ xn i; rw [er, i_le, xn_i (by omega), xn_i (by omega)]; omega)]
      show (0, (a + c165 s (n + 1) (xn i), if b < a + c165 s (n + 1) (xn i) then a + c165 s (n + 1) (xn i) else b, xn i + 1)) = _
      rw [c165e, xn_succ (by omega)]
      by_cases c : a + e ≤ b
      · rw [if_pos c, if_neg (by rw [i_le] at c; rw [i_lt]; omega)]
      · rw [if_neg c, if_pos (by rw [i_le] at c; rw [i_lt]; omega)]
    have s2 : k273b17 k x1 (a, b, xn i) = (0, (a + e, if a + e ≤ b then b else a + e, xn (i + 1))) := by
      unfold k273b17
      rw [if_neg (by show ¬ kr k 60 x1 ≤ xn i; rw [e60, i_le, xn_i (by omega), xn_i (by omega)]; omega)]
      show (if a + k274 k (kr k 70 (kr k 74 (kr k 61 x1 + xn i))) (kr k 71 (kr k 74 (kr k 61 x1 + xn i))) (kr k 72 (kr k 74 (kr k 61 x1 + xn i))) ≤ b then _ else _) = _
      rw [e61, e74, eg, eg, eg, q1, q2, q3, ← he, xn_succ (by omega)]
      by_cases c : a + e ≤ b
      · rw [if_pos c, if_pos c]
      · rw [if_neg c, if_neg c]
    obtain ⟨m, R, r1, r2⟩ := ih (i + 1) (a + e) (if a + e ≤ b then b else a + e) (by omega)
    exact ⟨m + 1, R, by rw [kwh_go (by rw [s1]), s1]; exact r1, by rw [kwh_go (by rw [s2]), s2]; exact r2⟩
