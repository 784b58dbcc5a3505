/-! THE SORT: where the rows of each function lie -/
def sx (ow : Nat → Int32) (n : Nat) : Nat → Nat
  | 0 => 0
  | x + 1 => sx ow n x + (gx ow x n).length
section SXS
variable {ow : Nat → Int32} {n N x y t : Nat}
/-- all rows of the first functions are not more than all rows -/
theorem sx_le : ∀ {n : Nat} (N : Nat), N ≤ 1000000 → sx ow n N ≤ n ∧ ((∃ x, N ≤ x ∧ x ≤ 1000000 ∧ ∃ g, g < n ∧ ow g = xn x) → sx ow n N < n) := by
  intro n
  induction n with
  | zero =>
    intro N hN
    have z : sx ow 0 N = 0 := by
      clear hN
      induction N with
      | zero => rfl
      | succ N ih =>
        show sx ow 0 N + 0 = 0
        rw [ih]
    rw [z]
    exact ⟨Nat.le_refl _, fun ⟨x, _, _, g, hg, _⟩ => absurd hg (Nat.not_lt_zero _)⟩
  | succ n ih =>
    have key : ∀ N, N ≤ 1000000 → sx ow (n + 1) N = sx ow n N + (if ∃ x, x < N ∧ ow n = xn x then 1 else 0) := by
      intro N
      induction N with
      | zero =>
        intro _
        rw [if_neg (fun ⟨x, hx, _⟩ => absurd hx (Nat.not_lt_zero _))]
        rfl
      | succ N ihN =>
        intro hN
        show sx ow (n + 1) N + (gx ow N n ++ (if ow n = xn N then [n] else [])).length = (sx ow n N + (gx ow N n).length) + _
        rw [ihN (by omega), List.length_append]
        by_cases c1 : ow n = xn N
        · rw [if_pos c1, if_neg (fun ⟨x, hx, hy⟩ => by
            have := congrArg Int32.toInt (hy.symm.trans c1)
            rw [xn_i (by omega), xn_i (by omega)] at this
            omega), if_pos ⟨N, Nat.lt_succ_self _, c1⟩]
          show sx ow n N + 0 + ((gx ow N n).length + 1) = _
          omega
        · rw [if_neg c1]
          by_cases c2 : ∃ x, x < N ∧ ow n = xn x
          · obtain ⟨x, hx, hy⟩ := c2
            rw [if_pos ⟨x, hx, hy⟩, if_pos ⟨x, by omega, hy⟩]
            show sx ow n N + 1 + ((gx ow N n).length + 0) = _
            omega
          · rw [if_neg c2, if_neg (fun ⟨x, hx, hy⟩ => by
              rcases Nat.lt_succ_iff_lt_or_eq.mp hx with h | h
              · exact c2 ⟨x, h, hy⟩
              · exact c1 (by rw [← h]; exact hy))]
            show sx ow n N + 0 + ((gx ow N n).length + 0) = _
            omega
    intro N hN
    rw [key N hN]
    obtain ⟨i1, i2⟩ := ih N hN
    constructor
    · split <;> omega
    · rintro ⟨x, hx, hx6, g, hg, ho⟩
      by_cases c : g = n
      · subst c
        rw [if_neg (fun ⟨y, hy, h⟩ => by
          have := congrArg Int32.toInt (h.symm.trans ho)
          rw [xn_i (by omega), xn_i (by omega)] at this
          omega)]
        omega
      · have := i2 ⟨x, hx, hx6, g, by omega, ho⟩
        split <;> omega
theorem sx_mono : ∀ {y : Nat}, x < y → sx ow n x + (gx ow x n).length ≤ sx ow n y := by
  intro y
  induction y with
  | zero => intro h; omega
  | succ y ih =>
    intro h
    show _ ≤ sx ow n y + (gx ow y n).length
    by_cases c : x = y
    · subst c
      exact Nat.le_refl _
    · have := ih (by omega)
      omega
theorem gx_pre : ∀ {n : Nat}, t ≤ n → ∃ l, gx ow x n = gx ow x t ++ l := by
  intro n
  induction n with
  | zero =>
    intro h
    obtain rfl : t = 0 := by omega
    exact ⟨[], rfl⟩
  | succ n ih =>
    intro h
    by_cases c : t = n + 1
    · subst c
      exact ⟨[], (List.append_nil _).symm⟩
    · obtain ⟨l, hl⟩ := ih (by omega)
      exact ⟨l ++ (if ow n = xn x then [n] else []), by show gx ow x n ++ _ = _; rw [hl, List.append_assoc]⟩
/-- a row that is still to come has a place -/
theorem gx_room (ht : t < n) (ho : ow t = xn x) : (gx ow x t).length < (gx ow x n).length := (List.getElem?_eq_some_iff.mp (gx_at ht ho)).1
end SXS
