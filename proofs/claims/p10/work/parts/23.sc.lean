/-! WHAT DOES NOT READ THE SCRIPT RUNS ALIKE WITH EVERY SCRIPT -/
/-- a script that nobody may read -/
def am_n0 : Nat × (Nat → Int32) := (2049, fun _ => 0)
theorem am_do_sc {nb : Nat → List Value} {sc : Nat × (Nat → Int32)} {op a b c d nx : Nat} {x : Int32} {tab : List (Int32 × Nat)} {ls : am_V} {st : List Value} {S : am_S} {r : Nat × am_V × List Value × am_S} (h : am_do nb am_n0 op a b c x nx tab d ls st S = some r) : am_do nb sc op a b c x nx tab d ls st S = some r := by
  by_cases h24 : op = 24
  · subst h24
    simp only [am_do] at h ⊢
    split at h
    · exact h
    · split at h
      · rename_i hz
        rw [if_pos hz]
        exact h
      · split at h
        · rename_i hz
          exact absurd hz.2 (by decide)
        · cases h
    · cases h
  · by_cases h25 : op = 25
    · subst h25
      simp only [am_do] at h ⊢
      split at h
      · exact h
      · split at h
        · rename_i hz
          exact absurd hz.2.2.2.2 (by decide)
        · cases h
      · cases h
    · have e : am_do nb sc op a b c x nx tab d ls st S = am_do nb am_n0 op a b c x nx tab d ls st S := by
        unfold am_do
        split <;> first | rfl | exact absurd rfl h24 | exact absurd rfl h25
      rw [e]
      exact h
theorem am_run_sc {P P' : am_P} (e1 : P'.1 = P.1) (e2 : P'.2.1 = P.2.1) (e3 : P'.2.2.1 = P.2.2.1) (e4 : P'.2.2.2.1 = P.2.2.2.1) (e5 : P.2.2.2.2 = am_n0) : ∀ (n : Nat) (d M pc : Nat) (ls : am_V) (st : List Value) (S : am_S) (r : Option (Option Value) × am_S), am_run P n d M pc ls st S = some r → am_run P' n d M pc ls st S = some r := by
  intro n
  induction n with
  | zero => intro d M pc ls st S r h; simp [am_run] at h
  | succ n ih =>
    intro d M pc ls st S r h
    rw [am_run] at h
    rw [am_run, e1]
    cases hi : P.1 M pc with
    | none => rw [hi] at h; cases h
    | some i =>
      obtain ⟨op, a, b, c, x, nx, tab⟩ := i
      rw [hi] at h
      dsimp only at h ⊢
      rw [e5] at h
      by_cases h32 : op = 32
      · rw [if_pos h32] at h ⊢
        rw [e3]
        by_cases hb : b ≤ st.length ∧ st.length ≤ b + 8 ∧ b ≤ P.2.2.1 a ∧ am_recv c (st.take b).reverse S = true
        · rw [if_pos hb] at h ⊢
          cases d with
          | zero => cases h
          | succ d' =>
            dsimp only at h ⊢
            cases hc : am_run P n d' a 0 (am_in (st.take b).reverse (P.2.2.1 a)) [] S with
            | none => rw [hc] at h; cases h
            | some q =>
              rw [hc] at h
              rw [ih _ _ _ _ _ _ _ hc]
              obtain ⟨o, S'⟩ := q
              cases o with
              | some v => exact ih _ _ _ _ _ _ _ h
              | none =>
                dsimp only at h ⊢
                rw [e4]
                cases hh : P.2.2.2.1 M pc with
                | none => rw [hh] at h; exact h
                | some q => rw [hh] at h; exact ih _ _ _ _ _ _ _ h
        · rw [if_neg hb] at h; cases h
      · rw [if_neg h32] at h ⊢
        by_cases h37 : op = 37
        · rw [if_pos h37] at h ⊢; exact h
        · rw [if_neg h37] at h ⊢
          by_cases h33 : 33 ≤ op ∧ op ≤ 36
          · rw [if_pos h33] at h ⊢; exact h
          · rw [if_neg h33] at h ⊢
            cases hd : am_do P.2.1 am_n0 op a b c x nx tab d ls st S with
            | none => rw [hd] at h; cases h
            | some q =>
              rw [hd] at h
              rw [e2, am_do_sc hd]
              exact ih _ _ _ _ _ _ _ h
/-- the program with the script that nobody may read -/
def am_X0 : am_P := am_PP am_n0
theorem am_R_sc {sc : Nat × (Nat → Int32)} {d M pc : Nat} {ls : am_V} {st : List Value} {S S' : am_S} {o : Option (Option Value)} (h : am_R am_X0 d M pc ls st S o S') : am_R (am_PP sc) d M pc ls st S o S' := by
  obtain ⟨n, h⟩ := h
  exact ⟨n, am_run_sc (P := am_X0) (P' := am_PP sc) rfl rfl rfl rfl rfl _ _ _ _ _ _ _ _ h⟩
