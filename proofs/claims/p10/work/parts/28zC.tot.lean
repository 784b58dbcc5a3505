/-! WHAT IS KNOWN OF A RUN THAT COMES BACK HOLDS OF EVERY RUN (more frames change nothing) -/
theorem am_do_fr {nb : Nat → List Value} {sc : Nat × (Nat → Int32)} {op a b c d nx : Nat} {x : Int32} {tab : List (Int32 × Nat)} {ls : am_V} {st : List Value} {S : am_S} (h1 : ¬ op = 31) (h2 : ¬ op = 41) (h3 : ¬ op = 42) (h4 : ¬ op = 44) (d' : Nat) : am_do nb sc op a b c x nx tab d' ls st S = am_do nb sc op a b c x nx tab d ls st S := by
  unfold am_do
  split <;> first | rfl | exact absurd rfl h1 | exact absurd rfl h2 | exact absurd rfl h3 | exact absurd rfl h4
theorem am_do_fr2 {nb : Nat → List Value} {sc : Nat × (Nat → Int32)} {op a b c d nx k : Nat} {x : Int32} {tab : List (Int32 × Nat)} {ls : am_V} {st : List Value} {S : am_S} {r : Nat × am_V × List Value × am_S} (h : am_do nb sc op a b c x nx tab d ls st S = some r) : am_do nb sc op a b c x nx tab (d + k) ls st S = some r := by
  by_cases h1 : op = 31
  · subst h1
    simp only [am_do] at h ⊢
    split at h
    · split at h
      · rename_i hc
        rw [if_pos ⟨by omega, hc.2⟩]
        exact h
      · cases h
    · cases h
  by_cases h2 : op = 41
  · subst h2
    simp only [am_do] at h ⊢
    split at h
    · split at h
      · split at h
        · rename_i hc
          rw [if_pos ⟨hc.1, hc.2.1, hc.2.2.1, hc.2.2.2.1, hc.2.2.2.2.1, by omega, hc.2.2.2.2.2.2⟩]
          exact h
        · cases h
      · cases h
    · cases h
  by_cases h3 : op = 42
  · subst h3
    simp only [am_do] at h ⊢
    split at h
    · split at h
      · split at h
        · rename_i hc
          rw [if_pos ⟨hc.1, hc.2.1, hc.2.2.1, hc.2.2.2.1, hc.2.2.2.2.1, by omega, hc.2.2.2.2.2.2⟩]
          exact h
        · cases h
      · cases h
    · cases h
  by_cases h4 : op = 44
  · subst h4
    simp only [am_do] at h ⊢
    split at h
    · split at h
      · split at h
        · rename_i hc
          rw [if_pos ⟨by omega, hc.2⟩]
          exact h
        · cases h
      · cases h
    · cases h
  rw [am_do_fr (d := d) h1 h2 h3 h4]
  exact h
theorem am_run_fr (P : am_P) (k : Nat) : ∀ (n d M pc : Nat) (ls : am_V) (st : List Value) (S : am_S) (r : Option (Option Value) × am_S), am_run P n d M pc ls st S = some r → am_run P n (d + k) M pc ls st S = some r := by
  intro n
  induction n with
  | zero => intro d M pc ls st S r h; simp [am_run] at h
  | succ n ih =>
    intro d M pc ls st S r h
    rw [am_run] at h ⊢
    cases hi : P.1 M pc with
    | none => rw [hi] at h; cases h
    | some i =>
      obtain ⟨op, a, b, c, x, nx, tab⟩ := i
      rw [hi] at h
      dsimp only at h ⊢
      by_cases h32 : op = 32
      · rw [if_pos h32] at h ⊢
        by_cases hb : b ≤ st.length ∧ st.length ≤ b + 8 ∧ b ≤ P.2.2.1 a ∧ am_recv c (st.take b).reverse S = true
        · rw [if_pos hb] at h ⊢
          cases d with
          | zero => cases h
          | succ d' =>
            rw [show d' + 1 + k = d' + k + 1 by omega]
            dsimp only at h ⊢
            cases hc : am_run P n d' a 0 (am_in (st.take b).reverse (P.2.2.1 a)) [] S with
            | none => rw [hc] at h; cases h
            | some q =>
              rw [hc] at h
              rw [ih _ _ _ _ _ _ _ hc]
              obtain ⟨o, S'⟩ := q
              have e : d' + 1 + k = d' + k + 1 := by omega
              cases o with
              | some v =>
                have h' := ih _ _ _ _ _ _ _ h
                rw [e] at h'
                exact h'
              | none =>
                dsimp only at h ⊢
                cases hh : P.2.2.2.1 M pc with
                | none => rw [hh] at h; exact h
                | some q =>
                  rw [hh] at h
                  have h' := ih _ _ _ _ _ _ _ h
                  rw [e] at h'
                  exact h'
        · rw [if_neg hb] at h; cases h
      · rw [if_neg h32] at h ⊢
        by_cases h37 : op = 37
        · rw [if_pos h37] at h ⊢
          split at h
          · rename_i hc
            rw [if_pos ⟨by omega, hc.2⟩]
            exact h
          · cases h
        · rw [if_neg h37] at h ⊢
          by_cases h33 : 33 ≤ op ∧ op ≤ 36
          · rw [if_pos h33] at h ⊢; exact h
          · rw [if_neg h33] at h ⊢
            cases hd : am_do P.2.1 P.2.2.2.2 op a b c x nx tab d ls st S with
            | none => rw [hd] at h; cases h
            | some q =>
              rw [hd] at h
              rw [am_do_fr2 hd]
              exact ih _ _ _ _ _ _ _ h
/-- what is shown of one run with frames enough is so of every run -/
theorem tot_l {P : am_P} {N d K M pc : Nat} {ls : am_V} {st : List Value} {S : am_S} {Q : Option (Option Value) → am_S → Prop} (h : am_E P (d + K) M pc ls st S Q) : am_L P N d M pc ls st S Q := by
  intro n hn o S' hr
  obtain ⟨o1, S1, ⟨m, hm⟩, hq⟩ := h
  have h2 := am_run_fr P K _ _ _ _ _ _ _ _ hr
  have e1 := am_le (Nat.le_max_left n m) h2
  have e2 := am_le (Nat.le_max_right n m) hm
  rw [e1] at e2
  cases e2
  exact hq
/-- a run that is there, and what every run tells -/
theorem l_tot {P : am_P} {d M pc : Nat} {ls : am_V} {st : List Value} {S : am_S} {Q Q' : Option (Option Value) → am_S → Prop} (h : am_E P d M pc ls st S Q) (h' : ∀ N, am_L P N d M pc ls st S Q') : am_E P d M pc ls st S (fun o S' => Q o S' ∧ Q' o S') := by
  obtain ⟨o, S', ⟨n, hn⟩, hq⟩ := h
  exact ⟨o, S', ⟨n, hn⟩, hq, h' n n (Nat.le_refl _) o S' hn⟩
