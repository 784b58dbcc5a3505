/-! NO TABLE IS FULL: an array was paid for -/
def AL (S : am_S) : Prop := ∀ (k : Nat) (t : Bool) (n : Nat) (f : Nat → Int32), S.1[k]? = some (.inl (t, n, f)) → n ≤ S.2.2
section ALQ
variable {S S' : am_S}
/-- a cell changes, no array's length -/
theorem AL.set {i : Nat} {c : am_C} (h : AL S) (hc : ∀ t n f, c = .inl (t, n, f) → ∃ t' f', S.1[i]? = some (.inl (t', n, f'))) : AL (S.1.set i c, S.2.1, S.2.2) := by
  intro k t n f hk
  have hk' : (S.1.set i c)[k]? = some (.inl (t, n, f)) := hk
  by_cases e : i = k
  · subst e
    rw [List.getElem?_set_self'] at hk'
    cases hq : S.1[i]? with
    | none => rw [hq] at hk'; cases hk'
    | some q =>
      rw [hq] at hk'
      have ec : c = .inl (t, n, f) := Option.some.inj hk'
      obtain ⟨t', f', z⟩ := hc t n f ec
      exact h i t' n f' z
  · rw [List.getElem?_set_ne e] at hk'
    exact h k t n f hk'
/-- a cell more -/
theorem AL.snoc {c : am_C} {m m' : Nat} (h : AL S) (hc : ∀ t n f, c = .inl (t, n, f) → n ≤ m') : AL (S.1 ++ [c], m, S.2.2 + m') := by
  intro k t n f hk
  have hk' : (S.1 ++ [c])[k]? = some (.inl (t, n, f)) := hk
  show n ≤ S.2.2 + m'
  by_cases e : k < S.1.length
  · rw [List.getElem?_append_left e] at hk'
    have := h k t n f hk'
    omega
  · rw [List.getElem?_append_right (by omega)] at hk'
    have ec : c = .inl (t, n, f) := by
      cases hj : k - S.1.length with
      | zero => rw [hj] at hk'; exact Option.some.inj hk'
      | succ j => rw [hj] at hk'; exact nomatch hk'
    have := hc t n f ec
    omega
theorem al_do {nb : Nat → List Value} {sc : Nat × (Nat → Int32)} {op a b c nx d pc' : Nat} {x : Int32} {tab : List (Int32 × Nat)} {ls ls' : am_V} {st st' : List Value} (h : am_do nb sc op a b c x nx tab d ls st S = some (pc', ls', st', S')) (hA : AL S) : AL S' := by
  unfold am_do at h
  split at h
  all_goals (repeat' split at h)
  all_goals first
    | (cases h; done)
    | (cases h; exact hA)
    | (cases h; exact hA.set (fun t n f e => by cases e <;> exact ⟨_, _, by assumption⟩))
    | (cases h; exact hA.snoc (fun t n f e => by cases e <;> exact Nat.le_refl _))
theorem al_run (P : am_P) : ∀ (n : Nat) (d M pc : Nat) (ls : am_V) (st : List Value) (S : am_S) (r : Option (Option Value) × am_S), am_run P n d M pc ls st S = some r → AL S → AL r.2 := by
  intro n
  induction n with
  | zero => intro d M pc ls st S r h; simp [am_run] at h
  | succ n ih =>
    intro d M pc ls st S r h hA
    rw [am_run] at h
    cases hi : P.1 M pc with
    | none => rw [hi] at h; cases h
    | some i =>
      obtain ⟨op, a, b, c, x, nx, tab⟩ := i
      rw [hi] at h
      dsimp only at h
      by_cases h32 : op = 32
      · rw [if_pos h32] at h
        by_cases hb : b ≤ st.length ∧ st.length ≤ b + 8 ∧ b ≤ P.2.2.1 a ∧ am_recv c (st.take b).reverse S = true
        · rw [if_pos hb] at h
          cases d with
          | zero => cases h
          | succ d' =>
            dsimp only at h
            cases hc : am_run P n d' a 0 (am_in (st.take b).reverse (P.2.2.1 a)) [] S with
            | none => rw [hc] at h; cases h
            | some q =>
              rw [hc] at h
              have h1 := ih _ _ _ _ _ _ _ hc hA
              obtain ⟨o, S1⟩ := q
              cases o with
              | some v => exact ih _ _ _ _ _ _ _ h h1
              | none =>
                dsimp only at h
                cases hh : P.2.2.2.1 M pc with
                | none => rw [hh] at h; cases h; exact h1
                | some p =>
                  rw [hh] at h
                  exact ih _ _ _ _ _ _ _ h h1
        · rw [if_neg hb] at h
          cases h
      · rw [if_neg h32] at h
        by_cases h37 : op = 37
        · rw [if_pos h37] at h
          split at h
          · cases h
            intro k t m f hk
            have := hA k t m f hk
            show m ≤ S.2.2 + 6
            omega
          · cases h
        · rw [if_neg h37] at h
          by_cases h33 : 33 ≤ op ∧ op ≤ 36
          · rw [if_pos h33] at h
            cases hr : am_ret op st with
            | none => rw [hr] at h; cases h
            | some v => rw [hr] at h; cases h; exact hA
          · rw [if_neg h33] at h
            cases hd : am_do P.2.1 P.2.2.2.2 op a b c x nx tab d ls st S with
            | none => rw [hd] at h; cases h
            | some q =>
              rw [hd] at h
              obtain ⟨pc', ls', st', S'⟩ := q
              exact ih _ _ _ _ _ _ _ h (al_do hd hA)
theorem al_l {P : am_P} {N d M pc : Nat} {ls : am_V} {st : List Value} (hA : AL S) : am_L P N d M pc ls st S (fun _ S' => AL S') := fun n _ o S' q => al_run P n d M pc ls st S (o, S') q hA
/-- how many rows there can be -/
theorem al_rows {k a n : Nat} {t : Bool} {r : Int32} {B : Int} (_ : AL S) (hk : am_fs S k = some (3, [.ref a, .int r])) (ha : am_arq S a = some (t, n)) (hn : n ≤ S.2.2) (h8 : 0 ≤ iv S 8 1) (h10 : 0 ≤ iv S 10 1) (hl : k < S.1.length) (hE : EN S ≤ B) : 32 * r.toInt ≤ 4 * B := by
  have p1 : 32 * r.toInt - 4 * (n : Int) ≤ c_phi (am_fs S) (am_arq S) k := by
    unfold c_phi
    simp only [hk, ha]
    split <;> omega
  have p0 := c_phi_nn (am_fs S) (am_arq S) k
  have p2 : c_phi (am_fs S) (am_arq S) k ≤ c_sum (c_phi (am_fs S) (am_arq S)) S.1.length := by
    have key : ∀ m, k < m → c_phi (am_fs S) (am_arq S) k ≤ c_sum (c_phi (am_fs S) (am_arq S)) m := by
      intro m
      induction m with
      | zero => intro q; omega
      | succ m ih =>
        intro q
        show _ ≤ c_sum (c_phi (am_fs S) (am_arq S)) m + c_phi (am_fs S) (am_arq S) m
        have n1 := c_phi_nn (am_fs S) (am_arq S) m
        by_cases e : k = m
        · subst e
          have := c_sum_nn (c_phi_nn (am_fs S) (am_arq S)) k
          omega
        · have := ih (by omega)
          omega
    exact key _ hl
  unfold EN at hE
  omega
theorem rows_lt {A : Nat → Nat} {K x : Nat} {s : cS} (h : CM A K S s) (hA : AL S) (hE : EN S ≤ 8000000) (hx : x ≤ K) : (s.r (.i x)).toInt < 1048576 := by
  obtain ⟨B, h⟩ := h
  have ht : cTl K (.i x) := hx
  obtain ⟨k, g, g1, -, -, -, -⟩ := h.ar (.i x) ht
  have q1 := h.ta (.i x) ht
  have q2 : am_arq S (B (.i x)) = some (false, 32 * 2 ^ k) := by
    unfold am_arq
    rw [g1]
  have ivt : ∀ t, t ∈ c_st → 0 ≤ iv S t 1 := fun t h1 => by
    have z : am_fs S t = some (3, [.ref (B (.s t)), .int (s.r (.s t))]) := h.ta (.s t) h1
    unfold iv
    rw [z]
    obtain ⟨k', g', -, -, h0, -⟩ := h.ar (.s t) h1
    exact h0
  have hl : cTa A (.i x) < S.1.length := by
    apply Nat.lt_of_not_le
    intro z
    have e : S.1[cTa A (.i x)]? = none := List.getElem?_eq_none z
    unfold am_fs at q1
    rw [e] at q1
    cases q1
  have := al_rows hA q1 q2 (hA _ _ _ _ g1) (ivt 8 (by decide)) (ivt 10 (by decide)) hl hE
  omega
end ALQ
