/-! OUTERS: the functions between have the local too, on both sides -/
section OU4
variable {s s' : cS} {k k' : kS} {E : List (Nat × oR)} {X Y : List xF}
/-- what both read of the functions that are begun -/
def BG (s : cS) (k : kS) (X : List xF) : Prop := (s.f 13 1 = xn X.length ∧ ∀ P f r, X = P ++ f :: r → s.op r.length = f.1 ∧ s.b f.1 9 = xn (fL r).length) ∧ ((k.1 32).toInt + 1 = X.length ∧ ∀ P f r, X = P ++ f :: r → k.2 33 r.length = xn (f.1 - 1))
theorem XF.at : ∀ {X : List xF}, XF s X → ∀ P f r, X = P ++ f :: r → s.op r.length = f.1 ∧ s.b f.1 9 = xn (fL r).length := by
  intro X
  induction X with
  | nil => intro _ P f r e; cases P <;> cases e
  | cons g Y ih =>
    intro h P f r e
    obtain ⟨h1, h2, _, _, _, _, _, h3⟩ := h
    cases P with
    | nil => cases e; exact ⟨h1, h2⟩
    | cons p P => cases e; exact ih h3 P f r rfl
theorem XKF.at : ∀ {X : List xF}, XKF k X → (∀ f ∈ X, 1 ≤ f.1 ∧ f.1 ≤ 1000000) → ∀ P f r, X = P ++ f :: r → k.2 33 r.length = xn (f.1 - 1) := by
  intro X
  induction X with
  | nil => intro _ _ P f r e; cases P <;> cases e
  | cons g Y ih =>
    intro h hm P f r e
    obtain ⟨h1, _, _, _, _, h3⟩ := h
    cases P with
    | nil =>
      cases e
      have := hm g List.mem_cons_self
      have h1' : (k.2 33 Y.length).toInt + 1 = (g.1 : Int) := h1
      exact xn_eq (x := k.2 33 Y.length) (n := g.1 - 1) (by omega) (by omega)
    | cons p P => cases e; exact ih h3 (fun f hf => hm f (List.mem_cons_of_mem _ hf)) P f r rfl
theorem BG.stp {g : Nat} {a b c d x v : Int32} (h : BG s k X) : BG (c69 s g a b).1 (kf (k207 k c d a x).1 75 v) X := by
  have hc := fr_c69 s g a b
  have hk := fr_k207 k c d a x
  obtain ⟨⟨h1, h2⟩, h3, h4⟩ := h
  refine ⟨⟨?_, fun P f r e => ?_⟩, ?_, fun P f r e => ?_⟩
  · rw [hc.1 13 1 (by decide) (Nat.zero_testBit _)]; exact h1
  · rw [hc.2.2.2.2.1 rfl, hc.2.2.1 f.1 9 (Nat.zero_testBit _)]; exact h2 P f r e
  · show ((k207 k c d a x).1.1 32).toInt + 1 = _
    rw [hk.1 32 rfl]; exact h3
  · show (k207 k c d a x).1.2 33 _ = _
    rw [hk.2 33 rfl]; exact h4 P f r e
theorem cut_at : ∀ {X : List xF} (i : Nat), i < X.length → ∃ P f r, X = P ++ f :: r ∧ r.length = i := by
  intro X
  induction X with
  | nil => intro i hi; cases hi
  | cons g Y ih =>
    intro i hi
    rcases Nat.lt_or_ge i Y.length with z | z
    · obtain ⟨P, f, r, e1, e2⟩ := ih i z
      exact ⟨g :: P, f, r, by rw [e1]; rfl, e2⟩
    · have : (g :: Y).length = Y.length + 1 := rfl
      exact ⟨[], g, Y, rfl, by omega⟩
theorem fL_app : ∀ {P : List xF}, (fL X).length ≤ (fL (P ++ X)).length := by
  intro P
  induction P with
  | nil => exact Nat.le_refl _
  | cons p P ih =>
    show _ ≤ (fL (P ++ X) ++ (p.2.1 ++ p.2.2.1)).length
    rw [List.length_append]
    omega
/-- the class passes the functions around the local's own -/
theorem c68_a {P : List xF} {f : xF} {r : List xF} {n : Nat} (hB : BG s k X) (hX : X = P ++ f :: r) (hn : (fL r).length + n ≤ 1000000) (hx : X.length ≤ 1000000) : ∀ (d i : Nat) (v : Int32), i + d = r.length → ∃ m, ∀ m', kwh (c68b7 (xn ((fL r).length + n))) (m + m') (s, 1, v, xn i) = kwh (c68b7 (xn ((fL r).length + n))) m' (s, 1, xn n, xn (r.length + 1)) := by
  have hlen : X.length = P.length + (r.length + 1) := by rw [hX, List.length_append]; rfl
  intro d
  induction d with
  | zero =>
    intro i v hi
    have ei : i = r.length := by omega
    subst ei
    obtain ⟨b1, b2⟩ := hB.1.2 P f r hX
    refine ⟨1, fun m' => ?_⟩
    have ti : (xn r.length).toInt.toNat = r.length := by rw [xn_i (by omega)]; omega
    have e : c68b7 (xn ((fL r).length + n)) (s, 1, v, xn r.length) = (0, (s, 1, xn n, xn (r.length + 1))) := by
      unfold c68b7
      show (if s.f 13 1 ≤ xn r.length then _ else if _ < s.b (s.op (xn r.length).toInt.toNat) 9 then _ else (0, (s, 1, _ - s.b (s.op (xn r.length).toInt.toNat) 9, xn r.length + 1))) = _
      rw [if_neg (by rw [i_le, hB.1.1, xn_i (by omega), xn_i (by omega)]; omega), ti, b1, b2, if_neg (by rw [i_lt, xn_i (by omega), xn_i (by omega)]; omega), xn_sub (by omega), xn_succ (by omega)]
    rw [Nat.add_comm 1 m', kwh_go (by rw [e]), e]
  | succ d ih =>
    intro i v hi
    obtain ⟨P', f', r', e1, e2⟩ := cut_at (X := r) i (by omega)
    have hX' : X = (P ++ f :: P') ++ f' :: r' := by rw [hX, e1, List.append_assoc]; rfl
    obtain ⟨b1, b2⟩ := hB.1.2 _ f' r' hX'
    have l1 : (fL r').length ≤ (fL r).length := by rw [e1]; exact Nat.le_trans (fL_app (P := [f'])) fL_app
    subst e2
    have ti : (xn r'.length).toInt.toNat = r'.length := by rw [xn_i (by omega)]; omega
    obtain ⟨m, hm⟩ := ih (r'.length + 1) (xn ((fL r).length + n) - xn (fL r').length) (by omega)
    refine ⟨m + 1, fun m' => ?_⟩
    have e : c68b7 (xn ((fL r).length + n)) (s, 1, v, xn r'.length) = (0, (s, 1, xn ((fL r).length + n) - xn (fL r').length, xn (r'.length + 1))) := by
      unfold c68b7
      show (if s.f 13 1 ≤ xn r'.length then _ else if _ < s.b (s.op (xn r'.length).toInt.toNat) 9 then _ else (0, (s, 1, _ - s.b (s.op (xn r'.length).toInt.toNat) 9, xn r'.length + 1))) = _
      rw [if_neg (by rw [i_le, hB.1.1, xn_i (by omega), xn_i (by omega)]; omega), ti, b1, b2, if_neg (by rw [i_lt, xn_i (by omega), xn_i (by omega)]; omega), xn_succ (by omega)]
    rw [Nat.add_right_comm, kwh_go (by rw [e]), e]
    exact hm m'
theorem OUE.k75 {b : Nat} {v : Int32} (h : OUE E b s k X) : OUE E b s (kf k 75 v) X := by
  obtain ⟨N, c, o1, o2, o3, o4, o5, o6, o7, o8, o9⟩ := h
  exact ⟨N, c, o1, o2, o3, o4, o5, o6, o7, OI.fr o8 rfl rfl, o9⟩
/-- both go over the functions inside it -/
theorem br_go {y1 y2 y3 id : Int32} (hx : X.length ≤ 1000000) (hd : DF X) (hk : (kL X).length ≤ 1000000) : ∀ (c : Nat) (P : List xF) (h : xF) (Y : List xF) (E : List (Nat × oR)) (b : Nat) (s : cS) (k : kS) (kd x : Int32), P.length = c → X = P ++ h :: Y → b + c ≤ 1000000 → OUE E b s k X → BG s k X → (∀ Q f r, X = Q ++ f :: r → Y.length < r.length → y1 < s.b f.1 9) → (∃ n, k.1 53 = xn n ∧ n ≤ 1000000 ∧ ∀ f ∈ X, f.1 ≤ n) → AT k E h Y kd x id → kr k 27 y2 = id → k.1 75 = x → (∃ d, y3 = xn d ∧ d ≤ Y.length ∧ (kd = 1 ↔ d = Y.length)) → ∃ (E' : List (Nat × oR)) (s2 : cS) (k2 : kS), OUE E' (b + c) s2 k2 X ∧ (∃ m w, kwh (c68b7 y1) m (s, kd, x, xn (Y.length + 1)) = (1, (s2, w, k2.1 75, xn X.length))) ∧ (∃ m v, kwh (k205b61 y2 y3) m (k, xn (Y.length + 1)) = (1, (k2, v))) := by
  intro c
  induction c with
  | zero =>
    intro P h Y E b s k kd x hP hX hb hO hB hy hN ha h27 h75 hkd
    have eP : P = [] := List.eq_nil_of_length_eq_zero hP
    subst eP
    have hl : X.length = Y.length + 1 := by rw [hX]; rfl
    refine ⟨E, s, k, hO, ⟨1, kd, ?_⟩, 1, xn (Y.length + 1), ?_⟩
    · have e : c68b7 y1 (s, kd, x, xn (Y.length + 1)) = (1, (s, kd, x, xn (Y.length + 1))) := by
        unfold c68b7
        show (if s.f 13 1 ≤ xn (Y.length + 1) then _ else _) = _
        rw [if_pos (by rw [i_le, hB.1.1, hl]; exact Int.le_refl _)]
      rw [kwh_out (by rw [e]; exact Nat.succ_ne_zero _), e, hl, h75]
    · have e : k205b61 y2 y3 (k, xn (Y.length + 1)) = (1, (k, xn (Y.length + 1))) := by
        unfold k205b61
        show (if k.1 32 < xn (Y.length + 1) then _ else _) = _
        have := hB.2.1
        rw [if_pos (by rw [i_lt, xn_i (by omega)]; omega)]
      rw [kwh_out (by rw [e]; exact Nat.succ_ne_zero _), e]
  | succ c ih =>
    intro P h Y E b s k kd x hP hX hb hO hB hy hN ha h27 h75 hkd
    obtain ⟨P', g, eP, hP'⟩ := snoc_of hP
    have hX' : X = P' ++ g :: h :: Y := by rw [hX, eP, List.append_assoc]; rfl
    have hl : X.length = P'.length + (Y.length + 2) := by rw [hX', List.length_append]; rfl
    obtain ⟨b1, b2⟩ := hB.1.2 P' g (h :: Y) hX'
    have b3 := hB.2.2 P' g (h :: Y) hX'
    have b1' : s.op (Y.length + 1) = g.1 := b1
    have b3' : k.2 33 (Y.length + 1) = xn (g.1 - 1) := b3
    obtain ⟨d, d1, d2, d3⟩ := hkd
    have hy3 : y3 + 1 = xn (d + 1) := by rw [d1]; exact xn_succ (by omega)
    have hlt : y1 < s.b g.1 9 := hy P' g (h :: Y) hX' (Nat.lt_succ_self _)
    have ti : (xn (Y.length + 1)).toInt.toNat = Y.length + 1 := by rw [xn_i (by omega)]; omega
    have tc : (xn (Y.length + 1)).toNatClampNeg = Y.length + 1 := ti
    have hs : xn (Y.length + 1) + 1 = xn (Y.length + 2) := xn_succ (by omega)
    obtain ⟨n, n1, n2, n3⟩ := hN
    obtain ⟨E1, m, w1, w2, w3, w4⟩ := OUE.stp (hX' ▸ hO) (by omega) (hX' ▸ hd) ⟨n, n1, n2, n3 g (by rw [hX']; exact List.mem_append_right _ List.mem_cons_self)⟩ (hX' ▸ hk) ha
    rw [← hX'] at w1
    have ec : c68b7 y1 (s, kd, x, xn (Y.length + 1)) = (0, ((c69 s g.1 kd x).1, 0, xn m, xn (Y.length + 2))) := by
      unfold c68b7
      show (if s.f 13 1 ≤ xn (Y.length + 1) then _ else if y1 < s.b (s.op (xn (Y.length + 1)).toInt.toNat) 9 then (0, ((c69 s (s.op (xn (Y.length + 1)).toInt.toNat) kd x).1, 0, (c69 s (s.op (xn (Y.length + 1)).toInt.toNat) kd x).2, xn (Y.length + 1) + 1)) else _) = _
      rw [if_neg (by rw [i_le, hB.1.1, xn_i (by omega), xn_i (by omega)]; omega), ti, b1', if_pos hlt, w2, hs]
    have r33 : kr k 33 (xn (Y.length + 1)) = xn (g.1 - 1) := by show k.2 33 (xn (Y.length + 1)).toNatClampNeg = _; rw [tc]; exact b3'
    have ek : k205b61 y2 y3 (k, xn (Y.length + 1)) = (0, (kf (k207 k (xn (g.1 - 1)) id kd x).1 75 (xn m), xn (Y.length + 2))) := by
      unfold k205b61
      show (if k.1 32 < xn (Y.length + 1) then _ else if xn (Y.length + 1) ≠ y3 + 1 then (0, (kf (k207 k (kr k 33 (xn (Y.length + 1))) (kr k 27 y2) 0 (k.1 75)).1 75 (k207 k (kr k 33 (xn (Y.length + 1))) (kr k 27 y2) 0 (k.1 75)).2, xn (Y.length + 1) + 1)) else (0, (kf (k207 k (kr k 33 (xn (Y.length + 1))) (kr k 27 y2) 1 (k.1 75)).1 75 (k207 k (kr k 33 (xn (Y.length + 1))) (kr k 27 y2) 1 (k.1 75)).2, xn (Y.length + 1) + 1))) = _
      have := hB.2.1
      rw [if_neg (by rw [i_lt, xn_i (by omega)]; omega), r33, h27, h75, hs]
      by_cases q : kd = 1
      · rw [if_neg (fun z => z (by rw [hy3, d3.mp q])), ← q, w3]
      · have q0 : kd = 0 := by
          rcases ha with ⟨z, _⟩ | ⟨z, _⟩
          · exact absurd z q
          · exact z
        rw [if_pos (fun z => q (d3.mpr (by rw [hy3] at z; have := xn_inj (by omega) (by omega) z; omega))), ← q0, w3]
    have fc := fr_c69 s g.1 kd x
    have fk := fr_k207 k (xn (g.1 - 1)) id kd x
    obtain ⟨E2, s2, k2, v1, ⟨m1, w, v2⟩, m2, v, v3⟩ := ih P' g (h :: Y) E1 (b + 1) (c69 s g.1 kd x).1 (kf (k207 k (xn (g.1 - 1)) id kd x).1 75 (xn m)) 0 (xn m) hP' hX' (by omega) w1.k75 hB.stp (fun Q f r e1 e2 => by rw [fc.2.2.1 f.1 9 (Nat.zero_testBit _)]; exact hy Q f r e1 (by have : (h :: Y).length = Y.length + 1 := rfl; omega)) ⟨n, by show (k207 k (xn (g.1 - 1)) id kd x).1.1 53 = _; rw [fk.1 53 rfl]; exact n1, n2, n3⟩ w4 (by show (k207 k (xn (g.1 - 1)) id kd x).1.2 27 _ = _; rw [fk.2 27 rfl]; exact h27) rfl ⟨d, d1, by show d ≤ Y.length + 1; omega, fun z => absurd z (by decide), fun z => by have z' : d = Y.length + 1 := z; omega⟩
    have eb : b + (c + 1) = b + 1 + c := by omega
    rw [eb]
    refine ⟨E2, s2, k2, v1, ⟨m1 + 1, w, ?_⟩, m2 + 1, v, ?_⟩
    · rw [kwh_go (by rw [ec]), ec]
      exact v2
    · rw [kwh_go (by rw [ek]), ek]
      exact v3
end OU4
