/-! THE REFERENCE'S COMPILE: its loop has ended when it comes back -/
theorem ly175_9 {sc : Nat × (Nat → Int32)} {N d : Nat} {S0 S : am_S} {s : kS} {o1 : Option Value} (hS : MK S0 S s) : am_L (am_PP sc) N d 175 9 [some (.ref 39), o1] [] S (fun _ _ => ∃ n, ¬ (kwh k175b13 n ((k178 s).1)).1 = 0) := by
  refine l2 (v := 39) hi_175_9 rfl ?_
  refine l32 (as := [.ref 39]) (la := [some (.ref 39)]) (rest := []) hi_175_10 (am_hd0 (M := 175) (by decide) 10) rfl rfl rfl (fun N' d' _ => lt178 (N := N') (d := d') hS) ?_ (fun _ q => nomatch q.1)
  rintro v3 S1 ⟨ev3, h2⟩
  cases ev3
  show am_L _ _ _ _ _ [some (.ref 39), o1] [] _ _
  refine lb175_13 N _ o1 ((k178 s).1) h2 ?_
  intro m4 S5 p9 hm6 h7
  exact fun n hn o S' h => ⟨m4, by rw [hm6]; decide⟩
theorem ly175_4 {sc : Nat × (Nat → Int32)} {N d : Nat} {S0 S : am_S} {s : kS} {o1 : Option Value} (hS : MK S0 S s) : am_L (am_PP sc) N d 175 4 [some (.ref 39), o1] [] S (fun _ _ => ∃ n, ¬ (kwh k175b13 n ((k178 (k177 s 0).1).1)).1 = 0) := by
  refine l2 (v := 39) hi_175_4 rfl ?_
  refine l0 hi_175_5 ?_
  refine l32 (as := [.ref 39, .int 0]) (la := [some (.ref 39), some (.int 0)]) (rest := []) hi_175_6 (am_hd0 (M := 175) (by decide) 6) rfl rfl rfl (fun N' d' _ => lt177 (N := N') (d := d') hS) ?_ (fun _ q => nomatch q.1)
  rintro v3 S1 ⟨ev3, h2⟩
  cases ev3
  show am_L _ _ _ _ _ [some (.ref 39), o1] [] _ _
  exact ly175_9 h2
theorem ly175 {sc : Nat × (Nat → Int32)} {N d : Nat} {S0 S : am_S} {s : kS} (hS : MK S0 S s) : am_L (am_PP sc) N d 175 0 [some (.ref 39), none] [] S (fun _ _ => ∃ n, ¬ (kwh k175b13 n (k178 (kbg s)).1).1 = 0) := by
  refine l2 (v := 39) hi_175_0 rfl ?_
  refine l32 (as := [.ref 39]) (la := [some (.ref 39)]) (rest := []) hi_175_1 (am_hd0 (M := 175) (by decide) 1) rfl rfl rfl (fun N' d' _ => lt176 (N := N') (d := d') hS) ?_ (fun _ q => nomatch q.1)
  rintro v3 S1 ⟨ev3, h2⟩
  cases ev3
  show am_L _ _ _ _ _ [some (.ref 39), none] [] _ _
  exact ly175_4 h2
/-- what is known of a run that ends, of one that does -/
theorem e_two {P : am_P} {d M pc : Nat} {ls : am_V} {st : List Value} {S : am_S} {Q : Option Value → am_S → Prop} {Q' : Option (Option Value) → am_S → Prop} (h : am_E P d M pc ls st S (am_N Q)) (h' : ∀ N, am_L P N d M pc ls st S Q') : am_E P d M pc ls st S (am_N fun v S' => Q v S' ∧ Q' (some v) S') := by
  obtain ⟨o, S', h1, h2, h3⟩ := l_tot h h'
  refine ⟨o, S', h1, ?_⟩
  cases o with
  | none => exact h2
  | some v => exact ⟨h2, h3⟩
theorem l_and {P : am_P} {N d M pc : Nat} {ls : am_V} {st : List Value} {S : am_S} {Q Q' : Option (Option Value) → am_S → Prop} (h : am_L P N d M pc ls st S Q) (h' : am_L P N d M pc ls st S Q') : am_L P N d M pc ls st S (fun o S' => Q o S' ∧ Q' o S') := fun n hn o S' q => ⟨h n hn o S' q, h' n hn o S' q⟩
theorem mk_same {S S2 : am_S} {f : Nat → Int32} {g : Nat → Nat → Int32} {k : kS} (m : MS S S f g) (h : MK S S k) (m2 : MS S S2 f g) : MK S2 S2 k := by
  refine ⟨?_, fun q hq => ?_, rfl, rfl, fun _ _ => rfl⟩
  · rw [m2.1, ← m.1]
    exact h.1
  · rw [m2.2.1 q hq, ← m.2.1 q hq]
    exact h.2.1 q hq
/-- rows that nobody has are none -/
noncomputable def nrs (s : cS) : cS := (s.1, s.2.1, fun t => match t with
  | .inr (.inr x) => if s.r (.u x) < 0 then 0 else s.r (.u x)
  | .inr (.inl x) => if s.r (.i x) < 0 then 0 else s.r (.i x)
  | t => s.r t, s.2.2.2)
theorem nrm_0 {s : cS} {x : Nat} : 0 ≤ ((nrs s).r (.u x)).toInt := by
  show 0 ≤ (if s.r (.u x) < 0 then (0 : Int32) else s.r (.u x)).toInt
  have z0 : (0 : Int32).toInt = 0 := rfl
  split
  · decide
  · rename_i c
    rw [i_lt] at c
    omega
theorem nrm_r {s : cS} {x : Nat} (h : 0 ≤ (s.r (.u x)).toInt) : (nrs s).r (.u x) = s.r (.u x) := by
  show (if s.r (.u x) < 0 then (0 : Int32) else s.r (.u x)) = _
  have z0 : (0 : Int32).toInt = 0 := rfl
  exact if_neg (by rw [i_lt]; omega)
theorem nri_0 {s : cS} {x : Nat} : 0 ≤ ((nrs s).r (.i x)).toInt := by
  show 0 ≤ (if s.r (.i x) < 0 then (0 : Int32) else s.r (.i x)).toInt
  have z0 : (0 : Int32).toInt = 0 := rfl
  split
  · decide
  · rename_i c
    rw [i_lt] at c
    omega
theorem nri_r {s : cS} {x : Nat} (h : 0 ≤ (s.r (.i x)).toInt) : (nrs s).r (.i x) = s.r (.i x) := by
  show (if s.r (.i x) < 0 then (0 : Int32) else s.r (.i x)) = _
  have z0 : (0 : Int32).toInt = 0 := rfl
  exact if_neg (by rw [i_lt]; omega)
theorem CM.nrm {A : Nat → Nat} {K : Nat} {S : am_S} {s : cS} (h : CM A K S s) : CM A K S (nrs s) := by
  obtain ⟨B, h⟩ := h
  have er : ∀ t, cTl K t → (nrs s).r t = s.r t := fun t ht => by
    obtain ⟨k, g, -, -, h0, -⟩ := h.ar t ht
    match t, ht, h0 with
    | .inl _, _, _ => rfl
    | .inr (.inl x), _, h0 => exact nri_r h0
    | .inr (.inr x), _, h0 => exact nrm_r h0
  refine ⟨B, h.len, h.so, h.bo, fun t ht => by rw [er t ht]; exact h.ta t ht, fun t ht => ?_, h.ai, h.aj, h.al, h.bi, h.bj, h.kk, h.li, h.ol, h.nl⟩
  obtain ⟨k, g, g1, g2, g3, g4, g5⟩ := h.ar t ht
  exact ⟨k, g, g1, g2, by rw [er t ht]; exact g3, by rw [er t ht]; exact g4, by rw [er t ht]; exact g5⟩
/-- what holds between two calls of the law, of both -/
def L5 (j : Nat) (S : am_S) : Prop := (∃ A K s k L, CM A K S s ∧ MK S S k ∧ JI L s k ∧ L.length ≤ j) ∧ AL S
theorem l5_up {j : Nat} {S : am_S} (h : L5 j S) : L5 (j + 1) S := by
  obtain ⟨⟨A, K, s, k, L, h1, h2, h3, h4⟩, hA⟩ := h
  exact ⟨⟨A, K, s, k, L, h1, h2, h3, by omega⟩, hA⟩
theorem l5_word {S1 S2 : am_S} {A : Nat → Nat} {K : Nat} {s : cS} {k : kS} {L : List xR} {x1 x2 : Int32} {f' : Nat → Int32} {g' : Nat → Nat → Int32} (hJ : JI L s k) (hC : CM A K S1 (c33 s x1 x2).1) (m2 : MS S1 S2 f' g') {j : Nat} (hj : L.length ≤ j) (hK : MK S1 S2 (k174 k x1 x2).1) (hA : AL S2) : L5 (j + 1) S2 := by
  obtain ⟨L', hl', hJ'⟩ := ji_word (x1 := x1) (x2 := x2) hJ
  exact ⟨⟨A, K, _, _, L', cm_ms hC m2, ms_self hK, hJ', by omega⟩, hA⟩
theorem l5_comp {S S1 S2 : am_S} {A : Nat → Nat} {K m : Nat} {s s1 : cS} {w : Option Int32} {k : kS} {L : List xR} {f' : Nat → Int32} {g' : Nat → Nat → Int32} (hJ : JI L s k) (hC0 : CM A K S s) (e : c41 (cfix m) (c40 (c39 s).1).1 = some (s1, w)) (hC : CX A K S1 (c38_32 (c38f s1 w)).1) (m2 : MS S1 S2 f' g') (hK : MK S1 S2 (k175 k).1) (hT : ∃ n, ¬ (kwh k175b13 n (k178 (kbg k)).1).1 = 0) {j : Nat} (hj : L.length ≤ j) (hj6 : j ≤ 600) (hA1 : AL S1) (hE1 : EN S1 ≤ 8000000) (hA2 : AL S2) (hR : RI f' g') (hQ : SQ8 f' g') : L5 (j + 1) S2 := by
  obtain ⟨A', K', -, hC'⟩ := hC
  obtain ⟨e5, e0, e1⟩ := cp_fin hJ (by omega) hC0.cr hT e
  have h3 := c38_3 (hC'.cr.1 3 (by decide))
  have h6 := hC'.cr.2
  generalize (c38_32 (c38f s1 w)).1 = sf at hC' e5 e1 h3 h6
  have ef : f' 53 = (k175 k).1.1 53 := by
    have z := (Prod.mk.inj (Option.some.inj (m2.1.symm.trans hK.1))).2
    have z2 := congrArg (fun l : List Value => l[53]?) z
    have z3 : some (Value.int (f' 53)) = some (Value.int ((k175 k).1.1 53)) := z2
    have z4 := Option.some.inj z3
    injection z4
  have ef8 : f' 68 = (k175 k).1.1 68 := by
    have z := (Prod.mk.inj (Option.some.inj (m2.1.symm.trans hK.1))).2
    have z2 := congrArg (fun l : List Value => l[68]?) z
    have z3 : some (Value.int (f' 68)) = some (Value.int ((k175 k).1.1 68)) := z2
    have z4 := Option.some.inj z3
    injection z4
  have hr0 : ∀ y, y ≤ K' → 0 ≤ (sf.r (.i y)).toInt := fun y hy => by
    obtain ⟨B, h⟩ := hC'
    obtain ⟨k', g'', -, -, h0, -⟩ := h.ar (.i y) hy
    exact h0
  have hck : CK (nrs sf) (k175 k).1 := by
    rcases e1 with e1 | ⟨⟨E, N, o1, o2, o3, -⟩, -, e1⟩
    · intro x hx
      rw [e1] at hx
      exact (sq_0 hx).elim
    · have hK6 : (sf.f 6 1).toInt = K' := by
        obtain ⟨B, h⟩ := hC'
        exact h.kk
      have e5N : ((k175 k).1.1 53).toInt = N := by rw [o1, xn_i (by omega)]
      by_cases c0 : N = 0
      · intro x hx
        omega
      have z := e1 (by rw [← ef8]; exact hQ.2 (by rw [ef]; omega)) (fun x hx => rows_lt (x := x + 1) hC' hA1 hE1 (by omega))
      intro x hx
      obtain ⟨U, B, u1, u2⟩ := z x hx
      exact ⟨U, B, ⟨u1.1.same (nri_r (hr0 _ (by omega))) rfl, u1.2⟩, u2⟩
  have hfk : FK (nrs sf) (k175 k).1 := by
    intro x hx
    rcases e1 with e1 | ⟨-, e1, -⟩
    · rw [e1] at hx
      exact (sq_0 hx).elim
    · obtain ⟨q3, q4, q5, q6, q7, q8, -, -⟩ := e1 x hx
      obtain ⟨U, B, u1, u2, u3, u4, -⟩ := hck x hx
      exact ⟨q3, q4, q5, q6, q7, q8, by rw [u4]; exact xn_eq u1.1.1 (by omega)⟩
  have hb2 : B2 (nrs sf) (k175 k).1 ∧ MB (k175 k).1 := by
    constructor
    · intro x hx
      rcases e1 with e1 | ⟨-, e1, -⟩
      · rw [e1] at hx
        exact (sq_0 hx).elim
      · exact (e1 x hx).2.2.2.2.2.2.1
    · intro x hx
      rcases e1 with e1 | ⟨-, e1, -⟩
      · rw [e1] at hx
        exact (sq_0 hx).elim
      · exact (e1 x hx).2.2.2.2.2.2.2
  refine ⟨⟨A', K', nrs sf, _, [], cm_ms hC'.nrm m2, ms_self hK, ⟨⟨h3.same rfl rfl, Nat.zero_le _, fun q hq => nomatch hq⟩, ⟨e0, fun i q hq => nomatch hq⟩, e5, ⟨?_, fun x => nrm_0⟩, ⟨hfk, fun x => nri_0⟩, hck, hb2⟩, Nat.zero_le _⟩, hA2⟩
  rcases e1 with e1 | ⟨e1, -⟩
  · exact ⟨[], 0, e1, Nat.zero_le _, h6, Nat.zero_le _, fun q hq => absurd hq List.not_mem_nil, fun z => absurd rfl z, fun x hx => absurd hx (Nat.not_lt_zero _)⟩
  · obtain ⟨E, N, o1, o2, o3, o4, o5, o6, o7⟩ := e1
    exact ⟨E, N, o1, o2, o3, o4, o5, o6, fun x hx => ⟨(o7 x hx).1.same (nrm_r (by rw [(o7 x hx).1.1]; exact Int.natCast_nonneg _)) rfl, (o7 x hx).2⟩⟩
theorem l5_same {S S2 : am_S} {A : Nat → Nat} {K : Nat} {s : cS} {k : kS} {L : List xR} {f : Nat → Int32} {g : Nat → Nat → Int32} (hJ : JI L s k) (hC : CM A K S s) (m : MS S S f g) (hK : MK S S k) (m2 : MS S S2 f g) {j : Nat} (hj : L.length ≤ j) (hA : AL S2) : L5 (j + 1) S2 := ⟨⟨A, K, s, k, L, cm_ms hC m2, mk_same m hK m2, hJ, by omega⟩, hA⟩
/-- the class's first row -/
theorem am_newU : am_arf am_S1 35 0 = 45 ∧ am_arf am_S1 35 1 = 0 ∧ am_arf am_S1 35 2 = 0 ∧ am_arf am_S1 35 3 = 0 := by decide +kernel
theorem l5_start {S : am_S} (hl : S.1.length = 39) (hF : ∀ k, k < 39 → am_fs S k = st_F k) (hA : ∀ k, k < 39 → am_arq S k = st_A k) (hR : ∀ k, k < 39 → am_rar S k = st_R k) (hG0 : am_rrf S 38 0 = some 33) (hU : am_arf S 35 0 = 45 ∧ am_arf S 35 1 = 0 ∧ am_arf S 35 2 = 0 ∧ am_arf S 35 3 = 0) (hA0 : AL (nm_S S)) : L5 0 (nm_S S) := by
  have r0 : ∀ x, (s0C S).r (.u x) = 0 := fun x => by
    show (if cT.u x = .i 1 then (1 : Int32) else 0) = 0
    exact if_neg (fun z => by cases z)
  have ri : ∀ x, (s0C S).r (.i x) = if x = 1 then 1 else 0 := fun x => by
    show (if cT.i x = .i 1 then (1 : Int32) else 0) = _
    by_cases c : x = 1
    · rw [if_pos c, c, if_pos rfl]
    · rw [if_neg c]
      exact if_neg (fun z => by cases z; exact c rfl)
  refine ⟨⟨a0A, 1, s0C S, (st_f, st_g), [], cm_start hl hF hA hR hG0, ms_start hl, ⟨⟨⟨rfl, fun i q hq => nomatch hq⟩, Nat.zero_le _, fun q hq => nomatch hq⟩, ⟨rfl, fun i q hq => nomatch hq⟩, rfl, ⟨⟨[], 1, rfl, by decide, (show ((1 : Nat) : Int) ≤ (1 : Int32).toInt from by decide), Nat.zero_le _, fun q hq => absurd hq List.not_mem_nil, fun _ => ⟨rfl, fun i q hq => nomatch hq⟩, fun x hx => ?_⟩, fun x => by rw [r0]; decide⟩, ⟨fun x hx => ?_, fun x => by rw [ri]; split <;> decide⟩, fun x hx => ?_, fun x hx => ?_, fun x hx => ?_⟩, Nat.zero_le _⟩, hA0⟩
  · obtain rfl : x = 0 := by omega
    exact ⟨⟨by rw [r0]; rfl, fun i q hq => nomatch hq⟩, rfl⟩
  · have hx' : (x : Int) < (1 : Int32).toInt := hx
    have z1 : (1 : Int32).toInt = 1 := rfl
    obtain rfl : x = 0 := by omega
    exact ⟨rfl, rfl, rfl, rfl, rfl, rfl, ri 1⟩
  · have hx' : (x : Int) < (1 : Int32).toInt := hx
    have z1 : (1 : Int32).toInt = 1 := rfl
    obtain rfl : x = 0 := by omega
    refine ⟨[(45, 0, 0, 0)], 0, ⟨⟨by rw [ri]; rfl, fun i q hq => ?_⟩, wfl_1 rfl⟩, by decide, by decide, rfl, rfl, fun i u hu => ?_⟩
    · cases i with
      | zero =>
        cases hq
        exact hU
      | succ i => exact nomatch hq
    · cases i with
      | zero =>
        cases hu
        exact ⟨0, by decide, rfl, rfl⟩
      | succ i => exact nomatch hu
  · have hx' : (x : Int) < (1 : Int32).toInt := hx
    have z1 : (1 : Int32).toInt = 1 := rfl
    obtain rfl : x = 0 := by omega
    rfl
  · exact ⟨show (0 : Int) ≤ (0 : Int32).toInt by decide, show (0 : Int32).toInt ≤ 1000000 by decide⟩
