/-! OUTERS: A NAME IS RESOLVED, on both sides -/
section OU5
variable {s s' : cS} {k k' : kS} {E : List (Nat × oR)} {X Y : List xF}
theorem OUE.cls {b : Nat} (h : OUE E b s k X) (hu : ∀ x, s'.r (.u x) = s.r (.u x) ∧ s'.c (.u x) = s.c (.u x)) : OUE E b s' k X := by
  obtain ⟨N, c, o1, o2, o3, o4, o5, o6, o7, o8, o9⟩ := h
  exact ⟨N, c, o1, ⟨o2.1, fun x hx => by rw [(hu _).1]; exact o2.2 x hx⟩, o3, o4, o5, o6, fun x hx => ⟨(o7 x hx).1.same (hu _).1 (hu _).2, (o7 x hx).2⟩, o8, o9⟩
theorem OUE.mono {b b' : Nat} (h : OUE E b s k X) (hb : b ≤ b') : OUE E b' s k X := by
  obtain ⟨N, c, o1, o2, o3, o4, o5, o6, o7, o8, o9⟩ := h
  exact ⟨N, c, o1, o2, by omega, by omega, o5, o6, o7, o8, o9⟩
theorem XKF.at34 : ∀ {X : List xF}, XKF k X → ∀ P f r, X = P ++ f :: r → k.2 34 r.length = xn (kL r).length := by
  intro X
  induction X with
  | nil => intro _ P f r e; cases P <;> cases e
  | cons g Y ih =>
    intro h P f r e
    obtain ⟨_, h1, _, _, _, h3⟩ := h
    cases P with
    | nil => cases e; exact h1
    | cons p P => cases e; exact ih h3 P f r rfl
theorem OI.dep : ∀ {X : List xF}, OI k E X → ∀ P f r, X = P ++ f :: r → ∀ n, n < f.2.1.length → k.2 26 ((kL r).length + n) = xn r.length := by
  intro X
  induction X with
  | nil => intro _ P f r e; cases P <;> cases e
  | cons g Y ih =>
    intro h P f r e
    obtain ⟨h1, _, _, h3⟩ := h
    cases P with
    | nil => cases e; exact h1
    | cons p P => cases e; exact ih h3 P f r rfl
theorem BG_of {e : Nat} (h : XC e s X) (hk : XK k X) (hm : ∀ f ∈ X, 1 ≤ f.1 ∧ f.1 ≤ 1000000) : BG s k X := ⟨⟨h.2.2.2.2.2.1, XF.at h.2.2.2.2.2.2.1⟩, hk.2.2.2.2.1, XKF.at hk.2.2.2.2.2 hm⟩
theorem fL_lt {Q P : List xF} {f g : xF} {r r' : List xF} (e : Q ++ g :: r' = P ++ f :: r) (hl : r.length < r'.length) : (fL (f :: r)).length ≤ (fL r').length := by
  have e2 : ∃ A, r' = A ++ f :: r := by
    have l1 : (Q ++ g :: r').length = (P ++ f :: r).length := by rw [e]
    rw [List.length_append, List.length_append] at l1
    have l2 : (g :: r').length = r'.length + 1 := rfl
    have l3 : (f :: r).length = r.length + 1 := rfl
    have e3 : (P ++ f :: r).drop (Q.length + 1) = r' := by
      rw [← e, ← List.drop_drop, List.drop_left]
      rfl
    rw [List.drop_append_of_le_length (by omega)] at e3
    exact ⟨_, e3.symm⟩
  obtain ⟨A, rfl⟩ := e2
  exact fL_app
/-- the rows of outers stay alike when a name is resolved; what it means is the same -/
theorem res {e b : Nat} {w t : Int32} (h : XC e s X) (hk : XK k X) (hz : SZ X) (hw : WV X) (hD : DF X) (hN : ∃ n, k.1 53 = xn n ∧ n ≤ 1000000 ∧ ∀ f ∈ X, f.1 ≤ n) (hO : OU b s k X) (hb : b + X.length ≤ 1000000) (ht : kr k 2 w = t) : OU (b + X.length) (c66 s t).1 (k205 k w).1 X ∧ (c66 s t).1.f 12 7 = 8 + (k205 k w).2 ∧ (c66 s t).1.f 12 8 = (k205 k w).1.1 75 := by
  obtain ⟨E, hO⟩ := hO
  have zg := hz.g
  have zk := hz.k
  have ez : (0 : Int32).toInt = 0 := rfl
  have hm : ∀ f ∈ X, 1 ≤ f.1 ∧ f.1 ≤ 1000000 := fun f hf => by
    obtain ⟨n, _, n2, n3⟩ := hN
    exact ⟨DF.ge hD f hf, by have := n3 f hf; omega⟩
  have hB := BG_of h hk hm
  have hc : ∃ z0, (c66 s t).1 = (c66_30 s t (c67 s t) z0).1 := by
    unfold c66
    split
    · exact ⟨0, rfl⟩
    · split
      · exact ⟨0, rfl⟩
      · exact ⟨1, rfl⟩
  obtain ⟨z0, hc⟩ := hc
  rw [hc]
  rcases fnd (t := t) h hk hz hw with ⟨P, f, r, n, e1, e2, e3, e4⟩ | ⟨e3, e4⟩
  · have eL : (fL (f :: r)).length = (fL r).length + (f.2.1.length + f.2.2.1.length) := by show (fL r ++ (f.2.1 ++ f.2.2.1)).length = _; rw [List.length_append, List.length_append]
    have eK : (kL (f :: r)).length = (kL r).length + f.2.1.length := by show (kL r ++ f.2.1).length = _; rw [List.length_append]
    have lL : (fL (f :: r)).length ≤ (fL X).length := by rw [e1]; exact fL_app
    have lK : (kL (f :: r)).length ≤ (kL X).length := by rw [e1]; exact kL_app
    have lX : X.length = P.length + (r.length + 1) := by rw [e1, List.length_append]; rfl
    have i3 : (xn ((fL r).length + n)).toInt = ((fL r).length + n : Nat) := xn_i (by omega)
    have i4 : (xn ((kL r).length + n)).toInt = ((kL r).length + n : Nat) := xn_i (by omega)
    have c4 : (xn ((kL r).length + n)).toNatClampNeg = (kL r).length + n := by show (xn ((kL r).length + n)).toInt.toNat = _; rw [i4]; omega
    have hdep : kr k 26 (xn ((kL r).length + n)) = xn r.length := by
      show k.2 26 (xn ((kL r).length + n)).toNatClampNeg = _
      rw [c4]
      obtain ⟨N, c, _, _, _, _, _, _, _, o8, _⟩ := hO
      exact OI.dep o8 P f r e1 n e2
    have h34 : kr k 34 (xn r.length) = xn (kL r).length := by
      show k.2 34 (xn r.length).toNatClampNeg = _
      have : (xn r.length).toNatClampNeg = r.length := by show (xn r.length).toInt.toNat = _; rw [xn_i (by omega)]; omega
      rw [this]
      exact XKF.at34 hk.2.2.2.2.2 P f r e1
    have e32 : k.1 32 = xn (X.length - 1) := by
      have := hk.2.2.2.2.1
      exact xn_eq (by omega) (by omega)
    cases P with
    | nil =>
      have hnow : s.now = f.1 := h.2.2.2.2.2.2.2 f r e1
      have hb9 := (hB.1.2 [] f r e1).2
      have lX' : X.length - 1 = r.length := by rw [lX]; show 0 + (r.length + 1) - 1 = _; omega
      have ek : k205 k w = (kf (kf k 75 (kr k 2 w)) 75 (xn n), 0) := by
        unfold k205
        rw [ht, e4, if_pos (by rw [i_le, ez, i4]; omega), hdep, if_neg (fun z => z (by rw [e32, lX'])), h34, xn_sub (by omega)]
      have ec : (c66_30 s t (c67 s t) z0).1 = nf (nf (nf s 12 9 z0) 12 7 8) 12 8 (xn n) := by
        unfold c66_30
        rw [e3, if_pos (by rw [i_le, ez, i3]; omega), hnow, hb9, if_neg (by rw [i_lt, i3, xn_i (by omega)]; omega), xn_sub (by omega)]
      rw [ek, ec]
      exact ⟨⟨E, (hO.k75.k75.cls (s' := nf (nf (nf s 12 9 z0) 12 7 8) 12 8 (xn n)) (fun _ => ⟨rfl, rfl⟩)).mono (by omega)⟩, rfl, rfl⟩
    | cons g P =>
      have hnow : s.now = g.1 := h.2.2.2.2.2.2.2 g (P ++ f :: r) e1
      have hb9 := (hB.1.2 [] g (P ++ f :: r) e1).2
      have lg : (fL (f :: r)).length ≤ (fL (P ++ f :: r)).length := fL_app
      have lg2 : (fL (P ++ f :: r)).length ≤ (fL X).length := by rw [e1]; exact fL_app (P := [g])
      have lP : (g :: P).length = P.length + 1 := rfl
      have hB1 : BG (nf (nf s 12 9 z0) 12 7 9) (kf (kf k 75 t) 75 (xn n)) X := hB
      have hO1 : OUE E b (nf (nf s 12 9 z0) 12 7 9) (kf (kf k 75 t) 75 (xn n)) X := (hO.k75.k75.cls (s' := nf (nf s 12 9 z0) 12 7 9) (fun _ => ⟨rfl, rfl⟩))
      obtain ⟨m0, hm0⟩ := c68_a (n := n) hB1 e1 (by omega) (by omega) r.length 0 (xn ((fL r).length + n)) (Nat.zero_add _)
      have hy : ∀ Q f' r', X = Q ++ f' :: r' → r.length < r'.length → xn ((fL r).length + n) < (nf (nf s 12 9 z0) 12 7 9).b f'.1 9 := by
        intro Q f' r' q1 q2
        have lf := fL_lt (q1.symm.trans e1) q2
        have lf2 : (fL r').length ≤ (fL X).length := by rw [q1]; exact Nat.le_trans (fL_app (P := [f'])) fL_app
        rw [(hB1.1.2 Q f' r' q1).2, i_lt, i3, xn_i (by omega)]
        omega
      obtain ⟨E2, s2, k2, v1, ⟨m1, q, v2⟩, v3⟩ := br_go (y1 := xn ((fL r).length + n)) (y2 := xn ((kL r).length + n)) (y3 := xn r.length) (id := kr k 27 (xn ((kL r).length + n))) (by omega) hD (by omega) _ (g :: P) f r E b _ _ 1 (xn n) rfl e1 (by omega) hO1 hB1 hy hN (Or.inl ⟨rfl, n, rfl, e2, by show k.2 27 (xn ((kL r).length + n)).toNatClampNeg = _; rw [c4]; rfl⟩) rfl rfl ⟨r.length, rfl, Nat.le_refl _, fun _ => rfl, fun _ => rfl⟩
      have k68 : kfin (c68b7 (xn ((fL r).length + n))) (nf (nf s 12 9 z0) 12 7 9, 1, xn ((fL r).length + n), 0) = (1, (s2, q, k2.1 75, xn X.length)) := kfin_of ⟨m0 + m1, (hm0 m1).trans v2⟩ (Nat.succ_ne_zero 0)
      obtain ⟨m2, v, v3⟩ := v3
      have k205e : kfin (k205b61 (xn ((kL r).length + n)) (xn r.length)) (kf (kf k 75 t) 75 (xn n), xn (r.length + 1)) = (1, (k2, v)) := kfin_of ⟨m2, v3⟩ (Nat.succ_ne_zero 0)
      have ek : k205 k w = (k2, 1) := by
        unfold k205
        rw [ht, e4, if_pos (by rw [i_le, ez, i4]; omega), hdep, if_pos (fun z => by rw [e32] at z; have := xn_inj (by omega) (by omega) z; omega), h34, xn_sub (by omega), xn_succ (by omega), k205e]
      have ec : (c66_30 s t (c67 s t) z0).1 = nf s2 12 8 (k2.1 75) := by
        unfold c66_30
        rw [e3, if_pos (by rw [i_le, ez, i3]; omega), hnow, hb9, if_pos (by rw [i_lt, i3, xn_i (by omega)]; omega)]
        unfold c68
        rw [k68]
      have f68 := fr_c68 (nf (nf s 12 9 z0) 12 7 9) (xn ((fL r).length + n))
      have es2 : (c68 (nf (nf s 12 9 z0) 12 7 9) (xn ((fL r).length + n))).1 = s2 := by unfold c68; rw [k68]
      rw [es2] at f68
      rw [ek, ec]
      refine ⟨⟨E2, (v1.cls (s' := nf s2 12 8 (k2.1 75)) (fun _ => ⟨rfl, rfl⟩)).mono (by omega)⟩, ?_, rfl⟩
      show s2.f 12 7 = 8 + 1
      rw [f68.1 12 7 (by decide) (Nat.zero_testBit _)]
      rfl
  · have ek : k205 k w = (kf k 75 (kr k 2 w), 2) := by
      unfold k205
      rw [ht, if_neg (by rw [i_le, ez]; rw [i_lt, ez] at e4; omega)]
    have ec : (c66_30 s t (c67 s t) z0).1 = nf (nf (nf s 12 9 z0) 12 7 10) 12 8 t := by
      unfold c66_30
      rw [e3, if_neg (by decide)]
    rw [ek, ec, ht]
    exact ⟨⟨E, (hO.k75.cls (s' := nf (nf (nf s 12 9 z0) 12 7 10) 12 8 t) (fun _ => ⟨rfl, rfl⟩)).mono (by omega)⟩, rfl, rfl⟩
end OU5
