/-! A NEW BODY -/
theorem ap_lt {l : List am_C} {c : am_C} {j : Nat} (h : j < l.length) : (l ++ [c])[j]? = l[j]? := List.getElem?_append_left h
theorem ap_eq {l : List am_C} {c : am_C} : (l ++ [c])[l.length]? = some c := by rw [List.getElem?_append_right (Nat.le_refl _), Nat.sub_self]; rfl
theorem ap_ln {l : List am_C} {c : am_C} : (l ++ [c]).length = l.length + 1 := by rw [List.length_append]; rfl
theorem fs_mk {S : am_S} {k : Nat} {q : Nat × List Value} (h : S.1[k]? = some (.inr (.inr q))) : am_fs S k = some q := by unfold am_fs; rw [h]
section NEWB
variable {sc : Nat × (Nat → Int32)} {N d : Nat} {A : Nat → Nat} {K : Nat} {S : am_S} {s : cS}
theorem lc3 {k : Nat} {v : Value} (hk : am_fs S k = some (3, [v, .int 0])) : am_L (am_PP sc) N d 3 0 [some (.ref k)] [] S (fun o S1 => o = some none ∧ S1.1.length = S.1.length + 1 ∧ (∀ j, j < S.1.length → j ≠ k → S1.1[j]? = S.1[j]?) ∧ am_fs S1 k = some (3, [.ref S.1.length, .int 0]) ∧ S1.1[S.1.length]? = some (.inl (false, 32, fun _ => 0))) := by
  have kl := am_ltl (am_fs_ok hk)
  refine l2 (v := k) hi_3_0 rfl ?_
  refine l31 hi_3_1 ?_
  refine l2 (v := k) hi_3_4 rfl ?_
  refine l0 hi_3_5 ?_
  refine l23 hi_3_7 (fun _ _ => ?_)
  have e32 : (32 : Int32).toNatClampNeg = 32 := rfl
  rw [e32]
  have hk1 : am_fs (S.1 ++ [(.inl (decide (0 = 1), 32, fun _ => 0) : am_C)], S.2.1 + 1, S.2.2 + 32) k = some (3, [v, .int 0]) := by
    rw [fs_of (S := S) (by show (S.1 ++ _)[k]? = _; exact ap_lt kl)]
    exact hk
  refine l21r hi_3_9 hk1 (fun _ => ?_)
  refine l35 hi_3_12 ⟨rfl, ?_, fun j h1 h2 => ?_, cso_eq hk1, ?_⟩
  · rw [so_ln]; exact ap_ln
  · rw [so_ne h2]; exact ap_lt h1
  · exact cso_a hk1 ap_eq
theorem lc10 {p : Nat} {v v' : Value} (hp : am_fs S p = some (8, [v, v', .int 0, .int 0, .int 0, .int 0, .int 0, .int 0, .int 0, .int 0, .int 0, .int 0, .int 0])) : am_L (am_PP sc) N d 10 0 [some (.ref p)] [] S (fun o S1 => o = some none ∧ S1.1.length = S.1.length + 4 ∧ (∀ j, j < S.1.length → j ≠ p → S1.1[j]? = S.1[j]?) ∧ am_fs S1 p = some (8, [.ref S.1.length, .ref (S.1.length + 2), .int 0, .int 0, .int 0, .int 0, .int 0, .int 0, .int 0, .int 0, .int 0, .int 0, .int 0]) ∧ am_fs S1 S.1.length = some (3, [.ref (S.1.length + 1), .int 0]) ∧ S1.1[S.1.length + 1]? = some (.inl (false, 32, fun _ => 0)) ∧ am_fs S1 (S.1.length + 2) = some (3, [.ref (S.1.length + 3), .int 0]) ∧ S1.1[S.1.length + 3]? = some (.inl (false, 32, fun _ => 0))) := by
  have pl := am_ltl (am_fs_ok hp)
  have enb : (am_PP sc).2.1 3 = [.null, .int 0] := rfl
  refine l2 (v := p) hi_10_0 rfl ?_
  refine l31 hi_10_1 ?_
  refine l2 (v := p) hi_10_4 rfl ?_
  refine l22 hi_10_5 ?_
  rw [enb]
  generalize hSa : ((S.1 ++ [(.inr (.inr (3, [.null, .int 0])) : am_C)], S.2.1 + 1, S.2.2 + [Value.null, Value.int 0].length) : am_S) = Sa
  have a1 : Sa.1.length = S.1.length + 1 := by rw [← hSa]; exact ap_ln
  have a2 : ∀ j, j < S.1.length → Sa.1[j]? = S.1[j]? := fun j hj => by rw [← hSa]; exact ap_lt hj
  have a3 : am_fs Sa S.1.length = some (3, [.null, .int 0]) := by rw [← hSa]; exact fs_mk ap_eq
  refine l7 hi_10_8 ?_
  refine l32 (as := [.ref S.1.length]) (la := [some (.ref S.1.length)]) (rest := [.ref S.1.length, .ref p]) hi_10_9 (am_hd0 (M := 10) (by decide) 9) rfl rfl rfl (fun N' d' _ => lc3 (N := N') (d := d') a3) ?_ (fun _ q => nomatch q.1)
  rintro v1 Sb ⟨ev, b1, b2, b3, b4⟩
  cases ev
  rw [a1] at b1 b3 b4
  have b5 : am_fs Sb p = some (8, [v, v', .int 0, .int 0, .int 0, .int 0, .int 0, .int 0, .int 0, .int 0, .int 0, .int 0, .int 0]) := by
    rw [fs_of (b2 p (by omega) (by omega)), fs_of (a2 p pl)]
    exact hp
  refine l21r hi_10_12 b5 (fun _ => ?_)
  generalize hSc : cm_so Sb p _ = Sc
  have c1 : Sc.1.length = S.1.length + 2 := by rw [← hSc, so_ln]; omega
  have c2 : ∀ j, j ≠ p → Sc.1[j]? = Sb.1[j]? := fun j hj => by rw [← hSc]; exact so_ne hj
  have c3 : am_fs Sc p = some (8, [.ref S.1.length, v', .int 0, .int 0, .int 0, .int 0, .int 0, .int 0, .int 0, .int 0, .int 0, .int 0, .int 0]) := by rw [← hSc]; exact cso_eq b5
  refine l2 (v := p) hi_10_15 rfl ?_
  refine l22 hi_10_16 ?_
  rw [enb]
  generalize hSd : ((Sc.1 ++ [(.inr (.inr (3, [.null, .int 0])) : am_C)], Sc.2.1 + 1, Sc.2.2 + [Value.null, Value.int 0].length) : am_S) = Sd
  have d1 : Sd.1.length = S.1.length + 3 := by rw [← hSd]; show (Sc.1 ++ _).length = _; rw [ap_ln]; omega
  have d2 : ∀ j, j < S.1.length + 2 → Sd.1[j]? = Sc.1[j]? := fun j hj => by rw [← hSd]; exact ap_lt (by omega)
  have d3 : am_fs Sd (S.1.length + 2) = some (3, [.null, .int 0]) := by rw [← hSd, ← c1]; exact fs_mk ap_eq
  rw [c1]
  refine l7 hi_10_19 ?_
  refine l32 (as := [.ref (S.1.length + 2)]) (la := [some (.ref (S.1.length + 2))]) (rest := [.ref (S.1.length + 2), .ref p]) hi_10_20 (am_hd0 (M := 10) (by decide) 20) rfl rfl rfl (fun N' d' _ => lc3 (N := N') (d := d') d3) ?_ (fun _ q => nomatch q.1)
  rintro v1 Se ⟨ev, e1, e2, e3, e4⟩
  cases ev
  rw [d1] at e1 e3 e4
  have e5 : am_fs Se p = some (8, [.ref S.1.length, v', .int 0, .int 0, .int 0, .int 0, .int 0, .int 0, .int 0, .int 0, .int 0, .int 0, .int 0]) := by
    rw [fs_of (e2 p (by omega) (by omega)), fs_of (d2 p (by omega))]
    exact c3
  refine l21r hi_10_23 e5 (fun _ => ?_)
  have z : ∀ q j, j < S.1.length + 2 → j ≠ p → (cm_so Se p q).1[j]? = Sb.1[j]? := fun q j h1 h2 => by
    rw [so_ne h2, e2 j (by omega) (by omega), d2 j h1, c2 j h2]
  refine l35 hi_10_26 ⟨rfl, ?_, fun j h1 h2 => ?_, cso_eq e5, ?_, ?_, ?_, ?_⟩
  · rw [so_ln, e1]
  · rw [z _ j (by omega) h2, b2 j (by omega) (by omega), a2 j h1]
  · rw [fs_of (z _ S.1.length (by omega) (by omega))]; exact b3
  · rw [z _ (S.1.length + 1) (by omega) (by omega)]; exact b4
  · rw [fs_of (so_ne (by omega))]; exact e3
  · rw [so_ne (by omega)]; exact e4
def bnew (s : cS) (x : Nat) : cS := ((nf s 6 1 (s.f 6 1 + 1)).1, fun a => if a = x then (fun _ => 0) else s.b a, fun a => if a = .i x ∨ a = .u x then 0 else s.r a, s.2.2.2)
theorem CMB.newb {B : cT → Nat} {S' : am_S} {e6 : Value} {m6 mc' : Int32} {p a' m' : Nat} {g' : Nat → Option Nat} (h : CMB A B K S s) (hp : p = S.1.length) (g1 : am_fs S 6 = some (5, [e6, .int (s.f 6 1), .int m6])) (hl : p + 5 ≤ S'.1.length) (hs : ∀ j, j < p → j ≠ 6 → e6 ≠ .ref j → S'.1[j]? = S.1[j]?) (hb : am_fs S' p = some (8, c_bl p (fun _ => 0))) (t1 : am_fs S' (p + 1) = some (3, [.ref (p + 2), .int 0])) (a1 : S'.1[p + 2]? = some (.inl (false, 32, fun _ => 0))) (t2 : am_fs S' (p + 3) = some (3, [.ref (p + 4), .int 0])) (a2 : S'.1[p + 4]? = some (.inl (false, 32, fun _ => 0)))
    (l1 : am_fs S' 6 = some (5, [.ref a', .int (s.f 6 1 + 1), .int mc'])) (l2 : S'.1[a']? = some (.inr (.inl (m', g')))) (l3 : m' ≤ 16777216) (l4 : (s.f 6 1 + 1).toInt = (s.f 6 1).toInt + 1) (l5 : (s.f 6 1).toInt + 1 ≤ m') (l6 : g' (s.f 6 1).toInt.toNat = some p) (l7 : ∀ i : Nat, (i : Int) < (s.f 6 1).toInt → g' i = some (A (i + 1))) (l8 : e6 = .ref a' ∨ p + 5 ≤ a') : CM (fun x => if x = K + 1 then p else A x) (K + 1) S' (bnew s (K + 1)) := by
  obtain ⟨e6', m6', e13, m13, k1, k2, k3, k4, k5, k6⟩ := h.li
  rw [g1] at k1
  cases k1
  have h94 := h.len
  have kk := h.kk
  have nob : ∀ j q, am_fs S j = some q → e6 ≠ .ref j := fun j q hq e => by
    rcases k3 with ⟨k3, -⟩ | ⟨a, m, g, k3, k7, -⟩
    · rw [k3] at e; cases e
    · rw [k3] at e
      cases e
      rw [am_fs_ok hq] at k7
      cases k7
  have nar : ∀ (j : Nat) (c : Bool × Nat × (Nat → Int32)), S.1[j]? = some (.inl c) → e6 ≠ .ref j := fun j c hq e => by
    rcases k3 with ⟨k3, -⟩ | ⟨a, m, g, k3, k7, -⟩
    · rw [k3] at e; cases e
    · rw [k3] at e
      cases e
      rw [hq] at k7
      cases k7
  have fsn : ∀ j q, am_fs S j = some q → j ≠ 6 → am_fs S' j = some q := fun j q hq hj => (fs_of (hs j (by rw [hp]; exact am_ltl (am_fs_ok hq)) hj (nob j q hq))).trans hq
  have c6 : ∀ (c : am_C), S.1[6]? = some c → c = .inr (.inr (5, [e6, .int (s.f 6 1), .int m6])) := fun c hc => by
    rw [am_fs_ok g1] at hc
    cases hc
    rfl
  have An : ∀ x, x ≤ K → (if x = K + 1 then p else A x) = A x := fun x hx => if_neg (by omega)
  have f13 : (bnew s (K + 1)).f 13 = s.f 13 := by show (nf s 6 1 (s.f 6 1 + 1)).f 13 = s.f 13; exact nf_ne (by decide)
  have f6 : (bnew s (K + 1)).f 6 1 = s.f 6 1 + 1 := by show (nf s 6 1 (s.f 6 1 + 1)).f 6 1 = s.f 6 1 + 1; exact nf_at
  have rn : ∀ t, cTl K t → (if t = .i (K + 1) ∨ t = .u (K + 1) then 0 else s.r t) = s.r t := fun t ht => if_neg (fun e => by
    rcases e with rfl | rfl
    · have : K + 1 ≤ K := ht
      omega
    · have : K + 1 ≤ K := ht
      omega)
  have tan : ∀ t, cTl K t → cTa (fun x => if x = K + 1 then p else A x) t = cTa A t := fun t ht => by
    rcases t with k | x | x
    · rfl
    · show (if x = K + 1 then p else A x) + 1 = A x + 1; rw [An x ht]
    · show (if x = K + 1 then p else A x) + 3 = A x + 3; rw [An x ht]
  have spl : ∀ t, cTl (K + 1) t → cTl K t ∨ t = .i (K + 1) ∨ t = .u (K + 1) := fun t ht => by
    rcases t with k | x | x
    · exact Or.inl ht
    ·
      have h1 : x ≤ K + 1 := ht
      rcases Nat.lt_or_ge K x with q | q
      · have : x = K + 1 := by omega
        exact Or.inr (Or.inl (by rw [this]))
      · exact Or.inl q
    ·
      have h1 : x ≤ K + 1 := ht
      rcases Nat.lt_or_ge K x with q | q
      · have : x = K + 1 := by omega
        exact Or.inr (Or.inr (by rw [this]))
      · exact Or.inl q
  have Bl : ∀ t, cTl K t → B t < p := fun t ht => by
    obtain ⟨k, g, q, -⟩ := h.ar t ht
    rw [hp]
    exact am_ltl q
  have Bo : ∀ t, cTl K t → (if t = .i (K + 1) then p + 2 else if t = .u (K + 1) then p + 4 else B t) = B t := fun t ht => by
    rw [if_neg, if_neg]
    · rintro rfl
      have : K + 1 ≤ K := ht
      omega
    · rintro rfl
      have : K + 1 ≤ K := ht
      omega
  have Bi : (if cT.i (K + 1) = .i (K + 1) then p + 2 else if cT.i (K + 1) = .u (K + 1) then p + 4 else B (cT.i (K + 1))) = p + 2 := if_pos rfl
  have Bu : (if cT.u (K + 1) = .i (K + 1) then p + 2 else if cT.u (K + 1) = .u (K + 1) then p + 4 else B (cT.u (K + 1))) = p + 4 := by
    rw [if_neg (by intro e; cases e), if_pos rfl]
  have pw : (32 : Nat) * 2 ^ 0 = 32 := rfl
  have e0 : (0 : Int32).toInt = 0 := rfl
  refine ⟨fun t => if t = .i (K + 1) then p + 2 else if t = .u (K + 1) then p + 4 else B t, by omega, fun k c hk => ?_, fun x hx => ?_, fun t ht => ?_, fun t ht => ?_, fun x hx => ?_, fun x y hx hy hxy => ?_, fun x hx => ?_, fun t t' ht ht' e => ?_, fun t ht => ?_, ?_, ?_, fun i hi => ?_, Nat.le_succ_of_le h.nl⟩
  · show am_fs S' k = some (c, c_fl k (if s.now = K + 1 then p else A s.now) ((nf s 6 1 (s.f 6 1 + 1)).f k))
    have hki := c_so_in hk
    rw [An _ h.nl, nf_ne (by omega)]
    exact fsn _ _ (h.so k c hk) (by omega)
  · show am_fs S' (if x = K + 1 then p else A x) = some (8, c_bl (if x = K + 1 then p else A x) (if x = K + 1 then (fun _ => 0) else s.b x))
    by_cases e : x = K + 1
    · rw [if_pos e, if_pos e]; exact hb
    · rw [if_neg e, if_neg e]
      exact fsn _ _ (h.bo x (by omega)) (by have := h.ai x (by omega); omega)
  · rcases spl t ht with q | rfl | rfl
    · show am_fs S' (cTa (fun x => if x = K + 1 then p else A x) t) = some (3, [.ref (if t = .i (K + 1) then p + 2 else if t = .u (K + 1) then p + 4 else B t), .int (if t = .i (K + 1) ∨ t = .u (K + 1) then 0 else s.r t)])
      rw [tan t q, Bo t q, rn t q]
      exact fsn _ _ (h.ta t q) (by have := ca_st h.ai q; simp only [List.mem_cons, List.not_mem_nil, or_false] at this; omega)
    · show am_fs S' ((if K + 1 = K + 1 then p else A (K + 1)) + 1) = some (3, [.ref (if cT.i (K + 1) = .i (K + 1) then p + 2 else if cT.i (K + 1) = .u (K + 1) then p + 4 else B (.i (K + 1))), .int (if cT.i (K + 1) = .i (K + 1) ∨ cT.i (K + 1) = .u (K + 1) then 0 else s.r (.i (K + 1)))])
      rw [if_pos rfl, Bi, if_pos (Or.inl rfl)]
      exact t1
    · show am_fs S' ((if K + 1 = K + 1 then p else A (K + 1)) + 3) = some (3, [.ref (if cT.u (K + 1) = .i (K + 1) then p + 2 else if cT.u (K + 1) = .u (K + 1) then p + 4 else B (.u (K + 1))), .int (if cT.u (K + 1) = .i (K + 1) ∨ cT.u (K + 1) = .u (K + 1) then 0 else s.r (.u (K + 1)))])
      rw [if_pos rfl, Bu, if_pos (Or.inr rfl)]
      exact t2
  · rcases spl t ht with q | rfl | rfl
    · obtain ⟨k, g, q1, q2, q3, q4, q5⟩ := h.ar t q
      refine ⟨k, g, ?_, q2, ?_, ?_, ?_⟩
      · show S'.1[if t = .i (K + 1) then p + 2 else if t = .u (K + 1) then p + 4 else B t]? = _
        rw [Bo t q, hs _ (Bl t q) (fun e => ?_) (nar _ _ q1)]
        · exact q1
        · rw [e] at q1
          have := c6 _ q1
          cases this
      · show 0 ≤ (if t = .i (K + 1) ∨ t = .u (K + 1) then 0 else s.r t).toInt
        rw [rn t q]; exact q3
      · show 4 * (if t = .i (K + 1) ∨ t = .u (K + 1) then 0 else s.r t).toInt ≤ _
        rw [rn t q]; exact q4
      · intro j hj
        have hj' : (j : Int) < 4 * (if t = .i (K + 1) ∨ t = .u (K + 1) then 0 else s.r t).toInt := hj
        rw [rn t q] at hj'
        exact q5 j hj'
    · have r0 : (bnew s (K + 1)).r (.i (K + 1)) = 0 := if_pos (Or.inl rfl)
      refine ⟨0, fun _ => 0, ?_, by decide, by rw [r0]; exact Int.le_refl _, by rw [r0]; decide, fun j hj => ?_⟩
      · show S'.1[if cT.i (K + 1) = .i (K + 1) then p + 2 else if cT.i (K + 1) = .u (K + 1) then p + 4 else B (.i (K + 1))]? = _
        rw [Bi]; exact a1
      · rw [r0, e0] at hj
        omega
    · have r0 : (bnew s (K + 1)).r (.u (K + 1)) = 0 := if_pos (Or.inr rfl)
      refine ⟨0, fun _ => 0, ?_, by decide, by rw [r0]; exact Int.le_refl _, by rw [r0]; decide, fun j hj => ?_⟩
      · show S'.1[if cT.u (K + 1) = .i (K + 1) then p + 2 else if cT.u (K + 1) = .u (K + 1) then p + 4 else B (.u (K + 1))]? = _
        rw [Bu]; exact a2
      · rw [r0, e0] at hj
        omega
  · show (if x = K + 1 then p else A x) = 18 ∨ (if x = K + 1 then p else A x) = 33 ∨ 94 ≤ (if x = K + 1 then p else A x)
    by_cases e : x = K + 1
    · rw [if_pos e]; omega
    · rw [if_neg e]; exact h.ai x (by omega)
  · show (if x = K + 1 then p else A x) + 5 ≤ (if y = K + 1 then p else A y) ∨ (if y = K + 1 then p else A y) + 5 ≤ (if x = K + 1 then p else A x)
    by_cases e : x = K + 1
    · have e2 : ¬ y = K + 1 := fun e2 => hxy (e.trans e2.symm)
      rw [if_pos e, if_neg e2]
      have := h.al y (by omega)
      omega
    · by_cases e2 : y = K + 1
      · rw [if_neg e, if_pos e2]
        have := h.al x (by omega)
        omega
      · rw [if_neg e, if_neg e2]
        exact h.aj x y (by omega) (by omega) hxy
  · show (if x = K + 1 then p else A x) + 5 ≤ S'.1.length
    by_cases e : x = K + 1
    · rw [if_pos e]; exact hl
    · rw [if_neg e]; have := h.al x (by omega); omega
  · have e' : (if t = .i (K + 1) then p + 2 else if t = .u (K + 1) then p + 4 else B t) = (if t' = .i (K + 1) then p + 2 else if t' = .u (K + 1) then p + 4 else B t') := e
    rcases spl t ht with q | rfl | rfl
    · rcases spl t' ht' with q' | rfl | rfl
      · rw [Bo t q, Bo t' q'] at e'
        exact h.bi t t' q q' e'
      · rw [Bo t q, Bi] at e'
        have := Bl t q
        omega
      · rw [Bo t q, Bu] at e'
        have := Bl t q
        omega
    · rcases spl t' ht' with q' | rfl | rfl
      · rw [Bo t' q', Bi] at e'
        have := Bl t' q'
        omega
      · rfl
      · rw [Bi, Bu] at e'
        omega
    · rcases spl t' ht' with q' | rfl | rfl
      · rw [Bo t' q', Bu] at e'
        have := Bl t' q'
        omega
      · rw [Bi, Bu] at e'
        omega
      · rfl
  · show (if t = .i (K + 1) then p + 2 else if t = .u (K + 1) then p + 4 else B t) < 39 ∨ 94 ≤ (if t = .i (K + 1) then p + 2 else if t = .u (K + 1) then p + 4 else B t)
    rcases spl t ht with q | rfl | rfl
    · rw [Bo t q]; exact h.bj t q
    · rw [Bi]; omega
    · rw [Bu]; omega
  · rw [f6, l4, kk]
    omega
  · refine ⟨.ref a', mc', e13, m13, ?_, ?_, Or.inr ⟨a', m', g', rfl, l2, by omega, l3, ?_, fun i hi => ?_⟩, ?_, ?_, fun a q1 q2 => ?_⟩
    · rw [f6]; exact l1
    · rw [f13]; exact fsn _ _ k2 (by decide)
    · rcases l8 with l8 | l8
      · rcases k3 with ⟨k3, -⟩ | ⟨a, m, g, k3, -, -, -, k7, -⟩
        · rw [k3] at l8; cases l8
        · rw [k3] at l8; cases l8; exact k7
      · exact Or.inr (Nat.le_trans (show 94 ≤ p + 5 by omega) l8)
    · show g' i = some (if i + 1 = K + 1 then p else A (i + 1))
      by_cases e : i = K
      · rw [if_pos (by omega), e]
        have : (s.f 6 1).toInt.toNat = K := by omega
        rw [this] at l6
        exact l6
      · rw [if_neg (by omega)]
        exact l7 i (by omega)
    · rw [f13]; exact k4
    · rw [f13]
      rcases k5 with k5 | ⟨a, m, g, q1, q2, q3, q4, q5, q6⟩
      · exact Or.inl k5
      · refine Or.inr ⟨a, m, g, q1, ?_, q3, q4, q5, fun i hi => ?_⟩
        · rw [hs a (by rw [hp]; exact am_ltl q2) (fun e => ?_) (fun e => k6 a e q1)]
          · exact q2
          · rw [e] at q2
            have := c6 _ q2
            cases this
        · show g i = some (if s.op i = K + 1 then p else A (s.op i))
          rw [An _ (h.ol i (by omega))]
          exact q6 i hi
    · cases q1
      rcases l8 with l8 | l8
      · exact k6 a' l8 q2
      · rcases k5 with ⟨k5, -⟩ | ⟨a, m, g, q3, q4, -⟩
        · rw [k5] at q2; cases q2
        · rw [q3] at q2
          have e9 : a = a' := by injection q2
          rw [e9] at q4
          have h9 := am_ltl q4
          rw [← hp] at h9
          omega
  · have hi' : (i : Int) < ((bnew s (K + 1)).f 13 1).toInt := hi
    rw [f13] at hi'
    exact Nat.le_succ_of_le (h.ol i hi')
end NEWB
