/-! BOTH SIDES SIDE BY SIDE: the start, words, compile, functions -/
section SBS
variable {L : List xR} {s s1 : cS} {k : kS} {A : Nat → Nat} {K : Nat} {S S1 S2 : am_S} {f' : Nat → Int32} {g' : Nat → Nat → Int32}
theorem st_lo {k : Nat} (h : k ∈ c_st) : k < 39 := by
  unfold c_st at h
  simp only [List.mem_cons, List.not_mem_nil, or_false] at h
  omega
/-- what the reference does leaves the class's memory as it is -/
theorem cm_ms (h : CM A K S1 s) (m : MS S1 S2 f' g') : CM A K S2 s := by
  obtain ⟨B, h⟩ := h
  have ax : ∀ x, x ≤ K → A x < 34 ∨ 94 ≤ A x := fun x hx => by
    rcases h.ai x hx with e | e | e <;> omega
  have axx : ∀ x, x ≤ K → ∀ d, d ≤ 4 → A x + d < 39 ∨ 94 ≤ A x + d := fun x hx d hd => by
    rcases h.ai x hx with e | e | e <;> omega
  refine ⟨B, by rw [m.2.2.2.1]; exact h.len, fun k c hk => ?_, fun x hx => ?_, fun t ht => ?_, fun t ht => ?_, h.ai, h.aj, fun x hx => by rw [m.2.2.2.1]; exact h.al x hx, h.bi, h.bj, h.kk, ?_, h.ol, h.nl⟩
  · have hk39 : k < 39 := by
      unfold c_so at hk
      simp only [List.mem_cons, List.not_mem_nil, or_false, Prod.mk.injEq] at hk
      omega
    rw [sm_fs m (Or.inl hk39)]
    exact h.so k c hk
  · have hax : A x < 39 ∨ 94 ≤ A x := axx x hx 0 (by decide)
    rw [sm_fs m hax]
    exact h.bo x hx
  · have hb : cTa A t < 39 ∨ 94 ≤ cTa A t := by
      match t, ht with
      | .inl k, ht => exact Or.inl (st_lo ht)
      | .inr (.inl x), ht => exact axx x ht 1 (by decide)
      | .inr (.inr x), ht => exact axx x ht 3 (by decide)
    rw [sm_fs m hb]
    exact h.ta t ht
  · obtain ⟨k, g, q1, q2⟩ := h.ar t ht
    exact ⟨k, g, by rw [m.2.2.2.2 _ (h.bj t ht)]; exact q1, q2⟩
  · obtain ⟨e6, m6, e13, m13, q1, q2, q3, q4, q5, q6⟩ := h.li
    have li : ∀ {ed : Value} {n : Nat} {φ : Nat → Nat}, c_li S1 A ed n φ → c_li S2 A ed n φ := by
      rintro ed n φ (z | ⟨a, m', g, z1, z2, z3, z4, z5, z6⟩)
      · exact Or.inl z
      · exact Or.inr ⟨a, m', g, z1, by rw [m.2.2.2.2 _ z5]; exact z2, z3, z4, z5, z6⟩
    exact ⟨e6, m6, e13, m13, by rw [sm_fs m (Or.inl (by decide))]; exact q1, by rw [sm_fs m (Or.inl (by decide))]; exact q2, li q3, q4, li q5, q6⟩
/-- the class's memory behind its constructor -/
def a0A (x : Nat) : Nat := if x = 0 then 18 else 33
noncomputable def s0C (S : am_S) : cS := (fun k j => if k = 5 then (if j = 1 then 1 else 0) else if k = 6 then (if j = 1 then 1 else 0) else 0, fun x j => if x = 1 then (if j = 3 then -1 else if j = 5 then 1 else if j = 8 then -1 else 0) else 0, fun t => if t = .i 1 then 1 else 0, fun t => am_arf S (cTa a0A t + 1), 0, fun _ => 0)
theorem cm_start (hl : S.1.length = 39) (hF : ∀ k, k < 39 → am_fs S k = st_F k) (hA : ∀ k, k < 39 → am_arq S k = st_A k) (hR : ∀ k, k < 39 → am_rar S k = st_R k) (hG0 : am_rrf S 38 0 = some 33) : CM a0A 1 (nm_S S) (s0C S) := by
  have fs : ∀ k, k < 39 → am_fs (nm_S S) k = st_F k := fun k hk => by
    rw [← hF k hk]
    unfold am_fs
    rw [nm_lt hl hk]
  have lt1 : ∀ x : Nat, x ≤ 1 → x = 0 ∨ x = 1 := fun x hx => by omega
  refine ⟨fun t => cTa a0A t + 1, by rw [nm_len hl]; decide, fun k c hk => ?_, fun x hx => ?_, fun t ht => ?_, fun t ht => ?_, fun x hx => ?_, fun x y hx hy hxy => ?_, fun x hx => ?_, fun t t' ht ht' he => ?_, fun t ht => ?_, rfl, ?_, fun i hi => ?_, Nat.zero_le _⟩
  · have hk39 : k < 39 := by
      unfold c_so at hk
      simp only [List.mem_cons, List.not_mem_nil, or_false, Prod.mk.injEq] at hk
      omega
    rw [fs k hk39]
    unfold c_so at hk
    simp only [List.mem_cons, List.not_mem_nil, or_false, Prod.mk.injEq] at hk
    rcases hk with ⟨rfl, rfl⟩ | ⟨rfl, rfl⟩ | ⟨rfl, rfl⟩ | ⟨rfl, rfl⟩ | ⟨rfl, rfl⟩ | ⟨rfl, rfl⟩ | ⟨rfl, rfl⟩ | ⟨rfl, rfl⟩ <;> rfl
  · rcases lt1 x hx with rfl | rfl
    · exact (fs 18 (by decide)).trans rfl
    · exact (fs 33 (by decide)).trans rfl
  · match t, ht with
    | .inl k, ht =>
      unfold cTl c_st at ht
      simp only [List.mem_cons, List.not_mem_nil, or_false] at ht
      rcases ht with rfl | rfl | rfl | rfl | rfl | rfl | rfl | rfl | rfl <;> exact (fs _ (by decide)).trans rfl
    | .inr (.inl x), ht =>
      rcases lt1 x ht with rfl | rfl
      · exact (fs 19 (by decide)).trans rfl
      · exact (fs 34 (by decide)).trans rfl
    | .inr (.inr x), ht =>
      rcases lt1 x ht with rfl | rfl
      · exact (fs 21 (by decide)).trans rfl
      · exact (fs 36 (by decide)).trans rfl
  · have key : ∀ a, a < 39 → st_A a = some (false, 32) → (nm_S S).1[a]? = some (.inl (false, 32 * 2 ^ 0, am_arf S a)) := fun a ha he => by
      rw [nm_lt hl ha]
      exact am_arq_ok ((hA a ha).trans he)
    refine ⟨0, am_arf S (cTa a0A t + 1), ?_, Nat.zero_le _, ?_, ?_, fun j _ => rfl⟩
    · match t, ht with
      | .inl k, ht =>
        unfold cTl c_st at ht
        simp only [List.mem_cons, List.not_mem_nil, or_false] at ht
        rcases ht with rfl | rfl | rfl | rfl | rfl | rfl | rfl | rfl | rfl <;> exact key _ (by decide) rfl
      | .inr (.inl x), ht =>
        rcases lt1 x ht with rfl | rfl
        · exact key 20 (by decide) rfl
        · exact key 35 (by decide) rfl
      | .inr (.inr x), ht =>
        rcases lt1 x ht with rfl | rfl
        · exact key 22 (by decide) rfl
        · exact key 37 (by decide) rfl
    · show 0 ≤ (if t = .i 1 then (1 : Int32) else 0).toInt
      split <;> decide
    · show 4 * (if t = .i 1 then (1 : Int32) else 0).toInt ≤ _
      split <;> decide
  · rcases lt1 x hx with rfl | rfl
    · exact Or.inl rfl
    · exact Or.inr (Or.inl rfl)
  · rcases lt1 x hx with rfl | rfl <;> rcases lt1 y hy with rfl | rfl
    · exact absurd rfl hxy
    · left; decide
    · right; decide
    · exact absurd rfl hxy
  · rw [nm_len hl]
    rcases lt1 x hx with rfl | rfl <;> decide
  · have inj : cTa a0A t = cTa a0A t' := Nat.add_right_cancel he
    match t, t', ht, ht' with
    | .inl k, .inl k', ht, ht' => exact congrArg Sum.inl inj
    | .inl k, .inr (.inl x), ht, ht' =>
      have h1 : k = a0A x + 1 := inj
      unfold cTl c_st at ht
      simp only [List.mem_cons, List.not_mem_nil, or_false] at ht
      rcases lt1 x ht' with rfl | rfl
      · have : a0A 0 = 18 := rfl
        omega
      · have : a0A 1 = 33 := rfl
        omega
    | .inl k, .inr (.inr x), ht, ht' =>
      have h1 : k = a0A x + 3 := inj
      unfold cTl c_st at ht
      simp only [List.mem_cons, List.not_mem_nil, or_false] at ht
      rcases lt1 x ht' with rfl | rfl
      · have : a0A 0 = 18 := rfl
        omega
      · have : a0A 1 = 33 := rfl
        omega
    | .inr (.inl x), .inl k, ht, ht' =>
      have h1 : a0A x + 1 = k := inj
      unfold cTl c_st at ht'
      simp only [List.mem_cons, List.not_mem_nil, or_false] at ht'
      rcases lt1 x ht with rfl | rfl
      · have : a0A 0 = 18 := rfl
        omega
      · have : a0A 1 = 33 := rfl
        omega
    | .inr (.inr x), .inl k, ht, ht' =>
      have h1 : a0A x + 3 = k := inj
      unfold cTl c_st at ht'
      simp only [List.mem_cons, List.not_mem_nil, or_false] at ht'
      rcases lt1 x ht with rfl | rfl
      · have : a0A 0 = 18 := rfl
        omega
      · have : a0A 1 = 33 := rfl
        omega
    | .inr (.inl x), .inr (.inl y), ht, ht' =>
      have h1 : a0A x + 1 = a0A y + 1 := inj
      rcases lt1 x ht with rfl | rfl <;> rcases lt1 y ht' with rfl | rfl
      · rfl
      · exact absurd h1 (by decide)
      · exact absurd h1 (by decide)
      · rfl
    | .inr (.inl x), .inr (.inr y), ht, ht' =>
      have h1 : a0A x + 1 = a0A y + 3 := inj
      rcases lt1 x ht with rfl | rfl <;> rcases lt1 y ht' with rfl | rfl <;> exact absurd h1 (by decide)
    | .inr (.inr x), .inr (.inl y), ht, ht' =>
      have h1 : a0A x + 3 = a0A y + 1 := inj
      rcases lt1 x ht with rfl | rfl <;> rcases lt1 y ht' with rfl | rfl <;> exact absurd h1 (by decide)
    | .inr (.inr x), .inr (.inr y), ht, ht' =>
      have h1 : a0A x + 3 = a0A y + 3 := inj
      rcases lt1 x ht with rfl | rfl <;> rcases lt1 y ht' with rfl | rfl
      · rfl
      · exact absurd h1 (by decide)
      · exact absurd h1 (by decide)
      · rfl
  · left
    match t, ht with
    | .inl k, ht =>
      have : k < 39 := st_lo ht
      unfold cTl c_st at ht
      simp only [List.mem_cons, List.not_mem_nil, or_false] at ht
      show k + 1 < 39
      omega
    | .inr (.inl x), ht => rcases lt1 x ht with rfl | rfl <;> decide
    | .inr (.inr x), ht => rcases lt1 x ht with rfl | rfl <;> decide
  · refine ⟨.ref 38, 1, .long 0, 0, (fs 6 (by decide)).trans rfl, (fs 13 (by decide)).trans rfl, Or.inr ⟨38, 10, am_rrf S 38, rfl, ?_, by decide, by decide, Or.inl (by decide), fun i hi => ?_⟩, (show (0 : Int) ≤ (0 : Int32).toInt from by decide), Or.inl ⟨rfl, rfl⟩, fun a _ e => nomatch e⟩
    · rw [nm_lt hl (by decide)]
      exact am_rar_ok (hR 38 (by decide))
    · obtain rfl : i = 0 := by omega
      exact hG0
  · exact Nat.zero_le _
/-- a word is given to both -/
theorem OJ.same {s' : cS} {k' : kS} (h : OJ s k) (hu : ∀ x, s'.r (.u x) = s.r (.u x) ∧ s'.c (.u x) = s.c (.u x)) (h6 : s'.f 6 1 = s.f 6 1) (e53 : k'.1 53 = k.1 53) (e62 : k'.1 62 = k.1 62) (ea : ∀ j, j = 63 ∨ j = 64 ∨ j = 65 ∨ j = 66 ∨ j = 67 → k'.2 j = k.2 j) : OJ s' k' := by
  obtain ⟨⟨E, N, o1, o2, o3, o4, o5, o6, o7⟩, on⟩ := h
  refine ⟨⟨E, N, e53.trans o1, o2, by rw [h6]; exact o3, o4, o5, fun z => ⟨e62.trans (o6 z).1, fun i q hq => ?_⟩, fun x hx => ⟨(o7 x hx).1.same (hu _).1 (hu _).2, by rw [ea 67 (by decide)]; exact (o7 x hx).2⟩⟩, fun x => by rw [(hu x).1]; exact on x⟩
  rw [ea 63 (by decide), ea 64 (by decide), ea 65 (by decide), ea 66 (by decide)]
  exact (o6 z).2 i q hq
theorem FJ.same {s' : cS} {k' : kS} (h : FJ s k) (hb : ∀ x j, s'.b x j = s.b x j) (hi : ∀ x, s'.r (.i x) = s.r (.i x)) (e53 : k'.1 53 = k.1 53) (ea : ∀ j, 54 ≤ j → j ≤ 60 → k'.2 j = k.2 j) : FJ s' k' := by
  refine ⟨fun x hx => ?_, fun x => by rw [hi]; exact h.2 x⟩
  rw [e53] at hx
  rw [hb, hb, hb, hb, hb, hb, hi, ea 54 (by decide) (by decide), ea 55 (by decide) (by decide), ea 56 (by decide) (by decide), ea 57 (by decide) (by decide), ea 58 (by decide) (by decide), ea 59 (by decide) (by decide), ea 60 (by decide) (by decide)]
  exact h.1 x hx
theorem CK.same {s' : cS} {k' : kS} (h : CK s k) (hr : ∀ x, s'.r (.i x) = s.r (.i x)) (hc : ∀ x, s'.c (.i x) = s.c (.i x)) (e53 : k'.1 53 = k.1 53) (ea : ∀ j, j = 60 ∨ j = 61 ∨ j = 70 ∨ j = 71 ∨ j = 72 ∨ j = 73 ∨ j = 74 → k'.2 j = k.2 j) : CK s' k' := by
  intro x hx
  rw [e53] at hx
  obtain ⟨U, B, u1, u2, u3, u4, u5, u6⟩ := h x hx
  refine ⟨U, B, ⟨u1.1.same (hr _) (hc _), u1.2⟩, u2, u3, by rw [ea 60 (by decide)]; exact u4, by rw [ea 61 (by decide)]; exact u5, fun i u hu => ?_⟩
  obtain ⟨g, g1, g2, g3⟩ := u6 i u hu
  refine ⟨g, g1, by rw [ea 74 (by decide)]; exact g2, ?_⟩
  rw [← g3]
  unfold kR
  rw [ea 70 (by decide), ea 71 (by decide), ea 72 (by decide), ea 73 (by decide)]
theorem B2.same {s' : cS} {k' : kS} (h : B2 s k) (hb : ∀ x j, s'.b x j = s.b x j) (e53 : k'.1 53 = k.1 53) : B2 s' k' := fun x hx => by
  rw [hb]
  exact h x (by rw [← e53]; exact hx)
theorem MB.same {k' : kS} (h : MB k) (e53 : k'.1 53 = k.1 53) (e58 : k'.2 58 = k.2 58) : MB k' := fun x hx => by
  rw [e58]
  exact h x (by rw [← e53]; exact hx)
theorem ji_word {x1 x2 : Int32} (hJ : JI L s k) : ∃ L', L'.length ≤ L.length + 1 ∧ JI L' (c33 s x1 x2).1 (k174 k x1 x2).1 := by
  obtain ⟨⟨j1, j2, j3⟩, ⟨j4, j5⟩, j6, j7⟩ := hJ
  have er : s.r (.s 3) = xn L.length := xn_eq j1.1 (by omega)
  have hv : (c34 s x1 = 1 ∧ k174 k x1 x2 = k174_34 k x1 x2 ∧ x1 ≠ 0 ∧ x1 ≠ -1) ∨ (c34 s x1 = 0 ∧ k174 k x1 x2 = k174_38 k x1 x2) := by
    have big : ∀ {y : Int32}, 1 ≤ y.toInt → y ≠ 0 ∧ y ≠ -1 := fun {y} hy => ⟨fun z => by rw [z] at hy; exact absurd hy (by decide), fun z => by rw [z] at hy; exact absurd hy (by decide)⟩
    have i1 : (1 : Int32).toInt = 1 := rfl
    have i10 : (10 : Int32).toInt = 10 := rfl
    have i40 : (40 : Int32).toInt = 40 := rfl
    have k22 : (c34_22 s x1 = 1 ∧ k174_22 k x1 x2 = k174_34 k x1 x2 ∧ x1 ≠ 0 ∧ x1 ≠ -1) ∨ (c34_22 s x1 = 0 ∧ k174_22 k x1 x2 = k174_38 k x1 x2) := by
      unfold c34_22 k174_22
      by_cases c1 : x1 < 40
      · rw [if_pos c1, if_pos c1]
        exact Or.inr ⟨rfl, rfl⟩
      · rw [if_neg c1, if_neg c1]
        by_cases c2 : 72 < x1
        · rw [if_pos c2, if_pos c2]
          exact Or.inr ⟨rfl, rfl⟩
        · rw [if_neg c2, if_neg c2]
          exact Or.inl ⟨rfl, rfl, big (by rw [i_lt] at c1; omega)⟩
    have k10 : (c34_10 s x1 = 1 ∧ k174_10 k x1 x2 = k174_34 k x1 x2 ∧ x1 ≠ 0 ∧ x1 ≠ -1) ∨ (c34_10 s x1 = 0 ∧ k174_10 k x1 x2 = k174_38 k x1 x2) := by
      unfold c34_10 k174_10
      by_cases c1 : x1 < 10
      · rw [if_pos c1, if_pos c1]
        exact k22
      · rw [if_neg c1, if_neg c1]
        by_cases c2 : x1 ≤ 31
        · rw [if_pos c2, if_pos c2]
          exact Or.inl ⟨rfl, rfl, big (by rw [i_lt] at c1; omega)⟩
        · rw [if_neg c2, if_neg c2]
          exact k22
    unfold c34 k174
    by_cases c1 : x1 < 1
    · rw [if_pos c1, if_pos c1]
      exact k10
    · rw [if_neg c1, if_neg c1]
      by_cases c2 : x1 ≤ 3
      · rw [if_pos c2, if_pos c2]
        exact Or.inl ⟨rfl, rfl, big (by rw [i_lt] at c1; omega)⟩
      · rw [if_neg c2, if_neg c2]
        exact k10
  unfold c33
  rcases hv with ⟨v1, v2, v3, v4⟩ | ⟨v1, v2⟩
  · rw [if_pos (by rw [v1]; decide), v2]
    unfold k174_34 k174_39
    rw [if_pos (show (1 : Int32) ≠ 0 from by decide)]
    have e16 : (16384 : Int32).toInt = 16384 := rfl
    by_cases c : L.length = 16384
    · rw [if_neg (by show ¬ s.r (.s 3) < 16384; rw [er, i_lt, xn_i (by omega), e16]; omega), if_neg (fun z => z (by rw [j4, c]; rfl))]
      exact ⟨L, Nat.le_succ _, ⟨j1, j2, j3⟩, ⟨j4, j5⟩, j6, j7⟩
    · rw [if_pos (by show s.r (.s 3) < 16384; rw [er, i_lt, xn_i (by omega), e16]; omega), if_pos (fun z => c (by
        have := congrArg Int32.toInt (j4.symm.trans z)
        rw [xn_i (by omega), e16] at this
        omega))]
      obtain ⟨t1, t2⟩ := j1.add (a := x1) (b := x2) (c := 0) (d := 0) (by omega)
      have fc : cFr 0 8 0 0 s (tad s (.s 3) x1 x2 0 0).1 := cFr.refl.tads rfl
      have ix : (k.1 0).toNatClampNeg = L.length := by rw [j4]; exact xn_nat (by omega)
      refine ⟨L ++ [(x1, x2, 0, 0)], by rw [List.length_append]; exact Nat.le_refl _, ⟨t1, by rw [List.length_append]; show L.length + 1 ≤ 16384; omega, fun q hq => ?_⟩, ⟨?_, fun i q hq => ?_⟩, (fc.1 5 1 (by decide) (Nat.zero_testBit _)).trans j6, j7.1.same (fc.ou (Nat.zero_testBit _)) (fc.1 6 1 (by decide) (Nat.zero_testBit _)) rfl rfl (fun j hj => by rcases hj with rfl | rfl | rfl | rfl | rfl <;> rfl), j7.2.1.same (fun x j => fc.2.2.1 x j (Nat.zero_testBit _)) (fc.nr (Nat.zero_testBit _)) rfl (fun j h1 h2 => by rcases (by omega : j = 54 ∨ j = 55 ∨ j = 56 ∨ j = 57 ∨ j = 58 ∨ j = 59 ∨ j = 60) with rfl | rfl | rfl | rfl | rfl | rfl | rfl <;> rfl), j7.2.2.1.same (fc.nr (Nat.zero_testBit _)) (fun x => fc.2.2.2.2.2.1 (Nat.zero_testBit _) x) rfl (fun j hj => by rcases hj with rfl | rfl | rfl | rfl | rfl | rfl | rfl <;> rfl), j7.2.2.2.1.same (fun x j => fc.2.2.1 x j (Nat.zero_testBit _)) rfl, j7.2.2.2.2.same rfl rfl⟩
      · rcases List.mem_append.mp hq with h | h
        · exact j3 q h
        · rw [List.mem_singleton.mp h]
          exact ⟨v3, v4⟩
      · show k.1 0 + 1 = _
        rw [j4, xn_succ (by omega), List.length_append]
        rfl
      · show upd (k.2 1) (k.1 0).toNatClampNeg x1 i = q.1 ∧ upd (k.2 2) (k.1 0).toNatClampNeg x2 i = q.2.1
        rw [ix]
        unfold upd
        rcases Nat.lt_trichotomy i L.length with hi | hi | hi
        · rw [List.getElem?_append_left hi] at hq
          rw [if_neg (by omega), if_neg (by omega)]
          exact j5 i q hq
        · subst hi
          rw [List.getElem?_append_right (Nat.le_refl _), Nat.sub_self] at hq
          cases hq
          exact ⟨if_pos rfl, if_pos rfl⟩
        · rw [List.getElem?_eq_none (by rw [List.length_append]; show L.length + 1 ≤ i; omega)] at hq
          cases hq
  · rw [if_neg (fun z => z v1), v2]
    exact ⟨L, Nat.le_succ _, ⟨j1, j2, j3⟩, ⟨j4, j5⟩, j6, j7⟩
end SBS
