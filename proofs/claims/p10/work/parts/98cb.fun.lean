/-! FUNCTION: what both answer -/
theorem l15n {P : am_P} {N d M pc a b c nx : Nat} {x : Int32} {tab : List (Int32 × Nat)} {ls : am_V} {st : List Value} {S : am_S} {Q : Option (Option Value) → am_S → Prop} (hi : P.1 M pc = some (15, a, b, c, x, nx, tab)) (k : am_L P N d M nx ls st S Q) : am_L P N d M pc ls (.null :: st) S Q := l_eq hi (by decide) rfl k
theorem l15r {P : am_P} {N d M pc a b c nx v : Nat} {x : Int32} {tab : List (Int32 × Nat)} {ls : am_V} {st : List Value} {S : am_S} {Q : Option (Option Value) → am_S → Prop} (hi : P.1 M pc = some (15, a, b, c, x, nx, tab)) (k : am_L P N d M b ls st S Q) : am_L P N d M pc ls (.ref v :: st) S Q := l_eq hi (by decide) rfl k
section FUQ
variable {sc : Nat × (Nat → Int32)} {N d : Nat} {A : Nat → Nat} {K : Nat} {S : am_S} {s : cS} {x1 x2 : Int32}
def c158 (s : cS) (x1 x2 : Int32) : Int32 := if ¬ c159 s x1 then -1 else if x2 = 0 then s.b (x1.toInt.toNat + 1) 3 else if x2 = 1 then s.b (x1.toInt.toNat + 1) 4 else if x2 = 2 then s.b (x1.toInt.toNat + 1) 5 else if x2 = 3 then s.b (x1.toInt.toNat + 1) 6 else if x2 = 4 then s.b (x1.toInt.toNat + 1) 7 else if x2 = 5 then s.r (.u (x1.toInt.toNat + 1)) else if x2 = 6 then s.r (.i (x1.toInt.toNat + 1)) else if x2 = 7 then s.b (x1.toInt.toNat + 1) 8 else -1
theorem lc158 (hS : CM A K S s) : am_L (am_PP sc) N d 158 0 [some (.ref 0), some (.int x1), some (.int x2), none] [] S (fun o S1 => o = some (some (.int (c158 s x1 x2))) ∧ CM A K S1 s) := by
  refine l2 (v := 0) hi_158_0 rfl ?_
  refine l20s (v := .ref 5) hS cs_0 hi_158_1 rfl ?_
  refine l1 (v := x1) hi_158_4 rfl ?_
  refine l32 (as := [.ref 5, .int x1]) (la := [some (.ref 5), some (.int x1)]) (rest := []) hi_158_5 (am_hd0 (M := 158) (by decide) 5) rfl rfl rfl (fun N' d' _ => lc159 (N := N') (d := d') (x1 := x1) hS) ?_ (fun _ q => by rcases q.2 with z | z <;> exact nomatch z.2)
  rintro v3 S1 ⟨h2, (⟨g1, hk, ev3⟩ | ⟨g1, ev3⟩)⟩
  · cases ev3
    have hu : cTl K (.u (x1.toInt.toNat + 1)) := hk
    have hi' : cTl K (.i (x1.toInt.toNat + 1)) := hk
    show am_L _ _ _ _ _ [some (.ref 0), some (.int x1), some (.int x2), none] [.ref (A (x1.toInt.toNat + 1))] _ _
    refine l4 (ls' := [some (.ref 0), some (.int x1), some (.int x2), some (.ref (A (x1.toInt.toNat + 1)))]) hi_158_8 (Nat.le_of_ble_eq_true rfl) rfl ?_
    refine l2 (v := A (x1.toInt.toNat + 1)) hi_158_9 rfl ?_
    refine l15r hi_158_10 ?_
    refine l1 (v := x2) hi_158_15 rfl ?_
    by_cases c0 : x2 = 0
    · refine l19 (t := 64) hi_158_16 (by rw [c0]; decide) ?_
      refine l2 (v := A (x1.toInt.toNat + 1)) hi_158_64 rfl ?_
      refine l20b (y := x1.toInt.toNat + 1) (v := .int (s.b (x1.toInt.toNat + 1) 3)) h2 hk hi_158_65 rfl ?_
      exact l33 hi_158_68 ⟨by unfold c158; rw [if_neg (fun z => z g1), if_pos c0], h2⟩
    by_cases c1 : x2 = 1
    · refine l19 (t := 69) hi_158_16 (by rw [c1]; decide) ?_
      refine l2 (v := A (x1.toInt.toNat + 1)) hi_158_69 rfl ?_
      refine l20b (y := x1.toInt.toNat + 1) (v := .int (s.b (x1.toInt.toNat + 1) 4)) h2 hk hi_158_70 rfl ?_
      exact l33 hi_158_73 ⟨by unfold c158; rw [if_neg (fun z => z g1), if_neg c0, if_pos c1], h2⟩
    by_cases c2 : x2 = 2
    · refine l19 (t := 74) hi_158_16 (by rw [c2]; decide) ?_
      refine l2 (v := A (x1.toInt.toNat + 1)) hi_158_74 rfl ?_
      refine l20b (y := x1.toInt.toNat + 1) (v := .int (s.b (x1.toInt.toNat + 1) 5)) h2 hk hi_158_75 rfl ?_
      exact l33 hi_158_78 ⟨by unfold c158; rw [if_neg (fun z => z g1), if_neg c0, if_neg c1, if_pos c2], h2⟩
    by_cases c3 : x2 = 3
    · refine l19 (t := 79) hi_158_16 (by rw [c3]; decide) ?_
      refine l2 (v := A (x1.toInt.toNat + 1)) hi_158_79 rfl ?_
      refine l20b (y := x1.toInt.toNat + 1) (v := .int (s.b (x1.toInt.toNat + 1) 6)) h2 hk hi_158_80 rfl ?_
      exact l33 hi_158_83 ⟨by unfold c158; rw [if_neg (fun z => z g1), if_neg c0, if_neg c1, if_neg c2, if_pos c3], h2⟩
    by_cases c4 : x2 = 4
    · refine l19 (t := 84) hi_158_16 (by rw [c4]; decide) ?_
      refine l2 (v := A (x1.toInt.toNat + 1)) hi_158_84 rfl ?_
      refine l20b (y := x1.toInt.toNat + 1) (v := .int (s.b (x1.toInt.toNat + 1) 7)) h2 hk hi_158_85 rfl ?_
      exact l33 hi_158_88 ⟨by unfold c158; rw [if_neg (fun z => z g1), if_neg c0, if_neg c1, if_neg c2, if_neg c3, if_pos c4], h2⟩
    by_cases c5 : x2 = 5
    · refine l19 (t := 89) hi_158_16 (by rw [c5]; decide) ?_
      refine l2 (v := A (x1.toInt.toNat + 1)) hi_158_89 rfl ?_
      refine l20b (y := x1.toInt.toNat + 1) (v := .ref (cTa A (.u (x1.toInt.toNat + 1)))) h2 hk hi_158_90 rfl ?_
      refine l32 (as := [.ref (cTa A (.u (x1.toInt.toNat + 1)))]) (la := [some (.ref (cTa A (.u (x1.toInt.toNat + 1))))]) (rest := []) hi_158_93 (am_hd0 (M := 158) (by decide) 93) rfl rfl rfl (fun N' d' _ => lc36 (N := N') (d := d') h2 hu) ?_ (fun _ q => nomatch q.1)
      rintro v4 S2 ⟨ev4, h3⟩
      cases ev4
      show am_L _ _ _ _ _ [some (.ref 0), some (.int x1), some (.int x2), some (.ref (A (x1.toInt.toNat + 1)))] [.int (s.r (.u (x1.toInt.toNat + 1)))] _ _
      exact l33 hi_158_96 ⟨by unfold c158; rw [if_neg (fun z => z g1), if_neg c0, if_neg c1, if_neg c2, if_neg c3, if_neg c4, if_pos c5], h3⟩
    by_cases c6 : x2 = 6
    · refine l19 (t := 97) hi_158_16 (by rw [c6]; decide) ?_
      refine l2 (v := A (x1.toInt.toNat + 1)) hi_158_97 rfl ?_
      refine l20b (y := x1.toInt.toNat + 1) (v := .ref (cTa A (.i (x1.toInt.toNat + 1)))) h2 hk hi_158_98 rfl ?_
      refine l32 (as := [.ref (cTa A (.i (x1.toInt.toNat + 1)))]) (la := [some (.ref (cTa A (.i (x1.toInt.toNat + 1))))]) (rest := []) hi_158_101 (am_hd0 (M := 158) (by decide) 101) rfl rfl rfl (fun N' d' _ => lc36 (N := N') (d := d') h2 hi') ?_ (fun _ q => nomatch q.1)
      rintro v4 S2 ⟨ev4, h3⟩
      cases ev4
      show am_L _ _ _ _ _ [some (.ref 0), some (.int x1), some (.int x2), some (.ref (A (x1.toInt.toNat + 1)))] [.int (s.r (.i (x1.toInt.toNat + 1)))] _ _
      exact l33 hi_158_104 ⟨by unfold c158; rw [if_neg (fun z => z g1), if_neg c0, if_neg c1, if_neg c2, if_neg c3, if_neg c4, if_neg c5, if_pos c6], h3⟩
    by_cases c7 : x2 = 7
    · refine l19 (t := 105) hi_158_16 (by rw [c7]; decide) ?_
      refine l2 (v := A (x1.toInt.toNat + 1)) hi_158_105 rfl ?_
      refine l20b (y := x1.toInt.toNat + 1) (v := .int (s.b (x1.toInt.toNat + 1) 8)) h2 hk hi_158_106 rfl ?_
      exact l33 hi_158_109 ⟨by unfold c158; rw [if_neg (fun z => z g1), if_neg c0, if_neg c1, if_neg c2, if_neg c3, if_neg c4, if_neg c5, if_neg c6, if_pos c7], h2⟩
    refine l19 (t := 110) hi_158_16 (sw_not (ks := [0, 1, 2, 3, 4, 5, 6, 7]) (by decide) (by intro k hk; simp only [List.mem_cons, List.not_mem_nil, or_false] at hk; rcases hk with rfl | rfl | rfl | rfl | rfl | rfl | rfl | rfl <;> first | exact c0 | exact c1 | exact c2 | exact c3 | exact c4 | exact c5 | exact c6 | exact c7)) ?_
    refine l0 hi_158_110 ?_
    exact l33 hi_158_111 ⟨by unfold c158; rw [if_neg (fun z => z g1), if_neg c0, if_neg c1, if_neg c2, if_neg c3, if_neg c4, if_neg c5, if_neg c6, if_neg c7], h2⟩
  · cases ev3
    show am_L _ _ _ _ _ [some (.ref 0), some (.int x1), some (.int x2), none] [.null] _ _
    refine l4n (ls' := [some (.ref 0), some (.int x1), some (.int x2), some .null]) hi_158_8 (Nat.le_of_ble_eq_true rfl) rfl ?_
    refine l2n hi_158_9 rfl ?_
    refine l15n hi_158_10 ?_
    refine l0 hi_158_13 ?_
    exact l33 hi_158_14 ⟨by unfold c158; rw [if_pos g1], h2⟩
/-- what a function says of itself, between two calls -/
def FK (s : cS) (k : kS) : Prop := ∀ x : Nat, (x : Int) < (k.1 53).toInt → s.b (x + 1) 3 = k.2 54 x ∧ s.b (x + 1) 4 = k.2 55 x ∧ s.b (x + 1) 5 = k.2 56 x ∧ s.b (x + 1) 6 = k.2 57 x ∧ s.b (x + 1) 7 = k.2 58 x ∧ s.b (x + 1) 8 = k.2 59 x ∧ s.r (.i (x + 1)) = k.2 60 x
def FJ (s : cS) (k : kS) : Prop := FK s k ∧ ∀ x, 0 ≤ (s.r (.i x)).toInt
theorem fun_eq {k : kS} (h : OK s k) (hf : FK s k) (h5 : s.f 5 1 = k.1 53) : c158 s x1 x2 = k269 k x1 x2 := by
  obtain ⟨E, N, o1, o2, o3, o4, o5, o6, o7⟩ := h
  have z0 : (0 : Int32).toInt = 0 := rfl
  have iN : (k.1 53).toInt = N := by rw [o1, xn_i (by omega)]
  have k270e : k270 k x1 ≠ 0 ↔ c159 s x1 := by
    unfold k270 c159
    rw [h5]
    by_cases c1 : x1 < 0
    · rw [if_pos c1]
      exact ⟨fun z => absurd rfl z, fun z => absurd c1 z.1⟩
    · rw [if_neg c1]
      by_cases c2 : k.1 53 ≤ x1
      · rw [if_pos c2]
        exact ⟨fun z => absurd rfl z, fun z => absurd c2 z.2.1⟩
      · rw [if_neg c2]
        refine ⟨fun _ => ⟨c1, c2, ?_⟩, fun _ => by decide⟩
        rw [i_le] at c2 ⊢
        omega
  unfold c158 k269
  by_cases g1 : c159 s x1
  · rw [if_neg (fun z => z g1), if_pos (k270e.mpr g1)]
    obtain ⟨g2, g3, g4⟩ := g1
    rw [h5, i_le] at g3
    rw [i_lt] at g2
    obtain ⟨n, hn⟩ : ∃ n : Nat, x1.toInt = n := ⟨x1.toInt.toNat, by omega⟩
    have ex : x1 = xn n := xn_eq hn (by omega)
    have hnN : n < N := by omega
    have en : x1.toInt.toNat = n := by omega
    obtain ⟨t1, t2⟩ := o7 n hnN
    obtain ⟨f1, f2, f3, f4, f5, f6, f7⟩ := hf n (by omega)
    have hlo : (oo E n).length ≤ 1000000 := by have := oo_len (E := E) (n := n); omega
    have lm : ((oo E n).map (fun q => ((q.2.1, q.2.2, 0, 0) : xR))).length = (oo E n).length := List.length_map _
    have er : s.r (.u (n + 1)) = xn (oo E n).length := xn_eq (by rw [t1.1, lm]) (by omega)
    have ek : ∀ j, kr k j x1 = k.2 j n := fun j => by
      rw [ex]
      show k.2 j (xn n).toNatClampNeg = _
      rw [xn_nat (by omega)]
    rw [en, ek, ek, ek, ek, ek, ek, ek, ek, f1, f2, f3, f4, f5, f6, f7, er, t2]
  · rw [if_pos g1, if_neg (fun z => g1 (k270e.mp z))]
end FUQ
