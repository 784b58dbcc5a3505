/-! THE REFERENCE: what each method does (printed by wip/p5/lw.py) -/
noncomputable def k204_81 (s : kS) (y1 : Int32) (z0 : Int32) : kS × Int32 := k204_103 s y1
theorem lt204_81 {sc : Nat × (Nat → Int32)} {N d : Nat} {S0 S : am_S} {s : kS} {y1 : Int32} {z0 : Int32} {o2 : Option Value} {o3 : Option Value} (hS : MK S0 S s) : am_L (am_PP sc) N d 204 81 [some (.ref 39), some (.int y1), o2, o3] [.int z0] S (fun o S1 => o = some none ∧ MK S0 S1 (k204_81 s y1 z0).1) := by
  refine l6i hi_204_81 ?_
  refine l18 hi_204_82 ?_
  refine am_L.mono (lt204_103 hS) ?_
  rintro o S1 ⟨e, h⟩
  have q : k204_81 s y1 z0 = k204_103 s y1 := rfl
  rw [q]; exact ⟨e, h⟩
noncomputable def k204_99 (s : kS) (y1 : Int32) (z0 : Int32) : kS × Int32 := k204_103 s y1
theorem lt204_99 {sc : Nat × (Nat → Int32)} {N d : Nat} {S0 S : am_S} {s : kS} {y1 : Int32} {z0 : Int32} {o2 : Option Value} {o3 : Option Value} (hS : MK S0 S s) : am_L (am_PP sc) N d 204 99 [some (.ref 39), some (.int y1), o2, o3] [.int z0] S (fun o S1 => o = some none ∧ MK S0 S1 (k204_99 s y1 z0).1) := by
  refine l6i hi_204_99 ?_
  refine l18 hi_204_100 ?_
  refine am_L.mono (lt204_103 hS) ?_
  rintro o S1 ⟨e, h⟩
  have q : k204_99 s y1 z0 = k204_103 s y1 := rfl
  rw [q]; exact ⟨e, h⟩
/-- load()V -/
noncomputable def k204 (s : kS) : kS × Int32 := if (kr s 16 ((s.1 15) - 1)) = 3 then (k204_53 ((k205 s (kr s 18 ((s.1 15) - 1))).1) ((s.1 15) - 1) (kr s 18 ((s.1 15) - 1)) ((k205 s (kr s 18 ((s.1 15) - 1))).2)) else if (kr s 16 ((s.1 15) - 1)) = 4 then (k204_81 ((k189 s 11 0 0 (kr s 18 ((s.1 15) - 1))).1) ((s.1 15) - 1) ((k189 s 11 0 0 (kr s 18 ((s.1 15) - 1))).2)) else if (kr s 16 ((s.1 15) - 1)) = 5 then (k204_99 ((k189 s 12 (kr s 17 ((s.1 15) - 1)) 0 (kr s 18 ((s.1 15) - 1))).1) ((s.1 15) - 1) ((k189 s 12 (kr s 17 ((s.1 15) - 1)) 0 (kr s 18 ((s.1 15) - 1))).2)) else k204_103 s ((s.1 15) - 1)
theorem lt204 {sc : Nat × (Nat → Int32)} {N d : Nat} {S0 S : am_S} {s : kS} (hS : MK S0 S s) : am_L (am_PP sc) N d 204 0 [some (.ref 39), none, none, none] [] S (fun o S1 => o = some none ∧ MK S0 S1 (k204 s).1) := by
  refine l2 (v := 39) hi_204_0 rfl ?_
  refine l20 (v := .int (s.1 15)) hS hi_204_1 rfl ?_
  refine l0 hi_204_4 ?_
  refine l10 hi_204_5 ?_
  show am_L _ _ _ _ _ [some (.ref 39), none, none, none] [.int ((s.1 15) - 1)] _ _
  refine l3 (ls' := [some (.ref 39), some (.int ((s.1 15) - 1)), none, none]) hi_204_6 (Nat.le_of_ble_eq_true rfl) rfl ?_
  refine l2 (v := 39) hi_204_7 rfl ?_
  refine l20 (v := .ref 48) hS hi_204_8 rfl ?_
  refine l1 (v := (s.1 15) - 1) hi_204_11 rfl ?_
  refine l25 hS ma_18 hi_204_12 fun g1 g2 => ?_
  show am_L _ _ _ _ _ [some (.ref 39), some (.int ((s.1 15) - 1)), none, none] [.int (kr s 18 ((s.1 15) - 1))] _ _
  refine l3 (ls' := [some (.ref 39), some (.int ((s.1 15) - 1)), some (.int (kr s 18 ((s.1 15) - 1))), none]) hi_204_13 (Nat.le_of_ble_eq_true rfl) rfl ?_
  refine l2 (v := 39) hi_204_14 rfl ?_
  refine l20 (v := .ref 46) hS hi_204_15 rfl ?_
  refine l1 (v := (s.1 15) - 1) hi_204_18 rfl ?_
  refine l25 hS ma_16 hi_204_19 fun g3 g4 => ?_
  show am_L _ _ _ _ _ [some (.ref 39), some (.int ((s.1 15) - 1)), some (.int (kr s 18 ((s.1 15) - 1))), none] [.int (kr s 16 ((s.1 15) - 1))] _ _
  by_cases c5 : (kr s 16 ((s.1 15) - 1)) = 3
  · refine l19 (t := 48) hi_204_20 (by rw [c5]; decide) ?_
    refine l2 (v := 39) hi_204_48 rfl ?_
    refine l1 (v := kr s 18 ((s.1 15) - 1)) hi_204_49 rfl ?_
    refine l32 (as := [.ref 39, .int (kr s 18 ((s.1 15) - 1))]) (la := [some (.ref 39), some (.int (kr s 18 ((s.1 15) - 1))), none, none, none]) (rest := []) hi_204_50 (am_hd0 (M := 204) (by decide) 50) rfl rfl rfl (fun N' d' _ => lt205 (N := N') (d := d') hS) ?_ (fun _ q => nomatch q.1)
    rintro v8 S6 ⟨ev8, h7⟩
    cases ev8
    show am_L _ _ _ _ _ [some (.ref 39), some (.int ((s.1 15) - 1)), some (.int (kr s 18 ((s.1 15) - 1))), none] [.int ((k205 s (kr s 18 ((s.1 15) - 1))).2)] _ _
    refine am_L.mono (lt204_53 h7) ?_
    rintro o S1 ⟨e, h⟩
    have q : k204 s = k204_53 ((k205 s (kr s 18 ((s.1 15) - 1))).1) ((s.1 15) - 1) (kr s 18 ((s.1 15) - 1)) ((k205 s (kr s 18 ((s.1 15) - 1))).2) := by unfold k204; rw [if_pos c5]
    rw [q]; exact ⟨e, h⟩
  by_cases c9 : (kr s 16 ((s.1 15) - 1)) = 4
  · refine l19 (t := 72) hi_204_20 (by rw [c9]; decide) ?_
    refine l2 (v := 39) hi_204_72 rfl ?_
    refine l0 hi_204_73 ?_
    refine l0 hi_204_75 ?_
    refine l0 hi_204_76 ?_
    refine l1 (v := kr s 18 ((s.1 15) - 1)) hi_204_77 rfl ?_
    refine l32 (as := [.ref 39, .int 11, .int 0, .int 0, .int (kr s 18 ((s.1 15) - 1))]) (la := [some (.ref 39), some (.int 11), some (.int 0), some (.int 0), some (.int (kr s 18 ((s.1 15) - 1)))]) (rest := []) hi_204_78 (am_hd0 (M := 204) (by decide) 78) rfl rfl rfl (fun N' d' _ => lt189 (N := N') (d := d') hS) ?_ (fun _ q => nomatch q.1)
    rintro v12 S10 ⟨ev12, h11⟩
    cases ev12
    show am_L _ _ _ _ _ [some (.ref 39), some (.int ((s.1 15) - 1)), some (.int (kr s 18 ((s.1 15) - 1))), none] [.int ((k189 s 11 0 0 (kr s 18 ((s.1 15) - 1))).2)] _ _
    refine am_L.mono (lt204_81 h11) ?_
    rintro o S1 ⟨e, h⟩
    have q : k204 s = k204_81 ((k189 s 11 0 0 (kr s 18 ((s.1 15) - 1))).1) ((s.1 15) - 1) ((k189 s 11 0 0 (kr s 18 ((s.1 15) - 1))).2) := by unfold k204; rw [if_neg c5]; rw [if_pos c9]
    rw [q]; exact ⟨e, h⟩
  by_cases c13 : (kr s 16 ((s.1 15) - 1)) = 5
  · refine l19 (t := 85) hi_204_20 (by rw [c13]; decide) ?_
    refine l2 (v := 39) hi_204_85 rfl ?_
    refine l0 hi_204_86 ?_
    refine l2 (v := 39) hi_204_88 rfl ?_
    refine l20 (v := .ref 47) hS hi_204_89 rfl ?_
    refine l1 (v := (s.1 15) - 1) hi_204_92 rfl ?_
    refine l25 hS ma_17 hi_204_93 fun g14 g15 => ?_
    show am_L _ _ _ _ _ [some (.ref 39), some (.int ((s.1 15) - 1)), some (.int (kr s 18 ((s.1 15) - 1))), none] [.int (kr s 17 ((s.1 15) - 1)), .int 12, .ref 39] _ _
    refine l0 hi_204_94 ?_
    refine l1 (v := kr s 18 ((s.1 15) - 1)) hi_204_95 rfl ?_
    refine l32 (as := [.ref 39, .int 12, .int (kr s 17 ((s.1 15) - 1)), .int 0, .int (kr s 18 ((s.1 15) - 1))]) (la := [some (.ref 39), some (.int 12), some (.int (kr s 17 ((s.1 15) - 1))), some (.int 0), some (.int (kr s 18 ((s.1 15) - 1)))]) (rest := []) hi_204_96 (am_hd0 (M := 204) (by decide) 96) rfl rfl rfl (fun N' d' _ => lt189 (N := N') (d := d') hS) ?_ (fun _ q => nomatch q.1)
    rintro v18 S16 ⟨ev18, h17⟩
    cases ev18
    show am_L _ _ _ _ _ [some (.ref 39), some (.int ((s.1 15) - 1)), some (.int (kr s 18 ((s.1 15) - 1))), none] [.int ((k189 s 12 (kr s 17 ((s.1 15) - 1)) 0 (kr s 18 ((s.1 15) - 1))).2)] _ _
    refine am_L.mono (lt204_99 h17) ?_
    rintro o S1 ⟨e, h⟩
    have q : k204 s = k204_99 ((k189 s 12 (kr s 17 ((s.1 15) - 1)) 0 (kr s 18 ((s.1 15) - 1))).1) ((s.1 15) - 1) ((k189 s 12 (kr s 17 ((s.1 15) - 1)) 0 (kr s 18 ((s.1 15) - 1))).2) := by unfold k204; rw [if_neg c5]; rw [if_neg c9]; rw [if_pos c13]
    rw [q]; exact ⟨e, h⟩
  refine l19 (t := 103) hi_204_20 (sw_not (ks := [3, 4, 5]) (by decide) (by intro k hk; simp only [List.mem_cons, List.not_mem_nil, or_false] at hk; rcases hk with rfl | rfl | rfl <;> first | exact c5 | exact c9 | exact c13)) ?_
  refine am_L.mono (lt204_103 hS) ?_
  rintro o S1 ⟨e, h⟩
  have q : k204 s = k204_103 s ((s.1 15) - 1) := by unfold k204; rw [if_neg c5]; rw [if_neg c9]; rw [if_neg c13]
  rw [q]; exact ⟨e, h⟩
/-- right(I)I -/
def k208 (s : kS) (x1 : Int32) : Int32 := if x1 ≠ 71 then if x1 ≠ 45 then k203 s x1 else 13 else 8
theorem lt208 {sc : Nat × (Nat → Int32)} {N d : Nat} {S0 S : am_S} {s : kS} {x1 : Int32} (hS : MK S0 S s) : am_L (am_PP sc) N d 208 0 [some (.int x1)] [] S (fun o S1 => o = some (some (.int (k208 s x1))) ∧ MK S0 S1 s) := by
  refine l1 (v := x1) hi_208_0 rfl ?_
  refine l0 hi_208_1 ?_
  by_cases c1 : x1 ≠ 71
  · refine l13t hi_208_3 (decide_eq_true c1) ?_
    refine l1 (v := x1) hi_208_11 rfl ?_
    refine l0 hi_208_12 ?_
    by_cases c2 : x1 ≠ 45
    · refine l13t hi_208_14 (decide_eq_true c2) ?_
      refine l1 (v := x1) hi_208_22 rfl ?_
      refine l32 (as := [.int x1]) (la := [some (.int x1)]) (rest := []) hi_208_23 (am_hd0 (M := 208) (by decide) 23) rfl rfl rfl (fun N' d' _ => lt203 (N := N') (d := d') hS) ?_ (fun _ q => nomatch q.1)
      rintro v5 S3 ⟨ev5, h4⟩
      cases ev5
      show am_L _ _ _ _ _ [some (.int x1)] [.int (k203 s x1)] _ _
      refine l33 hi_208_26 ⟨?_, ?_⟩
      · unfold k208; rw [if_pos c1]; rw [if_pos c2]
      · exact h4
    · refine l13f hi_208_14 (decide_eq_false c2) ?_
      refine l0 hi_208_17 ?_
      refine l18 hi_208_19 ?_
      refine l33 hi_208_26 ⟨?_, ?_⟩
      · unfold k208; rw [if_pos c1]; rw [if_neg c2]
      · exact hS
  · refine l13f hi_208_3 (decide_eq_false c1) ?_
    refine l0 hi_208_6 ?_
    refine l18 hi_208_8 ?_
    refine l33 hi_208_26 ⟨?_, ?_⟩
    · unfold k208; rw [if_neg c1]
    · exact hS
noncomputable def k202_104 (s : kS) (y2 : Int32) : kS × Int32 := ((k186 s (k208 s y2)).1, 0)
theorem lt202_104 {sc : Nat × (Nat → Int32)} {N d : Nat} {S0 S : am_S} {s : kS} {y2 : Int32} {o1 : Option Value} {o3 : Option Value} (hS : MK S0 S s) : am_L (am_PP sc) N d 202 104 [some (.ref 39), o1, some (.int y2), o3] [] S (fun o S1 => o = some none ∧ MK S0 S1 (k202_104 s y2).1) := by
  refine l2 (v := 39) hi_202_104 rfl ?_
  refine l1 (v := y2) hi_202_105 rfl ?_
  refine l32 (as := [.int y2]) (la := [some (.int y2)]) (rest := [.ref 39]) hi_202_106 (am_hd0 (M := 202) (by decide) 106) rfl rfl rfl (fun N' d' _ => lt208 (N := N') (d := d') hS) ?_ (fun _ q => nomatch q.1)
  rintro v3 S1 ⟨ev3, h2⟩
  cases ev3
  show am_L _ _ _ _ _ [some (.ref 39), o1, some (.int y2), o3] [.int (k208 s y2), .ref 39] _ _
  refine l32 (as := [.ref 39, .int (k208 s y2)]) (la := [some (.ref 39), some (.int (k208 s y2))]) (rest := []) hi_202_109 (am_hd0 (M := 202) (by decide) 109) rfl rfl rfl (fun N' d' _ => lt186 (N := N') (d := d') h2) ?_ (fun _ q => nomatch q.1)
  rintro v6 S4 ⟨ev6, h5⟩
  cases ev6
  show am_L _ _ _ _ _ [some (.ref 39), o1, some (.int y2), o3] [] _ _
  refine l35 hi_202_112 ⟨rfl, ?_⟩
  exact h5
noncomputable def k202_92 (s : kS) (y2 : Int32) : kS × Int32 := k202_104 s y2
theorem lt202_92 {sc : Nat × (Nat → Int32)} {N d : Nat} {S0 S : am_S} {s : kS} {y2 : Int32} {o1 : Option Value} {o3 : Option Value} (hS : MK S0 S s) : am_L (am_PP sc) N d 202 92 [some (.ref 39), o1, some (.int y2), o3] [] S (fun o S1 => o = some none ∧ MK S0 S1 (k202_92 s y2).1) := by
  refine l18 hi_202_92 ?_
  refine am_L.mono (lt202_104 hS) ?_
  rintro o S1 ⟨e, h⟩
  have q : k202_92 s y2 = k202_104 s y2 := rfl
  rw [q]; exact ⟨e, h⟩
noncomputable def k202_87 (s : kS) (y2 : Int32) (z0 : Int32) (z1 : Int32) : kS × Int32 := k202_92 ((k179 s z1 z0 0 0).1) y2
theorem lt202_87 {sc : Nat × (Nat → Int32)} {N d : Nat} {S0 S : am_S} {s : kS} {y2 : Int32} {z0 : Int32} {z1 : Int32} {o1 : Option Value} {o3 : Option Value} (hS : MK S0 S s) : am_L (am_PP sc) N d 202 87 [some (.ref 39), o1, some (.int y2), o3] [.int z0, .int z1, .ref 39] S (fun o S1 => o = some none ∧ MK S0 S1 (k202_87 s y2 z0 z1).1) := by
  refine l0 hi_202_87 ?_
  refine l0 hi_202_88 ?_
  refine l32 (as := [.ref 39, .int z1, .int z0, .int 0, .int 0]) (la := [some (.ref 39), some (.int z1), some (.int z0), some (.int 0), some (.int 0)]) (rest := []) hi_202_89 (am_hd0 (M := 202) (by decide) 89) rfl rfl rfl (fun N' d' _ => lt179 (N := N') (d := d') hS) ?_ (fun _ q => nomatch q.1)
  rintro v3 S1 ⟨ev3, h2⟩
  cases ev3
  show am_L _ _ _ _ _ [some (.ref 39), o1, some (.int y2), o3] [] _ _
  refine am_L.mono (lt202_92 h2) ?_
  rintro o S1 ⟨e, h⟩
  have q : k202_87 s y2 z0 z1 = k202_92 ((k179 s z1 z0 0 0).1) y2 := rfl
  rw [q]; exact ⟨e, h⟩
noncomputable def k202_81 (s : kS) (y2 : Int32) (z0 : Int32) (z1 : Int32) : kS × Int32 := k202_87 ((k189 s z0 0 0 0).1) y2 ((k189 s z0 0 0 0).2) z1
theorem lt202_81 {sc : Nat × (Nat → Int32)} {N d : Nat} {S0 S : am_S} {s : kS} {y2 : Int32} {z0 : Int32} {z1 : Int32} {o1 : Option Value} {o3 : Option Value} (hS : MK S0 S s) : am_L (am_PP sc) N d 202 81 [some (.ref 39), o1, some (.int y2), o3] [.int z0, .ref 39, .int z1, .ref 39] S (fun o S1 => o = some none ∧ MK S0 S1 (k202_81 s y2 z0 z1).1) := by
  refine l0 hi_202_81 ?_
  refine l0 hi_202_82 ?_
  refine l0 hi_202_83 ?_
  refine l32 (as := [.ref 39, .int z0, .int 0, .int 0, .int 0]) (la := [some (.ref 39), some (.int z0), some (.int 0), some (.int 0), some (.int 0)]) (rest := [.int z1, .ref 39]) hi_202_84 (am_hd0 (M := 202) (by decide) 84) rfl rfl rfl (fun N' d' _ => lt189 (N := N') (d := d') hS) ?_ (fun _ q => nomatch q.1)
  rintro v3 S1 ⟨ev3, h2⟩
  cases ev3
  show am_L _ _ _ _ _ [some (.ref 39), o1, some (.int y2), o3] [.int ((k189 s z0 0 0 0).2), .int z1, .ref 39] _ _
  refine am_L.mono (lt202_87 h2) ?_
  rintro o S1 ⟨e, h⟩
  have q : k202_81 s y2 z0 z1 = k202_87 ((k189 s z0 0 0 0).1) y2 ((k189 s z0 0 0 0).2) z1 := rfl
  rw [q]; exact ⟨e, h⟩
noncomputable def k202_54 (s : kS) (y2 : Int32) : kS × Int32 := if y2 ≠ 10 then k202_81 (kf s 15 ((s.1 15) - 1)) y2 16 26 else k202_81 (kf s 15 ((s.1 15) - 1)) y2 15 26
theorem lt202_54 {sc : Nat × (Nat → Int32)} {N d : Nat} {S0 S : am_S} {s : kS} {y2 : Int32} {o1 : Option Value} {o3 : Option Value} (hS : MK S0 S s) : am_L (am_PP sc) N d 202 54 [some (.ref 39), o1, some (.int y2), o3] [] S (fun o S1 => o = some none ∧ MK S0 S1 (k202_54 s y2).1) := by
  refine l2 (v := 39) hi_202_54 rfl ?_
  refine l7 hi_202_55 ?_
  refine l20 (v := .int (s.1 15)) hS hi_202_56 rfl ?_
  refine l0 hi_202_59 ?_
  refine l10 hi_202_60 ?_
  show am_L _ _ _ _ _ [some (.ref 39), o1, some (.int y2), o3] [.int ((s.1 15) - 1), .ref 39] _ _
  refine l21 hS hi_202_61 ms_15 fun S1 h2 => ?_
  refine l2 (v := 39) hi_202_64 rfl ?_
  refine l0 hi_202_65 ?_
  refine l2 (v := 39) hi_202_67 rfl ?_
  refine l1 (v := y2) hi_202_68 rfl ?_
  refine l0 hi_202_69 ?_
  by_cases c3 : y2 ≠ 10
  · refine l13t hi_202_71 (decide_eq_true c3) ?_
    refine l0 hi_202_79 ?_
    refine am_L.mono (lt202_81 h2) ?_
    rintro o S1 ⟨e, h⟩
    have q : k202_54 s y2 = k202_81 (kf s 15 ((s.1 15) - 1)) y2 16 26 := by unfold k202_54; rw [if_pos c3]
    rw [q]; exact ⟨e, h⟩
  · refine l13f hi_202_71 (decide_eq_false c3) ?_
    refine l0 hi_202_74 ?_
    refine l18 hi_202_76 ?_
    refine am_L.mono (lt202_81 h2) ?_
    rintro o S1 ⟨e, h⟩
    have q : k202_54 s y2 = k202_81 (kf s 15 ((s.1 15) - 1)) y2 15 26 := by unfold k202_54; rw [if_neg c3]
    rw [q]; exact ⟨e, h⟩
noncomputable def k202_42 (s : kS) (y2 : Int32) (y3 : Int32) : kS × Int32 := if y2 = 10 then k202_54 s y2 else if y2 ≠ 25 then k202_104 ((k179 s 25 y2 y3 0).1) y2 else k202_54 s y2
theorem lt202_42 {sc : Nat × (Nat → Int32)} {N d : Nat} {S0 S : am_S} {s : kS} {y2 : Int32} {y3 : Int32} {o1 : Option Value} (hS : MK S0 S s) : am_L (am_PP sc) N d 202 42 [some (.ref 39), o1, some (.int y2), some (.int y3)] [] S (fun o S1 => o = some none ∧ MK S0 S1 (k202_42 s y2 y3).1) := by
  refine l1 (v := y2) hi_202_42 rfl ?_
  refine l0 hi_202_43 ?_
  by_cases c1 : y2 = 10
  · refine l13t hi_202_45 (decide_eq_true c1) ?_
    refine am_L.mono (lt202_54 hS) ?_
    rintro o S1 ⟨e, h⟩
    have q : k202_42 s y2 y3 = k202_54 s y2 := by unfold k202_42; rw [if_pos c1]
    rw [q]; exact ⟨e, h⟩
  · refine l13f hi_202_45 (decide_eq_false c1) ?_
    refine l1 (v := y2) hi_202_48 rfl ?_
    refine l0 hi_202_49 ?_
    by_cases c2 : y2 ≠ 25
    · refine l13t hi_202_51 (decide_eq_true c2) ?_
      refine l2 (v := 39) hi_202_95 rfl ?_
      refine l0 hi_202_96 ?_
      refine l1 (v := y2) hi_202_98 rfl ?_
      refine l1 (v := y3) hi_202_99 rfl ?_
      refine l0 hi_202_100 ?_
      refine l32 (as := [.ref 39, .int 25, .int y2, .int y3, .int 0]) (la := [some (.ref 39), some (.int 25), some (.int y2), some (.int y3), some (.int 0)]) (rest := []) hi_202_101 (am_hd0 (M := 202) (by decide) 101) rfl rfl rfl (fun N' d' _ => lt179 (N := N') (d := d') hS) ?_ (fun _ q => nomatch q.1)
      rintro v5 S3 ⟨ev5, h4⟩
      cases ev5
      show am_L _ _ _ _ _ [some (.ref 39), o1, some (.int y2), some (.int y3)] [] _ _
      refine am_L.mono (lt202_104 h4) ?_
      rintro o S1 ⟨e, h⟩
      have q : k202_42 s y2 y3 = k202_104 ((k179 s 25 y2 y3 0).1) y2 := by unfold k202_42; rw [if_neg c1]; rw [if_pos c2]
      rw [q]; exact ⟨e, h⟩
    · refine l13f hi_202_51 (decide_eq_false c2) ?_
      refine am_L.mono (lt202_54 hS) ?_
      rintro o S1 ⟨e, h⟩
      have q : k202_42 s y2 y3 = k202_54 s y2 := by unfold k202_42; rw [if_neg c1]; rw [if_neg c2]
      rw [q]; exact ⟨e, h⟩
noncomputable def k202_33 (s : kS) (y1 : Int32) (y2 : Int32) (y3 : Int32) : kS × Int32 := k202_42 ((k179 s 24 y1 0 0).1) y2 y3
theorem lt202_33 {sc : Nat × (Nat → Int32)} {N d : Nat} {S0 S : am_S} {s : kS} {y1 : Int32} {y2 : Int32} {y3 : Int32} (hS : MK S0 S s) : am_L (am_PP sc) N d 202 33 [some (.ref 39), some (.int y1), some (.int y2), some (.int y3)] [] S (fun o S1 => o = some none ∧ MK S0 S1 (k202_33 s y1 y2 y3).1) := by
  refine l2 (v := 39) hi_202_33 rfl ?_
  refine l0 hi_202_34 ?_
  refine l1 (v := y1) hi_202_36 rfl ?_
  refine l0 hi_202_37 ?_
  refine l0 hi_202_38 ?_
  refine l32 (as := [.ref 39, .int 24, .int y1, .int 0, .int 0]) (la := [some (.ref 39), some (.int 24), some (.int y1), some (.int 0), some (.int 0)]) (rest := []) hi_202_39 (am_hd0 (M := 202) (by decide) 39) rfl rfl rfl (fun N' d' _ => lt179 (N := N') (d := d') hS) ?_ (fun _ q => nomatch q.1)
  rintro v3 S1 ⟨ev3, h2⟩
  cases ev3
  show am_L _ _ _ _ _ [some (.ref 39), some (.int y1), some (.int y2), some (.int y3)] [] _ _
  refine am_L.mono (lt202_42 h2) ?_
  rintro o S1 ⟨e, h⟩
  have q : k202_33 s y1 y2 y3 = k202_42 ((k179 s 24 y1 0 0).1) y2 y3 := rfl
  rw [q]; exact ⟨e, h⟩
/-- binary(I)V -/
noncomputable def k202 (s : kS) (x1 : Int32) : kS × Int32 := if x1 < (k203 s (k183 s)) then k202_33 ((k204 (kf s 4 ((s.1 4) + 1))).1) x1 (k183 s) (s.1 4) else (s, 0)
theorem lt202 {sc : Nat × (Nat → Int32)} {N d : Nat} {S0 S : am_S} {s : kS} {x1 : Int32} (hS : MK S0 S s) : am_L (am_PP sc) N d 202 0 [some (.ref 39), some (.int x1), none, none] [] S (fun o S1 => o = some none ∧ MK S0 S1 (k202 s x1).1) := by
  refine l2 (v := 39) hi_202_0 rfl ?_
  refine l32 (as := [.ref 39]) (la := [some (.ref 39)]) (rest := []) hi_202_1 (am_hd0 (M := 202) (by decide) 1) rfl rfl rfl (fun N' d' _ => lt183 (N := N') (d := d') hS) ?_ (fun _ q => nomatch q.1)
  rintro v3 S1 ⟨ev3, h2⟩
  cases ev3
  show am_L _ _ _ _ _ [some (.ref 39), some (.int x1), none, none] [.int (k183 s)] _ _
  refine l3 (ls' := [some (.ref 39), some (.int x1), some (.int (k183 s)), none]) hi_202_4 (Nat.le_of_ble_eq_true rfl) rfl ?_
  refine l1 (v := k183 s) hi_202_5 rfl ?_
  refine l32 (as := [.int (k183 s)]) (la := [some (.int (k183 s))]) (rest := []) hi_202_6 (am_hd0 (M := 202) (by decide) 6) rfl rfl rfl (fun N' d' _ => lt203 (N := N') (d := d') h2) ?_ (fun _ q => nomatch q.1)
  rintro v6 S4 ⟨ev6, h5⟩
  cases ev6
  show am_L _ _ _ _ _ [some (.ref 39), some (.int x1), some (.int (k183 s)), none] [.int (k203 s (k183 s))] _ _
  refine l1 (v := x1) hi_202_9 rfl ?_
  by_cases c7 : x1 < (k203 s (k183 s))
  · refine l13t hi_202_10 (decide_eq_true c7) ?_
    refine l2 (v := 39) hi_202_14 rfl ?_
    refine l20 (v := .int (s.1 4)) h5 hi_202_15 rfl ?_
    refine l3 (ls' := [some (.ref 39), some (.int x1), some (.int (k183 s)), some (.int (s.1 4))]) hi_202_18 (Nat.le_of_ble_eq_true rfl) rfl ?_
    refine l2 (v := 39) hi_202_19 rfl ?_
    refine l7 hi_202_20 ?_
    refine l20 (v := .int (s.1 4)) h5 hi_202_21 rfl ?_
    refine l0 hi_202_24 ?_
    refine l10 hi_202_25 ?_
    show am_L _ _ _ _ _ [some (.ref 39), some (.int x1), some (.int (k183 s)), some (.int (s.1 4))] [.int ((s.1 4) + 1), .ref 39] _ _
    refine l21 h5 hi_202_26 ms_4 fun S8 h9 => ?_
    refine l2 (v := 39) hi_202_29 rfl ?_
    refine l32 (as := [.ref 39]) (la := [some (.ref 39), none, none, none]) (rest := []) hi_202_30 (am_hd0 (M := 202) (by decide) 30) rfl rfl rfl (fun N' d' _ => lt204 (N := N') (d := d') h9) ?_ (fun _ q => nomatch q.1)
    rintro v12 S10 ⟨ev12, h11⟩
    cases ev12
    show am_L _ _ _ _ _ [some (.ref 39), some (.int x1), some (.int (k183 s)), some (.int (s.1 4))] [] _ _
    refine am_L.mono (lt202_33 h11) ?_
    rintro o S1 ⟨e, h⟩
    have q : k202 s x1 = k202_33 ((k204 (kf s 4 ((s.1 4) + 1))).1) x1 (k183 s) (s.1 4) := by unfold k202; rw [if_pos c7]
    rw [q]; exact ⟨e, h⟩
  · refine l13f hi_202_10 (decide_eq_false c7) ?_
    refine l35 hi_202_13 ⟨rfl, ?_⟩
    unfold k202; rw [if_neg c7]; exact h5
noncomputable def k209_4 (s : kS) : kS × Int32 := (kf s 15 ((s.1 15) - 1), 0)
theorem lt209_4 {sc : Nat × (Nat → Int32)} {N d : Nat} {S0 S : am_S} {s : kS} (hS : MK S0 S s) : am_L (am_PP sc) N d 209 4 [some (.ref 39)] [] S (fun o S1 => o = some none ∧ MK S0 S1 (k209_4 s).1) := by
  refine l2 (v := 39) hi_209_4 rfl ?_
  refine l7 hi_209_5 ?_
  refine l20 (v := .int (s.1 15)) hS hi_209_6 rfl ?_
  refine l0 hi_209_9 ?_
  refine l10 hi_209_10 ?_
  show am_L _ _ _ _ _ [some (.ref 39)] [.int ((s.1 15) - 1), .ref 39] _ _
  refine l21 hS hi_209_11 ms_15 fun S1 h2 => ?_
  refine l35 hi_209_14 ⟨rfl, ?_⟩
  exact h2
/-- loadAway()V -/
noncomputable def k209 (s : kS) : kS × Int32 := k209_4 ((k204 s).1)
theorem lt209 {sc : Nat × (Nat → Int32)} {N d : Nat} {S0 S : am_S} {s : kS} (hS : MK S0 S s) : am_L (am_PP sc) N d 209 0 [some (.ref 39)] [] S (fun o S1 => o = some none ∧ MK S0 S1 (k209 s).1) := by
  refine l2 (v := 39) hi_209_0 rfl ?_
  refine l32 (as := [.ref 39]) (la := [some (.ref 39), none, none, none]) (rest := []) hi_209_1 (am_hd0 (M := 209) (by decide) 1) rfl rfl rfl (fun N' d' _ => lt204 (N := N') (d := d') hS) ?_ (fun _ q => nomatch q.1)
  rintro v3 S1 ⟨ev3, h2⟩
  cases ev3
  show am_L _ _ _ _ _ [some (.ref 39)] [] _ _
  refine am_L.mono (lt209_4 h2) ?_
  rintro o S1 ⟨e, h⟩
  have q : k209 s = k209_4 ((k204 s).1) := rfl
  rw [q]; exact ⟨e, h⟩
/-- here()I -/
def k210 (s : kS) : Int32 := kr s 60 (kr s 33 (s.1 32))
theorem lt210 {sc : Nat × (Nat → Int32)} {N d : Nat} {S0 S : am_S} {s : kS} (hS : MK S0 S s) : am_L (am_PP sc) N d 210 0 [some (.ref 39)] [] S (fun o S1 => o = some (some (.int (k210 s))) ∧ MK S0 S1 s) := by
  refine l2 (v := 39) hi_210_0 rfl ?_
  refine l20 (v := .ref 81) hS hi_210_1 rfl ?_
  refine l2 (v := 39) hi_210_4 rfl ?_
  refine l20 (v := .ref 58) hS hi_210_5 rfl ?_
  refine l2 (v := 39) hi_210_8 rfl ?_
  refine l20 (v := .int (s.1 32)) hS hi_210_9 rfl ?_
  refine l25 hS ma_33 hi_210_12 fun g1 g2 => ?_
  show am_L _ _ _ _ _ [some (.ref 39)] [.int (kr s 33 (s.1 32)), .ref 81] _ _
  refine l25 hS ma_60 hi_210_13 fun g3 g4 => ?_
  show am_L _ _ _ _ _ [some (.ref 39)] [.int (kr s 60 (kr s 33 (s.1 32)))] _ _
  refine l33 hi_210_14 ⟨?_, ?_⟩
  · rfl
  · exact hS
def k213_11 (s : kS) (y3 : Int32) (z0 : Int32) : kS × Int32 := ((k190 (kf s 15 ((s.1 15) - 1)) 1 z0 y3).1, 0)
theorem lt213_11 {sc : Nat × (Nat → Int32)} {N d : Nat} {S0 S : am_S} {s : kS} {y3 : Int32} {z0 : Int32} {o1 : Option Value} {o2 : Option Value} {o4 : Option Value} (hS : MK S0 S s) : am_L (am_PP sc) N d 213 11 [some (.ref 39), o1, o2, some (.int y3), o4] [.int z0] S (fun o S1 => o = some none ∧ MK S0 S1 (k213_11 s y3 z0).1) := by
  refine l3 (ls' := [some (.ref 39), o1, o2, some (.int y3), some (.int z0)]) hi_213_11 (Nat.le_of_ble_eq_true rfl) rfl ?_
  refine l2 (v := 39) hi_213_13 rfl ?_
  refine l7 hi_213_14 ?_
  refine l20 (v := .int (s.1 15)) hS hi_213_15 rfl ?_
  refine l0 hi_213_18 ?_
  refine l10 hi_213_19 ?_
  show am_L _ _ _ _ _ [some (.ref 39), o1, o2, some (.int y3), some (.int z0)] [.int ((s.1 15) - 1), .ref 39] _ _
  refine l21 hS hi_213_20 ms_15 fun S1 h2 => ?_
  refine l2 (v := 39) hi_213_23 rfl ?_
  refine l0 hi_213_24 ?_
  refine l1 (v := z0) hi_213_25 rfl ?_
  refine l1 (v := y3) hi_213_27 rfl ?_
  refine l32 (as := [.ref 39, .int 1, .int z0, .int y3]) (la := [some (.ref 39), some (.int 1), some (.int z0), some (.int y3)]) (rest := []) hi_213_28 (am_hd0 (M := 213) (by decide) 28) rfl rfl rfl (fun N' d' _ => lt190 (N := N') (d := d') h2) ?_ (fun _ q => nomatch q.1)
  rintro v5 S3 ⟨ev5, h4⟩
  cases ev5
  show am_L _ _ _ _ _ [some (.ref 39), o1, o2, some (.int y3), some (.int z0)] [] _ _
  refine l35 hi_213_31 ⟨rfl, ?_⟩
  exact h4
/-- call(III)V -/
def k213 (s : kS) (x1 : Int32) (x2 : Int32) (x3 : Int32) : kS × Int32 := k213_11 ((k189 s 13 x1 (x2 ||| 2) x3).1) x3 ((k189 s 13 x1 (x2 ||| 2) x3).2)
theorem lt213 {sc : Nat × (Nat → Int32)} {N d : Nat} {S0 S : am_S} {s : kS} {x1 : Int32} {x2 : Int32} {x3 : Int32} (hS : MK S0 S s) : am_L (am_PP sc) N d 213 0 [some (.ref 39), some (.int x1), some (.int x2), some (.int x3), none] [] S (fun o S1 => o = some none ∧ MK S0 S1 (k213 s x1 x2 x3).1) := by
  refine l2 (v := 39) hi_213_0 rfl ?_
  refine l0 hi_213_1 ?_
  refine l1 (v := x1) hi_213_3 rfl ?_
  refine l1 (v := x2) hi_213_4 rfl ?_
  refine l0 hi_213_5 ?_
  refine l10 hi_213_6 ?_
  show am_L _ _ _ _ _ [some (.ref 39), some (.int x1), some (.int x2), some (.int x3), none] [.int (x2 ||| 2), .int x1, .int 13, .ref 39] _ _
  refine l1 (v := x3) hi_213_7 rfl ?_
  refine l32 (as := [.ref 39, .int 13, .int x1, .int (x2 ||| 2), .int x3]) (la := [some (.ref 39), some (.int 13), some (.int x1), some (.int (x2 ||| 2)), some (.int x3)]) (rest := []) hi_213_8 (am_hd0 (M := 213) (by decide) 8) rfl rfl rfl (fun N' d' _ => lt189 (N := N') (d := d') hS) ?_ (fun _ q => nomatch q.1)
  rintro v3 S1 ⟨ev3, h2⟩
  cases ev3
  show am_L _ _ _ _ _ [some (.ref 39), some (.int x1), some (.int x2), some (.int x3), none] [.int ((k189 s 13 x1 (x2 ||| 2) x3).2)] _ _
  refine am_L.mono (lt213_11 h2) ?_
  rintro o S1 ⟨e, h⟩
  have q : k213 s x1 x2 x3 = k213_11 ((k189 s 13 x1 (x2 ||| 2) x3).1) x3 ((k189 s 13 x1 (x2 ||| 2) x3).2) := rfl
  rw [q]; exact ⟨e, h⟩
def k214_9 (s : kS) : kS × Int32 := ((k186 s 0).1, 0)
theorem lt214_9 {sc : Nat × (Nat → Int32)} {N d : Nat} {S0 S : am_S} {s : kS} (hS : MK S0 S s) : am_L (am_PP sc) N d 214 9 [some (.ref 39)] [] S (fun o S1 => o = some none ∧ MK S0 S1 (k214_9 s).1) := by
  refine l2 (v := 39) hi_214_9 rfl ?_
  refine l0 hi_214_10 ?_
  refine l32 (as := [.ref 39, .int 0]) (la := [some (.ref 39), some (.int 0)]) (rest := []) hi_214_11 (am_hd0 (M := 214) (by decide) 11) rfl rfl rfl (fun N' d' _ => lt186 (N := N') (d := d') hS) ?_ (fun _ q => nomatch q.1)
  rintro v3 S1 ⟨ev3, h2⟩
  cases ev3
  show am_L _ _ _ _ _ [some (.ref 39)] [] _ _
  refine l35 hi_214_14 ⟨rfl, ?_⟩
  exact h2
/-- expectList()V -/
def k214 (s : kS) : kS × Int32 := k214_9 ((k179 s 34 1 0 0).1)
theorem lt214 {sc : Nat × (Nat → Int32)} {N d : Nat} {S0 S : am_S} {s : kS} (hS : MK S0 S s) : am_L (am_PP sc) N d 214 0 [some (.ref 39)] [] S (fun o S1 => o = some none ∧ MK S0 S1 (k214 s).1) := by
  refine l2 (v := 39) hi_214_0 rfl ?_
  refine l0 hi_214_1 ?_
  refine l0 hi_214_3 ?_
  refine l0 hi_214_4 ?_
  refine l0 hi_214_5 ?_
  refine l32 (as := [.ref 39, .int 34, .int 1, .int 0, .int 0]) (la := [some (.ref 39), some (.int 34), some (.int 1), some (.int 0), some (.int 0)]) (rest := []) hi_214_6 (am_hd0 (M := 214) (by decide) 6) rfl rfl rfl (fun N' d' _ => lt179 (N := N') (d := d') hS) ?_ (fun _ q => nomatch q.1)
  rintro v3 S1 ⟨ev3, h2⟩
  cases ev3
  show am_L _ _ _ _ _ [some (.ref 39)] [] _ _
  refine am_L.mono (lt214_9 h2) ?_
  rintro o S1 ⟨e, h⟩
  have q : k214 s = k214_9 ((k179 s 34 1 0 0).1) := rfl
  rw [q]; exact ⟨e, h⟩
def k212_101 (s : kS) (y1 : Int32) (y2 : Int32) (z0 : Int32) : kS × Int32 := ((k213 s y1 0 y2).1, 0)
theorem lt212_101 {sc : Nat × (Nat → Int32)} {N d : Nat} {S0 S : am_S} {s : kS} {y1 : Int32} {y2 : Int32} {z0 : Int32} (hS : MK S0 S s) : am_L (am_PP sc) N d 212 101 [some (.ref 39), some (.int y1), some (.int y2)] [.int z0] S (fun o S1 => o = some none ∧ MK S0 S1 (k212_101 s y1 y2 z0).1) := by
  refine l6i hi_212_101 ?_
  refine l2 (v := 39) hi_212_102 rfl ?_
  refine l1 (v := y1) hi_212_103 rfl ?_
  refine l0 hi_212_104 ?_
  refine l1 (v := y2) hi_212_105 rfl ?_
  refine l32 (as := [.ref 39, .int y1, .int 0, .int y2]) (la := [some (.ref 39), some (.int y1), some (.int 0), some (.int y2), none]) (rest := []) hi_212_106 (am_hd0 (M := 212) (by decide) 106) rfl rfl rfl (fun N' d' _ => lt213 (N := N') (d := d') hS) ?_ (fun _ q => nomatch q.1)
  rintro v3 S1 ⟨ev3, h2⟩
  cases ev3
  show am_L _ _ _ _ _ [some (.ref 39), some (.int y1), some (.int y2)] [] _ _
  refine l18 hi_212_109 ?_
  refine l35 hi_212_125 ⟨rfl, ?_⟩
  exact h2
def k212_83 (s : kS) (y1 : Int32) (y2 : Int32) (z0 : Int32) : kS × Int32 := if z0 = 0 then (s, 0) else if (k183 s) ≠ 61 then ((k214 ((k179 s 32 y1 y2 0).1)).1, 0) else k212_101 ((k199 s 61).1) y1 y2 ((k199 s 61).2)
theorem lt212_83 {sc : Nat × (Nat → Int32)} {N d : Nat} {S0 S : am_S} {s : kS} {y1 : Int32} {y2 : Int32} {z0 : Int32} (hS : MK S0 S s) : am_L (am_PP sc) N d 212 83 [some (.ref 39), some (.int y1), some (.int y2)] [.int z0] S (fun o S1 => o = some none ∧ MK S0 S1 (k212_83 s y1 y2 z0).1) := by
  by_cases c1 : z0 = 0
  · refine l12t hi_212_83 (decide_eq_true c1) ?_
    refine l35 hi_212_125 ⟨rfl, ?_⟩
    unfold k212_83; rw [if_pos c1]; exact hS
  · refine l12f hi_212_83 (decide_eq_false c1) ?_
    refine l2 (v := 39) hi_212_86 rfl ?_
    refine l32 (as := [.ref 39]) (la := [some (.ref 39)]) (rest := []) hi_212_87 (am_hd0 (M := 212) (by decide) 87) rfl rfl rfl (fun N' d' _ => lt183 (N := N') (d := d') hS) ?_ (fun _ q => nomatch q.1)
    rintro v4 S2 ⟨ev4, h3⟩
    cases ev4
    show am_L _ _ _ _ _ [some (.ref 39), some (.int y1), some (.int y2)] [.int (k183 s)] _ _
    refine l0 hi_212_90 ?_
    by_cases c5 : (k183 s) ≠ 61
    · refine l13t hi_212_92 (decide_eq_true c5) ?_
      refine l2 (v := 39) hi_212_112 rfl ?_
      refine l0 hi_212_113 ?_
      refine l1 (v := y1) hi_212_115 rfl ?_
      refine l1 (v := y2) hi_212_116 rfl ?_
      refine l0 hi_212_117 ?_
      refine l32 (as := [.ref 39, .int 32, .int y1, .int y2, .int 0]) (la := [some (.ref 39), some (.int 32), some (.int y1), some (.int y2), some (.int 0)]) (rest := []) hi_212_118 (am_hd0 (M := 212) (by decide) 118) rfl rfl rfl (fun N' d' _ => lt179 (N := N') (d := d') h3) ?_ (fun _ q => nomatch q.1)
      rintro v8 S6 ⟨ev8, h7⟩
      cases ev8
      show am_L _ _ _ _ _ [some (.ref 39), some (.int y1), some (.int y2)] [] _ _
      refine l2 (v := 39) hi_212_121 rfl ?_
      refine l32 (as := [.ref 39]) (la := [some (.ref 39)]) (rest := []) hi_212_122 (am_hd0 (M := 212) (by decide) 122) rfl rfl rfl (fun N' d' _ => lt214 (N := N') (d := d') h7) ?_ (fun _ q => nomatch q.1)
      rintro v11 S9 ⟨ev11, h10⟩
      cases ev11
      show am_L _ _ _ _ _ [some (.ref 39), some (.int y1), some (.int y2)] [] _ _
      refine l35 hi_212_125 ⟨rfl, ?_⟩
      unfold k212_83; rw [if_neg c1]; rw [if_pos c5]; exact h10
    · refine l13f hi_212_92 (decide_eq_false c5) ?_
      refine l2 (v := 39) hi_212_95 rfl ?_
      refine l0 hi_212_96 ?_
      refine l32 (as := [.ref 39, .int 61]) (la := [some (.ref 39), some (.int 61)]) (rest := []) hi_212_98 (am_hd0 (M := 212) (by decide) 98) rfl rfl rfl (fun N' d' _ => lt199 (N := N') (d := d') h3) ?_ (fun _ q => nomatch q.1)
      rintro v14 S12 ⟨ev14, h13⟩
      cases ev14
      show am_L _ _ _ _ _ [some (.ref 39), some (.int y1), some (.int y2)] [.int ((k199 s 61).2)] _ _
      refine am_L.mono (lt212_101 h13) ?_
      rintro o S1 ⟨e, h⟩
      have q : k212_83 s y1 y2 z0 = k212_101 ((k199 s 61).1) y1 y2 ((k199 s 61).2) := by unfold k212_83; rw [if_neg c1]; rw [if_neg c5]
      rw [q]; exact ⟨e, h⟩
def k212_70 (s : kS) : kS × Int32 := ((k192 s).1, 0)
theorem lt212_70 {sc : Nat × (Nat → Int32)} {N d : Nat} {S0 S : am_S} {s : kS} {o1 : Option Value} {o2 : Option Value} (hS : MK S0 S s) : am_L (am_PP sc) N d 212 70 [some (.ref 39), o1, o2] [] S (fun o S1 => o = some none ∧ MK S0 S1 (k212_70 s).1) := by
  refine l2 (v := 39) hi_212_70 rfl ?_
  refine l32 (as := [.ref 39]) (la := [some (.ref 39), none]) (rest := []) hi_212_71 (am_hd0 (M := 212) (by decide) 71) rfl rfl rfl (fun N' d' _ => lt192 (N := N') (d := d') hS) ?_ (fun _ q => nomatch q.1)
  rintro v3 S1 ⟨ev3, h2⟩
  cases ev3
  show am_L _ _ _ _ _ [some (.ref 39), o1, o2] [] _ _
  refine l18 hi_212_74 ?_
  refine l35 hi_212_125 ⟨rfl, ?_⟩
  exact h2
def k212_29 (s : kS) (y1 : Int32) (y2 : Int32) (z0 : Int32) : kS × Int32 := ((k213 (kf s 4 ((s.1 4) + 1)) (1 + y1) 0 y2).1, 0)
theorem lt212_29 {sc : Nat × (Nat → Int32)} {N d : Nat} {S0 S : am_S} {s : kS} {y1 : Int32} {y2 : Int32} {z0 : Int32} (hS : MK S0 S s) : am_L (am_PP sc) N d 212 29 [some (.ref 39), some (.int y1), some (.int y2)] [.int z0] S (fun o S1 => o = some none ∧ MK S0 S1 (k212_29 s y1 y2 z0).1) := by
  refine l6i hi_212_29 ?_
  refine l2 (v := 39) hi_212_30 rfl ?_
  refine l7 hi_212_31 ?_
  refine l20 (v := .int (s.1 4)) hS hi_212_32 rfl ?_
  refine l0 hi_212_35 ?_
  refine l10 hi_212_36 ?_
  show am_L _ _ _ _ _ [some (.ref 39), some (.int y1), some (.int y2)] [.int ((s.1 4) + 1), .ref 39] _ _
  refine l21 hS hi_212_37 ms_4 fun S1 h2 => ?_
  refine l2 (v := 39) hi_212_40 rfl ?_
  refine l0 hi_212_41 ?_
  refine l1 (v := y1) hi_212_42 rfl ?_
  refine l10 hi_212_43 ?_
  show am_L _ _ _ _ _ [some (.ref 39), some (.int y1), some (.int y2)] [.int (1 + y1), .ref 39] _ _
  refine l0 hi_212_44 ?_
  refine l1 (v := y2) hi_212_45 rfl ?_
  refine l32 (as := [.ref 39, .int (1 + y1), .int 0, .int y2]) (la := [some (.ref 39), some (.int (1 + y1)), some (.int 0), some (.int y2), none]) (rest := []) hi_212_46 (am_hd0 (M := 212) (by decide) 46) rfl rfl rfl (fun N' d' _ => lt213 (N := N') (d := d') h2) ?_ (fun _ q => nomatch q.1)
  rintro v5 S3 ⟨ev5, h4⟩
  cases ev5
  show am_L _ _ _ _ _ [some (.ref 39), some (.int y1), some (.int y2)] [] _ _
  refine l18 hi_212_49 ?_
  refine l35 hi_212_125 ⟨rfl, ?_⟩
  exact h4
/-- args(I)V -/
def k212 (s : kS) (x1 : Int32) : kS × Int32 := if (k183 s) ≠ 3 then if (k183 s) ≠ 62 then k212_83 ((k193 s 60).1) x1 (s.1 4) ((k193 s 60).2) else k212_70 ((k179 s 33 x1 (s.1 4) 0).1) else k212_29 ((k189 s 5 (kr s 2 (s.1 4)) 0 0).1) x1 (s.1 4) ((k189 s 5 (kr s 2 (s.1 4)) 0 0).2)
theorem lt212 {sc : Nat × (Nat → Int32)} {N d : Nat} {S0 S : am_S} {s : kS} {x1 : Int32} (hS : MK S0 S s) : am_L (am_PP sc) N d 212 0 [some (.ref 39), some (.int x1), none] [] S (fun o S1 => o = some none ∧ MK S0 S1 (k212 s x1).1) := by
  refine l2 (v := 39) hi_212_0 rfl ?_
  refine l20 (v := .int (s.1 4)) hS hi_212_1 rfl ?_
  refine l3 (ls' := [some (.ref 39), some (.int x1), some (.int (s.1 4))]) hi_212_4 (Nat.le_of_ble_eq_true rfl) rfl ?_
  refine l2 (v := 39) hi_212_5 rfl ?_
  refine l32 (as := [.ref 39]) (la := [some (.ref 39)]) (rest := []) hi_212_6 (am_hd0 (M := 212) (by decide) 6) rfl rfl rfl (fun N' d' _ => lt183 (N := N') (d := d') hS) ?_ (fun _ q => nomatch q.1)
  rintro v3 S1 ⟨ev3, h2⟩
  cases ev3
  show am_L _ _ _ _ _ [some (.ref 39), some (.int x1), some (.int (s.1 4))] [.int (k183 s)] _ _
  refine l0 hi_212_9 ?_
  by_cases c4 : (k183 s) ≠ 3
  · refine l13t hi_212_10 (decide_eq_true c4) ?_
    refine l2 (v := 39) hi_212_52 rfl ?_
    refine l32 (as := [.ref 39]) (la := [some (.ref 39)]) (rest := []) hi_212_53 (am_hd0 (M := 212) (by decide) 53) rfl rfl rfl (fun N' d' _ => lt183 (N := N') (d := d') h2) ?_ (fun _ q => nomatch q.1)
    rintro v7 S5 ⟨ev7, h6⟩
    cases ev7
    show am_L _ _ _ _ _ [some (.ref 39), some (.int x1), some (.int (s.1 4))] [.int (k183 s)] _ _
    refine l0 hi_212_56 ?_
    by_cases c8 : (k183 s) ≠ 62
    · refine l13t hi_212_58 (decide_eq_true c8) ?_
      refine l2 (v := 39) hi_212_77 rfl ?_
      refine l0 hi_212_78 ?_
      refine l32 (as := [.ref 39, .int 60]) (la := [some (.ref 39), some (.int 60)]) (rest := []) hi_212_80 (am_hd0 (M := 212) (by decide) 80) rfl rfl rfl (fun N' d' _ => lt193 (N := N') (d := d') h6) ?_ (fun _ q => nomatch q.1)
      rintro v11 S9 ⟨ev11, h10⟩
      cases ev11
      show am_L _ _ _ _ _ [some (.ref 39), some (.int x1), some (.int (s.1 4))] [.int ((k193 s 60).2)] _ _
      refine am_L.mono (lt212_83 h10) ?_
      rintro o S1 ⟨e, h⟩
      have q : k212 s x1 = k212_83 ((k193 s 60).1) x1 (s.1 4) ((k193 s 60).2) := by unfold k212; rw [if_pos c4]; rw [if_pos c8]
      rw [q]; exact ⟨e, h⟩
    · refine l13f hi_212_58 (decide_eq_false c8) ?_
      refine l2 (v := 39) hi_212_61 rfl ?_
      refine l0 hi_212_62 ?_
      refine l1 (v := x1) hi_212_64 rfl ?_
      refine l1 (v := s.1 4) hi_212_65 rfl ?_
      refine l0 hi_212_66 ?_
      refine l32 (as := [.ref 39, .int 33, .int x1, .int (s.1 4), .int 0]) (la := [some (.ref 39), some (.int 33), some (.int x1), some (.int (s.1 4)), some (.int 0)]) (rest := []) hi_212_67 (am_hd0 (M := 212) (by decide) 67) rfl rfl rfl (fun N' d' _ => lt179 (N := N') (d := d') h6) ?_ (fun _ q => nomatch q.1)
      rintro v14 S12 ⟨ev14, h13⟩
      cases ev14
      show am_L _ _ _ _ _ [some (.ref 39), some (.int x1), some (.int (s.1 4))] [] _ _
      refine am_L.mono (lt212_70 h13) ?_
      rintro o S1 ⟨e, h⟩
      have q : k212 s x1 = k212_70 ((k179 s 33 x1 (s.1 4) 0).1) := by unfold k212; rw [if_pos c4]; rw [if_neg c8]
      rw [q]; exact ⟨e, h⟩
  · refine l13f hi_212_10 (decide_eq_false c4) ?_
    refine l2 (v := 39) hi_212_13 rfl ?_
    refine l0 hi_212_14 ?_
    refine l2 (v := 39) hi_212_15 rfl ?_
    refine l20 (v := .ref 41) h2 hi_212_16 rfl ?_
    refine l2 (v := 39) hi_212_19 rfl ?_
    refine l20 (v := .int (s.1 4)) h2 hi_212_20 rfl ?_
    refine l25 h2 ma_2 hi_212_23 fun g15 g16 => ?_
    show am_L _ _ _ _ _ [some (.ref 39), some (.int x1), some (.int (s.1 4))] [.int (kr s 2 (s.1 4)), .int 5, .ref 39] _ _
    refine l0 hi_212_24 ?_
    refine l0 hi_212_25 ?_
    refine l32 (as := [.ref 39, .int 5, .int (kr s 2 (s.1 4)), .int 0, .int 0]) (la := [some (.ref 39), some (.int 5), some (.int (kr s 2 (s.1 4))), some (.int 0), some (.int 0)]) (rest := []) hi_212_26 (am_hd0 (M := 212) (by decide) 26) rfl rfl rfl (fun N' d' _ => lt189 (N := N') (d := d') h2) ?_ (fun _ q => nomatch q.1)
    rintro v19 S17 ⟨ev19, h18⟩
    cases ev19
    show am_L _ _ _ _ _ [some (.ref 39), some (.int x1), some (.int (s.1 4))] [.int ((k189 s 5 (kr s 2 (s.1 4)) 0 0).2)] _ _
    refine am_L.mono (lt212_29 h18) ?_
    rintro o S1 ⟨e, h⟩
    have q : k212 s x1 = k212_29 ((k189 s 5 (kr s 2 (s.1 4)) 0 0).1) x1 (s.1 4) ((k189 s 5 (kr s 2 (s.1 4)) 0 0).2) := by unfold k212; rw [if_neg c4]
    rw [q]; exact ⟨e, h⟩
noncomputable def k211_244 (s : kS) : kS × Int32 := ((k212 s 0).1, 0)
theorem lt211_244 {sc : Nat × (Nat → Int32)} {N d : Nat} {S0 S : am_S} {s : kS} {o1 : Option Value} {o2 : Option Value} {o3 : Option Value} (hS : MK S0 S s) : am_L (am_PP sc) N d 211 244 [some (.ref 39), o1, o2, o3] [] S (fun o S1 => o = some none ∧ MK S0 S1 (k211_244 s).1) := by
  refine l2 (v := 39) hi_211_244 rfl ?_
  refine l0 hi_211_245 ?_
  refine l32 (as := [.ref 39, .int 0]) (la := [some (.ref 39), some (.int 0), none]) (rest := []) hi_211_246 (am_hd0 (M := 211) (by decide) 246) rfl rfl rfl (fun N' d' _ => lt212 (N := N') (d := d') hS) ?_ (fun _ q => nomatch q.1)
  rintro v3 S1 ⟨ev3, h2⟩
  cases ev3
  show am_L _ _ _ _ _ [some (.ref 39), o1, o2, o3] [] _ _
  refine l35 hi_211_249 ⟨rfl, ?_⟩
  exact h2
noncomputable def k211_235 (s : kS) : kS × Int32 := k211_244 ((k179 s 28 0 0 0).1)
theorem lt211_235 {sc : Nat × (Nat → Int32)} {N d : Nat} {S0 S : am_S} {s : kS} {o1 : Option Value} {o2 : Option Value} {o3 : Option Value} (hS : MK S0 S s) : am_L (am_PP sc) N d 211 235 [some (.ref 39), o1, o2, o3] [] S (fun o S1 => o = some none ∧ MK S0 S1 (k211_235 s).1) := by
  refine l2 (v := 39) hi_211_235 rfl ?_
  refine l0 hi_211_236 ?_
  refine l0 hi_211_238 ?_
  refine l0 hi_211_239 ?_
  refine l0 hi_211_240 ?_
  refine l32 (as := [.ref 39, .int 28, .int 0, .int 0, .int 0]) (la := [some (.ref 39), some (.int 28), some (.int 0), some (.int 0), some (.int 0)]) (rest := []) hi_211_241 (am_hd0 (M := 211) (by decide) 241) rfl rfl rfl (fun N' d' _ => lt179 (N := N') (d := d') hS) ?_ (fun _ q => nomatch q.1)
  rintro v3 S1 ⟨ev3, h2⟩
  cases ev3
  show am_L _ _ _ _ _ [some (.ref 39), o1, o2, o3] [] _ _
  refine am_L.mono (lt211_244 h2) ?_
  rintro o S1 ⟨e, h⟩
  have q : k211_235 s = k211_244 ((k179 s 28 0 0 0).1) := rfl
  rw [q]; exact ⟨e, h⟩
noncomputable def k211_231 (s : kS) : kS × Int32 := k211_235 ((k204 s).1)
theorem lt211_231 {sc : Nat × (Nat → Int32)} {N d : Nat} {S0 S : am_S} {s : kS} {o1 : Option Value} {o2 : Option Value} {o3 : Option Value} (hS : MK S0 S s) : am_L (am_PP sc) N d 211 231 [some (.ref 39), o1, o2, o3] [] S (fun o S1 => o = some none ∧ MK S0 S1 (k211_231 s).1) := by
  refine l2 (v := 39) hi_211_231 rfl ?_
  refine l32 (as := [.ref 39]) (la := [some (.ref 39), none, none, none]) (rest := []) hi_211_232 (am_hd0 (M := 211) (by decide) 232) rfl rfl rfl (fun N' d' _ => lt204 (N := N') (d := d') hS) ?_ (fun _ q => nomatch q.1)
  rintro v3 S1 ⟨ev3, h2⟩
  cases ev3
  show am_L _ _ _ _ _ [some (.ref 39), o1, o2, o3] [] _ _
  refine am_L.mono (lt211_235 h2) ?_
  rintro o S1 ⟨e, h⟩
  have q : k211_231 s = k211_235 ((k204 s).1) := rfl
  rw [q]; exact ⟨e, h⟩
noncomputable def k211_206 (s : kS) : kS × Int32 := ((k212 s 1).1, 0)
theorem lt211_206 {sc : Nat × (Nat → Int32)} {N d : Nat} {S0 S : am_S} {s : kS} {o1 : Option Value} {o2 : Option Value} {o3 : Option Value} (hS : MK S0 S s) : am_L (am_PP sc) N d 211 206 [some (.ref 39), o1, o2, o3] [] S (fun o S1 => o = some none ∧ MK S0 S1 (k211_206 s).1) := by
  refine l2 (v := 39) hi_211_206 rfl ?_
  refine l0 hi_211_207 ?_
  refine l32 (as := [.ref 39, .int 1]) (la := [some (.ref 39), some (.int 1), none]) (rest := []) hi_211_208 (am_hd0 (M := 211) (by decide) 208) rfl rfl rfl (fun N' d' _ => lt212 (N := N') (d := d') hS) ?_ (fun _ q => nomatch q.1)
  rintro v3 S1 ⟨ev3, h2⟩
  cases ev3
  show am_L _ _ _ _ _ [some (.ref 39), o1, o2, o3] [] _ _
  refine l18 hi_211_211 ?_
  refine l35 hi_211_249 ⟨rfl, ?_⟩
  exact h2
noncomputable def k211_197 (s : kS) : kS × Int32 := k211_206 ((k179 s 28 0 0 0).1)
theorem lt211_197 {sc : Nat × (Nat → Int32)} {N d : Nat} {S0 S : am_S} {s : kS} {o1 : Option Value} {o2 : Option Value} {o3 : Option Value} (hS : MK S0 S s) : am_L (am_PP sc) N d 211 197 [some (.ref 39), o1, o2, o3] [] S (fun o S1 => o = some none ∧ MK S0 S1 (k211_197 s).1) := by
  refine l2 (v := 39) hi_211_197 rfl ?_
  refine l0 hi_211_198 ?_
  refine l0 hi_211_200 ?_
  refine l0 hi_211_201 ?_
  refine l0 hi_211_202 ?_
  refine l32 (as := [.ref 39, .int 28, .int 0, .int 0, .int 0]) (la := [some (.ref 39), some (.int 28), some (.int 0), some (.int 0), some (.int 0)]) (rest := []) hi_211_203 (am_hd0 (M := 211) (by decide) 203) rfl rfl rfl (fun N' d' _ => lt179 (N := N') (d := d') hS) ?_ (fun _ q => nomatch q.1)
  rintro v3 S1 ⟨ev3, h2⟩
  cases ev3
  show am_L _ _ _ _ _ [some (.ref 39), o1, o2, o3] [] _ _
  refine am_L.mono (lt211_206 h2) ?_
  rintro o S1 ⟨e, h⟩
  have q : k211_197 s = k211_206 ((k179 s 28 0 0 0).1) := rfl
  rw [q]; exact ⟨e, h⟩
noncomputable def k211_166 (s : kS) (z0 : Int32) : kS × Int32 := if (k183 s) = 60 then k211_197 s else if (k183 s) = 3 then k211_197 s else if (k183 s) = 62 then k211_197 s else ((k194 s 7).1, 0)
theorem lt211_166 {sc : Nat × (Nat → Int32)} {N d : Nat} {S0 S : am_S} {s : kS} {z0 : Int32} {o1 : Option Value} {o2 : Option Value} {o3 : Option Value} (hS : MK S0 S s) : am_L (am_PP sc) N d 211 166 [some (.ref 39), o1, o2, o3] [.int z0] S (fun o S1 => o = some none ∧ MK S0 S1 (k211_166 s z0).1) := by
  refine l6i hi_211_166 ?_
  refine l2 (v := 39) hi_211_167 rfl ?_
  refine l32 (as := [.ref 39]) (la := [some (.ref 39)]) (rest := []) hi_211_168 (am_hd0 (M := 211) (by decide) 168) rfl rfl rfl (fun N' d' _ => lt183 (N := N') (d := d') hS) ?_ (fun _ q => nomatch q.1)
  rintro v3 S1 ⟨ev3, h2⟩
  cases ev3
  show am_L _ _ _ _ _ [some (.ref 39), o1, o2, o3] [.int (k183 s)] _ _
  refine l3 (ls' := [some (.ref 39), o1, o2, some (.int (k183 s))]) hi_211_171 (Nat.le_of_ble_eq_true rfl) rfl ?_
  refine l1 (v := k183 s) hi_211_172 rfl ?_
  refine l0 hi_211_173 ?_
  by_cases c4 : (k183 s) = 60
  · refine l13t hi_211_175 (decide_eq_true c4) ?_
    refine am_L.mono (lt211_197 h2) ?_
    rintro o S1 ⟨e, h⟩
    have q : k211_166 s z0 = k211_197 s := by unfold k211_166; rw [if_pos c4]
    rw [q]; exact ⟨e, h⟩
  · refine l13f hi_211_175 (decide_eq_false c4) ?_
    refine l1 (v := k183 s) hi_211_178 rfl ?_
    refine l0 hi_211_179 ?_
    by_cases c5 : (k183 s) = 3
    · refine l13t hi_211_180 (decide_eq_true c5) ?_
      refine am_L.mono (lt211_197 h2) ?_
      rintro o S1 ⟨e, h⟩
      have q : k211_166 s z0 = k211_197 s := by unfold k211_166; rw [if_neg c4]; rw [if_pos c5]
      rw [q]; exact ⟨e, h⟩
    · refine l13f hi_211_180 (decide_eq_false c5) ?_
      refine l1 (v := k183 s) hi_211_183 rfl ?_
      refine l0 hi_211_184 ?_
      by_cases c6 : (k183 s) = 62
      · refine l13t hi_211_186 (decide_eq_true c6) ?_
        refine am_L.mono (lt211_197 h2) ?_
        rintro o S1 ⟨e, h⟩
        have q : k211_166 s z0 = k211_197 s := by unfold k211_166; rw [if_neg c4]; rw [if_neg c5]; rw [if_pos c6]
        rw [q]; exact ⟨e, h⟩
      · refine l13f hi_211_186 (decide_eq_false c6) ?_
        refine l2 (v := 39) hi_211_189 rfl ?_
        refine l0 hi_211_190 ?_
        refine l32 (as := [.ref 39, .int 7]) (la := [some (.ref 39), some (.int 7)]) (rest := []) hi_211_192 (am_hd0 (M := 211) (by decide) 192) rfl rfl rfl (fun N' d' _ => lt194 (N := N') (d := d') h2) ?_ (fun _ q => nomatch q.1)
        rintro v9 S7 ⟨ev9, h8⟩
        cases ev9
        show am_L _ _ _ _ _ [some (.ref 39), o1, o2, some (.int (k183 s))] [.int ((k194 s 7).2)] _ _
        refine l6i hi_211_195 ?_
        refine l35 hi_211_196 ⟨rfl, ?_⟩
        unfold k211_166; rw [if_neg c4]; rw [if_neg c5]; rw [if_neg c6]; exact h8
noncomputable def k211_146 (s : kS) (y2 : Int32) (z0 : Int32) : kS × Int32 := if z0 ≠ 0 then k211_166 ((k189 s 14 (kr s 2 (y2 + 1)) 0 y2).1) ((k189 s 14 (kr s 2 (y2 + 1)) 0 y2).2) else (s, 0)
theorem lt211_146 {sc : Nat × (Nat → Int32)} {N d : Nat} {S0 S : am_S} {s : kS} {y2 : Int32} {z0 : Int32} {o1 : Option Value} {o3 : Option Value} (hS : MK S0 S s) : am_L (am_PP sc) N d 211 146 [some (.ref 39), o1, some (.int y2), o3] [.int z0] S (fun o S1 => o = some none ∧ MK S0 S1 (k211_146 s y2 z0).1) := by
  by_cases c1 : z0 ≠ 0
  · refine l12t hi_211_146 (decide_eq_true c1) ?_
    refine l2 (v := 39) hi_211_150 rfl ?_
    refine l0 hi_211_151 ?_
    refine l2 (v := 39) hi_211_153 rfl ?_
    refine l20 (v := .ref 41) hS hi_211_154 rfl ?_
    refine l1 (v := y2) hi_211_157 rfl ?_
    refine l0 hi_211_158 ?_
    refine l10 hi_211_159 ?_
    show am_L _ _ _ _ _ [some (.ref 39), o1, some (.int y2), o3] [.int (y2 + 1), .ref 41, .int 14, .ref 39] _ _
    refine l25 hS ma_2 hi_211_160 fun g2 g3 => ?_
    show am_L _ _ _ _ _ [some (.ref 39), o1, some (.int y2), o3] [.int (kr s 2 (y2 + 1)), .int 14, .ref 39] _ _
    refine l0 hi_211_161 ?_
    refine l1 (v := y2) hi_211_162 rfl ?_
    refine l32 (as := [.ref 39, .int 14, .int (kr s 2 (y2 + 1)), .int 0, .int y2]) (la := [some (.ref 39), some (.int 14), some (.int (kr s 2 (y2 + 1))), some (.int 0), some (.int y2)]) (rest := []) hi_211_163 (am_hd0 (M := 211) (by decide) 163) rfl rfl rfl (fun N' d' _ => lt189 (N := N') (d := d') hS) ?_ (fun _ q => nomatch q.1)
    rintro v6 S4 ⟨ev6, h5⟩
    cases ev6
    show am_L _ _ _ _ _ [some (.ref 39), o1, some (.int y2), o3] [.int ((k189 s 14 (kr s 2 (y2 + 1)) 0 y2).2)] _ _
    refine am_L.mono (lt211_166 h5) ?_
    rintro o S1 ⟨e, h⟩
    have q : k211_146 s y2 z0 = k211_166 ((k189 s 14 (kr s 2 (y2 + 1)) 0 y2).1) ((k189 s 14 (kr s 2 (y2 + 1)) 0 y2).2) := by unfold k211_146; rw [if_pos c1]
    rw [q]; exact ⟨e, h⟩
  · refine l12f hi_211_146 (decide_eq_false c1) ?_
    refine l35 hi_211_149 ⟨rfl, ?_⟩
    unfold k211_146; rw [if_neg c1]; exact hS
noncomputable def k211_131 (s : kS) (y2 : Int32) : kS × Int32 := k211_146 ((k200 (kf s 4 ((s.1 4) + 1)) 1).1) y2 ((k200 (kf s 4 ((s.1 4) + 1)) 1).2)
theorem lt211_131 {sc : Nat × (Nat → Int32)} {N d : Nat} {S0 S : am_S} {s : kS} {y2 : Int32} {o1 : Option Value} {o3 : Option Value} (hS : MK S0 S s) : am_L (am_PP sc) N d 211 131 [some (.ref 39), o1, some (.int y2), o3] [] S (fun o S1 => o = some none ∧ MK S0 S1 (k211_131 s y2).1) := by
  refine l2 (v := 39) hi_211_131 rfl ?_
  refine l7 hi_211_132 ?_
  refine l20 (v := .int (s.1 4)) hS hi_211_133 rfl ?_
  refine l0 hi_211_136 ?_
  refine l10 hi_211_137 ?_
  show am_L _ _ _ _ _ [some (.ref 39), o1, some (.int y2), o3] [.int ((s.1 4) + 1), .ref 39] _ _
  refine l21 hS hi_211_138 ms_4 fun S1 h2 => ?_
  refine l2 (v := 39) hi_211_141 rfl ?_
  refine l0 hi_211_142 ?_
  refine l32 (as := [.ref 39, .int 1]) (la := [some (.ref 39), some (.int 1)]) (rest := []) hi_211_143 (am_hd0 (M := 211) (by decide) 143) rfl rfl rfl (fun N' d' _ => lt200 (N := N') (d := d') h2) ?_ (fun _ q => nomatch q.1)
  rintro v5 S3 ⟨ev5, h4⟩
  cases ev5
  show am_L _ _ _ _ _ [some (.ref 39), o1, some (.int y2), o3] [.int ((k200 (kf s 4 ((s.1 4) + 1)) 1).2)] _ _
  refine am_L.mono (lt211_146 h4) ?_
  rintro o S1 ⟨e, h⟩
  have q : k211_131 s y2 = k211_146 ((k200 (kf s 4 ((s.1 4) + 1)) 1).1) y2 ((k200 (kf s 4 ((s.1 4) + 1)) 1).2) := rfl
  rw [q]; exact ⟨e, h⟩
noncomputable def k211_113 (s : kS) : kS × Int32 := ((k186 s 0).1, 0)
theorem lt211_113 {sc : Nat × (Nat → Int32)} {N d : Nat} {S0 S : am_S} {s : kS} {o1 : Option Value} {o2 : Option Value} {o3 : Option Value} (hS : MK S0 S s) : am_L (am_PP sc) N d 211 113 [some (.ref 39), o1, o2, o3] [] S (fun o S1 => o = some none ∧ MK S0 S1 (k211_113 s).1) := by
  refine l2 (v := 39) hi_211_113 rfl ?_
  refine l0 hi_211_114 ?_
  refine l32 (as := [.ref 39, .int 0]) (la := [some (.ref 39), some (.int 0)]) (rest := []) hi_211_115 (am_hd0 (M := 211) (by decide) 115) rfl rfl rfl (fun N' d' _ => lt186 (N := N') (d := d') hS) ?_ (fun _ q => nomatch q.1)
  rintro v3 S1 ⟨ev3, h2⟩
  cases ev3
  show am_L _ _ _ _ _ [some (.ref 39), o1, o2, o3] [] _ _
  refine l18 hi_211_118 ?_
  refine l35 hi_211_249 ⟨rfl, ?_⟩
  exact h2
noncomputable def k211_104 (s : kS) (y2 : Int32) : kS × Int32 := k211_113 ((k179 s 30 y2 0 0).1)
theorem lt211_104 {sc : Nat × (Nat → Int32)} {N d : Nat} {S0 S : am_S} {s : kS} {y2 : Int32} {o1 : Option Value} {o3 : Option Value} (hS : MK S0 S s) : am_L (am_PP sc) N d 211 104 [some (.ref 39), o1, some (.int y2), o3] [] S (fun o S1 => o = some none ∧ MK S0 S1 (k211_104 s y2).1) := by
  refine l2 (v := 39) hi_211_104 rfl ?_
  refine l0 hi_211_105 ?_
  refine l1 (v := y2) hi_211_107 rfl ?_
  refine l0 hi_211_108 ?_
  refine l0 hi_211_109 ?_
  refine l32 (as := [.ref 39, .int 30, .int y2, .int 0, .int 0]) (la := [some (.ref 39), some (.int 30), some (.int y2), some (.int 0), some (.int 0)]) (rest := []) hi_211_110 (am_hd0 (M := 211) (by decide) 110) rfl rfl rfl (fun N' d' _ => lt179 (N := N') (d := d') hS) ?_ (fun _ q => nomatch q.1)
  rintro v3 S1 ⟨ev3, h2⟩
  cases ev3
  show am_L _ _ _ _ _ [some (.ref 39), o1, some (.int y2), o3] [] _ _
  refine am_L.mono (lt211_113 h2) ?_
  rintro o S1 ⟨e, h⟩
  have q : k211_104 s y2 = k211_113 ((k179 s 30 y2 0 0).1) := rfl
  rw [q]; exact ⟨e, h⟩
noncomputable def k211_91 (s : kS) (y2 : Int32) (z0 : Int32) : kS × Int32 := if z0 ≠ 0 then k211_104 ((k179 s 28 0 0 0).1) y2 else (s, 0)
theorem lt211_91 {sc : Nat × (Nat → Int32)} {N d : Nat} {S0 S : am_S} {s : kS} {y2 : Int32} {z0 : Int32} {o1 : Option Value} {o3 : Option Value} (hS : MK S0 S s) : am_L (am_PP sc) N d 211 91 [some (.ref 39), o1, some (.int y2), o3] [.int z0] S (fun o S1 => o = some none ∧ MK S0 S1 (k211_91 s y2 z0).1) := by
  by_cases c1 : z0 ≠ 0
  · refine l12t hi_211_91 (decide_eq_true c1) ?_
    refine l2 (v := 39) hi_211_95 rfl ?_
    refine l0 hi_211_96 ?_
    refine l0 hi_211_98 ?_
    refine l0 hi_211_99 ?_
    refine l0 hi_211_100 ?_
    refine l32 (as := [.ref 39, .int 28, .int 0, .int 0, .int 0]) (la := [some (.ref 39), some (.int 28), some (.int 0), some (.int 0), some (.int 0)]) (rest := []) hi_211_101 (am_hd0 (M := 211) (by decide) 101) rfl rfl rfl (fun N' d' _ => lt179 (N := N') (d := d') hS) ?_ (fun _ q => nomatch q.1)
    rintro v4 S2 ⟨ev4, h3⟩
    cases ev4
    show am_L _ _ _ _ _ [some (.ref 39), o1, some (.int y2), o3] [] _ _
    refine am_L.mono (lt211_104 h3) ?_
    rintro o S1 ⟨e, h⟩
    have q : k211_91 s y2 z0 = k211_104 ((k179 s 28 0 0 0).1) y2 := by unfold k211_91; rw [if_pos c1]
    rw [q]; exact ⟨e, h⟩
  · refine l12f hi_211_91 (decide_eq_false c1) ?_
    refine l35 hi_211_94 ⟨rfl, ?_⟩
    unfold k211_91; rw [if_neg c1]; exact hS
noncomputable def k211_85 (s : kS) (y2 : Int32) : kS × Int32 := k211_91 ((k193 s 64).1) y2 ((k193 s 64).2)
theorem lt211_85 {sc : Nat × (Nat → Int32)} {N d : Nat} {S0 S : am_S} {s : kS} {y2 : Int32} {o1 : Option Value} {o3 : Option Value} (hS : MK S0 S s) : am_L (am_PP sc) N d 211 85 [some (.ref 39), o1, some (.int y2), o3] [] S (fun o S1 => o = some none ∧ MK S0 S1 (k211_85 s y2).1) := by
  refine l2 (v := 39) hi_211_85 rfl ?_
  refine l0 hi_211_86 ?_
  refine l32 (as := [.ref 39, .int 64]) (la := [some (.ref 39), some (.int 64)]) (rest := []) hi_211_88 (am_hd0 (M := 211) (by decide) 88) rfl rfl rfl (fun N' d' _ => lt193 (N := N') (d := d') hS) ?_ (fun _ q => nomatch q.1)
  rintro v3 S1 ⟨ev3, h2⟩
  cases ev3
  show am_L _ _ _ _ _ [some (.ref 39), o1, some (.int y2), o3] [.int ((k193 s 64).2)] _ _
  refine am_L.mono (lt211_91 h2) ?_
  rintro o S1 ⟨e, h⟩
  have q : k211_85 s y2 = k211_91 ((k193 s 64).1) y2 ((k193 s 64).2) := rfl
  rw [q]; exact ⟨e, h⟩
noncomputable def k211_63 (s : kS) : kS × Int32 := ((k179 s 28 0 0 0).1, 0)
theorem lt211_63 {sc : Nat × (Nat → Int32)} {N d : Nat} {S0 S : am_S} {s : kS} {o1 : Option Value} {o2 : Option Value} {o3 : Option Value} (hS : MK S0 S s) : am_L (am_PP sc) N d 211 63 [some (.ref 39), o1, o2, o3] [] S (fun o S1 => o = some none ∧ MK S0 S1 (k211_63 s).1) := by
  refine l2 (v := 39) hi_211_63 rfl ?_
  refine l0 hi_211_64 ?_
  refine l0 hi_211_66 ?_
  refine l0 hi_211_67 ?_
  refine l0 hi_211_68 ?_
  refine l32 (as := [.ref 39, .int 28, .int 0, .int 0, .int 0]) (la := [some (.ref 39), some (.int 28), some (.int 0), some (.int 0), some (.int 0)]) (rest := []) hi_211_69 (am_hd0 (M := 211) (by decide) 69) rfl rfl rfl (fun N' d' _ => lt179 (N := N') (d := d') hS) ?_ (fun _ q => nomatch q.1)
  rintro v3 S1 ⟨ev3, h2⟩
  cases ev3
  show am_L _ _ _ _ _ [some (.ref 39), o1, o2, o3] [] _ _
  refine l18 hi_211_72 ?_
  refine l35 hi_211_249 ⟨rfl, ?_⟩
  exact h2
noncomputable def k211_35 (s : kS) (y2 : Int32) (z0 : Int32) : kS × Int32 := if z0 ≠ 0 then k211_63 ((k190 (kf s 15 ((s.1 15) - 1)) 5 (kr s 2 (y2 + 1)) y2).1) else (s, 0)
theorem lt211_35 {sc : Nat × (Nat → Int32)} {N d : Nat} {S0 S : am_S} {s : kS} {y2 : Int32} {z0 : Int32} {o1 : Option Value} {o3 : Option Value} (hS : MK S0 S s) : am_L (am_PP sc) N d 211 35 [some (.ref 39), o1, some (.int y2), o3] [.int z0] S (fun o S1 => o = some none ∧ MK S0 S1 (k211_35 s y2 z0).1) := by
  by_cases c1 : z0 ≠ 0
  · refine l12t hi_211_35 (decide_eq_true c1) ?_
    refine l2 (v := 39) hi_211_39 rfl ?_
    refine l7 hi_211_40 ?_
    refine l20 (v := .int (s.1 15)) hS hi_211_41 rfl ?_
    refine l0 hi_211_44 ?_
    refine l10 hi_211_45 ?_
    show am_L _ _ _ _ _ [some (.ref 39), o1, some (.int y2), o3] [.int ((s.1 15) - 1), .ref 39] _ _
    refine l21 hS hi_211_46 ms_15 fun S2 h3 => ?_
    refine l2 (v := 39) hi_211_49 rfl ?_
    refine l0 hi_211_50 ?_
    refine l2 (v := 39) hi_211_51 rfl ?_
    refine l20 (v := .ref 41) h3 hi_211_52 rfl ?_
    refine l1 (v := y2) hi_211_55 rfl ?_
    refine l0 hi_211_56 ?_
    refine l10 hi_211_57 ?_
    show am_L _ _ _ _ _ [some (.ref 39), o1, some (.int y2), o3] [.int (y2 + 1), .ref 41, .int 5, .ref 39] _ _
    refine l25 h3 ma_2 hi_211_58 fun g4 g5 => ?_
    show am_L _ _ _ _ _ [some (.ref 39), o1, some (.int y2), o3] [.int (kr s 2 (y2 + 1)), .int 5, .ref 39] _ _
    refine l1 (v := y2) hi_211_59 rfl ?_
    refine l32 (as := [.ref 39, .int 5, .int (kr s 2 (y2 + 1)), .int y2]) (la := [some (.ref 39), some (.int 5), some (.int (kr s 2 (y2 + 1))), some (.int y2)]) (rest := []) hi_211_60 (am_hd0 (M := 211) (by decide) 60) rfl rfl rfl (fun N' d' _ => lt190 (N := N') (d := d') h3) ?_ (fun _ q => nomatch q.1)
    rintro v8 S6 ⟨ev8, h7⟩
    cases ev8
    show am_L _ _ _ _ _ [some (.ref 39), o1, some (.int y2), o3] [] _ _
    refine am_L.mono (lt211_63 h7) ?_
    rintro o S1 ⟨e, h⟩
    have q : k211_35 s y2 z0 = k211_63 ((k190 (kf s 15 ((s.1 15) - 1)) 5 (kr s 2 (y2 + 1)) y2).1) := by unfold k211_35; rw [if_pos c1]
    rw [q]; exact ⟨e, h⟩
  · refine l12f hi_211_35 (decide_eq_false c1) ?_
    refine l35 hi_211_38 ⟨rfl, ?_⟩
    unfold k211_35; rw [if_neg c1]; exact hS
noncomputable def k211_20 (s : kS) (y2 : Int32) : kS × Int32 := k211_35 ((k200 (kf s 4 ((s.1 4) + 1)) 1).1) y2 ((k200 (kf s 4 ((s.1 4) + 1)) 1).2)
theorem lt211_20 {sc : Nat × (Nat → Int32)} {N d : Nat} {S0 S : am_S} {s : kS} {y2 : Int32} {o1 : Option Value} {o3 : Option Value} (hS : MK S0 S s) : am_L (am_PP sc) N d 211 20 [some (.ref 39), o1, some (.int y2), o3] [] S (fun o S1 => o = some none ∧ MK S0 S1 (k211_20 s y2).1) := by
  refine l2 (v := 39) hi_211_20 rfl ?_
  refine l7 hi_211_21 ?_
  refine l20 (v := .int (s.1 4)) hS hi_211_22 rfl ?_
  refine l0 hi_211_25 ?_
  refine l10 hi_211_26 ?_
  show am_L _ _ _ _ _ [some (.ref 39), o1, some (.int y2), o3] [.int ((s.1 4) + 1), .ref 39] _ _
  refine l21 hS hi_211_27 ms_4 fun S1 h2 => ?_
  refine l2 (v := 39) hi_211_30 rfl ?_
  refine l0 hi_211_31 ?_
  refine l32 (as := [.ref 39, .int 1]) (la := [some (.ref 39), some (.int 1)]) (rest := []) hi_211_32 (am_hd0 (M := 211) (by decide) 32) rfl rfl rfl (fun N' d' _ => lt200 (N := N') (d := d') h2) ?_ (fun _ q => nomatch q.1)
  rintro v5 S3 ⟨ev5, h4⟩
  cases ev5
  show am_L _ _ _ _ _ [some (.ref 39), o1, some (.int y2), o3] [.int ((k200 (kf s 4 ((s.1 4) + 1)) 1).2)] _ _
  refine am_L.mono (lt211_35 h4) ?_
  rintro o S1 ⟨e, h⟩
  have q : k211_20 s y2 = k211_35 ((k200 (kf s 4 ((s.1 4) + 1)) 1).1) y2 ((k200 (kf s 4 ((s.1 4) + 1)) 1).2) := rfl
  rw [q]; exact ⟨e, h⟩
/-- suffix()V -/
noncomputable def k211 (s : kS) : kS × Int32 := if (k183 s) ≠ 70 then if (k183 s) ≠ 64 then if (k183 s) ≠ 68 then if (k183 s) = 60 then k211_231 s else if (k183 s) = 3 then k211_231 s else if (k183 s) ≠ 62 then (s, 0) else k211_231 s else k211_131 ((k204 s).1) (s.1 4) else k211_85 ((k204 s).1) (s.1 4) else k211_20 ((k204 s).1) (s.1 4)
theorem lt211 {sc : Nat × (Nat → Int32)} {N d : Nat} {S0 S : am_S} {s : kS} (hS : MK S0 S s) : am_L (am_PP sc) N d 211 0 [some (.ref 39), none, none, none] [] S (fun o S1 => o = some none ∧ MK S0 S1 (k211 s).1) := by
  refine l2 (v := 39) hi_211_0 rfl ?_
  refine l32 (as := [.ref 39]) (la := [some (.ref 39)]) (rest := []) hi_211_1 (am_hd0 (M := 211) (by decide) 1) rfl rfl rfl (fun N' d' _ => lt183 (N := N') (d := d') hS) ?_ (fun _ q => nomatch q.1)
  rintro v3 S1 ⟨ev3, h2⟩
  cases ev3
  show am_L _ _ _ _ _ [some (.ref 39), none, none, none] [.int (k183 s)] _ _
  refine l3 (ls' := [some (.ref 39), some (.int (k183 s)), none, none]) hi_211_4 (Nat.le_of_ble_eq_true rfl) rfl ?_
  refine l2 (v := 39) hi_211_5 rfl ?_
  refine l20 (v := .int (s.1 4)) h2 hi_211_6 rfl ?_
  refine l3 (ls' := [some (.ref 39), some (.int (k183 s)), some (.int (s.1 4)), none]) hi_211_9 (Nat.le_of_ble_eq_true rfl) rfl ?_
  refine l1 (v := k183 s) hi_211_10 rfl ?_
  refine l0 hi_211_11 ?_
  by_cases c4 : (k183 s) ≠ 70
  · refine l13t hi_211_13 (decide_eq_true c4) ?_
    refine l1 (v := k183 s) hi_211_75 rfl ?_
    refine l0 hi_211_76 ?_
    by_cases c5 : (k183 s) ≠ 64
    · refine l13t hi_211_78 (decide_eq_true c5) ?_
      refine l1 (v := k183 s) hi_211_121 rfl ?_
      refine l0 hi_211_122 ?_
      by_cases c6 : (k183 s) ≠ 68
      · refine l13t hi_211_124 (decide_eq_true c6) ?_
        refine l1 (v := k183 s) hi_211_214 rfl ?_
        refine l0 hi_211_215 ?_
        by_cases c7 : (k183 s) = 60
        · refine l13t hi_211_217 (decide_eq_true c7) ?_
          refine am_L.mono (lt211_231 h2) ?_
          rintro o S1 ⟨e, h⟩
          have q : k211 s = k211_231 s := by unfold k211; rw [if_pos c4]; rw [if_pos c5]; rw [if_pos c6]; rw [if_pos c7]
          rw [q]; exact ⟨e, h⟩
        · refine l13f hi_211_217 (decide_eq_false c7) ?_
          refine l1 (v := k183 s) hi_211_220 rfl ?_
          refine l0 hi_211_221 ?_
          by_cases c8 : (k183 s) = 3
          · refine l13t hi_211_222 (decide_eq_true c8) ?_
            refine am_L.mono (lt211_231 h2) ?_
            rintro o S1 ⟨e, h⟩
            have q : k211 s = k211_231 s := by unfold k211; rw [if_pos c4]; rw [if_pos c5]; rw [if_pos c6]; rw [if_neg c7]; rw [if_pos c8]
            rw [q]; exact ⟨e, h⟩
          · refine l13f hi_211_222 (decide_eq_false c8) ?_
            refine l1 (v := k183 s) hi_211_225 rfl ?_
            refine l0 hi_211_226 ?_
            by_cases c9 : (k183 s) ≠ 62
            · refine l13t hi_211_228 (decide_eq_true c9) ?_
              refine l35 hi_211_249 ⟨rfl, ?_⟩
              unfold k211; rw [if_pos c4]; rw [if_pos c5]; rw [if_pos c6]; rw [if_neg c7]; rw [if_neg c8]; rw [if_pos c9]; exact h2
            · refine l13f hi_211_228 (decide_eq_false c9) ?_
              refine am_L.mono (lt211_231 h2) ?_
              rintro o S1 ⟨e, h⟩
              have q : k211 s = k211_231 s := by unfold k211; rw [if_pos c4]; rw [if_pos c5]; rw [if_pos c6]; rw [if_neg c7]; rw [if_neg c8]; rw [if_neg c9]
              rw [q]; exact ⟨e, h⟩
      · refine l13f hi_211_124 (decide_eq_false c6) ?_
        refine l2 (v := 39) hi_211_127 rfl ?_
        refine l32 (as := [.ref 39]) (la := [some (.ref 39), none, none, none]) (rest := []) hi_211_128 (am_hd0 (M := 211) (by decide) 128) rfl rfl rfl (fun N' d' _ => lt204 (N := N') (d := d') h2) ?_ (fun _ q => nomatch q.1)
        rintro v12 S10 ⟨ev12, h11⟩
        cases ev12
        show am_L _ _ _ _ _ [some (.ref 39), some (.int (k183 s)), some (.int (s.1 4)), none] [] _ _
        refine am_L.mono (lt211_131 h11) ?_
        rintro o S1 ⟨e, h⟩
        have q : k211 s = k211_131 ((k204 s).1) (s.1 4) := by unfold k211; rw [if_pos c4]; rw [if_pos c5]; rw [if_neg c6]
        rw [q]; exact ⟨e, h⟩
    · refine l13f hi_211_78 (decide_eq_false c5) ?_
      refine l2 (v := 39) hi_211_81 rfl ?_
      refine l32 (as := [.ref 39]) (la := [some (.ref 39), none, none, none]) (rest := []) hi_211_82 (am_hd0 (M := 211) (by decide) 82) rfl rfl rfl (fun N' d' _ => lt204 (N := N') (d := d') h2) ?_ (fun _ q => nomatch q.1)
      rintro v15 S13 ⟨ev15, h14⟩
      cases ev15
      show am_L _ _ _ _ _ [some (.ref 39), some (.int (k183 s)), some (.int (s.1 4)), none] [] _ _
      refine am_L.mono (lt211_85 h14) ?_
      rintro o S1 ⟨e, h⟩
      have q : k211 s = k211_85 ((k204 s).1) (s.1 4) := by unfold k211; rw [if_pos c4]; rw [if_neg c5]
      rw [q]; exact ⟨e, h⟩
  · refine l13f hi_211_13 (decide_eq_false c4) ?_
    refine l2 (v := 39) hi_211_16 rfl ?_
    refine l32 (as := [.ref 39]) (la := [some (.ref 39), none, none, none]) (rest := []) hi_211_17 (am_hd0 (M := 211) (by decide) 17) rfl rfl rfl (fun N' d' _ => lt204 (N := N') (d := d') h2) ?_ (fun _ q => nomatch q.1)
    rintro v18 S16 ⟨ev18, h17⟩
    cases ev18
    show am_L _ _ _ _ _ [some (.ref 39), some (.int (k183 s)), some (.int (s.1 4)), none] [] _ _
    refine am_L.mono (lt211_20 h17) ?_
    rintro o S1 ⟨e, h⟩
    have q : k211 s = k211_20 ((k204 s).1) (s.1 4) := by unfold k211; rw [if_neg c4]
    rw [q]; exact ⟨e, h⟩
/-- isOpen()Z -/
def k216 (s : kS) : Int32 := if (kr s 16 ((s.1 15) - 1)) = 1 then 1 else if (kr s 16 ((s.1 15) - 1)) ≠ 2 then 0 else 1
theorem lt216 {sc : Nat × (Nat → Int32)} {N d : Nat} {S0 S : am_S} {s : kS} (hS : MK S0 S s) : am_L (am_PP sc) N d 216 0 [some (.ref 39)] [] S (fun o S1 => o = some (some (.int (k216 s))) ∧ MK S0 S1 s) := by
  refine l2 (v := 39) hi_216_0 rfl ?_
  refine l20 (v := .ref 46) hS hi_216_1 rfl ?_
  refine l2 (v := 39) hi_216_4 rfl ?_
  refine l20 (v := .int (s.1 15)) hS hi_216_5 rfl ?_
  refine l0 hi_216_8 ?_
  refine l10 hi_216_9 ?_
  show am_L _ _ _ _ _ [some (.ref 39)] [.int ((s.1 15) - 1), .ref 46] _ _
  refine l25 hS ma_16 hi_216_10 fun g1 g2 => ?_
  show am_L _ _ _ _ _ [some (.ref 39)] [.int (kr s 16 ((s.1 15) - 1))] _ _
  refine l0 hi_216_11 ?_
  by_cases c3 : (kr s 16 ((s.1 15) - 1)) = 1
  · refine l13t hi_216_12 (decide_eq_true c3) ?_
    refine l0 hi_216_30 ?_
    refine l18 hi_216_31 ?_
    refine l36 hi_216_35 fun _ => ⟨?_, ?_⟩
    · unfold k216; rw [if_pos c3]
    · exact hS
  · refine l13f hi_216_12 (decide_eq_false c3) ?_
    refine l2 (v := 39) hi_216_15 rfl ?_
    refine l20 (v := .ref 46) hS hi_216_16 rfl ?_
    refine l2 (v := 39) hi_216_19 rfl ?_
    refine l20 (v := .int (s.1 15)) hS hi_216_20 rfl ?_
    refine l0 hi_216_23 ?_
    refine l10 hi_216_24 ?_
    show am_L _ _ _ _ _ [some (.ref 39)] [.int ((s.1 15) - 1), .ref 46] _ _
    refine l25 hS ma_16 hi_216_25 fun g4 g5 => ?_
    show am_L _ _ _ _ _ [some (.ref 39)] [.int (kr s 16 ((s.1 15) - 1))] _ _
    refine l0 hi_216_26 ?_
    by_cases c6 : (kr s 16 ((s.1 15) - 1)) ≠ 2
    · refine l13t hi_216_27 (decide_eq_true c6) ?_
      refine l0 hi_216_34 ?_
      refine l36 hi_216_35 fun _ => ⟨?_, ?_⟩
      · unfold k216; rw [if_neg c3]; rw [if_pos c6]
      · exact hS
    · refine l13f hi_216_27 (decide_eq_false c6) ?_
      refine l0 hi_216_30 ?_
      refine l18 hi_216_31 ?_
      refine l36 hi_216_35 fun _ => ⟨?_, ?_⟩
      · unfold k216; rw [if_neg c3]; rw [if_neg c6]
      · exact hS
def k217_46 (s : kS) (z0 : Int32) (z1 : Int32) : kS × Int32 := (kf (ka s 72 z1 z0) 15 ((s.1 15) - 1), 0)
theorem lt217_46 {sc : Nat × (Nat → Int32)} {N d : Nat} {S0 S : am_S} {s : kS} {z0 : Int32} {z1 : Int32} {o1 : Option Value} (hS : MK S0 S s) : am_L (am_PP sc) N d 217 46 [some (.ref 39), o1] [.int z0, .int z1, .ref 91] S (fun o S1 => o = some none ∧ MK S0 S1 (k217_46 s z0 z1).1) := by
  refine l26 hS ma_72 hi_217_46 fun S3 h4 g1 g2 => ?_
  refine l2 (v := 39) hi_217_47 rfl ?_
  refine l7 hi_217_48 ?_
  refine l20 (v := .int (s.1 15)) h4 hi_217_49 rfl ?_
  refine l0 hi_217_52 ?_
  refine l10 hi_217_53 ?_
  show am_L _ _ _ _ _ [some (.ref 39), o1] [.int ((s.1 15) - 1), .ref 39] _ _
  refine l21 h4 hi_217_54 ms_15 fun S5 h6 => ?_
  refine l35 hi_217_57 ⟨rfl, ?_⟩
  exact h6
/-- openAway()V -/
def k217 (s : kS) : kS × Int32 := if (kr s 16 ((s.1 15) - 1)) ≠ 1 then k217_46 s 0 (kr s 17 ((s.1 15) - 1)) else k217_46 s (((kr s 72 (kr s 17 ((s.1 15) - 1))) &&& 1) ||| 4) (kr s 17 ((s.1 15) - 1))
theorem lt217 {sc : Nat × (Nat → Int32)} {N d : Nat} {S0 S : am_S} {s : kS} (hS : MK S0 S s) : am_L (am_PP sc) N d 217 0 [some (.ref 39), none] [] S (fun o S1 => o = some none ∧ MK S0 S1 (k217 s).1) := by
  refine l2 (v := 39) hi_217_0 rfl ?_
  refine l20 (v := .ref 47) hS hi_217_1 rfl ?_
  refine l2 (v := 39) hi_217_4 rfl ?_
  refine l20 (v := .int (s.1 15)) hS hi_217_5 rfl ?_
  refine l0 hi_217_8 ?_
  refine l10 hi_217_9 ?_
  show am_L _ _ _ _ _ [some (.ref 39), none] [.int ((s.1 15) - 1), .ref 47] _ _
  refine l25 hS ma_17 hi_217_10 fun g1 g2 => ?_
  show am_L _ _ _ _ _ [some (.ref 39), none] [.int (kr s 17 ((s.1 15) - 1))] _ _
  refine l3 (ls' := [some (.ref 39), some (.int (kr s 17 ((s.1 15) - 1)))]) hi_217_11 (Nat.le_of_ble_eq_true rfl) rfl ?_
  refine l2 (v := 39) hi_217_12 rfl ?_
  refine l20 (v := .ref 91) hS hi_217_13 rfl ?_
  refine l1 (v := kr s 17 ((s.1 15) - 1)) hi_217_16 rfl ?_
  refine l2 (v := 39) hi_217_17 rfl ?_
  refine l20 (v := .ref 46) hS hi_217_18 rfl ?_
  refine l2 (v := 39) hi_217_21 rfl ?_
  refine l20 (v := .int (s.1 15)) hS hi_217_22 rfl ?_
  refine l0 hi_217_25 ?_
  refine l10 hi_217_26 ?_
  show am_L _ _ _ _ _ [some (.ref 39), some (.int (kr s 17 ((s.1 15) - 1)))] [.int ((s.1 15) - 1), .ref 46, .int (kr s 17 ((s.1 15) - 1)), .ref 91] _ _
  refine l25 hS ma_16 hi_217_27 fun g3 g4 => ?_
  show am_L _ _ _ _ _ [some (.ref 39), some (.int (kr s 17 ((s.1 15) - 1)))] [.int (kr s 16 ((s.1 15) - 1)), .int (kr s 17 ((s.1 15) - 1)), .ref 91] _ _
  refine l0 hi_217_28 ?_
  by_cases c5 : (kr s 16 ((s.1 15) - 1)) ≠ 1
  · refine l13t hi_217_29 (decide_eq_true c5) ?_
    refine l0 hi_217_45 ?_
    refine am_L.mono (lt217_46 hS) ?_
    rintro o S1 ⟨e, h⟩
    have q : k217 s = k217_46 s 0 (kr s 17 ((s.1 15) - 1)) := by unfold k217; rw [if_pos c5]
    rw [q]; exact ⟨e, h⟩
  · refine l13f hi_217_29 (decide_eq_false c5) ?_
    refine l2 (v := 39) hi_217_32 rfl ?_
    refine l20 (v := .ref 91) hS hi_217_33 rfl ?_
    refine l1 (v := kr s 17 ((s.1 15) - 1)) hi_217_36 rfl ?_
    refine l25 hS ma_72 hi_217_37 fun g6 g7 => ?_
    show am_L _ _ _ _ _ [some (.ref 39), some (.int (kr s 17 ((s.1 15) - 1)))] [.int (kr s 72 (kr s 17 ((s.1 15) - 1))), .int (kr s 17 ((s.1 15) - 1)), .ref 91] _ _
    refine l0 hi_217_38 ?_
    refine l10 hi_217_39 ?_
    show am_L _ _ _ _ _ [some (.ref 39), some (.int (kr s 17 ((s.1 15) - 1)))] [.int ((kr s 72 (kr s 17 ((s.1 15) - 1))) &&& 1), .int (kr s 17 ((s.1 15) - 1)), .ref 91] _ _
    refine l0 hi_217_40 ?_
    refine l10 hi_217_41 ?_
    show am_L _ _ _ _ _ [some (.ref 39), some (.int (kr s 17 ((s.1 15) - 1)))] [.int (((kr s 72 (kr s 17 ((s.1 15) - 1))) &&& 1) ||| 4), .int (kr s 17 ((s.1 15) - 1)), .ref 91] _ _
    refine l18 hi_217_42 ?_
    refine am_L.mono (lt217_46 hS) ?_
    rintro o S1 ⟨e, h⟩
    have q : k217 s = k217_46 s (((kr s 72 (kr s 17 ((s.1 15) - 1))) &&& 1) ||| 4) (kr s 17 ((s.1 15) - 1)) := by unfold k217; rw [if_neg c5]
    rw [q]; exact ⟨e, h⟩
noncomputable def k215_54 (s : kS) (y2 : Int32) (y4 : Int32) (z0 : Int32) : kS × Int32 := if y4 = 0 then ((k213 s z0 0 y2).1, 0) else ((k213 s z0 1 y2).1, 0)
theorem lt215_54 {sc : Nat × (Nat → Int32)} {N d : Nat} {S0 S : am_S} {s : kS} {y2 : Int32} {y4 : Int32} {z0 : Int32} {o1 : Option Value} {o3 : Option Value} (hS : MK S0 S s) : am_L (am_PP sc) N d 215 54 [some (.ref 39), o1, some (.int y2), o3, some (.int y4)] [.int z0, .ref 39] S (fun o S1 => o = some none ∧ MK S0 S1 (k215_54 s y2 y4 z0).1) := by
  refine l1 (v := y4) hi_215_54 rfl ?_
  by_cases c1 : y4 = 0
  · refine l12t hi_215_56 (decide_eq_true c1) ?_
    refine l0 hi_215_63 ?_
    refine l1 (v := y2) hi_215_64 rfl ?_
    refine l32 (as := [.ref 39, .int z0, .int 0, .int y2]) (la := [some (.ref 39), some (.int z0), some (.int 0), some (.int y2), none]) (rest := []) hi_215_65 (am_hd0 (M := 215) (by decide) 65) rfl rfl rfl (fun N' d' _ => lt213 (N := N') (d := d') hS) ?_ (fun _ q => nomatch q.1)
    rintro v4 S2 ⟨ev4, h3⟩
    cases ev4
    show am_L _ _ _ _ _ [some (.ref 39), o1, some (.int y2), o3, some (.int y4)] [] _ _
    refine l35 hi_215_68 ⟨rfl, ?_⟩
    unfold k215_54; rw [if_pos c1]; exact h3
  · refine l12f hi_215_56 (decide_eq_false c1) ?_
    refine l0 hi_215_59 ?_
    refine l18 hi_215_60 ?_
    refine l1 (v := y2) hi_215_64 rfl ?_
    refine l32 (as := [.ref 39, .int z0, .int 1, .int y2]) (la := [some (.ref 39), some (.int z0), some (.int 1), some (.int y2), none]) (rest := []) hi_215_65 (am_hd0 (M := 215) (by decide) 65) rfl rfl rfl (fun N' d' _ => lt213 (N := N') (d := d') hS) ?_ (fun _ q => nomatch q.1)
    rintro v7 S5 ⟨ev7, h6⟩
    cases ev7
    show am_L _ _ _ _ _ [some (.ref 39), o1, some (.int y2), o3, some (.int y4)] [] _ _
    refine l35 hi_215_68 ⟨rfl, ?_⟩
    unfold k215_54; rw [if_neg c1]; exact h6
noncomputable def k215_37 (s : kS) (y1 : Int32) (y2 : Int32) (y3 : Int32) (y4 : Int32) : kS × Int32 := if y4 = 0 then k215_54 s y2 y4 (y3 + y1) else k215_54 s y2 y4 ((y3 - 1) + y1)
theorem lt215_37 {sc : Nat × (Nat → Int32)} {N d : Nat} {S0 S : am_S} {s : kS} {y1 : Int32} {y2 : Int32} {y3 : Int32} {y4 : Int32} (hS : MK S0 S s) : am_L (am_PP sc) N d 215 37 [some (.ref 39), some (.int y1), some (.int y2), some (.int y3), some (.int y4)] [] S (fun o S1 => o = some none ∧ MK S0 S1 (k215_37 s y1 y2 y3 y4).1) := by
  refine l2 (v := 39) hi_215_37 rfl ?_
  refine l1 (v := y4) hi_215_38 rfl ?_
  by_cases c1 : y4 = 0
  · refine l12t hi_215_40 (decide_eq_true c1) ?_
    refine l1 (v := y3) hi_215_51 rfl ?_
    refine l1 (v := y1) hi_215_52 rfl ?_
    refine l10 hi_215_53 ?_
    show am_L _ _ _ _ _ [some (.ref 39), some (.int y1), some (.int y2), some (.int y3), some (.int y4)] [.int (y3 + y1), .ref 39] _ _
    refine am_L.mono (lt215_54 hS) ?_
    rintro o S1 ⟨e, h⟩
    have q : k215_37 s y1 y2 y3 y4 = k215_54 s y2 y4 (y3 + y1) := by unfold k215_37; rw [if_pos c1]
    rw [q]; exact ⟨e, h⟩
  · refine l12f hi_215_40 (decide_eq_false c1) ?_
    refine l1 (v := y3) hi_215_43 rfl ?_
    refine l0 hi_215_44 ?_
    refine l10 hi_215_45 ?_
    show am_L _ _ _ _ _ [some (.ref 39), some (.int y1), some (.int y2), some (.int y3), some (.int y4)] [.int (y3 - 1), .ref 39] _ _
    refine l1 (v := y1) hi_215_46 rfl ?_
    refine l10 hi_215_47 ?_
    show am_L _ _ _ _ _ [some (.ref 39), some (.int y1), some (.int y2), some (.int y3), some (.int y4)] [.int ((y3 - 1) + y1), .ref 39] _ _
    refine l18 hi_215_48 ?_
    refine am_L.mono (lt215_54 hS) ?_
    rintro o S1 ⟨e, h⟩
    have q : k215_37 s y1 y2 y3 y4 = k215_54 s y2 y4 ((y3 - 1) + y1) := by unfold k215_37; rw [if_neg c1]
    rw [q]; exact ⟨e, h⟩
noncomputable def k215_30 (s : kS) (y1 : Int32) (y2 : Int32) (y3 : Int32) (y4 : Int32) : kS × Int32 := k215_37 s y1 y2 y3 y4
theorem lt215_30 {sc : Nat × (Nat → Int32)} {N d : Nat} {S0 S : am_S} {s : kS} {y1 : Int32} {y2 : Int32} {y3 : Int32} {y4 : Int32} (hS : MK S0 S s) : am_L (am_PP sc) N d 215 30 [some (.ref 39), some (.int y1), some (.int y2), some (.int y3), some (.int y4)] [] S (fun o S1 => o = some none ∧ MK S0 S1 (k215_30 s y1 y2 y3 y4).1) := by
  refine l18 hi_215_30 ?_
  refine am_L.mono (lt215_37 hS) ?_
  rintro o S1 ⟨e, h⟩
  have q : k215_30 s y1 y2 y3 y4 = k215_37 s y1 y2 y3 y4 := rfl
  rw [q]; exact ⟨e, h⟩
noncomputable def k215_11 (s : kS) (y1 : Int32) (y2 : Int32) (y3 : Int32) (z0 : Int32) : kS × Int32 := if z0 ≠ 0 then if (k216 s) = 0 then k215_37 ((k209 s).1) y1 y2 y3 (k216 s) else k215_30 ((k217 s).1) y1 y2 y3 (k216 s) else (s, 0)
theorem lt215_11 {sc : Nat × (Nat → Int32)} {N d : Nat} {S0 S : am_S} {s : kS} {y1 : Int32} {y2 : Int32} {y3 : Int32} {z0 : Int32} {o4 : Option Value} (hS : MK S0 S s) : am_L (am_PP sc) N d 215 11 [some (.ref 39), some (.int y1), some (.int y2), some (.int y3), o4] [.int z0] S (fun o S1 => o = some none ∧ MK S0 S1 (k215_11 s y1 y2 y3 z0).1) := by
  by_cases c1 : z0 ≠ 0
  · refine l12t hi_215_11 (decide_eq_true c1) ?_
    refine l2 (v := 39) hi_215_15 rfl ?_
    refine l32 (as := [.ref 39]) (la := [some (.ref 39)]) (rest := []) hi_215_16 (am_hd0 (M := 215) (by decide) 16) rfl rfl rfl (fun N' d' _ => lt216 (N := N') (d := d') hS) ?_ (fun _ q => nomatch q.1)
    rintro v4 S2 ⟨ev4, h3⟩
    cases ev4
    show am_L _ _ _ _ _ [some (.ref 39), some (.int y1), some (.int y2), some (.int y3), o4] [.int (k216 s)] _ _
    refine l3 (ls' := [some (.ref 39), some (.int y1), some (.int y2), some (.int y3), some (.int (k216 s))]) hi_215_19 (Nat.le_of_ble_eq_true rfl) rfl ?_
    refine l1 (v := k216 s) hi_215_21 rfl ?_
    by_cases c5 : (k216 s) = 0
    · refine l12t hi_215_23 (decide_eq_true c5) ?_
      refine l2 (v := 39) hi_215_33 rfl ?_
      refine l32 (as := [.ref 39]) (la := [some (.ref 39)]) (rest := []) hi_215_34 (am_hd0 (M := 215) (by decide) 34) rfl rfl rfl (fun N' d' _ => lt209 (N := N') (d := d') h3) ?_ (fun _ q => nomatch q.1)
      rintro v8 S6 ⟨ev8, h7⟩
      cases ev8
      show am_L _ _ _ _ _ [some (.ref 39), some (.int y1), some (.int y2), some (.int y3), some (.int (k216 s))] [] _ _
      refine am_L.mono (lt215_37 h7) ?_
      rintro o S1 ⟨e, h⟩
      have q : k215_11 s y1 y2 y3 z0 = k215_37 ((k209 s).1) y1 y2 y3 (k216 s) := by unfold k215_11; rw [if_pos c1]; rw [if_pos c5]
      rw [q]; exact ⟨e, h⟩
    · refine l12f hi_215_23 (decide_eq_false c5) ?_
      refine l2 (v := 39) hi_215_26 rfl ?_
      refine l32 (as := [.ref 39]) (la := [some (.ref 39), none]) (rest := []) hi_215_27 (am_hd0 (M := 215) (by decide) 27) rfl rfl rfl (fun N' d' _ => lt217 (N := N') (d := d') h3) ?_ (fun _ q => nomatch q.1)
      rintro v11 S9 ⟨ev11, h10⟩
      cases ev11
      show am_L _ _ _ _ _ [some (.ref 39), some (.int y1), some (.int y2), some (.int y3), some (.int (k216 s))] [] _ _
      refine am_L.mono (lt215_30 h10) ?_
      rintro o S1 ⟨e, h⟩
      have q : k215_11 s y1 y2 y3 z0 = k215_30 ((k217 s).1) y1 y2 y3 (k216 s) := by unfold k215_11; rw [if_pos c1]; rw [if_neg c5]
      rw [q]; exact ⟨e, h⟩
  · refine l12f hi_215_11 (decide_eq_false c1) ?_
    refine l35 hi_215_14 ⟨rfl, ?_⟩
    unfold k215_11; rw [if_neg c1]; exact hS
/-- argsEnd(II)V -/
noncomputable def k215 (s : kS) (x1 : Int32) (x2 : Int32) : kS × Int32 := k215_11 ((k199 s 61).1) x1 x2 (s.1 19) ((k199 s 61).2)
theorem lt215 {sc : Nat × (Nat → Int32)} {N d : Nat} {S0 S : am_S} {s : kS} {x1 : Int32} {x2 : Int32} (hS : MK S0 S s) : am_L (am_PP sc) N d 215 0 [some (.ref 39), some (.int x1), some (.int x2), none, none] [] S (fun o S1 => o = some none ∧ MK S0 S1 (k215 s x1 x2).1) := by
  refine l2 (v := 39) hi_215_0 rfl ?_
  refine l20 (v := .int (s.1 19)) hS hi_215_1 rfl ?_
  refine l3 (ls' := [some (.ref 39), some (.int x1), some (.int x2), some (.int (s.1 19)), none]) hi_215_4 (Nat.le_of_ble_eq_true rfl) rfl ?_
  refine l2 (v := 39) hi_215_5 rfl ?_
  refine l0 hi_215_6 ?_
  refine l32 (as := [.ref 39, .int 61]) (la := [some (.ref 39), some (.int 61)]) (rest := []) hi_215_8 (am_hd0 (M := 215) (by decide) 8) rfl rfl rfl (fun N' d' _ => lt199 (N := N') (d := d') hS) ?_ (fun _ q => nomatch q.1)
  rintro v3 S1 ⟨ev3, h2⟩
  cases ev3
  show am_L _ _ _ _ _ [some (.ref 39), some (.int x1), some (.int x2), some (.int (s.1 19)), none] [.int ((k199 s 61).2)] _ _
  refine am_L.mono (lt215_11 h2) ?_
  rintro o S1 ⟨e, h⟩
  have q : k215 s x1 x2 = k215_11 ((k199 s 61).1) x1 x2 (s.1 19) ((k199 s 61).2) := rfl
  rw [q]; exact ⟨e, h⟩
noncomputable def k218_34 (s : kS) : kS × Int32 := ((k186 s 0).1, 0)
theorem lt218_34 {sc : Nat × (Nat → Int32)} {N d : Nat} {S0 S : am_S} {s : kS} {o1 : Option Value} (hS : MK S0 S s) : am_L (am_PP sc) N d 218 34 [some (.ref 39), o1] [] S (fun o S1 => o = some none ∧ MK S0 S1 (k218_34 s).1) := by
  refine l2 (v := 39) hi_218_34 rfl ?_
  refine l0 hi_218_35 ?_
  refine l32 (as := [.ref 39, .int 0]) (la := [some (.ref 39), some (.int 0)]) (rest := []) hi_218_36 (am_hd0 (M := 218) (by decide) 36) rfl rfl rfl (fun N' d' _ => lt186 (N := N') (d := d') hS) ?_ (fun _ q => nomatch q.1)
  rintro v3 S1 ⟨ev3, h2⟩
  cases ev3
  show am_L _ _ _ _ _ [some (.ref 39), o1] [] _ _
  refine l18 hi_218_39 ?_
  refine l35 hi_218_47 ⟨rfl, ?_⟩
  exact h2
noncomputable def k218_13 (s : kS) (y1 : Int32) : kS × Int32 := k218_34 ((k179 (kf s 4 ((s.1 4) + 1)) 34 (y1 + 1) 0 0).1)
theorem lt218_13 {sc : Nat × (Nat → Int32)} {N d : Nat} {S0 S : am_S} {s : kS} {y1 : Int32} (hS : MK S0 S s) : am_L (am_PP sc) N d 218 13 [some (.ref 39), some (.int y1)] [] S (fun o S1 => o = some none ∧ MK S0 S1 (k218_13 s y1).1) := by
  refine l2 (v := 39) hi_218_13 rfl ?_
  refine l7 hi_218_14 ?_
  refine l20 (v := .int (s.1 4)) hS hi_218_15 rfl ?_
  refine l0 hi_218_18 ?_
  refine l10 hi_218_19 ?_
  show am_L _ _ _ _ _ [some (.ref 39), some (.int y1)] [.int ((s.1 4) + 1), .ref 39] _ _
  refine l21 hS hi_218_20 ms_4 fun S1 h2 => ?_
  refine l2 (v := 39) hi_218_23 rfl ?_
  refine l0 hi_218_24 ?_
  refine l1 (v := y1) hi_218_26 rfl ?_
  refine l0 hi_218_27 ?_
  refine l10 hi_218_28 ?_
  show am_L _ _ _ _ _ [some (.ref 39), some (.int y1)] [.int (y1 + 1), .int 34, .ref 39] _ _
  refine l0 hi_218_29 ?_
  refine l0 hi_218_30 ?_
  refine l32 (as := [.ref 39, .int 34, .int (y1 + 1), .int 0, .int 0]) (la := [some (.ref 39), some (.int 34), some (.int (y1 + 1)), some (.int 0), some (.int 0)]) (rest := []) hi_218_31 (am_hd0 (M := 218) (by decide) 31) rfl rfl rfl (fun N' d' _ => lt179 (N := N') (d := d') h2) ?_ (fun _ q => nomatch q.1)
  rintro v5 S3 ⟨ev5, h4⟩
  cases ev5
  show am_L _ _ _ _ _ [some (.ref 39), some (.int y1)] [] _ _
  refine am_L.mono (lt218_34 h4) ?_
  rintro o S1 ⟨e, h⟩
  have q : k218_13 s y1 = k218_34 ((k179 (kf s 4 ((s.1 4) + 1)) 34 (y1 + 1) 0 0).1) := rfl
  rw [q]; exact ⟨e, h⟩
/-- listEnd(I)V -/
noncomputable def k218 (s : kS) (x1 : Int32) : kS × Int32 := if (k183 s) ≠ 69 then (kf s 19 x1, 0) else k218_13 ((k209 s).1) x1
theorem lt218 {sc : Nat × (Nat → Int32)} {N d : Nat} {S0 S : am_S} {s : kS} {x1 : Int32} (hS : MK S0 S s) : am_L (am_PP sc) N d 218 0 [some (.ref 39), some (.int x1)] [] S (fun o S1 => o = some none ∧ MK S0 S1 (k218 s x1).1) := by
  refine l2 (v := 39) hi_218_0 rfl ?_
  refine l32 (as := [.ref 39]) (la := [some (.ref 39)]) (rest := []) hi_218_1 (am_hd0 (M := 218) (by decide) 1) rfl rfl rfl (fun N' d' _ => lt183 (N := N') (d := d') hS) ?_ (fun _ q => nomatch q.1)
  rintro v3 S1 ⟨ev3, h2⟩
  cases ev3
  show am_L _ _ _ _ _ [some (.ref 39), some (.int x1)] [.int (k183 s)] _ _
  refine l0 hi_218_4 ?_
  by_cases c4 : (k183 s) ≠ 69
  · refine l13t hi_218_6 (decide_eq_true c4) ?_
    refine l2 (v := 39) hi_218_42 rfl ?_
    refine l1 (v := x1) hi_218_43 rfl ?_
    refine l21 h2 hi_218_44 ms_19 fun S5 h6 => ?_
    refine l35 hi_218_47 ⟨rfl, ?_⟩
    unfold k218; rw [if_pos c4]; exact h6
  · refine l13f hi_218_6 (decide_eq_false c4) ?_
    refine l2 (v := 39) hi_218_9 rfl ?_
    refine l32 (as := [.ref 39]) (la := [some (.ref 39)]) (rest := []) hi_218_10 (am_hd0 (M := 218) (by decide) 10) rfl rfl rfl (fun N' d' _ => lt209 (N := N') (d := d') h2) ?_ (fun _ q => nomatch q.1)
    rintro v9 S7 ⟨ev9, h8⟩
    cases ev9
    show am_L _ _ _ _ _ [some (.ref 39), some (.int x1)] [] _ _
    refine am_L.mono (lt218_13 h8) ?_
    rintro o S1 ⟨e, h⟩
    have q : k218 s x1 = k218_13 ((k209 s).1) x1 := by unfold k218; rw [if_neg c4]
    rw [q]; exact ⟨e, h⟩
def k219_117 (s : kS) : kS × Int32 := ((k186 s 0).1, 0)
theorem lt219_117 {sc : Nat × (Nat → Int32)} {N d : Nat} {S0 S : am_S} {s : kS} {o1 : Option Value} {o2 : Option Value} {o3 : Option Value} (hS : MK S0 S s) : am_L (am_PP sc) N d 219 117 [some (.ref 39), o1, o2, o3] [] S (fun o S1 => o = some none ∧ MK S0 S1 (k219_117 s).1) := by
  refine l2 (v := 39) hi_219_117 rfl ?_
  refine l0 hi_219_118 ?_
  refine l32 (as := [.ref 39, .int 0]) (la := [some (.ref 39), some (.int 0)]) (rest := []) hi_219_119 (am_hd0 (M := 219) (by decide) 119) rfl rfl rfl (fun N' d' _ => lt186 (N := N') (d := d') hS) ?_ (fun _ q => nomatch q.1)
  rintro v3 S1 ⟨ev3, h2⟩
  cases ev3
  show am_L _ _ _ _ _ [some (.ref 39), o1, o2, o3] [] _ _
  refine l35 hi_219_122 ⟨rfl, ?_⟩
  exact h2
def k219_106 (s : kS) (y1 : Int32) (y3 : Int32) : kS × Int32 := k219_117 ((k179 s 39 (y1 + 1) y3 0).1)
theorem lt219_106 {sc : Nat × (Nat → Int32)} {N d : Nat} {S0 S : am_S} {s : kS} {y1 : Int32} {y3 : Int32} {o2 : Option Value} (hS : MK S0 S s) : am_L (am_PP sc) N d 219 106 [some (.ref 39), some (.int y1), o2, some (.int y3)] [] S (fun o S1 => o = some none ∧ MK S0 S1 (k219_106 s y1 y3).1) := by
  refine l2 (v := 39) hi_219_106 rfl ?_
  refine l0 hi_219_107 ?_
  refine l1 (v := y1) hi_219_109 rfl ?_
  refine l0 hi_219_110 ?_
  refine l10 hi_219_111 ?_
  show am_L _ _ _ _ _ [some (.ref 39), some (.int y1), o2, some (.int y3)] [.int (y1 + 1), .int 39, .ref 39] _ _
  refine l1 (v := y3) hi_219_112 rfl ?_
  refine l0 hi_219_113 ?_
  refine l32 (as := [.ref 39, .int 39, .int (y1 + 1), .int y3, .int 0]) (la := [some (.ref 39), some (.int 39), some (.int (y1 + 1)), some (.int y3), some (.int 0)]) (rest := []) hi_219_114 (am_hd0 (M := 219) (by decide) 114) rfl rfl rfl (fun N' d' _ => lt179 (N := N') (d := d') hS) ?_ (fun _ q => nomatch q.1)
  rintro v3 S1 ⟨ev3, h2⟩
  cases ev3
  show am_L _ _ _ _ _ [some (.ref 39), some (.int y1), o2, some (.int y3)] [] _ _
  refine am_L.mono (lt219_117 h2) ?_
  rintro o S1 ⟨e, h⟩
  have q : k219_106 s y1 y3 = k219_117 ((k179 s 39 (y1 + 1) y3 0).1) := rfl
  rw [q]; exact ⟨e, h⟩
def k219_98 (s : kS) : kS × Int32 := ((k186 s 0).1, 0)
theorem lt219_98 {sc : Nat × (Nat → Int32)} {N d : Nat} {S0 S : am_S} {s : kS} {o1 : Option Value} {o2 : Option Value} {o3 : Option Value} (hS : MK S0 S s) : am_L (am_PP sc) N d 219 98 [some (.ref 39), o1, o2, o3] [] S (fun o S1 => o = some none ∧ MK S0 S1 (k219_98 s).1) := by
  refine l2 (v := 39) hi_219_98 rfl ?_
  refine l0 hi_219_99 ?_
  refine l32 (as := [.ref 39, .int 0]) (la := [some (.ref 39), some (.int 0)]) (rest := []) hi_219_100 (am_hd0 (M := 219) (by decide) 100) rfl rfl rfl (fun N' d' _ => lt186 (N := N') (d := d') hS) ?_ (fun _ q => nomatch q.1)
  rintro v3 S1 ⟨ev3, h2⟩
  cases ev3
  show am_L _ _ _ _ _ [some (.ref 39), o1, o2, o3] [] _ _
  refine l18 hi_219_103 ?_
  refine l35 hi_219_122 ⟨rfl, ?_⟩
  exact h2
def k219_51 (s : kS) : kS × Int32 := ((k186 s 0).1, 0)
theorem lt219_51 {sc : Nat × (Nat → Int32)} {N d : Nat} {S0 S : am_S} {s : kS} {o1 : Option Value} {o2 : Option Value} {o3 : Option Value} (hS : MK S0 S s) : am_L (am_PP sc) N d 219 51 [some (.ref 39), o1, o2, o3] [] S (fun o S1 => o = some none ∧ MK S0 S1 (k219_51 s).1) := by
  refine l2 (v := 39) hi_219_51 rfl ?_
  refine l0 hi_219_52 ?_
  refine l32 (as := [.ref 39, .int 0]) (la := [some (.ref 39), some (.int 0)]) (rest := []) hi_219_53 (am_hd0 (M := 219) (by decide) 53) rfl rfl rfl (fun N' d' _ => lt186 (N := N') (d := d') hS) ?_ (fun _ q => nomatch q.1)
  rintro v3 S1 ⟨ev3, h2⟩
  cases ev3
  show am_L _ _ _ _ _ [some (.ref 39), o1, o2, o3] [] _ _
  refine l18 hi_219_56 ?_
  refine l35 hi_219_122 ⟨rfl, ?_⟩
  exact h2
def k219_38 (s : kS) (y1 : Int32) (y3 : Int32) (z0 : Int32) : kS × Int32 := if z0 ≠ 0 then k219_51 ((k179 s 36 y1 y3 0).1) else (s, 0)
theorem lt219_38 {sc : Nat × (Nat → Int32)} {N d : Nat} {S0 S : am_S} {s : kS} {y1 : Int32} {y3 : Int32} {z0 : Int32} {o2 : Option Value} (hS : MK S0 S s) : am_L (am_PP sc) N d 219 38 [some (.ref 39), some (.int y1), o2, some (.int y3)] [.int z0] S (fun o S1 => o = some none ∧ MK S0 S1 (k219_38 s y1 y3 z0).1) := by
  by_cases c1 : z0 ≠ 0
  · refine l12t hi_219_38 (decide_eq_true c1) ?_
    refine l2 (v := 39) hi_219_42 rfl ?_
    refine l0 hi_219_43 ?_
    refine l1 (v := y1) hi_219_45 rfl ?_
    refine l1 (v := y3) hi_219_46 rfl ?_
    refine l0 hi_219_47 ?_
    refine l32 (as := [.ref 39, .int 36, .int y1, .int y3, .int 0]) (la := [some (.ref 39), some (.int 36), some (.int y1), some (.int y3), some (.int 0)]) (rest := []) hi_219_48 (am_hd0 (M := 219) (by decide) 48) rfl rfl rfl (fun N' d' _ => lt179 (N := N') (d := d') hS) ?_ (fun _ q => nomatch q.1)
    rintro v4 S2 ⟨ev4, h3⟩
    cases ev4
    show am_L _ _ _ _ _ [some (.ref 39), some (.int y1), o2, some (.int y3)] [] _ _
    refine am_L.mono (lt219_51 h3) ?_
    rintro o S1 ⟨e, h⟩
    have q : k219_38 s y1 y3 z0 = k219_51 ((k179 s 36 y1 y3 0).1) := by unfold k219_38; rw [if_pos c1]
    rw [q]; exact ⟨e, h⟩
  · refine l12f hi_219_38 (decide_eq_false c1) ?_
    refine l35 hi_219_41 ⟨rfl, ?_⟩
    unfold k219_38; rw [if_neg c1]; exact hS
/-- item(I)V -/
def k219 (s : kS) (x1 : Int32) : kS × Int32 := if (k183 s) ≠ 63 then if (k183 s) ≠ 64 then if (k183 s) ≠ 1 then k219_106 s x1 (s.1 4) else if (k184 s ((s.1 4) + 1)) ≠ 59 then k219_106 s x1 (s.1 4) else k219_98 ((k179 (kf s 4 ((s.1 4) + 2)) 38 x1 (s.1 4) 0).1) else k219_38 ((k193 s 64).1) x1 (s.1 4) ((k193 s 64).2) else ((k199 s 63).1, 0)
theorem lt219 {sc : Nat × (Nat → Int32)} {N d : Nat} {S0 S : am_S} {s : kS} {x1 : Int32} (hS : MK S0 S s) : am_L (am_PP sc) N d 219 0 [some (.ref 39), some (.int x1), none, none] [] S (fun o S1 => o = some none ∧ MK S0 S1 (k219 s x1).1) := by
  refine l2 (v := 39) hi_219_0 rfl ?_
  refine l32 (as := [.ref 39]) (la := [some (.ref 39)]) (rest := []) hi_219_1 (am_hd0 (M := 219) (by decide) 1) rfl rfl rfl (fun N' d' _ => lt183 (N := N') (d := d') hS) ?_ (fun _ q => nomatch q.1)
  rintro v3 S1 ⟨ev3, h2⟩
  cases ev3
  show am_L _ _ _ _ _ [some (.ref 39), some (.int x1), none, none] [.int (k183 s)] _ _
  refine l3 (ls' := [some (.ref 39), some (.int x1), some (.int (k183 s)), none]) hi_219_4 (Nat.le_of_ble_eq_true rfl) rfl ?_
  refine l2 (v := 39) hi_219_5 rfl ?_
  refine l20 (v := .int (s.1 4)) h2 hi_219_6 rfl ?_
  refine l3 (ls' := [some (.ref 39), some (.int x1), some (.int (k183 s)), some (.int (s.1 4))]) hi_219_9 (Nat.le_of_ble_eq_true rfl) rfl ?_
  refine l1 (v := k183 s) hi_219_10 rfl ?_
  refine l0 hi_219_11 ?_
  by_cases c4 : (k183 s) ≠ 63
  · refine l13t hi_219_13 (decide_eq_true c4) ?_
    refine l1 (v := k183 s) hi_219_26 rfl ?_
    refine l0 hi_219_27 ?_
    by_cases c5 : (k183 s) ≠ 64
    · refine l13t hi_219_29 (decide_eq_true c5) ?_
      refine l1 (v := k183 s) hi_219_59 rfl ?_
      refine l0 hi_219_60 ?_
      by_cases c6 : (k183 s) ≠ 1
      · refine l13t hi_219_61 (decide_eq_true c6) ?_
        refine am_L.mono (lt219_106 h2) ?_
        rintro o S1 ⟨e, h⟩
        have q : k219 s x1 = k219_106 s x1 (s.1 4) := by unfold k219; rw [if_pos c4]; rw [if_pos c5]; rw [if_pos c6]
        rw [q]; exact ⟨e, h⟩
      · refine l13f hi_219_61 (decide_eq_false c6) ?_
        refine l2 (v := 39) hi_219_64 rfl ?_
        refine l2 (v := 39) hi_219_65 rfl ?_
        refine l20 (v := .int (s.1 4)) h2 hi_219_66 rfl ?_
        refine l0 hi_219_69 ?_
        refine l10 hi_219_70 ?_
        show am_L _ _ _ _ _ [some (.ref 39), some (.int x1), some (.int (k183 s)), some (.int (s.1 4))] [.int ((s.1 4) + 1), .ref 39] _ _
        refine l32 (as := [.ref 39, .int ((s.1 4) + 1)]) (la := [some (.ref 39), some (.int ((s.1 4) + 1))]) (rest := []) hi_219_71 (am_hd0 (M := 219) (by decide) 71) rfl rfl rfl (fun N' d' _ => lt184 (N := N') (d := d') h2) ?_ (fun _ q => nomatch q.1)
        rintro v9 S7 ⟨ev9, h8⟩
        cases ev9
        show am_L _ _ _ _ _ [some (.ref 39), some (.int x1), some (.int (k183 s)), some (.int (s.1 4))] [.int (k184 s ((s.1 4) + 1))] _ _
        refine l0 hi_219_74 ?_
        by_cases c10 : (k184 s ((s.1 4) + 1)) ≠ 59
        · refine l13t hi_219_76 (decide_eq_true c10) ?_
          refine am_L.mono (lt219_106 h8) ?_
          rintro o S1 ⟨e, h⟩
          have q : k219 s x1 = k219_106 s x1 (s.1 4) := by unfold k219; rw [if_pos c4]; rw [if_pos c5]; rw [if_neg c6]; rw [if_pos c10]
          rw [q]; exact ⟨e, h⟩
        · refine l13f hi_219_76 (decide_eq_false c10) ?_
          refine l2 (v := 39) hi_219_79 rfl ?_
          refine l7 hi_219_80 ?_
          refine l20 (v := .int (s.1 4)) h8 hi_219_81 rfl ?_
          refine l0 hi_219_84 ?_
          refine l10 hi_219_85 ?_
          show am_L _ _ _ _ _ [some (.ref 39), some (.int x1), some (.int (k183 s)), some (.int (s.1 4))] [.int ((s.1 4) + 2), .ref 39] _ _
          refine l21 h8 hi_219_86 ms_4 fun S11 h12 => ?_
          refine l2 (v := 39) hi_219_89 rfl ?_
          refine l0 hi_219_90 ?_
          refine l1 (v := x1) hi_219_92 rfl ?_
          refine l1 (v := s.1 4) hi_219_93 rfl ?_
          refine l0 hi_219_94 ?_
          refine l32 (as := [.ref 39, .int 38, .int x1, .int (s.1 4), .int 0]) (la := [some (.ref 39), some (.int 38), some (.int x1), some (.int (s.1 4)), some (.int 0)]) (rest := []) hi_219_95 (am_hd0 (M := 219) (by decide) 95) rfl rfl rfl (fun N' d' _ => lt179 (N := N') (d := d') h12) ?_ (fun _ q => nomatch q.1)
          rintro v15 S13 ⟨ev15, h14⟩
          cases ev15
          show am_L _ _ _ _ _ [some (.ref 39), some (.int x1), some (.int (k183 s)), some (.int (s.1 4))] [] _ _
          refine am_L.mono (lt219_98 h14) ?_
          rintro o S1 ⟨e, h⟩
          have q : k219 s x1 = k219_98 ((k179 (kf s 4 ((s.1 4) + 2)) 38 x1 (s.1 4) 0).1) := by unfold k219; rw [if_pos c4]; rw [if_pos c5]; rw [if_neg c6]; rw [if_neg c10]
          rw [q]; exact ⟨e, h⟩
    · refine l13f hi_219_29 (decide_eq_false c5) ?_
      refine l2 (v := 39) hi_219_32 rfl ?_
      refine l0 hi_219_33 ?_
      refine l32 (as := [.ref 39, .int 64]) (la := [some (.ref 39), some (.int 64)]) (rest := []) hi_219_35 (am_hd0 (M := 219) (by decide) 35) rfl rfl rfl (fun N' d' _ => lt193 (N := N') (d := d') h2) ?_ (fun _ q => nomatch q.1)
      rintro v18 S16 ⟨ev18, h17⟩
      cases ev18
      show am_L _ _ _ _ _ [some (.ref 39), some (.int x1), some (.int (k183 s)), some (.int (s.1 4))] [.int ((k193 s 64).2)] _ _
      refine am_L.mono (lt219_38 h17) ?_
      rintro o S1 ⟨e, h⟩
      have q : k219 s x1 = k219_38 ((k193 s 64).1) x1 (s.1 4) ((k193 s 64).2) := by unfold k219; rw [if_pos c4]; rw [if_neg c5]
      rw [q]; exact ⟨e, h⟩
  · refine l13f hi_219_13 (decide_eq_false c4) ?_
    refine l2 (v := 39) hi_219_16 rfl ?_
    refine l0 hi_219_17 ?_
    refine l32 (as := [.ref 39, .int 63]) (la := [some (.ref 39), some (.int 63)]) (rest := []) hi_219_19 (am_hd0 (M := 219) (by decide) 19) rfl rfl rfl (fun N' d' _ => lt199 (N := N') (d := d') h2) ?_ (fun _ q => nomatch q.1)
    rintro v21 S19 ⟨ev21, h20⟩
    cases ev21
    show am_L _ _ _ _ _ [some (.ref 39), some (.int x1), some (.int (k183 s)), some (.int (s.1 4))] [.int ((k199 s 63).2)] _ _
    refine l6i hi_219_22 ?_
    refine l18 hi_219_23 ?_
    refine l35 hi_219_122 ⟨rfl, ?_⟩
    unfold k219; rw [if_neg c4]; exact h20
def k220_18 (s : kS) (y1 : Int32) : kS × Int32 := ((k179 (kf s 4 ((s.1 4) + 1)) 35 y1 0 0).1, 0)
theorem lt220_18 {sc : Nat × (Nat → Int32)} {N d : Nat} {S0 S : am_S} {s : kS} {y1 : Int32} (hS : MK S0 S s) : am_L (am_PP sc) N d 220 18 [some (.ref 39), some (.int y1)] [] S (fun o S1 => o = some none ∧ MK S0 S1 (k220_18 s y1).1) := by
  refine l2 (v := 39) hi_220_18 rfl ?_
  refine l7 hi_220_19 ?_
  refine l20 (v := .int (s.1 4)) hS hi_220_20 rfl ?_
  refine l0 hi_220_23 ?_
  refine l10 hi_220_24 ?_
  show am_L _ _ _ _ _ [some (.ref 39), some (.int y1)] [.int ((s.1 4) + 1), .ref 39] _ _
  refine l21 hS hi_220_25 ms_4 fun S1 h2 => ?_
  refine l2 (v := 39) hi_220_28 rfl ?_
  refine l0 hi_220_29 ?_
  refine l1 (v := y1) hi_220_31 rfl ?_
  refine l0 hi_220_32 ?_
  refine l0 hi_220_33 ?_
  refine l32 (as := [.ref 39, .int 35, .int y1, .int 0, .int 0]) (la := [some (.ref 39), some (.int 35), some (.int y1), some (.int 0), some (.int 0)]) (rest := []) hi_220_34 (am_hd0 (M := 220) (by decide) 34) rfl rfl rfl (fun N' d' _ => lt179 (N := N') (d := d') h2) ?_ (fun _ q => nomatch q.1)
  rintro v5 S3 ⟨ev5, h4⟩
  cases ev5
  show am_L _ _ _ _ _ [some (.ref 39), some (.int y1)] [] _ _
  refine l18 hi_220_37 ?_
  refine l35 hi_220_47 ⟨rfl, ?_⟩
  exact h4
/-- separator(I)V -/
def k220 (s : kS) (x1 : Int32) : kS × Int32 := if (k183 s) = 69 then k220_18 s x1 else if (k183 s) ≠ 67 then ((k199 s 63).1, 0) else k220_18 s x1
theorem lt220 {sc : Nat × (Nat → Int32)} {N d : Nat} {S0 S : am_S} {s : kS} {x1 : Int32} (hS : MK S0 S s) : am_L (am_PP sc) N d 220 0 [some (.ref 39), some (.int x1)] [] S (fun o S1 => o = some none ∧ MK S0 S1 (k220 s x1).1) := by
  refine l2 (v := 39) hi_220_0 rfl ?_
  refine l32 (as := [.ref 39]) (la := [some (.ref 39)]) (rest := []) hi_220_1 (am_hd0 (M := 220) (by decide) 1) rfl rfl rfl (fun N' d' _ => lt183 (N := N') (d := d') hS) ?_ (fun _ q => nomatch q.1)
  rintro v3 S1 ⟨ev3, h2⟩
  cases ev3
  show am_L _ _ _ _ _ [some (.ref 39), some (.int x1)] [.int (k183 s)] _ _
  refine l0 hi_220_4 ?_
  by_cases c4 : (k183 s) = 69
  · refine l13t hi_220_6 (decide_eq_true c4) ?_
    refine am_L.mono (lt220_18 h2) ?_
    rintro o S1 ⟨e, h⟩
    have q : k220 s x1 = k220_18 s x1 := by unfold k220; rw [if_pos c4]
    rw [q]; exact ⟨e, h⟩
  · refine l13f hi_220_6 (decide_eq_false c4) ?_
    refine l2 (v := 39) hi_220_9 rfl ?_
    refine l32 (as := [.ref 39]) (la := [some (.ref 39)]) (rest := []) hi_220_10 (am_hd0 (M := 220) (by decide) 10) rfl rfl rfl (fun N' d' _ => lt183 (N := N') (d := d') h2) ?_ (fun _ q => nomatch q.1)
    rintro v7 S5 ⟨ev7, h6⟩
    cases ev7
    show am_L _ _ _ _ _ [some (.ref 39), some (.int x1)] [.int (k183 s)] _ _
    refine l0 hi_220_13 ?_
    by_cases c8 : (k183 s) ≠ 67
    · refine l13t hi_220_15 (decide_eq_true c8) ?_
      refine l2 (v := 39) hi_220_40 rfl ?_
      refine l0 hi_220_41 ?_
      refine l32 (as := [.ref 39, .int 63]) (la := [some (.ref 39), some (.int 63)]) (rest := []) hi_220_43 (am_hd0 (M := 220) (by decide) 43) rfl rfl rfl (fun N' d' _ => lt199 (N := N') (d := d') h6) ?_ (fun _ q => nomatch q.1)
      rintro v11 S9 ⟨ev11, h10⟩
      cases ev11
      show am_L _ _ _ _ _ [some (.ref 39), some (.int x1)] [.int ((k199 s 63).2)] _ _
      refine l6i hi_220_46 ?_
      refine l35 hi_220_47 ⟨rfl, ?_⟩
      unfold k220; rw [if_neg c4]; rw [if_pos c8]; exact h10
    · refine l13f hi_220_15 (decide_eq_false c8) ?_
      refine am_L.mono (lt220_18 h6) ?_
      rintro o S1 ⟨e, h⟩
      have q : k220 s x1 = k220_18 s x1 := by unfold k220; rw [if_neg c4]; rw [if_neg c8]
      rw [q]; exact ⟨e, h⟩
noncomputable def k221_89 (s : kS) (y1 : Int32) (z0 : Int32) : kS × Int32 := ((k220 s y1).1, 0)
theorem lt221_89 {sc : Nat × (Nat → Int32)} {N d : Nat} {S0 S : am_S} {s : kS} {y1 : Int32} {z0 : Int32} {o2 : Option Value} {o3 : Option Value} (hS : MK S0 S s) : am_L (am_PP sc) N d 221 89 [some (.ref 39), some (.int y1), o2, o3] [.int z0] S (fun o S1 => o = some none ∧ MK S0 S1 (k221_89 s y1 z0).1) := by
  refine l6i hi_221_89 ?_
  refine l2 (v := 39) hi_221_90 rfl ?_
  refine l1 (v := y1) hi_221_91 rfl ?_
  refine l32 (as := [.ref 39, .int y1]) (la := [some (.ref 39), some (.int y1)]) (rest := []) hi_221_92 (am_hd0 (M := 221) (by decide) 92) rfl rfl rfl (fun N' d' _ => lt220 (N := N') (d := d') hS) ?_ (fun _ q => nomatch q.1)
  rintro v3 S1 ⟨ev3, h2⟩
  cases ev3
  show am_L _ _ _ _ _ [some (.ref 39), some (.int y1), o2, o3] [] _ _
  refine l35 hi_221_95 ⟨rfl, ?_⟩
  exact h2
noncomputable def k221_80 (s : kS) (y1 : Int32) (y2 : Int32) : kS × Int32 := k221_89 ((k189 s 23 y1 0 y2).1) y1 ((k189 s 23 y1 0 y2).2)
theorem lt221_80 {sc : Nat × (Nat → Int32)} {N d : Nat} {S0 S : am_S} {s : kS} {y1 : Int32} {y2 : Int32} {o3 : Option Value} (hS : MK S0 S s) : am_L (am_PP sc) N d 221 80 [some (.ref 39), some (.int y1), some (.int y2), o3] [] S (fun o S1 => o = some none ∧ MK S0 S1 (k221_80 s y1 y2).1) := by
  refine l2 (v := 39) hi_221_80 rfl ?_
  refine l0 hi_221_81 ?_
  refine l1 (v := y1) hi_221_83 rfl ?_
  refine l0 hi_221_84 ?_
  refine l1 (v := y2) hi_221_85 rfl ?_
  refine l32 (as := [.ref 39, .int 23, .int y1, .int 0, .int y2]) (la := [some (.ref 39), some (.int 23), some (.int y1), some (.int 0), some (.int y2)]) (rest := []) hi_221_86 (am_hd0 (M := 221) (by decide) 86) rfl rfl rfl (fun N' d' _ => lt189 (N := N') (d := d') hS) ?_ (fun _ q => nomatch q.1)
  rintro v3 S1 ⟨ev3, h2⟩
  cases ev3
  show am_L _ _ _ _ _ [some (.ref 39), some (.int y1), some (.int y2), o3] [.int ((k189 s 23 y1 0 y2).2)] _ _
  refine am_L.mono (lt221_89 h2) ?_
  rintro o S1 ⟨e, h⟩
  have q : k221_80 s y1 y2 = k221_89 ((k189 s 23 y1 0 y2).1) y1 ((k189 s 23 y1 0 y2).2) := rfl
  rw [q]; exact ⟨e, h⟩
noncomputable def k221_76 (s : kS) (y1 : Int32) (y2 : Int32) : kS × Int32 := k221_80 ((k209 s).1) y1 y2
theorem lt221_76 {sc : Nat × (Nat → Int32)} {N d : Nat} {S0 S : am_S} {s : kS} {y1 : Int32} {y2 : Int32} {o3 : Option Value} (hS : MK S0 S s) : am_L (am_PP sc) N d 221 76 [some (.ref 39), some (.int y1), some (.int y2), o3] [] S (fun o S1 => o = some none ∧ MK S0 S1 (k221_76 s y1 y2).1) := by
  refine l2 (v := 39) hi_221_76 rfl ?_
  refine l32 (as := [.ref 39]) (la := [some (.ref 39)]) (rest := []) hi_221_77 (am_hd0 (M := 221) (by decide) 77) rfl rfl rfl (fun N' d' _ => lt209 (N := N') (d := d') hS) ?_ (fun _ q => nomatch q.1)
  rintro v3 S1 ⟨ev3, h2⟩
  cases ev3
  show am_L _ _ _ _ _ [some (.ref 39), some (.int y1), some (.int y2), o3] [] _ _
  refine am_L.mono (lt221_80 h2) ?_
  rintro o S1 ⟨e, h⟩
  have q : k221_76 s y1 y2 = k221_80 ((k209 s).1) y1 y2 := rfl
  rw [q]; exact ⟨e, h⟩
noncomputable def k221_72 (s : kS) (y1 : Int32) (z0 : Int32) : kS × Int32 := ((k220 s y1).1, 0)
theorem lt221_72 {sc : Nat × (Nat → Int32)} {N d : Nat} {S0 S : am_S} {s : kS} {y1 : Int32} {z0 : Int32} {o2 : Option Value} {o3 : Option Value} (hS : MK S0 S s) : am_L (am_PP sc) N d 221 72 [some (.ref 39), some (.int y1), o2, o3] [.int z0] S (fun o S1 => o = some none ∧ MK S0 S1 (k221_72 s y1 z0).1) := by
  refine l6i hi_221_72 ?_
  refine l18 hi_221_73 ?_
  refine l2 (v := 39) hi_221_90 rfl ?_
  refine l1 (v := y1) hi_221_91 rfl ?_
  refine l32 (as := [.ref 39, .int y1]) (la := [some (.ref 39), some (.int y1)]) (rest := []) hi_221_92 (am_hd0 (M := 221) (by decide) 92) rfl rfl rfl (fun N' d' _ => lt220 (N := N') (d := d') hS) ?_ (fun _ q => nomatch q.1)
  rintro v3 S1 ⟨ev3, h2⟩
  cases ev3
  show am_L _ _ _ _ _ [some (.ref 39), some (.int y1), o2, o3] [] _ _
  refine l35 hi_221_95 ⟨rfl, ?_⟩
  exact h2
noncomputable def k221_63 (s : kS) (y1 : Int32) (y2 : Int32) : kS × Int32 := k221_72 ((k189 s 24 y1 0 y2).1) y1 ((k189 s 24 y1 0 y2).2)
theorem lt221_63 {sc : Nat × (Nat → Int32)} {N d : Nat} {S0 S : am_S} {s : kS} {y1 : Int32} {y2 : Int32} {o3 : Option Value} (hS : MK S0 S s) : am_L (am_PP sc) N d 221 63 [some (.ref 39), some (.int y1), some (.int y2), o3] [] S (fun o S1 => o = some none ∧ MK S0 S1 (k221_63 s y1 y2).1) := by
  refine l2 (v := 39) hi_221_63 rfl ?_
  refine l0 hi_221_64 ?_
  refine l1 (v := y1) hi_221_66 rfl ?_
  refine l0 hi_221_67 ?_
  refine l1 (v := y2) hi_221_68 rfl ?_
  refine l32 (as := [.ref 39, .int 24, .int y1, .int 0, .int y2]) (la := [some (.ref 39), some (.int 24), some (.int y1), some (.int 0), some (.int y2)]) (rest := []) hi_221_69 (am_hd0 (M := 221) (by decide) 69) rfl rfl rfl (fun N' d' _ => lt189 (N := N') (d := d') hS) ?_ (fun _ q => nomatch q.1)
  rintro v3 S1 ⟨ev3, h2⟩
  cases ev3
  show am_L _ _ _ _ _ [some (.ref 39), some (.int y1), some (.int y2), o3] [.int ((k189 s 24 y1 0 y2).2)] _ _
  refine am_L.mono (lt221_72 h2) ?_
  rintro o S1 ⟨e, h⟩
  have q : k221_63 s y1 y2 = k221_72 ((k189 s 24 y1 0 y2).1) y1 ((k189 s 24 y1 0 y2).2) := rfl
  rw [q]; exact ⟨e, h⟩
noncomputable def k221_47 (s : kS) (y1 : Int32) (y2 : Int32) (z0 : Int32) : kS × Int32 := if z0 = 0 then k221_76 s y1 y2 else if (k216 s) = 0 then k221_76 s y1 y2 else k221_63 ((k217 s).1) y1 y2
theorem lt221_47 {sc : Nat × (Nat → Int32)} {N d : Nat} {S0 S : am_S} {s : kS} {y1 : Int32} {y2 : Int32} {z0 : Int32} {o3 : Option Value} (hS : MK S0 S s) : am_L (am_PP sc) N d 221 47 [some (.ref 39), some (.int y1), some (.int y2), o3] [.int z0] S (fun o S1 => o = some none ∧ MK S0 S1 (k221_47 s y1 y2 z0).1) := by
  refine l3 (ls' := [some (.ref 39), some (.int y1), some (.int y2), some (.int z0)]) hi_221_47 (Nat.le_of_ble_eq_true rfl) rfl ?_
  refine l1 (v := z0) hi_221_48 rfl ?_
  by_cases c1 : z0 = 0
  · refine l12t hi_221_49 (decide_eq_true c1) ?_
    refine am_L.mono (lt221_76 hS) ?_
    rintro o S1 ⟨e, h⟩
    have q : k221_47 s y1 y2 z0 = k221_76 s y1 y2 := by unfold k221_47; rw [if_pos c1]
    rw [q]; exact ⟨e, h⟩
  · refine l12f hi_221_49 (decide_eq_false c1) ?_
    refine l2 (v := 39) hi_221_52 rfl ?_
    refine l32 (as := [.ref 39]) (la := [some (.ref 39)]) (rest := []) hi_221_53 (am_hd0 (M := 221) (by decide) 53) rfl rfl rfl (fun N' d' _ => lt216 (N := N') (d := d') hS) ?_ (fun _ q => nomatch q.1)
    rintro v4 S2 ⟨ev4, h3⟩
    cases ev4
    show am_L _ _ _ _ _ [some (.ref 39), some (.int y1), some (.int y2), some (.int z0)] [.int (k216 s)] _ _
    by_cases c5 : (k216 s) = 0
    · refine l12t hi_221_56 (decide_eq_true c5) ?_
      refine am_L.mono (lt221_76 h3) ?_
      rintro o S1 ⟨e, h⟩
      have q : k221_47 s y1 y2 z0 = k221_76 s y1 y2 := by unfold k221_47; rw [if_neg c1]; rw [if_pos c5]
      rw [q]; exact ⟨e, h⟩
    · refine l12f hi_221_56 (decide_eq_false c5) ?_
      refine l2 (v := 39) hi_221_59 rfl ?_
      refine l32 (as := [.ref 39]) (la := [some (.ref 39), none]) (rest := []) hi_221_60 (am_hd0 (M := 221) (by decide) 60) rfl rfl rfl (fun N' d' _ => lt217 (N := N') (d := d') h3) ?_ (fun _ q => nomatch q.1)
      rintro v8 S6 ⟨ev8, h7⟩
      cases ev8
      show am_L _ _ _ _ _ [some (.ref 39), some (.int y1), some (.int y2), some (.int z0)] [] _ _
      refine am_L.mono (lt221_63 h7) ?_
      rintro o S1 ⟨e, h⟩
      have q : k221_47 s y1 y2 z0 = k221_63 ((k217 s).1) y1 y2 := by unfold k221_47; rw [if_neg c1]; rw [if_neg c5]
      rw [q]; exact ⟨e, h⟩
noncomputable def k221_42 (s : kS) (y1 : Int32) (y2 : Int32) : kS × Int32 := k221_47 s y1 y2 1
theorem lt221_42 {sc : Nat × (Nat → Int32)} {N d : Nat} {S0 S : am_S} {s : kS} {y1 : Int32} {y2 : Int32} {o3 : Option Value} (hS : MK S0 S s) : am_L (am_PP sc) N d 221 42 [some (.ref 39), some (.int y1), some (.int y2), o3] [] S (fun o S1 => o = some none ∧ MK S0 S1 (k221_42 s y1 y2).1) := by
  refine l0 hi_221_42 ?_
  refine l18 hi_221_43 ?_
  refine am_L.mono (lt221_47 hS) ?_
  rintro o S1 ⟨e, h⟩
  have q : k221_42 s y1 y2 = k221_47 s y1 y2 1 := rfl
  rw [q]; exact ⟨e, h⟩
noncomputable def k221_46 (s : kS) (y1 : Int32) (y2 : Int32) : kS × Int32 := k221_47 s y1 y2 0
theorem lt221_46 {sc : Nat × (Nat → Int32)} {N d : Nat} {S0 S : am_S} {s : kS} {y1 : Int32} {y2 : Int32} {o3 : Option Value} (hS : MK S0 S s) : am_L (am_PP sc) N d 221 46 [some (.ref 39), some (.int y1), some (.int y2), o3] [] S (fun o S1 => o = some none ∧ MK S0 S1 (k221_46 s y1 y2).1) := by
  refine l0 hi_221_46 ?_
  refine am_L.mono (lt221_47 hS) ?_
  rintro o S1 ⟨e, h⟩
  have q : k221_46 s y1 y2 = k221_47 s y1 y2 0 := rfl
  rw [q]; exact ⟨e, h⟩
noncomputable def k221_27 (s : kS) (y1 : Int32) (y2 : Int32) : kS × Int32 := if (k184 s ((s.1 4) + 1)) ≠ 63 then k221_46 s y1 y2 else k221_42 s y1 y2
theorem lt221_27 {sc : Nat × (Nat → Int32)} {N d : Nat} {S0 S : am_S} {s : kS} {y1 : Int32} {y2 : Int32} {o3 : Option Value} (hS : MK S0 S s) : am_L (am_PP sc) N d 221 27 [some (.ref 39), some (.int y1), some (.int y2), o3] [] S (fun o S1 => o = some none ∧ MK S0 S1 (k221_27 s y1 y2).1) := by
  refine l2 (v := 39) hi_221_27 rfl ?_
  refine l2 (v := 39) hi_221_28 rfl ?_
  refine l20 (v := .int (s.1 4)) hS hi_221_29 rfl ?_
  refine l0 hi_221_32 ?_
  refine l10 hi_221_33 ?_
  show am_L _ _ _ _ _ [some (.ref 39), some (.int y1), some (.int y2), o3] [.int ((s.1 4) + 1), .ref 39] _ _
  refine l32 (as := [.ref 39, .int ((s.1 4) + 1)]) (la := [some (.ref 39), some (.int ((s.1 4) + 1))]) (rest := []) hi_221_34 (am_hd0 (M := 221) (by decide) 34) rfl rfl rfl (fun N' d' _ => lt184 (N := N') (d := d') hS) ?_ (fun _ q => nomatch q.1)
  rintro v3 S1 ⟨ev3, h2⟩
  cases ev3
  show am_L _ _ _ _ _ [some (.ref 39), some (.int y1), some (.int y2), o3] [.int (k184 s ((s.1 4) + 1))] _ _
  refine l0 hi_221_37 ?_
  by_cases c4 : (k184 s ((s.1 4) + 1)) ≠ 63
  · refine l13t hi_221_39 (decide_eq_true c4) ?_
    refine am_L.mono (lt221_46 h2) ?_
    rintro o S1 ⟨e, h⟩
    have q : k221_27 s y1 y2 = k221_46 s y1 y2 := by unfold k221_27; rw [if_pos c4]
    rw [q]; exact ⟨e, h⟩
  · refine l13f hi_221_39 (decide_eq_false c4) ?_
    refine am_L.mono (lt221_42 h2) ?_
    rintro o S1 ⟨e, h⟩
    have q : k221_27 s y1 y2 = k221_42 s y1 y2 := by unfold k221_27; rw [if_neg c4]
    rw [q]; exact ⟨e, h⟩
/-- placed(II)V -/
noncomputable def k221 (s : kS) (x1 : Int32) (x2 : Int32) : kS × Int32 := if (k183 s) = 63 then k221_42 s x1 x2 else if (k183 s) = 69 then k221_27 s x1 x2 else if (k183 s) ≠ 67 then k221_46 s x1 x2 else k221_27 s x1 x2
theorem lt221 {sc : Nat × (Nat → Int32)} {N d : Nat} {S0 S : am_S} {s : kS} {x1 : Int32} {x2 : Int32} (hS : MK S0 S s) : am_L (am_PP sc) N d 221 0 [some (.ref 39), some (.int x1), some (.int x2), none] [] S (fun o S1 => o = some none ∧ MK S0 S1 (k221 s x1 x2).1) := by
  refine l2 (v := 39) hi_221_0 rfl ?_
  refine l32 (as := [.ref 39]) (la := [some (.ref 39)]) (rest := []) hi_221_1 (am_hd0 (M := 221) (by decide) 1) rfl rfl rfl (fun N' d' _ => lt183 (N := N') (d := d') hS) ?_ (fun _ q => nomatch q.1)
  rintro v3 S1 ⟨ev3, h2⟩
  cases ev3
  show am_L _ _ _ _ _ [some (.ref 39), some (.int x1), some (.int x2), none] [.int (k183 s)] _ _
  refine l0 hi_221_4 ?_
  by_cases c4 : (k183 s) = 63
  · refine l13t hi_221_6 (decide_eq_true c4) ?_
    refine am_L.mono (lt221_42 h2) ?_
    rintro o S1 ⟨e, h⟩
    have q : k221 s x1 x2 = k221_42 s x1 x2 := by unfold k221; rw [if_pos c4]
    rw [q]; exact ⟨e, h⟩
  · refine l13f hi_221_6 (decide_eq_false c4) ?_
    refine l2 (v := 39) hi_221_9 rfl ?_
    refine l32 (as := [.ref 39]) (la := [some (.ref 39)]) (rest := []) hi_221_10 (am_hd0 (M := 221) (by decide) 10) rfl rfl rfl (fun N' d' _ => lt183 (N := N') (d := d') h2) ?_ (fun _ q => nomatch q.1)
    rintro v7 S5 ⟨ev7, h6⟩
    cases ev7
    show am_L _ _ _ _ _ [some (.ref 39), some (.int x1), some (.int x2), none] [.int (k183 s)] _ _
    refine l0 hi_221_13 ?_
    by_cases c8 : (k183 s) = 69
    · refine l13t hi_221_15 (decide_eq_true c8) ?_
      refine am_L.mono (lt221_27 h6) ?_
      rintro o S1 ⟨e, h⟩
      have q : k221 s x1 x2 = k221_27 s x1 x2 := by unfold k221; rw [if_neg c4]; rw [if_pos c8]
      rw [q]; exact ⟨e, h⟩
    · refine l13f hi_221_15 (decide_eq_false c8) ?_
      refine l2 (v := 39) hi_221_18 rfl ?_
      refine l32 (as := [.ref 39]) (la := [some (.ref 39)]) (rest := []) hi_221_19 (am_hd0 (M := 221) (by decide) 19) rfl rfl rfl (fun N' d' _ => lt183 (N := N') (d := d') h6) ?_ (fun _ q => nomatch q.1)
      rintro v11 S9 ⟨ev11, h10⟩
      cases ev11
      show am_L _ _ _ _ _ [some (.ref 39), some (.int x1), some (.int x2), none] [.int (k183 s)] _ _
      refine l0 hi_221_22 ?_
      by_cases c12 : (k183 s) ≠ 67
      · refine l13t hi_221_24 (decide_eq_true c12) ?_
        refine am_L.mono (lt221_46 h10) ?_
        rintro o S1 ⟨e, h⟩
        have q : k221 s x1 x2 = k221_46 s x1 x2 := by unfold k221; rw [if_neg c4]; rw [if_neg c8]; rw [if_pos c12]
        rw [q]; exact ⟨e, h⟩
      · refine l13f hi_221_24 (decide_eq_false c12) ?_
        refine am_L.mono (lt221_27 h10) ?_
        rintro o S1 ⟨e, h⟩
        have q : k221 s x1 x2 = k221_27 s x1 x2 := by unfold k221; rw [if_neg c4]; rw [if_neg c8]; rw [if_neg c12]
        rw [q]; exact ⟨e, h⟩
def k223b10 (t : kS × Int32) : Nat × (kS × Int32) := if (t.1.1 48) ≤ t.2 then (1, (t.1, t.2)) else (0, ((k191 t.1 12 (kr t.1 50 t.2)).1, t.2 + 1))
theorem lb223_10 {sc : Nat × (Nat → Int32)} {d : Nat} {S0 : am_S} {Q : Option (Option Value) → am_S → Prop} : ∀ (N : Nat) (S : am_S) (t : kS × Int32), MK S0 S t.1 → (∀ m S1, (kwh k223b10 m t).1 = 1 → MK S0 S1 (kwh k223b10 m t).2.1 → am_L (am_PP sc) N d 223 36 [some (.ref 39), some (.int ((kwh k223b10 m t).2.2))] [] S1 Q) → am_L (am_PP sc) N d 223 10 [some (.ref 39), some (.int t.2)] [] S Q := by
  intro N
  induction N with
  | zero => intros; exact l_zero
  | succ N ih =>
    intro S t hS kx36
    refine l1d (v := t.2) hi_223_10 rfl ?_
    refine l2 (v := 39) hi_223_11 rfl ?_
    refine l20 (v := .int (t.1.1 48)) hS hi_223_12 rfl ?_
    by_cases c1 : (t.1.1 48) ≤ t.2
    · refine l13t hi_223_15 (decide_eq_true c1) ?_
      have e0 : k223b10 t = (1, (t.1, t.2)) := by unfold k223b10; rw [if_pos c1]
      have e1 : kwh k223b10 1 t = (1, (t.1, t.2)) := by rw [kwh_out (by rw [e0]; exact Nat.succ_ne_zero _), e0]
      have q := kx36 1 _  (by rw [e1]) (by rw [e1]; exact hS)
      try rw [e1] at q
      exact q.less (Nat.le_succ N)
    · refine l13f hi_223_15 (decide_eq_false c1) ?_
      refine l2 (v := 39) hi_223_18 rfl ?_
      refine l0 hi_223_19 ?_
      refine l2 (v := 39) hi_223_21 rfl ?_
      refine l20 (v := .ref 72) hS hi_223_22 rfl ?_
      refine l1 (v := t.2) hi_223_25 rfl ?_
      refine l25 hS ma_50 hi_223_26 fun g2 g3 => ?_
      show am_L _ _ _ _ _ [some (.ref 39), some (.int t.2)] [.int (kr t.1 50 t.2), .int 12, .ref 39] _ _
      refine l32 (as := [.ref 39, .int 12, .int (kr t.1 50 t.2)]) (la := [some (.ref 39), some (.int 12), some (.int (kr t.1 50 t.2))]) (rest := []) hi_223_27 (am_hd0 (M := 223) (by decide) 27) rfl rfl rfl (fun N' d' _ => lt191 (N := N') (d := d') hS) ?_ (fun _ q => nomatch q.1)
      rintro v6 S4 ⟨ev6, h5⟩
      cases ev6
      show am_L _ _ _ _ _ [some (.ref 39), some (.int t.2)] [] _ _
      refine l5 (v := t.2) (ls' := [some (.ref 39), some (.int (t.2 + 1))]) hi_223_30 rfl rfl ?_
      refine l18 hi_223_33 ?_
      have e0 : k223b10 t = (0, ((k191 t.1 12 (kr t.1 50 t.2)).1, t.2 + 1)) := by unfold k223b10; rw [if_neg c1]
      have e1 : ∀ m, kwh k223b10 (m + 1) t = kwh k223b10 m ((k191 t.1 12 (kr t.1 50 t.2)).1, t.2 + 1) := fun m => by rw [kwh_go (by rw [e0]), e0]
      exact ih _  ((k191 t.1 12 (kr t.1 50 t.2)).1, t.2 + 1) h5 (fun m S1 hm h1 => by have q := kx36 (m + 1) S1 (by rw [e1]; exact hm) (by rw [e1]; exact h1); (try rw [e1] at q); exact q.less (Nat.le_succ N))
/-- lostGotos()V -/
noncomputable def k223 (s : kS) : kS × Int32 := (kf ((kfin k223b10 (s, kr s 36 (s.1 32))).2.1) 48 (kr ((kfin k223b10 (s, kr s 36 (s.1 32))).2.1) 36 (((kfin k223b10 (s, kr s 36 (s.1 32))).2.1).1 32)), 0)
theorem lt223 {sc : Nat × (Nat → Int32)} {N d : Nat} {S0 S : am_S} {s : kS} (hS : MK S0 S s) : am_L (am_PP sc) N d 223 0 [some (.ref 39), none] [] S (fun o S1 => o = some none ∧ MK S0 S1 (k223 s).1) := by
  refine l2 (v := 39) hi_223_0 rfl ?_
  refine l20 (v := .ref 61) hS hi_223_1 rfl ?_
  refine l2 (v := 39) hi_223_4 rfl ?_
  refine l20 (v := .int (s.1 32)) hS hi_223_5 rfl ?_
  refine l25 hS ma_36 hi_223_8 fun g1 g2 => ?_
  show am_L _ _ _ _ _ [some (.ref 39), none] [.int (kr s 36 (s.1 32))] _ _
  refine l3 (ls' := [some (.ref 39), some (.int (kr s 36 (s.1 32)))]) hi_223_9 (Nat.le_of_ble_eq_true rfl) rfl ?_
  refine lb223_10 N _  (s, kr s 36 (s.1 32)) hS ?_
  · intro m3 S4  hm5 h6
    have hf7 : kfin k223b10 (s, kr s 36 (s.1 32)) = kwh k223b10 m3 (s, kr s 36 (s.1 32)) := kfin_eq (by rw [hm5]; decide)
    rw [← hf7] at hm5 h6
    try rw [← hf7]
    refine l2 (v := 39) hi_223_36 rfl ?_
    refine l2 (v := 39) hi_223_37 rfl ?_
    refine l20 (v := .ref 61) h6 hi_223_38 rfl ?_
    refine l2 (v := 39) hi_223_41 rfl ?_
    refine l20 (v := .int (((kfin k223b10 (s, kr s 36 (s.1 32))).2.1).1 32)) h6 hi_223_42 rfl ?_
    refine l25 h6 ma_36 hi_223_45 fun g8 g9 => ?_
    show am_L _ _ _ _ _ [some (.ref 39), some (.int ((kfin k223b10 (s, kr s 36 (s.1 32))).2.2))] [.int (kr ((kfin k223b10 (s, kr s 36 (s.1 32))).2.1) 36 (((kfin k223b10 (s, kr s 36 (s.1 32))).2.1).1 32)), .ref 39] _ _
    refine l21 h6 hi_223_46 ms_48 fun S10 h11 => ?_
    refine l35 hi_223_49 ⟨rfl, ?_⟩
    exact h11
def k224b20 (t : kS × Int32) : Nat × (kS × Int32) := if (t.1.1 48) ≤ t.2 then (1, (t.1, t.2)) else if (kr t.1 52 t.2) ≤ ((kr t.1 38 (t.1.1 37)) - (kr t.1 34 (t.1.1 32))) then (0, (ka t.1 52 t.2 (kr t.1 52 t.2), t.2 + 1)) else (0, (ka t.1 52 t.2 ((kr t.1 38 (t.1.1 37)) - (kr t.1 34 (t.1.1 32))), t.2 + 1))
theorem lb224_20 {sc : Nat × (Nat → Int32)} {d : Nat} {S0 : am_S} {Q : Option (Option Value) → am_S → Prop} : ∀ (N : Nat) (S : am_S) (o2 : Option Value) (t : kS × Int32), MK S0 S t.1 → (∀ m S1 (p2 : Option Value), (kwh k224b20 m t).1 = 1 → MK S0 S1 (kwh k224b20 m t).2.1 → am_L (am_PP sc) N d 224 80 [some (.ref 39), some (.int ((kwh k224b20 m t).2.2)), p2] [] S1 Q) → am_L (am_PP sc) N d 224 20 [some (.ref 39), some (.int t.2), o2] [] S Q := by
  intro N
  induction N with
  | zero => intros; exact l_zero
  | succ N ih =>
    intro S o2 t hS kx80
    refine l1d (v := t.2) hi_224_20 rfl ?_
    refine l2 (v := 39) hi_224_21 rfl ?_
    refine l20 (v := .int (t.1.1 48)) hS hi_224_22 rfl ?_
    by_cases c1 : (t.1.1 48) ≤ t.2
    · refine l13t hi_224_25 (decide_eq_true c1) ?_
      have e0 : k224b20 t = (1, (t.1, t.2)) := by unfold k224b20; rw [if_pos c1]
      have e1 : kwh k224b20 1 t = (1, (t.1, t.2)) := by rw [kwh_out (by rw [e0]; exact Nat.succ_ne_zero _), e0]
      have q := kx80 1 _ o2 (by rw [e1]) (by rw [e1]; exact hS)
      try rw [e1] at q
      exact q.less (Nat.le_succ N)
    · refine l13f hi_224_25 (decide_eq_false c1) ?_
      refine l2 (v := 39) hi_224_28 rfl ?_
      refine l20 (v := .ref 62) hS hi_224_29 rfl ?_
      refine l2 (v := 39) hi_224_32 rfl ?_
      refine l20 (v := .int (t.1.1 37)) hS hi_224_33 rfl ?_
      refine l25 hS ma_38 hi_224_36 fun g2 g3 => ?_
      show am_L _ _ _ _ _ [some (.ref 39), some (.int t.2), o2] [.int (kr t.1 38 (t.1.1 37))] _ _
      refine l2 (v := 39) hi_224_37 rfl ?_
      refine l20 (v := .ref 59) hS hi_224_38 rfl ?_
      refine l2 (v := 39) hi_224_41 rfl ?_
      refine l20 (v := .int (t.1.1 32)) hS hi_224_42 rfl ?_
      refine l25 hS ma_34 hi_224_45 fun g4 g5 => ?_
      show am_L _ _ _ _ _ [some (.ref 39), some (.int t.2), o2] [.int (kr t.1 34 (t.1.1 32)), .int (kr t.1 38 (t.1.1 37))] _ _
      refine l10 hi_224_46 ?_
      show am_L _ _ _ _ _ [some (.ref 39), some (.int t.2), o2] [.int ((kr t.1 38 (t.1.1 37)) - (kr t.1 34 (t.1.1 32)))] _ _
      refine l3 (ls' := [some (.ref 39), some (.int t.2), some (.int ((kr t.1 38 (t.1.1 37)) - (kr t.1 34 (t.1.1 32))))]) hi_224_47 (Nat.le_of_ble_eq_true rfl) rfl ?_
      refine l2 (v := 39) hi_224_48 rfl ?_
      refine l20 (v := .ref 74) hS hi_224_49 rfl ?_
      refine l1 (v := t.2) hi_224_52 rfl ?_
      refine l2 (v := 39) hi_224_53 rfl ?_
      refine l20 (v := .ref 74) hS hi_224_54 rfl ?_
      refine l1 (v := t.2) hi_224_57 rfl ?_
      refine l25 hS ma_52 hi_224_58 fun g6 g7 => ?_
      show am_L _ _ _ _ _ [some (.ref 39), some (.int t.2), some (.int ((kr t.1 38 (t.1.1 37)) - (kr t.1 34 (t.1.1 32))))] [.int (kr t.1 52 t.2), .int t.2, .ref 74] _ _
      refine l1 (v := (kr t.1 38 (t.1.1 37)) - (kr t.1 34 (t.1.1 32))) hi_224_59 rfl ?_
      by_cases c8 : (kr t.1 52 t.2) ≤ ((kr t.1 38 (t.1.1 37)) - (kr t.1 34 (t.1.1 32)))
      · refine l13t hi_224_60 (decide_eq_true c8) ?_
        refine l2 (v := 39) hi_224_67 rfl ?_
        refine l20 (v := .ref 74) hS hi_224_68 rfl ?_
        refine l1 (v := t.2) hi_224_71 rfl ?_
        refine l25 hS ma_52 hi_224_72 fun g9 g10 => ?_
        show am_L _ _ _ _ _ [some (.ref 39), some (.int t.2), some (.int ((kr t.1 38 (t.1.1 37)) - (kr t.1 34 (t.1.1 32))))] [.int (kr t.1 52 t.2), .int t.2, .ref 74] _ _
        refine l26 hS ma_52 hi_224_73 fun S13 h14 g11 g12 => ?_
        refine l5 (v := t.2) (ls' := [some (.ref 39), some (.int (t.2 + 1)), some (.int ((kr t.1 38 (t.1.1 37)) - (kr t.1 34 (t.1.1 32))))]) hi_224_74 rfl rfl ?_
        refine l18 hi_224_77 ?_
        have e0 : k224b20 t = (0, (ka t.1 52 t.2 (kr t.1 52 t.2), t.2 + 1)) := by unfold k224b20; rw [if_neg c1]; rw [if_pos c8]
        have e1 : ∀ m, kwh k224b20 (m + 1) t = kwh k224b20 m (ka t.1 52 t.2 (kr t.1 52 t.2), t.2 + 1) := fun m => by rw [kwh_go (by rw [e0]), e0]
        exact ih _ (some (.int ((kr t.1 38 (t.1.1 37)) - (kr t.1 34 (t.1.1 32))))) (ka t.1 52 t.2 (kr t.1 52 t.2), t.2 + 1) h14 (fun m S1 p2 hm h1 => by have q := kx80 (m + 1) S1 p2 (by rw [e1]; exact hm) (by rw [e1]; exact h1); (try rw [e1] at q); exact q.less (Nat.le_succ N))
      · refine l13f hi_224_60 (decide_eq_false c8) ?_
        refine l1 (v := (kr t.1 38 (t.1.1 37)) - (kr t.1 34 (t.1.1 32))) hi_224_63 rfl ?_
        refine l18 hi_224_64 ?_
        refine l26 hS ma_52 hi_224_73 fun S17 h18 g15 g16 => ?_
        refine l5 (v := t.2) (ls' := [some (.ref 39), some (.int (t.2 + 1)), some (.int ((kr t.1 38 (t.1.1 37)) - (kr t.1 34 (t.1.1 32))))]) hi_224_74 rfl rfl ?_
        refine l18 hi_224_77 ?_
        have e0 : k224b20 t = (0, (ka t.1 52 t.2 ((kr t.1 38 (t.1.1 37)) - (kr t.1 34 (t.1.1 32))), t.2 + 1)) := by unfold k224b20; rw [if_neg c1]; rw [if_neg c8]
        have e1 : ∀ m, kwh k224b20 (m + 1) t = kwh k224b20 m (ka t.1 52 t.2 ((kr t.1 38 (t.1.1 37)) - (kr t.1 34 (t.1.1 32))), t.2 + 1) := fun m => by rw [kwh_go (by rw [e0]), e0]
        exact ih _ (some (.int ((kr t.1 38 (t.1.1 37)) - (kr t.1 34 (t.1.1 32))))) (ka t.1 52 t.2 ((kr t.1 38 (t.1.1 37)) - (kr t.1 34 (t.1.1 32))), t.2 + 1) h18 (fun m S1 p2 hm h1 => by have q := kx80 (m + 1) S1 p2 (by rw [e1]; exact hm) (by rw [e1]; exact h1); (try rw [e1] at q); exact q.less (Nat.le_succ N))
/-- dropBlock()V -/
noncomputable def k224 (s : kS) : kS × Int32 := (kf (kf ((kfin k224b20 (kf s 37 ((s.1 37) - 1), kr s 40 ((s.1 37) - 1))).2.1) 24 (kr ((kfin k224b20 (kf s 37 ((s.1 37) - 1), kr s 40 ((s.1 37) - 1))).2.1) 38 (((kfin k224b20 (kf s 37 ((s.1 37) - 1), kr s 40 ((s.1 37) - 1))).2.1).1 37))) 44 (kr ((kfin k224b20 (kf s 37 ((s.1 37) - 1), kr s 40 ((s.1 37) - 1))).2.1) 39 (((kfin k224b20 (kf s 37 ((s.1 37) - 1), kr s 40 ((s.1 37) - 1))).2.1).1 37)), 0)
theorem lt224 {sc : Nat × (Nat → Int32)} {N d : Nat} {S0 S : am_S} {s : kS} (hS : MK S0 S s) : am_L (am_PP sc) N d 224 0 [some (.ref 39), none, none] [] S (fun o S1 => o = some none ∧ MK S0 S1 (k224 s).1) := by
  refine l2 (v := 39) hi_224_0 rfl ?_
  refine l7 hi_224_1 ?_
  refine l20 (v := .int (s.1 37)) hS hi_224_2 rfl ?_
  refine l0 hi_224_5 ?_
  refine l10 hi_224_6 ?_
  show am_L _ _ _ _ _ [some (.ref 39), none, none] [.int ((s.1 37) - 1), .ref 39] _ _
  refine l21 hS hi_224_7 ms_37 fun S1 h2 => ?_
  refine l2 (v := 39) hi_224_10 rfl ?_
  refine l20 (v := .ref 64) h2 hi_224_11 rfl ?_
  refine l2 (v := 39) hi_224_14 rfl ?_
  refine l20 (v := .int ((s.1 37) - 1)) h2 hi_224_15 rfl ?_
  refine l25 h2 ma_40 hi_224_18 fun g3 g4 => ?_
  show am_L _ _ _ _ _ [some (.ref 39), none, none] [.int (kr s 40 ((s.1 37) - 1))] _ _
  refine l3 (ls' := [some (.ref 39), some (.int (kr s 40 ((s.1 37) - 1))), none]) hi_224_19 (Nat.le_of_ble_eq_true rfl) rfl ?_
  refine lb224_20 N _ none (kf s 37 ((s.1 37) - 1), kr s 40 ((s.1 37) - 1)) h2 ?_
  · intro m5 S6 p10 hm7 h8
    have hf9 : kfin k224b20 (kf s 37 ((s.1 37) - 1), kr s 40 ((s.1 37) - 1)) = kwh k224b20 m5 (kf s 37 ((s.1 37) - 1), kr s 40 ((s.1 37) - 1)) := kfin_eq (by rw [hm7]; decide)
    rw [← hf9] at hm7 h8
    try rw [← hf9]
    refine l2 (v := 39) hi_224_80 rfl ?_
    refine l2 (v := 39) hi_224_81 rfl ?_
    refine l20 (v := .ref 62) h8 hi_224_82 rfl ?_
    refine l2 (v := 39) hi_224_85 rfl ?_
    refine l20 (v := .int (((kfin k224b20 (kf s 37 ((s.1 37) - 1), kr s 40 ((s.1 37) - 1))).2.1).1 37)) h8 hi_224_86 rfl ?_
    refine l25 h8 ma_38 hi_224_89 fun g11 g12 => ?_
    show am_L _ _ _ _ _ [some (.ref 39), some (.int ((kfin k224b20 (kf s 37 ((s.1 37) - 1), kr s 40 ((s.1 37) - 1))).2.2)), p10] [.int (kr ((kfin k224b20 (kf s 37 ((s.1 37) - 1), kr s 40 ((s.1 37) - 1))).2.1) 38 (((kfin k224b20 (kf s 37 ((s.1 37) - 1), kr s 40 ((s.1 37) - 1))).2.1).1 37)), .ref 39] _ _
    refine l21 h8 hi_224_90 ms_24 fun S13 h14 => ?_
    refine l2 (v := 39) hi_224_93 rfl ?_
    refine l2 (v := 39) hi_224_94 rfl ?_
    refine l20 (v := .ref 63) h14 hi_224_95 rfl ?_
    refine l2 (v := 39) hi_224_98 rfl ?_
    refine l20 (v := .int (((kfin k224b20 (kf s 37 ((s.1 37) - 1), kr s 40 ((s.1 37) - 1))).2.1).1 37)) h14 hi_224_99 rfl ?_
    refine l25 h14 ma_39 hi_224_102 fun g15 g16 => ?_
    show am_L _ _ _ _ _ [some (.ref 39), some (.int ((kfin k224b20 (kf s 37 ((s.1 37) - 1), kr s 40 ((s.1 37) - 1))).2.2)), p10] [.int (kr ((kfin k224b20 (kf s 37 ((s.1 37) - 1), kr s 40 ((s.1 37) - 1))).2.1) 39 (((kfin k224b20 (kf s 37 ((s.1 37) - 1), kr s 40 ((s.1 37) - 1))).2.1).1 37)), .ref 39] _ _
    refine l21 h14 hi_224_103 ms_44 fun S17 h18 => ?_
    refine l35 hi_224_106 ⟨rfl, ?_⟩
    exact h18
noncomputable def k222_54 (s : kS) (y3 : Int32) : kS × Int32 := (kf (kf s 32 ((s.1 32) - 1)) 76 y3, 0)
theorem lt222_54 {sc : Nat × (Nat → Int32)} {N d : Nat} {S0 S : am_S} {s : kS} {y3 : Int32} {o1 : Option Value} {o2 : Option Value} (hS : MK S0 S s) : am_L (am_PP sc) N d 222 54 [some (.ref 39), o1, o2, some (.int y3)] [] S (fun o S1 => o = some none ∧ MK S0 S1 (k222_54 s y3).1) := by
  refine l2 (v := 39) hi_222_54 rfl ?_
  refine l7 hi_222_55 ?_
  refine l20 (v := .int (s.1 32)) hS hi_222_56 rfl ?_
  refine l0 hi_222_59 ?_
  refine l10 hi_222_60 ?_
  show am_L _ _ _ _ _ [some (.ref 39), o1, o2, some (.int y3)] [.int ((s.1 32) - 1), .ref 39] _ _
  refine l21 hS hi_222_61 ms_32 fun S1 h2 => ?_
  refine l2 (v := 39) hi_222_64 rfl ?_
  refine l1 (v := y3) hi_222_65 rfl ?_
  refine l21 h2 hi_222_66 ms_76 fun S3 h4 => ?_
  refine l35 hi_222_69 ⟨rfl, ?_⟩
  exact h4
noncomputable def k222_50 (s : kS) (y3 : Int32) : kS × Int32 := k222_54 ((k224 s).1) y3
theorem lt222_50 {sc : Nat × (Nat → Int32)} {N d : Nat} {S0 S : am_S} {s : kS} {y3 : Int32} {o1 : Option Value} {o2 : Option Value} (hS : MK S0 S s) : am_L (am_PP sc) N d 222 50 [some (.ref 39), o1, o2, some (.int y3)] [] S (fun o S1 => o = some none ∧ MK S0 S1 (k222_50 s y3).1) := by
  refine l2 (v := 39) hi_222_50 rfl ?_
  refine l32 (as := [.ref 39]) (la := [some (.ref 39), none, none]) (rest := []) hi_222_51 (am_hd0 (M := 222) (by decide) 51) rfl rfl rfl (fun N' d' _ => lt224 (N := N') (d := d') hS) ?_ (fun _ q => nomatch q.1)
  rintro v3 S1 ⟨ev3, h2⟩
  cases ev3
  show am_L _ _ _ _ _ [some (.ref 39), o1, o2, some (.int y3)] [] _ _
  refine am_L.mono (lt222_54 h2) ?_
  rintro o S1 ⟨e, h⟩
  have q : k222_50 s y3 = k222_54 ((k224 s).1) y3 := rfl
  rw [q]; exact ⟨e, h⟩
noncomputable def k222_34 (s : kS) (y1 : Int32) (y2 : Int32) (y3 : Int32) (z0 : Int32) : kS × Int32 := k222_50 ((k223 (ka s 57 y3 ((y2 - y1) + 1))).1) y3
theorem lt222_34 {sc : Nat × (Nat → Int32)} {N d : Nat} {S0 S : am_S} {s : kS} {y1 : Int32} {y2 : Int32} {y3 : Int32} {z0 : Int32} (hS : MK S0 S s) : am_L (am_PP sc) N d 222 34 [some (.ref 39), some (.int y1), some (.int y2), some (.int y3)] [.int z0] S (fun o S1 => o = some none ∧ MK S0 S1 (k222_34 s y1 y2 y3 z0).1) := by
  refine l6i hi_222_34 ?_
  refine l2 (v := 39) hi_222_35 rfl ?_
  refine l20 (v := .ref 78) hS hi_222_36 rfl ?_
  refine l1 (v := y3) hi_222_39 rfl ?_
  refine l1 (v := y2) hi_222_40 rfl ?_
  refine l1 (v := y1) hi_222_41 rfl ?_
  refine l10 hi_222_42 ?_
  show am_L _ _ _ _ _ [some (.ref 39), some (.int y1), some (.int y2), some (.int y3)] [.int (y2 - y1), .int y3, .ref 78] _ _
  refine l0 hi_222_43 ?_
  refine l10 hi_222_44 ?_
  show am_L _ _ _ _ _ [some (.ref 39), some (.int y1), some (.int y2), some (.int y3)] [.int ((y2 - y1) + 1), .int y3, .ref 78] _ _
  refine l26 hS ma_57 hi_222_45 fun S3 h4 g1 g2 => ?_
  refine l2 (v := 39) hi_222_46 rfl ?_
  refine l32 (as := [.ref 39]) (la := [some (.ref 39), none]) (rest := []) hi_222_47 (am_hd0 (M := 222) (by decide) 47) rfl rfl rfl (fun N' d' _ => lt223 (N := N') (d := d') h4) ?_ (fun _ q => nomatch q.1)
  rintro v7 S5 ⟨ev7, h6⟩
  cases ev7
  show am_L _ _ _ _ _ [some (.ref 39), some (.int y1), some (.int y2), some (.int y3)] [] _ _
  refine am_L.mono (lt222_50 h6) ?_
  rintro o S1 ⟨e, h⟩
  have q : k222_34 s y1 y2 y3 z0 = k222_50 ((k223 (ka s 57 y3 ((y2 - y1) + 1))).1) y3 := rfl
  rw [q]; exact ⟨e, h⟩
noncomputable def k222_11 (s : kS) (y1 : Int32) (y2 : Int32) (z0 : Int32) : kS × Int32 := if z0 ≠ 0 then k222_34 ((k189 s 45 0 0 y2).1) y1 y2 (kr s 33 (s.1 32)) ((k189 s 45 0 0 y2).2) else (s, 0)
theorem lt222_11 {sc : Nat × (Nat → Int32)} {N d : Nat} {S0 S : am_S} {s : kS} {y1 : Int32} {y2 : Int32} {z0 : Int32} {o3 : Option Value} (hS : MK S0 S s) : am_L (am_PP sc) N d 222 11 [some (.ref 39), some (.int y1), some (.int y2), o3] [.int z0] S (fun o S1 => o = some none ∧ MK S0 S1 (k222_11 s y1 y2 z0).1) := by
  by_cases c1 : z0 ≠ 0
  · refine l12t hi_222_11 (decide_eq_true c1) ?_
    refine l2 (v := 39) hi_222_15 rfl ?_
    refine l20 (v := .ref 58) hS hi_222_16 rfl ?_
    refine l2 (v := 39) hi_222_19 rfl ?_
    refine l20 (v := .int (s.1 32)) hS hi_222_20 rfl ?_
    refine l25 hS ma_33 hi_222_23 fun g2 g3 => ?_
    show am_L _ _ _ _ _ [some (.ref 39), some (.int y1), some (.int y2), o3] [.int (kr s 33 (s.1 32))] _ _
    refine l3 (ls' := [some (.ref 39), some (.int y1), some (.int y2), some (.int (kr s 33 (s.1 32)))]) hi_222_24 (Nat.le_of_ble_eq_true rfl) rfl ?_
    refine l2 (v := 39) hi_222_25 rfl ?_
    refine l0 hi_222_26 ?_
    refine l0 hi_222_28 ?_
    refine l0 hi_222_29 ?_
    refine l1 (v := y2) hi_222_30 rfl ?_
    refine l32 (as := [.ref 39, .int 45, .int 0, .int 0, .int y2]) (la := [some (.ref 39), some (.int 45), some (.int 0), some (.int 0), some (.int y2)]) (rest := []) hi_222_31 (am_hd0 (M := 222) (by decide) 31) rfl rfl rfl (fun N' d' _ => lt189 (N := N') (d := d') hS) ?_ (fun _ q => nomatch q.1)
    rintro v6 S4 ⟨ev6, h5⟩
    cases ev6
    show am_L _ _ _ _ _ [some (.ref 39), some (.int y1), some (.int y2), some (.int (kr s 33 (s.1 32)))] [.int ((k189 s 45 0 0 y2).2)] _ _
    refine am_L.mono (lt222_34 h5) ?_
    rintro o S1 ⟨e, h⟩
    have q : k222_11 s y1 y2 z0 = k222_34 ((k189 s 45 0 0 y2).1) y1 y2 (kr s 33 (s.1 32)) ((k189 s 45 0 0 y2).2) := by unfold k222_11; rw [if_pos c1]
    rw [q]; exact ⟨e, h⟩
  · refine l12f hi_222_11 (decide_eq_false c1) ?_
    refine l35 hi_222_14 ⟨rfl, ?_⟩
    unfold k222_11; rw [if_neg c1]; exact hS
/-- bodyEnd(I)V -/
noncomputable def k222 (s : kS) (x1 : Int32) : kS × Int32 := k222_11 ((k199 s 15).1) x1 (s.1 4) ((k199 s 15).2)
theorem lt222 {sc : Nat × (Nat → Int32)} {N d : Nat} {S0 S : am_S} {s : kS} {x1 : Int32} (hS : MK S0 S s) : am_L (am_PP sc) N d 222 0 [some (.ref 39), some (.int x1), none, none] [] S (fun o S1 => o = some none ∧ MK S0 S1 (k222 s x1).1) := by
  refine l2 (v := 39) hi_222_0 rfl ?_
  refine l20 (v := .int (s.1 4)) hS hi_222_1 rfl ?_
  refine l3 (ls' := [some (.ref 39), some (.int x1), some (.int (s.1 4)), none]) hi_222_4 (Nat.le_of_ble_eq_true rfl) rfl ?_
  refine l2 (v := 39) hi_222_5 rfl ?_
  refine l0 hi_222_6 ?_
  refine l32 (as := [.ref 39, .int 15]) (la := [some (.ref 39), some (.int 15)]) (rest := []) hi_222_8 (am_hd0 (M := 222) (by decide) 8) rfl rfl rfl (fun N' d' _ => lt199 (N := N') (d := d') hS) ?_ (fun _ q => nomatch q.1)
  rintro v3 S1 ⟨ev3, h2⟩
  cases ev3
  show am_L _ _ _ _ _ [some (.ref 39), some (.int x1), some (.int (s.1 4)), none] [.int ((k199 s 15).2)] _ _
  refine am_L.mono (lt222_11 h2) ?_
  rintro o S1 ⟨e, h⟩
  have q : k222 s x1 = k222_11 ((k199 s 15).1) x1 (s.1 4) ((k199 s 15).2) := rfl
  rw [q]; exact ⟨e, h⟩
noncomputable def k181_108 (s : kS) (y2 : Int32) (y3 : Int32) : kS × Int32 := ((k189 s 19 y2 0 y3).1, 0)
theorem lt181_108 {sc : Nat × (Nat → Int32)} {N d : Nat} {S0 S : am_S} {s : kS} {y2 : Int32} {y3 : Int32} {o1 : Option Value} (hS : MK S0 S s) : am_L (am_PP sc) N d 181 108 [some (.ref 39), o1, some (.int y2), some (.int y3)] [] S (fun o S1 => o = some none ∧ MK S0 S1 (k181_108 s y2 y3).1) := by
  refine l2 (v := 39) hi_181_108 rfl ?_
  refine l0 hi_181_109 ?_
  refine l1 (v := y2) hi_181_111 rfl ?_
  refine l0 hi_181_112 ?_
  refine l1 (v := y3) hi_181_113 rfl ?_
  refine l32 (as := [.ref 39, .int 19, .int y2, .int 0, .int y3]) (la := [some (.ref 39), some (.int 19), some (.int y2), some (.int 0), some (.int y3)]) (rest := []) hi_181_114 (am_hd0 (M := 181) (by decide) 114) rfl rfl rfl (fun N' d' _ => lt189 (N := N') (d := d') hS) ?_ (fun _ q => nomatch q.1)
  rintro v3 S1 ⟨ev3, h2⟩
  cases ev3
  show am_L _ _ _ _ _ [some (.ref 39), o1, some (.int y2), some (.int y3)] [.int ((k189 s 19 y2 0 y3).2)] _ _
  refine l6i hi_181_117 ?_
  refine l18 hi_181_118 ?_
  refine l35 hi_181_397 ⟨rfl, ?_⟩
  exact h2
noncomputable def k181_125 (s : kS) (y2 : Int32) : kS × Int32 := (ka s 71 y2 (k210 s), 0)
theorem lt181_125 {sc : Nat × (Nat → Int32)} {N d : Nat} {S0 S : am_S} {s : kS} {y2 : Int32} {o1 : Option Value} {o3 : Option Value} (hS : MK S0 S s) : am_L (am_PP sc) N d 181 125 [some (.ref 39), o1, some (.int y2), o3] [] S (fun o S1 => o = some none ∧ MK S0 S1 (k181_125 s y2).1) := by
  refine l2 (v := 39) hi_181_125 rfl ?_
  refine l20 (v := .ref 90) hS hi_181_126 rfl ?_
  refine l1 (v := y2) hi_181_129 rfl ?_
  refine l2 (v := 39) hi_181_130 rfl ?_
  refine l32 (as := [.ref 39]) (la := [some (.ref 39)]) (rest := [.int y2, .ref 90]) hi_181_131 (am_hd0 (M := 181) (by decide) 131) rfl rfl rfl (fun N' d' _ => lt210 (N := N') (d := d') hS) ?_ (fun _ q => nomatch q.1)
  rintro v3 S1 ⟨ev3, h2⟩
  cases ev3
  show am_L _ _ _ _ _ [some (.ref 39), o1, some (.int y2), o3] [.int (k210 s), .int y2, .ref 90] _ _
  refine l26 h2 ma_71 hi_181_134 fun S6 h7 g4 g5 => ?_
  refine l18 hi_181_135 ?_
  refine l35 hi_181_397 ⟨rfl, ?_⟩
  exact h7
noncomputable def k181_167 (s : kS) (y3 : Int32) (z0 : Int32) (z1 : Int32) : kS × Int32 := ((k189 s z1 z0 0 y3).1, 0)
theorem lt181_167 {sc : Nat × (Nat → Int32)} {N d : Nat} {S0 S : am_S} {s : kS} {y3 : Int32} {z0 : Int32} {z1 : Int32} {o1 : Option Value} {o2 : Option Value} (hS : MK S0 S s) : am_L (am_PP sc) N d 181 167 [some (.ref 39), o1, o2, some (.int y3)] [.int z0, .int z1, .ref 39] S (fun o S1 => o = some none ∧ MK S0 S1 (k181_167 s y3 z0 z1).1) := by
  refine l0 hi_181_167 ?_
  refine l1 (v := y3) hi_181_168 rfl ?_
  refine l32 (as := [.ref 39, .int z1, .int z0, .int 0, .int y3]) (la := [some (.ref 39), some (.int z1), some (.int z0), some (.int 0), some (.int y3)]) (rest := []) hi_181_169 (am_hd0 (M := 181) (by decide) 169) rfl rfl rfl (fun N' d' _ => lt189 (N := N') (d := d') hS) ?_ (fun _ q => nomatch q.1)
  rintro v3 S1 ⟨ev3, h2⟩
  cases ev3
  show am_L _ _ _ _ _ [some (.ref 39), o1, o2, some (.int y3)] [.int ((k189 s z1 z0 0 y3).2)] _ _
  refine l6i hi_181_172 ?_
  refine l18 hi_181_173 ?_
  refine l35 hi_181_397 ⟨rfl, ?_⟩
  exact h2
noncomputable def k181_156 (s : kS) (y2 : Int32) (y3 : Int32) (z0 : Int32) : kS × Int32 := if y2 ≠ 24 then k181_167 s y3 y2 z0 else k181_167 s y3 0 z0
theorem lt181_156 {sc : Nat × (Nat → Int32)} {N d : Nat} {S0 S : am_S} {s : kS} {y2 : Int32} {y3 : Int32} {z0 : Int32} {o1 : Option Value} (hS : MK S0 S s) : am_L (am_PP sc) N d 181 156 [some (.ref 39), o1, some (.int y2), some (.int y3)] [.int z0, .ref 39] S (fun o S1 => o = some none ∧ MK S0 S1 (k181_156 s y2 y3 z0).1) := by
  refine l1 (v := y2) hi_181_156 rfl ?_
  refine l0 hi_181_157 ?_
  by_cases c1 : y2 ≠ 24
  · refine l13t hi_181_159 (decide_eq_true c1) ?_
    refine l1 (v := y2) hi_181_166 rfl ?_
    refine am_L.mono (lt181_167 hS) ?_
    rintro o S1 ⟨e, h⟩
    have q : k181_156 s y2 y3 z0 = k181_167 s y3 y2 z0 := by unfold k181_156; rw [if_pos c1]
    rw [q]; exact ⟨e, h⟩
  · refine l13f hi_181_159 (decide_eq_false c1) ?_
    refine l0 hi_181_162 ?_
    refine l18 hi_181_163 ?_
    refine am_L.mono (lt181_167 hS) ?_
    rintro o S1 ⟨e, h⟩
    have q : k181_156 s y2 y3 z0 = k181_167 s y3 0 z0 := by unfold k181_156; rw [if_neg c1]
    rw [q]; exact ⟨e, h⟩
noncomputable def k181_142 (s : kS) (y2 : Int32) (y3 : Int32) : kS × Int32 := if y2 ≠ 24 then k181_156 s y2 y3 18 else k181_156 s y2 y3 17
theorem lt181_142 {sc : Nat × (Nat → Int32)} {N d : Nat} {S0 S : am_S} {s : kS} {y2 : Int32} {y3 : Int32} {o1 : Option Value} (hS : MK S0 S s) : am_L (am_PP sc) N d 181 142 [some (.ref 39), o1, some (.int y2), some (.int y3)] [] S (fun o S1 => o = some none ∧ MK S0 S1 (k181_142 s y2 y3).1) := by
  refine l2 (v := 39) hi_181_142 rfl ?_
  refine l1 (v := y2) hi_181_143 rfl ?_
  refine l0 hi_181_144 ?_
  by_cases c1 : y2 ≠ 24
  · refine l13t hi_181_146 (decide_eq_true c1) ?_
    refine l0 hi_181_154 ?_
    refine am_L.mono (lt181_156 hS) ?_
    rintro o S1 ⟨e, h⟩
    have q : k181_142 s y2 y3 = k181_156 s y2 y3 18 := by unfold k181_142; rw [if_pos c1]
    rw [q]; exact ⟨e, h⟩
  · refine l13f hi_181_146 (decide_eq_false c1) ?_
    refine l0 hi_181_149 ?_
    refine l18 hi_181_151 ?_
    refine am_L.mono (lt181_156 hS) ?_
    rintro o S1 ⟨e, h⟩
    have q : k181_142 s y2 y3 = k181_156 s y2 y3 17 := by unfold k181_142; rw [if_neg c1]
    rw [q]; exact ⟨e, h⟩
noncomputable def k181_187 (s : kS) : kS × Int32 := ((k199 s 61).1, 0)
theorem lt181_187 {sc : Nat × (Nat → Int32)} {N d : Nat} {S0 S : am_S} {s : kS} {o1 : Option Value} {o2 : Option Value} {o3 : Option Value} (hS : MK S0 S s) : am_L (am_PP sc) N d 181 187 [some (.ref 39), o1, o2, o3] [] S (fun o S1 => o = some none ∧ MK S0 S1 (k181_187 s).1) := by
  refine l2 (v := 39) hi_181_187 rfl ?_
  refine l0 hi_181_188 ?_
  refine l32 (as := [.ref 39, .int 61]) (la := [some (.ref 39), some (.int 61)]) (rest := []) hi_181_190 (am_hd0 (M := 181) (by decide) 190) rfl rfl rfl (fun N' d' _ => lt199 (N := N') (d := d') hS) ?_ (fun _ q => nomatch q.1)
  rintro v3 S1 ⟨ev3, h2⟩
  cases ev3
  show am_L _ _ _ _ _ [some (.ref 39), o1, o2, o3] [.int ((k199 s 61).2)] _ _
  refine l6i hi_181_193 ?_
  refine l18 hi_181_194 ?_
  refine l35 hi_181_397 ⟨rfl, ?_⟩
  exact h2
noncomputable def k181_218 (s : kS) : kS × Int32 := ((k199 s 65).1, 0)
theorem lt181_218 {sc : Nat × (Nat → Int32)} {N d : Nat} {S0 S : am_S} {s : kS} {o1 : Option Value} {o2 : Option Value} {o3 : Option Value} (hS : MK S0 S s) : am_L (am_PP sc) N d 181 218 [some (.ref 39), o1, o2, o3] [] S (fun o S1 => o = some none ∧ MK S0 S1 (k181_218 s).1) := by
  refine l2 (v := 39) hi_181_218 rfl ?_
  refine l0 hi_181_219 ?_
  refine l32 (as := [.ref 39, .int 65]) (la := [some (.ref 39), some (.int 65)]) (rest := []) hi_181_221 (am_hd0 (M := 181) (by decide) 221) rfl rfl rfl (fun N' d' _ => lt199 (N := N') (d := d') hS) ?_ (fun _ q => nomatch q.1)
  rintro v3 S1 ⟨ev3, h2⟩
  cases ev3
  show am_L _ _ _ _ _ [some (.ref 39), o1, o2, o3] [.int ((k199 s 65).2)] _ _
  refine l6i hi_181_224 ?_
  refine l18 hi_181_225 ?_
  refine l35 hi_181_397 ⟨rfl, ?_⟩
  exact h2
noncomputable def k181_201 (s : kS) (y2 : Int32) : kS × Int32 := k181_218 ((k190 (kf s 15 ((s.1 15) - 1)) 4 0 y2).1)
theorem lt181_201 {sc : Nat × (Nat → Int32)} {N d : Nat} {S0 S : am_S} {s : kS} {y2 : Int32} {o1 : Option Value} {o3 : Option Value} (hS : MK S0 S s) : am_L (am_PP sc) N d 181 201 [some (.ref 39), o1, some (.int y2), o3] [] S (fun o S1 => o = some none ∧ MK S0 S1 (k181_201 s y2).1) := by
  refine l2 (v := 39) hi_181_201 rfl ?_
  refine l7 hi_181_202 ?_
  refine l20 (v := .int (s.1 15)) hS hi_181_203 rfl ?_
  refine l0 hi_181_206 ?_
  refine l10 hi_181_207 ?_
  show am_L _ _ _ _ _ [some (.ref 39), o1, some (.int y2), o3] [.int ((s.1 15) - 1), .ref 39] _ _
  refine l21 hS hi_181_208 ms_15 fun S1 h2 => ?_
  refine l2 (v := 39) hi_181_211 rfl ?_
  refine l0 hi_181_212 ?_
  refine l0 hi_181_213 ?_
  refine l1 (v := y2) hi_181_214 rfl ?_
  refine l32 (as := [.ref 39, .int 4, .int 0, .int y2]) (la := [some (.ref 39), some (.int 4), some (.int 0), some (.int y2)]) (rest := []) hi_181_215 (am_hd0 (M := 181) (by decide) 215) rfl rfl rfl (fun N' d' _ => lt190 (N := N') (d := d') h2) ?_ (fun _ q => nomatch q.1)
  rintro v5 S3 ⟨ev5, h4⟩
  cases ev5
  show am_L _ _ _ _ _ [some (.ref 39), o1, some (.int y2), o3] [] _ _
  refine am_L.mono (lt181_218 h4) ?_
  rintro o S1 ⟨e, h⟩
  have q : k181_201 s y2 = k181_218 ((k190 (kf s 15 ((s.1 15) - 1)) 4 0 y2).1) := rfl
  rw [q]; exact ⟨e, h⟩
noncomputable def k181_241 (s : kS) (y2 : Int32) (y3 : Int32) : kS × Int32 := ((k213 s (1 + y2) 0 y3).1, 0)
theorem lt181_241 {sc : Nat × (Nat → Int32)} {N d : Nat} {S0 S : am_S} {s : kS} {y2 : Int32} {y3 : Int32} {o1 : Option Value} (hS : MK S0 S s) : am_L (am_PP sc) N d 181 241 [some (.ref 39), o1, some (.int y2), some (.int y3)] [] S (fun o S1 => o = some none ∧ MK S0 S1 (k181_241 s y2 y3).1) := by
  refine l2 (v := 39) hi_181_241 rfl ?_
  refine l0 hi_181_242 ?_
  refine l1 (v := y2) hi_181_243 rfl ?_
  refine l10 hi_181_244 ?_
  show am_L _ _ _ _ _ [some (.ref 39), o1, some (.int y2), some (.int y3)] [.int (1 + y2), .ref 39] _ _
  refine l0 hi_181_245 ?_
  refine l1 (v := y3) hi_181_246 rfl ?_
  refine l32 (as := [.ref 39, .int (1 + y2), .int 0, .int y3]) (la := [some (.ref 39), some (.int (1 + y2)), some (.int 0), some (.int y3), none]) (rest := []) hi_181_247 (am_hd0 (M := 181) (by decide) 247) rfl rfl rfl (fun N' d' _ => lt213 (N := N') (d := d') hS) ?_ (fun _ q => nomatch q.1)
  rintro v3 S1 ⟨ev3, h2⟩
  cases ev3
  show am_L _ _ _ _ _ [some (.ref 39), o1, some (.int y2), some (.int y3)] [] _ _
  refine l18 hi_181_250 ?_
  refine l35 hi_181_397 ⟨rfl, ?_⟩
  exact h2
noncomputable def k181_303 (s : kS) : kS × Int32 := ((k186 s 0).1, 0)
theorem lt181_303 {sc : Nat × (Nat → Int32)} {N d : Nat} {S0 S : am_S} {s : kS} {o1 : Option Value} {o2 : Option Value} {o3 : Option Value} (hS : MK S0 S s) : am_L (am_PP sc) N d 181 303 [some (.ref 39), o1, o2, o3] [] S (fun o S1 => o = some none ∧ MK S0 S1 (k181_303 s).1) := by
  refine l2 (v := 39) hi_181_303 rfl ?_
  refine l0 hi_181_304 ?_
  refine l32 (as := [.ref 39, .int 0]) (la := [some (.ref 39), some (.int 0)]) (rest := []) hi_181_305 (am_hd0 (M := 181) (by decide) 305) rfl rfl rfl (fun N' d' _ => lt186 (N := N') (d := d') hS) ?_ (fun _ q => nomatch q.1)
  rintro v3 S1 ⟨ev3, h2⟩
  cases ev3
  show am_L _ _ _ _ _ [some (.ref 39), o1, o2, o3] [] _ _
  refine l18 hi_181_308 ?_
  refine l35 hi_181_397 ⟨rfl, ?_⟩
  exact h2
noncomputable def k181_288 (s : kS) (y2 : Int32) (y3 : Int32) (z0 : Int32) : kS × Int32 := if z0 ≠ 0 then k181_303 ((k179 s 37 y2 y3 0).1) else (s, 0)
theorem lt181_288 {sc : Nat × (Nat → Int32)} {N d : Nat} {S0 S : am_S} {s : kS} {y2 : Int32} {y3 : Int32} {z0 : Int32} {o1 : Option Value} (hS : MK S0 S s) : am_L (am_PP sc) N d 181 288 [some (.ref 39), o1, some (.int y2), some (.int y3)] [.int z0] S (fun o S1 => o = some none ∧ MK S0 S1 (k181_288 s y2 y3 z0).1) := by
  by_cases c1 : z0 ≠ 0
  · refine l12t hi_181_288 (decide_eq_true c1) ?_
    refine l2 (v := 39) hi_181_294 rfl ?_
    refine l0 hi_181_295 ?_
    refine l1 (v := y2) hi_181_297 rfl ?_
    refine l1 (v := y3) hi_181_298 rfl ?_
    refine l0 hi_181_299 ?_
    refine l32 (as := [.ref 39, .int 37, .int y2, .int y3, .int 0]) (la := [some (.ref 39), some (.int 37), some (.int y2), some (.int y3), some (.int 0)]) (rest := []) hi_181_300 (am_hd0 (M := 181) (by decide) 300) rfl rfl rfl (fun N' d' _ => lt179 (N := N') (d := d') hS) ?_ (fun _ q => nomatch q.1)
    rintro v4 S2 ⟨ev4, h3⟩
    cases ev4
    show am_L _ _ _ _ _ [some (.ref 39), o1, some (.int y2), some (.int y3)] [] _ _
    refine am_L.mono (lt181_303 h3) ?_
    rintro o S1 ⟨e, h⟩
    have q : k181_288 s y2 y3 z0 = k181_303 ((k179 s 37 y2 y3 0).1) := by unfold k181_288; rw [if_pos c1]
    rw [q]; exact ⟨e, h⟩
  · refine l12f hi_181_288 (decide_eq_false c1) ?_
    refine l18 hi_181_291 ?_
    refine l35 hi_181_397 ⟨rfl, ?_⟩
    unfold k181_288; rw [if_neg c1]; exact hS
noncomputable def k181_279 (s : kS) (y2 : Int32) (y3 : Int32) (z0 : Int32) : kS × Int32 := if z0 = 0 then (s, 0) else k181_288 ((k200 s 59).1) y2 y3 ((k200 s 59).2)
theorem lt181_279 {sc : Nat × (Nat → Int32)} {N d : Nat} {S0 S : am_S} {s : kS} {y2 : Int32} {y3 : Int32} {z0 : Int32} {o1 : Option Value} (hS : MK S0 S s) : am_L (am_PP sc) N d 181 279 [some (.ref 39), o1, some (.int y2), some (.int y3)] [.int z0] S (fun o S1 => o = some none ∧ MK S0 S1 (k181_279 s y2 y3 z0).1) := by
  by_cases c1 : z0 = 0
  · refine l12t hi_181_279 (decide_eq_true c1) ?_
    refine l35 hi_181_397 ⟨rfl, ?_⟩
    unfold k181_279; rw [if_pos c1]; exact hS
  · refine l12f hi_181_279 (decide_eq_false c1) ?_
    refine l2 (v := 39) hi_181_282 rfl ?_
    refine l0 hi_181_283 ?_
    refine l32 (as := [.ref 39, .int 59]) (la := [some (.ref 39), some (.int 59)]) (rest := []) hi_181_285 (am_hd0 (M := 181) (by decide) 285) rfl rfl rfl (fun N' d' _ => lt200 (N := N') (d := d') hS) ?_ (fun _ q => nomatch q.1)
    rintro v4 S2 ⟨ev4, h3⟩
    cases ev4
    show am_L _ _ _ _ _ [some (.ref 39), o1, some (.int y2), some (.int y3)] [.int ((k200 s 59).2)] _ _
    refine am_L.mono (lt181_288 h3) ?_
    rintro o S1 ⟨e, h⟩
    have q : k181_279 s y2 y3 z0 = k181_288 ((k200 s 59).1) y2 y3 ((k200 s 59).2) := by unfold k181_279; rw [if_neg c1]
    rw [q]; exact ⟨e, h⟩
noncomputable def k181_273 (s : kS) (y2 : Int32) (y3 : Int32) : kS × Int32 := k181_279 ((k199 s 65).1) y2 y3 ((k199 s 65).2)
theorem lt181_273 {sc : Nat × (Nat → Int32)} {N d : Nat} {S0 S : am_S} {s : kS} {y2 : Int32} {y3 : Int32} {o1 : Option Value} (hS : MK S0 S s) : am_L (am_PP sc) N d 181 273 [some (.ref 39), o1, some (.int y2), some (.int y3)] [] S (fun o S1 => o = some none ∧ MK S0 S1 (k181_273 s y2 y3).1) := by
  refine l2 (v := 39) hi_181_273 rfl ?_
  refine l0 hi_181_274 ?_
  refine l32 (as := [.ref 39, .int 65]) (la := [some (.ref 39), some (.int 65)]) (rest := []) hi_181_276 (am_hd0 (M := 181) (by decide) 276) rfl rfl rfl (fun N' d' _ => lt199 (N := N') (d := d') hS) ?_ (fun _ q => nomatch q.1)
  rintro v3 S1 ⟨ev3, h2⟩
  cases ev3
  show am_L _ _ _ _ _ [some (.ref 39), o1, some (.int y2), some (.int y3)] [.int ((k199 s 65).2)] _ _
  refine am_L.mono (lt181_279 h2) ?_
  rintro o S1 ⟨e, h⟩
  have q : k181_273 s y2 y3 = k181_279 ((k199 s 65).1) y2 y3 ((k199 s 65).2) := rfl
  rw [q]; exact ⟨e, h⟩
noncomputable def k181_324 (s : kS) (y2 : Int32) (z0 : Int32) : kS × Int32 := ((k220 s y2).1, 0)
theorem lt181_324 {sc : Nat × (Nat → Int32)} {N d : Nat} {S0 S : am_S} {s : kS} {y2 : Int32} {z0 : Int32} {o1 : Option Value} {o3 : Option Value} (hS : MK S0 S s) : am_L (am_PP sc) N d 181 324 [some (.ref 39), o1, some (.int y2), o3] [.int z0] S (fun o S1 => o = some none ∧ MK S0 S1 (k181_324 s y2 z0).1) := by
  refine l6i hi_181_324 ?_
  refine l2 (v := 39) hi_181_325 rfl ?_
  refine l1 (v := y2) hi_181_326 rfl ?_
  refine l32 (as := [.ref 39, .int y2]) (la := [some (.ref 39), some (.int y2)]) (rest := []) hi_181_327 (am_hd0 (M := 181) (by decide) 327) rfl rfl rfl (fun N' d' _ => lt220 (N := N') (d := d') hS) ?_ (fun _ q => nomatch q.1)
  rintro v3 S1 ⟨ev3, h2⟩
  cases ev3
  show am_L _ _ _ _ _ [some (.ref 39), o1, some (.int y2), o3] [] _ _
  refine l18 hi_181_330 ?_
  refine l35 hi_181_397 ⟨rfl, ?_⟩
  exact h2
noncomputable def k181_315 (s : kS) (y2 : Int32) (y3 : Int32) : kS × Int32 := k181_324 ((k189 s 21 0 0 y3).1) y2 ((k189 s 21 0 0 y3).2)
theorem lt181_315 {sc : Nat × (Nat → Int32)} {N d : Nat} {S0 S : am_S} {s : kS} {y2 : Int32} {y3 : Int32} {o1 : Option Value} (hS : MK S0 S s) : am_L (am_PP sc) N d 181 315 [some (.ref 39), o1, some (.int y2), some (.int y3)] [] S (fun o S1 => o = some none ∧ MK S0 S1 (k181_315 s y2 y3).1) := by
  refine l2 (v := 39) hi_181_315 rfl ?_
  refine l0 hi_181_316 ?_
  refine l0 hi_181_318 ?_
  refine l0 hi_181_319 ?_
  refine l1 (v := y3) hi_181_320 rfl ?_
  refine l32 (as := [.ref 39, .int 21, .int 0, .int 0, .int y3]) (la := [some (.ref 39), some (.int 21), some (.int 0), some (.int 0), some (.int y3)]) (rest := []) hi_181_321 (am_hd0 (M := 181) (by decide) 321) rfl rfl rfl (fun N' d' _ => lt189 (N := N') (d := d') hS) ?_ (fun _ q => nomatch q.1)
  rintro v3 S1 ⟨ev3, h2⟩
  cases ev3
  show am_L _ _ _ _ _ [some (.ref 39), o1, some (.int y2), some (.int y3)] [.int ((k189 s 21 0 0 y3).2)] _ _
  refine am_L.mono (lt181_324 h2) ?_
  rintro o S1 ⟨e, h⟩
  have q : k181_315 s y2 y3 = k181_324 ((k189 s 21 0 0 y3).1) y2 ((k189 s 21 0 0 y3).2) := rfl
  rw [q]; exact ⟨e, h⟩
noncomputable def k181_351 (s : kS) (y2 : Int32) (z0 : Int32) : kS × Int32 := ((k220 s y2).1, 0)
theorem lt181_351 {sc : Nat × (Nat → Int32)} {N d : Nat} {S0 S : am_S} {s : kS} {y2 : Int32} {z0 : Int32} {o1 : Option Value} {o3 : Option Value} (hS : MK S0 S s) : am_L (am_PP sc) N d 181 351 [some (.ref 39), o1, some (.int y2), o3] [.int z0] S (fun o S1 => o = some none ∧ MK S0 S1 (k181_351 s y2 z0).1) := by
  refine l6i hi_181_351 ?_
  refine l2 (v := 39) hi_181_352 rfl ?_
  refine l1 (v := y2) hi_181_353 rfl ?_
  refine l32 (as := [.ref 39, .int y2]) (la := [some (.ref 39), some (.int y2)]) (rest := []) hi_181_354 (am_hd0 (M := 181) (by decide) 354) rfl rfl rfl (fun N' d' _ => lt220 (N := N') (d := d') hS) ?_ (fun _ q => nomatch q.1)
  rintro v3 S1 ⟨ev3, h2⟩
  cases ev3
  show am_L _ _ _ _ _ [some (.ref 39), o1, some (.int y2), o3] [] _ _
  refine l18 hi_181_357 ?_
  refine l35 hi_181_397 ⟨rfl, ?_⟩
  exact h2
noncomputable def k181_337 (s : kS) (y2 : Int32) (y3 : Int32) : kS × Int32 := k181_351 ((k189 s 22 (kr s 2 y3) 0 y3).1) y2 ((k189 s 22 (kr s 2 y3) 0 y3).2)
theorem lt181_337 {sc : Nat × (Nat → Int32)} {N d : Nat} {S0 S : am_S} {s : kS} {y2 : Int32} {y3 : Int32} {o1 : Option Value} (hS : MK S0 S s) : am_L (am_PP sc) N d 181 337 [some (.ref 39), o1, some (.int y2), some (.int y3)] [] S (fun o S1 => o = some none ∧ MK S0 S1 (k181_337 s y2 y3).1) := by
  refine l2 (v := 39) hi_181_337 rfl ?_
  refine l0 hi_181_338 ?_
  refine l2 (v := 39) hi_181_340 rfl ?_
  refine l20 (v := .ref 41) hS hi_181_341 rfl ?_
  refine l1 (v := y3) hi_181_344 rfl ?_
  refine l25 hS ma_2 hi_181_345 fun g1 g2 => ?_
  show am_L _ _ _ _ _ [some (.ref 39), o1, some (.int y2), some (.int y3)] [.int (kr s 2 y3), .int 22, .ref 39] _ _
  refine l0 hi_181_346 ?_
  refine l1 (v := y3) hi_181_347 rfl ?_
  refine l32 (as := [.ref 39, .int 22, .int (kr s 2 y3), .int 0, .int y3]) (la := [some (.ref 39), some (.int 22), some (.int (kr s 2 y3)), some (.int 0), some (.int y3)]) (rest := []) hi_181_348 (am_hd0 (M := 181) (by decide) 348) rfl rfl rfl (fun N' d' _ => lt189 (N := N') (d := d') hS) ?_ (fun _ q => nomatch q.1)
  rintro v5 S3 ⟨ev5, h4⟩
  cases ev5
  show am_L _ _ _ _ _ [some (.ref 39), o1, some (.int y2), some (.int y3)] [.int ((k189 s 22 (kr s 2 y3) 0 y3).2)] _ _
  refine am_L.mono (lt181_351 h4) ?_
  rintro o S1 ⟨e, h⟩
  have q : k181_337 s y2 y3 = k181_351 ((k189 s 22 (kr s 2 y3) 0 y3).1) y2 ((k189 s 22 (kr s 2 y3) 0 y3).2) := rfl
  rw [q]; exact ⟨e, h⟩
noncomputable def k181_389 (s : kS) (z0 : Int32) : kS × Int32 := ((k190 s 0 0 0).1, 0)
theorem lt181_389 {sc : Nat × (Nat → Int32)} {N d : Nat} {S0 S : am_S} {s : kS} {z0 : Int32} {o1 : Option Value} {o2 : Option Value} {o3 : Option Value} (hS : MK S0 S s) : am_L (am_PP sc) N d 181 389 [some (.ref 39), o1, o2, o3] [.int z0] S (fun o S1 => o = some none ∧ MK S0 S1 (k181_389 s z0).1) := by
  refine l6i hi_181_389 ?_
  refine l2 (v := 39) hi_181_390 rfl ?_
  refine l0 hi_181_391 ?_
  refine l0 hi_181_392 ?_
  refine l0 hi_181_393 ?_
  refine l32 (as := [.ref 39, .int 0, .int 0, .int 0]) (la := [some (.ref 39), some (.int 0), some (.int 0), some (.int 0)]) (rest := []) hi_181_394 (am_hd0 (M := 181) (by decide) 394) rfl rfl rfl (fun N' d' _ => lt190 (N := N') (d := d') hS) ?_ (fun _ q => nomatch q.1)
  rintro v3 S1 ⟨ev3, h2⟩
  cases ev3
  show am_L _ _ _ _ _ [some (.ref 39), o1, o2, o3] [] _ _
  refine l35 hi_181_397 ⟨rfl, ?_⟩
  exact h2
/-- runValue(III)V -/
noncomputable def k181 (s : kS) (x1 : Int32) (x2 : Int32) (x3 : Int32) : kS × Int32 := if x1 = 23 then ((k182 s x2).1, 0) else if x1 = 24 then ((k202 s x2).1, 0) else if x1 = 25 then (k181_108 ((k209 s).1) x2 x3) else if x1 = 26 then (k181_125 ((k204 s).1) x2) else if x1 = 27 then (k181_142 ((k204 s).1) x2 x3) else if x1 = 28 then ((k211 s).1, 0) else if x1 = 29 then (k181_187 ((k204 s).1)) else if x1 = 30 then (k181_201 ((k209 s).1) x2) else if x1 = 32 then ((k215 s x2 x3).1, 0) else if x1 = 33 then (k181_241 ((k209 s).1) x2 x3) else if x1 = 34 then ((k218 s x2).1, 0) else if x1 = 35 then ((k219 s x2).1, 0) else if x1 = 36 then (k181_273 ((k209 s).1) x2 x3) else if x1 = 37 then (k181_315 ((k209 s).1) x2 x3) else if x1 = 38 then (k181_337 ((k209 s).1) x2 x3) else if x1 = 39 then ((k221 s x2 x3).1, 0) else if x1 = 40 then ((k222 s x2).1, 0) else k181_389 ((k189 s 7 (s.1 76) 0 x2).1) ((k189 s 7 (s.1 76) 0 x2).2)
theorem lt181 {sc : Nat × (Nat → Int32)} {N d : Nat} {S0 S : am_S} {s : kS} {x1 : Int32} {x2 : Int32} {x3 : Int32} (hS : MK S0 S s) : am_L (am_PP sc) N d 181 0 [some (.ref 39), some (.int x1), some (.int x2), some (.int x3)] [] S (fun o S1 => o = some none ∧ MK S0 S1 (k181 s x1 x2 x3).1) := by
  refine l1 (v := x1) hi_181_0 rfl ?_
  by_cases c1 : x1 = 23
  · refine l19 (t := 88) hi_181_1 (by rw [c1]; decide) ?_
    refine l2 (v := 39) hi_181_88 rfl ?_
    refine l1 (v := x2) hi_181_89 rfl ?_
    refine l32 (as := [.ref 39, .int x2]) (la := [some (.ref 39), some (.int x2), none]) (rest := []) hi_181_90 (am_hd0 (M := 181) (by decide) 90) rfl rfl rfl (fun N' d' _ => lt182 (N := N') (d := d') hS) ?_ (fun _ q => nomatch q.1)
    rintro v4 S2 ⟨ev4, h3⟩
    cases ev4
    show am_L _ _ _ _ _ [some (.ref 39), some (.int x1), some (.int x2), some (.int x3)] [] _ _
    refine l18 hi_181_93 ?_
    refine l35 hi_181_397 ⟨rfl, ?_⟩
    unfold k181; rw [if_pos c1]; exact h3
  by_cases c5 : x1 = 24
  · refine l19 (t := 96) hi_181_1 (by rw [c5]; decide) ?_
    refine l2 (v := 39) hi_181_96 rfl ?_
    refine l1 (v := x2) hi_181_97 rfl ?_
    refine l32 (as := [.ref 39, .int x2]) (la := [some (.ref 39), some (.int x2), none, none]) (rest := []) hi_181_98 (am_hd0 (M := 181) (by decide) 98) rfl rfl rfl (fun N' d' _ => lt202 (N := N') (d := d') hS) ?_ (fun _ q => nomatch q.1)
    rintro v8 S6 ⟨ev8, h7⟩
    cases ev8
    show am_L _ _ _ _ _ [some (.ref 39), some (.int x1), some (.int x2), some (.int x3)] [] _ _
    refine l18 hi_181_101 ?_
    refine l35 hi_181_397 ⟨rfl, ?_⟩
    unfold k181; rw [if_neg c1]; rw [if_pos c5]; exact h7
  by_cases c9 : x1 = 25
  · refine l19 (t := 104) hi_181_1 (by rw [c9]; decide) ?_
    refine l2 (v := 39) hi_181_104 rfl ?_
    refine l32 (as := [.ref 39]) (la := [some (.ref 39)]) (rest := []) hi_181_105 (am_hd0 (M := 181) (by decide) 105) rfl rfl rfl (fun N' d' _ => lt209 (N := N') (d := d') hS) ?_ (fun _ q => nomatch q.1)
    rintro v12 S10 ⟨ev12, h11⟩
    cases ev12
    show am_L _ _ _ _ _ [some (.ref 39), some (.int x1), some (.int x2), some (.int x3)] [] _ _
    refine am_L.mono (lt181_108 h11) ?_
    rintro o S1 ⟨e, h⟩
    have q : k181 s x1 x2 x3 = k181_108 ((k209 s).1) x2 x3 := by unfold k181; rw [if_neg c1]; rw [if_neg c5]; rw [if_pos c9]
    rw [q]; exact ⟨e, h⟩
  by_cases c13 : x1 = 26
  · refine l19 (t := 121) hi_181_1 (by rw [c13]; decide) ?_
    refine l2 (v := 39) hi_181_121 rfl ?_
    refine l32 (as := [.ref 39]) (la := [some (.ref 39), none, none, none]) (rest := []) hi_181_122 (am_hd0 (M := 181) (by decide) 122) rfl rfl rfl (fun N' d' _ => lt204 (N := N') (d := d') hS) ?_ (fun _ q => nomatch q.1)
    rintro v16 S14 ⟨ev16, h15⟩
    cases ev16
    show am_L _ _ _ _ _ [some (.ref 39), some (.int x1), some (.int x2), some (.int x3)] [] _ _
    refine am_L.mono (lt181_125 h15) ?_
    rintro o S1 ⟨e, h⟩
    have q : k181 s x1 x2 x3 = k181_125 ((k204 s).1) x2 := by unfold k181; rw [if_neg c1]; rw [if_neg c5]; rw [if_neg c9]; rw [if_pos c13]
    rw [q]; exact ⟨e, h⟩
  by_cases c17 : x1 = 27
  · refine l19 (t := 138) hi_181_1 (by rw [c17]; decide) ?_
    refine l2 (v := 39) hi_181_138 rfl ?_
    refine l32 (as := [.ref 39]) (la := [some (.ref 39), none, none, none]) (rest := []) hi_181_139 (am_hd0 (M := 181) (by decide) 139) rfl rfl rfl (fun N' d' _ => lt204 (N := N') (d := d') hS) ?_ (fun _ q => nomatch q.1)
    rintro v20 S18 ⟨ev20, h19⟩
    cases ev20
    show am_L _ _ _ _ _ [some (.ref 39), some (.int x1), some (.int x2), some (.int x3)] [] _ _
    refine am_L.mono (lt181_142 h19) ?_
    rintro o S1 ⟨e, h⟩
    have q : k181 s x1 x2 x3 = k181_142 ((k204 s).1) x2 x3 := by unfold k181; rw [if_neg c1]; rw [if_neg c5]; rw [if_neg c9]; rw [if_neg c13]; rw [if_pos c17]
    rw [q]; exact ⟨e, h⟩
  by_cases c21 : x1 = 28
  · refine l19 (t := 176) hi_181_1 (by rw [c21]; decide) ?_
    refine l2 (v := 39) hi_181_176 rfl ?_
    refine l32 (as := [.ref 39]) (la := [some (.ref 39), none, none, none]) (rest := []) hi_181_177 (am_hd0 (M := 181) (by decide) 177) rfl rfl rfl (fun N' d' _ => lt211 (N := N') (d := d') hS) ?_ (fun _ q => nomatch q.1)
    rintro v24 S22 ⟨ev24, h23⟩
    cases ev24
    show am_L _ _ _ _ _ [some (.ref 39), some (.int x1), some (.int x2), some (.int x3)] [] _ _
    refine l18 hi_181_180 ?_
    refine l35 hi_181_397 ⟨rfl, ?_⟩
    unfold k181; rw [if_neg c1]; rw [if_neg c5]; rw [if_neg c9]; rw [if_neg c13]; rw [if_neg c17]; rw [if_pos c21]; exact h23
  by_cases c25 : x1 = 29
  · refine l19 (t := 183) hi_181_1 (by rw [c25]; decide) ?_
    refine l2 (v := 39) hi_181_183 rfl ?_
    refine l32 (as := [.ref 39]) (la := [some (.ref 39), none, none, none]) (rest := []) hi_181_184 (am_hd0 (M := 181) (by decide) 184) rfl rfl rfl (fun N' d' _ => lt204 (N := N') (d := d') hS) ?_ (fun _ q => nomatch q.1)
    rintro v28 S26 ⟨ev28, h27⟩
    cases ev28
    show am_L _ _ _ _ _ [some (.ref 39), some (.int x1), some (.int x2), some (.int x3)] [] _ _
    refine am_L.mono (lt181_187 h27) ?_
    rintro o S1 ⟨e, h⟩
    have q : k181 s x1 x2 x3 = k181_187 ((k204 s).1) := by unfold k181; rw [if_neg c1]; rw [if_neg c5]; rw [if_neg c9]; rw [if_neg c13]; rw [if_neg c17]; rw [if_neg c21]; rw [if_pos c25]
    rw [q]; exact ⟨e, h⟩
  by_cases c29 : x1 = 30
  · refine l19 (t := 197) hi_181_1 (by rw [c29]; decide) ?_
    refine l2 (v := 39) hi_181_197 rfl ?_
    refine l32 (as := [.ref 39]) (la := [some (.ref 39)]) (rest := []) hi_181_198 (am_hd0 (M := 181) (by decide) 198) rfl rfl rfl (fun N' d' _ => lt209 (N := N') (d := d') hS) ?_ (fun _ q => nomatch q.1)
    rintro v32 S30 ⟨ev32, h31⟩
    cases ev32
    show am_L _ _ _ _ _ [some (.ref 39), some (.int x1), some (.int x2), some (.int x3)] [] _ _
    refine am_L.mono (lt181_201 h31) ?_
    rintro o S1 ⟨e, h⟩
    have q : k181 s x1 x2 x3 = k181_201 ((k209 s).1) x2 := by unfold k181; rw [if_neg c1]; rw [if_neg c5]; rw [if_neg c9]; rw [if_neg c13]; rw [if_neg c17]; rw [if_neg c21]; rw [if_neg c25]; rw [if_pos c29]
    rw [q]; exact ⟨e, h⟩
  by_cases c33 : x1 = 32
  · refine l19 (t := 228) hi_181_1 (by rw [c33]; decide) ?_
    refine l2 (v := 39) hi_181_228 rfl ?_
    refine l1 (v := x2) hi_181_229 rfl ?_
    refine l1 (v := x3) hi_181_230 rfl ?_
    refine l32 (as := [.ref 39, .int x2, .int x3]) (la := [some (.ref 39), some (.int x2), some (.int x3), none, none]) (rest := []) hi_181_231 (am_hd0 (M := 181) (by decide) 231) rfl rfl rfl (fun N' d' _ => lt215 (N := N') (d := d') hS) ?_ (fun _ q => nomatch q.1)
    rintro v36 S34 ⟨ev36, h35⟩
    cases ev36
    show am_L _ _ _ _ _ [some (.ref 39), some (.int x1), some (.int x2), some (.int x3)] [] _ _
    refine l18 hi_181_234 ?_
    refine l35 hi_181_397 ⟨rfl, ?_⟩
    unfold k181; rw [if_neg c1]; rw [if_neg c5]; rw [if_neg c9]; rw [if_neg c13]; rw [if_neg c17]; rw [if_neg c21]; rw [if_neg c25]; rw [if_neg c29]; rw [if_pos c33]; exact h35
  by_cases c37 : x1 = 33
  · refine l19 (t := 237) hi_181_1 (by rw [c37]; decide) ?_
    refine l2 (v := 39) hi_181_237 rfl ?_
    refine l32 (as := [.ref 39]) (la := [some (.ref 39)]) (rest := []) hi_181_238 (am_hd0 (M := 181) (by decide) 238) rfl rfl rfl (fun N' d' _ => lt209 (N := N') (d := d') hS) ?_ (fun _ q => nomatch q.1)
    rintro v40 S38 ⟨ev40, h39⟩
    cases ev40
    show am_L _ _ _ _ _ [some (.ref 39), some (.int x1), some (.int x2), some (.int x3)] [] _ _
    refine am_L.mono (lt181_241 h39) ?_
    rintro o S1 ⟨e, h⟩
    have q : k181 s x1 x2 x3 = k181_241 ((k209 s).1) x2 x3 := by unfold k181; rw [if_neg c1]; rw [if_neg c5]; rw [if_neg c9]; rw [if_neg c13]; rw [if_neg c17]; rw [if_neg c21]; rw [if_neg c25]; rw [if_neg c29]; rw [if_neg c33]; rw [if_pos c37]
    rw [q]; exact ⟨e, h⟩
  by_cases c41 : x1 = 34
  · refine l19 (t := 253) hi_181_1 (by rw [c41]; decide) ?_
    refine l2 (v := 39) hi_181_253 rfl ?_
    refine l1 (v := x2) hi_181_254 rfl ?_
    refine l32 (as := [.ref 39, .int x2]) (la := [some (.ref 39), some (.int x2)]) (rest := []) hi_181_255 (am_hd0 (M := 181) (by decide) 255) rfl rfl rfl (fun N' d' _ => lt218 (N := N') (d := d') hS) ?_ (fun _ q => nomatch q.1)
    rintro v44 S42 ⟨ev44, h43⟩
    cases ev44
    show am_L _ _ _ _ _ [some (.ref 39), some (.int x1), some (.int x2), some (.int x3)] [] _ _
    refine l18 hi_181_258 ?_
    refine l35 hi_181_397 ⟨rfl, ?_⟩
    unfold k181; rw [if_neg c1]; rw [if_neg c5]; rw [if_neg c9]; rw [if_neg c13]; rw [if_neg c17]; rw [if_neg c21]; rw [if_neg c25]; rw [if_neg c29]; rw [if_neg c33]; rw [if_neg c37]; rw [if_pos c41]; exact h43
  by_cases c45 : x1 = 35
  · refine l19 (t := 261) hi_181_1 (by rw [c45]; decide) ?_
    refine l2 (v := 39) hi_181_261 rfl ?_
    refine l1 (v := x2) hi_181_262 rfl ?_
    refine l32 (as := [.ref 39, .int x2]) (la := [some (.ref 39), some (.int x2), none, none]) (rest := []) hi_181_263 (am_hd0 (M := 181) (by decide) 263) rfl rfl rfl (fun N' d' _ => lt219 (N := N') (d := d') hS) ?_ (fun _ q => nomatch q.1)
    rintro v48 S46 ⟨ev48, h47⟩
    cases ev48
    show am_L _ _ _ _ _ [some (.ref 39), some (.int x1), some (.int x2), some (.int x3)] [] _ _
    refine l18 hi_181_266 ?_
    refine l35 hi_181_397 ⟨rfl, ?_⟩
    unfold k181; rw [if_neg c1]; rw [if_neg c5]; rw [if_neg c9]; rw [if_neg c13]; rw [if_neg c17]; rw [if_neg c21]; rw [if_neg c25]; rw [if_neg c29]; rw [if_neg c33]; rw [if_neg c37]; rw [if_neg c41]; rw [if_pos c45]; exact h47
  by_cases c49 : x1 = 36
  · refine l19 (t := 269) hi_181_1 (by rw [c49]; decide) ?_
    refine l2 (v := 39) hi_181_269 rfl ?_
    refine l32 (as := [.ref 39]) (la := [some (.ref 39)]) (rest := []) hi_181_270 (am_hd0 (M := 181) (by decide) 270) rfl rfl rfl (fun N' d' _ => lt209 (N := N') (d := d') hS) ?_ (fun _ q => nomatch q.1)
    rintro v52 S50 ⟨ev52, h51⟩
    cases ev52
    show am_L _ _ _ _ _ [some (.ref 39), some (.int x1), some (.int x2), some (.int x3)] [] _ _
    refine am_L.mono (lt181_273 h51) ?_
    rintro o S1 ⟨e, h⟩
    have q : k181 s x1 x2 x3 = k181_273 ((k209 s).1) x2 x3 := by unfold k181; rw [if_neg c1]; rw [if_neg c5]; rw [if_neg c9]; rw [if_neg c13]; rw [if_neg c17]; rw [if_neg c21]; rw [if_neg c25]; rw [if_neg c29]; rw [if_neg c33]; rw [if_neg c37]; rw [if_neg c41]; rw [if_neg c45]; rw [if_pos c49]
    rw [q]; exact ⟨e, h⟩
  by_cases c53 : x1 = 37
  · refine l19 (t := 311) hi_181_1 (by rw [c53]; decide) ?_
    refine l2 (v := 39) hi_181_311 rfl ?_
    refine l32 (as := [.ref 39]) (la := [some (.ref 39)]) (rest := []) hi_181_312 (am_hd0 (M := 181) (by decide) 312) rfl rfl rfl (fun N' d' _ => lt209 (N := N') (d := d') hS) ?_ (fun _ q => nomatch q.1)
    rintro v56 S54 ⟨ev56, h55⟩
    cases ev56
    show am_L _ _ _ _ _ [some (.ref 39), some (.int x1), some (.int x2), some (.int x3)] [] _ _
    refine am_L.mono (lt181_315 h55) ?_
    rintro o S1 ⟨e, h⟩
    have q : k181 s x1 x2 x3 = k181_315 ((k209 s).1) x2 x3 := by unfold k181; rw [if_neg c1]; rw [if_neg c5]; rw [if_neg c9]; rw [if_neg c13]; rw [if_neg c17]; rw [if_neg c21]; rw [if_neg c25]; rw [if_neg c29]; rw [if_neg c33]; rw [if_neg c37]; rw [if_neg c41]; rw [if_neg c45]; rw [if_neg c49]; rw [if_pos c53]
    rw [q]; exact ⟨e, h⟩
  by_cases c57 : x1 = 38
  · refine l19 (t := 333) hi_181_1 (by rw [c57]; decide) ?_
    refine l2 (v := 39) hi_181_333 rfl ?_
    refine l32 (as := [.ref 39]) (la := [some (.ref 39)]) (rest := []) hi_181_334 (am_hd0 (M := 181) (by decide) 334) rfl rfl rfl (fun N' d' _ => lt209 (N := N') (d := d') hS) ?_ (fun _ q => nomatch q.1)
    rintro v60 S58 ⟨ev60, h59⟩
    cases ev60
    show am_L _ _ _ _ _ [some (.ref 39), some (.int x1), some (.int x2), some (.int x3)] [] _ _
    refine am_L.mono (lt181_337 h59) ?_
    rintro o S1 ⟨e, h⟩
    have q : k181 s x1 x2 x3 = k181_337 ((k209 s).1) x2 x3 := by unfold k181; rw [if_neg c1]; rw [if_neg c5]; rw [if_neg c9]; rw [if_neg c13]; rw [if_neg c17]; rw [if_neg c21]; rw [if_neg c25]; rw [if_neg c29]; rw [if_neg c33]; rw [if_neg c37]; rw [if_neg c41]; rw [if_neg c45]; rw [if_neg c49]; rw [if_neg c53]; rw [if_pos c57]
    rw [q]; exact ⟨e, h⟩
  by_cases c61 : x1 = 39
  · refine l19 (t := 360) hi_181_1 (by rw [c61]; decide) ?_
    refine l2 (v := 39) hi_181_360 rfl ?_
    refine l1 (v := x2) hi_181_361 rfl ?_
    refine l1 (v := x3) hi_181_362 rfl ?_
    refine l32 (as := [.ref 39, .int x2, .int x3]) (la := [some (.ref 39), some (.int x2), some (.int x3), none]) (rest := []) hi_181_363 (am_hd0 (M := 181) (by decide) 363) rfl rfl rfl (fun N' d' _ => lt221 (N := N') (d := d') hS) ?_ (fun _ q => nomatch q.1)
    rintro v64 S62 ⟨ev64, h63⟩
    cases ev64
    show am_L _ _ _ _ _ [some (.ref 39), some (.int x1), some (.int x2), some (.int x3)] [] _ _
    refine l18 hi_181_366 ?_
    refine l35 hi_181_397 ⟨rfl, ?_⟩
    unfold k181; rw [if_neg c1]; rw [if_neg c5]; rw [if_neg c9]; rw [if_neg c13]; rw [if_neg c17]; rw [if_neg c21]; rw [if_neg c25]; rw [if_neg c29]; rw [if_neg c33]; rw [if_neg c37]; rw [if_neg c41]; rw [if_neg c45]; rw [if_neg c49]; rw [if_neg c53]; rw [if_neg c57]; rw [if_pos c61]; exact h63
  by_cases c65 : x1 = 40
  · refine l19 (t := 369) hi_181_1 (by rw [c65]; decide) ?_
    refine l2 (v := 39) hi_181_369 rfl ?_
    refine l1 (v := x2) hi_181_370 rfl ?_
    refine l32 (as := [.ref 39, .int x2]) (la := [some (.ref 39), some (.int x2), none, none]) (rest := []) hi_181_371 (am_hd0 (M := 181) (by decide) 371) rfl rfl rfl (fun N' d' _ => lt222 (N := N') (d := d') hS) ?_ (fun _ q => nomatch q.1)
    rintro v68 S66 ⟨ev68, h67⟩
    cases ev68
    show am_L _ _ _ _ _ [some (.ref 39), some (.int x1), some (.int x2), some (.int x3)] [] _ _
    refine l18 hi_181_374 ?_
    refine l35 hi_181_397 ⟨rfl, ?_⟩
    unfold k181; rw [if_neg c1]; rw [if_neg c5]; rw [if_neg c9]; rw [if_neg c13]; rw [if_neg c17]; rw [if_neg c21]; rw [if_neg c25]; rw [if_neg c29]; rw [if_neg c33]; rw [if_neg c37]; rw [if_neg c41]; rw [if_neg c45]; rw [if_neg c49]; rw [if_neg c53]; rw [if_neg c57]; rw [if_neg c61]; rw [if_pos c65]; exact h67
  refine l19 (t := 377) hi_181_1 (sw_not (ks := [23, 24, 25, 26, 27, 28, 29, 30, 32, 33, 34, 35, 36, 37, 38, 39, 40]) (by decide) (by intro k hk; simp only [List.mem_cons, List.not_mem_nil, or_false] at hk; rcases hk with rfl | rfl | rfl | rfl | rfl | rfl | rfl | rfl | rfl | rfl | rfl | rfl | rfl | rfl | rfl | rfl | rfl <;> first | exact c1 | exact c5 | exact c9 | exact c13 | exact c17 | exact c21 | exact c25 | exact c29 | exact c33 | exact c37 | exact c41 | exact c45 | exact c49 | exact c53 | exact c57 | exact c61 | exact c65)) ?_
  refine l2 (v := 39) hi_181_377 rfl ?_
  refine l0 hi_181_378 ?_
  refine l2 (v := 39) hi_181_380 rfl ?_
  refine l20 (v := .int (s.1 76)) hS hi_181_381 rfl ?_
  refine l0 hi_181_384 ?_
  refine l1 (v := x2) hi_181_385 rfl ?_
  refine l32 (as := [.ref 39, .int 7, .int (s.1 76), .int 0, .int x2]) (la := [some (.ref 39), some (.int 7), some (.int (s.1 76)), some (.int 0), some (.int x2)]) (rest := []) hi_181_386 (am_hd0 (M := 181) (by decide) 386) rfl rfl rfl (fun N' d' _ => lt189 (N := N') (d := d') hS) ?_ (fun _ q => nomatch q.1)
  rintro v71 S69 ⟨ev71, h70⟩
  cases ev71
  show am_L _ _ _ _ _ [some (.ref 39), some (.int x1), some (.int x2), some (.int x3)] [.int ((k189 s 7 (s.1 76) 0 x2).2)] _ _
  refine am_L.mono (lt181_389 h70) ?_
  rintro o S1 ⟨e, h⟩
  have q : k181 s x1 x2 x3 = k181_389 ((k189 s 7 (s.1 76) 0 x2).1) ((k189 s 7 (s.1 76) 0 x2).2) := by unfold k181; rw [if_neg c1]; rw [if_neg c5]; rw [if_neg c9]; rw [if_neg c13]; rw [if_neg c17]; rw [if_neg c21]; rw [if_neg c25]; rw [if_neg c29]; rw [if_neg c33]; rw [if_neg c37]; rw [if_neg c41]; rw [if_neg c45]; rw [if_neg c49]; rw [if_neg c53]; rw [if_neg c57]; rw [if_neg c61]; rw [if_neg c65]
  rw [q]; exact ⟨e, h⟩
