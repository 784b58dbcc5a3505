/-! THE REFERENCE: what each method does (printed by wip/p5/lw.py) -/
noncomputable def k251_10 (s : kS) (y1 : Int32) (z0 : Int32) : kS × Int32 := if z0 ≠ 0 then k251_23 ((k179 s 11 y1 0 0).1) else (s, 0)
theorem lt251_10 {sc : Nat × (Nat → Int32)} {N d : Nat} {S0 S : am_S} {s : kS} {y1 : Int32} {z0 : Int32} (hS : MK S0 S s) : am_L (am_PP sc) N d 251 10 [some (.ref 39), some (.int y1)] [.int z0] S (fun o S1 => o = some none ∧ MK S0 S1 (k251_10 s y1 z0).1) := by
  by_cases c1 : z0 ≠ 0
  · refine l12t hi_251_10 (decide_eq_true c1) ?_
    refine l2 (v := 39) hi_251_14 rfl ?_
    refine l0 hi_251_15 ?_
    refine l1 (v := y1) hi_251_17 rfl ?_
    refine l0 hi_251_18 ?_
    refine l0 hi_251_19 ?_
    refine l32 (as := [.ref 39, .int 11, .int y1, .int 0, .int 0]) (la := [some (.ref 39), some (.int 11), some (.int y1), some (.int 0), some (.int 0)]) (rest := []) hi_251_20 (am_hd0 (M := 251) (by decide) 20) rfl rfl rfl (fun N' d' _ => lt179 (N := N') (d := d') hS) ?_ (fun _ q => nomatch q.1)
    rintro v4 S2 ⟨ev4, h3⟩
    cases ev4
    show am_L _ _ _ _ _ [some (.ref 39), some (.int y1)] [] _ _
    refine am_L.mono (lt251_23 h3) ?_
    rintro o S1 ⟨e, h⟩
    have q : k251_10 s y1 z0 = k251_23 ((k179 s 11 y1 0 0).1) := by unfold k251_10; rw [if_pos c1]
    rw [q]; exact ⟨e, h⟩
  · refine l12f hi_251_10 (decide_eq_false c1) ?_
    refine l35 hi_251_13 ⟨rfl, ?_⟩
    unfold k251_10; rw [if_neg c1]; exact hS
noncomputable def k251_4 (s : kS) (y1 : Int32) : kS × Int32 := k251_10 ((k200 s 69).1) y1 ((k200 s 69).2)
theorem lt251_4 {sc : Nat × (Nat → Int32)} {N d : Nat} {S0 S : am_S} {s : kS} {y1 : Int32} (hS : MK S0 S s) : am_L (am_PP sc) N d 251 4 [some (.ref 39), some (.int y1)] [] S (fun o S1 => o = some none ∧ MK S0 S1 (k251_4 s y1).1) := by
  refine l2 (v := 39) hi_251_4 rfl ?_
  refine l0 hi_251_5 ?_
  refine l32 (as := [.ref 39, .int 69]) (la := [some (.ref 39), some (.int 69)]) (rest := []) hi_251_7 (am_hd0 (M := 251) (by decide) 7) rfl rfl rfl (fun N' d' _ => lt200 (N := N') (d := d') hS) ?_ (fun _ q => nomatch q.1)
  rintro v3 S1 ⟨ev3, h2⟩
  cases ev3
  show am_L _ _ _ _ _ [some (.ref 39), some (.int y1)] [.int ((k200 s 69).2)] _ _
  refine am_L.mono (lt251_10 h2) ?_
  rintro o S1 ⟨e, h⟩
  have q : k251_4 s y1 = k251_10 ((k200 s 69).1) y1 ((k200 s 69).2) := rfl
  rw [q]; exact ⟨e, h⟩
/-- forSecond(I)V -/
noncomputable def k251 (s : kS) (x1 : Int32) : kS × Int32 := k251_4 ((k209 s).1) x1
theorem lt251 {sc : Nat × (Nat → Int32)} {N d : Nat} {S0 S : am_S} {s : kS} {x1 : Int32} (hS : MK S0 S s) : am_L (am_PP sc) N d 251 0 [some (.ref 39), some (.int x1)] [] S (fun o S1 => o = some none ∧ MK S0 S1 (k251 s x1).1) := by
  refine l2 (v := 39) hi_251_0 rfl ?_
  refine l32 (as := [.ref 39]) (la := [some (.ref 39)]) (rest := []) hi_251_1 (am_hd0 (M := 251) (by decide) 1) rfl rfl rfl (fun N' d' _ => lt209 (N := N') (d := d') hS) ?_ (fun _ q => nomatch q.1)
  rintro v3 S1 ⟨ev3, h2⟩
  cases ev3
  show am_L _ _ _ _ _ [some (.ref 39), some (.int x1)] [] _ _
  refine am_L.mono (lt251_4 h2) ?_
  rintro o S1 ⟨e, h⟩
  have q : k251 s x1 = k251_4 ((k209 s).1) x1 := rfl
  rw [q]; exact ⟨e, h⟩
def k254b3 (y1 : Int32) (y2 : Int32) (y3 : Int32) (t : kS × Int32) : Nat × (kS × Int32) := if y1 ≤ t.2 then (1, (t.1, t.2)) else if y2 = 0 then (0, (ka ((k196 t.1 0 1 0 y3).1) 28 ((((k196 t.1 0 1 0 y3).1).1 24) - 1) 1, t.2 + 1)) else if (t.2 + 1) ≠ y1 then (0, (ka ((k196 t.1 0 1 0 y3).1) 28 ((((k196 t.1 0 1 0 y3).1).1 24) - 1) 1, t.2 + 1)) else (0, (ka ((k196 t.1 0 1 1 y3).1) 28 ((((k196 t.1 0 1 1 y3).1).1 24) - 1) 1, t.2 + 1))
theorem lb254_3 {sc : Nat × (Nat → Int32)} {d : Nat} {S0 : am_S} {y1 : Int32} {y2 : Int32} {y3 : Int32} {Q : Option (Option Value) → am_S → Prop} : ∀ (N : Nat) (S : am_S) (t : kS × Int32), MK S0 S t.1 → (∀ m S1, (kwh (k254b3 y1 y2 y3) m t).1 = 1 → MK S0 S1 (kwh (k254b3 y1 y2 y3) m t).2.1 → am_L (am_PP sc) N d 254 51 [some (.ref 39), some (.int y1), some (.int y2), some (.int y3), some (.int ((kwh (k254b3 y1 y2 y3) m t).2.2))] [] S1 Q) → am_L (am_PP sc) N d 254 3 [some (.ref 39), some (.int y1), some (.int y2), some (.int y3), some (.int t.2)] [] S Q := by
  intro N
  induction N with
  | zero => intros; exact l_zero
  | succ N ih =>
    intro S t hS kx51
    refine l1d (v := t.2) hi_254_3 rfl ?_
    refine l1 (v := y1) hi_254_5 rfl ?_
    by_cases c1 : y1 ≤ t.2
    · refine l13t hi_254_6 (decide_eq_true c1) ?_
      have e0 : (k254b3 y1 y2 y3) t = (1, (t.1, t.2)) := by unfold k254b3; rw [if_pos c1]
      have e1 : kwh (k254b3 y1 y2 y3) 1 t = (1, (t.1, t.2)) := by rw [kwh_out (by rw [e0]; exact Nat.succ_ne_zero _), e0]
      have q := kx51 1 _  (by rw [e1]) (by rw [e1]; exact hS)
      try rw [e1] at q
      exact q.less (Nat.le_succ N)
    · refine l13f hi_254_6 (decide_eq_false c1) ?_
      refine l2 (v := 39) hi_254_9 rfl ?_
      refine l0 hi_254_10 ?_
      refine l0 hi_254_11 ?_
      refine l1 (v := y2) hi_254_12 rfl ?_
      by_cases c2 : y2 = 0
      · refine l12t hi_254_13 (decide_eq_true c2) ?_
        refine l0 hi_254_28 ?_
        refine l1 (v := y3) hi_254_29 rfl ?_
        refine l32 (as := [.ref 39, .int 0, .int 1, .int 0, .int y3]) (la := [some (.ref 39), some (.int 0), some (.int 1), some (.int 0), some (.int y3), none]) (rest := []) hi_254_30 (am_hd0 (M := 254) (by decide) 30) rfl rfl rfl (fun N' d' _ => lt196 (N := N') (d := d') hS) ?_ (fun _ q => nomatch q.1)
        rintro v5 S3 ⟨ev5, h4⟩
        cases ev5
        show am_L _ _ _ _ _ [some (.ref 39), some (.int y1), some (.int y2), some (.int y3), some (.int t.2)] [] _ _
        refine l2 (v := 39) hi_254_33 rfl ?_
        refine l20 (v := .ref 55) h4 hi_254_34 rfl ?_
        refine l2 (v := 39) hi_254_37 rfl ?_
        refine l20 (v := .int (((k196 t.1 0 1 0 y3).1).1 24)) h4 hi_254_38 rfl ?_
        refine l0 hi_254_41 ?_
        refine l10 hi_254_42 ?_
        show am_L _ _ _ _ _ [some (.ref 39), some (.int y1), some (.int y2), some (.int y3), some (.int t.2)] [.int ((((k196 t.1 0 1 0 y3).1).1 24) - 1), .ref 55] _ _
        refine l0 hi_254_43 ?_
        refine l26 h4 ma_28 hi_254_44 fun S8 h9 g6 g7 => ?_
        refine l5 (v := t.2) (ls' := [some (.ref 39), some (.int y1), some (.int y2), some (.int y3), some (.int (t.2 + 1))]) hi_254_45 rfl rfl ?_
        refine l18 hi_254_48 ?_
        have e0 : (k254b3 y1 y2 y3) t = (0, (ka ((k196 t.1 0 1 0 y3).1) 28 ((((k196 t.1 0 1 0 y3).1).1 24) - 1) 1, t.2 + 1)) := by unfold k254b3; rw [if_neg c1]; rw [if_pos c2]
        have e1 : ∀ m, kwh (k254b3 y1 y2 y3) (m + 1) t = kwh (k254b3 y1 y2 y3) m (ka ((k196 t.1 0 1 0 y3).1) 28 ((((k196 t.1 0 1 0 y3).1).1 24) - 1) 1, t.2 + 1) := fun m => by rw [kwh_go (by rw [e0]), e0]
        exact ih _  (ka ((k196 t.1 0 1 0 y3).1) 28 ((((k196 t.1 0 1 0 y3).1).1 24) - 1) 1, t.2 + 1) h9 (fun m S1 hm h1 => by have q := kx51 (m + 1) S1 (by rw [e1]; exact hm) (by rw [e1]; exact h1); (try rw [e1] at q); exact q.less (Nat.le_succ N))
      · refine l12f hi_254_13 (decide_eq_false c2) ?_
        refine l1 (v := t.2) hi_254_16 rfl ?_
        refine l0 hi_254_18 ?_
        refine l10 hi_254_19 ?_
        show am_L _ _ _ _ _ [some (.ref 39), some (.int y1), some (.int y2), some (.int y3), some (.int t.2)] [.int (t.2 + 1), .int 1, .int 0, .ref 39] _ _
        refine l1 (v := y1) hi_254_20 rfl ?_
        by_cases c10 : (t.2 + 1) ≠ y1
        · refine l13t hi_254_21 (decide_eq_true c10) ?_
          refine l0 hi_254_28 ?_
          refine l1 (v := y3) hi_254_29 rfl ?_
          refine l32 (as := [.ref 39, .int 0, .int 1, .int 0, .int y3]) (la := [some (.ref 39), some (.int 0), some (.int 1), some (.int 0), some (.int y3), none]) (rest := []) hi_254_30 (am_hd0 (M := 254) (by decide) 30) rfl rfl rfl (fun N' d' _ => lt196 (N := N') (d := d') hS) ?_ (fun _ q => nomatch q.1)
          rintro v13 S11 ⟨ev13, h12⟩
          cases ev13
          show am_L _ _ _ _ _ [some (.ref 39), some (.int y1), some (.int y2), some (.int y3), some (.int t.2)] [] _ _
          refine l2 (v := 39) hi_254_33 rfl ?_
          refine l20 (v := .ref 55) h12 hi_254_34 rfl ?_
          refine l2 (v := 39) hi_254_37 rfl ?_
          refine l20 (v := .int (((k196 t.1 0 1 0 y3).1).1 24)) h12 hi_254_38 rfl ?_
          refine l0 hi_254_41 ?_
          refine l10 hi_254_42 ?_
          show am_L _ _ _ _ _ [some (.ref 39), some (.int y1), some (.int y2), some (.int y3), some (.int t.2)] [.int ((((k196 t.1 0 1 0 y3).1).1 24) - 1), .ref 55] _ _
          refine l0 hi_254_43 ?_
          refine l26 h12 ma_28 hi_254_44 fun S16 h17 g14 g15 => ?_
          refine l5 (v := t.2) (ls' := [some (.ref 39), some (.int y1), some (.int y2), some (.int y3), some (.int (t.2 + 1))]) hi_254_45 rfl rfl ?_
          refine l18 hi_254_48 ?_
          have e0 : (k254b3 y1 y2 y3) t = (0, (ka ((k196 t.1 0 1 0 y3).1) 28 ((((k196 t.1 0 1 0 y3).1).1 24) - 1) 1, t.2 + 1)) := by unfold k254b3; rw [if_neg c1]; rw [if_neg c2]; rw [if_pos c10]
          have e1 : ∀ m, kwh (k254b3 y1 y2 y3) (m + 1) t = kwh (k254b3 y1 y2 y3) m (ka ((k196 t.1 0 1 0 y3).1) 28 ((((k196 t.1 0 1 0 y3).1).1 24) - 1) 1, t.2 + 1) := fun m => by rw [kwh_go (by rw [e0]), e0]
          exact ih _  (ka ((k196 t.1 0 1 0 y3).1) 28 ((((k196 t.1 0 1 0 y3).1).1 24) - 1) 1, t.2 + 1) h17 (fun m S1 hm h1 => by have q := kx51 (m + 1) S1 (by rw [e1]; exact hm) (by rw [e1]; exact h1); (try rw [e1] at q); exact q.less (Nat.le_succ N))
        · refine l13f hi_254_21 (decide_eq_false c10) ?_
          refine l0 hi_254_24 ?_
          refine l18 hi_254_25 ?_
          refine l1 (v := y3) hi_254_29 rfl ?_
          refine l32 (as := [.ref 39, .int 0, .int 1, .int 1, .int y3]) (la := [some (.ref 39), some (.int 0), some (.int 1), some (.int 1), some (.int y3), none]) (rest := []) hi_254_30 (am_hd0 (M := 254) (by decide) 30) rfl rfl rfl (fun N' d' _ => lt196 (N := N') (d := d') hS) ?_ (fun _ q => nomatch q.1)
          rintro v20 S18 ⟨ev20, h19⟩
          cases ev20
          show am_L _ _ _ _ _ [some (.ref 39), some (.int y1), some (.int y2), some (.int y3), some (.int t.2)] [] _ _
          refine l2 (v := 39) hi_254_33 rfl ?_
          refine l20 (v := .ref 55) h19 hi_254_34 rfl ?_
          refine l2 (v := 39) hi_254_37 rfl ?_
          refine l20 (v := .int (((k196 t.1 0 1 1 y3).1).1 24)) h19 hi_254_38 rfl ?_
          refine l0 hi_254_41 ?_
          refine l10 hi_254_42 ?_
          show am_L _ _ _ _ _ [some (.ref 39), some (.int y1), some (.int y2), some (.int y3), some (.int t.2)] [.int ((((k196 t.1 0 1 1 y3).1).1 24) - 1), .ref 55] _ _
          refine l0 hi_254_43 ?_
          refine l26 h19 ma_28 hi_254_44 fun S23 h24 g21 g22 => ?_
          refine l5 (v := t.2) (ls' := [some (.ref 39), some (.int y1), some (.int y2), some (.int y3), some (.int (t.2 + 1))]) hi_254_45 rfl rfl ?_
          refine l18 hi_254_48 ?_
          have e0 : (k254b3 y1 y2 y3) t = (0, (ka ((k196 t.1 0 1 1 y3).1) 28 ((((k196 t.1 0 1 1 y3).1).1 24) - 1) 1, t.2 + 1)) := by unfold k254b3; rw [if_neg c1]; rw [if_neg c2]; rw [if_neg c10]
          have e1 : ∀ m, kwh (k254b3 y1 y2 y3) (m + 1) t = kwh (k254b3 y1 y2 y3) m (ka ((k196 t.1 0 1 1 y3).1) 28 ((((k196 t.1 0 1 1 y3).1).1 24) - 1) 1, t.2 + 1) := fun m => by rw [kwh_go (by rw [e0]), e0]
          exact ih _  (ka ((k196 t.1 0 1 1 y3).1) 28 ((((k196 t.1 0 1 1 y3).1).1 24) - 1) 1, t.2 + 1) h24 (fun m S1 hm h1 => by have q := kx51 (m + 1) S1 (by rw [e1]; exact hm) (by rw [e1]; exact h1); (try rw [e1] at q); exact q.less (Nat.le_succ N))
/-- hide(IZI)V -/
noncomputable def k254 (s : kS) (x1 : Int32) (x2 : Int32) (x3 : Int32) : kS × Int32 := ((kfin (k254b3 x1 x2 x3) (s, 0)).2.1, 0)
theorem lt254 {sc : Nat × (Nat → Int32)} {N d : Nat} {S0 S : am_S} {s : kS} {x1 : Int32} {x2 : Int32} {x3 : Int32} (hS : MK S0 S s) : am_L (am_PP sc) N d 254 0 [some (.ref 39), some (.int x1), some (.int x2), some (.int x3), none] [] S (fun o S1 => o = some none ∧ MK S0 S1 (k254 s x1 x2 x3).1) := by
  refine l0 hi_254_0 ?_
  refine l3 (ls' := [some (.ref 39), some (.int x1), some (.int x2), some (.int x3), some (.int 0)]) hi_254_1 (Nat.le_of_ble_eq_true rfl) rfl ?_
  refine lb254_3 N _  (s, 0) hS ?_
  · intro m1 S2  hm3 h4
    have hf5 : kfin (k254b3 x1 x2 x3) (s, 0) = kwh (k254b3 x1 x2 x3) m1 (s, 0) := kfin_eq (by rw [hm3]; decide)
    rw [← hf5] at hm3 h4
    try rw [← hf5]
    refine l35 hi_254_51 ⟨rfl, ?_⟩
    exact h4
noncomputable def k253_80 (s : kS) (y2 : Int32) (y3 : Int32) (y4 : Int32) : kS × Int32 := ((k178 ((k179 s 13 y3 y4 y2).1)).1, 0)
theorem lt253_80 {sc : Nat × (Nat → Int32)} {N d : Nat} {S0 S : am_S} {s : kS} {y2 : Int32} {y3 : Int32} {y4 : Int32} {o1 : Option Value} (hS : MK S0 S s) : am_L (am_PP sc) N d 253 80 [some (.ref 39), o1, some (.int y2), some (.int y3), some (.int y4)] [] S (fun o S1 => o = some none ∧ MK S0 S1 (k253_80 s y2 y3 y4).1) := by
  refine l2 (v := 39) hi_253_80 rfl ?_
  refine l0 hi_253_81 ?_
  refine l1 (v := y3) hi_253_83 rfl ?_
  refine l1 (v := y4) hi_253_84 rfl ?_
  refine l1 (v := y2) hi_253_86 rfl ?_
  refine l32 (as := [.ref 39, .int 13, .int y3, .int y4, .int y2]) (la := [some (.ref 39), some (.int 13), some (.int y3), some (.int y4), some (.int y2)]) (rest := []) hi_253_87 (am_hd0 (M := 253) (by decide) 87) rfl rfl rfl (fun N' d' _ => lt179 (N := N') (d := d') hS) ?_ (fun _ q => nomatch q.1)
  rintro v3 S1 ⟨ev3, h2⟩
  cases ev3
  show am_L _ _ _ _ _ [some (.ref 39), o1, some (.int y2), some (.int y3), some (.int y4)] [] _ _
  refine l2 (v := 39) hi_253_90 rfl ?_
  refine l32 (as := [.ref 39]) (la := [some (.ref 39)]) (rest := []) hi_253_91 (am_hd0 (M := 253) (by decide) 91) rfl rfl rfl (fun N' d' _ => lt178 (N := N') (d := d') h2) ?_ (fun _ q => nomatch q.1)
  rintro v6 S4 ⟨ev6, h5⟩
  cases ev6
  show am_L _ _ _ _ _ [some (.ref 39), o1, some (.int y2), some (.int y3), some (.int y4)] [] _ _
  refine l35 hi_253_94 ⟨rfl, ?_⟩
  exact h5
noncomputable def k253_63 (s : kS) (y1 : Int32) (y2 : Int32) (y3 : Int32) (y4 : Int32) : kS × Int32 := k253_80 ((k196 s (kr s 2 (y1 + 1)) 0 0 (y1 + 1)).1) y2 y3 y4
theorem lt253_63 {sc : Nat × (Nat → Int32)} {N d : Nat} {S0 S : am_S} {s : kS} {y1 : Int32} {y2 : Int32} {y3 : Int32} {y4 : Int32} (hS : MK S0 S s) : am_L (am_PP sc) N d 253 63 [some (.ref 39), some (.int y1), some (.int y2), some (.int y3), some (.int y4)] [] S (fun o S1 => o = some none ∧ MK S0 S1 (k253_63 s y1 y2 y3 y4).1) := by
  refine l2 (v := 39) hi_253_63 rfl ?_
  refine l2 (v := 39) hi_253_64 rfl ?_
  refine l20 (v := .ref 41) hS hi_253_65 rfl ?_
  refine l1 (v := y1) hi_253_68 rfl ?_
  refine l0 hi_253_69 ?_
  refine l10 hi_253_70 ?_
  show am_L _ _ _ _ _ [some (.ref 39), some (.int y1), some (.int y2), some (.int y3), some (.int y4)] [.int (y1 + 1), .ref 41, .ref 39] _ _
  refine l25 hS ma_2 hi_253_71 fun g1 g2 => ?_
  show am_L _ _ _ _ _ [some (.ref 39), some (.int y1), some (.int y2), some (.int y3), some (.int y4)] [.int (kr s 2 (y1 + 1)), .ref 39] _ _
  refine l0 hi_253_72 ?_
  refine l0 hi_253_73 ?_
  refine l1 (v := y1) hi_253_74 rfl ?_
  refine l0 hi_253_75 ?_
  refine l10 hi_253_76 ?_
  show am_L _ _ _ _ _ [some (.ref 39), some (.int y1), some (.int y2), some (.int y3), some (.int y4)] [.int (y1 + 1), .int 0, .int 0, .int (kr s 2 (y1 + 1)), .ref 39] _ _
  refine l32 (as := [.ref 39, .int (kr s 2 (y1 + 1)), .int 0, .int 0, .int (y1 + 1)]) (la := [some (.ref 39), some (.int (kr s 2 (y1 + 1))), some (.int 0), some (.int 0), some (.int (y1 + 1)), none]) (rest := []) hi_253_77 (am_hd0 (M := 253) (by decide) 77) rfl rfl rfl (fun N' d' _ => lt196 (N := N') (d := d') hS) ?_ (fun _ q => nomatch q.1)
  rintro v5 S3 ⟨ev5, h4⟩
  cases ev5
  show am_L _ _ _ _ _ [some (.ref 39), some (.int y1), some (.int y2), some (.int y3), some (.int y4)] [] _ _
  refine am_L.mono (lt253_80 h4) ?_
  rintro o S1 ⟨e, h⟩
  have q : k253_63 s y1 y2 y3 y4 = k253_80 ((k196 s (kr s 2 (y1 + 1)) 0 0 (y1 + 1)).1) y2 y3 y4 := rfl
  rw [q]; exact ⟨e, h⟩
noncomputable def k253_57 (s : kS) (y1 : Int32) (y2 : Int32) (y3 : Int32) (y4 : Int32) (z0 : Int32) : kS × Int32 := k253_63 ((k177 s 1).1) y1 y2 y3 y4
theorem lt253_57 {sc : Nat × (Nat → Int32)} {N d : Nat} {S0 S : am_S} {s : kS} {y1 : Int32} {y2 : Int32} {y3 : Int32} {y4 : Int32} {z0 : Int32} (hS : MK S0 S s) : am_L (am_PP sc) N d 253 57 [some (.ref 39), some (.int y1), some (.int y2), some (.int y3), some (.int y4)] [.int z0] S (fun o S1 => o = some none ∧ MK S0 S1 (k253_57 s y1 y2 y3 y4 z0).1) := by
  refine l6i hi_253_57 ?_
  refine l2 (v := 39) hi_253_58 rfl ?_
  refine l0 hi_253_59 ?_
  refine l32 (as := [.ref 39, .int 1]) (la := [some (.ref 39), some (.int 1)]) (rest := []) hi_253_60 (am_hd0 (M := 253) (by decide) 60) rfl rfl rfl (fun N' d' _ => lt177 (N := N') (d := d') hS) ?_ (fun _ q => nomatch q.1)
  rintro v3 S1 ⟨ev3, h2⟩
  cases ev3
  show am_L _ _ _ _ _ [some (.ref 39), some (.int y1), some (.int y2), some (.int y3), some (.int y4)] [] _ _
  refine am_L.mono (lt253_63 h2) ?_
  rintro o S1 ⟨e, h⟩
  have q : k253_57 s y1 y2 y3 y4 z0 = k253_63 ((k177 s 1).1) y1 y2 y3 y4 := rfl
  rw [q]; exact ⟨e, h⟩
noncomputable def k253_47 (s : kS) (y1 : Int32) (y2 : Int32) (y3 : Int32) (y4 : Int32) (z0 : Int32) : kS × Int32 := k253_57 ((k189 s 39 y2 0 0).1) y1 y2 y3 y4 ((k189 s 39 y2 0 0).2)
theorem lt253_47 {sc : Nat × (Nat → Int32)} {N d : Nat} {S0 S : am_S} {s : kS} {y1 : Int32} {y2 : Int32} {y3 : Int32} {y4 : Int32} {z0 : Int32} (hS : MK S0 S s) : am_L (am_PP sc) N d 253 47 [some (.ref 39), some (.int y1), some (.int y2), some (.int y3), some (.int y4)] [.int z0] S (fun o S1 => o = some none ∧ MK S0 S1 (k253_47 s y1 y2 y3 y4 z0).1) := by
  refine l6i hi_253_47 ?_
  refine l2 (v := 39) hi_253_48 rfl ?_
  refine l0 hi_253_49 ?_
  refine l1 (v := y2) hi_253_51 rfl ?_
  refine l0 hi_253_52 ?_
  refine l0 hi_253_53 ?_
  refine l32 (as := [.ref 39, .int 39, .int y2, .int 0, .int 0]) (la := [some (.ref 39), some (.int 39), some (.int y2), some (.int 0), some (.int 0)]) (rest := []) hi_253_54 (am_hd0 (M := 253) (by decide) 54) rfl rfl rfl (fun N' d' _ => lt189 (N := N') (d := d') hS) ?_ (fun _ q => nomatch q.1)
  rintro v3 S1 ⟨ev3, h2⟩
  cases ev3
  show am_L _ _ _ _ _ [some (.ref 39), some (.int y1), some (.int y2), some (.int y3), some (.int y4)] [.int ((k189 s 39 y2 0 0).2)] _ _
  refine am_L.mono (lt253_57 h2) ?_
  rintro o S1 ⟨e, h⟩
  have q : k253_47 s y1 y2 y3 y4 z0 = k253_57 ((k189 s 39 y2 0 0).1) y1 y2 y3 y4 ((k189 s 39 y2 0 0).2) := rfl
  rw [q]; exact ⟨e, h⟩
noncomputable def k253_31 (s : kS) (y1 : Int32) (y2 : Int32) (z0 : Int32) : kS × Int32 := k253_47 ((k189 s 34 0 0 y1).1) y1 y2 z0 (k210 s) ((k189 s 34 0 0 y1).2)
theorem lt253_31 {sc : Nat × (Nat → Int32)} {N d : Nat} {S0 S : am_S} {s : kS} {y1 : Int32} {y2 : Int32} {z0 : Int32} {o3 : Option Value} {o4 : Option Value} (hS : MK S0 S s) : am_L (am_PP sc) N d 253 31 [some (.ref 39), some (.int y1), some (.int y2), o3, o4] [.int z0] S (fun o S1 => o = some none ∧ MK S0 S1 (k253_31 s y1 y2 z0).1) := by
  refine l3 (ls' := [some (.ref 39), some (.int y1), some (.int y2), some (.int z0), o4]) hi_253_31 (Nat.le_of_ble_eq_true rfl) rfl ?_
  refine l2 (v := 39) hi_253_32 rfl ?_
  refine l32 (as := [.ref 39]) (la := [some (.ref 39)]) (rest := []) hi_253_33 (am_hd0 (M := 253) (by decide) 33) rfl rfl rfl (fun N' d' _ => lt210 (N := N') (d := d') hS) ?_ (fun _ q => nomatch q.1)
  rintro v3 S1 ⟨ev3, h2⟩
  cases ev3
  show am_L _ _ _ _ _ [some (.ref 39), some (.int y1), some (.int y2), some (.int z0), o4] [.int (k210 s)] _ _
  refine l3 (ls' := [some (.ref 39), some (.int y1), some (.int y2), some (.int z0), some (.int (k210 s))]) hi_253_36 (Nat.le_of_ble_eq_true rfl) rfl ?_
  refine l2 (v := 39) hi_253_38 rfl ?_
  refine l0 hi_253_39 ?_
  refine l0 hi_253_41 ?_
  refine l0 hi_253_42 ?_
  refine l1 (v := y1) hi_253_43 rfl ?_
  refine l32 (as := [.ref 39, .int 34, .int 0, .int 0, .int y1]) (la := [some (.ref 39), some (.int 34), some (.int 0), some (.int 0), some (.int y1)]) (rest := []) hi_253_44 (am_hd0 (M := 253) (by decide) 44) rfl rfl rfl (fun N' d' _ => lt189 (N := N') (d := d') h2) ?_ (fun _ q => nomatch q.1)
  rintro v6 S4 ⟨ev6, h5⟩
  cases ev6
  show am_L _ _ _ _ _ [some (.ref 39), some (.int y1), some (.int y2), some (.int z0), some (.int (k210 s))] [.int ((k189 s 34 0 0 y1).2)] _ _
  refine am_L.mono (lt253_47 h5) ?_
  rintro o S1 ⟨e, h⟩
  have q : k253_31 s y1 y2 z0 = k253_47 ((k189 s 34 0 0 y1).1) y1 y2 z0 (k210 s) ((k189 s 34 0 0 y1).2) := rfl
  rw [q]; exact ⟨e, h⟩
noncomputable def k253_22 (s : kS) (y1 : Int32) (y2 : Int32) : kS × Int32 := k253_31 ((k189 s 38 y2 0 y1).1) y1 y2 ((k189 s 38 y2 0 y1).2)
theorem lt253_22 {sc : Nat × (Nat → Int32)} {N d : Nat} {S0 S : am_S} {s : kS} {y1 : Int32} {y2 : Int32} {o3 : Option Value} {o4 : Option Value} (hS : MK S0 S s) : am_L (am_PP sc) N d 253 22 [some (.ref 39), some (.int y1), some (.int y2), o3, o4] [] S (fun o S1 => o = some none ∧ MK S0 S1 (k253_22 s y1 y2).1) := by
  refine l2 (v := 39) hi_253_22 rfl ?_
  refine l0 hi_253_23 ?_
  refine l1 (v := y2) hi_253_25 rfl ?_
  refine l0 hi_253_26 ?_
  refine l1 (v := y1) hi_253_27 rfl ?_
  refine l32 (as := [.ref 39, .int 38, .int y2, .int 0, .int y1]) (la := [some (.ref 39), some (.int 38), some (.int y2), some (.int 0), some (.int y1)]) (rest := []) hi_253_28 (am_hd0 (M := 253) (by decide) 28) rfl rfl rfl (fun N' d' _ => lt189 (N := N') (d := d') hS) ?_ (fun _ q => nomatch q.1)
  rintro v3 S1 ⟨ev3, h2⟩
  cases ev3
  show am_L _ _ _ _ _ [some (.ref 39), some (.int y1), some (.int y2), o3, o4] [.int ((k189 s 38 y2 0 y1).2)] _ _
  refine am_L.mono (lt253_31 h2) ?_
  rintro o S1 ⟨e, h⟩
  have q : k253_22 s y1 y2 = k253_31 ((k189 s 38 y2 0 y1).1) y1 y2 ((k189 s 38 y2 0 y1).2) := rfl
  rw [q]; exact ⟨e, h⟩
noncomputable def k253_6 (s : kS) (y1 : Int32) (z0 : Int32) : kS × Int32 := if z0 ≠ 0 then k253_22 ((k254 s 3 0 y1).1) y1 (k197 s) else (s, 0)
theorem lt253_6 {sc : Nat × (Nat → Int32)} {N d : Nat} {S0 S : am_S} {s : kS} {y1 : Int32} {z0 : Int32} {o2 : Option Value} {o3 : Option Value} {o4 : Option Value} (hS : MK S0 S s) : am_L (am_PP sc) N d 253 6 [some (.ref 39), some (.int y1), o2, o3, o4] [.int z0] S (fun o S1 => o = some none ∧ MK S0 S1 (k253_6 s y1 z0).1) := by
  by_cases c1 : z0 ≠ 0
  · refine l12t hi_253_6 (decide_eq_true c1) ?_
    refine l2 (v := 39) hi_253_10 rfl ?_
    refine l32 (as := [.ref 39]) (la := [some (.ref 39)]) (rest := []) hi_253_11 (am_hd0 (M := 253) (by decide) 11) rfl rfl rfl (fun N' d' _ => lt197 (N := N') (d := d') hS) ?_ (fun _ q => nomatch q.1)
    rintro v4 S2 ⟨ev4, h3⟩
    cases ev4
    show am_L _ _ _ _ _ [some (.ref 39), some (.int y1), o2, o3, o4] [.int (k197 s)] _ _
    refine l3 (ls' := [some (.ref 39), some (.int y1), some (.int (k197 s)), o3, o4]) hi_253_14 (Nat.le_of_ble_eq_true rfl) rfl ?_
    refine l2 (v := 39) hi_253_15 rfl ?_
    refine l0 hi_253_16 ?_
    refine l0 hi_253_17 ?_
    refine l1 (v := y1) hi_253_18 rfl ?_
    refine l32 (as := [.ref 39, .int 3, .int 0, .int y1]) (la := [some (.ref 39), some (.int 3), some (.int 0), some (.int y1), none]) (rest := []) hi_253_19 (am_hd0 (M := 253) (by decide) 19) rfl rfl rfl (fun N' d' _ => lt254 (N := N') (d := d') h3) ?_ (fun _ q => nomatch q.1)
    rintro v7 S5 ⟨ev7, h6⟩
    cases ev7
    show am_L _ _ _ _ _ [some (.ref 39), some (.int y1), some (.int (k197 s)), o3, o4] [] _ _
    refine am_L.mono (lt253_22 h6) ?_
    rintro o S1 ⟨e, h⟩
    have q : k253_6 s y1 z0 = k253_22 ((k254 s 3 0 y1).1) y1 (k197 s) := by unfold k253_6; rw [if_pos c1]
    rw [q]; exact ⟨e, h⟩
  · refine l12f hi_253_6 (decide_eq_false c1) ?_
    refine l35 hi_253_9 ⟨rfl, ?_⟩
    unfold k253_6; rw [if_neg c1]; exact hS
/-- forNumbers(I)V -/
noncomputable def k253 (s : kS) (x1 : Int32) : kS × Int32 := k253_6 ((k193 s 12).1) x1 ((k193 s 12).2)
theorem lt253 {sc : Nat × (Nat → Int32)} {N d : Nat} {S0 S : am_S} {s : kS} {x1 : Int32} (hS : MK S0 S s) : am_L (am_PP sc) N d 253 0 [some (.ref 39), some (.int x1), none, none, none] [] S (fun o S1 => o = some none ∧ MK S0 S1 (k253 s x1).1) := by
  refine l2 (v := 39) hi_253_0 rfl ?_
  refine l0 hi_253_1 ?_
  refine l32 (as := [.ref 39, .int 12]) (la := [some (.ref 39), some (.int 12)]) (rest := []) hi_253_3 (am_hd0 (M := 253) (by decide) 3) rfl rfl rfl (fun N' d' _ => lt193 (N := N') (d := d') hS) ?_ (fun _ q => nomatch q.1)
  rintro v3 S1 ⟨ev3, h2⟩
  cases ev3
  show am_L _ _ _ _ _ [some (.ref 39), some (.int x1), none, none, none] [.int ((k193 s 12).2)] _ _
  refine am_L.mono (lt253_6 h2) ?_
  rintro o S1 ⟨e, h⟩
  have q : k253 s x1 = k253_6 ((k193 s 12).1) x1 ((k193 s 12).2) := rfl
  rw [q]; exact ⟨e, h⟩
noncomputable def k252_49 (s : kS) (y1 : Int32) (z0 : Int32) : kS × Int32 := ((k253 s y1).1, 0)
theorem lt252_49 {sc : Nat × (Nat → Int32)} {N d : Nat} {S0 S : am_S} {s : kS} {y1 : Int32} {z0 : Int32} (hS : MK S0 S s) : am_L (am_PP sc) N d 252 49 [some (.ref 39), some (.int y1)] [.int z0] S (fun o S1 => o = some none ∧ MK S0 S1 (k252_49 s y1 z0).1) := by
  refine l6i hi_252_49 ?_
  refine l2 (v := 39) hi_252_50 rfl ?_
  refine l1 (v := y1) hi_252_51 rfl ?_
  refine l32 (as := [.ref 39, .int y1]) (la := [some (.ref 39), some (.int y1), none, none, none]) (rest := []) hi_252_52 (am_hd0 (M := 252) (by decide) 52) rfl rfl rfl (fun N' d' _ => lt253 (N := N') (d := d') hS) ?_ (fun _ q => nomatch q.1)
  rintro v3 S1 ⟨ev3, h2⟩
  cases ev3
  show am_L _ _ _ _ _ [some (.ref 39), some (.int y1)] [] _ _
  refine l35 hi_252_55 ⟨rfl, ?_⟩
  exact h2
noncomputable def k252_32 (s : kS) : kS × Int32 := ((k186 s 0).1, 0)
theorem lt252_32 {sc : Nat × (Nat → Int32)} {N d : Nat} {S0 S : am_S} {s : kS} {o1 : Option Value} (hS : MK S0 S s) : am_L (am_PP sc) N d 252 32 [some (.ref 39), o1] [] S (fun o S1 => o = some none ∧ MK S0 S1 (k252_32 s).1) := by
  refine l2 (v := 39) hi_252_32 rfl ?_
  refine l0 hi_252_33 ?_
  refine l32 (as := [.ref 39, .int 0]) (la := [some (.ref 39), some (.int 0)]) (rest := []) hi_252_34 (am_hd0 (M := 252) (by decide) 34) rfl rfl rfl (fun N' d' _ => lt186 (N := N') (d := d') hS) ?_ (fun _ q => nomatch q.1)
  rintro v3 S1 ⟨ev3, h2⟩
  cases ev3
  show am_L _ _ _ _ _ [some (.ref 39), o1] [] _ _
  refine l18 hi_252_37 ?_
  refine l35 hi_252_55 ⟨rfl, ?_⟩
  exact h2
noncomputable def k252_4 (s : kS) (y1 : Int32) : kS × Int32 := if (k183 s) ≠ 69 then k252_49 ((k189 s 4 (-4) 0 0).1) y1 ((k189 s 4 (-4) 0 0).2) else k252_32 ((k179 (kf s 4 ((s.1 4) + 1)) 12 y1 0 0).1)
theorem lt252_4 {sc : Nat × (Nat → Int32)} {N d : Nat} {S0 S : am_S} {s : kS} {y1 : Int32} (hS : MK S0 S s) : am_L (am_PP sc) N d 252 4 [some (.ref 39), some (.int y1)] [] S (fun o S1 => o = some none ∧ MK S0 S1 (k252_4 s y1).1) := by
  refine l2 (v := 39) hi_252_4 rfl ?_
  refine l32 (as := [.ref 39]) (la := [some (.ref 39)]) (rest := []) hi_252_5 (am_hd0 (M := 252) (by decide) 5) rfl rfl rfl (fun N' d' _ => lt183 (N := N') (d := d') hS) ?_ (fun _ q => nomatch q.1)
  rintro v3 S1 ⟨ev3, h2⟩
  cases ev3
  show am_L _ _ _ _ _ [some (.ref 39), some (.int y1)] [.int (k183 s)] _ _
  refine l0 hi_252_8 ?_
  by_cases c4 : (k183 s) ≠ 69
  · refine l13t hi_252_10 (decide_eq_true c4) ?_
    refine l2 (v := 39) hi_252_40 rfl ?_
    refine l0 hi_252_41 ?_
    refine l0 hi_252_42 ?_
    refine l0 hi_252_44 ?_
    refine l0 hi_252_45 ?_
    refine l32 (as := [.ref 39, .int 4, .int (-4), .int 0, .int 0]) (la := [some (.ref 39), some (.int 4), some (.int (-4)), some (.int 0), some (.int 0)]) (rest := []) hi_252_46 (am_hd0 (M := 252) (by decide) 46) rfl rfl rfl (fun N' d' _ => lt189 (N := N') (d := d') h2) ?_ (fun _ q => nomatch q.1)
    rintro v7 S5 ⟨ev7, h6⟩
    cases ev7
    show am_L _ _ _ _ _ [some (.ref 39), some (.int y1)] [.int ((k189 s 4 (-4) 0 0).2)] _ _
    refine am_L.mono (lt252_49 h6) ?_
    rintro o S1 ⟨e, h⟩
    have q : k252_4 s y1 = k252_49 ((k189 s 4 (-4) 0 0).1) y1 ((k189 s 4 (-4) 0 0).2) := by unfold k252_4; rw [if_pos c4]
    rw [q]; exact ⟨e, h⟩
  · refine l13f hi_252_10 (decide_eq_false c4) ?_
    refine l2 (v := 39) hi_252_13 rfl ?_
    refine l7 hi_252_14 ?_
    refine l20 (v := .int (s.1 4)) h2 hi_252_15 rfl ?_
    refine l0 hi_252_18 ?_
    refine l10 hi_252_19 ?_
    show am_L _ _ _ _ _ [some (.ref 39), some (.int y1)] [.int ((s.1 4) + 1), .ref 39] _ _
    refine l21 h2 hi_252_20 ms_4 fun S8 h9 => ?_
    refine l2 (v := 39) hi_252_23 rfl ?_
    refine l0 hi_252_24 ?_
    refine l1 (v := y1) hi_252_26 rfl ?_
    refine l0 hi_252_27 ?_
    refine l0 hi_252_28 ?_
    refine l32 (as := [.ref 39, .int 12, .int y1, .int 0, .int 0]) (la := [some (.ref 39), some (.int 12), some (.int y1), some (.int 0), some (.int 0)]) (rest := []) hi_252_29 (am_hd0 (M := 252) (by decide) 29) rfl rfl rfl (fun N' d' _ => lt179 (N := N') (d := d') h9) ?_ (fun _ q => nomatch q.1)
    rintro v12 S10 ⟨ev12, h11⟩
    cases ev12
    show am_L _ _ _ _ _ [some (.ref 39), some (.int y1)] [] _ _
    refine am_L.mono (lt252_32 h11) ?_
    rintro o S1 ⟨e, h⟩
    have q : k252_4 s y1 = k252_32 ((k179 (kf s 4 ((s.1 4) + 1)) 12 y1 0 0).1) := by unfold k252_4; rw [if_neg c4]
    rw [q]; exact ⟨e, h⟩
/-- forThird(I)V -/
noncomputable def k252 (s : kS) (x1 : Int32) : kS × Int32 := k252_4 ((k209 s).1) x1
theorem lt252 {sc : Nat × (Nat → Int32)} {N d : Nat} {S0 S : am_S} {s : kS} {x1 : Int32} (hS : MK S0 S s) : am_L (am_PP sc) N d 252 0 [some (.ref 39), some (.int x1)] [] S (fun o S1 => o = some none ∧ MK S0 S1 (k252 s x1).1) := by
  refine l2 (v := 39) hi_252_0 rfl ?_
  refine l32 (as := [.ref 39]) (la := [some (.ref 39)]) (rest := []) hi_252_1 (am_hd0 (M := 252) (by decide) 1) rfl rfl rfl (fun N' d' _ => lt209 (N := N') (d := d') hS) ?_ (fun _ q => nomatch q.1)
  rintro v3 S1 ⟨ev3, h2⟩
  cases ev3
  show am_L _ _ _ _ _ [some (.ref 39), some (.int x1)] [] _ _
  refine am_L.mono (lt252_4 h2) ?_
  rintro o S1 ⟨e, h⟩
  have q : k252 s x1 = k252_4 ((k209 s).1) x1 := rfl
  rw [q]; exact ⟨e, h⟩
def k256b25 (y1 : Int32) (t : kS × Int32) : Nat × (kS × Int32) := if (t.1.1 48) ≤ t.2 then (1, (t.1, t.2)) else if (kr t.1 52 t.2) ≤ y1 then (0, (ka t.1 52 t.2 (kr t.1 52 t.2), t.2 + 1)) else (0, (ka t.1 52 t.2 y1, t.2 + 1))
theorem lb256_25 {sc : Nat × (Nat → Int32)} {d : Nat} {S0 : am_S} {y1 : Int32} {Q : Option (Option Value) → am_S → Prop} : ∀ (N : Nat) (S : am_S) (t : kS × Int32), MK S0 S t.1 → (∀ m S1, (kwh (k256b25 y1) m t).1 = 1 → MK S0 S1 (kwh (k256b25 y1) m t).2.1 → am_L (am_PP sc) N d 256 65 [some (.ref 39), some (.int y1), some (.int ((kwh (k256b25 y1) m t).2.2))] [] S1 Q) → am_L (am_PP sc) N d 256 25 [some (.ref 39), some (.int y1), some (.int t.2)] [] S Q := by
  intro N
  induction N with
  | zero => intros; exact l_zero
  | succ N ih =>
    intro S t hS kx65
    refine l1d (v := t.2) hi_256_25 rfl ?_
    refine l2 (v := 39) hi_256_26 rfl ?_
    refine l20 (v := .int (t.1.1 48)) hS hi_256_27 rfl ?_
    by_cases c1 : (t.1.1 48) ≤ t.2
    · refine l13t hi_256_30 (decide_eq_true c1) ?_
      have e0 : (k256b25 y1) t = (1, (t.1, t.2)) := by unfold k256b25; rw [if_pos c1]
      have e1 : kwh (k256b25 y1) 1 t = (1, (t.1, t.2)) := by rw [kwh_out (by rw [e0]; exact Nat.succ_ne_zero _), e0]
      have q := kx65 1 _  (by rw [e1]) (by rw [e1]; exact hS)
      try rw [e1] at q
      exact q.less (Nat.le_succ N)
    · refine l13f hi_256_30 (decide_eq_false c1) ?_
      refine l2 (v := 39) hi_256_33 rfl ?_
      refine l20 (v := .ref 74) hS hi_256_34 rfl ?_
      refine l1 (v := t.2) hi_256_37 rfl ?_
      refine l2 (v := 39) hi_256_38 rfl ?_
      refine l20 (v := .ref 74) hS hi_256_39 rfl ?_
      refine l1 (v := t.2) hi_256_42 rfl ?_
      refine l25 hS ma_52 hi_256_43 fun g2 g3 => ?_
      show am_L _ _ _ _ _ [some (.ref 39), some (.int y1), some (.int t.2)] [.int (kr t.1 52 t.2), .int t.2, .ref 74] _ _
      refine l1 (v := y1) hi_256_44 rfl ?_
      by_cases c4 : (kr t.1 52 t.2) ≤ y1
      · refine l13t hi_256_45 (decide_eq_true c4) ?_
        refine l2 (v := 39) hi_256_52 rfl ?_
        refine l20 (v := .ref 74) hS hi_256_53 rfl ?_
        refine l1 (v := t.2) hi_256_56 rfl ?_
        refine l25 hS ma_52 hi_256_57 fun g5 g6 => ?_
        show am_L _ _ _ _ _ [some (.ref 39), some (.int y1), some (.int t.2)] [.int (kr t.1 52 t.2), .int t.2, .ref 74] _ _
        refine l26 hS ma_52 hi_256_58 fun S9 h10 g7 g8 => ?_
        refine l5 (v := t.2) (ls' := [some (.ref 39), some (.int y1), some (.int (t.2 + 1))]) hi_256_59 rfl rfl ?_
        refine l18 hi_256_62 ?_
        have e0 : (k256b25 y1) t = (0, (ka t.1 52 t.2 (kr t.1 52 t.2), t.2 + 1)) := by unfold k256b25; rw [if_neg c1]; rw [if_pos c4]
        have e1 : ∀ m, kwh (k256b25 y1) (m + 1) t = kwh (k256b25 y1) m (ka t.1 52 t.2 (kr t.1 52 t.2), t.2 + 1) := fun m => by rw [kwh_go (by rw [e0]), e0]
        exact ih _  (ka t.1 52 t.2 (kr t.1 52 t.2), t.2 + 1) h10 (fun m S1 hm h1 => by have q := kx65 (m + 1) S1 (by rw [e1]; exact hm) (by rw [e1]; exact h1); (try rw [e1] at q); exact q.less (Nat.le_succ N))
      · refine l13f hi_256_45 (decide_eq_false c4) ?_
        refine l1 (v := y1) hi_256_48 rfl ?_
        refine l18 hi_256_49 ?_
        refine l26 hS ma_52 hi_256_58 fun S13 h14 g11 g12 => ?_
        refine l5 (v := t.2) (ls' := [some (.ref 39), some (.int y1), some (.int (t.2 + 1))]) hi_256_59 rfl rfl ?_
        refine l18 hi_256_62 ?_
        have e0 : (k256b25 y1) t = (0, (ka t.1 52 t.2 y1, t.2 + 1)) := by unfold k256b25; rw [if_neg c1]; rw [if_neg c4]
        have e1 : ∀ m, kwh (k256b25 y1) (m + 1) t = kwh (k256b25 y1) m (ka t.1 52 t.2 y1, t.2 + 1) := fun m => by rw [kwh_go (by rw [e0]), e0]
        exact ih _  (ka t.1 52 t.2 y1, t.2 + 1) h14 (fun m S1 hm h1 => by have q := kx65 (m + 1) S1 (by rw [e1]; exact hm) (by rw [e1]; exact h1); (try rw [e1] at q); exact q.less (Nat.le_succ N))
/-- unhide(I)V -/
noncomputable def k256 (s : kS) (x1 : Int32) : kS × Int32 := ((kfin (k256b25 x1) (kf s 24 ((kr s 34 (s.1 32)) + x1), kr s 40 (s.1 37))).2.1, 0)
theorem lt256 {sc : Nat × (Nat → Int32)} {N d : Nat} {S0 S : am_S} {s : kS} {x1 : Int32} (hS : MK S0 S s) : am_L (am_PP sc) N d 256 0 [some (.ref 39), some (.int x1), none] [] S (fun o S1 => o = some none ∧ MK S0 S1 (k256 s x1).1) := by
  refine l2 (v := 39) hi_256_0 rfl ?_
  refine l2 (v := 39) hi_256_1 rfl ?_
  refine l20 (v := .ref 59) hS hi_256_2 rfl ?_
  refine l2 (v := 39) hi_256_5 rfl ?_
  refine l20 (v := .int (s.1 32)) hS hi_256_6 rfl ?_
  refine l25 hS ma_34 hi_256_9 fun g1 g2 => ?_
  show am_L _ _ _ _ _ [some (.ref 39), some (.int x1), none] [.int (kr s 34 (s.1 32)), .ref 39] _ _
  refine l1 (v := x1) hi_256_10 rfl ?_
  refine l10 hi_256_11 ?_
  show am_L _ _ _ _ _ [some (.ref 39), some (.int x1), none] [.int ((kr s 34 (s.1 32)) + x1), .ref 39] _ _
  refine l21 hS hi_256_12 ms_24 fun S3 h4 => ?_
  refine l2 (v := 39) hi_256_15 rfl ?_
  refine l20 (v := .ref 64) h4 hi_256_16 rfl ?_
  refine l2 (v := 39) hi_256_19 rfl ?_
  refine l20 (v := .int (s.1 37)) h4 hi_256_20 rfl ?_
  refine l25 h4 ma_40 hi_256_23 fun g5 g6 => ?_
  show am_L _ _ _ _ _ [some (.ref 39), some (.int x1), none] [.int (kr s 40 (s.1 37))] _ _
  refine l3 (ls' := [some (.ref 39), some (.int x1), some (.int (kr s 40 (s.1 37)))]) hi_256_24 (Nat.le_of_ble_eq_true rfl) rfl ?_
  refine lb256_25 N _  (kf s 24 ((kr s 34 (s.1 32)) + x1), kr s 40 (s.1 37)) h4 ?_
  · intro m7 S8  hm9 h10
    have hf11 : kfin (k256b25 x1) (kf s 24 ((kr s 34 (s.1 32)) + x1), kr s 40 (s.1 37)) = kwh (k256b25 x1) m7 (kf s 24 ((kr s 34 (s.1 32)) + x1), kr s 40 (s.1 37)) := kfin_eq (by rw [hm9]; decide)
    rw [← hf11] at hm9 h10
    try rw [← hf11]
    refine l35 hi_256_65 ⟨rfl, ?_⟩
    exact h10
noncomputable def k255_55 (s : kS) : kS × Int32 := ((k199 s 15).1, 0)
theorem lt255_55 {sc : Nat × (Nat → Int32)} {N d : Nat} {S0 S : am_S} {s : kS} {o1 : Option Value} {o2 : Option Value} {o3 : Option Value} (hS : MK S0 S s) : am_L (am_PP sc) N d 255 55 [some (.ref 39), o1, o2, o3] [] S (fun o S1 => o = some none ∧ MK S0 S1 (k255_55 s).1) := by
  refine l2 (v := 39) hi_255_55 rfl ?_
  refine l0 hi_255_56 ?_
  refine l32 (as := [.ref 39, .int 15]) (la := [some (.ref 39), some (.int 15)]) (rest := []) hi_255_58 (am_hd0 (M := 255) (by decide) 58) rfl rfl rfl (fun N' d' _ => lt199 (N := N') (d := d') hS) ?_ (fun _ q => nomatch q.1)
  rintro v3 S1 ⟨ev3, h2⟩
  cases ev3
  show am_L _ _ _ _ _ [some (.ref 39), o1, o2, o3] [.int ((k199 s 15).2)] _ _
  refine l6i hi_255_61 ?_
  refine l35 hi_255_62 ⟨rfl, ?_⟩
  exact h2
noncomputable def k255_49 (s : kS) (y3 : Int32) (z0 : Int32) : kS × Int32 := k255_55 ((k256 s y3).1)
theorem lt255_49 {sc : Nat × (Nat → Int32)} {N d : Nat} {S0 S : am_S} {s : kS} {y3 : Int32} {z0 : Int32} {o1 : Option Value} {o2 : Option Value} (hS : MK S0 S s) : am_L (am_PP sc) N d 255 49 [some (.ref 39), o1, o2, some (.int y3)] [.int z0] S (fun o S1 => o = some none ∧ MK S0 S1 (k255_49 s y3 z0).1) := by
  refine l6i hi_255_49 ?_
  refine l2 (v := 39) hi_255_50 rfl ?_
  refine l1 (v := y3) hi_255_51 rfl ?_
  refine l32 (as := [.ref 39, .int y3]) (la := [some (.ref 39), some (.int y3), none]) (rest := []) hi_255_52 (am_hd0 (M := 255) (by decide) 52) rfl rfl rfl (fun N' d' _ => lt256 (N := N') (d := d') hS) ?_ (fun _ q => nomatch q.1)
  rintro v3 S1 ⟨ev3, h2⟩
  cases ev3
  show am_L _ _ _ _ _ [some (.ref 39), o1, o2, some (.int y3)] [] _ _
  refine am_L.mono (lt255_55 h2) ?_
  rintro o S1 ⟨e, h⟩
  have q : k255_49 s y3 z0 = k255_55 ((k256 s y3).1) := rfl
  rw [q]; exact ⟨e, h⟩
noncomputable def k255_40 (s : kS) (y3 : Int32) : kS × Int32 := k255_49 ((k189 s 41 y3 0 0).1) y3 ((k189 s 41 y3 0 0).2)
theorem lt255_40 {sc : Nat × (Nat → Int32)} {N d : Nat} {S0 S : am_S} {s : kS} {y3 : Int32} {o1 : Option Value} {o2 : Option Value} (hS : MK S0 S s) : am_L (am_PP sc) N d 255 40 [some (.ref 39), o1, o2, some (.int y3)] [] S (fun o S1 => o = some none ∧ MK S0 S1 (k255_40 s y3).1) := by
  refine l2 (v := 39) hi_255_40 rfl ?_
  refine l0 hi_255_41 ?_
  refine l1 (v := y3) hi_255_43 rfl ?_
  refine l0 hi_255_44 ?_
  refine l0 hi_255_45 ?_
  refine l32 (as := [.ref 39, .int 41, .int y3, .int 0, .int 0]) (la := [some (.ref 39), some (.int 41), some (.int y3), some (.int 0), some (.int 0)]) (rest := []) hi_255_46 (am_hd0 (M := 255) (by decide) 46) rfl rfl rfl (fun N' d' _ => lt189 (N := N') (d := d') hS) ?_ (fun _ q => nomatch q.1)
  rintro v3 S1 ⟨ev3, h2⟩
  cases ev3
  show am_L _ _ _ _ _ [some (.ref 39), o1, o2, some (.int y3)] [.int ((k189 s 41 y3 0 0).2)] _ _
  refine am_L.mono (lt255_49 h2) ?_
  rintro o S1 ⟨e, h⟩
  have q : k255_40 s y3 = k255_49 ((k189 s 41 y3 0 0).1) y3 ((k189 s 41 y3 0 0).2) := rfl
  rw [q]; exact ⟨e, h⟩
noncomputable def k255_25 (s : kS) (y1 : Int32) (y3 : Int32) (z0 : Int32) : kS × Int32 := k255_40 ((k246 (ka s 72 y1 (k210 s))).1) y3
theorem lt255_25 {sc : Nat × (Nat → Int32)} {N d : Nat} {S0 S : am_S} {s : kS} {y1 : Int32} {y3 : Int32} {z0 : Int32} {o2 : Option Value} (hS : MK S0 S s) : am_L (am_PP sc) N d 255 25 [some (.ref 39), some (.int y1), o2, some (.int y3)] [.int z0] S (fun o S1 => o = some none ∧ MK S0 S1 (k255_25 s y1 y3 z0).1) := by
  refine l6i hi_255_25 ?_
  refine l2 (v := 39) hi_255_26 rfl ?_
  refine l20 (v := .ref 91) hS hi_255_27 rfl ?_
  refine l1 (v := y1) hi_255_30 rfl ?_
  refine l2 (v := 39) hi_255_31 rfl ?_
  refine l32 (as := [.ref 39]) (la := [some (.ref 39)]) (rest := [.int y1, .ref 91]) hi_255_32 (am_hd0 (M := 255) (by decide) 32) rfl rfl rfl (fun N' d' _ => lt210 (N := N') (d := d') hS) ?_ (fun _ q => nomatch q.1)
  rintro v3 S1 ⟨ev3, h2⟩
  cases ev3
  show am_L _ _ _ _ _ [some (.ref 39), some (.int y1), o2, some (.int y3)] [.int (k210 s), .int y1, .ref 91] _ _
  refine l26 h2 ma_72 hi_255_35 fun S6 h7 g4 g5 => ?_
  refine l2 (v := 39) hi_255_36 rfl ?_
  refine l32 (as := [.ref 39]) (la := [some (.ref 39), none, none]) (rest := []) hi_255_37 (am_hd0 (M := 255) (by decide) 37) rfl rfl rfl (fun N' d' _ => lt246 (N := N') (d := d') h7) ?_ (fun _ q => nomatch q.1)
  rintro v10 S8 ⟨ev10, h9⟩
  cases ev10
  show am_L _ _ _ _ _ [some (.ref 39), some (.int y1), o2, some (.int y3)] [] _ _
  refine am_L.mono (lt255_40 h9) ?_
  rintro o S1 ⟨e, h⟩
  have q : k255_25 s y1 y3 z0 = k255_40 ((k246 (ka s 72 y1 (k210 s))).1) y3 := rfl
  rw [q]; exact ⟨e, h⟩
noncomputable def k255_16 (s : kS) (y1 : Int32) (y2 : Int32) (y3 : Int32) : kS × Int32 := k255_25 ((k189 s 40 y3 y2 0).1) y1 y3 ((k189 s 40 y3 y2 0).2)
theorem lt255_16 {sc : Nat × (Nat → Int32)} {N d : Nat} {S0 S : am_S} {s : kS} {y1 : Int32} {y2 : Int32} {y3 : Int32} (hS : MK S0 S s) : am_L (am_PP sc) N d 255 16 [some (.ref 39), some (.int y1), some (.int y2), some (.int y3)] [] S (fun o S1 => o = some none ∧ MK S0 S1 (k255_16 s y1 y2 y3).1) := by
  refine l2 (v := 39) hi_255_16 rfl ?_
  refine l0 hi_255_17 ?_
  refine l1 (v := y3) hi_255_19 rfl ?_
  refine l1 (v := y2) hi_255_20 rfl ?_
  refine l0 hi_255_21 ?_
  refine l32 (as := [.ref 39, .int 40, .int y3, .int y2, .int 0]) (la := [some (.ref 39), some (.int 40), some (.int y3), some (.int y2), some (.int 0)]) (rest := []) hi_255_22 (am_hd0 (M := 255) (by decide) 22) rfl rfl rfl (fun N' d' _ => lt189 (N := N') (d := d') hS) ?_ (fun _ q => nomatch q.1)
  rintro v3 S1 ⟨ev3, h2⟩
  cases ev3
  show am_L _ _ _ _ _ [some (.ref 39), some (.int y1), some (.int y2), some (.int y3)] [.int ((k189 s 40 y3 y2 0).2)] _ _
  refine am_L.mono (lt255_25 h2) ?_
  rintro o S1 ⟨e, h⟩
  have q : k255_16 s y1 y2 y3 = k255_25 ((k189 s 40 y3 y2 0).1) y1 y3 ((k189 s 40 y3 y2 0).2) := rfl
  rw [q]; exact ⟨e, h⟩
noncomputable def k255_11 (s : kS) (y1 : Int32) (y2 : Int32) (y3 : Int32) (z0 : Int32) : kS × Int32 := k255_16 ((k224 s).1) y1 y2 y3
theorem lt255_11 {sc : Nat × (Nat → Int32)} {N d : Nat} {S0 S : am_S} {s : kS} {y1 : Int32} {y2 : Int32} {y3 : Int32} {z0 : Int32} (hS : MK S0 S s) : am_L (am_PP sc) N d 255 11 [some (.ref 39), some (.int y1), some (.int y2), some (.int y3)] [.int z0] S (fun o S1 => o = some none ∧ MK S0 S1 (k255_11 s y1 y2 y3 z0).1) := by
  refine l6i hi_255_11 ?_
  refine l2 (v := 39) hi_255_12 rfl ?_
  refine l32 (as := [.ref 39]) (la := [some (.ref 39), none, none]) (rest := []) hi_255_13 (am_hd0 (M := 255) (by decide) 13) rfl rfl rfl (fun N' d' _ => lt224 (N := N') (d := d') hS) ?_ (fun _ q => nomatch q.1)
  rintro v3 S1 ⟨ev3, h2⟩
  cases ev3
  show am_L _ _ _ _ _ [some (.ref 39), some (.int y1), some (.int y2), some (.int y3)] [] _ _
  refine am_L.mono (lt255_16 h2) ?_
  rintro o S1 ⟨e, h⟩
  have q : k255_11 s y1 y2 y3 z0 = k255_16 ((k224 s).1) y1 y2 y3 := rfl
  rw [q]; exact ⟨e, h⟩
/-- forNumbersEnd(III)V -/
noncomputable def k255 (s : kS) (x1 : Int32) (x2 : Int32) (x3 : Int32) : kS × Int32 := k255_11 ((k189 s 33 (x3 + 3) 0 0).1) x1 x2 x3 ((k189 s 33 (x3 + 3) 0 0).2)
theorem lt255 {sc : Nat × (Nat → Int32)} {N d : Nat} {S0 S : am_S} {s : kS} {x1 : Int32} {x2 : Int32} {x3 : Int32} (hS : MK S0 S s) : am_L (am_PP sc) N d 255 0 [some (.ref 39), some (.int x1), some (.int x2), some (.int x3)] [] S (fun o S1 => o = some none ∧ MK S0 S1 (k255 s x1 x2 x3).1) := by
  refine l2 (v := 39) hi_255_0 rfl ?_
  refine l0 hi_255_1 ?_
  refine l1 (v := x3) hi_255_3 rfl ?_
  refine l0 hi_255_4 ?_
  refine l10 hi_255_5 ?_
  show am_L _ _ _ _ _ [some (.ref 39), some (.int x1), some (.int x2), some (.int x3)] [.int (x3 + 3), .int 33, .ref 39] _ _
  refine l0 hi_255_6 ?_
  refine l0 hi_255_7 ?_
  refine l32 (as := [.ref 39, .int 33, .int (x3 + 3), .int 0, .int 0]) (la := [some (.ref 39), some (.int 33), some (.int (x3 + 3)), some (.int 0), some (.int 0)]) (rest := []) hi_255_8 (am_hd0 (M := 255) (by decide) 8) rfl rfl rfl (fun N' d' _ => lt189 (N := N') (d := d') hS) ?_ (fun _ q => nomatch q.1)
  rintro v3 S1 ⟨ev3, h2⟩
  cases ev3
  show am_L _ _ _ _ _ [some (.ref 39), some (.int x1), some (.int x2), some (.int x3)] [.int ((k189 s 33 (x3 + 3) 0 0).2)] _ _
  refine am_L.mono (lt255_11 h2) ?_
  rintro o S1 ⟨e, h⟩
  have q : k255 s x1 x2 x3 = k255_11 ((k189 s 33 (x3 + 3) 0 0).1) x1 x2 x3 ((k189 s 33 (x3 + 3) 0 0).2) := rfl
  rw [q]; exact ⟨e, h⟩
noncomputable def k258_42 (s : kS) (y1 : Int32) (y2 : Int32) : kS × Int32 := if y2 ≤ y1 then (s, 0) else ((k189 s 26 (y2 - y1) 0 0).1, 0)
theorem lt258_42 {sc : Nat × (Nat → Int32)} {N d : Nat} {S0 S : am_S} {s : kS} {y1 : Int32} {y2 : Int32} (hS : MK S0 S s) : am_L (am_PP sc) N d 258 42 [some (.ref 39), some (.int y1), some (.int y2)] [] S (fun o S1 => o = some none ∧ MK S0 S1 (k258_42 s y1 y2).1) := by
  refine l1 (v := y2) hi_258_42 rfl ?_
  refine l1 (v := y1) hi_258_43 rfl ?_
  by_cases c1 : y2 ≤ y1
  · refine l13t hi_258_44 (decide_eq_true c1) ?_
    refine l35 hi_258_59 ⟨rfl, ?_⟩
    unfold k258_42; rw [if_pos c1]; exact hS
  · refine l13f hi_258_44 (decide_eq_false c1) ?_
    refine l2 (v := 39) hi_258_47 rfl ?_
    refine l0 hi_258_48 ?_
    refine l1 (v := y2) hi_258_50 rfl ?_
    refine l1 (v := y1) hi_258_51 rfl ?_
    refine l10 hi_258_52 ?_
    show am_L _ _ _ _ _ [some (.ref 39), some (.int y1), some (.int y2)] [.int (y2 - y1), .int 26, .ref 39] _ _
    refine l0 hi_258_53 ?_
    refine l0 hi_258_54 ?_
    refine l32 (as := [.ref 39, .int 26, .int (y2 - y1), .int 0, .int 0]) (la := [some (.ref 39), some (.int 26), some (.int (y2 - y1)), some (.int 0), some (.int 0)]) (rest := []) hi_258_55 (am_hd0 (M := 258) (by decide) 55) rfl rfl rfl (fun N' d' _ => lt189 (N := N') (d := d') hS) ?_ (fun _ q => nomatch q.1)
    rintro v4 S2 ⟨ev4, h3⟩
    cases ev4
    show am_L _ _ _ _ _ [some (.ref 39), some (.int y1), some (.int y2)] [.int ((k189 s 26 (y2 - y1) 0 0).2)] _ _
    refine l6i hi_258_58 ?_
    refine l35 hi_258_59 ⟨rfl, ?_⟩
    unfold k258_42; rw [if_neg c1]; exact h3
noncomputable def k258_35 (s : kS) (y1 : Int32) (y2 : Int32) : kS × Int32 := k258_42 ((k240 s (y1 - y2)).1) y1 y2
theorem lt258_35 {sc : Nat × (Nat → Int32)} {N d : Nat} {S0 S : am_S} {s : kS} {y1 : Int32} {y2 : Int32} (hS : MK S0 S s) : am_L (am_PP sc) N d 258 35 [some (.ref 39), some (.int y1), some (.int y2)] [] S (fun o S1 => o = some none ∧ MK S0 S1 (k258_35 s y1 y2).1) := by
  refine l2 (v := 39) hi_258_35 rfl ?_
  refine l1 (v := y1) hi_258_36 rfl ?_
  refine l1 (v := y2) hi_258_37 rfl ?_
  refine l10 hi_258_38 ?_
  show am_L _ _ _ _ _ [some (.ref 39), some (.int y1), some (.int y2)] [.int (y1 - y2), .ref 39] _ _
  refine l32 (as := [.ref 39, .int (y1 - y2)]) (la := [some (.ref 39), some (.int (y1 - y2)), none]) (rest := []) hi_258_39 (am_hd0 (M := 258) (by decide) 39) rfl rfl rfl (fun N' d' _ => lt240 (N := N') (d := d') hS) ?_ (fun _ q => nomatch q.1)
  rintro v3 S1 ⟨ev3, h2⟩
  cases ev3
  show am_L _ _ _ _ _ [some (.ref 39), some (.int y1), some (.int y2)] [] _ _
  refine am_L.mono (lt258_42 h2) ?_
  rintro o S1 ⟨e, h⟩
  have q : k258_35 s y1 y2 = k258_42 ((k240 s (y1 - y2)).1) y1 y2 := rfl
  rw [q]; exact ⟨e, h⟩
noncomputable def k258_31 (s : kS) (y1 : Int32) (y2 : Int32) : kS × Int32 := k258_35 ((k209 s).1) y1 y2
theorem lt258_31 {sc : Nat × (Nat → Int32)} {N d : Nat} {S0 S : am_S} {s : kS} {y1 : Int32} {y2 : Int32} (hS : MK S0 S s) : am_L (am_PP sc) N d 258 31 [some (.ref 39), some (.int y1), some (.int y2)] [] S (fun o S1 => o = some none ∧ MK S0 S1 (k258_31 s y1 y2).1) := by
  refine l2 (v := 39) hi_258_31 rfl ?_
  refine l32 (as := [.ref 39]) (la := [some (.ref 39)]) (rest := []) hi_258_32 (am_hd0 (M := 258) (by decide) 32) rfl rfl rfl (fun N' d' _ => lt209 (N := N') (d := d') hS) ?_ (fun _ q => nomatch q.1)
  rintro v3 S1 ⟨ev3, h2⟩
  cases ev3
  show am_L _ _ _ _ _ [some (.ref 39), some (.int y1), some (.int y2)] [] _ _
  refine am_L.mono (lt258_35 h2) ?_
  rintro o S1 ⟨e, h⟩
  have q : k258_31 s y1 y2 = k258_35 ((k209 s).1) y1 y2 := rfl
  rw [q]; exact ⟨e, h⟩
noncomputable def k258_16 (s : kS) (y1 : Int32) (y2 : Int32) : kS × Int32 := ((k189 s 25 ((y1 - y2) + 1) 0 0).1, 0)
theorem lt258_16 {sc : Nat × (Nat → Int32)} {N d : Nat} {S0 S : am_S} {s : kS} {y1 : Int32} {y2 : Int32} (hS : MK S0 S s) : am_L (am_PP sc) N d 258 16 [some (.ref 39), some (.int y1), some (.int y2)] [] S (fun o S1 => o = some none ∧ MK S0 S1 (k258_16 s y1 y2).1) := by
  refine l2 (v := 39) hi_258_16 rfl ?_
  refine l0 hi_258_17 ?_
  refine l1 (v := y1) hi_258_19 rfl ?_
  refine l1 (v := y2) hi_258_20 rfl ?_
  refine l10 hi_258_21 ?_
  show am_L _ _ _ _ _ [some (.ref 39), some (.int y1), some (.int y2)] [.int (y1 - y2), .int 25, .ref 39] _ _
  refine l0 hi_258_22 ?_
  refine l10 hi_258_23 ?_
  show am_L _ _ _ _ _ [some (.ref 39), some (.int y1), some (.int y2)] [.int ((y1 - y2) + 1), .int 25, .ref 39] _ _
  refine l0 hi_258_24 ?_
  refine l0 hi_258_25 ?_
  refine l32 (as := [.ref 39, .int 25, .int ((y1 - y2) + 1), .int 0, .int 0]) (la := [some (.ref 39), some (.int 25), some (.int ((y1 - y2) + 1)), some (.int 0), some (.int 0)]) (rest := []) hi_258_26 (am_hd0 (M := 258) (by decide) 26) rfl rfl rfl (fun N' d' _ => lt189 (N := N') (d := d') hS) ?_ (fun _ q => nomatch q.1)
  rintro v3 S1 ⟨ev3, h2⟩
  cases ev3
  show am_L _ _ _ _ _ [some (.ref 39), some (.int y1), some (.int y2)] [.int ((k189 s 25 ((y1 - y2) + 1) 0 0).2)] _ _
  refine l6i hi_258_29 ?_
  refine l35 hi_258_30 ⟨rfl, ?_⟩
  exact h2
/-- adjust(II)V -/
noncomputable def k258 (s : kS) (x1 : Int32) (x2 : Int32) : kS × Int32 := if (k216 s) = 0 then k258_31 s x1 x2 else if x1 < x2 then k258_31 s x1 x2 else k258_16 ((k217 s).1) x1 x2
theorem lt258 {sc : Nat × (Nat → Int32)} {N d : Nat} {S0 S : am_S} {s : kS} {x1 : Int32} {x2 : Int32} (hS : MK S0 S s) : am_L (am_PP sc) N d 258 0 [some (.ref 39), some (.int x1), some (.int x2)] [] S (fun o S1 => o = some none ∧ MK S0 S1 (k258 s x1 x2).1) := by
  refine l2 (v := 39) hi_258_0 rfl ?_
  refine l32 (as := [.ref 39]) (la := [some (.ref 39)]) (rest := []) hi_258_1 (am_hd0 (M := 258) (by decide) 1) rfl rfl rfl (fun N' d' _ => lt216 (N := N') (d := d') hS) ?_ (fun _ q => nomatch q.1)
  rintro v3 S1 ⟨ev3, h2⟩
  cases ev3
  show am_L _ _ _ _ _ [some (.ref 39), some (.int x1), some (.int x2)] [.int (k216 s)] _ _
  by_cases c4 : (k216 s) = 0
  · refine l12t hi_258_4 (decide_eq_true c4) ?_
    refine am_L.mono (lt258_31 h2) ?_
    rintro o S1 ⟨e, h⟩
    have q : k258 s x1 x2 = k258_31 s x1 x2 := by unfold k258; rw [if_pos c4]
    rw [q]; exact ⟨e, h⟩
  · refine l12f hi_258_4 (decide_eq_false c4) ?_
    refine l1 (v := x2) hi_258_7 rfl ?_
    refine l1 (v := x1) hi_258_8 rfl ?_
    by_cases c5 : x1 < x2
    · refine l13t hi_258_9 (decide_eq_true c5) ?_
      refine am_L.mono (lt258_31 h2) ?_
      rintro o S1 ⟨e, h⟩
      have q : k258 s x1 x2 = k258_31 s x1 x2 := by unfold k258; rw [if_neg c4]; rw [if_pos c5]
      rw [q]; exact ⟨e, h⟩
    · refine l13f hi_258_9 (decide_eq_false c5) ?_
      refine l2 (v := 39) hi_258_12 rfl ?_
      refine l32 (as := [.ref 39]) (la := [some (.ref 39), none]) (rest := []) hi_258_13 (am_hd0 (M := 258) (by decide) 13) rfl rfl rfl (fun N' d' _ => lt217 (N := N') (d := d') h2) ?_ (fun _ q => nomatch q.1)
      rintro v8 S6 ⟨ev8, h7⟩
      cases ev8
      show am_L _ _ _ _ _ [some (.ref 39), some (.int x1), some (.int x2)] [] _ _
      refine am_L.mono (lt258_16 h7) ?_
      rintro o S1 ⟨e, h⟩
      have q : k258 s x1 x2 = k258_16 ((k217 s).1) x1 x2 := by unfold k258; rw [if_neg c4]; rw [if_neg c5]
      rw [q]; exact ⟨e, h⟩
def k257b90 (y1 : Int32) (y2 : Int32) (y4 : Int32) (y5 : Int32) (y6 : Int32) (t : kS × Int32) : Nat × (kS × Int32) := if y2 ≤ t.2 then (1, (t.1, t.2)) else (0, ((k196 t.1 (kr t.1 2 ((y1 + 1) + (2 * t.2))) 0 0 ((y1 + 1) + (2 * t.2))).1, t.2 + 1))
theorem lb257_90 {sc : Nat × (Nat → Int32)} {d : Nat} {S0 : am_S} {y1 : Int32} {y2 : Int32} {y4 : Int32} {y5 : Int32} {y6 : Int32} {Q : Option (Option Value) → am_S → Prop} : ∀ (N : Nat) (S : am_S) (o3 : Option Value) (t : kS × Int32), MK S0 S t.1 → (∀ m S1 (p3 : Option Value), (kwh (k257b90 y1 y2 y4 y5 y6) m t).1 = 1 → MK S0 S1 (kwh (k257b90 y1 y2 y4 y5 y6) m t).2.1 → am_L (am_PP sc) N d 257 129 [some (.ref 39), some (.int y1), some (.int y2), p3, some (.int y4), some (.int y5), some (.int y6), some (.int ((kwh (k257b90 y1 y2 y4 y5 y6) m t).2.2))] [] S1 Q) → am_L (am_PP sc) N d 257 90 [some (.ref 39), some (.int y1), some (.int y2), o3, some (.int y4), some (.int y5), some (.int y6), some (.int t.2)] [] S Q := by
  intro N
  induction N with
  | zero => intros; exact l_zero
  | succ N ih =>
    intro S o3 t hS kx129
    refine l1d (v := t.2) hi_257_90 rfl ?_
    refine l1 (v := y2) hi_257_92 rfl ?_
    by_cases c1 : y2 ≤ t.2
    · refine l13t hi_257_93 (decide_eq_true c1) ?_
      have e0 : (k257b90 y1 y2 y4 y5 y6) t = (1, (t.1, t.2)) := by unfold k257b90; rw [if_pos c1]
      have e1 : kwh (k257b90 y1 y2 y4 y5 y6) 1 t = (1, (t.1, t.2)) := by rw [kwh_out (by rw [e0]; exact Nat.succ_ne_zero _), e0]
      have q := kx129 1 _ o3 (by rw [e1]) (by rw [e1]; exact hS)
      try rw [e1] at q
      exact q.less (Nat.le_succ N)
    · refine l13f hi_257_93 (decide_eq_false c1) ?_
      refine l2 (v := 39) hi_257_96 rfl ?_
      refine l2 (v := 39) hi_257_97 rfl ?_
      refine l20 (v := .ref 41) hS hi_257_98 rfl ?_
      refine l1 (v := y1) hi_257_101 rfl ?_
      refine l0 hi_257_102 ?_
      refine l10 hi_257_103 ?_
      show am_L _ _ _ _ _ [some (.ref 39), some (.int y1), some (.int y2), o3, some (.int y4), some (.int y5), some (.int y6), some (.int t.2)] [.int (y1 + 1), .ref 41, .ref 39] _ _
      refine l0 hi_257_104 ?_
      refine l1 (v := t.2) hi_257_105 rfl ?_
      refine l10 hi_257_107 ?_
      show am_L _ _ _ _ _ [some (.ref 39), some (.int y1), some (.int y2), o3, some (.int y4), some (.int y5), some (.int y6), some (.int t.2)] [.int (2 * t.2), .int (y1 + 1), .ref 41, .ref 39] _ _
      refine l10 hi_257_108 ?_
      show am_L _ _ _ _ _ [some (.ref 39), some (.int y1), some (.int y2), o3, some (.int y4), some (.int y5), some (.int y6), some (.int t.2)] [.int ((y1 + 1) + (2 * t.2)), .ref 41, .ref 39] _ _
      refine l25 hS ma_2 hi_257_109 fun g2 g3 => ?_
      show am_L _ _ _ _ _ [some (.ref 39), some (.int y1), some (.int y2), o3, some (.int y4), some (.int y5), some (.int y6), some (.int t.2)] [.int (kr t.1 2 ((y1 + 1) + (2 * t.2))), .ref 39] _ _
      refine l0 hi_257_110 ?_
      refine l0 hi_257_111 ?_
      refine l1 (v := y1) hi_257_112 rfl ?_
      refine l0 hi_257_113 ?_
      refine l10 hi_257_114 ?_
      show am_L _ _ _ _ _ [some (.ref 39), some (.int y1), some (.int y2), o3, some (.int y4), some (.int y5), some (.int y6), some (.int t.2)] [.int (y1 + 1), .int 0, .int 0, .int (kr t.1 2 ((y1 + 1) + (2 * t.2))), .ref 39] _ _
      refine l0 hi_257_115 ?_
      refine l1 (v := t.2) hi_257_116 rfl ?_
      refine l10 hi_257_118 ?_
      show am_L _ _ _ _ _ [some (.ref 39), some (.int y1), some (.int y2), o3, some (.int y4), some (.int y5), some (.int y6), some (.int t.2)] [.int (2 * t.2), .int (y1 + 1), .int 0, .int 0, .int (kr t.1 2 ((y1 + 1) + (2 * t.2))), .ref 39] _ _
      refine l10 hi_257_119 ?_
      show am_L _ _ _ _ _ [some (.ref 39), some (.int y1), some (.int y2), o3, some (.int y4), some (.int y5), some (.int y6), some (.int t.2)] [.int ((y1 + 1) + (2 * t.2)), .int 0, .int 0, .int (kr t.1 2 ((y1 + 1) + (2 * t.2))), .ref 39] _ _
      refine l32 (as := [.ref 39, .int (kr t.1 2 ((y1 + 1) + (2 * t.2))), .int 0, .int 0, .int ((y1 + 1) + (2 * t.2))]) (la := [some (.ref 39), some (.int (kr t.1 2 ((y1 + 1) + (2 * t.2)))), some (.int 0), some (.int 0), some (.int ((y1 + 1) + (2 * t.2))), none]) (rest := []) hi_257_120 (am_hd0 (M := 257) (by decide) 120) rfl rfl rfl (fun N' d' _ => lt196 (N := N') (d := d') hS) ?_ (fun _ q => nomatch q.1)
      rintro v6 S4 ⟨ev6, h5⟩
      cases ev6
      show am_L _ _ _ _ _ [some (.ref 39), some (.int y1), some (.int y2), o3, some (.int y4), some (.int y5), some (.int y6), some (.int t.2)] [] _ _
      refine l5 (v := t.2) (ls' := [some (.ref 39), some (.int y1), some (.int y2), o3, some (.int y4), some (.int y5), some (.int y6), some (.int (t.2 + 1))]) hi_257_123 rfl rfl ?_
      refine l18 hi_257_126 ?_
      have e0 : (k257b90 y1 y2 y4 y5 y6) t = (0, ((k196 t.1 (kr t.1 2 ((y1 + 1) + (2 * t.2))) 0 0 ((y1 + 1) + (2 * t.2))).1, t.2 + 1)) := by unfold k257b90; rw [if_neg c1]
      have e1 : ∀ m, kwh (k257b90 y1 y2 y4 y5 y6) (m + 1) t = kwh (k257b90 y1 y2 y4 y5 y6) m ((k196 t.1 (kr t.1 2 ((y1 + 1) + (2 * t.2))) 0 0 ((y1 + 1) + (2 * t.2))).1, t.2 + 1) := fun m => by rw [kwh_go (by rw [e0]), e0]
      exact ih _ o3 ((k196 t.1 (kr t.1 2 ((y1 + 1) + (2 * t.2))) 0 0 ((y1 + 1) + (2 * t.2))).1, t.2 + 1) h5 (fun m S1 p3 hm h1 => by have q := kx129 (m + 1) S1 p3 (by rw [e1]; exact hm) (by rw [e1]; exact h1); (try rw [e1] at q); exact q.less (Nat.le_succ N))
noncomputable def k257_87 (s : kS) (y1 : Int32) (y2 : Int32) (y4 : Int32) (y5 : Int32) (y6 : Int32) : kS × Int32 := ((k178 ((k179 ((kfin (k257b90 y1 y2 y4 y5 y6) (s, 0)).2.1) 15 y6 y5 y4).1)).1, 0)
theorem lt257_87 {sc : Nat × (Nat → Int32)} {N d : Nat} {S0 S : am_S} {s : kS} {y1 : Int32} {y2 : Int32} {y4 : Int32} {y5 : Int32} {y6 : Int32} {o3 : Option Value} {o7 : Option Value} (hS : MK S0 S s) : am_L (am_PP sc) N d 257 87 [some (.ref 39), some (.int y1), some (.int y2), o3, some (.int y4), some (.int y5), some (.int y6), o7] [] S (fun o S1 => o = some none ∧ MK S0 S1 (k257_87 s y1 y2 y4 y5 y6).1) := by
  refine l0 hi_257_87 ?_
  refine l3 (ls' := [some (.ref 39), some (.int y1), some (.int y2), o3, some (.int y4), some (.int y5), some (.int y6), some (.int 0)]) hi_257_88 (Nat.le_of_ble_eq_true rfl) rfl ?_
  refine lb257_90 N _ o3 (s, 0) hS ?_
  · intro m1 S2 p6 hm3 h4
    have hf5 : kfin (k257b90 y1 y2 y4 y5 y6) (s, 0) = kwh (k257b90 y1 y2 y4 y5 y6) m1 (s, 0) := kfin_eq (by rw [hm3]; decide)
    rw [← hf5] at hm3 h4
    try rw [← hf5]
    refine l2 (v := 39) hi_257_129 rfl ?_
    refine l0 hi_257_130 ?_
    refine l1 (v := y6) hi_257_132 rfl ?_
    refine l1 (v := y5) hi_257_134 rfl ?_
    refine l1 (v := y4) hi_257_136 rfl ?_
    refine l32 (as := [.ref 39, .int 15, .int y6, .int y5, .int y4]) (la := [some (.ref 39), some (.int 15), some (.int y6), some (.int y5), some (.int y4)]) (rest := []) hi_257_138 (am_hd0 (M := 257) (by decide) 138) rfl rfl rfl (fun N' d' _ => lt179 (N := N') (d := d') h4) ?_ (fun _ q => nomatch q.1)
    rintro v9 S7 ⟨ev9, h8⟩
    cases ev9
    show am_L _ _ _ _ _ [some (.ref 39), some (.int y1), some (.int y2), p6, some (.int y4), some (.int y5), some (.int y6), some (.int ((kfin (k257b90 y1 y2 y4 y5 y6) (s, 0)).2.2))] [] _ _
    refine l2 (v := 39) hi_257_141 rfl ?_
    refine l32 (as := [.ref 39]) (la := [some (.ref 39)]) (rest := []) hi_257_142 (am_hd0 (M := 257) (by decide) 142) rfl rfl rfl (fun N' d' _ => lt178 (N := N') (d := d') h8) ?_ (fun _ q => nomatch q.1)
    rintro v12 S10 ⟨ev12, h11⟩
    cases ev12
    show am_L _ _ _ _ _ [some (.ref 39), some (.int y1), some (.int y2), p6, some (.int y4), some (.int y5), some (.int y6), some (.int ((kfin (k257b90 y1 y2 y4 y5 y6) (s, 0)).2.2))] [] _ _
    refine l35 hi_257_145 ⟨rfl, ?_⟩
    exact h11
noncomputable def k257_80 (s : kS) (y1 : Int32) (y2 : Int32) (y4 : Int32) (y5 : Int32) (z0 : Int32) : kS × Int32 := k257_87 ((k177 s 1).1) y1 y2 y4 y5 z0
theorem lt257_80 {sc : Nat × (Nat → Int32)} {N d : Nat} {S0 S : am_S} {s : kS} {y1 : Int32} {y2 : Int32} {y4 : Int32} {y5 : Int32} {z0 : Int32} {o3 : Option Value} {o6 : Option Value} {o7 : Option Value} (hS : MK S0 S s) : am_L (am_PP sc) N d 257 80 [some (.ref 39), some (.int y1), some (.int y2), o3, some (.int y4), some (.int y5), o6, o7] [.int z0] S (fun o S1 => o = some none ∧ MK S0 S1 (k257_80 s y1 y2 y4 y5 z0).1) := by
  refine l3 (ls' := [some (.ref 39), some (.int y1), some (.int y2), o3, some (.int y4), some (.int y5), some (.int z0), o7]) hi_257_80 (Nat.le_of_ble_eq_true rfl) rfl ?_
  refine l2 (v := 39) hi_257_82 rfl ?_
  refine l0 hi_257_83 ?_
  refine l32 (as := [.ref 39, .int 1]) (la := [some (.ref 39), some (.int 1)]) (rest := []) hi_257_84 (am_hd0 (M := 257) (by decide) 84) rfl rfl rfl (fun N' d' _ => lt177 (N := N') (d := d') hS) ?_ (fun _ q => nomatch q.1)
  rintro v3 S1 ⟨ev3, h2⟩
  cases ev3
  show am_L _ _ _ _ _ [some (.ref 39), some (.int y1), some (.int y2), o3, some (.int y4), some (.int y5), some (.int z0), o7] [] _ _
  refine am_L.mono (lt257_87 h2) ?_
  rintro o S1 ⟨e, h⟩
  have q : k257_80 s y1 y2 y4 y5 z0 = k257_87 ((k177 s 1).1) y1 y2 y4 y5 z0 := rfl
  rw [q]; exact ⟨e, h⟩
noncomputable def k257_69 (s : kS) (y1 : Int32) (y2 : Int32) (y4 : Int32) (y5 : Int32) (z0 : Int32) : kS × Int32 := k257_80 ((k189 s 44 y4 0 0).1) y1 y2 y4 y5 ((k189 s 44 y4 0 0).2)
theorem lt257_69 {sc : Nat × (Nat → Int32)} {N d : Nat} {S0 S : am_S} {s : kS} {y1 : Int32} {y2 : Int32} {y4 : Int32} {y5 : Int32} {z0 : Int32} {o3 : Option Value} {o6 : Option Value} {o7 : Option Value} (hS : MK S0 S s) : am_L (am_PP sc) N d 257 69 [some (.ref 39), some (.int y1), some (.int y2), o3, some (.int y4), some (.int y5), o6, o7] [.int z0] S (fun o S1 => o = some none ∧ MK S0 S1 (k257_69 s y1 y2 y4 y5 z0).1) := by
  refine l6i hi_257_69 ?_
  refine l2 (v := 39) hi_257_70 rfl ?_
  refine l0 hi_257_71 ?_
  refine l1 (v := y4) hi_257_73 rfl ?_
  refine l0 hi_257_75 ?_
  refine l0 hi_257_76 ?_
  refine l32 (as := [.ref 39, .int 44, .int y4, .int 0, .int 0]) (la := [some (.ref 39), some (.int 44), some (.int y4), some (.int 0), some (.int 0)]) (rest := []) hi_257_77 (am_hd0 (M := 257) (by decide) 77) rfl rfl rfl (fun N' d' _ => lt189 (N := N') (d := d') hS) ?_ (fun _ q => nomatch q.1)
  rintro v3 S1 ⟨ev3, h2⟩
  cases ev3
  show am_L _ _ _ _ _ [some (.ref 39), some (.int y1), some (.int y2), o3, some (.int y4), some (.int y5), o6, o7] [.int ((k189 s 44 y4 0 0).2)] _ _
  refine am_L.mono (lt257_80 h2) ?_
  rintro o S1 ⟨e, h⟩
  have q : k257_69 s y1 y2 y4 y5 z0 = k257_80 ((k189 s 44 y4 0 0).1) y1 y2 y4 y5 ((k189 s 44 y4 0 0).2) := rfl
  rw [q]; exact ⟨e, h⟩
noncomputable def k257_58 (s : kS) (y1 : Int32) (y2 : Int32) (y3 : Int32) (y4 : Int32) (y5 : Int32) (z0 : Int32) : kS × Int32 := k257_69 ((k189 s 43 y4 y2 y3).1) y1 y2 y4 y5 ((k189 s 43 y4 y2 y3).2)
theorem lt257_58 {sc : Nat × (Nat → Int32)} {N d : Nat} {S0 S : am_S} {s : kS} {y1 : Int32} {y2 : Int32} {y3 : Int32} {y4 : Int32} {y5 : Int32} {z0 : Int32} {o6 : Option Value} {o7 : Option Value} (hS : MK S0 S s) : am_L (am_PP sc) N d 257 58 [some (.ref 39), some (.int y1), some (.int y2), some (.int y3), some (.int y4), some (.int y5), o6, o7] [.int z0] S (fun o S1 => o = some none ∧ MK S0 S1 (k257_58 s y1 y2 y3 y4 y5 z0).1) := by
  refine l6i hi_257_58 ?_
  refine l2 (v := 39) hi_257_59 rfl ?_
  refine l0 hi_257_60 ?_
  refine l1 (v := y4) hi_257_62 rfl ?_
  refine l1 (v := y2) hi_257_64 rfl ?_
  refine l1 (v := y3) hi_257_65 rfl ?_
  refine l32 (as := [.ref 39, .int 43, .int y4, .int y2, .int y3]) (la := [some (.ref 39), some (.int 43), some (.int y4), some (.int y2), some (.int y3)]) (rest := []) hi_257_66 (am_hd0 (M := 257) (by decide) 66) rfl rfl rfl (fun N' d' _ => lt189 (N := N') (d := d') hS) ?_ (fun _ q => nomatch q.1)
  rintro v3 S1 ⟨ev3, h2⟩
  cases ev3
  show am_L _ _ _ _ _ [some (.ref 39), some (.int y1), some (.int y2), some (.int y3), some (.int y4), some (.int y5), o6, o7] [.int ((k189 s 43 y4 y2 y3).2)] _ _
  refine am_L.mono (lt257_69 h2) ?_
  rintro o S1 ⟨e, h⟩
  have q : k257_58 s y1 y2 y3 y4 y5 z0 = k257_69 ((k189 s 43 y4 y2 y3).1) y1 y2 y4 y5 ((k189 s 43 y4 y2 y3).2) := rfl
  rw [q]; exact ⟨e, h⟩
noncomputable def k257_42 (s : kS) (y1 : Int32) (y2 : Int32) (y3 : Int32) (y4 : Int32) (z0 : Int32) : kS × Int32 := k257_58 ((k189 s 34 0 0 y1).1) y1 y2 y3 y4 (k210 s) ((k189 s 34 0 0 y1).2)
theorem lt257_42 {sc : Nat × (Nat → Int32)} {N d : Nat} {S0 S : am_S} {s : kS} {y1 : Int32} {y2 : Int32} {y3 : Int32} {y4 : Int32} {z0 : Int32} {o5 : Option Value} {o6 : Option Value} {o7 : Option Value} (hS : MK S0 S s) : am_L (am_PP sc) N d 257 42 [some (.ref 39), some (.int y1), some (.int y2), some (.int y3), some (.int y4), o5, o6, o7] [.int z0] S (fun o S1 => o = some none ∧ MK S0 S1 (k257_42 s y1 y2 y3 y4 z0).1) := by
  refine l6i hi_257_42 ?_
  refine l2 (v := 39) hi_257_43 rfl ?_
  refine l32 (as := [.ref 39]) (la := [some (.ref 39)]) (rest := []) hi_257_44 (am_hd0 (M := 257) (by decide) 44) rfl rfl rfl (fun N' d' _ => lt210 (N := N') (d := d') hS) ?_ (fun _ q => nomatch q.1)
  rintro v3 S1 ⟨ev3, h2⟩
  cases ev3
  show am_L _ _ _ _ _ [some (.ref 39), some (.int y1), some (.int y2), some (.int y3), some (.int y4), o5, o6, o7] [.int (k210 s)] _ _
  refine l3 (ls' := [some (.ref 39), some (.int y1), some (.int y2), some (.int y3), some (.int y4), some (.int (k210 s)), o6, o7]) hi_257_47 (Nat.le_of_ble_eq_true rfl) rfl ?_
  refine l2 (v := 39) hi_257_49 rfl ?_
  refine l0 hi_257_50 ?_
  refine l0 hi_257_52 ?_
  refine l0 hi_257_53 ?_
  refine l1 (v := y1) hi_257_54 rfl ?_
  refine l32 (as := [.ref 39, .int 34, .int 0, .int 0, .int y1]) (la := [some (.ref 39), some (.int 34), some (.int 0), some (.int 0), some (.int y1)]) (rest := []) hi_257_55 (am_hd0 (M := 257) (by decide) 55) rfl rfl rfl (fun N' d' _ => lt189 (N := N') (d := d') h2) ?_ (fun _ q => nomatch q.1)
  rintro v6 S4 ⟨ev6, h5⟩
  cases ev6
  show am_L _ _ _ _ _ [some (.ref 39), some (.int y1), some (.int y2), some (.int y3), some (.int y4), some (.int (k210 s)), o6, o7] [.int ((k189 s 34 0 0 y1).2)] _ _
  refine am_L.mono (lt257_58 h5) ?_
  rintro o S1 ⟨e, h⟩
  have q : k257_42 s y1 y2 y3 y4 z0 = k257_58 ((k189 s 34 0 0 y1).1) y1 y2 y3 y4 (k210 s) ((k189 s 34 0 0 y1).2) := rfl
  rw [q]; exact ⟨e, h⟩
noncomputable def k257_32 (s : kS) (y1 : Int32) (y2 : Int32) (y3 : Int32) (y4 : Int32) : kS × Int32 := k257_42 ((k189 s 42 y4 0 y1).1) y1 y2 y3 y4 ((k189 s 42 y4 0 y1).2)
theorem lt257_32 {sc : Nat × (Nat → Int32)} {N d : Nat} {S0 S : am_S} {s : kS} {y1 : Int32} {y2 : Int32} {y3 : Int32} {y4 : Int32} {o5 : Option Value} {o6 : Option Value} {o7 : Option Value} (hS : MK S0 S s) : am_L (am_PP sc) N d 257 32 [some (.ref 39), some (.int y1), some (.int y2), some (.int y3), some (.int y4), o5, o6, o7] [] S (fun o S1 => o = some none ∧ MK S0 S1 (k257_32 s y1 y2 y3 y4).1) := by
  refine l2 (v := 39) hi_257_32 rfl ?_
  refine l0 hi_257_33 ?_
  refine l1 (v := y4) hi_257_35 rfl ?_
  refine l0 hi_257_37 ?_
  refine l1 (v := y1) hi_257_38 rfl ?_
  refine l32 (as := [.ref 39, .int 42, .int y4, .int 0, .int y1]) (la := [some (.ref 39), some (.int 42), some (.int y4), some (.int 0), some (.int y1)]) (rest := []) hi_257_39 (am_hd0 (M := 257) (by decide) 39) rfl rfl rfl (fun N' d' _ => lt189 (N := N') (d := d') hS) ?_ (fun _ q => nomatch q.1)
  rintro v3 S1 ⟨ev3, h2⟩
  cases ev3
  show am_L _ _ _ _ _ [some (.ref 39), some (.int y1), some (.int y2), some (.int y3), some (.int y4), o5, o6, o7] [.int ((k189 s 42 y4 0 y1).2)] _ _
  refine am_L.mono (lt257_42 h2) ?_
  rintro o S1 ⟨e, h⟩
  have q : k257_32 s y1 y2 y3 y4 = k257_42 ((k189 s 42 y4 0 y1).1) y1 y2 y3 y4 ((k189 s 42 y4 0 y1).2) := rfl
  rw [q]; exact ⟨e, h⟩
noncomputable def k257_15 (s : kS) (y1 : Int32) (y2 : Int32) (y3 : Int32) (z0 : Int32) : kS × Int32 := if z0 ≠ 0 then k257_32 ((k254 s 4 1 y1).1) y1 y2 y3 (k197 s) else (s, 0)
theorem lt257_15 {sc : Nat × (Nat → Int32)} {N d : Nat} {S0 S : am_S} {s : kS} {y1 : Int32} {y2 : Int32} {y3 : Int32} {z0 : Int32} {o4 : Option Value} {o5 : Option Value} {o6 : Option Value} {o7 : Option Value} (hS : MK S0 S s) : am_L (am_PP sc) N d 257 15 [some (.ref 39), some (.int y1), some (.int y2), some (.int y3), o4, o5, o6, o7] [.int z0] S (fun o S1 => o = some none ∧ MK S0 S1 (k257_15 s y1 y2 y3 z0).1) := by
  by_cases c1 : z0 ≠ 0
  · refine l12t hi_257_15 (decide_eq_true c1) ?_
    refine l2 (v := 39) hi_257_19 rfl ?_
    refine l32 (as := [.ref 39]) (la := [some (.ref 39)]) (rest := []) hi_257_20 (am_hd0 (M := 257) (by decide) 20) rfl rfl rfl (fun N' d' _ => lt197 (N := N') (d := d') hS) ?_ (fun _ q => nomatch q.1)
    rintro v4 S2 ⟨ev4, h3⟩
    cases ev4
    show am_L _ _ _ _ _ [some (.ref 39), some (.int y1), some (.int y2), some (.int y3), o4, o5, o6, o7] [.int (k197 s)] _ _
    refine l3 (ls' := [some (.ref 39), some (.int y1), some (.int y2), some (.int y3), some (.int (k197 s)), o5, o6, o7]) hi_257_23 (Nat.le_of_ble_eq_true rfl) rfl ?_
    refine l2 (v := 39) hi_257_25 rfl ?_
    refine l0 hi_257_26 ?_
    refine l0 hi_257_27 ?_
    refine l1 (v := y1) hi_257_28 rfl ?_
    refine l32 (as := [.ref 39, .int 4, .int 1, .int y1]) (la := [some (.ref 39), some (.int 4), some (.int 1), some (.int y1), none]) (rest := []) hi_257_29 (am_hd0 (M := 257) (by decide) 29) rfl rfl rfl (fun N' d' _ => lt254 (N := N') (d := d') h3) ?_ (fun _ q => nomatch q.1)
    rintro v7 S5 ⟨ev7, h6⟩
    cases ev7
    show am_L _ _ _ _ _ [some (.ref 39), some (.int y1), some (.int y2), some (.int y3), some (.int (k197 s)), o5, o6, o7] [] _ _
    refine am_L.mono (lt257_32 h6) ?_
    rintro o S1 ⟨e, h⟩
    have q : k257_15 s y1 y2 y3 z0 = k257_32 ((k254 s 4 1 y1).1) y1 y2 y3 (k197 s) := by unfold k257_15; rw [if_pos c1]
    rw [q]; exact ⟨e, h⟩
  · refine l12f hi_257_15 (decide_eq_false c1) ?_
    refine l35 hi_257_18 ⟨rfl, ?_⟩
    unfold k257_15; rw [if_neg c1]; exact hS
noncomputable def k257_9 (s : kS) (y1 : Int32) (y2 : Int32) (y3 : Int32) : kS × Int32 := k257_15 ((k193 s 12).1) y1 y2 y3 ((k193 s 12).2)
theorem lt257_9 {sc : Nat × (Nat → Int32)} {N d : Nat} {S0 S : am_S} {s : kS} {y1 : Int32} {y2 : Int32} {y3 : Int32} {o4 : Option Value} {o5 : Option Value} {o6 : Option Value} {o7 : Option Value} (hS : MK S0 S s) : am_L (am_PP sc) N d 257 9 [some (.ref 39), some (.int y1), some (.int y2), some (.int y3), o4, o5, o6, o7] [] S (fun o S1 => o = some none ∧ MK S0 S1 (k257_9 s y1 y2 y3).1) := by
  refine l2 (v := 39) hi_257_9 rfl ?_
  refine l0 hi_257_10 ?_
  refine l32 (as := [.ref 39, .int 12]) (la := [some (.ref 39), some (.int 12)]) (rest := []) hi_257_12 (am_hd0 (M := 257) (by decide) 12) rfl rfl rfl (fun N' d' _ => lt193 (N := N') (d := d') hS) ?_ (fun _ q => nomatch q.1)
  rintro v3 S1 ⟨ev3, h2⟩
  cases ev3
  show am_L _ _ _ _ _ [some (.ref 39), some (.int y1), some (.int y2), some (.int y3), o4, o5, o6, o7] [.int ((k193 s 12).2)] _ _
  refine am_L.mono (lt257_15 h2) ?_
  rintro o S1 ⟨e, h⟩
  have q : k257_9 s y1 y2 y3 = k257_15 ((k193 s 12).1) y1 y2 y3 ((k193 s 12).2) := rfl
  rw [q]; exact ⟨e, h⟩
/-- each(III)V -/
noncomputable def k257 (s : kS) (x1 : Int32) (x2 : Int32) (x3 : Int32) : kS × Int32 := k257_9 ((k258 s 4 (s.1 19)).1) x1 x2 x3
theorem lt257 {sc : Nat × (Nat → Int32)} {N d : Nat} {S0 S : am_S} {s : kS} {x1 : Int32} {x2 : Int32} {x3 : Int32} (hS : MK S0 S s) : am_L (am_PP sc) N d 257 0 [some (.ref 39), some (.int x1), some (.int x2), some (.int x3), none, none, none, none] [] S (fun o S1 => o = some none ∧ MK S0 S1 (k257 s x1 x2 x3).1) := by
  refine l2 (v := 39) hi_257_0 rfl ?_
  refine l0 hi_257_1 ?_
  refine l2 (v := 39) hi_257_2 rfl ?_
  refine l20 (v := .int (s.1 19)) hS hi_257_3 rfl ?_
  refine l32 (as := [.ref 39, .int 4, .int (s.1 19)]) (la := [some (.ref 39), some (.int 4), some (.int (s.1 19))]) (rest := []) hi_257_6 (am_hd0 (M := 257) (by decide) 6) rfl rfl rfl (fun N' d' _ => lt258 (N := N') (d := d') hS) ?_ (fun _ q => nomatch q.1)
  rintro v3 S1 ⟨ev3, h2⟩
  cases ev3
  show am_L _ _ _ _ _ [some (.ref 39), some (.int x1), some (.int x2), some (.int x3), none, none, none, none] [] _ _
  refine am_L.mono (lt257_9 h2) ?_
  rintro o S1 ⟨e, h⟩
  have q : k257 s x1 x2 x3 = k257_9 ((k258 s 4 (s.1 19)).1) x1 x2 x3 := rfl
  rw [q]; exact ⟨e, h⟩
noncomputable def k259_67 (s : kS) : kS × Int32 := ((k199 s 15).1, 0)
theorem lt259_67 {sc : Nat × (Nat → Int32)} {N d : Nat} {S0 S : am_S} {s : kS} {o1 : Option Value} {o2 : Option Value} {o3 : Option Value} (hS : MK S0 S s) : am_L (am_PP sc) N d 259 67 [some (.ref 39), o1, o2, o3] [] S (fun o S1 => o = some none ∧ MK S0 S1 (k259_67 s).1) := by
  refine l2 (v := 39) hi_259_67 rfl ?_
  refine l0 hi_259_68 ?_
  refine l32 (as := [.ref 39, .int 15]) (la := [some (.ref 39), some (.int 15)]) (rest := []) hi_259_70 (am_hd0 (M := 259) (by decide) 70) rfl rfl rfl (fun N' d' _ => lt199 (N := N') (d := d') hS) ?_ (fun _ q => nomatch q.1)
  rintro v3 S1 ⟨ev3, h2⟩
  cases ev3
  show am_L _ _ _ _ _ [some (.ref 39), o1, o2, o3] [.int ((k199 s 15).2)] _ _
  refine l6i hi_259_73 ?_
  refine l35 hi_259_74 ⟨rfl, ?_⟩
  exact h2
noncomputable def k259_61 (s : kS) (y3 : Int32) (z0 : Int32) : kS × Int32 := k259_67 ((k256 s y3).1)
theorem lt259_61 {sc : Nat × (Nat → Int32)} {N d : Nat} {S0 S : am_S} {s : kS} {y3 : Int32} {z0 : Int32} {o1 : Option Value} {o2 : Option Value} (hS : MK S0 S s) : am_L (am_PP sc) N d 259 61 [some (.ref 39), o1, o2, some (.int y3)] [.int z0] S (fun o S1 => o = some none ∧ MK S0 S1 (k259_61 s y3 z0).1) := by
  refine l6i hi_259_61 ?_
  refine l2 (v := 39) hi_259_62 rfl ?_
  refine l1 (v := y3) hi_259_63 rfl ?_
  refine l32 (as := [.ref 39, .int y3]) (la := [some (.ref 39), some (.int y3), none]) (rest := []) hi_259_64 (am_hd0 (M := 259) (by decide) 64) rfl rfl rfl (fun N' d' _ => lt256 (N := N') (d := d') hS) ?_ (fun _ q => nomatch q.1)
  rintro v3 S1 ⟨ev3, h2⟩
  cases ev3
  show am_L _ _ _ _ _ [some (.ref 39), o1, o2, some (.int y3)] [] _ _
  refine am_L.mono (lt259_67 h2) ?_
  rintro o S1 ⟨e, h⟩
  have q : k259_61 s y3 z0 = k259_67 ((k256 s y3).1) := rfl
  rw [q]; exact ⟨e, h⟩
noncomputable def k259_52 (s : kS) (y3 : Int32) : kS × Int32 := k259_61 ((k189 s 41 y3 0 0).1) y3 ((k189 s 41 y3 0 0).2)
theorem lt259_52 {sc : Nat × (Nat → Int32)} {N d : Nat} {S0 S : am_S} {s : kS} {y3 : Int32} {o1 : Option Value} {o2 : Option Value} (hS : MK S0 S s) : am_L (am_PP sc) N d 259 52 [some (.ref 39), o1, o2, some (.int y3)] [] S (fun o S1 => o = some none ∧ MK S0 S1 (k259_52 s y3).1) := by
  refine l2 (v := 39) hi_259_52 rfl ?_
  refine l0 hi_259_53 ?_
  refine l1 (v := y3) hi_259_55 rfl ?_
  refine l0 hi_259_56 ?_
  refine l0 hi_259_57 ?_
  refine l32 (as := [.ref 39, .int 41, .int y3, .int 0, .int 0]) (la := [some (.ref 39), some (.int 41), some (.int y3), some (.int 0), some (.int 0)]) (rest := []) hi_259_58 (am_hd0 (M := 259) (by decide) 58) rfl rfl rfl (fun N' d' _ => lt189 (N := N') (d := d') hS) ?_ (fun _ q => nomatch q.1)
  rintro v3 S1 ⟨ev3, h2⟩
  cases ev3
  show am_L _ _ _ _ _ [some (.ref 39), o1, o2, some (.int y3)] [.int ((k189 s 41 y3 0 0).2)] _ _
  refine am_L.mono (lt259_61 h2) ?_
  rintro o S1 ⟨e, h⟩
  have q : k259_52 s y3 = k259_61 ((k189 s 41 y3 0 0).1) y3 ((k189 s 41 y3 0 0).2) := rfl
  rw [q]; exact ⟨e, h⟩
noncomputable def k259_47 (s : kS) (y3 : Int32) (z0 : Int32) : kS × Int32 := k259_52 ((k246 s).1) y3
theorem lt259_47 {sc : Nat × (Nat → Int32)} {N d : Nat} {S0 S : am_S} {s : kS} {y3 : Int32} {z0 : Int32} {o1 : Option Value} {o2 : Option Value} (hS : MK S0 S s) : am_L (am_PP sc) N d 259 47 [some (.ref 39), o1, o2, some (.int y3)] [.int z0] S (fun o S1 => o = some none ∧ MK S0 S1 (k259_47 s y3 z0).1) := by
  refine l6i hi_259_47 ?_
  refine l2 (v := 39) hi_259_48 rfl ?_
  refine l32 (as := [.ref 39]) (la := [some (.ref 39), none, none]) (rest := []) hi_259_49 (am_hd0 (M := 259) (by decide) 49) rfl rfl rfl (fun N' d' _ => lt246 (N := N') (d := d') hS) ?_ (fun _ q => nomatch q.1)
  rintro v3 S1 ⟨ev3, h2⟩
  cases ev3
  show am_L _ _ _ _ _ [some (.ref 39), o1, o2, some (.int y3)] [] _ _
  refine am_L.mono (lt259_52 h2) ?_
  rintro o S1 ⟨e, h⟩
  have q : k259_47 s y3 z0 = k259_52 ((k246 s).1) y3 := rfl
  rw [q]; exact ⟨e, h⟩
noncomputable def k259_25 (s : kS) (y1 : Int32) (y3 : Int32) (z0 : Int32) : kS × Int32 := k259_47 ((k189 (ka s 72 y1 (k210 s)) 33 (y3 + 4) 0 0).1) y3 ((k189 (ka s 72 y1 (k210 s)) 33 (y3 + 4) 0 0).2)
theorem lt259_25 {sc : Nat × (Nat → Int32)} {N d : Nat} {S0 S : am_S} {s : kS} {y1 : Int32} {y3 : Int32} {z0 : Int32} {o2 : Option Value} (hS : MK S0 S s) : am_L (am_PP sc) N d 259 25 [some (.ref 39), some (.int y1), o2, some (.int y3)] [.int z0] S (fun o S1 => o = some none ∧ MK S0 S1 (k259_25 s y1 y3 z0).1) := by
  refine l6i hi_259_25 ?_
  refine l2 (v := 39) hi_259_26 rfl ?_
  refine l20 (v := .ref 91) hS hi_259_27 rfl ?_
  refine l1 (v := y1) hi_259_30 rfl ?_
  refine l2 (v := 39) hi_259_31 rfl ?_
  refine l32 (as := [.ref 39]) (la := [some (.ref 39)]) (rest := [.int y1, .ref 91]) hi_259_32 (am_hd0 (M := 259) (by decide) 32) rfl rfl rfl (fun N' d' _ => lt210 (N := N') (d := d') hS) ?_ (fun _ q => nomatch q.1)
  rintro v3 S1 ⟨ev3, h2⟩
  cases ev3
  show am_L _ _ _ _ _ [some (.ref 39), some (.int y1), o2, some (.int y3)] [.int (k210 s), .int y1, .ref 91] _ _
  refine l26 h2 ma_72 hi_259_35 fun S6 h7 g4 g5 => ?_
  refine l2 (v := 39) hi_259_36 rfl ?_
  refine l0 hi_259_37 ?_
  refine l1 (v := y3) hi_259_39 rfl ?_
  refine l0 hi_259_40 ?_
  refine l10 hi_259_41 ?_
  show am_L _ _ _ _ _ [some (.ref 39), some (.int y1), o2, some (.int y3)] [.int (y3 + 4), .int 33, .ref 39] _ _
  refine l0 hi_259_42 ?_
  refine l0 hi_259_43 ?_
  refine l32 (as := [.ref 39, .int 33, .int (y3 + 4), .int 0, .int 0]) (la := [some (.ref 39), some (.int 33), some (.int (y3 + 4)), some (.int 0), some (.int 0)]) (rest := []) hi_259_44 (am_hd0 (M := 259) (by decide) 44) rfl rfl rfl (fun N' d' _ => lt189 (N := N') (d := d') h7) ?_ (fun _ q => nomatch q.1)
  rintro v10 S8 ⟨ev10, h9⟩
  cases ev10
  show am_L _ _ _ _ _ [some (.ref 39), some (.int y1), o2, some (.int y3)] [.int ((k189 (ka s 72 y1 (k210 s)) 33 (y3 + 4) 0 0).2)] _ _
  refine am_L.mono (lt259_47 h9) ?_
  rintro o S1 ⟨e, h⟩
  have q : k259_25 s y1 y3 z0 = k259_47 ((k189 (ka s 72 y1 (k210 s)) 33 (y3 + 4) 0 0).1) y3 ((k189 (ka s 72 y1 (k210 s)) 33 (y3 + 4) 0 0).2) := rfl
  rw [q]; exact ⟨e, h⟩
noncomputable def k259_16 (s : kS) (y1 : Int32) (y2 : Int32) (y3 : Int32) : kS × Int32 := k259_25 ((k189 s 36 y2 0 0).1) y1 y3 ((k189 s 36 y2 0 0).2)
theorem lt259_16 {sc : Nat × (Nat → Int32)} {N d : Nat} {S0 S : am_S} {s : kS} {y1 : Int32} {y2 : Int32} {y3 : Int32} (hS : MK S0 S s) : am_L (am_PP sc) N d 259 16 [some (.ref 39), some (.int y1), some (.int y2), some (.int y3)] [] S (fun o S1 => o = some none ∧ MK S0 S1 (k259_16 s y1 y2 y3).1) := by
  refine l2 (v := 39) hi_259_16 rfl ?_
  refine l0 hi_259_17 ?_
  refine l1 (v := y2) hi_259_19 rfl ?_
  refine l0 hi_259_20 ?_
  refine l0 hi_259_21 ?_
  refine l32 (as := [.ref 39, .int 36, .int y2, .int 0, .int 0]) (la := [some (.ref 39), some (.int 36), some (.int y2), some (.int 0), some (.int 0)]) (rest := []) hi_259_22 (am_hd0 (M := 259) (by decide) 22) rfl rfl rfl (fun N' d' _ => lt189 (N := N') (d := d') hS) ?_ (fun _ q => nomatch q.1)
  rintro v3 S1 ⟨ev3, h2⟩
  cases ev3
  show am_L _ _ _ _ _ [some (.ref 39), some (.int y1), some (.int y2), some (.int y3)] [.int ((k189 s 36 y2 0 0).2)] _ _
  refine am_L.mono (lt259_25 h2) ?_
  rintro o S1 ⟨e, h⟩
  have q : k259_16 s y1 y2 y3 = k259_25 ((k189 s 36 y2 0 0).1) y1 y3 ((k189 s 36 y2 0 0).2) := rfl
  rw [q]; exact ⟨e, h⟩
noncomputable def k259_11 (s : kS) (y1 : Int32) (y2 : Int32) (y3 : Int32) (z0 : Int32) : kS × Int32 := k259_16 ((k224 s).1) y1 y2 y3
theorem lt259_11 {sc : Nat × (Nat → Int32)} {N d : Nat} {S0 S : am_S} {s : kS} {y1 : Int32} {y2 : Int32} {y3 : Int32} {z0 : Int32} (hS : MK S0 S s) : am_L (am_PP sc) N d 259 11 [some (.ref 39), some (.int y1), some (.int y2), some (.int y3)] [.int z0] S (fun o S1 => o = some none ∧ MK S0 S1 (k259_11 s y1 y2 y3 z0).1) := by
  refine l6i hi_259_11 ?_
  refine l2 (v := 39) hi_259_12 rfl ?_
  refine l32 (as := [.ref 39]) (la := [some (.ref 39), none, none]) (rest := []) hi_259_13 (am_hd0 (M := 259) (by decide) 13) rfl rfl rfl (fun N' d' _ => lt224 (N := N') (d := d') hS) ?_ (fun _ q => nomatch q.1)
  rintro v3 S1 ⟨ev3, h2⟩
  cases ev3
  show am_L _ _ _ _ _ [some (.ref 39), some (.int y1), some (.int y2), some (.int y3)] [] _ _
  refine am_L.mono (lt259_16 h2) ?_
  rintro o S1 ⟨e, h⟩
  have q : k259_11 s y1 y2 y3 z0 = k259_16 ((k224 s).1) y1 y2 y3 := rfl
  rw [q]; exact ⟨e, h⟩
/-- eachEnd(III)V -/
noncomputable def k259 (s : kS) (x1 : Int32) (x2 : Int32) (x3 : Int32) : kS × Int32 := k259_11 ((k189 s 33 (x3 + 4) 0 0).1) x1 x2 x3 ((k189 s 33 (x3 + 4) 0 0).2)
theorem lt259 {sc : Nat × (Nat → Int32)} {N d : Nat} {S0 S : am_S} {s : kS} {x1 : Int32} {x2 : Int32} {x3 : Int32} (hS : MK S0 S s) : am_L (am_PP sc) N d 259 0 [some (.ref 39), some (.int x1), some (.int x2), some (.int x3)] [] S (fun o S1 => o = some none ∧ MK S0 S1 (k259 s x1 x2 x3).1) := by
  refine l2 (v := 39) hi_259_0 rfl ?_
  refine l0 hi_259_1 ?_
  refine l1 (v := x3) hi_259_3 rfl ?_
  refine l0 hi_259_4 ?_
  refine l10 hi_259_5 ?_
  show am_L _ _ _ _ _ [some (.ref 39), some (.int x1), some (.int x2), some (.int x3)] [.int (x3 + 4), .int 33, .ref 39] _ _
  refine l0 hi_259_6 ?_
  refine l0 hi_259_7 ?_
  refine l32 (as := [.ref 39, .int 33, .int (x3 + 4), .int 0, .int 0]) (la := [some (.ref 39), some (.int 33), some (.int (x3 + 4)), some (.int 0), some (.int 0)]) (rest := []) hi_259_8 (am_hd0 (M := 259) (by decide) 8) rfl rfl rfl (fun N' d' _ => lt189 (N := N') (d := d') hS) ?_ (fun _ q => nomatch q.1)
  rintro v3 S1 ⟨ev3, h2⟩
  cases ev3
  show am_L _ _ _ _ _ [some (.ref 39), some (.int x1), some (.int x2), some (.int x3)] [.int ((k189 s 33 (x3 + 4) 0 0).2)] _ _
  refine am_L.mono (lt259_11 h2) ?_
  rintro o S1 ⟨e, h⟩
  have q : k259 s x1 x2 x3 = k259_11 ((k189 s 33 (x3 + 4) 0 0).1) x1 x2 x3 ((k189 s 33 (x3 + 4) 0 0).2) := rfl
  rw [q]; exact ⟨e, h⟩
def k260_39 (s : kS) (z0 : Int32) : kS × Int32 := ((k189 s 26 2 0 0).1, 0)
theorem lt260_39 {sc : Nat × (Nat → Int32)} {N d : Nat} {S0 S : am_S} {s : kS} {z0 : Int32} {o1 : Option Value} {o2 : Option Value} {o3 : Option Value} (hS : MK S0 S s) : am_L (am_PP sc) N d 260 39 [some (.ref 39), o1, o2, o3] [.int z0] S (fun o S1 => o = some none ∧ MK S0 S1 (k260_39 s z0).1) := by
  refine l6i hi_260_39 ?_
  refine l2 (v := 39) hi_260_40 rfl ?_
  refine l0 hi_260_41 ?_
  refine l0 hi_260_43 ?_
  refine l0 hi_260_44 ?_
  refine l0 hi_260_45 ?_
  refine l32 (as := [.ref 39, .int 26, .int 2, .int 0, .int 0]) (la := [some (.ref 39), some (.int 26), some (.int 2), some (.int 0), some (.int 0)]) (rest := []) hi_260_46 (am_hd0 (M := 260) (by decide) 46) rfl rfl rfl (fun N' d' _ => lt189 (N := N') (d := d') hS) ?_ (fun _ q => nomatch q.1)
  rintro v3 S1 ⟨ev3, h2⟩
  cases ev3
  show am_L _ _ _ _ _ [some (.ref 39), o1, o2, o3] [.int ((k189 s 26 2 0 0).2)] _ _
  refine l6i hi_260_49 ?_
  refine l35 hi_260_50 ⟨rfl, ?_⟩
  exact h2
/-- functionEnd(III)V -/
def k260 (s : kS) (x1 : Int32) (x2 : Int32) (x3 : Int32) : kS × Int32 := if 3 ≤ x1 then k260_39 ((k189 (kf s 15 ((s.1 15) - 1)) 32 0 0 x3).1) ((k189 (kf s 15 ((s.1 15) - 1)) 32 0 0 x3).2) else ((k189 (kf s 15 ((s.1 15) - 1)) (29 + x1) x2 0 x3).1, 0)
theorem lt260 {sc : Nat × (Nat → Int32)} {N d : Nat} {S0 S : am_S} {s : kS} {x1 : Int32} {x2 : Int32} {x3 : Int32} (hS : MK S0 S s) : am_L (am_PP sc) N d 260 0 [some (.ref 39), some (.int x1), some (.int x2), some (.int x3)] [] S (fun o S1 => o = some none ∧ MK S0 S1 (k260 s x1 x2 x3).1) := by
  refine l2 (v := 39) hi_260_0 rfl ?_
  refine l7 hi_260_1 ?_
  refine l20 (v := .int (s.1 15)) hS hi_260_2 rfl ?_
  refine l0 hi_260_5 ?_
  refine l10 hi_260_6 ?_
  show am_L _ _ _ _ _ [some (.ref 39), some (.int x1), some (.int x2), some (.int x3)] [.int ((s.1 15) - 1), .ref 39] _ _
  refine l21 hS hi_260_7 ms_15 fun S1 h2 => ?_
  refine l1 (v := x1) hi_260_10 rfl ?_
  refine l0 hi_260_11 ?_
  by_cases c3 : 3 ≤ x1
  · refine l13t hi_260_12 (decide_eq_true c3) ?_
    refine l2 (v := 39) hi_260_30 rfl ?_
    refine l0 hi_260_31 ?_
    refine l0 hi_260_33 ?_
    refine l0 hi_260_34 ?_
    refine l1 (v := x3) hi_260_35 rfl ?_
    refine l32 (as := [.ref 39, .int 32, .int 0, .int 0, .int x3]) (la := [some (.ref 39), some (.int 32), some (.int 0), some (.int 0), some (.int x3)]) (rest := []) hi_260_36 (am_hd0 (M := 260) (by decide) 36) rfl rfl rfl (fun N' d' _ => lt189 (N := N') (d := d') h2) ?_ (fun _ q => nomatch q.1)
    rintro v6 S4 ⟨ev6, h5⟩
    cases ev6
    show am_L _ _ _ _ _ [some (.ref 39), some (.int x1), some (.int x2), some (.int x3)] [.int ((k189 (kf s 15 ((s.1 15) - 1)) 32 0 0 x3).2)] _ _
    refine am_L.mono (lt260_39 h5) ?_
    rintro o S1 ⟨e, h⟩
    have q : k260 s x1 x2 x3 = k260_39 ((k189 (kf s 15 ((s.1 15) - 1)) 32 0 0 x3).1) ((k189 (kf s 15 ((s.1 15) - 1)) 32 0 0 x3).2) := by unfold k260; rw [if_pos c3]
    rw [q]; exact ⟨e, h⟩
  · refine l13f hi_260_12 (decide_eq_false c3) ?_
    refine l2 (v := 39) hi_260_15 rfl ?_
    refine l0 hi_260_16 ?_
    refine l1 (v := x1) hi_260_18 rfl ?_
    refine l10 hi_260_19 ?_
    show am_L _ _ _ _ _ [some (.ref 39), some (.int x1), some (.int x2), some (.int x3)] [.int (29 + x1), .ref 39] _ _
    refine l1 (v := x2) hi_260_20 rfl ?_
    refine l0 hi_260_21 ?_
    refine l1 (v := x3) hi_260_22 rfl ?_
    refine l32 (as := [.ref 39, .int (29 + x1), .int x2, .int 0, .int x3]) (la := [some (.ref 39), some (.int (29 + x1)), some (.int x2), some (.int 0), some (.int x3)]) (rest := []) hi_260_23 (am_hd0 (M := 260) (by decide) 23) rfl rfl rfl (fun N' d' _ => lt189 (N := N') (d := d') h2) ?_ (fun _ q => nomatch q.1)
    rintro v9 S7 ⟨ev9, h8⟩
    cases ev9
    show am_L _ _ _ _ _ [some (.ref 39), some (.int x1), some (.int x2), some (.int x3)] [.int ((k189 (kf s 15 ((s.1 15) - 1)) (29 + x1) x2 0 x3).2)] _ _
    refine l6i hi_260_26 ?_
    refine l18 hi_260_27 ?_
    refine l35 hi_260_50 ⟨rfl, ?_⟩
    unfold k260; rw [if_neg c3]; exact h8
def k262b12 (s : kS) (t : Int32 × Int32) : Nat × (Int32 × Int32) := if (s.1 24) ≤ t.2 then (1, (t.1, t.2)) else if t.1 = 0 then (0, (0, t.2 + 1)) else if (kr s 30 t.2) ≠ 0 then (0, (0, t.2 + 1)) else (0, (1, t.2 + 1))
theorem lb262_12 {sc : Nat × (Nat → Int32)} {d : Nat} {S0 : am_S} {s : kS} {Q : Option (Option Value) → am_S → Prop} : ∀ (N : Nat) (S : am_S) (t : Int32 × Int32), MK S0 S s → (∀ m S1, (kwh (k262b12 s) m t).1 = 1 → MK S0 S1 s → am_L (am_PP sc) N d 262 45 [some (.ref 39), some (.int ((kwh (k262b12 s) m t).2.1)), some (.int ((kwh (k262b12 s) m t).2.2))] [] S1 Q) → am_L (am_PP sc) N d 262 12 [some (.ref 39), some (.int t.1), some (.int t.2)] [] S Q := by
  intro N
  induction N with
  | zero => intros; exact l_zero
  | succ N ih =>
    intro S t hS kx45
    refine l1d (v := t.2) hi_262_12 rfl ?_
    refine l2 (v := 39) hi_262_13 rfl ?_
    refine l20 (v := .int (s.1 24)) hS hi_262_14 rfl ?_
    by_cases c1 : (s.1 24) ≤ t.2
    · refine l13t hi_262_17 (decide_eq_true c1) ?_
      have e0 : (k262b12 s) t = (1, (t.1, t.2)) := by unfold k262b12; rw [if_pos c1]
      have e1 : kwh (k262b12 s) 1 t = (1, (t.1, t.2)) := by rw [kwh_out (by rw [e0]; exact Nat.succ_ne_zero _), e0]
      have q := kx45 1 _  (by rw [e1]) (by exact hS)
      try rw [e1] at q
      exact q.less (Nat.le_succ N)
    · refine l13f hi_262_17 (decide_eq_false c1) ?_
      refine l1 (v := t.1) hi_262_20 rfl ?_
      by_cases c2 : t.1 = 0
      · refine l12t hi_262_21 (decide_eq_true c2) ?_
        refine l0 hi_262_37 ?_
        refine l3 (ls' := [some (.ref 39), some (.int 0), some (.int t.2)]) hi_262_38 (Nat.le_of_ble_eq_true rfl) rfl ?_
        refine l5 (v := t.2) (ls' := [some (.ref 39), some (.int 0), some (.int (t.2 + 1))]) hi_262_39 rfl rfl ?_
        refine l18 hi_262_42 ?_
        have e0 : (k262b12 s) t = (0, (0, t.2 + 1)) := by unfold k262b12; rw [if_neg c1]; rw [if_pos c2]
        have e1 : ∀ m, kwh (k262b12 s) (m + 1) t = kwh (k262b12 s) m (0, t.2 + 1) := fun m => by rw [kwh_go (by rw [e0]), e0]
        exact ih _  (0, t.2 + 1) hS (fun m S1 hm h1 => by have q := kx45 (m + 1) S1 (by rw [e1]; exact hm) (by exact h1); (try rw [e1] at q); exact q.less (Nat.le_succ N))
      · refine l12f hi_262_21 (decide_eq_false c2) ?_
        refine l2 (v := 39) hi_262_24 rfl ?_
        refine l20 (v := .ref 57) hS hi_262_25 rfl ?_
        refine l1 (v := t.2) hi_262_28 rfl ?_
        refine l25 hS ma_30 hi_262_29 fun g3 g4 => ?_
        show am_L _ _ _ _ _ [some (.ref 39), some (.int t.1), some (.int t.2)] [.int (kr s 30 t.2)] _ _
        by_cases c5 : (kr s 30 t.2) ≠ 0
        · refine l12t hi_262_30 (decide_eq_true c5) ?_
          refine l0 hi_262_37 ?_
          refine l3 (ls' := [some (.ref 39), some (.int 0), some (.int t.2)]) hi_262_38 (Nat.le_of_ble_eq_true rfl) rfl ?_
          refine l5 (v := t.2) (ls' := [some (.ref 39), some (.int 0), some (.int (t.2 + 1))]) hi_262_39 rfl rfl ?_
          refine l18 hi_262_42 ?_
          have e0 : (k262b12 s) t = (0, (0, t.2 + 1)) := by unfold k262b12; rw [if_neg c1]; rw [if_neg c2]; rw [if_pos c5]
          have e1 : ∀ m, kwh (k262b12 s) (m + 1) t = kwh (k262b12 s) m (0, t.2 + 1) := fun m => by rw [kwh_go (by rw [e0]), e0]
          exact ih _  (0, t.2 + 1) hS (fun m S1 hm h1 => by have q := kx45 (m + 1) S1 (by rw [e1]; exact hm) (by exact h1); (try rw [e1] at q); exact q.less (Nat.le_succ N))
        · refine l12f hi_262_30 (decide_eq_false c5) ?_
          refine l0 hi_262_33 ?_
          refine l18 hi_262_34 ?_
          refine l3 (ls' := [some (.ref 39), some (.int 1), some (.int t.2)]) hi_262_38 (Nat.le_of_ble_eq_true rfl) rfl ?_
          refine l5 (v := t.2) (ls' := [some (.ref 39), some (.int 1), some (.int (t.2 + 1))]) hi_262_39 rfl rfl ?_
          refine l18 hi_262_42 ?_
          have e0 : (k262b12 s) t = (0, (1, t.2 + 1)) := by unfold k262b12; rw [if_neg c1]; rw [if_neg c2]; rw [if_neg c5]
          have e1 : ∀ m, kwh (k262b12 s) (m + 1) t = kwh (k262b12 s) m (1, t.2 + 1) := fun m => by rw [kwh_go (by rw [e0]), e0]
          exact ih _  (1, t.2 + 1) hS (fun m S1 hm h1 => by have q := kx45 (m + 1) S1 (by rw [e1]; exact hm) (by exact h1); (try rw [e1] at q); exact q.less (Nat.le_succ N))
/-- mayTail()Z -/
noncomputable def k262 (s : kS) : Int32 := (kfin (k262b12 s) (1, kr s 34 (s.1 32))).2.1
theorem lt262 {sc : Nat × (Nat → Int32)} {N d : Nat} {S0 S : am_S} {s : kS} (hS : MK S0 S s) : am_L (am_PP sc) N d 262 0 [some (.ref 39), none, none] [] S (fun o S1 => o = some (some (.int (k262 s))) ∧ MK S0 S1 s) := by
  refine l0 hi_262_0 ?_
  refine l3 (ls' := [some (.ref 39), some (.int 1), none]) hi_262_1 (Nat.le_of_ble_eq_true rfl) rfl ?_
  refine l2 (v := 39) hi_262_2 rfl ?_
  refine l20 (v := .ref 59) hS hi_262_3 rfl ?_
  refine l2 (v := 39) hi_262_6 rfl ?_
  refine l20 (v := .int (s.1 32)) hS hi_262_7 rfl ?_
  refine l25 hS ma_34 hi_262_10 fun g1 g2 => ?_
  show am_L _ _ _ _ _ [some (.ref 39), some (.int 1), none] [.int (kr s 34 (s.1 32))] _ _
  refine l3 (ls' := [some (.ref 39), some (.int 1), some (.int (kr s 34 (s.1 32)))]) hi_262_11 (Nat.le_of_ble_eq_true rfl) rfl ?_
  refine lb262_12 N _  (1, kr s 34 (s.1 32)) hS ?_
  · intro m3 S4  hm5 h6
    have hf7 : kfin (k262b12 s) (1, kr s 34 (s.1 32)) = kwh (k262b12 s) m3 (1, kr s 34 (s.1 32)) := kfin_eq (by rw [hm5]; decide)
    rw [← hf7] at hm5
    try rw [← hf7]
    refine l1 (v := (kfin (k262b12 s) (1, kr s 34 (s.1 32))).2.1) hi_262_45 rfl ?_
    refine l36 hi_262_46 fun _ => ⟨?_, ?_⟩
    · rfl
    · exact h6
noncomputable def k261_110 (s : kS) (y1 : Int32) : kS × Int32 := ((k189 s 45 (s.1 19) 0 y1).1, 0)
theorem lt261_110 {sc : Nat × (Nat → Int32)} {N d : Nat} {S0 S : am_S} {s : kS} {y1 : Int32} {o2 : Option Value} (hS : MK S0 S s) : am_L (am_PP sc) N d 261 110 [some (.ref 39), some (.int y1), o2] [] S (fun o S1 => o = some none ∧ MK S0 S1 (k261_110 s y1).1) := by
  refine l2 (v := 39) hi_261_110 rfl ?_
  refine l0 hi_261_111 ?_
  refine l2 (v := 39) hi_261_113 rfl ?_
  refine l20 (v := .int (s.1 19)) hS hi_261_114 rfl ?_
  refine l0 hi_261_117 ?_
  refine l1 (v := y1) hi_261_118 rfl ?_
  refine l32 (as := [.ref 39, .int 45, .int (s.1 19), .int 0, .int y1]) (la := [some (.ref 39), some (.int 45), some (.int (s.1 19)), some (.int 0), some (.int y1)]) (rest := []) hi_261_119 (am_hd0 (M := 261) (by decide) 119) rfl rfl rfl (fun N' d' _ => lt189 (N := N') (d := d') hS) ?_ (fun _ q => nomatch q.1)
  rintro v3 S1 ⟨ev3, h2⟩
  cases ev3
  show am_L _ _ _ _ _ [some (.ref 39), some (.int y1), o2] [.int ((k189 s 45 (s.1 19) 0 y1).2)] _ _
  refine l6i hi_261_122 ?_
  refine l35 hi_261_123 ⟨rfl, ?_⟩
  exact h2
noncomputable def k261_88 (s : kS) (y1 : Int32) : kS × Int32 := ((k189 s 45 ((s.1 19) - 1) 1 y1).1, 0)
theorem lt261_88 {sc : Nat × (Nat → Int32)} {N d : Nat} {S0 S : am_S} {s : kS} {y1 : Int32} {o2 : Option Value} (hS : MK S0 S s) : am_L (am_PP sc) N d 261 88 [some (.ref 39), some (.int y1), o2] [] S (fun o S1 => o = some none ∧ MK S0 S1 (k261_88 s y1).1) := by
  refine l2 (v := 39) hi_261_88 rfl ?_
  refine l0 hi_261_89 ?_
  refine l2 (v := 39) hi_261_91 rfl ?_
  refine l20 (v := .int (s.1 19)) hS hi_261_92 rfl ?_
  refine l0 hi_261_95 ?_
  refine l10 hi_261_96 ?_
  show am_L _ _ _ _ _ [some (.ref 39), some (.int y1), o2] [.int ((s.1 19) - 1), .int 45, .ref 39] _ _
  refine l0 hi_261_97 ?_
  refine l1 (v := y1) hi_261_98 rfl ?_
  refine l32 (as := [.ref 39, .int 45, .int ((s.1 19) - 1), .int 1, .int y1]) (la := [some (.ref 39), some (.int 45), some (.int ((s.1 19) - 1)), some (.int 1), some (.int y1)]) (rest := []) hi_261_99 (am_hd0 (M := 261) (by decide) 99) rfl rfl rfl (fun N' d' _ => lt189 (N := N') (d := d') hS) ?_ (fun _ q => nomatch q.1)
  rintro v3 S1 ⟨ev3, h2⟩
  cases ev3
  show am_L _ _ _ _ _ [some (.ref 39), some (.int y1), o2] [.int ((k189 s 45 ((s.1 19) - 1) 1 y1).2)] _ _
  refine l6i hi_261_102 ?_
  refine l18 hi_261_103 ?_
  refine l35 hi_261_123 ⟨rfl, ?_⟩
  exact h2
noncomputable def k261_77 (s : kS) (y1 : Int32) : kS × Int32 := if (k216 s) = 0 then k261_110 ((k209 s).1) y1 else k261_88 ((k217 s).1) y1
theorem lt261_77 {sc : Nat × (Nat → Int32)} {N d : Nat} {S0 S : am_S} {s : kS} {y1 : Int32} {o2 : Option Value} (hS : MK S0 S s) : am_L (am_PP sc) N d 261 77 [some (.ref 39), some (.int y1), o2] [] S (fun o S1 => o = some none ∧ MK S0 S1 (k261_77 s y1).1) := by
  refine l2 (v := 39) hi_261_77 rfl ?_
  refine l32 (as := [.ref 39]) (la := [some (.ref 39)]) (rest := []) hi_261_78 (am_hd0 (M := 261) (by decide) 78) rfl rfl rfl (fun N' d' _ => lt216 (N := N') (d := d') hS) ?_ (fun _ q => nomatch q.1)
  rintro v3 S1 ⟨ev3, h2⟩
  cases ev3
  show am_L _ _ _ _ _ [some (.ref 39), some (.int y1), o2] [.int (k216 s)] _ _
  by_cases c4 : (k216 s) = 0
  · refine l12t hi_261_81 (decide_eq_true c4) ?_
    refine l2 (v := 39) hi_261_106 rfl ?_
    refine l32 (as := [.ref 39]) (la := [some (.ref 39)]) (rest := []) hi_261_107 (am_hd0 (M := 261) (by decide) 107) rfl rfl rfl (fun N' d' _ => lt209 (N := N') (d := d') h2) ?_ (fun _ q => nomatch q.1)
    rintro v7 S5 ⟨ev7, h6⟩
    cases ev7
    show am_L _ _ _ _ _ [some (.ref 39), some (.int y1), o2] [] _ _
    refine am_L.mono (lt261_110 h6) ?_
    rintro o S1 ⟨e, h⟩
    have q : k261_77 s y1 = k261_110 ((k209 s).1) y1 := by unfold k261_77; rw [if_pos c4]
    rw [q]; exact ⟨e, h⟩
  · refine l12f hi_261_81 (decide_eq_false c4) ?_
    refine l2 (v := 39) hi_261_84 rfl ?_
    refine l32 (as := [.ref 39]) (la := [some (.ref 39), none]) (rest := []) hi_261_85 (am_hd0 (M := 261) (by decide) 85) rfl rfl rfl (fun N' d' _ => lt217 (N := N') (d := d') h2) ?_ (fun _ q => nomatch q.1)
    rintro v10 S8 ⟨ev10, h9⟩
    cases ev10
    show am_L _ _ _ _ _ [some (.ref 39), some (.int y1), o2] [] _ _
    refine am_L.mono (lt261_88 h9) ?_
    rintro o S1 ⟨e, h⟩
    have q : k261_77 s y1 = k261_88 ((k217 s).1) y1 := by unfold k261_77; rw [if_neg c4]
    rw [q]; exact ⟨e, h⟩
/-- given(I)V -/
noncomputable def k261 (s : kS) (x1 : Int32) : kS × Int32 := if (s.1 19) ≠ 1 then k261_77 s x1 else if (kr s 16 ((s.1 15) - 1)) ≠ 1 then k261_77 s x1 else if (k262 s) = 0 then k261_77 s x1 else (kf (ka (ka s 70 (kr s 17 ((s.1 15) - 1)) 46) 72 (kr s 17 ((s.1 15) - 1)) ((kr s 72 (kr s 17 ((s.1 15) - 1))) &&& 1)) 15 ((s.1 15) - 1), 0)
theorem lt261 {sc : Nat × (Nat → Int32)} {N d : Nat} {S0 S : am_S} {s : kS} {x1 : Int32} (hS : MK S0 S s) : am_L (am_PP sc) N d 261 0 [some (.ref 39), some (.int x1), none] [] S (fun o S1 => o = some none ∧ MK S0 S1 (k261 s x1).1) := by
  refine l2 (v := 39) hi_261_0 rfl ?_
  refine l20 (v := .ref 47) hS hi_261_1 rfl ?_
  refine l2 (v := 39) hi_261_4 rfl ?_
  refine l20 (v := .int (s.1 15)) hS hi_261_5 rfl ?_
  refine l0 hi_261_8 ?_
  refine l10 hi_261_9 ?_
  show am_L _ _ _ _ _ [some (.ref 39), some (.int x1), none] [.int ((s.1 15) - 1), .ref 47] _ _
  refine l25 hS ma_17 hi_261_10 fun g1 g2 => ?_
  show am_L _ _ _ _ _ [some (.ref 39), some (.int x1), none] [.int (kr s 17 ((s.1 15) - 1))] _ _
  refine l3 (ls' := [some (.ref 39), some (.int x1), some (.int (kr s 17 ((s.1 15) - 1)))]) hi_261_11 (Nat.le_of_ble_eq_true rfl) rfl ?_
  refine l2 (v := 39) hi_261_12 rfl ?_
  refine l20 (v := .int (s.1 19)) hS hi_261_13 rfl ?_
  refine l0 hi_261_16 ?_
  by_cases c3 : (s.1 19) ≠ 1
  · refine l13t hi_261_17 (decide_eq_true c3) ?_
    refine am_L.mono (lt261_77 hS) ?_
    rintro o S1 ⟨e, h⟩
    have q : k261 s x1 = k261_77 s x1 := by unfold k261; rw [if_pos c3]
    rw [q]; exact ⟨e, h⟩
  · refine l13f hi_261_17 (decide_eq_false c3) ?_
    refine l2 (v := 39) hi_261_20 rfl ?_
    refine l20 (v := .ref 46) hS hi_261_21 rfl ?_
    refine l2 (v := 39) hi_261_24 rfl ?_
    refine l20 (v := .int (s.1 15)) hS hi_261_25 rfl ?_
    refine l0 hi_261_28 ?_
    refine l10 hi_261_29 ?_
    show am_L _ _ _ _ _ [some (.ref 39), some (.int x1), some (.int (kr s 17 ((s.1 15) - 1)))] [.int ((s.1 15) - 1), .ref 46] _ _
    refine l25 hS ma_16 hi_261_30 fun g4 g5 => ?_
    show am_L _ _ _ _ _ [some (.ref 39), some (.int x1), some (.int (kr s 17 ((s.1 15) - 1)))] [.int (kr s 16 ((s.1 15) - 1))] _ _
    refine l0 hi_261_31 ?_
    by_cases c6 : (kr s 16 ((s.1 15) - 1)) ≠ 1
    · refine l13t hi_261_32 (decide_eq_true c6) ?_
      refine am_L.mono (lt261_77 hS) ?_
      rintro o S1 ⟨e, h⟩
      have q : k261 s x1 = k261_77 s x1 := by unfold k261; rw [if_neg c3]; rw [if_pos c6]
      rw [q]; exact ⟨e, h⟩
    · refine l13f hi_261_32 (decide_eq_false c6) ?_
      refine l2 (v := 39) hi_261_35 rfl ?_
      refine l32 (as := [.ref 39]) (la := [some (.ref 39), none, none]) (rest := []) hi_261_36 (am_hd0 (M := 261) (by decide) 36) rfl rfl rfl (fun N' d' _ => lt262 (N := N') (d := d') hS) ?_ (fun _ q => nomatch q.1)
      rintro v9 S7 ⟨ev9, h8⟩
      cases ev9
      show am_L _ _ _ _ _ [some (.ref 39), some (.int x1), some (.int (kr s 17 ((s.1 15) - 1)))] [.int (k262 s)] _ _
      by_cases c10 : (k262 s) = 0
      · refine l12t hi_261_39 (decide_eq_true c10) ?_
        refine am_L.mono (lt261_77 h8) ?_
        rintro o S1 ⟨e, h⟩
        have q : k261 s x1 = k261_77 s x1 := by unfold k261; rw [if_neg c3]; rw [if_neg c6]; rw [if_pos c10]
        rw [q]; exact ⟨e, h⟩
      · refine l12f hi_261_39 (decide_eq_false c10) ?_
        refine l2 (v := 39) hi_261_42 rfl ?_
        refine l20 (v := .ref 89) h8 hi_261_43 rfl ?_
        refine l1 (v := kr s 17 ((s.1 15) - 1)) hi_261_46 rfl ?_
        refine l0 hi_261_47 ?_
        refine l26 h8 ma_70 hi_261_49 fun S13 h14 g11 g12 => ?_
        refine l2 (v := 39) hi_261_50 rfl ?_
        refine l20 (v := .ref 91) h14 hi_261_51 rfl ?_
        refine l1 (v := kr s 17 ((s.1 15) - 1)) hi_261_54 rfl ?_
        refine l2 (v := 39) hi_261_55 rfl ?_
        refine l20 (v := .ref 91) h14 hi_261_56 rfl ?_
        refine l1 (v := kr s 17 ((s.1 15) - 1)) hi_261_59 rfl ?_
        refine l25 h14 ma_72 hi_261_60 fun g15 g16 => ?_
        show am_L _ _ _ _ _ [some (.ref 39), some (.int x1), some (.int (kr s 17 ((s.1 15) - 1)))] [.int (kr s 72 (kr s 17 ((s.1 15) - 1))), .int (kr s 17 ((s.1 15) - 1)), .ref 91] _ _
        refine l0 hi_261_61 ?_
        refine l10 hi_261_62 ?_
        show am_L _ _ _ _ _ [some (.ref 39), some (.int x1), some (.int (kr s 17 ((s.1 15) - 1)))] [.int ((kr s 72 (kr s 17 ((s.1 15) - 1))) &&& 1), .int (kr s 17 ((s.1 15) - 1)), .ref 91] _ _
        refine l26 h14 ma_72 hi_261_63 fun S19 h20 g17 g18 => ?_
        refine l2 (v := 39) hi_261_64 rfl ?_
        refine l7 hi_261_65 ?_
        refine l20 (v := .int (s.1 15)) h20 hi_261_66 rfl ?_
        refine l0 hi_261_69 ?_
        refine l10 hi_261_70 ?_
        show am_L _ _ _ _ _ [some (.ref 39), some (.int x1), some (.int (kr s 17 ((s.1 15) - 1)))] [.int ((s.1 15) - 1), .ref 39] _ _
        refine l21 h20 hi_261_71 ms_15 fun S21 h22 => ?_
        refine l18 hi_261_74 ?_
        refine l35 hi_261_123 ⟨rfl, ?_⟩
        unfold k261; rw [if_neg c3]; rw [if_neg c6]; rw [if_neg c10]; exact h22
def k263_19 (s : kS) : kS × Int32 := if (k226 s (k183 s)) ≠ 0 then (s, 0) else ((k194 s 7).1, 0)
theorem lt263_19 {sc : Nat × (Nat → Int32)} {N d : Nat} {S0 S : am_S} {s : kS} (hS : MK S0 S s) : am_L (am_PP sc) N d 263 19 [some (.ref 39)] [] S (fun o S1 => o = some none ∧ MK S0 S1 (k263_19 s).1) := by
  refine l2 (v := 39) hi_263_19 rfl ?_
  refine l32 (as := [.ref 39]) (la := [some (.ref 39)]) (rest := []) hi_263_20 (am_hd0 (M := 263) (by decide) 20) rfl rfl rfl (fun N' d' _ => lt183 (N := N') (d := d') hS) ?_ (fun _ q => nomatch q.1)
  rintro v3 S1 ⟨ev3, h2⟩
  cases ev3
  show am_L _ _ _ _ _ [some (.ref 39)] [.int (k183 s)] _ _
  refine l32 (as := [.int (k183 s)]) (la := [some (.int (k183 s))]) (rest := []) hi_263_23 (am_hd0 (M := 263) (by decide) 23) rfl rfl rfl (fun N' d' _ => lt226 (N := N') (d := d') h2) ?_ (fun _ q => nomatch q.1)
  rintro v6 S4 ⟨ev6, h5⟩
  cases ev6
  show am_L _ _ _ _ _ [some (.ref 39)] [.int (k226 s (k183 s))] _ _
  by_cases c7 : (k226 s (k183 s)) ≠ 0
  · refine l12t hi_263_26 (decide_eq_true c7) ?_
    refine l35 hi_263_36 ⟨rfl, ?_⟩
    unfold k263_19; rw [if_pos c7]; exact h5
  · refine l12f hi_263_26 (decide_eq_false c7) ?_
    refine l2 (v := 39) hi_263_29 rfl ?_
    refine l0 hi_263_30 ?_
    refine l32 (as := [.ref 39, .int 7]) (la := [some (.ref 39), some (.int 7)]) (rest := []) hi_263_32 (am_hd0 (M := 263) (by decide) 32) rfl rfl rfl (fun N' d' _ => lt194 (N := N') (d := d') h5) ?_ (fun _ q => nomatch q.1)
    rintro v10 S8 ⟨ev10, h9⟩
    cases ev10
    show am_L _ _ _ _ _ [some (.ref 39)] [.int ((k194 s 7).2)] _ _
    refine l6i hi_263_35 ?_
    refine l35 hi_263_36 ⟨rfl, ?_⟩
    unfold k263_19; rw [if_neg c7]; exact h9
/-- givenEnd()V -/
def k263 (s : kS) : kS × Int32 := if (k183 s) ≠ 67 then k263_19 s else k263_19 (kf s 4 ((s.1 4) + 1))
theorem lt263 {sc : Nat × (Nat → Int32)} {N d : Nat} {S0 S : am_S} {s : kS} (hS : MK S0 S s) : am_L (am_PP sc) N d 263 0 [some (.ref 39)] [] S (fun o S1 => o = some none ∧ MK S0 S1 (k263 s).1) := by
  refine l2 (v := 39) hi_263_0 rfl ?_
  refine l32 (as := [.ref 39]) (la := [some (.ref 39)]) (rest := []) hi_263_1 (am_hd0 (M := 263) (by decide) 1) rfl rfl rfl (fun N' d' _ => lt183 (N := N') (d := d') hS) ?_ (fun _ q => nomatch q.1)
  rintro v3 S1 ⟨ev3, h2⟩
  cases ev3
  show am_L _ _ _ _ _ [some (.ref 39)] [.int (k183 s)] _ _
  refine l0 hi_263_4 ?_
  by_cases c4 : (k183 s) ≠ 67
  · refine l13t hi_263_6 (decide_eq_true c4) ?_
    refine am_L.mono (lt263_19 h2) ?_
    rintro o S1 ⟨e, h⟩
    have q : k263 s = k263_19 s := by unfold k263; rw [if_pos c4]
    rw [q]; exact ⟨e, h⟩
  · refine l13f hi_263_6 (decide_eq_false c4) ?_
    refine l2 (v := 39) hi_263_9 rfl ?_
    refine l7 hi_263_10 ?_
    refine l20 (v := .int (s.1 4)) h2 hi_263_11 rfl ?_
    refine l0 hi_263_14 ?_
    refine l10 hi_263_15 ?_
    show am_L _ _ _ _ _ [some (.ref 39)] [.int ((s.1 4) + 1), .ref 39] _ _
    refine l21 h2 hi_263_16 ms_4 fun S5 h6 => ?_
    refine am_L.mono (lt263_19 h6) ?_
    rintro o S1 ⟨e, h⟩
    have q : k263 s = k263_19 (kf s 4 ((s.1 4) + 1)) := by unfold k263; rw [if_neg c4]
    rw [q]; exact ⟨e, h⟩
noncomputable def k264_94 (s : kS) : kS × Int32 := ((k194 s 7).1, 0)
theorem lt264_94 {sc : Nat × (Nat → Int32)} {N d : Nat} {S0 S : am_S} {s : kS} {o1 : Option Value} {o2 : Option Value} {o3 : Option Value} {o4 : Option Value} {o5 : Option Value} {o6 : Option Value} {o7 : Option Value} (hS : MK S0 S s) : am_L (am_PP sc) N d 264 94 [some (.ref 39), o1, o2, o3, o4, o5, o6, o7] [] S (fun o S1 => o = some none ∧ MK S0 S1 (k264_94 s).1) := by
  refine l2 (v := 39) hi_264_94 rfl ?_
  refine l0 hi_264_95 ?_
  refine l32 (as := [.ref 39, .int 7]) (la := [some (.ref 39), some (.int 7)]) (rest := []) hi_264_97 (am_hd0 (M := 264) (by decide) 97) rfl rfl rfl (fun N' d' _ => lt194 (N := N') (d := d') hS) ?_ (fun _ q => nomatch q.1)
  rintro v3 S1 ⟨ev3, h2⟩
  cases ev3
  show am_L _ _ _ _ _ [some (.ref 39), o1, o2, o3, o4, o5, o6, o7] [.int ((k194 s 7).2)] _ _
  refine l6i hi_264_100 ?_
  refine l35 hi_264_101 ⟨rfl, ?_⟩
  exact h2
noncomputable def k264_222 (s : kS) : kS × Int32 := ((k201 s).1, 0)
theorem lt264_222 {sc : Nat × (Nat → Int32)} {N d : Nat} {S0 S : am_S} {s : kS} {o1 : Option Value} {o2 : Option Value} {o3 : Option Value} {o4 : Option Value} {o5 : Option Value} {o6 : Option Value} {o7 : Option Value} (hS : MK S0 S s) : am_L (am_PP sc) N d 264 222 [some (.ref 39), o1, o2, o3, o4, o5, o6, o7] [] S (fun o S1 => o = some none ∧ MK S0 S1 (k264_222 s).1) := by
  refine l2 (v := 39) hi_264_222 rfl ?_
  refine l32 (as := [.ref 39]) (la := [some (.ref 39)]) (rest := []) hi_264_223 (am_hd0 (M := 264) (by decide) 223) rfl rfl rfl (fun N' d' _ => lt201 (N := N') (d := d') hS) ?_ (fun _ q => nomatch q.1)
  rintro v3 S1 ⟨ev3, h2⟩
  cases ev3
  show am_L _ _ _ _ _ [some (.ref 39), o1, o2, o3, o4, o5, o6, o7] [] _ _
  refine l18 hi_264_226 ?_
  refine l35 hi_264_244 ⟨rfl, ?_⟩
  exact h2
noncomputable def k264_213 (s : kS) : kS × Int32 := k264_222 ((k179 s 28 0 0 0).1)
theorem lt264_213 {sc : Nat × (Nat → Int32)} {N d : Nat} {S0 S : am_S} {s : kS} {o1 : Option Value} {o2 : Option Value} {o3 : Option Value} {o4 : Option Value} {o5 : Option Value} {o6 : Option Value} {o7 : Option Value} (hS : MK S0 S s) : am_L (am_PP sc) N d 264 213 [some (.ref 39), o1, o2, o3, o4, o5, o6, o7] [] S (fun o S1 => o = some none ∧ MK S0 S1 (k264_213 s).1) := by
  refine l2 (v := 39) hi_264_213 rfl ?_
  refine l0 hi_264_214 ?_
  refine l0 hi_264_216 ?_
  refine l0 hi_264_217 ?_
  refine l0 hi_264_218 ?_
  refine l32 (as := [.ref 39, .int 28, .int 0, .int 0, .int 0]) (la := [some (.ref 39), some (.int 28), some (.int 0), some (.int 0), some (.int 0)]) (rest := []) hi_264_219 (am_hd0 (M := 264) (by decide) 219) rfl rfl rfl (fun N' d' _ => lt179 (N := N') (d := d') hS) ?_ (fun _ q => nomatch q.1)
  rintro v3 S1 ⟨ev3, h2⟩
  cases ev3
  show am_L _ _ _ _ _ [some (.ref 39), o1, o2, o3, o4, o5, o6, o7] [] _ _
  refine am_L.mono (lt264_222 h2) ?_
  rintro o S1 ⟨e, h⟩
  have q : k264_213 s = k264_222 ((k179 s 28 0 0 0).1) := rfl
  rw [q]; exact ⟨e, h⟩
noncomputable def k264_175 (s : kS) (y1 : Int32) (y2 : Int32) (y4 : Int32) : kS × Int32 := if y4 ≠ 69 then ((k214 ((k179 (kf (kf s 15 ((s.1 15) - 1)) 4 ((s.1 4) + 1)) 22 (y1 + 1) y2 0).1)).1, 0) else k264_213 ((k179 (kf (kf s 15 ((s.1 15) - 1)) 4 ((s.1 4) + 1)) 21 (y1 + 1) y2 0).1)
theorem lt264_175 {sc : Nat × (Nat → Int32)} {N d : Nat} {S0 S : am_S} {s : kS} {y1 : Int32} {y2 : Int32} {y4 : Int32} {o3 : Option Value} {o5 : Option Value} {o6 : Option Value} {o7 : Option Value} (hS : MK S0 S s) : am_L (am_PP sc) N d 264 175 [some (.ref 39), some (.int y1), some (.int y2), o3, some (.int y4), o5, o6, o7] [] S (fun o S1 => o = some none ∧ MK S0 S1 (k264_175 s y1 y2 y4).1) := by
  refine l2 (v := 39) hi_264_175 rfl ?_
  refine l7 hi_264_176 ?_
  refine l20 (v := .int (s.1 15)) hS hi_264_177 rfl ?_
  refine l0 hi_264_180 ?_
  refine l10 hi_264_181 ?_
  show am_L _ _ _ _ _ [some (.ref 39), some (.int y1), some (.int y2), o3, some (.int y4), o5, o6, o7] [.int ((s.1 15) - 1), .ref 39] _ _
  refine l21 hS hi_264_182 ms_15 fun S1 h2 => ?_
  refine l2 (v := 39) hi_264_185 rfl ?_
  refine l7 hi_264_186 ?_
  refine l20 (v := .int (s.1 4)) h2 hi_264_187 rfl ?_
  refine l0 hi_264_190 ?_
  refine l10 hi_264_191 ?_
  show am_L _ _ _ _ _ [some (.ref 39), some (.int y1), some (.int y2), o3, some (.int y4), o5, o6, o7] [.int ((s.1 4) + 1), .ref 39] _ _
  refine l21 h2 hi_264_192 ms_4 fun S3 h4 => ?_
  refine l1 (v := y4) hi_264_195 rfl ?_
  refine l0 hi_264_197 ?_
  by_cases c5 : y4 ≠ 69
  · refine l13t hi_264_199 (decide_eq_true c5) ?_
    refine l2 (v := 39) hi_264_229 rfl ?_
    refine l0 hi_264_230 ?_
    refine l1 (v := y1) hi_264_232 rfl ?_
    refine l0 hi_264_233 ?_
    refine l10 hi_264_234 ?_
    show am_L _ _ _ _ _ [some (.ref 39), some (.int y1), some (.int y2), o3, some (.int y4), o5, o6, o7] [.int (y1 + 1), .int 22, .ref 39] _ _
    refine l1 (v := y2) hi_264_235 rfl ?_
    refine l0 hi_264_236 ?_
    refine l32 (as := [.ref 39, .int 22, .int (y1 + 1), .int y2, .int 0]) (la := [some (.ref 39), some (.int 22), some (.int (y1 + 1)), some (.int y2), some (.int 0)]) (rest := []) hi_264_237 (am_hd0 (M := 264) (by decide) 237) rfl rfl rfl (fun N' d' _ => lt179 (N := N') (d := d') h4) ?_ (fun _ q => nomatch q.1)
    rintro v8 S6 ⟨ev8, h7⟩
    cases ev8
    show am_L _ _ _ _ _ [some (.ref 39), some (.int y1), some (.int y2), o3, some (.int y4), o5, o6, o7] [] _ _
    refine l2 (v := 39) hi_264_240 rfl ?_
    refine l32 (as := [.ref 39]) (la := [some (.ref 39)]) (rest := []) hi_264_241 (am_hd0 (M := 264) (by decide) 241) rfl rfl rfl (fun N' d' _ => lt214 (N := N') (d := d') h7) ?_ (fun _ q => nomatch q.1)
    rintro v11 S9 ⟨ev11, h10⟩
    cases ev11
    show am_L _ _ _ _ _ [some (.ref 39), some (.int y1), some (.int y2), o3, some (.int y4), o5, o6, o7] [] _ _
    refine l35 hi_264_244 ⟨rfl, ?_⟩
    unfold k264_175; rw [if_pos c5]; exact h10
  · refine l13f hi_264_199 (decide_eq_false c5) ?_
    refine l2 (v := 39) hi_264_202 rfl ?_
    refine l0 hi_264_203 ?_
    refine l1 (v := y1) hi_264_205 rfl ?_
    refine l0 hi_264_206 ?_
    refine l10 hi_264_207 ?_
    show am_L _ _ _ _ _ [some (.ref 39), some (.int y1), some (.int y2), o3, some (.int y4), o5, o6, o7] [.int (y1 + 1), .int 21, .ref 39] _ _
    refine l1 (v := y2) hi_264_208 rfl ?_
    refine l0 hi_264_209 ?_
    refine l32 (as := [.ref 39, .int 21, .int (y1 + 1), .int y2, .int 0]) (la := [some (.ref 39), some (.int 21), some (.int (y1 + 1)), some (.int y2), some (.int 0)]) (rest := []) hi_264_210 (am_hd0 (M := 264) (by decide) 210) rfl rfl rfl (fun N' d' _ => lt179 (N := N') (d := d') h4) ?_ (fun _ q => nomatch q.1)
    rintro v14 S12 ⟨ev14, h13⟩
    cases ev14
    show am_L _ _ _ _ _ [some (.ref 39), some (.int y1), some (.int y2), o3, some (.int y4), o5, o6, o7] [] _ _
    refine am_L.mono (lt264_213 h13) ?_
    rintro o S1 ⟨e, h⟩
    have q : k264_175 s y1 y2 y4 = k264_213 ((k179 (kf (kf s 15 ((s.1 15) - 1)) 4 ((s.1 4) + 1)) 21 (y1 + 1) y2 0).1) := by unfold k264_175; rw [if_neg c5]
    rw [q]; exact ⟨e, h⟩
noncomputable def k264_167 (s : kS) (y1 : Int32) (y2 : Int32) (y4 : Int32) (y6 : Int32) : kS × Int32 := k264_175 ((k239 s 3 0 y6).1) y1 y2 y4
theorem lt264_167 {sc : Nat × (Nat → Int32)} {N d : Nat} {S0 S : am_S} {s : kS} {y1 : Int32} {y2 : Int32} {y4 : Int32} {y6 : Int32} {o3 : Option Value} {o5 : Option Value} {o7 : Option Value} (hS : MK S0 S s) : am_L (am_PP sc) N d 264 167 [some (.ref 39), some (.int y1), some (.int y2), o3, some (.int y4), o5, some (.int y6), o7] [] S (fun o S1 => o = some none ∧ MK S0 S1 (k264_167 s y1 y2 y4 y6).1) := by
  refine l2 (v := 39) hi_264_167 rfl ?_
  refine l0 hi_264_168 ?_
  refine l0 hi_264_169 ?_
  refine l1 (v := y6) hi_264_170 rfl ?_
  refine l32 (as := [.ref 39, .int 3, .int 0, .int y6]) (la := [some (.ref 39), some (.int 3), some (.int 0), some (.int y6)]) (rest := []) hi_264_172 (am_hd0 (M := 264) (by decide) 172) rfl rfl rfl (fun N' d' _ => lt239 (N := N') (d := d') hS) ?_ (fun _ q => nomatch q.1)
  rintro v3 S1 ⟨ev3, h2⟩
  cases ev3
  show am_L _ _ _ _ _ [some (.ref 39), some (.int y1), some (.int y2), o3, some (.int y4), o5, some (.int y6), o7] [] _ _
  refine am_L.mono (lt264_175 h2) ?_
  rintro o S1 ⟨e, h⟩
  have q : k264_167 s y1 y2 y4 y6 = k264_175 ((k239 s 3 0 y6).1) y1 y2 y4 := rfl
  rw [q]; exact ⟨e, h⟩
noncomputable def k264_166 (s : kS) (y1 : Int32) (y2 : Int32) (y4 : Int32) (y6 : Int32) (z0 : Int32) : kS × Int32 := k264_167 s y1 y2 y4 y6
theorem lt264_166 {sc : Nat × (Nat → Int32)} {N d : Nat} {S0 S : am_S} {s : kS} {y1 : Int32} {y2 : Int32} {y4 : Int32} {y6 : Int32} {z0 : Int32} {o3 : Option Value} {o5 : Option Value} {o7 : Option Value} (hS : MK S0 S s) : am_L (am_PP sc) N d 264 166 [some (.ref 39), some (.int y1), some (.int y2), o3, some (.int y4), o5, some (.int y6), o7] [.int z0] S (fun o S1 => o = some none ∧ MK S0 S1 (k264_166 s y1 y2 y4 y6 z0).1) := by
  refine l6i hi_264_166 ?_
  refine am_L.mono (lt264_167 hS) ?_
  rintro o S1 ⟨e, h⟩
  have q : k264_166 s y1 y2 y4 y6 z0 = k264_167 s y1 y2 y4 y6 := rfl
  rw [q]; exact ⟨e, h⟩
noncomputable def k264_140 (s : kS) (y1 : Int32) (y2 : Int32) (y4 : Int32) : kS × Int32 := k264_175 s y1 y2 y4
theorem lt264_140 {sc : Nat × (Nat → Int32)} {N d : Nat} {S0 S : am_S} {s : kS} {y1 : Int32} {y2 : Int32} {y4 : Int32} {o3 : Option Value} {o5 : Option Value} {o6 : Option Value} {o7 : Option Value} (hS : MK S0 S s) : am_L (am_PP sc) N d 264 140 [some (.ref 39), some (.int y1), some (.int y2), o3, some (.int y4), o5, o6, o7] [] S (fun o S1 => o = some none ∧ MK S0 S1 (k264_140 s y1 y2 y4).1) := by
  refine l18 hi_264_140 ?_
  refine am_L.mono (lt264_175 hS) ?_
  rintro o S1 ⟨e, h⟩
  have q : k264_140 s y1 y2 y4 = k264_175 s y1 y2 y4 := rfl
  rw [q]; exact ⟨e, h⟩
noncomputable def k264_126 (s : kS) (y1 : Int32) (y2 : Int32) (y4 : Int32) (y6 : Int32) (z0 : Int32) : kS × Int32 := k264_140 ((k239 s z0 (s.1 75) y6).1) y1 y2 y4
theorem lt264_126 {sc : Nat × (Nat → Int32)} {N d : Nat} {S0 S : am_S} {s : kS} {y1 : Int32} {y2 : Int32} {y4 : Int32} {y6 : Int32} {z0 : Int32} {o3 : Option Value} {o5 : Option Value} {o7 : Option Value} (hS : MK S0 S s) : am_L (am_PP sc) N d 264 126 [some (.ref 39), some (.int y1), some (.int y2), o3, some (.int y4), o5, some (.int y6), o7] [.int z0] S (fun o S1 => o = some none ∧ MK S0 S1 (k264_126 s y1 y2 y4 y6 z0).1) := by
  refine l3 (ls' := [some (.ref 39), some (.int y1), some (.int y2), o3, some (.int y4), o5, some (.int y6), some (.int z0)]) hi_264_126 (Nat.le_of_ble_eq_true rfl) rfl ?_
  refine l2 (v := 39) hi_264_128 rfl ?_
  refine l1 (v := z0) hi_264_129 rfl ?_
  refine l2 (v := 39) hi_264_131 rfl ?_
  refine l20 (v := .int (s.1 75)) hS hi_264_132 rfl ?_
  refine l1 (v := y6) hi_264_135 rfl ?_
  refine l32 (as := [.ref 39, .int z0, .int (s.1 75), .int y6]) (la := [some (.ref 39), some (.int z0), some (.int (s.1 75)), some (.int y6)]) (rest := []) hi_264_137 (am_hd0 (M := 264) (by decide) 137) rfl rfl rfl (fun N' d' _ => lt239 (N := N') (d := d') hS) ?_ (fun _ q => nomatch q.1)
  rintro v3 S1 ⟨ev3, h2⟩
  cases ev3
  show am_L _ _ _ _ _ [some (.ref 39), some (.int y1), some (.int y2), o3, some (.int y4), o5, some (.int y6), some (.int z0)] [] _ _
  refine am_L.mono (lt264_140 h2) ?_
  rintro o S1 ⟨e, h⟩
  have q : k264_126 s y1 y2 y4 y6 z0 = k264_140 ((k239 s z0 (s.1 75) y6).1) y1 y2 y4 := rfl
  rw [q]; exact ⟨e, h⟩
noncomputable def k264_84 (s : kS) (y1 : Int32) (y2 : Int32) (y3 : Int32) (y4 : Int32) (y5 : Int32) : kS × Int32 := if y3 < 3 then k264_94 s else if y5 ≠ 0 then if y3 ≠ 3 then if y3 ≠ 5 then k264_167 s y1 y2 y4 (kr s 18 ((s.1 15) - 1)) else k264_166 ((k189 s 5 (kr s 17 ((s.1 15) - 1)) 0 0).1) y1 y2 y4 (kr s 18 ((s.1 15) - 1)) ((k189 s 5 (kr s 17 ((s.1 15) - 1)) 0 0).2) else k264_126 ((k237 s (kr s 18 ((s.1 15) - 1))).1) y1 y2 y4 (kr s 18 ((s.1 15) - 1)) ((k237 s (kr s 18 ((s.1 15) - 1))).2) else k264_94 s
theorem lt264_84 {sc : Nat × (Nat → Int32)} {N d : Nat} {S0 S : am_S} {s : kS} {y1 : Int32} {y2 : Int32} {y3 : Int32} {y4 : Int32} {y5 : Int32} {o6 : Option Value} {o7 : Option Value} (hS : MK S0 S s) : am_L (am_PP sc) N d 264 84 [some (.ref 39), some (.int y1), some (.int y2), some (.int y3), some (.int y4), some (.int y5), o6, o7] [] S (fun o S1 => o = some none ∧ MK S0 S1 (k264_84 s y1 y2 y3 y4 y5).1) := by
  refine l1 (v := y3) hi_264_84 rfl ?_
  refine l0 hi_264_85 ?_
  by_cases c1 : y3 < 3
  · refine l13t hi_264_86 (decide_eq_true c1) ?_
    refine am_L.mono (lt264_94 hS) ?_
    rintro o S1 ⟨e, h⟩
    have q : k264_84 s y1 y2 y3 y4 y5 = k264_94 s := by unfold k264_84; rw [if_pos c1]
    rw [q]; exact ⟨e, h⟩
  · refine l13f hi_264_86 (decide_eq_false c1) ?_
    refine l1 (v := y5) hi_264_89 rfl ?_
    by_cases c2 : y5 ≠ 0
    · refine l12t hi_264_91 (decide_eq_true c2) ?_
      refine l2 (v := 39) hi_264_102 rfl ?_
      refine l20 (v := .ref 48) hS hi_264_103 rfl ?_
      refine l2 (v := 39) hi_264_106 rfl ?_
      refine l20 (v := .int (s.1 15)) hS hi_264_107 rfl ?_
      refine l0 hi_264_110 ?_
      refine l10 hi_264_111 ?_
      show am_L _ _ _ _ _ [some (.ref 39), some (.int y1), some (.int y2), some (.int y3), some (.int y4), some (.int y5), o6, o7] [.int ((s.1 15) - 1), .ref 48] _ _
      refine l25 hS ma_18 hi_264_112 fun g3 g4 => ?_
      show am_L _ _ _ _ _ [some (.ref 39), some (.int y1), some (.int y2), some (.int y3), some (.int y4), some (.int y5), o6, o7] [.int (kr s 18 ((s.1 15) - 1))] _ _
      refine l3 (ls' := [some (.ref 39), some (.int y1), some (.int y2), some (.int y3), some (.int y4), some (.int y5), some (.int (kr s 18 ((s.1 15) - 1))), o7]) hi_264_113 (Nat.le_of_ble_eq_true rfl) rfl ?_
      refine l1 (v := y3) hi_264_115 rfl ?_
      refine l0 hi_264_116 ?_
      by_cases c5 : y3 ≠ 3
      · refine l13t hi_264_117 (decide_eq_true c5) ?_
        refine l1 (v := y3) hi_264_143 rfl ?_
        refine l0 hi_264_144 ?_
        by_cases c6 : y3 ≠ 5
        · refine l13t hi_264_145 (decide_eq_true c6) ?_
          refine am_L.mono (lt264_167 hS) ?_
          rintro o S1 ⟨e, h⟩
          have q : k264_84 s y1 y2 y3 y4 y5 = k264_167 s y1 y2 y4 (kr s 18 ((s.1 15) - 1)) := by unfold k264_84; rw [if_neg c1]; rw [if_pos c2]; rw [if_pos c5]; rw [if_pos c6]
          rw [q]; exact ⟨e, h⟩
        · refine l13f hi_264_145 (decide_eq_false c6) ?_
          refine l2 (v := 39) hi_264_148 rfl ?_
          refine l0 hi_264_149 ?_
          refine l2 (v := 39) hi_264_150 rfl ?_
          refine l20 (v := .ref 47) hS hi_264_151 rfl ?_
          refine l2 (v := 39) hi_264_154 rfl ?_
          refine l20 (v := .int (s.1 15)) hS hi_264_155 rfl ?_
          refine l0 hi_264_158 ?_
          refine l10 hi_264_159 ?_
          show am_L _ _ _ _ _ [some (.ref 39), some (.int y1), some (.int y2), some (.int y3), some (.int y4), some (.int y5), some (.int (kr s 18 ((s.1 15) - 1))), o7] [.int ((s.1 15) - 1), .ref 47, .int 5, .ref 39] _ _
          refine l25 hS ma_17 hi_264_160 fun g7 g8 => ?_
          show am_L _ _ _ _ _ [some (.ref 39), some (.int y1), some (.int y2), some (.int y3), some (.int y4), some (.int y5), some (.int (kr s 18 ((s.1 15) - 1))), o7] [.int (kr s 17 ((s.1 15) - 1)), .int 5, .ref 39] _ _
          refine l0 hi_264_161 ?_
          refine l0 hi_264_162 ?_
          refine l32 (as := [.ref 39, .int 5, .int (kr s 17 ((s.1 15) - 1)), .int 0, .int 0]) (la := [some (.ref 39), some (.int 5), some (.int (kr s 17 ((s.1 15) - 1))), some (.int 0), some (.int 0)]) (rest := []) hi_264_163 (am_hd0 (M := 264) (by decide) 163) rfl rfl rfl (fun N' d' _ => lt189 (N := N') (d := d') hS) ?_ (fun _ q => nomatch q.1)
          rintro v11 S9 ⟨ev11, h10⟩
          cases ev11
          show am_L _ _ _ _ _ [some (.ref 39), some (.int y1), some (.int y2), some (.int y3), some (.int y4), some (.int y5), some (.int (kr s 18 ((s.1 15) - 1))), o7] [.int ((k189 s 5 (kr s 17 ((s.1 15) - 1)) 0 0).2)] _ _
          refine am_L.mono (lt264_166 h10) ?_
          rintro o S1 ⟨e, h⟩
          have q : k264_84 s y1 y2 y3 y4 y5 = k264_166 ((k189 s 5 (kr s 17 ((s.1 15) - 1)) 0 0).1) y1 y2 y4 (kr s 18 ((s.1 15) - 1)) ((k189 s 5 (kr s 17 ((s.1 15) - 1)) 0 0).2) := by unfold k264_84; rw [if_neg c1]; rw [if_pos c2]; rw [if_pos c5]; rw [if_neg c6]
          rw [q]; exact ⟨e, h⟩
      · refine l13f hi_264_117 (decide_eq_false c5) ?_
        refine l2 (v := 39) hi_264_120 rfl ?_
        refine l1 (v := kr s 18 ((s.1 15) - 1)) hi_264_121 rfl ?_
        refine l32 (as := [.ref 39, .int (kr s 18 ((s.1 15) - 1))]) (la := [some (.ref 39), some (.int (kr s 18 ((s.1 15) - 1))), none]) (rest := []) hi_264_123 (am_hd0 (M := 264) (by decide) 123) rfl rfl rfl (fun N' d' _ => lt237 (N := N') (d := d') hS) ?_ (fun _ q => nomatch q.1)
        rintro v14 S12 ⟨ev14, h13⟩
        cases ev14
        show am_L _ _ _ _ _ [some (.ref 39), some (.int y1), some (.int y2), some (.int y3), some (.int y4), some (.int y5), some (.int (kr s 18 ((s.1 15) - 1))), o7] [.int ((k237 s (kr s 18 ((s.1 15) - 1))).2)] _ _
        refine am_L.mono (lt264_126 h13) ?_
        rintro o S1 ⟨e, h⟩
        have q : k264_84 s y1 y2 y3 y4 y5 = k264_126 ((k237 s (kr s 18 ((s.1 15) - 1))).1) y1 y2 y4 (kr s 18 ((s.1 15) - 1)) ((k237 s (kr s 18 ((s.1 15) - 1))).2) := by unfold k264_84; rw [if_neg c1]; rw [if_pos c2]; rw [if_neg c5]
        rw [q]; exact ⟨e, h⟩
    · refine l12f hi_264_91 (decide_eq_false c2) ?_
      refine am_L.mono (lt264_94 hS) ?_
      rintro o S1 ⟨e, h⟩
      have q : k264_84 s y1 y2 y3 y4 y5 = k264_94 s := by unfold k264_84; rw [if_neg c1]; rw [if_neg c2]
      rw [q]; exact ⟨e, h⟩
noncomputable def k264_37 (s : kS) (y1 : Int32) (y2 : Int32) (y3 : Int32) (y4 : Int32) (z0 : Int32) : kS × Int32 := if y3 ≠ 1 then k264_84 s y1 y2 y3 y4 z0 else if y1 ≠ 0 then k264_84 s y1 y2 y3 y4 z0 else if z0 ≠ 0 then k264_84 s y1 y2 y3 y4 z0 else (kf (ka s 72 (kr s 17 ((s.1 15) - 1)) ((kr s 72 (kr s 17 ((s.1 15) - 1))) &&& 1)) 15 ((s.1 15) - 1), 0)
theorem lt264_37 {sc : Nat × (Nat → Int32)} {N d : Nat} {S0 S : am_S} {s : kS} {y1 : Int32} {y2 : Int32} {y3 : Int32} {y4 : Int32} {z0 : Int32} {o5 : Option Value} {o6 : Option Value} {o7 : Option Value} (hS : MK S0 S s) : am_L (am_PP sc) N d 264 37 [some (.ref 39), some (.int y1), some (.int y2), some (.int y3), some (.int y4), o5, o6, o7] [.int z0] S (fun o S1 => o = some none ∧ MK S0 S1 (k264_37 s y1 y2 y3 y4 z0).1) := by
  refine l3 (ls' := [some (.ref 39), some (.int y1), some (.int y2), some (.int y3), some (.int y4), some (.int z0), o6, o7]) hi_264_37 (Nat.le_of_ble_eq_true rfl) rfl ?_
  refine l1 (v := y3) hi_264_39 rfl ?_
  refine l0 hi_264_40 ?_
  by_cases c1 : y3 ≠ 1
  · refine l13t hi_264_41 (decide_eq_true c1) ?_
    refine am_L.mono (lt264_84 hS) ?_
    rintro o S1 ⟨e, h⟩
    have q : k264_37 s y1 y2 y3 y4 z0 = k264_84 s y1 y2 y3 y4 z0 := by unfold k264_37; rw [if_pos c1]
    rw [q]; exact ⟨e, h⟩
  · refine l13f hi_264_41 (decide_eq_false c1) ?_
    refine l1 (v := y1) hi_264_44 rfl ?_
    by_cases c2 : y1 ≠ 0
    · refine l12t hi_264_45 (decide_eq_true c2) ?_
      refine am_L.mono (lt264_84 hS) ?_
      rintro o S1 ⟨e, h⟩
      have q : k264_37 s y1 y2 y3 y4 z0 = k264_84 s y1 y2 y3 y4 z0 := by unfold k264_37; rw [if_neg c1]; rw [if_pos c2]
      rw [q]; exact ⟨e, h⟩
    · refine l12f hi_264_45 (decide_eq_false c2) ?_
      refine l1 (v := z0) hi_264_48 rfl ?_
      by_cases c3 : z0 ≠ 0
      · refine l12t hi_264_50 (decide_eq_true c3) ?_
        refine am_L.mono (lt264_84 hS) ?_
        rintro o S1 ⟨e, h⟩
        have q : k264_37 s y1 y2 y3 y4 z0 = k264_84 s y1 y2 y3 y4 z0 := by unfold k264_37; rw [if_neg c1]; rw [if_neg c2]; rw [if_pos c3]
        rw [q]; exact ⟨e, h⟩
      · refine l12f hi_264_50 (decide_eq_false c3) ?_
        refine l2 (v := 39) hi_264_53 rfl ?_
        refine l20 (v := .ref 91) hS hi_264_54 rfl ?_
        refine l2 (v := 39) hi_264_57 rfl ?_
        refine l20 (v := .ref 47) hS hi_264_58 rfl ?_
        refine l2 (v := 39) hi_264_61 rfl ?_
        refine l20 (v := .int (s.1 15)) hS hi_264_62 rfl ?_
        refine l0 hi_264_65 ?_
        refine l10 hi_264_66 ?_
        show am_L _ _ _ _ _ [some (.ref 39), some (.int y1), some (.int y2), some (.int y3), some (.int y4), some (.int z0), o6, o7] [.int ((s.1 15) - 1), .ref 47, .ref 91] _ _
        refine l25 hS ma_17 hi_264_67 fun g4 g5 => ?_
        show am_L _ _ _ _ _ [some (.ref 39), some (.int y1), some (.int y2), some (.int y3), some (.int y4), some (.int z0), o6, o7] [.int (kr s 17 ((s.1 15) - 1)), .ref 91] _ _
        refine l8 hi_264_68 ?_
        refine l25 hS ma_72 hi_264_69 fun g6 g7 => ?_
        show am_L _ _ _ _ _ [some (.ref 39), some (.int y1), some (.int y2), some (.int y3), some (.int y4), some (.int z0), o6, o7] [.int (kr s 72 (kr s 17 ((s.1 15) - 1))), .int (kr s 17 ((s.1 15) - 1)), .ref 91] _ _
        refine l0 hi_264_70 ?_
        refine l10 hi_264_71 ?_
        show am_L _ _ _ _ _ [some (.ref 39), some (.int y1), some (.int y2), some (.int y3), some (.int y4), some (.int z0), o6, o7] [.int ((kr s 72 (kr s 17 ((s.1 15) - 1))) &&& 1), .int (kr s 17 ((s.1 15) - 1)), .ref 91] _ _
        refine l26 hS ma_72 hi_264_72 fun S10 h11 g8 g9 => ?_
        refine l2 (v := 39) hi_264_73 rfl ?_
        refine l7 hi_264_74 ?_
        refine l20 (v := .int (s.1 15)) h11 hi_264_75 rfl ?_
        refine l0 hi_264_78 ?_
        refine l10 hi_264_79 ?_
        show am_L _ _ _ _ _ [some (.ref 39), some (.int y1), some (.int y2), some (.int y3), some (.int y4), some (.int z0), o6, o7] [.int ((s.1 15) - 1), .ref 39] _ _
        refine l21 h11 hi_264_80 ms_15 fun S12 h13 => ?_
        refine l35 hi_264_83 ⟨rfl, ?_⟩
        unfold k264_37; rw [if_neg c1]; rw [if_neg c2]; rw [if_neg c3]; exact h13
noncomputable def k264_32 (s : kS) (y1 : Int32) (y2 : Int32) (y3 : Int32) (y4 : Int32) : kS × Int32 := k264_37 s y1 y2 y3 y4 1
theorem lt264_32 {sc : Nat × (Nat → Int32)} {N d : Nat} {S0 S : am_S} {s : kS} {y1 : Int32} {y2 : Int32} {y3 : Int32} {y4 : Int32} {o5 : Option Value} {o6 : Option Value} {o7 : Option Value} (hS : MK S0 S s) : am_L (am_PP sc) N d 264 32 [some (.ref 39), some (.int y1), some (.int y2), some (.int y3), some (.int y4), o5, o6, o7] [] S (fun o S1 => o = some none ∧ MK S0 S1 (k264_32 s y1 y2 y3 y4).1) := by
  refine l0 hi_264_32 ?_
  refine l18 hi_264_33 ?_
  refine am_L.mono (lt264_37 hS) ?_
  rintro o S1 ⟨e, h⟩
  have q : k264_32 s y1 y2 y3 y4 = k264_37 s y1 y2 y3 y4 1 := rfl
  rw [q]; exact ⟨e, h⟩
/-- statementEnd(II)V -/
noncomputable def k264 (s : kS) (x1 : Int32) (x2 : Int32) : kS × Int32 := if (k183 s) = 59 then k264_32 s x1 x2 (kr s 16 ((s.1 15) - 1)) (k183 s) else if (k183 s) ≠ 69 then k264_37 s x1 x2 (kr s 16 ((s.1 15) - 1)) (k183 s) 0 else k264_32 s x1 x2 (kr s 16 ((s.1 15) - 1)) (k183 s)
theorem lt264 {sc : Nat × (Nat → Int32)} {N d : Nat} {S0 S : am_S} {s : kS} {x1 : Int32} {x2 : Int32} (hS : MK S0 S s) : am_L (am_PP sc) N d 264 0 [some (.ref 39), some (.int x1), some (.int x2), none, none, none, none, none] [] S (fun o S1 => o = some none ∧ MK S0 S1 (k264 s x1 x2).1) := by
  refine l2 (v := 39) hi_264_0 rfl ?_
  refine l20 (v := .ref 46) hS hi_264_1 rfl ?_
  refine l2 (v := 39) hi_264_4 rfl ?_
  refine l20 (v := .int (s.1 15)) hS hi_264_5 rfl ?_
  refine l0 hi_264_8 ?_
  refine l10 hi_264_9 ?_
  show am_L _ _ _ _ _ [some (.ref 39), some (.int x1), some (.int x2), none, none, none, none, none] [.int ((s.1 15) - 1), .ref 46] _ _
  refine l25 hS ma_16 hi_264_10 fun g1 g2 => ?_
  show am_L _ _ _ _ _ [some (.ref 39), some (.int x1), some (.int x2), none, none, none, none, none] [.int (kr s 16 ((s.1 15) - 1))] _ _
  refine l3 (ls' := [some (.ref 39), some (.int x1), some (.int x2), some (.int (kr s 16 ((s.1 15) - 1))), none, none, none, none]) hi_264_11 (Nat.le_of_ble_eq_true rfl) rfl ?_
  refine l2 (v := 39) hi_264_12 rfl ?_
  refine l32 (as := [.ref 39]) (la := [some (.ref 39)]) (rest := []) hi_264_13 (am_hd0 (M := 264) (by decide) 13) rfl rfl rfl (fun N' d' _ => lt183 (N := N') (d := d') hS) ?_ (fun _ q => nomatch q.1)
  rintro v5 S3 ⟨ev5, h4⟩
  cases ev5
  show am_L _ _ _ _ _ [some (.ref 39), some (.int x1), some (.int x2), some (.int (kr s 16 ((s.1 15) - 1))), none, none, none, none] [.int (k183 s)] _ _
  refine l3 (ls' := [some (.ref 39), some (.int x1), some (.int x2), some (.int (kr s 16 ((s.1 15) - 1))), some (.int (k183 s)), none, none, none]) hi_264_16 (Nat.le_of_ble_eq_true rfl) rfl ?_
  refine l1 (v := k183 s) hi_264_18 rfl ?_
  refine l0 hi_264_20 ?_
  by_cases c6 : (k183 s) = 59
  · refine l13t hi_264_22 (decide_eq_true c6) ?_
    refine am_L.mono (lt264_32 h4) ?_
    rintro o S1 ⟨e, h⟩
    have q : k264 s x1 x2 = k264_32 s x1 x2 (kr s 16 ((s.1 15) - 1)) (k183 s) := by unfold k264; rw [if_pos c6]
    rw [q]; exact ⟨e, h⟩
  · refine l13f hi_264_22 (decide_eq_false c6) ?_
    refine l1 (v := k183 s) hi_264_25 rfl ?_
    refine l0 hi_264_27 ?_
    by_cases c7 : (k183 s) ≠ 69
    · refine l13t hi_264_29 (decide_eq_true c7) ?_
      refine l0 hi_264_36 ?_
      refine am_L.mono (lt264_37 h4) ?_
      rintro o S1 ⟨e, h⟩
      have q : k264 s x1 x2 = k264_37 s x1 x2 (kr s 16 ((s.1 15) - 1)) (k183 s) 0 := by unfold k264; rw [if_neg c6]; rw [if_pos c7]
      rw [q]; exact ⟨e, h⟩
    · refine l13f hi_264_29 (decide_eq_false c7) ?_
      refine am_L.mono (lt264_32 h4) ?_
      rintro o S1 ⟨e, h⟩
      have q : k264 s x1 x2 = k264_32 s x1 x2 (kr s 16 ((s.1 15) - 1)) (k183 s) := by unfold k264; rw [if_neg c6]; rw [if_neg c7]
      rw [q]; exact ⟨e, h⟩
def k265b16_96 (s : kS) (y2 : Int32) (y3 : Int32) (y4 : Int32) : Nat × (kS × Int32 × Int32) := (0, (s, y3, y4 + (-1)))
theorem lb265_16_96 {sc : Nat × (Nat → Int32)} {N d : Nat} {S0 S : am_S} {s : kS} {y2 : Int32} {y3 : Int32} {y4 : Int32} {o1 : Option Value} {o5 : Option Value} {Q : Option (Option Value) → am_S → Prop} (hS : MK S0 S s) (kb : (∀ S1 (p1 : Option Value) (p5 : Option Value) (t : kS × Int32 × Int32), k265b16_96 s y2 y3 y4 = (0, t) → MK S0 S1 t.1 → am_L (am_PP sc) N d 265 16 [some (.ref 39), p1, some (.int y2), some (.int t.2.1), some (.int t.2.2), p5] [] S1 Q)) (kx102 : (∀ S1 (p1 : Option Value) (p5 : Option Value) (t : kS × Int32 × Int32), k265b16_96 s y2 y3 y4 = (1, t) → MK S0 S1 t.1 → am_L (am_PP sc) N d 265 102 [some (.ref 39), p1, some (.int y2), some (.int t.2.1), some (.int t.2.2), p5] [] S1 Q)) : am_L (am_PP sc) N d 265 96 [some (.ref 39), o1, some (.int y2), some (.int y3), some (.int y4), o5] [] S Q := by
  refine l5 (v := y4) (ls' := [some (.ref 39), o1, some (.int y2), some (.int y3), some (.int (y4 + (-1))), o5]) hi_265_96 rfl rfl ?_
  refine l18 hi_265_99 ?_
  exact kb _ o1 o5 (s, y3, y4 + (-1)) (rfl) hS
def k265b16_70 (s : kS) (y2 : Int32) (y3 : Int32) (y4 : Int32) : Nat × (kS × Int32 × Int32) := k265b16_96 ((k189 s 32 ((2 * y3) + y4) 0 (kr s 23 (y2 + y4))).1) y2 (y3 + 1) y4
theorem lb265_16_70 {sc : Nat × (Nat → Int32)} {N d : Nat} {S0 S : am_S} {s : kS} {y2 : Int32} {y3 : Int32} {y4 : Int32} {o1 : Option Value} {o5 : Option Value} {Q : Option (Option Value) → am_S → Prop} (hS : MK S0 S s) (kb : (∀ S1 (p1 : Option Value) (p5 : Option Value) (t : kS × Int32 × Int32), k265b16_70 s y2 y3 y4 = (0, t) → MK S0 S1 t.1 → am_L (am_PP sc) N d 265 16 [some (.ref 39), p1, some (.int y2), some (.int t.2.1), some (.int t.2.2), p5] [] S1 Q)) (kx102 : (∀ S1 (p1 : Option Value) (p5 : Option Value) (t : kS × Int32 × Int32), k265b16_70 s y2 y3 y4 = (1, t) → MK S0 S1 t.1 → am_L (am_PP sc) N d 265 102 [some (.ref 39), p1, some (.int y2), some (.int t.2.1), some (.int t.2.2), p5] [] S1 Q)) : am_L (am_PP sc) N d 265 70 [some (.ref 39), o1, some (.int y2), some (.int y3), some (.int y4), o5] [] S Q := by
  refine l2 (v := 39) hi_265_70 rfl ?_
  refine l0 hi_265_71 ?_
  refine l0 hi_265_73 ?_
  refine l1 (v := y3) hi_265_74 rfl ?_
  refine l10 hi_265_75 ?_
  show am_L _ _ _ _ _ [some (.ref 39), o1, some (.int y2), some (.int y3), some (.int y4), o5] [.int (2 * y3), .int 32, .ref 39] _ _
  refine l1 (v := y4) hi_265_76 rfl ?_
  refine l10 hi_265_78 ?_
  show am_L _ _ _ _ _ [some (.ref 39), o1, some (.int y2), some (.int y3), some (.int y4), o5] [.int ((2 * y3) + y4), .int 32, .ref 39] _ _
  refine l0 hi_265_79 ?_
  refine l2 (v := 39) hi_265_80 rfl ?_
  refine l20 (v := .ref 51) hS hi_265_81 rfl ?_
  refine l1 (v := y2) hi_265_84 rfl ?_
  refine l1 (v := y4) hi_265_85 rfl ?_
  refine l10 hi_265_87 ?_
  show am_L _ _ _ _ _ [some (.ref 39), o1, some (.int y2), some (.int y3), some (.int y4), o5] [.int (y2 + y4), .ref 51, .int 0, .int ((2 * y3) + y4), .int 32, .ref 39] _ _
  refine l25 hS ma_23 hi_265_88 fun g1 g2 => ?_
  show am_L _ _ _ _ _ [some (.ref 39), o1, some (.int y2), some (.int y3), some (.int y4), o5] [.int (kr s 23 (y2 + y4)), .int 0, .int ((2 * y3) + y4), .int 32, .ref 39] _ _
  refine l32 (as := [.ref 39, .int 32, .int ((2 * y3) + y4), .int 0, .int (kr s 23 (y2 + y4))]) (la := [some (.ref 39), some (.int 32), some (.int ((2 * y3) + y4)), some (.int 0), some (.int (kr s 23 (y2 + y4)))]) (rest := []) hi_265_89 (am_hd0 (M := 265) (by decide) 89) rfl rfl rfl (fun N' d' _ => lt189 (N := N') (d := d') hS) ?_ (fun _ q => nomatch q.1)
  rintro v5 S3 ⟨ev5, h4⟩
  cases ev5
  show am_L _ _ _ _ _ [some (.ref 39), o1, some (.int y2), some (.int y3), some (.int y4), o5] [.int ((k189 s 32 ((2 * y3) + y4) 0 (kr s 23 (y2 + y4))).2)] _ _
  refine l6i hi_265_92 ?_
  refine l5 (v := y3) (ls' := [some (.ref 39), o1, some (.int y2), some (.int (y3 + 1)), some (.int y4), o5]) hi_265_93 rfl rfl ?_
  have eq_ : k265b16_70 s y2 y3 y4 = k265b16_96 ((k189 s 32 ((2 * y3) + y4) 0 (kr s 23 (y2 + y4))).1) y2 (y3 + 1) y4 := rfl
  refine lb265_16_96 h4  ?_ ?_
  · intro S6 p10 p11 t7 e8 h9
    exact kb _ p10 p11 t7 (eq_.trans e8) h9
  · intro S12 p16 p17 t13 e14 h15
    exact kx102 _ p16 p17 t13 (eq_.trans e14) h15
def k265b16_38 (s : kS) (y2 : Int32) (y3 : Int32) (y4 : Int32) (y5 : Int32) : Nat × (kS × Int32 × Int32) := k265b16_96 ((k189 s (29 + y5) (kr s 22 (y2 + y4)) 0 (kr s 23 (y2 + y4))).1) y2 y3 y4
theorem lb265_16_38 {sc : Nat × (Nat → Int32)} {N d : Nat} {S0 S : am_S} {s : kS} {y2 : Int32} {y3 : Int32} {y4 : Int32} {y5 : Int32} {o1 : Option Value} {Q : Option (Option Value) → am_S → Prop} (hS : MK S0 S s) (kb : (∀ S1 (p1 : Option Value) (p5 : Option Value) (t : kS × Int32 × Int32), k265b16_38 s y2 y3 y4 y5 = (0, t) → MK S0 S1 t.1 → am_L (am_PP sc) N d 265 16 [some (.ref 39), p1, some (.int y2), some (.int t.2.1), some (.int t.2.2), p5] [] S1 Q)) (kx102 : (∀ S1 (p1 : Option Value) (p5 : Option Value) (t : kS × Int32 × Int32), k265b16_38 s y2 y3 y4 y5 = (1, t) → MK S0 S1 t.1 → am_L (am_PP sc) N d 265 102 [some (.ref 39), p1, some (.int y2), some (.int t.2.1), some (.int t.2.2), p5] [] S1 Q)) : am_L (am_PP sc) N d 265 38 [some (.ref 39), o1, some (.int y2), some (.int y3), some (.int y4), some (.int y5)] [] S Q := by
  refine l2 (v := 39) hi_265_38 rfl ?_
  refine l0 hi_265_39 ?_
  refine l1 (v := y5) hi_265_41 rfl ?_
  refine l10 hi_265_43 ?_
  show am_L _ _ _ _ _ [some (.ref 39), o1, some (.int y2), some (.int y3), some (.int y4), some (.int y5)] [.int (29 + y5), .ref 39] _ _
  refine l2 (v := 39) hi_265_44 rfl ?_
  refine l20 (v := .ref 50) hS hi_265_45 rfl ?_
  refine l1 (v := y2) hi_265_48 rfl ?_
  refine l1 (v := y4) hi_265_49 rfl ?_
  refine l10 hi_265_51 ?_
  show am_L _ _ _ _ _ [some (.ref 39), o1, some (.int y2), some (.int y3), some (.int y4), some (.int y5)] [.int (y2 + y4), .ref 50, .int (29 + y5), .ref 39] _ _
  refine l25 hS ma_22 hi_265_52 fun g1 g2 => ?_
  show am_L _ _ _ _ _ [some (.ref 39), o1, some (.int y2), some (.int y3), some (.int y4), some (.int y5)] [.int (kr s 22 (y2 + y4)), .int (29 + y5), .ref 39] _ _
  refine l0 hi_265_53 ?_
  refine l2 (v := 39) hi_265_54 rfl ?_
  refine l20 (v := .ref 51) hS hi_265_55 rfl ?_
  refine l1 (v := y2) hi_265_58 rfl ?_
  refine l1 (v := y4) hi_265_59 rfl ?_
  refine l10 hi_265_61 ?_
  show am_L _ _ _ _ _ [some (.ref 39), o1, some (.int y2), some (.int y3), some (.int y4), some (.int y5)] [.int (y2 + y4), .ref 51, .int 0, .int (kr s 22 (y2 + y4)), .int (29 + y5), .ref 39] _ _
  refine l25 hS ma_23 hi_265_62 fun g3 g4 => ?_
  show am_L _ _ _ _ _ [some (.ref 39), o1, some (.int y2), some (.int y3), some (.int y4), some (.int y5)] [.int (kr s 23 (y2 + y4)), .int 0, .int (kr s 22 (y2 + y4)), .int (29 + y5), .ref 39] _ _
  refine l32 (as := [.ref 39, .int (29 + y5), .int (kr s 22 (y2 + y4)), .int 0, .int (kr s 23 (y2 + y4))]) (la := [some (.ref 39), some (.int (29 + y5)), some (.int (kr s 22 (y2 + y4))), some (.int 0), some (.int (kr s 23 (y2 + y4)))]) (rest := []) hi_265_63 (am_hd0 (M := 265) (by decide) 63) rfl rfl rfl (fun N' d' _ => lt189 (N := N') (d := d') hS) ?_ (fun _ q => nomatch q.1)
  rintro v7 S5 ⟨ev7, h6⟩
  cases ev7
  show am_L _ _ _ _ _ [some (.ref 39), o1, some (.int y2), some (.int y3), some (.int y4), some (.int y5)] [.int ((k189 s (29 + y5) (kr s 22 (y2 + y4)) 0 (kr s 23 (y2 + y4))).2)] _ _
  refine l6i hi_265_66 ?_
  refine l18 hi_265_67 ?_
  have eq_ : k265b16_38 s y2 y3 y4 y5 = k265b16_96 ((k189 s (29 + y5) (kr s 22 (y2 + y4)) 0 (kr s 23 (y2 + y4))).1) y2 y3 y4 := rfl
  refine lb265_16_96 h6  ?_ ?_
  · intro S8 p12 p13 t9 e10 h11
    exact kb _ p12 p13 t9 (eq_.trans e10) h11
  · intro S14 p18 p19 t15 e16 h17
    exact kx102 _ p18 p19 t15 (eq_.trans e16) h17
def k265b16 (y2 : Int32) (t : kS × Int32 × Int32) : Nat × (kS × Int32 × Int32) := if t.2.2 < 0 then (1, (t.1, t.2.1, t.2.2)) else if 3 ≤ (kr t.1 21 (y2 + t.2.2)) then k265b16_70 t.1 y2 t.2.1 t.2.2 else k265b16_38 t.1 y2 t.2.1 t.2.2 (kr t.1 21 (y2 + t.2.2))
set_option maxRecDepth 100000 in
theorem lb265_16 {sc : Nat × (Nat → Int32)} {d : Nat} {S0 : am_S} {y2 : Int32} {Q : Option (Option Value) → am_S → Prop} : ∀ (N : Nat) (S : am_S) (o1 : Option Value) (o5 : Option Value) (t : kS × Int32 × Int32), MK S0 S t.1 → (∀ m S1 (p1 : Option Value) (p5 : Option Value), (kwh (k265b16 y2) m t).1 = 1 → MK S0 S1 (kwh (k265b16 y2) m t).2.1 → am_L (am_PP sc) N d 265 102 [some (.ref 39), p1, some (.int y2), some (.int ((kwh (k265b16 y2) m t).2.2.1)), some (.int ((kwh (k265b16 y2) m t).2.2.2)), p5] [] S1 Q) → am_L (am_PP sc) N d 265 16 [some (.ref 39), o1, some (.int y2), some (.int t.2.1), some (.int t.2.2), o5] [] S Q := by
  intro N
  induction N with
  | zero => intros; exact l_zero
  | succ N ih =>
    intro S o1 o5 t hS kx102
    refine l1d (v := t.2.2) hi_265_16 rfl ?_
    by_cases c1 : t.2.2 < 0
    · refine l12t hi_265_18 (decide_eq_true c1) ?_
      have e0 : (k265b16 y2) t = (1, (t.1, t.2.1, t.2.2)) := by unfold k265b16; rw [if_pos c1]
      have e1 : kwh (k265b16 y2) 1 t = (1, (t.1, t.2.1, t.2.2)) := by rw [kwh_out (by rw [e0]; exact Nat.succ_ne_zero _), e0]
      have q := kx102 1 _ o1 o5 (by rw [e1]) (by rw [e1]; exact hS)
      try rw [e1] at q
      exact q.less (Nat.le_succ N)
    · refine l12f hi_265_18 (decide_eq_false c1) ?_
      refine l2 (v := 39) hi_265_21 rfl ?_
      refine l20 (v := .ref 49) hS hi_265_22 rfl ?_
      refine l1 (v := y2) hi_265_25 rfl ?_
      refine l1 (v := t.2.2) hi_265_26 rfl ?_
      refine l10 hi_265_28 ?_
      show am_L _ _ _ _ _ [some (.ref 39), o1, some (.int y2), some (.int t.2.1), some (.int t.2.2), o5] [.int (y2 + t.2.2), .ref 49] _ _
      refine l25 hS ma_21 hi_265_29 fun g2 g3 => ?_
      show am_L _ _ _ _ _ [some (.ref 39), o1, some (.int y2), some (.int t.2.1), some (.int t.2.2), o5] [.int (kr t.1 21 (y2 + t.2.2))] _ _
      refine l3 (ls' := [some (.ref 39), o1, some (.int y2), some (.int t.2.1), some (.int t.2.2), some (.int (kr t.1 21 (y2 + t.2.2)))]) hi_265_30 (Nat.le_of_ble_eq_true rfl) rfl ?_
      refine l1 (v := kr t.1 21 (y2 + t.2.2)) hi_265_32 rfl ?_
      refine l0 hi_265_34 ?_
      by_cases c4 : 3 ≤ (kr t.1 21 (y2 + t.2.2))
      · refine l13t hi_265_35 (decide_eq_true c4) ?_
        have eq_ : (k265b16 y2) t = k265b16_70 t.1 y2 t.2.1 t.2.2 := by unfold k265b16; rw [if_neg c1]; rw [if_pos c4]
        refine lb265_16_70 hS  ?_ ?_
        · intro S5 p9 p10 t6 e7 h8
          have e0 : (k265b16 y2) t = (0, t6) := eq_.trans e7
          have e1 : ∀ m, kwh (k265b16 y2) (m + 1) t = kwh (k265b16 y2) m t6 := fun m => by rw [kwh_go (by rw [e0]), e0]
          exact ih _ p9 p10 t6 h8 (fun m S1 p1 p5 hm h1 => by have q := kx102 (m + 1) S1 p1 p5 (by rw [e1]; exact hm) (by rw [e1]; exact h1); (try rw [e1] at q); exact q.less (Nat.le_succ N))
        · intro S11 p15 p16 t12 e13 h14
          have e0 : (k265b16 y2) t = (1, t12) := eq_.trans e13
          have e1 : kwh (k265b16 y2) 1 t = (1, t12) := by rw [kwh_out (by rw [e0]; exact Nat.succ_ne_zero _), e0]
          have q := kx102 1 _ p15 p16 (by rw [e1]) (by rw [e1]; exact h14)
          try rw [e1] at q
          exact q.less (Nat.le_succ N)
      · refine l13f hi_265_35 (decide_eq_false c4) ?_
        have eq_ : (k265b16 y2) t = k265b16_38 t.1 y2 t.2.1 t.2.2 (kr t.1 21 (y2 + t.2.2)) := by unfold k265b16; rw [if_neg c1]; rw [if_neg c4]
        refine lb265_16_38 hS  ?_ ?_
        · intro S17 p21 p22 t18 e19 h20
          have e0 : (k265b16 y2) t = (0, t18) := eq_.trans e19
          have e1 : ∀ m, kwh (k265b16 y2) (m + 1) t = kwh (k265b16 y2) m t18 := fun m => by rw [kwh_go (by rw [e0]), e0]
          exact ih _ p21 p22 t18 h20 (fun m S1 p1 p5 hm h1 => by have q := kx102 (m + 1) S1 p1 p5 (by rw [e1]; exact hm) (by rw [e1]; exact h1); (try rw [e1] at q); exact q.less (Nat.le_succ N))
        · intro S23 p27 p28 t24 e25 h26
          have e0 : (k265b16 y2) t = (1, t24) := eq_.trans e25
          have e1 : kwh (k265b16 y2) 1 t = (1, t24) := by rw [kwh_out (by rw [e0]; exact Nat.succ_ne_zero _), e0]
          have q := kx102 1 _ p27 p28 (by rw [e1]) (by rw [e1]; exact h26)
          try rw [e1] at q
          exact q.less (Nat.le_succ N)
noncomputable def k265_117 (s : kS) (y2 : Int32) (z0 : Int32) : kS × Int32 := (kf s 20 y2, 0)
theorem lt265_117 {sc : Nat × (Nat → Int32)} {N d : Nat} {S0 S : am_S} {s : kS} {y2 : Int32} {z0 : Int32} {o1 : Option Value} {o3 : Option Value} {o4 : Option Value} {o5 : Option Value} (hS : MK S0 S s) : am_L (am_PP sc) N d 265 117 [some (.ref 39), o1, some (.int y2), o3, o4, o5] [.int z0] S (fun o S1 => o = some none ∧ MK S0 S1 (k265_117 s y2 z0).1) := by
  refine l6i hi_265_117 ?_
  refine l2 (v := 39) hi_265_118 rfl ?_
  refine l1 (v := y2) hi_265_119 rfl ?_
  refine l21 hS hi_265_120 ms_20 fun S1 h2 => ?_
  refine l35 hi_265_123 ⟨rfl, ?_⟩
  exact h2
noncomputable def k265_9 (s : kS) (y1 : Int32) (y2 : Int32) : kS × Int32 := if ((kfin (k265b16 y2) (s, 0, y1 - 1)).2.2.1) ≤ 0 then (kf ((kfin (k265b16 y2) (s, 0, y1 - 1)).2.1) 20 y2, 0) else k265_117 ((k189 ((kfin (k265b16 y2) (s, 0, y1 - 1)).2.1) 26 (2 * ((kfin (k265b16 y2) (s, 0, y1 - 1)).2.2.1)) 0 0).1) y2 ((k189 ((kfin (k265b16 y2) (s, 0, y1 - 1)).2.1) 26 (2 * ((kfin (k265b16 y2) (s, 0, y1 - 1)).2.2.1)) 0 0).2)
theorem lt265_9 {sc : Nat × (Nat → Int32)} {N d : Nat} {S0 S : am_S} {s : kS} {y1 : Int32} {y2 : Int32} {o3 : Option Value} {o4 : Option Value} {o5 : Option Value} (hS : MK S0 S s) : am_L (am_PP sc) N d 265 9 [some (.ref 39), some (.int y1), some (.int y2), o3, o4, o5] [] S (fun o S1 => o = some none ∧ MK S0 S1 (k265_9 s y1 y2).1) := by
  refine l0 hi_265_9 ?_
  refine l3 (ls' := [some (.ref 39), some (.int y1), some (.int y2), some (.int 0), o4, o5]) hi_265_10 (Nat.le_of_ble_eq_true rfl) rfl ?_
  refine l1 (v := y1) hi_265_11 rfl ?_
  refine l0 hi_265_12 ?_
  refine l10 hi_265_13 ?_
  show am_L _ _ _ _ _ [some (.ref 39), some (.int y1), some (.int y2), some (.int 0), o4, o5] [.int (y1 - 1)] _ _
  refine l3 (ls' := [some (.ref 39), some (.int y1), some (.int y2), some (.int 0), some (.int (y1 - 1)), o5]) hi_265_14 (Nat.le_of_ble_eq_true rfl) rfl ?_
  refine lb265_16 N _ (some (.int y1)) o5 (s, 0, y1 - 1) hS ?_
  · intro m1 S2 p6 p7 hm3 h4
    have hf5 : kfin (k265b16 y2) (s, 0, y1 - 1) = kwh (k265b16 y2) m1 (s, 0, y1 - 1) := kfin_eq (by rw [hm3]; decide)
    rw [← hf5] at hm3 h4
    try rw [← hf5]
    refine l1 (v := (kfin (k265b16 y2) (s, 0, y1 - 1)).2.2.1) hi_265_102 rfl ?_
    by_cases c8 : ((kfin (k265b16 y2) (s, 0, y1 - 1)).2.2.1) ≤ 0
    · refine l12t hi_265_103 (decide_eq_true c8) ?_
      refine l2 (v := 39) hi_265_118 rfl ?_
      refine l1 (v := y2) hi_265_119 rfl ?_
      refine l21 h4 hi_265_120 ms_20 fun S9 h10 => ?_
      refine l35 hi_265_123 ⟨rfl, ?_⟩
      unfold k265_9; rw [if_pos c8]; exact h10
    · refine l12f hi_265_103 (decide_eq_false c8) ?_
      refine l2 (v := 39) hi_265_106 rfl ?_
      refine l0 hi_265_107 ?_
      refine l0 hi_265_109 ?_
      refine l1 (v := (kfin (k265b16 y2) (s, 0, y1 - 1)).2.2.1) hi_265_110 rfl ?_
      refine l10 hi_265_111 ?_
      show am_L _ _ _ _ _ [some (.ref 39), p6, some (.int y2), some (.int ((kfin (k265b16 y2) (s, 0, y1 - 1)).2.2.1)), some (.int ((kfin (k265b16 y2) (s, 0, y1 - 1)).2.2.2)), p7] [.int (2 * ((kfin (k265b16 y2) (s, 0, y1 - 1)).2.2.1)), .int 26, .ref 39] _ _
      refine l0 hi_265_112 ?_
      refine l0 hi_265_113 ?_
      refine l32 (as := [.ref 39, .int 26, .int (2 * ((kfin (k265b16 y2) (s, 0, y1 - 1)).2.2.1)), .int 0, .int 0]) (la := [some (.ref 39), some (.int 26), some (.int (2 * ((kfin (k265b16 y2) (s, 0, y1 - 1)).2.2.1))), some (.int 0), some (.int 0)]) (rest := []) hi_265_114 (am_hd0 (M := 265) (by decide) 114) rfl rfl rfl (fun N' d' _ => lt189 (N := N') (d := d') h4) ?_ (fun _ q => nomatch q.1)
      rintro v13 S11 ⟨ev13, h12⟩
      cases ev13
      show am_L _ _ _ _ _ [some (.ref 39), p6, some (.int y2), some (.int ((kfin (k265b16 y2) (s, 0, y1 - 1)).2.2.1)), some (.int ((kfin (k265b16 y2) (s, 0, y1 - 1)).2.2.2)), p7] [.int ((k189 ((kfin (k265b16 y2) (s, 0, y1 - 1)).2.1) 26 (2 * ((kfin (k265b16 y2) (s, 0, y1 - 1)).2.2.1)) 0 0).2)] _ _
      refine am_L.mono (lt265_117 h12) ?_
      rintro o S1 ⟨e, h⟩
      have q : k265_9 s y1 y2 = k265_117 ((k189 ((kfin (k265b16 y2) (s, 0, y1 - 1)).2.1) 26 (2 * ((kfin (k265b16 y2) (s, 0, y1 - 1)).2.2.1)) 0 0).1) y2 ((k189 ((kfin (k265b16 y2) (s, 0, y1 - 1)).2.1) 26 (2 * ((kfin (k265b16 y2) (s, 0, y1 - 1)).2.2.1)) 0 0).2) := by unfold k265_9; rw [if_neg c8]
      rw [q]; exact ⟨e, h⟩
/-- assign(II)V -/
noncomputable def k265 (s : kS) (x1 : Int32) (x2 : Int32) : kS × Int32 := k265_9 ((k258 s x1 (s.1 19)).1) x1 x2
theorem lt265 {sc : Nat × (Nat → Int32)} {N d : Nat} {S0 S : am_S} {s : kS} {x1 : Int32} {x2 : Int32} (hS : MK S0 S s) : am_L (am_PP sc) N d 265 0 [some (.ref 39), some (.int x1), some (.int x2), none, none, none] [] S (fun o S1 => o = some none ∧ MK S0 S1 (k265 s x1 x2).1) := by
  refine l2 (v := 39) hi_265_0 rfl ?_
  refine l1 (v := x1) hi_265_1 rfl ?_
  refine l2 (v := 39) hi_265_2 rfl ?_
  refine l20 (v := .int (s.1 19)) hS hi_265_3 rfl ?_
  refine l32 (as := [.ref 39, .int x1, .int (s.1 19)]) (la := [some (.ref 39), some (.int x1), some (.int (s.1 19))]) (rest := []) hi_265_6 (am_hd0 (M := 265) (by decide) 6) rfl rfl rfl (fun N' d' _ => lt258 (N := N') (d := d') hS) ?_ (fun _ q => nomatch q.1)
  rintro v3 S1 ⟨ev3, h2⟩
  cases ev3
  show am_L _ _ _ _ _ [some (.ref 39), some (.int x1), some (.int x2), none, none, none] [] _ _
  refine am_L.mono (lt265_9 h2) ?_
  rintro o S1 ⟨e, h⟩
  have q : k265 s x1 x2 = k265_9 ((k258 s x1 (s.1 19)).1) x1 x2 := rfl
  rw [q]; exact ⟨e, h⟩
noncomputable def k180_123 (s : kS) : kS × Int32 := ((k199 s 15).1, 0)
theorem lt180_123 {sc : Nat × (Nat → Int32)} {N d : Nat} {S0 S : am_S} {s : kS} {o1 : Option Value} {o2 : Option Value} {o3 : Option Value} {o4 : Option Value} (hS : MK S0 S s) : am_L (am_PP sc) N d 180 123 [some (.ref 39), o1, o2, o3, o4] [] S (fun o S1 => o = some none ∧ MK S0 S1 (k180_123 s).1) := by
  refine l2 (v := 39) hi_180_123 rfl ?_
  refine l0 hi_180_124 ?_
  refine l32 (as := [.ref 39, .int 15]) (la := [some (.ref 39), some (.int 15)]) (rest := []) hi_180_126 (am_hd0 (M := 180) (by decide) 126) rfl rfl rfl (fun N' d' _ => lt199 (N := N') (d := d') hS) ?_ (fun _ q => nomatch q.1)
  rintro v3 S1 ⟨ev3, h2⟩
  cases ev3
  show am_L _ _ _ _ _ [some (.ref 39), o1, o2, o3, o4] [.int ((k199 s 15).2)] _ _
  refine l6i hi_180_129 ?_
  refine l18 hi_180_130 ?_
  refine l35 hi_180_371 ⟨rfl, ?_⟩
  exact h2
noncomputable def k180_171 (s : kS) : kS × Int32 := ((k186 s 0).1, 0)
theorem lt180_171 {sc : Nat × (Nat → Int32)} {N d : Nat} {S0 S : am_S} {s : kS} {o1 : Option Value} {o2 : Option Value} {o3 : Option Value} {o4 : Option Value} (hS : MK S0 S s) : am_L (am_PP sc) N d 180 171 [some (.ref 39), o1, o2, o3, o4] [] S (fun o S1 => o = some none ∧ MK S0 S1 (k180_171 s).1) := by
  refine l2 (v := 39) hi_180_171 rfl ?_
  refine l0 hi_180_172 ?_
  refine l32 (as := [.ref 39, .int 0]) (la := [some (.ref 39), some (.int 0)]) (rest := []) hi_180_173 (am_hd0 (M := 180) (by decide) 173) rfl rfl rfl (fun N' d' _ => lt186 (N := N') (d := d') hS) ?_ (fun _ q => nomatch q.1)
  rintro v3 S1 ⟨ev3, h2⟩
  cases ev3
  show am_L _ _ _ _ _ [some (.ref 39), o1, o2, o3, o4] [] _ _
  refine l18 hi_180_176 ?_
  refine l35 hi_180_371 ⟨rfl, ?_⟩
  exact h2
noncomputable def k180_156 (s : kS) (y2 : Int32) (z0 : Int32) : kS × Int32 := if z0 ≠ 0 then k180_171 ((k179 s 6 y2 0 0).1) else (s, 0)
theorem lt180_156 {sc : Nat × (Nat → Int32)} {N d : Nat} {S0 S : am_S} {s : kS} {y2 : Int32} {z0 : Int32} {o1 : Option Value} {o3 : Option Value} {o4 : Option Value} (hS : MK S0 S s) : am_L (am_PP sc) N d 180 156 [some (.ref 39), o1, some (.int y2), o3, o4] [.int z0] S (fun o S1 => o = some none ∧ MK S0 S1 (k180_156 s y2 z0).1) := by
  by_cases c1 : z0 ≠ 0
  · refine l12t hi_180_156 (decide_eq_true c1) ?_
    refine l2 (v := 39) hi_180_162 rfl ?_
    refine l0 hi_180_163 ?_
    refine l1 (v := y2) hi_180_165 rfl ?_
    refine l0 hi_180_166 ?_
    refine l0 hi_180_167 ?_
    refine l32 (as := [.ref 39, .int 6, .int y2, .int 0, .int 0]) (la := [some (.ref 39), some (.int 6), some (.int y2), some (.int 0), some (.int 0)]) (rest := []) hi_180_168 (am_hd0 (M := 180) (by decide) 168) rfl rfl rfl (fun N' d' _ => lt179 (N := N') (d := d') hS) ?_ (fun _ q => nomatch q.1)
    rintro v4 S2 ⟨ev4, h3⟩
    cases ev4
    show am_L _ _ _ _ _ [some (.ref 39), o1, some (.int y2), o3, o4] [] _ _
    refine am_L.mono (lt180_171 h3) ?_
    rintro o S1 ⟨e, h⟩
    have q : k180_156 s y2 z0 = k180_171 ((k179 s 6 y2 0 0).1) := by unfold k180_156; rw [if_pos c1]
    rw [q]; exact ⟨e, h⟩
  · refine l12f hi_180_156 (decide_eq_false c1) ?_
    refine l18 hi_180_159 ?_
    refine l35 hi_180_371 ⟨rfl, ?_⟩
    unfold k180_156; rw [if_neg c1]; exact hS
noncomputable def k180_213 (s : kS) : kS × Int32 := ((k199 s 15).1, 0)
theorem lt180_213 {sc : Nat × (Nat → Int32)} {N d : Nat} {S0 S : am_S} {s : kS} {o1 : Option Value} {o2 : Option Value} {o3 : Option Value} {o4 : Option Value} (hS : MK S0 S s) : am_L (am_PP sc) N d 180 213 [some (.ref 39), o1, o2, o3, o4] [] S (fun o S1 => o = some none ∧ MK S0 S1 (k180_213 s).1) := by
  refine l2 (v := 39) hi_180_213 rfl ?_
  refine l0 hi_180_214 ?_
  refine l32 (as := [.ref 39, .int 15]) (la := [some (.ref 39), some (.int 15)]) (rest := []) hi_180_216 (am_hd0 (M := 180) (by decide) 216) rfl rfl rfl (fun N' d' _ => lt199 (N := N') (d := d') hS) ?_ (fun _ q => nomatch q.1)
  rintro v3 S1 ⟨ev3, h2⟩
  cases ev3
  show am_L _ _ _ _ _ [some (.ref 39), o1, o2, o3, o4] [.int ((k199 s 15).2)] _ _
  refine l6i hi_180_219 ?_
  refine l18 hi_180_220 ?_
  refine l35 hi_180_371 ⟨rfl, ?_⟩
  exact h2
noncomputable def k180_208 (s : kS) (y2 : Int32) : kS × Int32 := k180_213 ((k250 s y2).1)
theorem lt180_208 {sc : Nat × (Nat → Int32)} {N d : Nat} {S0 S : am_S} {s : kS} {y2 : Int32} {o1 : Option Value} {o3 : Option Value} {o4 : Option Value} (hS : MK S0 S s) : am_L (am_PP sc) N d 180 208 [some (.ref 39), o1, some (.int y2), o3, o4] [] S (fun o S1 => o = some none ∧ MK S0 S1 (k180_208 s y2).1) := by
  refine l2 (v := 39) hi_180_208 rfl ?_
  refine l1 (v := y2) hi_180_209 rfl ?_
  refine l32 (as := [.ref 39, .int y2]) (la := [some (.ref 39), some (.int y2), none, none]) (rest := []) hi_180_210 (am_hd0 (M := 180) (by decide) 210) rfl rfl rfl (fun N' d' _ => lt250 (N := N') (d := d') hS) ?_ (fun _ q => nomatch q.1)
  rintro v3 S1 ⟨ev3, h2⟩
  cases ev3
  show am_L _ _ _ _ _ [some (.ref 39), o1, some (.int y2), o3, o4] [] _ _
  refine am_L.mono (lt180_213 h2) ?_
  rintro o S1 ⟨e, h⟩
  have q : k180_208 s y2 = k180_213 ((k250 s y2).1) := rfl
  rw [q]; exact ⟨e, h⟩
noncomputable def k180_243 (s : kS) (y2 : Int32) : kS × Int32 := ((k253 s y2).1, 0)
theorem lt180_243 {sc : Nat × (Nat → Int32)} {N d : Nat} {S0 S : am_S} {s : kS} {y2 : Int32} {o1 : Option Value} {o3 : Option Value} {o4 : Option Value} (hS : MK S0 S s) : am_L (am_PP sc) N d 180 243 [some (.ref 39), o1, some (.int y2), o3, o4] [] S (fun o S1 => o = some none ∧ MK S0 S1 (k180_243 s y2).1) := by
  refine l2 (v := 39) hi_180_243 rfl ?_
  refine l1 (v := y2) hi_180_244 rfl ?_
  refine l32 (as := [.ref 39, .int y2]) (la := [some (.ref 39), some (.int y2), none, none, none]) (rest := []) hi_180_245 (am_hd0 (M := 180) (by decide) 245) rfl rfl rfl (fun N' d' _ => lt253 (N := N') (d := d') hS) ?_ (fun _ q => nomatch q.1)
  rintro v3 S1 ⟨ev3, h2⟩
  cases ev3
  show am_L _ _ _ _ _ [some (.ref 39), o1, some (.int y2), o3, o4] [] _ _
  refine l18 hi_180_248 ?_
  refine l35 hi_180_371 ⟨rfl, ?_⟩
  exact h2
noncomputable def k180_332 (s : kS) (y2 : Int32) (y3 : Int32) : kS × Int32 := ((k241 s y2 y3).1, 0)
theorem lt180_332 {sc : Nat × (Nat → Int32)} {N d : Nat} {S0 S : am_S} {s : kS} {y2 : Int32} {y3 : Int32} {o1 : Option Value} {o4 : Option Value} (hS : MK S0 S s) : am_L (am_PP sc) N d 180 332 [some (.ref 39), o1, some (.int y2), some (.int y3), o4] [] S (fun o S1 => o = some none ∧ MK S0 S1 (k180_332 s y2 y3).1) := by
  refine l2 (v := 39) hi_180_332 rfl ?_
  refine l1 (v := y2) hi_180_333 rfl ?_
  refine l1 (v := y3) hi_180_334 rfl ?_
  refine l32 (as := [.ref 39, .int y2, .int y3]) (la := [some (.ref 39), some (.int y2), some (.int y3), none, none, none]) (rest := []) hi_180_335 (am_hd0 (M := 180) (by decide) 335) rfl rfl rfl (fun N' d' _ => lt241 (N := N') (d := d') hS) ?_ (fun _ q => nomatch q.1)
  rintro v3 S1 ⟨ev3, h2⟩
  cases ev3
  show am_L _ _ _ _ _ [some (.ref 39), o1, some (.int y2), some (.int y3), o4] [] _ _
  refine l18 hi_180_338 ?_
  refine l35 hi_180_371 ⟨rfl, ?_⟩
  exact h2
