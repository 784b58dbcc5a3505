/-! THE REFERENCE: what each method does (printed by wip/p5/lw.py) -/
/-- isFollower(I)Z -/
def k226 (s : kS) (x1 : Int32) : Int32 := if x1 = (-1) then 1 else if x1 = 15 then 1 else if x1 = 13 then 1 else if x1 = 14 then 1 else if x1 ≠ 30 then 0 else 1
theorem lt226 {sc : Nat × (Nat → Int32)} {N d : Nat} {S0 S : am_S} {s : kS} {x1 : Int32} (hS : MK S0 S s) : am_L (am_PP sc) N d 226 0 [some (.int x1)] [] S (fun o S1 => o = some (some (.int (k226 s x1))) ∧ MK S0 S1 s) := by
  refine l1 (v := x1) hi_226_0 rfl ?_
  refine l0 hi_226_1 ?_
  by_cases c1 : x1 = (-1)
  · refine l13t hi_226_2 (decide_eq_true c1) ?_
    refine l0 hi_226_29 ?_
    refine l18 hi_226_30 ?_
    refine l36 hi_226_34 fun _ => ⟨?_, ?_⟩
    · unfold k226; rw [if_pos c1]
    · exact hS
  · refine l13f hi_226_2 (decide_eq_false c1) ?_
    refine l1 (v := x1) hi_226_5 rfl ?_
    refine l0 hi_226_6 ?_
    by_cases c2 : x1 = 15
    · refine l13t hi_226_8 (decide_eq_true c2) ?_
      refine l0 hi_226_29 ?_
      refine l18 hi_226_30 ?_
      refine l36 hi_226_34 fun _ => ⟨?_, ?_⟩
      · unfold k226; rw [if_neg c1]; rw [if_pos c2]
      · exact hS
    · refine l13f hi_226_8 (decide_eq_false c2) ?_
      refine l1 (v := x1) hi_226_11 rfl ?_
      refine l0 hi_226_12 ?_
      by_cases c3 : x1 = 13
      · refine l13t hi_226_14 (decide_eq_true c3) ?_
        refine l0 hi_226_29 ?_
        refine l18 hi_226_30 ?_
        refine l36 hi_226_34 fun _ => ⟨?_, ?_⟩
        · unfold k226; rw [if_neg c1]; rw [if_neg c2]; rw [if_pos c3]
        · exact hS
      · refine l13f hi_226_14 (decide_eq_false c3) ?_
        refine l1 (v := x1) hi_226_17 rfl ?_
        refine l0 hi_226_18 ?_
        by_cases c4 : x1 = 14
        · refine l13t hi_226_20 (decide_eq_true c4) ?_
          refine l0 hi_226_29 ?_
          refine l18 hi_226_30 ?_
          refine l36 hi_226_34 fun _ => ⟨?_, ?_⟩
          · unfold k226; rw [if_neg c1]; rw [if_neg c2]; rw [if_neg c3]; rw [if_pos c4]
          · exact hS
        · refine l13f hi_226_20 (decide_eq_false c4) ?_
          refine l1 (v := x1) hi_226_23 rfl ?_
          refine l0 hi_226_24 ?_
          by_cases c5 : x1 ≠ 30
          · refine l13t hi_226_26 (decide_eq_true c5) ?_
            refine l0 hi_226_33 ?_
            refine l36 hi_226_34 fun _ => ⟨?_, ?_⟩
            · unfold k226; rw [if_neg c1]; rw [if_neg c2]; rw [if_neg c3]; rw [if_neg c4]; rw [if_pos c5]
            · exact hS
          · refine l13f hi_226_26 (decide_eq_false c5) ?_
            refine l0 hi_226_29 ?_
            refine l18 hi_226_30 ?_
            refine l36 hi_226_34 fun _ => ⟨?_, ?_⟩
            · unfold k226; rw [if_neg c1]; rw [if_neg c2]; rw [if_neg c3]; rw [if_neg c4]; rw [if_neg c5]
            · exact hS
def k227_43 (s : kS) (y1 : Int32) : kS × Int32 := ((k189 s 45 0 0 y1).1, 0)
theorem lt227_43 {sc : Nat × (Nat → Int32)} {N d : Nat} {S0 S : am_S} {s : kS} {y1 : Int32} (hS : MK S0 S s) : am_L (am_PP sc) N d 227 43 [some (.ref 39), some (.int y1)] [] S (fun o S1 => o = some none ∧ MK S0 S1 (k227_43 s y1).1) := by
  refine l2 (v := 39) hi_227_43 rfl ?_
  refine l0 hi_227_44 ?_
  refine l0 hi_227_46 ?_
  refine l0 hi_227_47 ?_
  refine l1 (v := y1) hi_227_48 rfl ?_
  refine l32 (as := [.ref 39, .int 45, .int 0, .int 0, .int y1]) (la := [some (.ref 39), some (.int 45), some (.int 0), some (.int 0), some (.int y1)]) (rest := []) hi_227_49 (am_hd0 (M := 227) (by decide) 49) rfl rfl rfl (fun N' d' _ => lt189 (N := N') (d := d') hS) ?_ (fun _ q => nomatch q.1)
  rintro v3 S1 ⟨ev3, h2⟩
  cases ev3
  show am_L _ _ _ _ _ [some (.ref 39), some (.int y1)] [.int ((k189 s 45 0 0 y1).2)] _ _
  refine l6i hi_227_52 ?_
  refine l18 hi_227_53 ?_
  refine l35 hi_227_69 ⟨rfl, ?_⟩
  exact h2
def k227_24 (s : kS) (y1 : Int32) : kS × Int32 := if (k226 s (k183 s)) ≠ 0 then k227_43 s y1 else if (k183 s) ≠ 67 then ((k214 ((k179 s 19 y1 0 0).1)).1, 0) else k227_43 s y1
theorem lt227_24 {sc : Nat × (Nat → Int32)} {N d : Nat} {S0 S : am_S} {s : kS} {y1 : Int32} (hS : MK S0 S s) : am_L (am_PP sc) N d 227 24 [some (.ref 39), some (.int y1)] [] S (fun o S1 => o = some none ∧ MK S0 S1 (k227_24 s y1).1) := by
  refine l2 (v := 39) hi_227_24 rfl ?_
  refine l32 (as := [.ref 39]) (la := [some (.ref 39)]) (rest := []) hi_227_25 (am_hd0 (M := 227) (by decide) 25) rfl rfl rfl (fun N' d' _ => lt183 (N := N') (d := d') hS) ?_ (fun _ q => nomatch q.1)
  rintro v3 S1 ⟨ev3, h2⟩
  cases ev3
  show am_L _ _ _ _ _ [some (.ref 39), some (.int y1)] [.int (k183 s)] _ _
  refine l32 (as := [.int (k183 s)]) (la := [some (.int (k183 s))]) (rest := []) hi_227_28 (am_hd0 (M := 227) (by decide) 28) rfl rfl rfl (fun N' d' _ => lt226 (N := N') (d := d') h2) ?_ (fun _ q => nomatch q.1)
  rintro v6 S4 ⟨ev6, h5⟩
  cases ev6
  show am_L _ _ _ _ _ [some (.ref 39), some (.int y1)] [.int (k226 s (k183 s))] _ _
  by_cases c7 : (k226 s (k183 s)) ≠ 0
  · refine l12t hi_227_31 (decide_eq_true c7) ?_
    refine am_L.mono (lt227_43 h5) ?_
    rintro o S1 ⟨e, h⟩
    have q : k227_24 s y1 = k227_43 s y1 := by unfold k227_24; rw [if_pos c7]
    rw [q]; exact ⟨e, h⟩
  · refine l12f hi_227_31 (decide_eq_false c7) ?_
    refine l2 (v := 39) hi_227_34 rfl ?_
    refine l32 (as := [.ref 39]) (la := [some (.ref 39)]) (rest := []) hi_227_35 (am_hd0 (M := 227) (by decide) 35) rfl rfl rfl (fun N' d' _ => lt183 (N := N') (d := d') h5) ?_ (fun _ q => nomatch q.1)
    rintro v10 S8 ⟨ev10, h9⟩
    cases ev10
    show am_L _ _ _ _ _ [some (.ref 39), some (.int y1)] [.int (k183 s)] _ _
    refine l0 hi_227_38 ?_
    by_cases c11 : (k183 s) ≠ 67
    · refine l13t hi_227_40 (decide_eq_true c11) ?_
      refine l2 (v := 39) hi_227_56 rfl ?_
      refine l0 hi_227_57 ?_
      refine l1 (v := y1) hi_227_59 rfl ?_
      refine l0 hi_227_60 ?_
      refine l0 hi_227_61 ?_
      refine l32 (as := [.ref 39, .int 19, .int y1, .int 0, .int 0]) (la := [some (.ref 39), some (.int 19), some (.int y1), some (.int 0), some (.int 0)]) (rest := []) hi_227_62 (am_hd0 (M := 227) (by decide) 62) rfl rfl rfl (fun N' d' _ => lt179 (N := N') (d := d') h9) ?_ (fun _ q => nomatch q.1)
      rintro v14 S12 ⟨ev14, h13⟩
      cases ev14
      show am_L _ _ _ _ _ [some (.ref 39), some (.int y1)] [] _ _
      refine l2 (v := 39) hi_227_65 rfl ?_
      refine l32 (as := [.ref 39]) (la := [some (.ref 39)]) (rest := []) hi_227_66 (am_hd0 (M := 227) (by decide) 66) rfl rfl rfl (fun N' d' _ => lt214 (N := N') (d := d') h13) ?_ (fun _ q => nomatch q.1)
      rintro v17 S15 ⟨ev17, h16⟩
      cases ev17
      show am_L _ _ _ _ _ [some (.ref 39), some (.int y1)] [] _ _
      refine l35 hi_227_69 ⟨rfl, ?_⟩
      unfold k227_24; rw [if_neg c7]; rw [if_pos c11]; exact h16
    · refine l13f hi_227_40 (decide_eq_false c11) ?_
      refine am_L.mono (lt227_43 h9) ?_
      rintro o S1 ⟨e, h⟩
      have q : k227_24 s y1 = k227_43 s y1 := by unfold k227_24; rw [if_neg c7]; rw [if_neg c11]
      rw [q]; exact ⟨e, h⟩
/-- giveBack()V -/
def k227 (s : kS) : kS × Int32 := k227_24 ((k179 (kf s 4 ((s.1 4) + 1)) 20 0 0 0).1) (s.1 4)
theorem lt227 {sc : Nat × (Nat → Int32)} {N d : Nat} {S0 S : am_S} {s : kS} (hS : MK S0 S s) : am_L (am_PP sc) N d 227 0 [some (.ref 39), none] [] S (fun o S1 => o = some none ∧ MK S0 S1 (k227 s).1) := by
  refine l2 (v := 39) hi_227_0 rfl ?_
  refine l20 (v := .int (s.1 4)) hS hi_227_1 rfl ?_
  refine l3 (ls' := [some (.ref 39), some (.int (s.1 4))]) hi_227_4 (Nat.le_of_ble_eq_true rfl) rfl ?_
  refine l2 (v := 39) hi_227_5 rfl ?_
  refine l7 hi_227_6 ?_
  refine l20 (v := .int (s.1 4)) hS hi_227_7 rfl ?_
  refine l0 hi_227_10 ?_
  refine l10 hi_227_11 ?_
  show am_L _ _ _ _ _ [some (.ref 39), some (.int (s.1 4))] [.int ((s.1 4) + 1), .ref 39] _ _
  refine l21 hS hi_227_12 ms_4 fun S1 h2 => ?_
  refine l2 (v := 39) hi_227_15 rfl ?_
  refine l0 hi_227_16 ?_
  refine l0 hi_227_18 ?_
  refine l0 hi_227_19 ?_
  refine l0 hi_227_20 ?_
  refine l32 (as := [.ref 39, .int 20, .int 0, .int 0, .int 0]) (la := [some (.ref 39), some (.int 20), some (.int 0), some (.int 0), some (.int 0)]) (rest := []) hi_227_21 (am_hd0 (M := 227) (by decide) 21) rfl rfl rfl (fun N' d' _ => lt179 (N := N') (d := d') h2) ?_ (fun _ q => nomatch q.1)
  rintro v5 S3 ⟨ev5, h4⟩
  cases ev5
  show am_L _ _ _ _ _ [some (.ref 39), some (.int (s.1 4))] [] _ _
  refine am_L.mono (lt227_24 h4) ?_
  rintro o S1 ⟨e, h⟩
  have q : k227 s = k227_24 ((k179 (kf s 4 ((s.1 4) + 1)) 20 0 0 0).1) (s.1 4) := rfl
  rw [q]; exact ⟨e, h⟩
def k230b7 (s : kS) (y1 : Int32) (t : Int32) : Nat × (Int32) := if t < (kr s 35 (s.1 32)) then (1, t) else if (kr s 45 t) = y1 then (1, t) else (0, (t + (-1)))
theorem lb230_7 {sc : Nat × (Nat → Int32)} {d : Nat} {S0 : am_S} {s : kS} {y1 : Int32} {Q : Option (Option Value) → am_S → Prop} : ∀ (N : Nat) (S : am_S) (t : Int32), MK S0 S s → (∀ m S1, (kwh (k230b7 s y1) m t).1 = 1 → MK S0 S1 s → am_L (am_PP sc) N d 230 36 [some (.ref 39), some (.int y1), some (.int ((kwh (k230b7 s y1) m t).2))] [] S1 Q) → am_L (am_PP sc) N d 230 7 [some (.ref 39), some (.int y1), some (.int t)] [] S Q := by
  intro N
  induction N with
  | zero => intros; exact l_zero
  | succ N ih =>
    intro S t hS kx36
    refine l1d (v := t) hi_230_7 rfl ?_
    refine l2 (v := 39) hi_230_8 rfl ?_
    refine l20 (v := .ref 60) hS hi_230_9 rfl ?_
    refine l2 (v := 39) hi_230_12 rfl ?_
    refine l20 (v := .int (s.1 32)) hS hi_230_13 rfl ?_
    refine l25 hS ma_35 hi_230_16 fun g1 g2 => ?_
    show am_L _ _ _ _ _ [some (.ref 39), some (.int y1), some (.int t)] [.int (kr s 35 (s.1 32)), .int t] _ _
    by_cases c3 : t < (kr s 35 (s.1 32))
    · refine l13t hi_230_17 (decide_eq_true c3) ?_
      have e0 : (k230b7 s y1) t = (1, t) := by unfold k230b7; rw [if_pos c3]
      have e1 : kwh (k230b7 s y1) 1 t = (1, t) := by rw [kwh_out (by rw [e0]; exact Nat.succ_ne_zero _), e0]
      have q := kx36 1 _  (by rw [e1]) (by exact hS)
      try rw [e1] at q
      exact q.less (Nat.le_succ N)
    · refine l13f hi_230_17 (decide_eq_false c3) ?_
      refine l2 (v := 39) hi_230_20 rfl ?_
      refine l20 (v := .ref 68) hS hi_230_21 rfl ?_
      refine l1 (v := t) hi_230_24 rfl ?_
      refine l25 hS ma_45 hi_230_25 fun g4 g5 => ?_
      show am_L _ _ _ _ _ [some (.ref 39), some (.int y1), some (.int t)] [.int (kr s 45 t)] _ _
      refine l1 (v := y1) hi_230_26 rfl ?_
      by_cases c6 : (kr s 45 t) = y1
      · refine l13t hi_230_27 (decide_eq_true c6) ?_
        have e0 : (k230b7 s y1) t = (1, t) := by unfold k230b7; rw [if_neg c3]; rw [if_pos c6]
        have e1 : kwh (k230b7 s y1) 1 t = (1, t) := by rw [kwh_out (by rw [e0]; exact Nat.succ_ne_zero _), e0]
        have q := kx36 1 _  (by rw [e1]) (by exact hS)
        try rw [e1] at q
        exact q.less (Nat.le_succ N)
      · refine l13f hi_230_27 (decide_eq_false c6) ?_
        refine l5 (v := t) (ls' := [some (.ref 39), some (.int y1), some (.int (t + (-1)))]) hi_230_30 rfl rfl ?_
        refine l18 hi_230_33 ?_
        have e0 : (k230b7 s y1) t = (0, (t + (-1))) := by unfold k230b7; rw [if_neg c3]; rw [if_neg c6]
        have e1 : ∀ m, kwh (k230b7 s y1) (m + 1) t = kwh (k230b7 s y1) m (t + (-1)) := fun m => by rw [kwh_go (by rw [e0]), e0]
        exact ih _  (t + (-1)) hS (fun m S1 hm h1 => by have q := kx36 (m + 1) S1 (by rw [e1]; exact hm) (by exact h1); (try rw [e1] at q); exact q.less (Nat.le_succ N))
noncomputable def k230_36 (s : kS) (y2 : Int32) : Int32 := if y2 < (kr s 35 (s.1 32)) then (-1) else y2
theorem lt230_36 {sc : Nat × (Nat → Int32)} {N d : Nat} {S0 S : am_S} {s : kS} {y2 : Int32} {o1 : Option Value} (hS : MK S0 S s) : am_L (am_PP sc) N d 230 36 [some (.ref 39), o1, some (.int y2)] [] S (fun o S1 => o = some (some (.int (k230_36 s y2))) ∧ MK S0 S1 s) := by
  refine l1 (v := y2) hi_230_36 rfl ?_
  refine l2 (v := 39) hi_230_37 rfl ?_
  refine l20 (v := .ref 60) hS hi_230_38 rfl ?_
  refine l2 (v := 39) hi_230_41 rfl ?_
  refine l20 (v := .int (s.1 32)) hS hi_230_42 rfl ?_
  refine l25 hS ma_35 hi_230_45 fun g1 g2 => ?_
  show am_L _ _ _ _ _ [some (.ref 39), o1, some (.int y2)] [.int (kr s 35 (s.1 32)), .int y2] _ _
  by_cases c3 : y2 < (kr s 35 (s.1 32))
  · refine l13t hi_230_46 (decide_eq_true c3) ?_
    refine l0 hi_230_53 ?_
    refine l33 hi_230_54 ⟨?_, ?_⟩
    · unfold k230_36; rw [if_pos c3]
    · exact hS
  · refine l13f hi_230_46 (decide_eq_false c3) ?_
    refine l1 (v := y2) hi_230_49 rfl ?_
    refine l18 hi_230_50 ?_
    refine l33 hi_230_54 ⟨?_, ?_⟩
    · unfold k230_36; rw [if_neg c3]
    · exact hS
/-- labelOf(I)I -/
noncomputable def k230 (s : kS) (x1 : Int32) : Int32 := k230_36 s ((kfin (k230b7 s x1) ((s.1 44) - 1)).2)
theorem lt230 {sc : Nat × (Nat → Int32)} {N d : Nat} {S0 S : am_S} {s : kS} {x1 : Int32} (hS : MK S0 S s) : am_L (am_PP sc) N d 230 0 [some (.ref 39), some (.int x1), none] [] S (fun o S1 => o = some (some (.int (k230 s x1))) ∧ MK S0 S1 s) := by
  refine l2 (v := 39) hi_230_0 rfl ?_
  refine l20 (v := .int (s.1 44)) hS hi_230_1 rfl ?_
  refine l0 hi_230_4 ?_
  refine l10 hi_230_5 ?_
  show am_L _ _ _ _ _ [some (.ref 39), some (.int x1), none] [.int ((s.1 44) - 1)] _ _
  refine l3 (ls' := [some (.ref 39), some (.int x1), some (.int ((s.1 44) - 1))]) hi_230_6 (Nat.le_of_ble_eq_true rfl) rfl ?_
  refine lb230_7 N _  ((s.1 44) - 1) hS ?_
  · intro m1 S2  hm3 h4
    have hf5 : kfin (k230b7 s x1) ((s.1 44) - 1) = kwh (k230b7 s x1) m1 ((s.1 44) - 1) := kfin_eq (by rw [hm3]; decide)
    rw [← hf5] at hm3
    try rw [← hf5]
    refine am_L.mono (lt230_36 h4) ?_
    rintro o S1 ⟨e, h⟩
    have q : k230 s x1 = k230_36 s ((kfin (k230b7 s x1) ((s.1 44) - 1)).2) := rfl
    rw [q]; exact ⟨e, h⟩
def k231b7 (s : kS) (t : Int32 × Int32) : Nat × (Int32 × Int32) := if t.2 = 0 then (1, (t.1, t.2)) else if (k184 s t.1) ≠ 67 then if (k184 s t.1) ≠ 66 then (0, (t.1, 0)) else if (k184 s (t.1 + 1)) ≠ 1 then (0, (t.1, 0)) else if (k184 s (t.1 + 2)) ≠ 66 then (0, (t.1, 0)) else (0, (t.1 + 3, t.2)) else (0, (t.1 + 1, t.2))
theorem lb231_7 {sc : Nat × (Nat → Int32)} {d : Nat} {S0 : am_S} {s : kS} {Q : Option (Option Value) → am_S → Prop} : ∀ (N : Nat) (S : am_S) (o3 : Option Value) (t : Int32 × Int32), MK S0 S s → (∀ m S1 (p3 : Option Value), (kwh (k231b7 s) m t).1 = 1 → MK S0 S1 s → am_L (am_PP sc) N d 231 71 [some (.ref 39), some (.int ((kwh (k231b7 s) m t).2.1)), some (.int ((kwh (k231b7 s) m t).2.2)), p3] [] S1 Q) → am_L (am_PP sc) N d 231 7 [some (.ref 39), some (.int t.1), some (.int t.2), o3] [] S Q := by
  intro N
  induction N with
  | zero => intros; exact l_zero
  | succ N ih =>
    intro S o3 t hS kx71
    refine l1d (v := t.2) hi_231_7 rfl ?_
    by_cases c1 : t.2 = 0
    · refine l12t hi_231_8 (decide_eq_true c1) ?_
      have e0 : (k231b7 s) t = (1, (t.1, t.2)) := by unfold k231b7; rw [if_pos c1]
      have e1 : kwh (k231b7 s) 1 t = (1, (t.1, t.2)) := by rw [kwh_out (by rw [e0]; exact Nat.succ_ne_zero _), e0]
      have q := kx71 1 _ o3 (by rw [e1]) (by exact hS)
      try rw [e1] at q
      exact q.less (Nat.le_succ N)
    · refine l12f hi_231_8 (decide_eq_false c1) ?_
      refine l2 (v := 39) hi_231_11 rfl ?_
      refine l1 (v := t.1) hi_231_12 rfl ?_
      refine l32 (as := [.ref 39, .int t.1]) (la := [some (.ref 39), some (.int t.1)]) (rest := []) hi_231_13 (am_hd0 (M := 231) (by decide) 13) rfl rfl rfl (fun N' d' _ => lt184 (N := N') (d := d') hS) ?_ (fun _ q => nomatch q.1)
      rintro v4 S2 ⟨ev4, h3⟩
      cases ev4
      show am_L _ _ _ _ _ [some (.ref 39), some (.int t.1), some (.int t.2), o3] [.int (k184 s t.1)] _ _
      refine l0 hi_231_16 ?_
      by_cases c5 : (k184 s t.1) ≠ 67
      · refine l13t hi_231_18 (decide_eq_true c5) ?_
        refine l2 (v := 39) hi_231_27 rfl ?_
        refine l1 (v := t.1) hi_231_28 rfl ?_
        refine l32 (as := [.ref 39, .int t.1]) (la := [some (.ref 39), some (.int t.1)]) (rest := []) hi_231_29 (am_hd0 (M := 231) (by decide) 29) rfl rfl rfl (fun N' d' _ => lt184 (N := N') (d := d') h3) ?_ (fun _ q => nomatch q.1)
        rintro v8 S6 ⟨ev8, h7⟩
        cases ev8
        show am_L _ _ _ _ _ [some (.ref 39), some (.int t.1), some (.int t.2), o3] [.int (k184 s t.1)] _ _
        refine l0 hi_231_32 ?_
        by_cases c9 : (k184 s t.1) ≠ 66
        · refine l13t hi_231_34 (decide_eq_true c9) ?_
          refine l0 hi_231_66 ?_
          refine l3 (ls' := [some (.ref 39), some (.int t.1), some (.int 0), o3]) hi_231_67 (Nat.le_of_ble_eq_true rfl) rfl ?_
          refine l18 hi_231_68 ?_
          have e0 : (k231b7 s) t = (0, (t.1, 0)) := by unfold k231b7; rw [if_neg c1]; rw [if_pos c5]; rw [if_pos c9]
          have e1 : ∀ m, kwh (k231b7 s) (m + 1) t = kwh (k231b7 s) m (t.1, 0) := fun m => by rw [kwh_go (by rw [e0]), e0]
          exact ih _ o3 (t.1, 0) h7 (fun m S1 p3 hm h1 => by have q := kx71 (m + 1) S1 p3 (by rw [e1]; exact hm) (by exact h1); (try rw [e1] at q); exact q.less (Nat.le_succ N))
        · refine l13f hi_231_34 (decide_eq_false c9) ?_
          refine l2 (v := 39) hi_231_37 rfl ?_
          refine l1 (v := t.1) hi_231_38 rfl ?_
          refine l0 hi_231_39 ?_
          refine l10 hi_231_40 ?_
          show am_L _ _ _ _ _ [some (.ref 39), some (.int t.1), some (.int t.2), o3] [.int (t.1 + 1), .ref 39] _ _
          refine l32 (as := [.ref 39, .int (t.1 + 1)]) (la := [some (.ref 39), some (.int (t.1 + 1))]) (rest := []) hi_231_41 (am_hd0 (M := 231) (by decide) 41) rfl rfl rfl (fun N' d' _ => lt184 (N := N') (d := d') h7) ?_ (fun _ q => nomatch q.1)
          rintro v12 S10 ⟨ev12, h11⟩
          cases ev12
          show am_L _ _ _ _ _ [some (.ref 39), some (.int t.1), some (.int t.2), o3] [.int (k184 s (t.1 + 1))] _ _
          refine l0 hi_231_44 ?_
          by_cases c13 : (k184 s (t.1 + 1)) ≠ 1
          · refine l13t hi_231_45 (decide_eq_true c13) ?_
            refine l0 hi_231_66 ?_
            refine l3 (ls' := [some (.ref 39), some (.int t.1), some (.int 0), o3]) hi_231_67 (Nat.le_of_ble_eq_true rfl) rfl ?_
            refine l18 hi_231_68 ?_
            have e0 : (k231b7 s) t = (0, (t.1, 0)) := by unfold k231b7; rw [if_neg c1]; rw [if_pos c5]; rw [if_neg c9]; rw [if_pos c13]
            have e1 : ∀ m, kwh (k231b7 s) (m + 1) t = kwh (k231b7 s) m (t.1, 0) := fun m => by rw [kwh_go (by rw [e0]), e0]
            exact ih _ o3 (t.1, 0) h11 (fun m S1 p3 hm h1 => by have q := kx71 (m + 1) S1 p3 (by rw [e1]; exact hm) (by exact h1); (try rw [e1] at q); exact q.less (Nat.le_succ N))
          · refine l13f hi_231_45 (decide_eq_false c13) ?_
            refine l2 (v := 39) hi_231_48 rfl ?_
            refine l1 (v := t.1) hi_231_49 rfl ?_
            refine l0 hi_231_50 ?_
            refine l10 hi_231_51 ?_
            show am_L _ _ _ _ _ [some (.ref 39), some (.int t.1), some (.int t.2), o3] [.int (t.1 + 2), .ref 39] _ _
            refine l32 (as := [.ref 39, .int (t.1 + 2)]) (la := [some (.ref 39), some (.int (t.1 + 2))]) (rest := []) hi_231_52 (am_hd0 (M := 231) (by decide) 52) rfl rfl rfl (fun N' d' _ => lt184 (N := N') (d := d') h11) ?_ (fun _ q => nomatch q.1)
            rintro v16 S14 ⟨ev16, h15⟩
            cases ev16
            show am_L _ _ _ _ _ [some (.ref 39), some (.int t.1), some (.int t.2), o3] [.int (k184 s (t.1 + 2))] _ _
            refine l0 hi_231_55 ?_
            by_cases c17 : (k184 s (t.1 + 2)) ≠ 66
            · refine l13t hi_231_57 (decide_eq_true c17) ?_
              refine l0 hi_231_66 ?_
              refine l3 (ls' := [some (.ref 39), some (.int t.1), some (.int 0), o3]) hi_231_67 (Nat.le_of_ble_eq_true rfl) rfl ?_
              refine l18 hi_231_68 ?_
              have e0 : (k231b7 s) t = (0, (t.1, 0)) := by unfold k231b7; rw [if_neg c1]; rw [if_pos c5]; rw [if_neg c9]; rw [if_neg c13]; rw [if_pos c17]
              have e1 : ∀ m, kwh (k231b7 s) (m + 1) t = kwh (k231b7 s) m (t.1, 0) := fun m => by rw [kwh_go (by rw [e0]), e0]
              exact ih _ o3 (t.1, 0) h15 (fun m S1 p3 hm h1 => by have q := kx71 (m + 1) S1 p3 (by rw [e1]; exact hm) (by exact h1); (try rw [e1] at q); exact q.less (Nat.le_succ N))
            · refine l13f hi_231_57 (decide_eq_false c17) ?_
              refine l5 (v := t.1) (ls' := [some (.ref 39), some (.int (t.1 + 3)), some (.int t.2), o3]) hi_231_60 rfl rfl ?_
              refine l18 hi_231_63 ?_
              have e0 : (k231b7 s) t = (0, (t.1 + 3, t.2)) := by unfold k231b7; rw [if_neg c1]; rw [if_pos c5]; rw [if_neg c9]; rw [if_neg c13]; rw [if_neg c17]
              have e1 : ∀ m, kwh (k231b7 s) (m + 1) t = kwh (k231b7 s) m (t.1 + 3, t.2) := fun m => by rw [kwh_go (by rw [e0]), e0]
              exact ih _ o3 (t.1 + 3, t.2) h15 (fun m S1 p3 hm h1 => by have q := kx71 (m + 1) S1 p3 (by rw [e1]; exact hm) (by exact h1); (try rw [e1] at q); exact q.less (Nat.le_succ N))
      · refine l13f hi_231_18 (decide_eq_false c5) ?_
        refine l5 (v := t.1) (ls' := [some (.ref 39), some (.int (t.1 + 1)), some (.int t.2), o3]) hi_231_21 rfl rfl ?_
        refine l18 hi_231_24 ?_
        have e0 : (k231b7 s) t = (0, (t.1 + 1, t.2)) := by unfold k231b7; rw [if_neg c1]; rw [if_neg c5]
        have e1 : ∀ m, kwh (k231b7 s) (m + 1) t = kwh (k231b7 s) m (t.1 + 1, t.2) := fun m => by rw [kwh_go (by rw [e0]), e0]
        exact ih _ o3 (t.1 + 1, t.2) h3 (fun m S1 p3 hm h1 => by have q := kx71 (m + 1) S1 p3 (by rw [e1]; exact hm) (by exact h1); (try rw [e1] at q); exact q.less (Nat.le_succ N))
/-- isAtEnd()Z -/
noncomputable def k231 (s : kS) : Int32 := if (k184 s ((kfin (k231b7 s) (s.1 4, 1)).2.1)) = (-1) then 1 else if (k184 s ((kfin (k231b7 s) (s.1 4, 1)).2.1)) = 15 then 1 else if (k184 s ((kfin (k231b7 s) (s.1 4, 1)).2.1)) = 13 then 1 else if (k184 s ((kfin (k231b7 s) (s.1 4, 1)).2.1)) ≠ 14 then 0 else 1
theorem lt231 {sc : Nat × (Nat → Int32)} {N d : Nat} {S0 S : am_S} {s : kS} (hS : MK S0 S s) : am_L (am_PP sc) N d 231 0 [some (.ref 39), none, none, none] [] S (fun o S1 => o = some (some (.int (k231 s))) ∧ MK S0 S1 s) := by
  refine l2 (v := 39) hi_231_0 rfl ?_
  refine l20 (v := .int (s.1 4)) hS hi_231_1 rfl ?_
  refine l3 (ls' := [some (.ref 39), some (.int (s.1 4)), none, none]) hi_231_4 (Nat.le_of_ble_eq_true rfl) rfl ?_
  refine l0 hi_231_5 ?_
  refine l3 (ls' := [some (.ref 39), some (.int (s.1 4)), some (.int 1), none]) hi_231_6 (Nat.le_of_ble_eq_true rfl) rfl ?_
  refine lb231_7 N _ none (s.1 4, 1) hS ?_
  · intro m1 S2 p6 hm3 h4
    have hf5 : kfin (k231b7 s) (s.1 4, 1) = kwh (k231b7 s) m1 (s.1 4, 1) := kfin_eq (by rw [hm3]; decide)
    rw [← hf5] at hm3
    try rw [← hf5]
    refine l2 (v := 39) hi_231_71 rfl ?_
    refine l1 (v := (kfin (k231b7 s) (s.1 4, 1)).2.1) hi_231_72 rfl ?_
    refine l32 (as := [.ref 39, .int ((kfin (k231b7 s) (s.1 4, 1)).2.1)]) (la := [some (.ref 39), some (.int ((kfin (k231b7 s) (s.1 4, 1)).2.1))]) (rest := []) hi_231_73 (am_hd0 (M := 231) (by decide) 73) rfl rfl rfl (fun N' d' _ => lt184 (N := N') (d := d') h4) ?_ (fun _ q => nomatch q.1)
    rintro v9 S7 ⟨ev9, h8⟩
    cases ev9
    show am_L _ _ _ _ _ [some (.ref 39), some (.int ((kfin (k231b7 s) (s.1 4, 1)).2.1)), some (.int ((kfin (k231b7 s) (s.1 4, 1)).2.2)), p6] [.int (k184 s ((kfin (k231b7 s) (s.1 4, 1)).2.1))] _ _
    refine l3 (ls' := [some (.ref 39), some (.int ((kfin (k231b7 s) (s.1 4, 1)).2.1)), some (.int ((kfin (k231b7 s) (s.1 4, 1)).2.2)), some (.int (k184 s ((kfin (k231b7 s) (s.1 4, 1)).2.1)))]) hi_231_76 (Nat.le_of_ble_eq_true rfl) rfl ?_
    refine l1 (v := k184 s ((kfin (k231b7 s) (s.1 4, 1)).2.1)) hi_231_77 rfl ?_
    refine l0 hi_231_78 ?_
    by_cases c10 : (k184 s ((kfin (k231b7 s) (s.1 4, 1)).2.1)) = (-1)
    · refine l13t hi_231_79 (decide_eq_true c10) ?_
      refine l0 hi_231_100 ?_
      refine l18 hi_231_101 ?_
      refine l36 hi_231_105 fun _ => ⟨?_, ?_⟩
      · unfold k231; rw [if_pos c10]
      · exact h8
    · refine l13f hi_231_79 (decide_eq_false c10) ?_
      refine l1 (v := k184 s ((kfin (k231b7 s) (s.1 4, 1)).2.1)) hi_231_82 rfl ?_
      refine l0 hi_231_83 ?_
      by_cases c11 : (k184 s ((kfin (k231b7 s) (s.1 4, 1)).2.1)) = 15
      · refine l13t hi_231_85 (decide_eq_true c11) ?_
        refine l0 hi_231_100 ?_
        refine l18 hi_231_101 ?_
        refine l36 hi_231_105 fun _ => ⟨?_, ?_⟩
        · unfold k231; rw [if_neg c10]; rw [if_pos c11]
        · exact h8
      · refine l13f hi_231_85 (decide_eq_false c11) ?_
        refine l1 (v := k184 s ((kfin (k231b7 s) (s.1 4, 1)).2.1)) hi_231_88 rfl ?_
        refine l0 hi_231_89 ?_
        by_cases c12 : (k184 s ((kfin (k231b7 s) (s.1 4, 1)).2.1)) = 13
        · refine l13t hi_231_91 (decide_eq_true c12) ?_
          refine l0 hi_231_100 ?_
          refine l18 hi_231_101 ?_
          refine l36 hi_231_105 fun _ => ⟨?_, ?_⟩
          · unfold k231; rw [if_neg c10]; rw [if_neg c11]; rw [if_pos c12]
          · exact h8
        · refine l13f hi_231_91 (decide_eq_false c12) ?_
          refine l1 (v := k184 s ((kfin (k231b7 s) (s.1 4, 1)).2.1)) hi_231_94 rfl ?_
          refine l0 hi_231_95 ?_
          by_cases c13 : (k184 s ((kfin (k231b7 s) (s.1 4, 1)).2.1)) ≠ 14
          · refine l13t hi_231_97 (decide_eq_true c13) ?_
            refine l0 hi_231_104 ?_
            refine l36 hi_231_105 fun _ => ⟨?_, ?_⟩
            · unfold k231; rw [if_neg c10]; rw [if_neg c11]; rw [if_neg c12]; rw [if_pos c13]
            · exact h8
          · refine l13f hi_231_97 (decide_eq_false c13) ?_
            refine l0 hi_231_100 ?_
            refine l18 hi_231_101 ?_
            refine l36 hi_231_105 fun _ => ⟨?_, ?_⟩
            · unfold k231; rw [if_neg c10]; rw [if_neg c11]; rw [if_neg c12]; rw [if_neg c13]
            · exact h8
/-- before()I -/
def k232 (s : kS) : Int32 := (kr s 38 ((s.1 37) - 1)) - (kr s 34 (s.1 32))
theorem lt232 {sc : Nat × (Nat → Int32)} {N d : Nat} {S0 S : am_S} {s : kS} (hS : MK S0 S s) : am_L (am_PP sc) N d 232 0 [some (.ref 39)] [] S (fun o S1 => o = some (some (.int (k232 s))) ∧ MK S0 S1 s) := by
  refine l2 (v := 39) hi_232_0 rfl ?_
  refine l20 (v := .ref 62) hS hi_232_1 rfl ?_
  refine l2 (v := 39) hi_232_4 rfl ?_
  refine l20 (v := .int (s.1 37)) hS hi_232_5 rfl ?_
  refine l0 hi_232_8 ?_
  refine l10 hi_232_9 ?_
  show am_L _ _ _ _ _ [some (.ref 39)] [.int ((s.1 37) - 1), .ref 62] _ _
  refine l25 hS ma_38 hi_232_10 fun g1 g2 => ?_
  show am_L _ _ _ _ _ [some (.ref 39)] [.int (kr s 38 ((s.1 37) - 1))] _ _
  refine l2 (v := 39) hi_232_11 rfl ?_
  refine l20 (v := .ref 59) hS hi_232_12 rfl ?_
  refine l2 (v := 39) hi_232_15 rfl ?_
  refine l20 (v := .int (s.1 32)) hS hi_232_16 rfl ?_
  refine l25 hS ma_34 hi_232_19 fun g3 g4 => ?_
  show am_L _ _ _ _ _ [some (.ref 39)] [.int (kr s 34 (s.1 32)), .int (kr s 38 ((s.1 37) - 1))] _ _
  refine l10 hi_232_20 ?_
  show am_L _ _ _ _ _ [some (.ref 39)] [.int ((kr s 38 ((s.1 37) - 1)) - (kr s 34 (s.1 32)))] _ _
  refine l33 hi_232_21 ⟨?_, ?_⟩
  · rfl
  · exact hS
def k229b58 (y2 : Int32) (y3 : Int32) (t : kS × Int32 × Int32) : Nat × (kS × Int32 × Int32) := if (t.1.1 48) ≤ t.2.2 then (1, (t.1, t.2.1, t.2.2)) else if (kr t.1 49 t.2.2) ≠ y2 then (0, (ka (ka (ka (ka t.1 49 t.2.1 (kr t.1 49 t.2.2)) 50 t.2.1 (kr t.1 50 t.2.2)) 51 t.2.1 (kr t.1 51 t.2.2)) 52 t.2.1 (kr t.1 52 t.2.2), t.2.1 + 1, t.2.2 + 1)) else if y3 ≤ (kr t.1 52 t.2.2) then (0, (ka (ka t.1 71 (kr t.1 51 t.2.2) (k197 t.1)) 71 ((kr t.1 51 t.2.2) + 1) (k210 (ka t.1 71 (kr t.1 51 t.2.2) (k197 t.1))), t.2.1, t.2.2 + 1)) else (0, (ka (ka ((k191 t.1 14 (kr t.1 50 t.2.2)).1) 71 (kr ((k191 t.1 14 (kr t.1 50 t.2.2)).1) 51 t.2.2) (k197 ((k191 t.1 14 (kr t.1 50 t.2.2)).1))) 71 ((kr ((k191 t.1 14 (kr t.1 50 t.2.2)).1) 51 t.2.2) + 1) (k210 (ka ((k191 t.1 14 (kr t.1 50 t.2.2)).1) 71 (kr ((k191 t.1 14 (kr t.1 50 t.2.2)).1) 51 t.2.2) (k197 ((k191 t.1 14 (kr t.1 50 t.2.2)).1)))), t.2.1, t.2.2 + 1))
theorem lb229_58 {sc : Nat × (Nat → Int32)} {d : Nat} {S0 : am_S} {y2 : Int32} {y3 : Int32} {Q : Option (Option Value) → am_S → Prop} : ∀ (N : Nat) (S : am_S) (o1 : Option Value) (t : kS × Int32 × Int32), MK S0 S t.1 → (∀ m S1 (p1 : Option Value), (kwh (k229b58 y2 y3) m t).1 = 1 → MK S0 S1 (kwh (k229b58 y2 y3) m t).2.1 → am_L (am_PP sc) N d 229 204 [some (.ref 39), p1, some (.int y2), some (.int y3), some (.int ((kwh (k229b58 y2 y3) m t).2.2.1)), some (.int ((kwh (k229b58 y2 y3) m t).2.2.2))] [] S1 Q) → am_L (am_PP sc) N d 229 58 [some (.ref 39), o1, some (.int y2), some (.int y3), some (.int t.2.1), some (.int t.2.2)] [] S Q := by
  intro N
  induction N with
  | zero => intros; exact l_zero
  | succ N ih =>
    intro S o1 t hS kx204
    refine l1d (v := t.2.2) hi_229_58 rfl ?_
    refine l2 (v := 39) hi_229_60 rfl ?_
    refine l20 (v := .int (t.1.1 48)) hS hi_229_61 rfl ?_
    by_cases c1 : (t.1.1 48) ≤ t.2.2
    · refine l13t hi_229_64 (decide_eq_true c1) ?_
      have e0 : (k229b58 y2 y3) t = (1, (t.1, t.2.1, t.2.2)) := by unfold k229b58; rw [if_pos c1]
      have e1 : kwh (k229b58 y2 y3) 1 t = (1, (t.1, t.2.1, t.2.2)) := by rw [kwh_out (by rw [e0]; exact Nat.succ_ne_zero _), e0]
      have q := kx204 1 _ o1 (by rw [e1]) (by rw [e1]; exact hS)
      try rw [e1] at q
      exact q.less (Nat.le_succ N)
    · refine l13f hi_229_64 (decide_eq_false c1) ?_
      refine l2 (v := 39) hi_229_67 rfl ?_
      refine l20 (v := .ref 71) hS hi_229_68 rfl ?_
      refine l1 (v := t.2.2) hi_229_71 rfl ?_
      refine l25 hS ma_49 hi_229_73 fun g2 g3 => ?_
      show am_L _ _ _ _ _ [some (.ref 39), o1, some (.int y2), some (.int y3), some (.int t.2.1), some (.int t.2.2)] [.int (kr t.1 49 t.2.2)] _ _
      refine l1 (v := y2) hi_229_74 rfl ?_
      by_cases c4 : (kr t.1 49 t.2.2) ≠ y2
      · refine l13t hi_229_75 (decide_eq_true c4) ?_
        refine l2 (v := 39) hi_229_139 rfl ?_
        refine l20 (v := .ref 71) hS hi_229_140 rfl ?_
        refine l1 (v := t.2.1) hi_229_143 rfl ?_
        refine l2 (v := 39) hi_229_145 rfl ?_
        refine l20 (v := .ref 71) hS hi_229_146 rfl ?_
        refine l1 (v := t.2.2) hi_229_149 rfl ?_
        refine l25 hS ma_49 hi_229_151 fun g5 g6 => ?_
        show am_L _ _ _ _ _ [some (.ref 39), o1, some (.int y2), some (.int y3), some (.int t.2.1), some (.int t.2.2)] [.int (kr t.1 49 t.2.2), .int t.2.1, .ref 71] _ _
        refine l26 hS ma_49 hi_229_152 fun S9 h10 g7 g8 => ?_
        refine l2 (v := 39) hi_229_153 rfl ?_
        refine l20 (v := .ref 72) h10 hi_229_154 rfl ?_
        refine l1 (v := t.2.1) hi_229_157 rfl ?_
        refine l2 (v := 39) hi_229_159 rfl ?_
        refine l20 (v := .ref 72) h10 hi_229_160 rfl ?_
        refine l1 (v := t.2.2) hi_229_163 rfl ?_
        refine l25 h10 ma_50 hi_229_165 fun g11 g12 => ?_
        show am_L _ _ _ _ _ [some (.ref 39), o1, some (.int y2), some (.int y3), some (.int t.2.1), some (.int t.2.2)] [.int (kr t.1 50 t.2.2), .int t.2.1, .ref 72] _ _
        refine l26 h10 ma_50 hi_229_166 fun S15 h16 g13 g14 => ?_
        refine l2 (v := 39) hi_229_167 rfl ?_
        refine l20 (v := .ref 73) h16 hi_229_168 rfl ?_
        refine l1 (v := t.2.1) hi_229_171 rfl ?_
        refine l2 (v := 39) hi_229_173 rfl ?_
        refine l20 (v := .ref 73) h16 hi_229_174 rfl ?_
        refine l1 (v := t.2.2) hi_229_177 rfl ?_
        refine l25 h16 ma_51 hi_229_179 fun g17 g18 => ?_
        show am_L _ _ _ _ _ [some (.ref 39), o1, some (.int y2), some (.int y3), some (.int t.2.1), some (.int t.2.2)] [.int (kr t.1 51 t.2.2), .int t.2.1, .ref 73] _ _
        refine l26 h16 ma_51 hi_229_180 fun S21 h22 g19 g20 => ?_
        refine l2 (v := 39) hi_229_181 rfl ?_
        refine l20 (v := .ref 74) h22 hi_229_182 rfl ?_
        refine l1 (v := t.2.1) hi_229_185 rfl ?_
        refine l2 (v := 39) hi_229_187 rfl ?_
        refine l20 (v := .ref 74) h22 hi_229_188 rfl ?_
        refine l1 (v := t.2.2) hi_229_191 rfl ?_
        refine l25 h22 ma_52 hi_229_193 fun g23 g24 => ?_
        show am_L _ _ _ _ _ [some (.ref 39), o1, some (.int y2), some (.int y3), some (.int t.2.1), some (.int t.2.2)] [.int (kr t.1 52 t.2.2), .int t.2.1, .ref 74] _ _
        refine l26 h22 ma_52 hi_229_194 fun S27 h28 g25 g26 => ?_
        refine l5 (v := t.2.1) (ls' := [some (.ref 39), o1, some (.int y2), some (.int y3), some (.int (t.2.1 + 1)), some (.int t.2.2)]) hi_229_195 rfl rfl ?_
        refine l5 (v := t.2.2) (ls' := [some (.ref 39), o1, some (.int y2), some (.int y3), some (.int (t.2.1 + 1)), some (.int (t.2.2 + 1))]) hi_229_198 rfl rfl ?_
        refine l18 hi_229_201 ?_
        have e0 : (k229b58 y2 y3) t = (0, (ka (ka (ka (ka t.1 49 t.2.1 (kr t.1 49 t.2.2)) 50 t.2.1 (kr t.1 50 t.2.2)) 51 t.2.1 (kr t.1 51 t.2.2)) 52 t.2.1 (kr t.1 52 t.2.2), t.2.1 + 1, t.2.2 + 1)) := by unfold k229b58; rw [if_neg c1]; rw [if_pos c4]
        have e1 : ∀ m, kwh (k229b58 y2 y3) (m + 1) t = kwh (k229b58 y2 y3) m (ka (ka (ka (ka t.1 49 t.2.1 (kr t.1 49 t.2.2)) 50 t.2.1 (kr t.1 50 t.2.2)) 51 t.2.1 (kr t.1 51 t.2.2)) 52 t.2.1 (kr t.1 52 t.2.2), t.2.1 + 1, t.2.2 + 1) := fun m => by rw [kwh_go (by rw [e0]), e0]
        exact ih _ o1 (ka (ka (ka (ka t.1 49 t.2.1 (kr t.1 49 t.2.2)) 50 t.2.1 (kr t.1 50 t.2.2)) 51 t.2.1 (kr t.1 51 t.2.2)) 52 t.2.1 (kr t.1 52 t.2.2), t.2.1 + 1, t.2.2 + 1) h28 (fun m S1 p1 hm h1 => by have q := kx204 (m + 1) S1 p1 (by rw [e1]; exact hm) (by rw [e1]; exact h1); (try rw [e1] at q); exact q.less (Nat.le_succ N))
      · refine l13f hi_229_75 (decide_eq_false c4) ?_
        refine l2 (v := 39) hi_229_78 rfl ?_
        refine l20 (v := .ref 74) hS hi_229_79 rfl ?_
        refine l1 (v := t.2.2) hi_229_82 rfl ?_
        refine l25 hS ma_52 hi_229_84 fun g29 g30 => ?_
        show am_L _ _ _ _ _ [some (.ref 39), o1, some (.int y2), some (.int y3), some (.int t.2.1), some (.int t.2.2)] [.int (kr t.1 52 t.2.2)] _ _
        refine l1 (v := y3) hi_229_85 rfl ?_
        by_cases c31 : y3 ≤ (kr t.1 52 t.2.2)
        · refine l13t hi_229_86 (decide_eq_true c31) ?_
          refine l2 (v := 39) hi_229_102 rfl ?_
          refine l20 (v := .ref 90) hS hi_229_103 rfl ?_
          refine l2 (v := 39) hi_229_106 rfl ?_
          refine l20 (v := .ref 73) hS hi_229_107 rfl ?_
          refine l1 (v := t.2.2) hi_229_110 rfl ?_
          refine l25 hS ma_51 hi_229_112 fun g32 g33 => ?_
          show am_L _ _ _ _ _ [some (.ref 39), o1, some (.int y2), some (.int y3), some (.int t.2.1), some (.int t.2.2)] [.int (kr t.1 51 t.2.2), .ref 90] _ _
          refine l2 (v := 39) hi_229_113 rfl ?_
          refine l32 (as := [.ref 39]) (la := [some (.ref 39)]) (rest := [.int (kr t.1 51 t.2.2), .ref 90]) hi_229_114 (am_hd0 (M := 229) (by decide) 114) rfl rfl rfl (fun N' d' _ => lt197 (N := N') (d := d') hS) ?_ (fun _ q => nomatch q.1)
          rintro v36 S34 ⟨ev36, h35⟩
          cases ev36
          show am_L _ _ _ _ _ [some (.ref 39), o1, some (.int y2), some (.int y3), some (.int t.2.1), some (.int t.2.2)] [.int (k197 t.1), .int (kr t.1 51 t.2.2), .ref 90] _ _
          refine l26 h35 ma_71 hi_229_117 fun S39 h40 g37 g38 => ?_
          refine l2 (v := 39) hi_229_118 rfl ?_
          refine l20 (v := .ref 90) h40 hi_229_119 rfl ?_
          refine l2 (v := 39) hi_229_122 rfl ?_
          refine l20 (v := .ref 73) h40 hi_229_123 rfl ?_
          refine l1 (v := t.2.2) hi_229_126 rfl ?_
          refine l25 h40 ma_51 hi_229_128 fun g41 g42 => ?_
          show am_L _ _ _ _ _ [some (.ref 39), o1, some (.int y2), some (.int y3), some (.int t.2.1), some (.int t.2.2)] [.int (kr t.1 51 t.2.2), .ref 90] _ _
          refine l0 hi_229_129 ?_
          refine l10 hi_229_130 ?_
          show am_L _ _ _ _ _ [some (.ref 39), o1, some (.int y2), some (.int y3), some (.int t.2.1), some (.int t.2.2)] [.int ((kr t.1 51 t.2.2) + 1), .ref 90] _ _
          refine l2 (v := 39) hi_229_131 rfl ?_
          refine l32 (as := [.ref 39]) (la := [some (.ref 39)]) (rest := [.int ((kr t.1 51 t.2.2) + 1), .ref 90]) hi_229_132 (am_hd0 (M := 229) (by decide) 132) rfl rfl rfl (fun N' d' _ => lt210 (N := N') (d := d') h40) ?_ (fun _ q => nomatch q.1)
          rintro v45 S43 ⟨ev45, h44⟩
          cases ev45
          show am_L _ _ _ _ _ [some (.ref 39), o1, some (.int y2), some (.int y3), some (.int t.2.1), some (.int t.2.2)] [.int (k210 (ka t.1 71 (kr t.1 51 t.2.2) (k197 t.1))), .int ((kr t.1 51 t.2.2) + 1), .ref 90] _ _
          refine l26 h44 ma_71 hi_229_135 fun S48 h49 g46 g47 => ?_
          refine l18 hi_229_136 ?_
          refine l5 (v := t.2.2) (ls' := [some (.ref 39), o1, some (.int y2), some (.int y3), some (.int t.2.1), some (.int (t.2.2 + 1))]) hi_229_198 rfl rfl ?_
          refine l18 hi_229_201 ?_
          have e0 : (k229b58 y2 y3) t = (0, (ka (ka t.1 71 (kr t.1 51 t.2.2) (k197 t.1)) 71 ((kr t.1 51 t.2.2) + 1) (k210 (ka t.1 71 (kr t.1 51 t.2.2) (k197 t.1))), t.2.1, t.2.2 + 1)) := by unfold k229b58; rw [if_neg c1]; rw [if_neg c4]; rw [if_pos c31]
          have e1 : ∀ m, kwh (k229b58 y2 y3) (m + 1) t = kwh (k229b58 y2 y3) m (ka (ka t.1 71 (kr t.1 51 t.2.2) (k197 t.1)) 71 ((kr t.1 51 t.2.2) + 1) (k210 (ka t.1 71 (kr t.1 51 t.2.2) (k197 t.1))), t.2.1, t.2.2 + 1) := fun m => by rw [kwh_go (by rw [e0]), e0]
          exact ih _ o1 (ka (ka t.1 71 (kr t.1 51 t.2.2) (k197 t.1)) 71 ((kr t.1 51 t.2.2) + 1) (k210 (ka t.1 71 (kr t.1 51 t.2.2) (k197 t.1))), t.2.1, t.2.2 + 1) h49 (fun m S1 p1 hm h1 => by have q := kx204 (m + 1) S1 p1 (by rw [e1]; exact hm) (by rw [e1]; exact h1); (try rw [e1] at q); exact q.less (Nat.le_succ N))
        · refine l13f hi_229_86 (decide_eq_false c31) ?_
          refine l2 (v := 39) hi_229_89 rfl ?_
          refine l0 hi_229_90 ?_
          refine l2 (v := 39) hi_229_92 rfl ?_
          refine l20 (v := .ref 72) hS hi_229_93 rfl ?_
          refine l1 (v := t.2.2) hi_229_96 rfl ?_
          refine l25 hS ma_50 hi_229_98 fun g50 g51 => ?_
          show am_L _ _ _ _ _ [some (.ref 39), o1, some (.int y2), some (.int y3), some (.int t.2.1), some (.int t.2.2)] [.int (kr t.1 50 t.2.2), .int 14, .ref 39] _ _
          refine l32 (as := [.ref 39, .int 14, .int (kr t.1 50 t.2.2)]) (la := [some (.ref 39), some (.int 14), some (.int (kr t.1 50 t.2.2))]) (rest := []) hi_229_99 (am_hd0 (M := 229) (by decide) 99) rfl rfl rfl (fun N' d' _ => lt191 (N := N') (d := d') hS) ?_ (fun _ q => nomatch q.1)
          rintro v54 S52 ⟨ev54, h53⟩
          cases ev54
          show am_L _ _ _ _ _ [some (.ref 39), o1, some (.int y2), some (.int y3), some (.int t.2.1), some (.int t.2.2)] [] _ _
          refine l2 (v := 39) hi_229_102 rfl ?_
          refine l20 (v := .ref 90) h53 hi_229_103 rfl ?_
          refine l2 (v := 39) hi_229_106 rfl ?_
          refine l20 (v := .ref 73) h53 hi_229_107 rfl ?_
          refine l1 (v := t.2.2) hi_229_110 rfl ?_
          refine l25 h53 ma_51 hi_229_112 fun g55 g56 => ?_
          show am_L _ _ _ _ _ [some (.ref 39), o1, some (.int y2), some (.int y3), some (.int t.2.1), some (.int t.2.2)] [.int (kr ((k191 t.1 14 (kr t.1 50 t.2.2)).1) 51 t.2.2), .ref 90] _ _
          refine l2 (v := 39) hi_229_113 rfl ?_
          refine l32 (as := [.ref 39]) (la := [some (.ref 39)]) (rest := [.int (kr ((k191 t.1 14 (kr t.1 50 t.2.2)).1) 51 t.2.2), .ref 90]) hi_229_114 (am_hd0 (M := 229) (by decide) 114) rfl rfl rfl (fun N' d' _ => lt197 (N := N') (d := d') h53) ?_ (fun _ q => nomatch q.1)
          rintro v59 S57 ⟨ev59, h58⟩
          cases ev59
          show am_L _ _ _ _ _ [some (.ref 39), o1, some (.int y2), some (.int y3), some (.int t.2.1), some (.int t.2.2)] [.int (k197 ((k191 t.1 14 (kr t.1 50 t.2.2)).1)), .int (kr ((k191 t.1 14 (kr t.1 50 t.2.2)).1) 51 t.2.2), .ref 90] _ _
          refine l26 h58 ma_71 hi_229_117 fun S62 h63 g60 g61 => ?_
          refine l2 (v := 39) hi_229_118 rfl ?_
          refine l20 (v := .ref 90) h63 hi_229_119 rfl ?_
          refine l2 (v := 39) hi_229_122 rfl ?_
          refine l20 (v := .ref 73) h63 hi_229_123 rfl ?_
          refine l1 (v := t.2.2) hi_229_126 rfl ?_
          refine l25 h63 ma_51 hi_229_128 fun g64 g65 => ?_
          show am_L _ _ _ _ _ [some (.ref 39), o1, some (.int y2), some (.int y3), some (.int t.2.1), some (.int t.2.2)] [.int (kr ((k191 t.1 14 (kr t.1 50 t.2.2)).1) 51 t.2.2), .ref 90] _ _
          refine l0 hi_229_129 ?_
          refine l10 hi_229_130 ?_
          show am_L _ _ _ _ _ [some (.ref 39), o1, some (.int y2), some (.int y3), some (.int t.2.1), some (.int t.2.2)] [.int ((kr ((k191 t.1 14 (kr t.1 50 t.2.2)).1) 51 t.2.2) + 1), .ref 90] _ _
          refine l2 (v := 39) hi_229_131 rfl ?_
          refine l32 (as := [.ref 39]) (la := [some (.ref 39)]) (rest := [.int ((kr ((k191 t.1 14 (kr t.1 50 t.2.2)).1) 51 t.2.2) + 1), .ref 90]) hi_229_132 (am_hd0 (M := 229) (by decide) 132) rfl rfl rfl (fun N' d' _ => lt210 (N := N') (d := d') h63) ?_ (fun _ q => nomatch q.1)
          rintro v68 S66 ⟨ev68, h67⟩
          cases ev68
          show am_L _ _ _ _ _ [some (.ref 39), o1, some (.int y2), some (.int y3), some (.int t.2.1), some (.int t.2.2)] [.int (k210 (ka ((k191 t.1 14 (kr t.1 50 t.2.2)).1) 71 (kr ((k191 t.1 14 (kr t.1 50 t.2.2)).1) 51 t.2.2) (k197 ((k191 t.1 14 (kr t.1 50 t.2.2)).1)))), .int ((kr ((k191 t.1 14 (kr t.1 50 t.2.2)).1) 51 t.2.2) + 1), .ref 90] _ _
          refine l26 h67 ma_71 hi_229_135 fun S71 h72 g69 g70 => ?_
          refine l18 hi_229_136 ?_
          refine l5 (v := t.2.2) (ls' := [some (.ref 39), o1, some (.int y2), some (.int y3), some (.int t.2.1), some (.int (t.2.2 + 1))]) hi_229_198 rfl rfl ?_
          refine l18 hi_229_201 ?_
          have e0 : (k229b58 y2 y3) t = (0, (ka (ka ((k191 t.1 14 (kr t.1 50 t.2.2)).1) 71 (kr ((k191 t.1 14 (kr t.1 50 t.2.2)).1) 51 t.2.2) (k197 ((k191 t.1 14 (kr t.1 50 t.2.2)).1))) 71 ((kr ((k191 t.1 14 (kr t.1 50 t.2.2)).1) 51 t.2.2) + 1) (k210 (ka ((k191 t.1 14 (kr t.1 50 t.2.2)).1) 71 (kr ((k191 t.1 14 (kr t.1 50 t.2.2)).1) 51 t.2.2) (k197 ((k191 t.1 14 (kr t.1 50 t.2.2)).1)))), t.2.1, t.2.2 + 1)) := by unfold k229b58; rw [if_neg c1]; rw [if_neg c4]; rw [if_neg c31]
          have e1 : ∀ m, kwh (k229b58 y2 y3) (m + 1) t = kwh (k229b58 y2 y3) m (ka (ka ((k191 t.1 14 (kr t.1 50 t.2.2)).1) 71 (kr ((k191 t.1 14 (kr t.1 50 t.2.2)).1) 51 t.2.2) (k197 ((k191 t.1 14 (kr t.1 50 t.2.2)).1))) 71 ((kr ((k191 t.1 14 (kr t.1 50 t.2.2)).1) 51 t.2.2) + 1) (k210 (ka ((k191 t.1 14 (kr t.1 50 t.2.2)).1) 71 (kr ((k191 t.1 14 (kr t.1 50 t.2.2)).1) 51 t.2.2) (k197 ((k191 t.1 14 (kr t.1 50 t.2.2)).1)))), t.2.1, t.2.2 + 1) := fun m => by rw [kwh_go (by rw [e0]), e0]
          exact ih _ o1 (ka (ka ((k191 t.1 14 (kr t.1 50 t.2.2)).1) 71 (kr ((k191 t.1 14 (kr t.1 50 t.2.2)).1) 51 t.2.2) (k197 ((k191 t.1 14 (kr t.1 50 t.2.2)).1))) 71 ((kr ((k191 t.1 14 (kr t.1 50 t.2.2)).1) 51 t.2.2) + 1) (k210 (ka ((k191 t.1 14 (kr t.1 50 t.2.2)).1) 71 (kr ((k191 t.1 14 (kr t.1 50 t.2.2)).1) 51 t.2.2) (k197 ((k191 t.1 14 (kr t.1 50 t.2.2)).1)))), t.2.1, t.2.2 + 1) h72 (fun m S1 p1 hm h1 => by have q := kx204 (m + 1) S1 p1 (by rw [e1]; exact hm) (by rw [e1]; exact h1); (try rw [e1] at q); exact q.less (Nat.le_succ N))
noncomputable def k229_40 (s : kS) (y2 : Int32) (z0 : Int32) : kS × Int32 := (kf (ka (ka (ka (kf ((kfin (k229b58 y2 z0) (s, kr s 40 ((s.1 37) - 1), kr s 40 ((s.1 37) - 1))).2.1) 48 ((kfin (k229b58 y2 z0) (s, kr s 40 ((s.1 37) - 1), kr s 40 ((s.1 37) - 1))).2.2.1)) 45 (((kfin (k229b58 y2 z0) (s, kr s 40 ((s.1 37) - 1), kr s 40 ((s.1 37) - 1))).2.1).1 44) y2) 46 (((kfin (k229b58 y2 z0) (s, kr s 40 ((s.1 37) - 1), kr s 40 ((s.1 37) - 1))).2.1).1 44) (k210 (ka (kf ((kfin (k229b58 y2 z0) (s, kr s 40 ((s.1 37) - 1), kr s 40 ((s.1 37) - 1))).2.1) 48 ((kfin (k229b58 y2 z0) (s, kr s 40 ((s.1 37) - 1), kr s 40 ((s.1 37) - 1))).2.2.1)) 45 (((kfin (k229b58 y2 z0) (s, kr s 40 ((s.1 37) - 1), kr s 40 ((s.1 37) - 1))).2.1).1 44) y2))) 47 (((kfin (k229b58 y2 z0) (s, kr s 40 ((s.1 37) - 1), kr s 40 ((s.1 37) - 1))).2.1).1 44) (k197 (ka (ka (kf ((kfin (k229b58 y2 z0) (s, kr s 40 ((s.1 37) - 1), kr s 40 ((s.1 37) - 1))).2.1) 48 ((kfin (k229b58 y2 z0) (s, kr s 40 ((s.1 37) - 1), kr s 40 ((s.1 37) - 1))).2.2.1)) 45 (((kfin (k229b58 y2 z0) (s, kr s 40 ((s.1 37) - 1), kr s 40 ((s.1 37) - 1))).2.1).1 44) y2) 46 (((kfin (k229b58 y2 z0) (s, kr s 40 ((s.1 37) - 1), kr s 40 ((s.1 37) - 1))).2.1).1 44) (k210 (ka (kf ((kfin (k229b58 y2 z0) (s, kr s 40 ((s.1 37) - 1), kr s 40 ((s.1 37) - 1))).2.1) 48 ((kfin (k229b58 y2 z0) (s, kr s 40 ((s.1 37) - 1), kr s 40 ((s.1 37) - 1))).2.2.1)) 45 (((kfin (k229b58 y2 z0) (s, kr s 40 ((s.1 37) - 1), kr s 40 ((s.1 37) - 1))).2.1).1 44) y2))))) 44 ((((kfin (k229b58 y2 z0) (s, kr s 40 ((s.1 37) - 1), kr s 40 ((s.1 37) - 1))).2.1).1 44) + 1), 0)
theorem lt229_40 {sc : Nat × (Nat → Int32)} {N d : Nat} {S0 S : am_S} {s : kS} {y2 : Int32} {z0 : Int32} {o1 : Option Value} {o3 : Option Value} {o4 : Option Value} {o5 : Option Value} (hS : MK S0 S s) : am_L (am_PP sc) N d 229 40 [some (.ref 39), o1, some (.int y2), o3, o4, o5] [.int z0] S (fun o S1 => o = some none ∧ MK S0 S1 (k229_40 s y2 z0).1) := by
  refine l3 (ls' := [some (.ref 39), o1, some (.int y2), some (.int z0), o4, o5]) hi_229_40 (Nat.le_of_ble_eq_true rfl) rfl ?_
  refine l2 (v := 39) hi_229_41 rfl ?_
  refine l20 (v := .ref 64) hS hi_229_42 rfl ?_
  refine l2 (v := 39) hi_229_45 rfl ?_
  refine l20 (v := .int (s.1 37)) hS hi_229_46 rfl ?_
  refine l0 hi_229_49 ?_
  refine l10 hi_229_50 ?_
  show am_L _ _ _ _ _ [some (.ref 39), o1, some (.int y2), some (.int z0), o4, o5] [.int ((s.1 37) - 1), .ref 64] _ _
  refine l25 hS ma_40 hi_229_51 fun g1 g2 => ?_
  show am_L _ _ _ _ _ [some (.ref 39), o1, some (.int y2), some (.int z0), o4, o5] [.int (kr s 40 ((s.1 37) - 1))] _ _
  refine l3 (ls' := [some (.ref 39), o1, some (.int y2), some (.int z0), some (.int (kr s 40 ((s.1 37) - 1))), o5]) hi_229_52 (Nat.le_of_ble_eq_true rfl) rfl ?_
  refine l1 (v := kr s 40 ((s.1 37) - 1)) hi_229_54 rfl ?_
  refine l3 (ls' := [some (.ref 39), o1, some (.int y2), some (.int z0), some (.int (kr s 40 ((s.1 37) - 1))), some (.int (kr s 40 ((s.1 37) - 1)))]) hi_229_56 (Nat.le_of_ble_eq_true rfl) rfl ?_
  refine lb229_58 N _ o1 (s, kr s 40 ((s.1 37) - 1), kr s 40 ((s.1 37) - 1)) hS ?_
  · intro m3 S4 p8 hm5 h6
    have hf7 : kfin (k229b58 y2 z0) (s, kr s 40 ((s.1 37) - 1), kr s 40 ((s.1 37) - 1)) = kwh (k229b58 y2 z0) m3 (s, kr s 40 ((s.1 37) - 1), kr s 40 ((s.1 37) - 1)) := kfin_eq (by rw [hm5]; decide)
    rw [← hf7] at hm5 h6
    try rw [← hf7]
    refine l2 (v := 39) hi_229_204 rfl ?_
    refine l1 (v := (kfin (k229b58 y2 z0) (s, kr s 40 ((s.1 37) - 1), kr s 40 ((s.1 37) - 1))).2.2.1) hi_229_205 rfl ?_
    refine l21 h6 hi_229_207 ms_48 fun S9 h10 => ?_
    refine l2 (v := 39) hi_229_210 rfl ?_
    refine l20 (v := .ref 68) h10 hi_229_211 rfl ?_
    refine l2 (v := 39) hi_229_214 rfl ?_
    refine l20 (v := .int (((kfin (k229b58 y2 z0) (s, kr s 40 ((s.1 37) - 1), kr s 40 ((s.1 37) - 1))).2.1).1 44)) h10 hi_229_215 rfl ?_
    refine l1 (v := y2) hi_229_218 rfl ?_
    refine l26 h10 ma_45 hi_229_219 fun S13 h14 g11 g12 => ?_
    refine l2 (v := 39) hi_229_220 rfl ?_
    refine l20 (v := .ref 69) h14 hi_229_221 rfl ?_
    refine l2 (v := 39) hi_229_224 rfl ?_
    refine l20 (v := .int (((kfin (k229b58 y2 z0) (s, kr s 40 ((s.1 37) - 1), kr s 40 ((s.1 37) - 1))).2.1).1 44)) h14 hi_229_225 rfl ?_
    refine l2 (v := 39) hi_229_228 rfl ?_
    refine l32 (as := [.ref 39]) (la := [some (.ref 39)]) (rest := [.int (((kfin (k229b58 y2 z0) (s, kr s 40 ((s.1 37) - 1), kr s 40 ((s.1 37) - 1))).2.1).1 44), .ref 69]) hi_229_229 (am_hd0 (M := 229) (by decide) 229) rfl rfl rfl (fun N' d' _ => lt210 (N := N') (d := d') h14) ?_ (fun _ q => nomatch q.1)
    rintro v17 S15 ⟨ev17, h16⟩
    cases ev17
    show am_L _ _ _ _ _ [some (.ref 39), p8, some (.int y2), some (.int z0), some (.int ((kfin (k229b58 y2 z0) (s, kr s 40 ((s.1 37) - 1), kr s 40 ((s.1 37) - 1))).2.2.1)), some (.int ((kfin (k229b58 y2 z0) (s, kr s 40 ((s.1 37) - 1), kr s 40 ((s.1 37) - 1))).2.2.2))] [.int (k210 (ka (kf ((kfin (k229b58 y2 z0) (s, kr s 40 ((s.1 37) - 1), kr s 40 ((s.1 37) - 1))).2.1) 48 ((kfin (k229b58 y2 z0) (s, kr s 40 ((s.1 37) - 1), kr s 40 ((s.1 37) - 1))).2.2.1)) 45 (((kfin (k229b58 y2 z0) (s, kr s 40 ((s.1 37) - 1), kr s 40 ((s.1 37) - 1))).2.1).1 44) y2)), .int (((kfin (k229b58 y2 z0) (s, kr s 40 ((s.1 37) - 1), kr s 40 ((s.1 37) - 1))).2.1).1 44), .ref 69] _ _
    refine l26 h16 ma_46 hi_229_232 fun S20 h21 g18 g19 => ?_
    refine l2 (v := 39) hi_229_233 rfl ?_
    refine l20 (v := .ref 70) h21 hi_229_234 rfl ?_
    refine l2 (v := 39) hi_229_237 rfl ?_
    refine l20 (v := .int (((kfin (k229b58 y2 z0) (s, kr s 40 ((s.1 37) - 1), kr s 40 ((s.1 37) - 1))).2.1).1 44)) h21 hi_229_238 rfl ?_
    refine l2 (v := 39) hi_229_241 rfl ?_
    refine l32 (as := [.ref 39]) (la := [some (.ref 39)]) (rest := [.int (((kfin (k229b58 y2 z0) (s, kr s 40 ((s.1 37) - 1), kr s 40 ((s.1 37) - 1))).2.1).1 44), .ref 70]) hi_229_242 (am_hd0 (M := 229) (by decide) 242) rfl rfl rfl (fun N' d' _ => lt197 (N := N') (d := d') h21) ?_ (fun _ q => nomatch q.1)
    rintro v24 S22 ⟨ev24, h23⟩
    cases ev24
    show am_L _ _ _ _ _ [some (.ref 39), p8, some (.int y2), some (.int z0), some (.int ((kfin (k229b58 y2 z0) (s, kr s 40 ((s.1 37) - 1), kr s 40 ((s.1 37) - 1))).2.2.1)), some (.int ((kfin (k229b58 y2 z0) (s, kr s 40 ((s.1 37) - 1), kr s 40 ((s.1 37) - 1))).2.2.2))] [.int (k197 (ka (ka (kf ((kfin (k229b58 y2 z0) (s, kr s 40 ((s.1 37) - 1), kr s 40 ((s.1 37) - 1))).2.1) 48 ((kfin (k229b58 y2 z0) (s, kr s 40 ((s.1 37) - 1), kr s 40 ((s.1 37) - 1))).2.2.1)) 45 (((kfin (k229b58 y2 z0) (s, kr s 40 ((s.1 37) - 1), kr s 40 ((s.1 37) - 1))).2.1).1 44) y2) 46 (((kfin (k229b58 y2 z0) (s, kr s 40 ((s.1 37) - 1), kr s 40 ((s.1 37) - 1))).2.1).1 44) (k210 (ka (kf ((kfin (k229b58 y2 z0) (s, kr s 40 ((s.1 37) - 1), kr s 40 ((s.1 37) - 1))).2.1) 48 ((kfin (k229b58 y2 z0) (s, kr s 40 ((s.1 37) - 1), kr s 40 ((s.1 37) - 1))).2.2.1)) 45 (((kfin (k229b58 y2 z0) (s, kr s 40 ((s.1 37) - 1), kr s 40 ((s.1 37) - 1))).2.1).1 44) y2)))), .int (((kfin (k229b58 y2 z0) (s, kr s 40 ((s.1 37) - 1), kr s 40 ((s.1 37) - 1))).2.1).1 44), .ref 70] _ _
    refine l26 h23 ma_47 hi_229_245 fun S27 h28 g25 g26 => ?_
    refine l2 (v := 39) hi_229_246 rfl ?_
    refine l7 hi_229_247 ?_
    refine l20 (v := .int (((kfin (k229b58 y2 z0) (s, kr s 40 ((s.1 37) - 1), kr s 40 ((s.1 37) - 1))).2.1).1 44)) h28 hi_229_248 rfl ?_
    refine l0 hi_229_251 ?_
    refine l10 hi_229_252 ?_
    show am_L _ _ _ _ _ [some (.ref 39), p8, some (.int y2), some (.int z0), some (.int ((kfin (k229b58 y2 z0) (s, kr s 40 ((s.1 37) - 1), kr s 40 ((s.1 37) - 1))).2.2.1)), some (.int ((kfin (k229b58 y2 z0) (s, kr s 40 ((s.1 37) - 1), kr s 40 ((s.1 37) - 1))).2.2.2))] [.int ((((kfin (k229b58 y2 z0) (s, kr s 40 ((s.1 37) - 1), kr s 40 ((s.1 37) - 1))).2.1).1 44) + 1), .ref 39] _ _
    refine l21 h28 hi_229_253 ms_44 fun S29 h30 => ?_
    refine l35 hi_229_256 ⟨rfl, ?_⟩
    exact h30
noncomputable def k229_22 (s : kS) (y2 : Int32) : kS × Int32 := if (k231 s) = 0 then k229_40 s y2 (k197 s) else k229_40 s y2 (k232 s)
theorem lt229_22 {sc : Nat × (Nat → Int32)} {N d : Nat} {S0 S : am_S} {s : kS} {y2 : Int32} {o1 : Option Value} {o3 : Option Value} {o4 : Option Value} {o5 : Option Value} (hS : MK S0 S s) : am_L (am_PP sc) N d 229 22 [some (.ref 39), o1, some (.int y2), o3, o4, o5] [] S (fun o S1 => o = some none ∧ MK S0 S1 (k229_22 s y2).1) := by
  refine l2 (v := 39) hi_229_22 rfl ?_
  refine l32 (as := [.ref 39]) (la := [some (.ref 39), none, none, none]) (rest := []) hi_229_23 (am_hd0 (M := 229) (by decide) 23) rfl rfl rfl (fun N' d' _ => lt231 (N := N') (d := d') hS) ?_ (fun _ q => nomatch q.1)
  rintro v3 S1 ⟨ev3, h2⟩
  cases ev3
  show am_L _ _ _ _ _ [some (.ref 39), o1, some (.int y2), o3, o4, o5] [.int (k231 s)] _ _
  by_cases c4 : (k231 s) = 0
  · refine l12t hi_229_26 (decide_eq_true c4) ?_
    refine l2 (v := 39) hi_229_36 rfl ?_
    refine l32 (as := [.ref 39]) (la := [some (.ref 39)]) (rest := []) hi_229_37 (am_hd0 (M := 229) (by decide) 37) rfl rfl rfl (fun N' d' _ => lt197 (N := N') (d := d') h2) ?_ (fun _ q => nomatch q.1)
    rintro v7 S5 ⟨ev7, h6⟩
    cases ev7
    show am_L _ _ _ _ _ [some (.ref 39), o1, some (.int y2), o3, o4, o5] [.int (k197 s)] _ _
    refine am_L.mono (lt229_40 h6) ?_
    rintro o S1 ⟨e, h⟩
    have q : k229_22 s y2 = k229_40 s y2 (k197 s) := by unfold k229_22; rw [if_pos c4]
    rw [q]; exact ⟨e, h⟩
  · refine l12f hi_229_26 (decide_eq_false c4) ?_
    refine l2 (v := 39) hi_229_29 rfl ?_
    refine l32 (as := [.ref 39]) (la := [some (.ref 39)]) (rest := []) hi_229_30 (am_hd0 (M := 229) (by decide) 30) rfl rfl rfl (fun N' d' _ => lt232 (N := N') (d := d') h2) ?_ (fun _ q => nomatch q.1)
    rintro v10 S8 ⟨ev10, h9⟩
    cases ev10
    show am_L _ _ _ _ _ [some (.ref 39), o1, some (.int y2), o3, o4, o5] [.int (k232 s)] _ _
    refine l18 hi_229_33 ?_
    refine am_L.mono (lt229_40 h9) ?_
    rintro o S1 ⟨e, h⟩
    have q : k229_22 s y2 = k229_40 s y2 (k232 s) := by unfold k229_22; rw [if_neg c4]
    rw [q]; exact ⟨e, h⟩
/-- label(I)V -/
noncomputable def k229 (s : kS) (x1 : Int32) : kS × Int32 := if (k230 s (kr s 2 x1)) < 0 then k229_22 s (kr s 2 x1) else k229_22 ((k191 s 13 x1).1) (kr s 2 x1)
theorem lt229 {sc : Nat × (Nat → Int32)} {N d : Nat} {S0 S : am_S} {s : kS} {x1 : Int32} (hS : MK S0 S s) : am_L (am_PP sc) N d 229 0 [some (.ref 39), some (.int x1), none, none, none, none] [] S (fun o S1 => o = some none ∧ MK S0 S1 (k229 s x1).1) := by
  refine l2 (v := 39) hi_229_0 rfl ?_
  refine l20 (v := .ref 41) hS hi_229_1 rfl ?_
  refine l1 (v := x1) hi_229_4 rfl ?_
  refine l25 hS ma_2 hi_229_5 fun g1 g2 => ?_
  show am_L _ _ _ _ _ [some (.ref 39), some (.int x1), none, none, none, none] [.int (kr s 2 x1)] _ _
  refine l3 (ls' := [some (.ref 39), some (.int x1), some (.int (kr s 2 x1)), none, none, none]) hi_229_6 (Nat.le_of_ble_eq_true rfl) rfl ?_
  refine l2 (v := 39) hi_229_7 rfl ?_
  refine l1 (v := kr s 2 x1) hi_229_8 rfl ?_
  refine l32 (as := [.ref 39, .int (kr s 2 x1)]) (la := [some (.ref 39), some (.int (kr s 2 x1)), none]) (rest := []) hi_229_9 (am_hd0 (M := 229) (by decide) 9) rfl rfl rfl (fun N' d' _ => lt230 (N := N') (d := d') hS) ?_ (fun _ q => nomatch q.1)
  rintro v5 S3 ⟨ev5, h4⟩
  cases ev5
  show am_L _ _ _ _ _ [some (.ref 39), some (.int x1), some (.int (kr s 2 x1)), none, none, none] [.int (k230 s (kr s 2 x1))] _ _
  by_cases c6 : (k230 s (kr s 2 x1)) < 0
  · refine l12t hi_229_12 (decide_eq_true c6) ?_
    refine am_L.mono (lt229_22 h4) ?_
    rintro o S1 ⟨e, h⟩
    have q : k229 s x1 = k229_22 s (kr s 2 x1) := by unfold k229; rw [if_pos c6]
    rw [q]; exact ⟨e, h⟩
  · refine l12f hi_229_12 (decide_eq_false c6) ?_
    refine l2 (v := 39) hi_229_15 rfl ?_
    refine l0 hi_229_16 ?_
    refine l1 (v := x1) hi_229_18 rfl ?_
    refine l32 (as := [.ref 39, .int 13, .int x1]) (la := [some (.ref 39), some (.int 13), some (.int x1)]) (rest := []) hi_229_19 (am_hd0 (M := 229) (by decide) 19) rfl rfl rfl (fun N' d' _ => lt191 (N := N') (d := d') h4) ?_ (fun _ q => nomatch q.1)
    rintro v9 S7 ⟨ev9, h8⟩
    cases ev9
    show am_L _ _ _ _ _ [some (.ref 39), some (.int x1), some (.int (kr s 2 x1)), none, none, none] [] _ _
    refine am_L.mono (lt229_22 h8) ?_
    rintro o S1 ⟨e, h⟩
    have q : k229 s x1 = k229_22 ((k191 s 13 x1).1) (kr s 2 x1) := by unfold k229; rw [if_neg c6]
    rw [q]; exact ⟨e, h⟩
def k233b7 (s : kS) (y1 : Int32) (t : Int32) : Nat × (Int32) := if t < 0 then (1, t) else if (kr s 41 t) ≠ (s.1 32) then (1, t) else if (kr s 42 t) ≠ 0 then (1, t) else (0, (t + (-1)))
theorem lb233_7 {sc : Nat × (Nat → Int32)} {d : Nat} {S0 : am_S} {s : kS} {y1 : Int32} {Q : Option (Option Value) → am_S → Prop} : ∀ (N : Nat) (S : am_S) (t : Int32), MK S0 S s → (∀ m S1, (kwh (k233b7 s y1) m t).1 = 1 → MK S0 S1 s → am_L (am_PP sc) N d 233 39 [some (.ref 39), some (.int y1), some (.int ((kwh (k233b7 s y1) m t).2))] [] S1 Q) → am_L (am_PP sc) N d 233 7 [some (.ref 39), some (.int y1), some (.int t)] [] S Q := by
  intro N
  induction N with
  | zero => intros; exact l_zero
  | succ N ih =>
    intro S t hS kx39
    refine l1d (v := t) hi_233_7 rfl ?_
    by_cases c1 : t < 0
    · refine l12t hi_233_8 (decide_eq_true c1) ?_
      have e0 : (k233b7 s y1) t = (1, t) := by unfold k233b7; rw [if_pos c1]
      have e1 : kwh (k233b7 s y1) 1 t = (1, t) := by rw [kwh_out (by rw [e0]; exact Nat.succ_ne_zero _), e0]
      have q := kx39 1 _  (by rw [e1]) (by exact hS)
      try rw [e1] at q
      exact q.less (Nat.le_succ N)
    · refine l12f hi_233_8 (decide_eq_false c1) ?_
      refine l2 (v := 39) hi_233_11 rfl ?_
      refine l20 (v := .ref 65) hS hi_233_12 rfl ?_
      refine l1 (v := t) hi_233_15 rfl ?_
      refine l25 hS ma_41 hi_233_16 fun g2 g3 => ?_
      show am_L _ _ _ _ _ [some (.ref 39), some (.int y1), some (.int t)] [.int (kr s 41 t)] _ _
      refine l2 (v := 39) hi_233_17 rfl ?_
      refine l20 (v := .int (s.1 32)) hS hi_233_18 rfl ?_
      by_cases c4 : (kr s 41 t) ≠ (s.1 32)
      · refine l13t hi_233_21 (decide_eq_true c4) ?_
        have e0 : (k233b7 s y1) t = (1, t) := by unfold k233b7; rw [if_neg c1]; rw [if_pos c4]
        have e1 : kwh (k233b7 s y1) 1 t = (1, t) := by rw [kwh_out (by rw [e0]; exact Nat.succ_ne_zero _), e0]
        have q := kx39 1 _  (by rw [e1]) (by exact hS)
        try rw [e1] at q
        exact q.less (Nat.le_succ N)
      · refine l13f hi_233_21 (decide_eq_false c4) ?_
        refine l2 (v := 39) hi_233_24 rfl ?_
        refine l20 (v := .ref 66) hS hi_233_25 rfl ?_
        refine l1 (v := t) hi_233_28 rfl ?_
        refine l25 hS ma_42 hi_233_29 fun g5 g6 => ?_
        show am_L _ _ _ _ _ [some (.ref 39), some (.int y1), some (.int t)] [.int (kr s 42 t)] _ _
        by_cases c7 : (kr s 42 t) ≠ 0
        · refine l12t hi_233_30 (decide_eq_true c7) ?_
          have e0 : (k233b7 s y1) t = (1, t) := by unfold k233b7; rw [if_neg c1]; rw [if_neg c4]; rw [if_pos c7]
          have e1 : kwh (k233b7 s y1) 1 t = (1, t) := by rw [kwh_out (by rw [e0]; exact Nat.succ_ne_zero _), e0]
          have q := kx39 1 _  (by rw [e1]) (by exact hS)
          try rw [e1] at q
          exact q.less (Nat.le_succ N)
        · refine l12f hi_233_30 (decide_eq_false c7) ?_
          refine l5 (v := t) (ls' := [some (.ref 39), some (.int y1), some (.int (t + (-1)))]) hi_233_33 rfl rfl ?_
          refine l18 hi_233_36 ?_
          have e0 : (k233b7 s y1) t = (0, (t + (-1))) := by unfold k233b7; rw [if_neg c1]; rw [if_neg c4]; rw [if_neg c7]
          have e1 : ∀ m, kwh (k233b7 s y1) (m + 1) t = kwh (k233b7 s y1) m (t + (-1)) := fun m => by rw [kwh_go (by rw [e0]), e0]
          exact ih _  (t + (-1)) hS (fun m S1 hm h1 => by have q := kx39 (m + 1) S1 (by rw [e1]; exact hm) (by exact h1); (try rw [e1] at q); exact q.less (Nat.le_succ N))
noncomputable def k233_56 (s : kS) (y1 : Int32) : kS × Int32 := ((k191 s 11 y1).1, 0)
theorem lt233_56 {sc : Nat × (Nat → Int32)} {N d : Nat} {S0 S : am_S} {s : kS} {y1 : Int32} {o2 : Option Value} (hS : MK S0 S s) : am_L (am_PP sc) N d 233 56 [some (.ref 39), some (.int y1), o2] [] S (fun o S1 => o = some none ∧ MK S0 S1 (k233_56 s y1).1) := by
  refine l2 (v := 39) hi_233_56 rfl ?_
  refine l0 hi_233_57 ?_
  refine l1 (v := y1) hi_233_59 rfl ?_
  refine l32 (as := [.ref 39, .int 11, .int y1]) (la := [some (.ref 39), some (.int 11), some (.int y1)]) (rest := []) hi_233_60 (am_hd0 (M := 233) (by decide) 60) rfl rfl rfl (fun N' d' _ => lt191 (N := N') (d := d') hS) ?_ (fun _ q => nomatch q.1)
  rintro v3 S1 ⟨ev3, h2⟩
  cases ev3
  show am_L _ _ _ _ _ [some (.ref 39), some (.int y1), o2] [] _ _
  refine l35 hi_233_63 ⟨rfl, ?_⟩
  exact h2
noncomputable def k233_121 (s : kS) (z0 : Int32) (z1 : Int32) : kS × Int32 := (ka s 43 z1 (z0 + 1), 0)
theorem lt233_121 {sc : Nat × (Nat → Int32)} {N d : Nat} {S0 S : am_S} {s : kS} {z0 : Int32} {z1 : Int32} {o1 : Option Value} {o2 : Option Value} (hS : MK S0 S s) : am_L (am_PP sc) N d 233 121 [some (.ref 39), o1, o2] [.int z0, .int z1, .ref 67] S (fun o S1 => o = some none ∧ MK S0 S1 (k233_121 s z0 z1).1) := by
  refine l0 hi_233_121 ?_
  refine l10 hi_233_122 ?_
  show am_L _ _ _ _ _ [some (.ref 39), o1, o2] [.int (z0 + 1), .int z1, .ref 67] _ _
  refine l26 hS ma_43 hi_233_123 fun S3 h4 g1 g2 => ?_
  refine l35 hi_233_124 ⟨rfl, ?_⟩
  exact h4
noncomputable def k233_102 (s : kS) (y2 : Int32) : kS × Int32 := k233_121 ((k189 s 36 (kr s 43 y2) 0 0).1) ((k189 s 36 (kr s 43 y2) 0 0).2) y2
theorem lt233_102 {sc : Nat × (Nat → Int32)} {N d : Nat} {S0 S : am_S} {s : kS} {y2 : Int32} {o1 : Option Value} (hS : MK S0 S s) : am_L (am_PP sc) N d 233 102 [some (.ref 39), o1, some (.int y2)] [] S (fun o S1 => o = some none ∧ MK S0 S1 (k233_102 s y2).1) := by
  refine l2 (v := 39) hi_233_102 rfl ?_
  refine l20 (v := .ref 67) hS hi_233_103 rfl ?_
  refine l1 (v := y2) hi_233_106 rfl ?_
  refine l2 (v := 39) hi_233_107 rfl ?_
  refine l0 hi_233_108 ?_
  refine l2 (v := 39) hi_233_110 rfl ?_
  refine l20 (v := .ref 67) hS hi_233_111 rfl ?_
  refine l1 (v := y2) hi_233_114 rfl ?_
  refine l25 hS ma_43 hi_233_115 fun g1 g2 => ?_
  show am_L _ _ _ _ _ [some (.ref 39), o1, some (.int y2)] [.int (kr s 43 y2), .int 36, .ref 39, .int y2, .ref 67] _ _
  refine l0 hi_233_116 ?_
  refine l0 hi_233_117 ?_
  refine l32 (as := [.ref 39, .int 36, .int (kr s 43 y2), .int 0, .int 0]) (la := [some (.ref 39), some (.int 36), some (.int (kr s 43 y2)), some (.int 0), some (.int 0)]) (rest := [.int y2, .ref 67]) hi_233_118 (am_hd0 (M := 233) (by decide) 118) rfl rfl rfl (fun N' d' _ => lt189 (N := N') (d := d') hS) ?_ (fun _ q => nomatch q.1)
  rintro v5 S3 ⟨ev5, h4⟩
  cases ev5
  show am_L _ _ _ _ _ [some (.ref 39), o1, some (.int y2)] [.int ((k189 s 36 (kr s 43 y2) 0 0).2), .int y2, .ref 67] _ _
  refine am_L.mono (lt233_121 h4) ?_
  rintro o S1 ⟨e, h⟩
  have q : k233_102 s y2 = k233_121 ((k189 s 36 (kr s 43 y2) 0 0).1) ((k189 s 36 (kr s 43 y2) 0 0).2) y2 := rfl
  rw [q]; exact ⟨e, h⟩
noncomputable def k233_101 (s : kS) (y2 : Int32) (z0 : Int32) : kS × Int32 := k233_102 s y2
theorem lt233_101 {sc : Nat × (Nat → Int32)} {N d : Nat} {S0 S : am_S} {s : kS} {y2 : Int32} {z0 : Int32} {o1 : Option Value} (hS : MK S0 S s) : am_L (am_PP sc) N d 233 101 [some (.ref 39), o1, some (.int y2)] [.int z0] S (fun o S1 => o = some none ∧ MK S0 S1 (k233_101 s y2 z0).1) := by
  refine l6i hi_233_101 ?_
  refine am_L.mono (lt233_102 hS) ?_
  rintro o S1 ⟨e, h⟩
  have q : k233_101 s y2 z0 = k233_102 s y2 := rfl
  rw [q]; exact ⟨e, h⟩
noncomputable def k233_39 (s : kS) (y1 : Int32) (y2 : Int32) : kS × Int32 := if y2 < 0 then k233_56 s y1 else if (kr s 41 y2) = (s.1 32) then if (s.1 24) ≤ (kr s 38 y2) then k233_102 s y2 else k233_101 ((k189 s 33 ((kr s 38 y2) - (kr s 34 (s.1 32))) 0 0).1) y2 ((k189 s 33 ((kr s 38 y2) - (kr s 34 (s.1 32))) 0 0).2) else k233_56 s y1
theorem lt233_39 {sc : Nat × (Nat → Int32)} {N d : Nat} {S0 S : am_S} {s : kS} {y1 : Int32} {y2 : Int32} (hS : MK S0 S s) : am_L (am_PP sc) N d 233 39 [some (.ref 39), some (.int y1), some (.int y2)] [] S (fun o S1 => o = some none ∧ MK S0 S1 (k233_39 s y1 y2).1) := by
  refine l1 (v := y2) hi_233_39 rfl ?_
  by_cases c1 : y2 < 0
  · refine l12t hi_233_40 (decide_eq_true c1) ?_
    refine am_L.mono (lt233_56 hS) ?_
    rintro o S1 ⟨e, h⟩
    have q : k233_39 s y1 y2 = k233_56 s y1 := by unfold k233_39; rw [if_pos c1]
    rw [q]; exact ⟨e, h⟩
  · refine l12f hi_233_40 (decide_eq_false c1) ?_
    refine l2 (v := 39) hi_233_43 rfl ?_
    refine l20 (v := .ref 65) hS hi_233_44 rfl ?_
    refine l1 (v := y2) hi_233_47 rfl ?_
    refine l25 hS ma_41 hi_233_48 fun g2 g3 => ?_
    show am_L _ _ _ _ _ [some (.ref 39), some (.int y1), some (.int y2)] [.int (kr s 41 y2)] _ _
    refine l2 (v := 39) hi_233_49 rfl ?_
    refine l20 (v := .int (s.1 32)) hS hi_233_50 rfl ?_
    by_cases c4 : (kr s 41 y2) = (s.1 32)
    · refine l13t hi_233_53 (decide_eq_true c4) ?_
      refine l2 (v := 39) hi_233_64 rfl ?_
      refine l20 (v := .int (s.1 24)) hS hi_233_65 rfl ?_
      refine l2 (v := 39) hi_233_68 rfl ?_
      refine l20 (v := .ref 62) hS hi_233_69 rfl ?_
      refine l1 (v := y2) hi_233_72 rfl ?_
      refine l25 hS ma_38 hi_233_73 fun g5 g6 => ?_
      show am_L _ _ _ _ _ [some (.ref 39), some (.int y1), some (.int y2)] [.int (kr s 38 y2), .int (s.1 24)] _ _
      by_cases c7 : (s.1 24) ≤ (kr s 38 y2)
      · refine l13t hi_233_74 (decide_eq_true c7) ?_
        refine am_L.mono (lt233_102 hS) ?_
        rintro o S1 ⟨e, h⟩
        have q : k233_39 s y1 y2 = k233_102 s y2 := by unfold k233_39; rw [if_neg c1]; rw [if_pos c4]; rw [if_pos c7]
        rw [q]; exact ⟨e, h⟩
      · refine l13f hi_233_74 (decide_eq_false c7) ?_
        refine l2 (v := 39) hi_233_77 rfl ?_
        refine l0 hi_233_78 ?_
        refine l2 (v := 39) hi_233_80 rfl ?_
        refine l20 (v := .ref 62) hS hi_233_81 rfl ?_
        refine l1 (v := y2) hi_233_84 rfl ?_
        refine l25 hS ma_38 hi_233_85 fun g8 g9 => ?_
        show am_L _ _ _ _ _ [some (.ref 39), some (.int y1), some (.int y2)] [.int (kr s 38 y2), .int 33, .ref 39] _ _
        refine l2 (v := 39) hi_233_86 rfl ?_
        refine l20 (v := .ref 59) hS hi_233_87 rfl ?_
        refine l2 (v := 39) hi_233_90 rfl ?_
        refine l20 (v := .int (s.1 32)) hS hi_233_91 rfl ?_
        refine l25 hS ma_34 hi_233_94 fun g10 g11 => ?_
        show am_L _ _ _ _ _ [some (.ref 39), some (.int y1), some (.int y2)] [.int (kr s 34 (s.1 32)), .int (kr s 38 y2), .int 33, .ref 39] _ _
        refine l10 hi_233_95 ?_
        show am_L _ _ _ _ _ [some (.ref 39), some (.int y1), some (.int y2)] [.int ((kr s 38 y2) - (kr s 34 (s.1 32))), .int 33, .ref 39] _ _
        refine l0 hi_233_96 ?_
        refine l0 hi_233_97 ?_
        refine l32 (as := [.ref 39, .int 33, .int ((kr s 38 y2) - (kr s 34 (s.1 32))), .int 0, .int 0]) (la := [some (.ref 39), some (.int 33), some (.int ((kr s 38 y2) - (kr s 34 (s.1 32)))), some (.int 0), some (.int 0)]) (rest := []) hi_233_98 (am_hd0 (M := 233) (by decide) 98) rfl rfl rfl (fun N' d' _ => lt189 (N := N') (d := d') hS) ?_ (fun _ q => nomatch q.1)
        rintro v14 S12 ⟨ev14, h13⟩
        cases ev14
        show am_L _ _ _ _ _ [some (.ref 39), some (.int y1), some (.int y2)] [.int ((k189 s 33 ((kr s 38 y2) - (kr s 34 (s.1 32))) 0 0).2)] _ _
        refine am_L.mono (lt233_101 h13) ?_
        rintro o S1 ⟨e, h⟩
        have q : k233_39 s y1 y2 = k233_101 ((k189 s 33 ((kr s 38 y2) - (kr s 34 (s.1 32))) 0 0).1) y2 ((k189 s 33 ((kr s 38 y2) - (kr s 34 (s.1 32))) 0 0).2) := by unfold k233_39; rw [if_neg c1]; rw [if_pos c4]; rw [if_neg c7]
        rw [q]; exact ⟨e, h⟩
    · refine l13f hi_233_53 (decide_eq_false c4) ?_
      refine am_L.mono (lt233_56 hS) ?_
      rintro o S1 ⟨e, h⟩
      have q : k233_39 s y1 y2 = k233_56 s y1 := by unfold k233_39; rw [if_neg c1]; rw [if_neg c4]
      rw [q]; exact ⟨e, h⟩
/-- leaveLoop(I)V -/
noncomputable def k233 (s : kS) (x1 : Int32) : kS × Int32 := k233_39 s x1 ((kfin (k233b7 s x1) ((s.1 37) - 1)).2)
theorem lt233 {sc : Nat × (Nat → Int32)} {N d : Nat} {S0 S : am_S} {s : kS} {x1 : Int32} (hS : MK S0 S s) : am_L (am_PP sc) N d 233 0 [some (.ref 39), some (.int x1), none] [] S (fun o S1 => o = some none ∧ MK S0 S1 (k233 s x1).1) := by
  refine l2 (v := 39) hi_233_0 rfl ?_
  refine l20 (v := .int (s.1 37)) hS hi_233_1 rfl ?_
  refine l0 hi_233_4 ?_
  refine l10 hi_233_5 ?_
  show am_L _ _ _ _ _ [some (.ref 39), some (.int x1), none] [.int ((s.1 37) - 1)] _ _
  refine l3 (ls' := [some (.ref 39), some (.int x1), some (.int ((s.1 37) - 1))]) hi_233_6 (Nat.le_of_ble_eq_true rfl) rfl ?_
  refine lb233_7 N _  ((s.1 37) - 1) hS ?_
  · intro m1 S2  hm3 h4
    have hf5 : kfin (k233b7 s x1) ((s.1 37) - 1) = kwh (k233b7 s x1) m1 ((s.1 37) - 1) := kfin_eq (by rw [hm3]; decide)
    rw [← hf5] at hm3
    try rw [← hf5]
    refine am_L.mono (lt233_39 h4) ?_
    rintro o S1 ⟨e, h⟩
    have q : k233 s x1 = k233_39 s x1 ((kfin (k233b7 s x1) ((s.1 37) - 1)).2) := rfl
    rw [q]; exact ⟨e, h⟩
noncomputable def k234_67 (s : kS) (y1 : Int32) (y2 : Int32) (y3 : Int32) (y4 : Int32) (z0 : Int32) : kS × Int32 := if y3 < 0 then (kf (ka (ka (ka (ka s 49 (s.1 48) (kr s 2 y2)) 50 (s.1 48) y1) 51 (s.1 48) y4) 52 (s.1 48) (k197 (ka (ka (ka s 49 (s.1 48) (kr s 2 y2)) 50 (s.1 48) y1) 51 (s.1 48) y4))) 48 ((s.1 48) + 1), 0) else (s, 0)
theorem lt234_67 {sc : Nat × (Nat → Int32)} {N d : Nat} {S0 S : am_S} {s : kS} {y1 : Int32} {y2 : Int32} {y3 : Int32} {y4 : Int32} {z0 : Int32} (hS : MK S0 S s) : am_L (am_PP sc) N d 234 67 [some (.ref 39), some (.int y1), some (.int y2), some (.int y3), some (.int y4)] [.int z0] S (fun o S1 => o = some none ∧ MK S0 S1 (k234_67 s y1 y2 y3 y4 z0).1) := by
  refine l6i hi_234_67 ?_
  refine l1 (v := y3) hi_234_68 rfl ?_
  by_cases c1 : y3 < 0
  · refine l12t hi_234_69 (decide_eq_true c1) ?_
    refine l2 (v := 39) hi_234_73 rfl ?_
    refine l20 (v := .ref 71) hS hi_234_74 rfl ?_
    refine l2 (v := 39) hi_234_77 rfl ?_
    refine l20 (v := .int (s.1 48)) hS hi_234_78 rfl ?_
    refine l2 (v := 39) hi_234_81 rfl ?_
    refine l20 (v := .ref 41) hS hi_234_82 rfl ?_
    refine l1 (v := y2) hi_234_85 rfl ?_
    refine l25 hS ma_2 hi_234_86 fun g2 g3 => ?_
    show am_L _ _ _ _ _ [some (.ref 39), some (.int y1), some (.int y2), some (.int y3), some (.int y4)] [.int (kr s 2 y2), .int (s.1 48), .ref 71] _ _
    refine l26 hS ma_49 hi_234_87 fun S6 h7 g4 g5 => ?_
    refine l2 (v := 39) hi_234_88 rfl ?_
    refine l20 (v := .ref 72) h7 hi_234_89 rfl ?_
    refine l2 (v := 39) hi_234_92 rfl ?_
    refine l20 (v := .int (s.1 48)) h7 hi_234_93 rfl ?_
    refine l1 (v := y1) hi_234_96 rfl ?_
    refine l26 h7 ma_50 hi_234_97 fun S10 h11 g8 g9 => ?_
    refine l2 (v := 39) hi_234_98 rfl ?_
    refine l20 (v := .ref 73) h11 hi_234_99 rfl ?_
    refine l2 (v := 39) hi_234_102 rfl ?_
    refine l20 (v := .int (s.1 48)) h11 hi_234_103 rfl ?_
    refine l1 (v := y4) hi_234_106 rfl ?_
    refine l26 h11 ma_51 hi_234_108 fun S14 h15 g12 g13 => ?_
    refine l2 (v := 39) hi_234_109 rfl ?_
    refine l20 (v := .ref 74) h15 hi_234_110 rfl ?_
    refine l2 (v := 39) hi_234_113 rfl ?_
    refine l20 (v := .int (s.1 48)) h15 hi_234_114 rfl ?_
    refine l2 (v := 39) hi_234_117 rfl ?_
    refine l32 (as := [.ref 39]) (la := [some (.ref 39)]) (rest := [.int (s.1 48), .ref 74]) hi_234_118 (am_hd0 (M := 234) (by decide) 118) rfl rfl rfl (fun N' d' _ => lt197 (N := N') (d := d') h15) ?_ (fun _ q => nomatch q.1)
    rintro v18 S16 ⟨ev18, h17⟩
    cases ev18
    show am_L _ _ _ _ _ [some (.ref 39), some (.int y1), some (.int y2), some (.int y3), some (.int y4)] [.int (k197 (ka (ka (ka s 49 (s.1 48) (kr s 2 y2)) 50 (s.1 48) y1) 51 (s.1 48) y4)), .int (s.1 48), .ref 74] _ _
    refine l26 h17 ma_52 hi_234_121 fun S21 h22 g19 g20 => ?_
    refine l2 (v := 39) hi_234_122 rfl ?_
    refine l7 hi_234_123 ?_
    refine l20 (v := .int (s.1 48)) h22 hi_234_124 rfl ?_
    refine l0 hi_234_127 ?_
    refine l10 hi_234_128 ?_
    show am_L _ _ _ _ _ [some (.ref 39), some (.int y1), some (.int y2), some (.int y3), some (.int y4)] [.int ((s.1 48) + 1), .ref 39] _ _
    refine l21 h22 hi_234_129 ms_48 fun S23 h24 => ?_
    refine l35 hi_234_132 ⟨rfl, ?_⟩
    unfold k234_67; rw [if_pos c1]; exact h24
  · refine l12f hi_234_69 (decide_eq_false c1) ?_
    refine l35 hi_234_72 ⟨rfl, ?_⟩
    unfold k234_67; rw [if_neg c1]; exact hS
noncomputable def k234_62 (s : kS) (y1 : Int32) (y2 : Int32) (y3 : Int32) (y4 : Int32) (z0 : Int32) (z1 : Int32) : kS × Int32 := k234_67 ((k189 s z1 z0 0 0).1) y1 y2 y3 y4 ((k189 s z1 z0 0 0).2)
theorem lt234_62 {sc : Nat × (Nat → Int32)} {N d : Nat} {S0 S : am_S} {s : kS} {y1 : Int32} {y2 : Int32} {y3 : Int32} {y4 : Int32} {z0 : Int32} {z1 : Int32} (hS : MK S0 S s) : am_L (am_PP sc) N d 234 62 [some (.ref 39), some (.int y1), some (.int y2), some (.int y3), some (.int y4)] [.int z0, .int z1, .ref 39] S (fun o S1 => o = some none ∧ MK S0 S1 (k234_62 s y1 y2 y3 y4 z0 z1).1) := by
  refine l0 hi_234_62 ?_
  refine l0 hi_234_63 ?_
  refine l32 (as := [.ref 39, .int z1, .int z0, .int 0, .int 0]) (la := [some (.ref 39), some (.int z1), some (.int z0), some (.int 0), some (.int 0)]) (rest := []) hi_234_64 (am_hd0 (M := 234) (by decide) 64) rfl rfl rfl (fun N' d' _ => lt189 (N := N') (d := d') hS) ?_ (fun _ q => nomatch q.1)
  rintro v3 S1 ⟨ev3, h2⟩
  cases ev3
  show am_L _ _ _ _ _ [some (.ref 39), some (.int y1), some (.int y2), some (.int y3), some (.int y4)] [.int ((k189 s z1 z0 0 0).2)] _ _
  refine am_L.mono (lt234_67 h2) ?_
  rintro o S1 ⟨e, h⟩
  have q : k234_62 s y1 y2 y3 y4 z0 z1 = k234_67 ((k189 s z1 z0 0 0).1) y1 y2 y3 y4 ((k189 s z1 z0 0 0).2) := rfl
  rw [q]; exact ⟨e, h⟩
noncomputable def k234_43 (s : kS) (y1 : Int32) (y2 : Int32) (y3 : Int32) (z0 : Int32) : kS × Int32 := if 0 ≤ y3 then k234_62 s y1 y2 y3 z0 (kr s 46 y3) 36 else k234_62 s y1 y2 y3 z0 0 36
theorem lt234_43 {sc : Nat × (Nat → Int32)} {N d : Nat} {S0 S : am_S} {s : kS} {y1 : Int32} {y2 : Int32} {y3 : Int32} {z0 : Int32} {o4 : Option Value} (hS : MK S0 S s) : am_L (am_PP sc) N d 234 43 [some (.ref 39), some (.int y1), some (.int y2), some (.int y3), o4] [.int z0] S (fun o S1 => o = some none ∧ MK S0 S1 (k234_43 s y1 y2 y3 z0).1) := by
  refine l3 (ls' := [some (.ref 39), some (.int y1), some (.int y2), some (.int y3), some (.int z0)]) hi_234_43 (Nat.le_of_ble_eq_true rfl) rfl ?_
  refine l2 (v := 39) hi_234_45 rfl ?_
  refine l0 hi_234_46 ?_
  refine l1 (v := y3) hi_234_48 rfl ?_
  by_cases c1 : 0 ≤ y3
  · refine l12t hi_234_49 (decide_eq_true c1) ?_
    refine l2 (v := 39) hi_234_56 rfl ?_
    refine l20 (v := .ref 69) hS hi_234_57 rfl ?_
    refine l1 (v := y3) hi_234_60 rfl ?_
    refine l25 hS ma_46 hi_234_61 fun g2 g3 => ?_
    show am_L _ _ _ _ _ [some (.ref 39), some (.int y1), some (.int y2), some (.int y3), some (.int z0)] [.int (kr s 46 y3), .int 36, .ref 39] _ _
    refine am_L.mono (lt234_62 hS) ?_
    rintro o S1 ⟨e, h⟩
    have q : k234_43 s y1 y2 y3 z0 = k234_62 s y1 y2 y3 z0 (kr s 46 y3) 36 := by unfold k234_43; rw [if_pos c1]
    rw [q]; exact ⟨e, h⟩
  · refine l12f hi_234_49 (decide_eq_false c1) ?_
    refine l0 hi_234_52 ?_
    refine l18 hi_234_53 ?_
    refine am_L.mono (lt234_62 hS) ?_
    rintro o S1 ⟨e, h⟩
    have q : k234_43 s y1 y2 y3 z0 = k234_62 s y1 y2 y3 z0 0 36 := by unfold k234_43; rw [if_neg c1]
    rw [q]; exact ⟨e, h⟩
noncomputable def k234_38 (s : kS) (y1 : Int32) (y2 : Int32) (y3 : Int32) (z0 : Int32) (z1 : Int32) : kS × Int32 := k234_43 ((k189 s z1 z0 0 0).1) y1 y2 y3 ((k189 s z1 z0 0 0).2)
theorem lt234_38 {sc : Nat × (Nat → Int32)} {N d : Nat} {S0 S : am_S} {s : kS} {y1 : Int32} {y2 : Int32} {y3 : Int32} {z0 : Int32} {z1 : Int32} {o4 : Option Value} (hS : MK S0 S s) : am_L (am_PP sc) N d 234 38 [some (.ref 39), some (.int y1), some (.int y2), some (.int y3), o4] [.int z0, .int z1, .ref 39] S (fun o S1 => o = some none ∧ MK S0 S1 (k234_38 s y1 y2 y3 z0 z1).1) := by
  refine l0 hi_234_38 ?_
  refine l0 hi_234_39 ?_
  refine l32 (as := [.ref 39, .int z1, .int z0, .int 0, .int 0]) (la := [some (.ref 39), some (.int z1), some (.int z0), some (.int 0), some (.int 0)]) (rest := []) hi_234_40 (am_hd0 (M := 234) (by decide) 40) rfl rfl rfl (fun N' d' _ => lt189 (N := N') (d := d') hS) ?_ (fun _ q => nomatch q.1)
  rintro v3 S1 ⟨ev3, h2⟩
  cases ev3
  show am_L _ _ _ _ _ [some (.ref 39), some (.int y1), some (.int y2), some (.int y3), o4] [.int ((k189 s z1 z0 0 0).2)] _ _
  refine am_L.mono (lt234_43 h2) ?_
  rintro o S1 ⟨e, h⟩
  have q : k234_38 s y1 y2 y3 z0 z1 = k234_43 ((k189 s z1 z0 0 0).1) y1 y2 y3 ((k189 s z1 z0 0 0).2) := rfl
  rw [q]; exact ⟨e, h⟩
noncomputable def k234_9 (s : kS) (y1 : Int32) (y2 : Int32) (z0 : Int32) : kS × Int32 := if 0 ≤ (k230 s (kr s 2 y2)) then k234_38 s y1 y2 (k230 s (kr s 2 y2)) (kr s 47 (k230 s (kr s 2 y2))) 33 else k234_38 s y1 y2 (k230 s (kr s 2 y2)) 0 33
theorem lt234_9 {sc : Nat × (Nat → Int32)} {N d : Nat} {S0 S : am_S} {s : kS} {y1 : Int32} {y2 : Int32} {z0 : Int32} {o3 : Option Value} {o4 : Option Value} (hS : MK S0 S s) : am_L (am_PP sc) N d 234 9 [some (.ref 39), some (.int y1), some (.int y2), o3, o4] [.int z0] S (fun o S1 => o = some none ∧ MK S0 S1 (k234_9 s y1 y2 z0).1) := by
  refine l6i hi_234_9 ?_
  refine l2 (v := 39) hi_234_10 rfl ?_
  refine l2 (v := 39) hi_234_11 rfl ?_
  refine l20 (v := .ref 41) hS hi_234_12 rfl ?_
  refine l1 (v := y2) hi_234_15 rfl ?_
  refine l25 hS ma_2 hi_234_16 fun g1 g2 => ?_
  show am_L _ _ _ _ _ [some (.ref 39), some (.int y1), some (.int y2), o3, o4] [.int (kr s 2 y2), .ref 39] _ _
  refine l32 (as := [.ref 39, .int (kr s 2 y2)]) (la := [some (.ref 39), some (.int (kr s 2 y2)), none]) (rest := []) hi_234_17 (am_hd0 (M := 234) (by decide) 17) rfl rfl rfl (fun N' d' _ => lt230 (N := N') (d := d') hS) ?_ (fun _ q => nomatch q.1)
  rintro v5 S3 ⟨ev5, h4⟩
  cases ev5
  show am_L _ _ _ _ _ [some (.ref 39), some (.int y1), some (.int y2), o3, o4] [.int (k230 s (kr s 2 y2))] _ _
  refine l3 (ls' := [some (.ref 39), some (.int y1), some (.int y2), some (.int (k230 s (kr s 2 y2))), o4]) hi_234_20 (Nat.le_of_ble_eq_true rfl) rfl ?_
  refine l2 (v := 39) hi_234_21 rfl ?_
  refine l0 hi_234_22 ?_
  refine l1 (v := k230 s (kr s 2 y2)) hi_234_24 rfl ?_
  by_cases c6 : 0 ≤ (k230 s (kr s 2 y2))
  · refine l12t hi_234_25 (decide_eq_true c6) ?_
    refine l2 (v := 39) hi_234_32 rfl ?_
    refine l20 (v := .ref 70) h4 hi_234_33 rfl ?_
    refine l1 (v := k230 s (kr s 2 y2)) hi_234_36 rfl ?_
    refine l25 h4 ma_47 hi_234_37 fun g7 g8 => ?_
    show am_L _ _ _ _ _ [some (.ref 39), some (.int y1), some (.int y2), some (.int (k230 s (kr s 2 y2))), o4] [.int (kr s 47 (k230 s (kr s 2 y2))), .int 33, .ref 39] _ _
    refine am_L.mono (lt234_38 h4) ?_
    rintro o S1 ⟨e, h⟩
    have q : k234_9 s y1 y2 z0 = k234_38 s y1 y2 (k230 s (kr s 2 y2)) (kr s 47 (k230 s (kr s 2 y2))) 33 := by unfold k234_9; rw [if_pos c6]
    rw [q]; exact ⟨e, h⟩
  · refine l12f hi_234_25 (decide_eq_false c6) ?_
    refine l0 hi_234_28 ?_
    refine l18 hi_234_29 ?_
    refine am_L.mono (lt234_38 h4) ?_
    rintro o S1 ⟨e, h⟩
    have q : k234_9 s y1 y2 z0 = k234_38 s y1 y2 (k230 s (kr s 2 y2)) 0 33 := by unfold k234_9; rw [if_neg c6]
    rw [q]; exact ⟨e, h⟩
/-- go(II)V -/
noncomputable def k234 (s : kS) (x1 : Int32) (x2 : Int32) : kS × Int32 := k234_9 ((k189 s 34 0 0 x1).1) x1 x2 ((k189 s 34 0 0 x1).2)
theorem lt234 {sc : Nat × (Nat → Int32)} {N d : Nat} {S0 S : am_S} {s : kS} {x1 : Int32} {x2 : Int32} (hS : MK S0 S s) : am_L (am_PP sc) N d 234 0 [some (.ref 39), some (.int x1), some (.int x2), none, none] [] S (fun o S1 => o = some none ∧ MK S0 S1 (k234 s x1 x2).1) := by
  refine l2 (v := 39) hi_234_0 rfl ?_
  refine l0 hi_234_1 ?_
  refine l0 hi_234_3 ?_
  refine l0 hi_234_4 ?_
  refine l1 (v := x1) hi_234_5 rfl ?_
  refine l32 (as := [.ref 39, .int 34, .int 0, .int 0, .int x1]) (la := [some (.ref 39), some (.int 34), some (.int 0), some (.int 0), some (.int x1)]) (rest := []) hi_234_6 (am_hd0 (M := 234) (by decide) 6) rfl rfl rfl (fun N' d' _ => lt189 (N := N') (d := d') hS) ?_ (fun _ q => nomatch q.1)
  rintro v3 S1 ⟨ev3, h2⟩
  cases ev3
  show am_L _ _ _ _ _ [some (.ref 39), some (.int x1), some (.int x2), none, none] [.int ((k189 s 34 0 0 x1).2)] _ _
  refine am_L.mono (lt234_9 h2) ?_
  rintro o S1 ⟨e, h⟩
  have q : k234 s x1 x2 = k234_9 ((k189 s 34 0 0 x1).1) x1 x2 ((k189 s 34 0 0 x1).2) := rfl
  rw [q]; exact ⟨e, h⟩
def k235b45 (y1 : Int32) (t : kS × Int32) : Nat × (kS × Int32) := if (k183 t.1) ≠ 69 then (2, (t.1, t.2)) else if ((k200 (kf t.1 4 ((t.1.1 4) + 1)) 1).2) ≠ 0 then (0, ((k200 (kf t.1 4 ((t.1.1 4) + 1)) 1).1, t.2 + 1)) else (1, ((k200 (kf t.1 4 ((t.1.1 4) + 1)) 1).1, t.2))
theorem lb235_45 {sc : Nat × (Nat → Int32)} {d : Nat} {S0 : am_S} {y1 : Int32} {Q : Option (Option Value) → am_S → Prop} : ∀ (N : Nat) (S : am_S) (o3 : Option Value) (t : kS × Int32), MK S0 S t.1 → (∀ m S1 (p3 : Option Value), (kwh (k235b45 y1) m t).1 = 1 → MK S0 S1 (kwh (k235b45 y1) m t).2.1 → am_L (am_PP sc) N d 235 72 [some (.ref 39), some (.int y1), some (.int ((kwh (k235b45 y1) m t).2.2)), p3] [] S1 Q) → (∀ m S1 (p3 : Option Value), (kwh (k235b45 y1) m t).1 = 2 → MK S0 S1 (kwh (k235b45 y1) m t).2.1 → am_L (am_PP sc) N d 235 79 [some (.ref 39), some (.int y1), some (.int ((kwh (k235b45 y1) m t).2.2)), p3] [] S1 Q) → am_L (am_PP sc) N d 235 45 [some (.ref 39), some (.int y1), some (.int t.2), o3] [] S Q := by
  intro N
  induction N with
  | zero => intros; exact l_zero
  | succ N ih =>
    intro S o3 t hS kx72 kx79
    refine l2d (v := 39) hi_235_45 rfl ?_
    refine l32 (as := [.ref 39]) (la := [some (.ref 39)]) (rest := []) hi_235_46 (am_hd0 (M := 235) (by decide) 46) rfl rfl rfl (fun N' d' _ => lt183 (N := N') (d := d') hS) ?_ (fun _ q => nomatch q.1)
    rintro v3 S1 ⟨ev3, h2⟩
    cases ev3
    show am_L _ _ _ _ _ [some (.ref 39), some (.int y1), some (.int t.2), o3] [.int (k183 t.1)] _ _
    refine l0 hi_235_49 ?_
    by_cases c4 : (k183 t.1) ≠ 69
    · refine l13t hi_235_51 (decide_eq_true c4) ?_
      have e0 : (k235b45 y1) t = (2, (t.1, t.2)) := by unfold k235b45; rw [if_pos c4]
      have e1 : kwh (k235b45 y1) 1 t = (2, (t.1, t.2)) := by rw [kwh_out (by rw [e0]; exact Nat.succ_ne_zero _), e0]
      have q := kx79 1 _ o3 (by rw [e1]) (by rw [e1]; exact h2)
      try rw [e1] at q
      exact q.less (Nat.le_succ N)
    · refine l13f hi_235_51 (decide_eq_false c4) ?_
      refine l2 (v := 39) hi_235_54 rfl ?_
      refine l7 hi_235_55 ?_
      refine l20 (v := .int (t.1.1 4)) h2 hi_235_56 rfl ?_
      refine l0 hi_235_59 ?_
      refine l10 hi_235_60 ?_
      show am_L _ _ _ _ _ [some (.ref 39), some (.int y1), some (.int t.2), o3] [.int ((t.1.1 4) + 1), .ref 39] _ _
      refine l21 h2 hi_235_61 ms_4 fun S5 h6 => ?_
      refine l2 (v := 39) hi_235_64 rfl ?_
      refine l0 hi_235_65 ?_
      refine l32 (as := [.ref 39, .int 1]) (la := [some (.ref 39), some (.int 1)]) (rest := []) hi_235_66 (am_hd0 (M := 235) (by decide) 66) rfl rfl rfl (fun N' d' _ => lt200 (N := N') (d := d') h6) ?_ (fun _ q => nomatch q.1)
      rintro v9 S7 ⟨ev9, h8⟩
      cases ev9
      show am_L _ _ _ _ _ [some (.ref 39), some (.int y1), some (.int t.2), o3] [.int ((k200 (kf t.1 4 ((t.1.1 4) + 1)) 1).2)] _ _
      by_cases c10 : ((k200 (kf t.1 4 ((t.1.1 4) + 1)) 1).2) ≠ 0
      · refine l12t hi_235_69 (decide_eq_true c10) ?_
        refine l5 (v := t.2) (ls' := [some (.ref 39), some (.int y1), some (.int (t.2 + 1)), o3]) hi_235_73 rfl rfl ?_
        refine l18 hi_235_76 ?_
        have e0 : (k235b45 y1) t = (0, ((k200 (kf t.1 4 ((t.1.1 4) + 1)) 1).1, t.2 + 1)) := by unfold k235b45; rw [if_neg c4]; rw [if_pos c10]
        have e1 : ∀ m, kwh (k235b45 y1) (m + 1) t = kwh (k235b45 y1) m ((k200 (kf t.1 4 ((t.1.1 4) + 1)) 1).1, t.2 + 1) := fun m => by rw [kwh_go (by rw [e0]), e0]
        exact ih _ o3 ((k200 (kf t.1 4 ((t.1.1 4) + 1)) 1).1, t.2 + 1) h8 (fun m S1 p3 hm h1 => by have q := kx72 (m + 1) S1 p3 (by rw [e1]; exact hm) (by rw [e1]; exact h1); (try rw [e1] at q); exact q.less (Nat.le_succ N)) (fun m S1 p3 hm h1 => by have q := kx79 (m + 1) S1 p3 (by rw [e1]; exact hm) (by rw [e1]; exact h1); (try rw [e1] at q); exact q.less (Nat.le_succ N))
      · refine l12f hi_235_69 (decide_eq_false c10) ?_
        have e0 : (k235b45 y1) t = (1, ((k200 (kf t.1 4 ((t.1.1 4) + 1)) 1).1, t.2)) := by unfold k235b45; rw [if_neg c4]; rw [if_neg c10]
        have e1 : kwh (k235b45 y1) 1 t = (1, ((k200 (kf t.1 4 ((t.1.1 4) + 1)) 1).1, t.2)) := by rw [kwh_out (by rw [e0]; exact Nat.succ_ne_zero _), e0]
        have q := kx72 1 _ o3 (by rw [e1]) (by rw [e1]; exact h8)
        try rw [e1] at q
        exact q.less (Nat.le_succ N)
noncomputable def k235_90 (s : kS) (y1 : Int32) (y2 : Int32) (y3 : Int32) (z0 : Int32) : kS × Int32 := if z0 ≠ 0 then ((k214 ((k179 s 14 y1 y2 y3).1)).1, 0) else (s, 0)
theorem lt235_90 {sc : Nat × (Nat → Int32)} {N d : Nat} {S0 S : am_S} {s : kS} {y1 : Int32} {y2 : Int32} {y3 : Int32} {z0 : Int32} (hS : MK S0 S s) : am_L (am_PP sc) N d 235 90 [some (.ref 39), some (.int y1), some (.int y2), some (.int y3)] [.int z0] S (fun o S1 => o = some none ∧ MK S0 S1 (k235_90 s y1 y2 y3 z0).1) := by
  by_cases c1 : z0 ≠ 0
  · refine l12t hi_235_90 (decide_eq_true c1) ?_
    refine l2 (v := 39) hi_235_94 rfl ?_
    refine l0 hi_235_95 ?_
    refine l1 (v := y1) hi_235_97 rfl ?_
    refine l1 (v := y2) hi_235_98 rfl ?_
    refine l1 (v := y3) hi_235_99 rfl ?_
    refine l32 (as := [.ref 39, .int 14, .int y1, .int y2, .int y3]) (la := [some (.ref 39), some (.int 14), some (.int y1), some (.int y2), some (.int y3)]) (rest := []) hi_235_100 (am_hd0 (M := 235) (by decide) 100) rfl rfl rfl (fun N' d' _ => lt179 (N := N') (d := d') hS) ?_ (fun _ q => nomatch q.1)
    rintro v4 S2 ⟨ev4, h3⟩
    cases ev4
    show am_L _ _ _ _ _ [some (.ref 39), some (.int y1), some (.int y2), some (.int y3)] [] _ _
    refine l2 (v := 39) hi_235_103 rfl ?_
    refine l32 (as := [.ref 39]) (la := [some (.ref 39)]) (rest := []) hi_235_104 (am_hd0 (M := 235) (by decide) 104) rfl rfl rfl (fun N' d' _ => lt214 (N := N') (d := d') h3) ?_ (fun _ q => nomatch q.1)
    rintro v7 S5 ⟨ev7, h6⟩
    cases ev7
    show am_L _ _ _ _ _ [some (.ref 39), some (.int y1), some (.int y2), some (.int y3)] [] _ _
    refine l35 hi_235_107 ⟨rfl, ?_⟩
    unfold k235_90; rw [if_pos c1]; exact h6
  · refine l12f hi_235_90 (decide_eq_false c1) ?_
    refine l35 hi_235_93 ⟨rfl, ?_⟩
    unfold k235_90; rw [if_neg c1]; exact hS
noncomputable def k235_37 (s : kS) : kS × Int32 := ((k186 s 0).1, 0)
theorem lt235_37 {sc : Nat × (Nat → Int32)} {N d : Nat} {S0 S : am_S} {s : kS} {o1 : Option Value} {o2 : Option Value} {o3 : Option Value} (hS : MK S0 S s) : am_L (am_PP sc) N d 235 37 [some (.ref 39), o1, o2, o3] [] S (fun o S1 => o = some none ∧ MK S0 S1 (k235_37 s).1) := by
  refine l2 (v := 39) hi_235_37 rfl ?_
  refine l0 hi_235_38 ?_
  refine l32 (as := [.ref 39, .int 0]) (la := [some (.ref 39), some (.int 0)]) (rest := []) hi_235_39 (am_hd0 (M := 235) (by decide) 39) rfl rfl rfl (fun N' d' _ => lt186 (N := N') (d := d') hS) ?_ (fun _ q => nomatch q.1)
  rintro v3 S1 ⟨ev3, h2⟩
  cases ev3
  show am_L _ _ _ _ _ [some (.ref 39), o1, o2, o3] [] _ _
  refine l35 hi_235_42 ⟨rfl, ?_⟩
  exact h2
noncomputable def k235_5 (s : kS) (y1 : Int32) (z0 : Int32) : kS × Int32 := if z0 ≠ 0 then if (k183 s) ≠ 59 then if (kfin (k235b45 y1) (s, 1)).1 = 1 then ((kfin (k235b45 y1) (s, 1)).2.1, 0) else k235_90 ((k200 ((kfin (k235b45 y1) (s, 1)).2.1) 21).1) y1 ((kfin (k235b45 y1) (s, 1)).2.2) (((kfin (k235b45 y1) (s, 1)).2.1).1 4) ((k200 ((kfin (k235b45 y1) (s, 1)).2.1) 21).2) else k235_37 ((k179 (kf s 4 ((s.1 4) + 1)) 10 y1 0 0).1) else (s, 0)
theorem lt235_5 {sc : Nat × (Nat → Int32)} {N d : Nat} {S0 S : am_S} {s : kS} {y1 : Int32} {z0 : Int32} {o2 : Option Value} {o3 : Option Value} (hS : MK S0 S s) : am_L (am_PP sc) N d 235 5 [some (.ref 39), some (.int y1), o2, o3] [.int z0] S (fun o S1 => o = some none ∧ MK S0 S1 (k235_5 s y1 z0).1) := by
  by_cases c1 : z0 ≠ 0
  · refine l12t hi_235_5 (decide_eq_true c1) ?_
    refine l2 (v := 39) hi_235_9 rfl ?_
    refine l32 (as := [.ref 39]) (la := [some (.ref 39)]) (rest := []) hi_235_10 (am_hd0 (M := 235) (by decide) 10) rfl rfl rfl (fun N' d' _ => lt183 (N := N') (d := d') hS) ?_ (fun _ q => nomatch q.1)
    rintro v4 S2 ⟨ev4, h3⟩
    cases ev4
    show am_L _ _ _ _ _ [some (.ref 39), some (.int y1), o2, o3] [.int (k183 s)] _ _
    refine l0 hi_235_13 ?_
    by_cases c5 : (k183 s) ≠ 59
    · refine l13t hi_235_15 (decide_eq_true c5) ?_
      refine l0 hi_235_43 ?_
      refine l3 (ls' := [some (.ref 39), some (.int y1), some (.int 1), o3]) hi_235_44 (Nat.le_of_ble_eq_true rfl) rfl ?_
      refine lb235_45 N _ o3 (s, 1) h3 ?_ ?_
      · intro m6 S7 p11 hm8 h9
        have hf10 : kfin (k235b45 y1) (s, 1) = kwh (k235b45 y1) m6 (s, 1) := kfin_eq (by rw [hm8]; decide)
        rw [← hf10] at hm8 h9
        try rw [← hf10]
        refine l35 hi_235_72 ⟨rfl, ?_⟩
        unfold k235_5; rw [if_pos c1]; rw [if_pos c5]; rw [if_pos hm8]; exact h9
      · intro m12 S13 p17 hm14 h15
        have hf16 : kfin (k235b45 y1) (s, 1) = kwh (k235b45 y1) m12 (s, 1) := kfin_eq (by rw [hm14]; decide)
        rw [← hf16] at hm14 h15
        try rw [← hf16]
        have c18 : ¬ (kfin (k235b45 y1) (s, 1)).1 = 1 := by rw [hm14]; decide
        refine l2 (v := 39) hi_235_79 rfl ?_
        refine l20 (v := .int (((kfin (k235b45 y1) (s, 1)).2.1).1 4)) h15 hi_235_80 rfl ?_
        refine l3 (ls' := [some (.ref 39), some (.int y1), some (.int ((kfin (k235b45 y1) (s, 1)).2.2)), some (.int (((kfin (k235b45 y1) (s, 1)).2.1).1 4))]) hi_235_83 (Nat.le_of_ble_eq_true rfl) rfl ?_
        refine l2 (v := 39) hi_235_84 rfl ?_
        refine l0 hi_235_85 ?_
        refine l32 (as := [.ref 39, .int 21]) (la := [some (.ref 39), some (.int 21)]) (rest := []) hi_235_87 (am_hd0 (M := 235) (by decide) 87) rfl rfl rfl (fun N' d' _ => lt200 (N := N') (d := d') h15) ?_ (fun _ q => nomatch q.1)
        rintro v21 S19 ⟨ev21, h20⟩
        cases ev21
        show am_L _ _ _ _ _ [some (.ref 39), some (.int y1), some (.int ((kfin (k235b45 y1) (s, 1)).2.2)), some (.int (((kfin (k235b45 y1) (s, 1)).2.1).1 4))] [.int ((k200 ((kfin (k235b45 y1) (s, 1)).2.1) 21).2)] _ _
        refine am_L.mono (lt235_90 h20) ?_
        rintro o S1 ⟨e, h⟩
        have q : k235_5 s y1 z0 = k235_90 ((k200 ((kfin (k235b45 y1) (s, 1)).2.1) 21).1) y1 ((kfin (k235b45 y1) (s, 1)).2.2) (((kfin (k235b45 y1) (s, 1)).2.1).1 4) ((k200 ((kfin (k235b45 y1) (s, 1)).2.1) 21).2) := by unfold k235_5; rw [if_pos c1]; rw [if_pos c5]; rw [if_neg c18]
        rw [q]; exact ⟨e, h⟩
    · refine l13f hi_235_15 (decide_eq_false c5) ?_
      refine l2 (v := 39) hi_235_18 rfl ?_
      refine l7 hi_235_19 ?_
      refine l20 (v := .int (s.1 4)) h3 hi_235_20 rfl ?_
      refine l0 hi_235_23 ?_
      refine l10 hi_235_24 ?_
      show am_L _ _ _ _ _ [some (.ref 39), some (.int y1), o2, o3] [.int ((s.1 4) + 1), .ref 39] _ _
      refine l21 h3 hi_235_25 ms_4 fun S22 h23 => ?_
      refine l2 (v := 39) hi_235_28 rfl ?_
      refine l0 hi_235_29 ?_
      refine l1 (v := y1) hi_235_31 rfl ?_
      refine l0 hi_235_32 ?_
      refine l0 hi_235_33 ?_
      refine l32 (as := [.ref 39, .int 10, .int y1, .int 0, .int 0]) (la := [some (.ref 39), some (.int 10), some (.int y1), some (.int 0), some (.int 0)]) (rest := []) hi_235_34 (am_hd0 (M := 235) (by decide) 34) rfl rfl rfl (fun N' d' _ => lt179 (N := N') (d := d') h23) ?_ (fun _ q => nomatch q.1)
      rintro v26 S24 ⟨ev26, h25⟩
      cases ev26
      show am_L _ _ _ _ _ [some (.ref 39), some (.int y1), o2, o3] [] _ _
      refine am_L.mono (lt235_37 h25) ?_
      rintro o S1 ⟨e, h⟩
      have q : k235_5 s y1 z0 = k235_37 ((k179 (kf s 4 ((s.1 4) + 1)) 10 y1 0 0).1) := by unfold k235_5; rw [if_pos c1]; rw [if_neg c5]
      rw [q]; exact ⟨e, h⟩
  · refine l12f hi_235_5 (decide_eq_false c1) ?_
    refine l35 hi_235_8 ⟨rfl, ?_⟩
    unfold k235_5; rw [if_neg c1]; exact hS
/-- loop(I)V -/
noncomputable def k235 (s : kS) (x1 : Int32) : kS × Int32 := k235_5 ((k200 s 1).1) x1 ((k200 s 1).2)
theorem lt235 {sc : Nat × (Nat → Int32)} {N d : Nat} {S0 S : am_S} {s : kS} {x1 : Int32} (hS : MK S0 S s) : am_L (am_PP sc) N d 235 0 [some (.ref 39), some (.int x1), none, none] [] S (fun o S1 => o = some none ∧ MK S0 S1 (k235 s x1).1) := by
  refine l2 (v := 39) hi_235_0 rfl ?_
  refine l0 hi_235_1 ?_
  refine l32 (as := [.ref 39, .int 1]) (la := [some (.ref 39), some (.int 1)]) (rest := []) hi_235_2 (am_hd0 (M := 235) (by decide) 2) rfl rfl rfl (fun N' d' _ => lt200 (N := N') (d := d') hS) ?_ (fun _ q => nomatch q.1)
  rintro v3 S1 ⟨ev3, h2⟩
  cases ev3
  show am_L _ _ _ _ _ [some (.ref 39), some (.int x1), none, none] [.int ((k200 s 1).2)] _ _
  refine am_L.mono (lt235_5 h2) ?_
  rintro o S1 ⟨e, h⟩
  have q : k235 s x1 = k235_5 ((k200 s 1).1) x1 ((k200 s 1).2) := rfl
  rw [q]; exact ⟨e, h⟩
noncomputable def k237_31 (s : kS) (y1 : Int32) : kS × Int32 := ((k205 s y1).1, (k205 s y1).2)
theorem lt237_31 {sc : Nat × (Nat → Int32)} {N d : Nat} {S0 S : am_S} {s : kS} {y1 : Int32} {o2 : Option Value} (hS : MK S0 S s) : am_L (am_PP sc) N d 237 31 [some (.ref 39), some (.int y1), o2] [] S (fun o S1 => o = some (some (.int ((k237_31 s y1).2))) ∧ MK S0 S1 (k237_31 s y1).1) := by
  refine l2 (v := 39) hi_237_31 rfl ?_
  refine l1 (v := y1) hi_237_32 rfl ?_
  refine l32 (as := [.ref 39, .int y1]) (la := [some (.ref 39), some (.int y1), none, none, none]) (rest := []) hi_237_33 (am_hd0 (M := 237) (by decide) 33) rfl rfl rfl (fun N' d' _ => lt205 (N := N') (d := d') hS) ?_ (fun _ q => nomatch q.1)
  rintro v3 S1 ⟨ev3, h2⟩
  cases ev3
  show am_L _ _ _ _ _ [some (.ref 39), some (.int y1), o2] [.int ((k205 s y1).2)] _ _
  refine l33 hi_237_36 ⟨?_, ?_⟩
  · rfl
  · exact h2
/-- target(I)I -/
noncomputable def k237 (s : kS) (x1 : Int32) : kS × Int32 := if (k206 s (kr s 2 x1)) < 0 then k237_31 s x1 else if (kr s 29 (k206 s (kr s 2 x1))) = 0 then k237_31 s x1 else k237_31 ((k191 s 10 x1).1) x1
theorem lt237 {sc : Nat × (Nat → Int32)} {N d : Nat} {S0 S : am_S} {s : kS} {x1 : Int32} (hS : MK S0 S s) : am_L (am_PP sc) N d 237 0 [some (.ref 39), some (.int x1), none] [] S (fun o S1 => o = some (some (.int ((k237 s x1).2))) ∧ MK S0 S1 (k237 s x1).1) := by
  refine l2 (v := 39) hi_237_0 rfl ?_
  refine l2 (v := 39) hi_237_1 rfl ?_
  refine l20 (v := .ref 41) hS hi_237_2 rfl ?_
  refine l1 (v := x1) hi_237_5 rfl ?_
  refine l25 hS ma_2 hi_237_6 fun g1 g2 => ?_
  show am_L _ _ _ _ _ [some (.ref 39), some (.int x1), none] [.int (kr s 2 x1), .ref 39] _ _
  refine l32 (as := [.ref 39, .int (kr s 2 x1)]) (la := [some (.ref 39), some (.int (kr s 2 x1)), none]) (rest := []) hi_237_7 (am_hd0 (M := 237) (by decide) 7) rfl rfl rfl (fun N' d' _ => lt206 (N := N') (d := d') hS) ?_ (fun _ q => nomatch q.1)
  rintro v5 S3 ⟨ev5, h4⟩
  cases ev5
  show am_L _ _ _ _ _ [some (.ref 39), some (.int x1), none] [.int (k206 s (kr s 2 x1))] _ _
  refine l3 (ls' := [some (.ref 39), some (.int x1), some (.int (k206 s (kr s 2 x1)))]) hi_237_10 (Nat.le_of_ble_eq_true rfl) rfl ?_
  refine l1 (v := k206 s (kr s 2 x1)) hi_237_11 rfl ?_
  by_cases c6 : (k206 s (kr s 2 x1)) < 0
  · refine l12t hi_237_12 (decide_eq_true c6) ?_
    refine am_L.mono (lt237_31 h4) ?_
    rintro o S1 ⟨e, h⟩
    have q : k237 s x1 = k237_31 s x1 := by unfold k237; rw [if_pos c6]
    rw [q]; exact ⟨e, h⟩
  · refine l12f hi_237_12 (decide_eq_false c6) ?_
    refine l2 (v := 39) hi_237_15 rfl ?_
    refine l20 (v := .ref 56) h4 hi_237_16 rfl ?_
    refine l1 (v := k206 s (kr s 2 x1)) hi_237_19 rfl ?_
    refine l25 h4 ma_29 hi_237_20 fun g7 g8 => ?_
    show am_L _ _ _ _ _ [some (.ref 39), some (.int x1), some (.int (k206 s (kr s 2 x1)))] [.int (kr s 29 (k206 s (kr s 2 x1)))] _ _
    by_cases c9 : (kr s 29 (k206 s (kr s 2 x1))) = 0
    · refine l12t hi_237_21 (decide_eq_true c9) ?_
      refine am_L.mono (lt237_31 h4) ?_
      rintro o S1 ⟨e, h⟩
      have q : k237 s x1 = k237_31 s x1 := by unfold k237; rw [if_neg c6]; rw [if_pos c9]
      rw [q]; exact ⟨e, h⟩
    · refine l12f hi_237_21 (decide_eq_false c9) ?_
      refine l2 (v := 39) hi_237_24 rfl ?_
      refine l0 hi_237_25 ?_
      refine l1 (v := x1) hi_237_27 rfl ?_
      refine l32 (as := [.ref 39, .int 10, .int x1]) (la := [some (.ref 39), some (.int 10), some (.int x1)]) (rest := []) hi_237_28 (am_hd0 (M := 237) (by decide) 28) rfl rfl rfl (fun N' d' _ => lt191 (N := N') (d := d') h4) ?_ (fun _ q => nomatch q.1)
      rintro v12 S10 ⟨ev12, h11⟩
      cases ev12
      show am_L _ _ _ _ _ [some (.ref 39), some (.int x1), some (.int (k206 s (kr s 2 x1)))] [] _ _
      refine am_L.mono (lt237_31 h11) ?_
      rintro o S1 ⟨e, h⟩
      have q : k237 s x1 = k237_31 ((k191 s 10 x1).1) x1 := by unfold k237; rw [if_neg c6]; rw [if_neg c9]
      rw [q]; exact ⟨e, h⟩
def k236b85_169 (s : kS) (y1 : Int32) (y3 : Int32) (y4 : Int32) : Nat × (kS × Int32 × Int32) := (0, ((k189 s 5 (kr s 2 ((s.1 4) - 1)) 0 0).1, y3, y4))
theorem lb236_85_169 {sc : Nat × (Nat → Int32)} {N d : Nat} {S0 S : am_S} {s : kS} {y1 : Int32} {y3 : Int32} {y4 : Int32} {o2 : Option Value} {o5 : Option Value} {Q : Option (Option Value) → am_S → Prop} (hS : MK S0 S s) (kb : (∀ S1 (p2 : Option Value) (p5 : Option Value) (t : kS × Int32 × Int32), k236b85_169 s y1 y3 y4 = (0, t) → MK S0 S1 t.1 → am_L (am_PP sc) N d 236 85 [some (.ref 39), some (.int y1), p2, some (.int t.2.1), some (.int t.2.2), p5] [] S1 Q)) (kx146 : (∀ S1 (p2 : Option Value) (p5 : Option Value) (t : kS × Int32 × Int32), k236b85_169 s y1 y3 y4 = (1, t) → MK S0 S1 t.1 → am_L (am_PP sc) N d 236 146 [some (.ref 39), some (.int y1), p2, some (.int t.2.1), some (.int t.2.2), p5] [] S1 Q)) (kx218 : (∀ S1 (p2 : Option Value) (p5 : Option Value) (t : kS × Int32 × Int32), k236b85_169 s y1 y3 y4 = (2, t) → MK S0 S1 t.1 → am_L (am_PP sc) N d 236 218 [some (.ref 39), some (.int y1), p2, some (.int t.2.1), some (.int t.2.2), p5] [] S1 Q)) : am_L (am_PP sc) N d 236 169 [some (.ref 39), some (.int y1), o2, some (.int y3), some (.int y4), o5] [] S Q := by
  refine l0 hi_236_169 ?_
  refine l18 hi_236_170 ?_
  refine l3 (ls' := [some (.ref 39), some (.int y1), o2, some (.int y3), some (.int y4), some (.int 1)]) hi_236_174 (Nat.le_of_ble_eq_true rfl) rfl ?_
  refine l2 (v := 39) hi_236_176 rfl ?_
  refine l1 (v := 1) hi_236_177 rfl ?_
  refine l12f hi_236_179 (by decide) ?_
  refine l0 hi_236_182 ?_
  refine l18 hi_236_183 ?_
  refine l2 (v := 39) hi_236_188 rfl ?_
  refine l20 (v := .ref 41) hS hi_236_189 rfl ?_
  refine l2 (v := 39) hi_236_192 rfl ?_
  refine l20 (v := .int (s.1 4)) hS hi_236_193 rfl ?_
  refine l0 hi_236_196 ?_
  refine l10 hi_236_197 ?_
  show am_L _ _ _ _ _ [some (.ref 39), some (.int y1), o2, some (.int y3), some (.int y4), some (.int 1)] [.int ((s.1 4) - 1), .ref 41, .int 5, .ref 39] _ _
  refine l25 hS ma_2 hi_236_198 fun g1 g2 => ?_
  show am_L _ _ _ _ _ [some (.ref 39), some (.int y1), o2, some (.int y3), some (.int y4), some (.int 1)] [.int (kr s 2 ((s.1 4) - 1)), .int 5, .ref 39] _ _
  refine l0 hi_236_199 ?_
  refine l1 (v := 1) hi_236_200 rfl ?_
  refine l12f hi_236_202 (by decide) ?_
  refine l0 hi_236_205 ?_
  refine l18 hi_236_206 ?_
  refine l32 (as := [.ref 39, .int 5, .int (kr s 2 ((s.1 4) - 1)), .int 0, .int 0]) (la := [some (.ref 39), some (.int 5), some (.int (kr s 2 ((s.1 4) - 1))), some (.int 0), some (.int 0)]) (rest := []) hi_236_211 (am_hd0 (M := 236) (by decide) 211) rfl rfl rfl (fun N' d' _ => lt189 (N := N') (d := d') hS) ?_ (fun _ q => nomatch q.1)
  rintro v5 S3 ⟨ev5, h4⟩
  cases ev5
  show am_L _ _ _ _ _ [some (.ref 39), some (.int y1), o2, some (.int y3), some (.int y4), some (.int 1)] [.int ((k189 s 5 (kr s 2 ((s.1 4) - 1)) 0 0).2)] _ _
  refine l6i hi_236_214 ?_
  refine l18 hi_236_215 ?_
  exact kb _ o2 (some (.int 1)) ((k189 s 5 (kr s 2 ((s.1 4) - 1)) 0 0).1, y3, y4) (rfl) h4
def k236b85_173 (s : kS) (y1 : Int32) (y3 : Int32) (y4 : Int32) : Nat × (kS × Int32 × Int32) := (0, ((k189 s 12 (kr s 2 ((s.1 4) - 1)) 0 y4).1, y3, y4))
theorem lb236_85_173 {sc : Nat × (Nat → Int32)} {N d : Nat} {S0 S : am_S} {s : kS} {y1 : Int32} {y3 : Int32} {y4 : Int32} {o2 : Option Value} {o5 : Option Value} {Q : Option (Option Value) → am_S → Prop} (hS : MK S0 S s) (kb : (∀ S1 (p2 : Option Value) (p5 : Option Value) (t : kS × Int32 × Int32), k236b85_173 s y1 y3 y4 = (0, t) → MK S0 S1 t.1 → am_L (am_PP sc) N d 236 85 [some (.ref 39), some (.int y1), p2, some (.int t.2.1), some (.int t.2.2), p5] [] S1 Q)) (kx146 : (∀ S1 (p2 : Option Value) (p5 : Option Value) (t : kS × Int32 × Int32), k236b85_173 s y1 y3 y4 = (1, t) → MK S0 S1 t.1 → am_L (am_PP sc) N d 236 146 [some (.ref 39), some (.int y1), p2, some (.int t.2.1), some (.int t.2.2), p5] [] S1 Q)) (kx218 : (∀ S1 (p2 : Option Value) (p5 : Option Value) (t : kS × Int32 × Int32), k236b85_173 s y1 y3 y4 = (2, t) → MK S0 S1 t.1 → am_L (am_PP sc) N d 236 218 [some (.ref 39), some (.int y1), p2, some (.int t.2.1), some (.int t.2.2), p5] [] S1 Q)) : am_L (am_PP sc) N d 236 173 [some (.ref 39), some (.int y1), o2, some (.int y3), some (.int y4), o5] [] S Q := by
  refine l0 hi_236_173 ?_
  refine l3 (ls' := [some (.ref 39), some (.int y1), o2, some (.int y3), some (.int y4), some (.int 0)]) hi_236_174 (Nat.le_of_ble_eq_true rfl) rfl ?_
  refine l2 (v := 39) hi_236_176 rfl ?_
  refine l1 (v := 0) hi_236_177 rfl ?_
  refine l12t hi_236_179 (by decide) ?_
  refine l0 hi_236_186 ?_
  refine l2 (v := 39) hi_236_188 rfl ?_
  refine l20 (v := .ref 41) hS hi_236_189 rfl ?_
  refine l2 (v := 39) hi_236_192 rfl ?_
  refine l20 (v := .int (s.1 4)) hS hi_236_193 rfl ?_
  refine l0 hi_236_196 ?_
  refine l10 hi_236_197 ?_
  show am_L _ _ _ _ _ [some (.ref 39), some (.int y1), o2, some (.int y3), some (.int y4), some (.int 0)] [.int ((s.1 4) - 1), .ref 41, .int 12, .ref 39] _ _
  refine l25 hS ma_2 hi_236_198 fun g1 g2 => ?_
  show am_L _ _ _ _ _ [some (.ref 39), some (.int y1), o2, some (.int y3), some (.int y4), some (.int 0)] [.int (kr s 2 ((s.1 4) - 1)), .int 12, .ref 39] _ _
  refine l0 hi_236_199 ?_
  refine l1 (v := 0) hi_236_200 rfl ?_
  refine l12t hi_236_202 (by decide) ?_
  refine l1 (v := y4) hi_236_209 rfl ?_
  refine l32 (as := [.ref 39, .int 12, .int (kr s 2 ((s.1 4) - 1)), .int 0, .int y4]) (la := [some (.ref 39), some (.int 12), some (.int (kr s 2 ((s.1 4) - 1))), some (.int 0), some (.int y4)]) (rest := []) hi_236_211 (am_hd0 (M := 236) (by decide) 211) rfl rfl rfl (fun N' d' _ => lt189 (N := N') (d := d') hS) ?_ (fun _ q => nomatch q.1)
  rintro v5 S3 ⟨ev5, h4⟩
  cases ev5
  show am_L _ _ _ _ _ [some (.ref 39), some (.int y1), o2, some (.int y3), some (.int y4), some (.int 0)] [.int ((k189 s 12 (kr s 2 ((s.1 4) - 1)) 0 y4).2)] _ _
  refine l6i hi_236_214 ?_
  refine l18 hi_236_215 ?_
  exact kb _ o2 (some (.int 0)) ((k189 s 12 (kr s 2 ((s.1 4) - 1)) 0 y4).1, y3, y4) (rfl) h4
def k236b85_147 (s : kS) (y1 : Int32) (y3 : Int32) (y4 : Int32) : Nat × (kS × Int32 × Int32) := if y3 ≠ 0 then k236b85_169 s y1 y3 y4 else if (k183 s) = 70 then k236b85_173 s y1 y3 y4 else if (k183 s) = 68 then k236b85_173 s y1 y3 y4 else k236b85_169 s y1 y3 y4
theorem lb236_85_147 {sc : Nat × (Nat → Int32)} {N d : Nat} {S0 S : am_S} {s : kS} {y1 : Int32} {y3 : Int32} {y4 : Int32} {o2 : Option Value} {o5 : Option Value} {Q : Option (Option Value) → am_S → Prop} (hS : MK S0 S s) (kb : (∀ S1 (p2 : Option Value) (p5 : Option Value) (t : kS × Int32 × Int32), k236b85_147 s y1 y3 y4 = (0, t) → MK S0 S1 t.1 → am_L (am_PP sc) N d 236 85 [some (.ref 39), some (.int y1), p2, some (.int t.2.1), some (.int t.2.2), p5] [] S1 Q)) (kx146 : (∀ S1 (p2 : Option Value) (p5 : Option Value) (t : kS × Int32 × Int32), k236b85_147 s y1 y3 y4 = (1, t) → MK S0 S1 t.1 → am_L (am_PP sc) N d 236 146 [some (.ref 39), some (.int y1), p2, some (.int t.2.1), some (.int t.2.2), p5] [] S1 Q)) (kx218 : (∀ S1 (p2 : Option Value) (p5 : Option Value) (t : kS × Int32 × Int32), k236b85_147 s y1 y3 y4 = (2, t) → MK S0 S1 t.1 → am_L (am_PP sc) N d 236 218 [some (.ref 39), some (.int y1), p2, some (.int t.2.1), some (.int t.2.2), p5] [] S1 Q)) : am_L (am_PP sc) N d 236 147 [some (.ref 39), some (.int y1), o2, some (.int y3), some (.int y4), o5] [] S Q := by
  refine l1 (v := y3) hi_236_147 rfl ?_
  by_cases c1 : y3 ≠ 0
  · refine l12t hi_236_148 (decide_eq_true c1) ?_
    have eq_ : k236b85_147 s y1 y3 y4 = k236b85_169 s y1 y3 y4 := by unfold k236b85_147; rw [if_pos c1]
    refine lb236_85_169 hS  ?_ ?_ ?_
    · intro S2 p6 p7 t3 e4 h5
      exact kb _ p6 p7 t3 (eq_.trans e4) h5
    · intro S8 p12 p13 t9 e10 h11
      exact kx146 _ p12 p13 t9 (eq_.trans e10) h11
    · intro S14 p18 p19 t15 e16 h17
      exact kx218 _ p18 p19 t15 (eq_.trans e16) h17
  · refine l12f hi_236_148 (decide_eq_false c1) ?_
    refine l2 (v := 39) hi_236_151 rfl ?_
    refine l32 (as := [.ref 39]) (la := [some (.ref 39)]) (rest := []) hi_236_152 (am_hd0 (M := 236) (by decide) 152) rfl rfl rfl (fun N' d' _ => lt183 (N := N') (d := d') hS) ?_ (fun _ q => nomatch q.1)
    rintro v22 S20 ⟨ev22, h21⟩
    cases ev22
    show am_L _ _ _ _ _ [some (.ref 39), some (.int y1), o2, some (.int y3), some (.int y4), o5] [.int (k183 s)] _ _
    refine l0 hi_236_155 ?_
    by_cases c23 : (k183 s) = 70
    · refine l13t hi_236_157 (decide_eq_true c23) ?_
      have eq_ : k236b85_147 s y1 y3 y4 = k236b85_173 s y1 y3 y4 := by unfold k236b85_147; rw [if_neg c1]; rw [if_pos c23]
      refine lb236_85_173 h21  ?_ ?_ ?_
      · intro S24 p28 p29 t25 e26 h27
        exact kb _ p28 p29 t25 (eq_.trans e26) h27
      · intro S30 p34 p35 t31 e32 h33
        exact kx146 _ p34 p35 t31 (eq_.trans e32) h33
      · intro S36 p40 p41 t37 e38 h39
        exact kx218 _ p40 p41 t37 (eq_.trans e38) h39
    · refine l13f hi_236_157 (decide_eq_false c23) ?_
      refine l2 (v := 39) hi_236_160 rfl ?_
      refine l32 (as := [.ref 39]) (la := [some (.ref 39)]) (rest := []) hi_236_161 (am_hd0 (M := 236) (by decide) 161) rfl rfl rfl (fun N' d' _ => lt183 (N := N') (d := d') h21) ?_ (fun _ q => nomatch q.1)
      rintro v44 S42 ⟨ev44, h43⟩
      cases ev44
      show am_L _ _ _ _ _ [some (.ref 39), some (.int y1), o2, some (.int y3), some (.int y4), o5] [.int (k183 s)] _ _
      refine l0 hi_236_164 ?_
      by_cases c45 : (k183 s) = 68
      · refine l13t hi_236_166 (decide_eq_true c45) ?_
        have eq_ : k236b85_147 s y1 y3 y4 = k236b85_173 s y1 y3 y4 := by unfold k236b85_147; rw [if_neg c1]; rw [if_neg c23]; rw [if_pos c45]
        refine lb236_85_173 h43  ?_ ?_ ?_
        · intro S46 p50 p51 t47 e48 h49
          exact kb _ p50 p51 t47 (eq_.trans e48) h49
        · intro S52 p56 p57 t53 e54 h55
          exact kx146 _ p56 p57 t53 (eq_.trans e54) h55
        · intro S58 p62 p63 t59 e60 h61
          exact kx218 _ p62 p63 t59 (eq_.trans e60) h61
      · refine l13f hi_236_166 (decide_eq_false c45) ?_
        have eq_ : k236b85_147 s y1 y3 y4 = k236b85_169 s y1 y3 y4 := by unfold k236b85_147; rw [if_neg c1]; rw [if_neg c23]; rw [if_neg c45]
        refine lb236_85_169 h43  ?_ ?_ ?_
        · intro S64 p68 p69 t65 e66 h67
          exact kb _ p68 p69 t65 (eq_.trans e66) h67
        · intro S70 p74 p75 t71 e72 h73
          exact kx146 _ p74 p75 t71 (eq_.trans e72) h73
        · intro S76 p80 p81 t77 e78 h79
          exact kx218 _ p80 p81 t77 (eq_.trans e78) h79
def k236b85_107 (s : kS) (y1 : Int32) (y3 : Int32) (y4 : Int32) : Nat × (kS × Int32 × Int32) := if (k183 s) ≠ 68 then if ((k200 (kf s 4 ((s.1 4) + 1)) 1).2) ≠ 0 then k236b85_147 ((k200 (kf s 4 ((s.1 4) + 1)) 1).1) y1 0 (s.1 4) else (1, ((k200 (kf s 4 ((s.1 4) + 1)) 1).1, 0, s.1 4)) else if ((k200 (kf s 4 ((s.1 4) + 1)) 1).2) ≠ 0 then k236b85_147 ((k200 (kf s 4 ((s.1 4) + 1)) 1).1) y1 1 (s.1 4) else (1, ((k200 (kf s 4 ((s.1 4) + 1)) 1).1, 1, s.1 4))
theorem lb236_85_107 {sc : Nat × (Nat → Int32)} {N d : Nat} {S0 S : am_S} {s : kS} {y1 : Int32} {y3 : Int32} {y4 : Int32} {o2 : Option Value} {o5 : Option Value} {Q : Option (Option Value) → am_S → Prop} (hS : MK S0 S s) (kb : (∀ S1 (p2 : Option Value) (p5 : Option Value) (t : kS × Int32 × Int32), k236b85_107 s y1 y3 y4 = (0, t) → MK S0 S1 t.1 → am_L (am_PP sc) N d 236 85 [some (.ref 39), some (.int y1), p2, some (.int t.2.1), some (.int t.2.2), p5] [] S1 Q)) (kx146 : (∀ S1 (p2 : Option Value) (p5 : Option Value) (t : kS × Int32 × Int32), k236b85_107 s y1 y3 y4 = (1, t) → MK S0 S1 t.1 → am_L (am_PP sc) N d 236 146 [some (.ref 39), some (.int y1), p2, some (.int t.2.1), some (.int t.2.2), p5] [] S1 Q)) (kx218 : (∀ S1 (p2 : Option Value) (p5 : Option Value) (t : kS × Int32 × Int32), k236b85_107 s y1 y3 y4 = (2, t) → MK S0 S1 t.1 → am_L (am_PP sc) N d 236 218 [some (.ref 39), some (.int y1), p2, some (.int t.2.1), some (.int t.2.2), p5] [] S1 Q)) : am_L (am_PP sc) N d 236 107 [some (.ref 39), some (.int y1), o2, some (.int y3), some (.int y4), o5] [] S Q := by
  refine l2 (v := 39) hi_236_107 rfl ?_
  refine l32 (as := [.ref 39]) (la := [some (.ref 39)]) (rest := []) hi_236_108 (am_hd0 (M := 236) (by decide) 108) rfl rfl rfl (fun N' d' _ => lt183 (N := N') (d := d') hS) ?_ (fun _ q => nomatch q.1)
  rintro v3 S1 ⟨ev3, h2⟩
  cases ev3
  show am_L _ _ _ _ _ [some (.ref 39), some (.int y1), o2, some (.int y3), some (.int y4), o5] [.int (k183 s)] _ _
  refine l0 hi_236_111 ?_
  by_cases c4 : (k183 s) ≠ 68
  · refine l13t hi_236_113 (decide_eq_true c4) ?_
    refine l0 hi_236_120 ?_
    refine l3 (ls' := [some (.ref 39), some (.int y1), o2, some (.int 0), some (.int y4), o5]) hi_236_121 (Nat.le_of_ble_eq_true rfl) rfl ?_
    refine l2 (v := 39) hi_236_122 rfl ?_
    refine l20 (v := .int (s.1 4)) h2 hi_236_123 rfl ?_
    refine l3 (ls' := [some (.ref 39), some (.int y1), o2, some (.int 0), some (.int (s.1 4)), o5]) hi_236_126 (Nat.le_of_ble_eq_true rfl) rfl ?_
    refine l2 (v := 39) hi_236_128 rfl ?_
    refine l7 hi_236_129 ?_
    refine l20 (v := .int (s.1 4)) h2 hi_236_130 rfl ?_
    refine l0 hi_236_133 ?_
    refine l10 hi_236_134 ?_
    show am_L _ _ _ _ _ [some (.ref 39), some (.int y1), o2, some (.int 0), some (.int (s.1 4)), o5] [.int ((s.1 4) + 1), .ref 39] _ _
    refine l21 h2 hi_236_135 ms_4 fun S5 h6 => ?_
    refine l2 (v := 39) hi_236_138 rfl ?_
    refine l0 hi_236_139 ?_
    refine l32 (as := [.ref 39, .int 1]) (la := [some (.ref 39), some (.int 1)]) (rest := []) hi_236_140 (am_hd0 (M := 236) (by decide) 140) rfl rfl rfl (fun N' d' _ => lt200 (N := N') (d := d') h6) ?_ (fun _ q => nomatch q.1)
    rintro v9 S7 ⟨ev9, h8⟩
    cases ev9
    show am_L _ _ _ _ _ [some (.ref 39), some (.int y1), o2, some (.int 0), some (.int (s.1 4)), o5] [.int ((k200 (kf s 4 ((s.1 4) + 1)) 1).2)] _ _
    by_cases c10 : ((k200 (kf s 4 ((s.1 4) + 1)) 1).2) ≠ 0
    · refine l12t hi_236_143 (decide_eq_true c10) ?_
      have eq_ : k236b85_107 s y1 y3 y4 = k236b85_147 ((k200 (kf s 4 ((s.1 4) + 1)) 1).1) y1 0 (s.1 4) := by unfold k236b85_107; rw [if_pos c4]; rw [if_pos c10]
      refine lb236_85_147 h8  ?_ ?_ ?_
      · intro S11 p15 p16 t12 e13 h14
        exact kb _ p15 p16 t12 (eq_.trans e13) h14
      · intro S17 p21 p22 t18 e19 h20
        exact kx146 _ p21 p22 t18 (eq_.trans e19) h20
      · intro S23 p27 p28 t24 e25 h26
        exact kx218 _ p27 p28 t24 (eq_.trans e25) h26
    · refine l12f hi_236_143 (decide_eq_false c10) ?_
      exact kx146 _ o2 o5 ((k200 (kf s 4 ((s.1 4) + 1)) 1).1, 0, s.1 4) (by unfold k236b85_107; rw [if_pos c4]; rw [if_neg c10]) h8
  · refine l13f hi_236_113 (decide_eq_false c4) ?_
    refine l0 hi_236_116 ?_
    refine l18 hi_236_117 ?_
    refine l3 (ls' := [some (.ref 39), some (.int y1), o2, some (.int 1), some (.int y4), o5]) hi_236_121 (Nat.le_of_ble_eq_true rfl) rfl ?_
    refine l2 (v := 39) hi_236_122 rfl ?_
    refine l20 (v := .int (s.1 4)) h2 hi_236_123 rfl ?_
    refine l3 (ls' := [some (.ref 39), some (.int y1), o2, some (.int 1), some (.int (s.1 4)), o5]) hi_236_126 (Nat.le_of_ble_eq_true rfl) rfl ?_
    refine l2 (v := 39) hi_236_128 rfl ?_
    refine l7 hi_236_129 ?_
    refine l20 (v := .int (s.1 4)) h2 hi_236_130 rfl ?_
    refine l0 hi_236_133 ?_
    refine l10 hi_236_134 ?_
    show am_L _ _ _ _ _ [some (.ref 39), some (.int y1), o2, some (.int 1), some (.int (s.1 4)), o5] [.int ((s.1 4) + 1), .ref 39] _ _
    refine l21 h2 hi_236_135 ms_4 fun S29 h30 => ?_
    refine l2 (v := 39) hi_236_138 rfl ?_
    refine l0 hi_236_139 ?_
    refine l32 (as := [.ref 39, .int 1]) (la := [some (.ref 39), some (.int 1)]) (rest := []) hi_236_140 (am_hd0 (M := 236) (by decide) 140) rfl rfl rfl (fun N' d' _ => lt200 (N := N') (d := d') h30) ?_ (fun _ q => nomatch q.1)
    rintro v33 S31 ⟨ev33, h32⟩
    cases ev33
    show am_L _ _ _ _ _ [some (.ref 39), some (.int y1), o2, some (.int 1), some (.int (s.1 4)), o5] [.int ((k200 (kf s 4 ((s.1 4) + 1)) 1).2)] _ _
    by_cases c34 : ((k200 (kf s 4 ((s.1 4) + 1)) 1).2) ≠ 0
    · refine l12t hi_236_143 (decide_eq_true c34) ?_
      have eq_ : k236b85_107 s y1 y3 y4 = k236b85_147 ((k200 (kf s 4 ((s.1 4) + 1)) 1).1) y1 1 (s.1 4) := by unfold k236b85_107; rw [if_neg c4]; rw [if_pos c34]
      refine lb236_85_147 h32  ?_ ?_ ?_
      · intro S35 p39 p40 t36 e37 h38
        exact kb _ p39 p40 t36 (eq_.trans e37) h38
      · intro S41 p45 p46 t42 e43 h44
        exact kx146 _ p45 p46 t42 (eq_.trans e43) h44
      · intro S47 p51 p52 t48 e49 h50
        exact kx218 _ p51 p52 t48 (eq_.trans e49) h50
    · refine l12f hi_236_143 (decide_eq_false c34) ?_
      exact kx146 _ o2 o5 ((k200 (kf s 4 ((s.1 4) + 1)) 1).1, 1, s.1 4) (by unfold k236b85_107; rw [if_neg c4]; rw [if_neg c34]) h32
def k236b85 (y1 : Int32) (t : kS × Int32 × Int32) : Nat × (kS × Int32 × Int32) := if t.2.1 ≠ 0 then (2, (t.1, t.2.1, t.2.2)) else if (k183 t.1) = 70 then k236b85_107 t.1 y1 t.2.1 t.2.2 else if (k183 t.1) ≠ 68 then (2, (t.1, t.2.1, t.2.2)) else k236b85_107 t.1 y1 t.2.1 t.2.2
theorem lb236_85 {sc : Nat × (Nat → Int32)} {d : Nat} {S0 : am_S} {y1 : Int32} {Q : Option (Option Value) → am_S → Prop} : ∀ (N : Nat) (S : am_S) (o2 : Option Value) (o5 : Option Value) (t : kS × Int32 × Int32), MK S0 S t.1 → (∀ m S1 (p2 : Option Value) (p5 : Option Value), (kwh (k236b85 y1) m t).1 = 1 → MK S0 S1 (kwh (k236b85 y1) m t).2.1 → am_L (am_PP sc) N d 236 146 [some (.ref 39), some (.int y1), p2, some (.int ((kwh (k236b85 y1) m t).2.2.1)), some (.int ((kwh (k236b85 y1) m t).2.2.2)), p5] [] S1 Q) → (∀ m S1 (p2 : Option Value) (p5 : Option Value), (kwh (k236b85 y1) m t).1 = 2 → MK S0 S1 (kwh (k236b85 y1) m t).2.1 → am_L (am_PP sc) N d 236 218 [some (.ref 39), some (.int y1), p2, some (.int ((kwh (k236b85 y1) m t).2.2.1)), some (.int ((kwh (k236b85 y1) m t).2.2.2)), p5] [] S1 Q) → am_L (am_PP sc) N d 236 85 [some (.ref 39), some (.int y1), o2, some (.int t.2.1), some (.int t.2.2), o5] [] S Q := by
  intro N
  induction N with
  | zero => intros; exact l_zero
  | succ N ih =>
    intro S o2 o5 t hS kx146 kx218
    refine l1d (v := t.2.1) hi_236_85 rfl ?_
    by_cases c1 : t.2.1 ≠ 0
    · refine l12t hi_236_86 (decide_eq_true c1) ?_
      have e0 : (k236b85 y1) t = (2, (t.1, t.2.1, t.2.2)) := by unfold k236b85; rw [if_pos c1]
      have e1 : kwh (k236b85 y1) 1 t = (2, (t.1, t.2.1, t.2.2)) := by rw [kwh_out (by rw [e0]; exact Nat.succ_ne_zero _), e0]
      have q := kx218 1 _ o2 o5 (by rw [e1]) (by rw [e1]; exact hS)
      try rw [e1] at q
      exact q.less (Nat.le_succ N)
    · refine l12f hi_236_86 (decide_eq_false c1) ?_
      refine l2 (v := 39) hi_236_89 rfl ?_
      refine l32 (as := [.ref 39]) (la := [some (.ref 39)]) (rest := []) hi_236_90 (am_hd0 (M := 236) (by decide) 90) rfl rfl rfl (fun N' d' _ => lt183 (N := N') (d := d') hS) ?_ (fun _ q => nomatch q.1)
      rintro v4 S2 ⟨ev4, h3⟩
      cases ev4
      show am_L _ _ _ _ _ [some (.ref 39), some (.int y1), o2, some (.int t.2.1), some (.int t.2.2), o5] [.int (k183 t.1)] _ _
      refine l0 hi_236_93 ?_
      by_cases c5 : (k183 t.1) = 70
      · refine l13t hi_236_95 (decide_eq_true c5) ?_
        have eq_ : (k236b85 y1) t = k236b85_107 t.1 y1 t.2.1 t.2.2 := by unfold k236b85; rw [if_neg c1]; rw [if_pos c5]
        refine lb236_85_107 h3  ?_ ?_ ?_
        · intro S6 p10 p11 t7 e8 h9
          have e0 : (k236b85 y1) t = (0, t7) := eq_.trans e8
          have e1 : ∀ m, kwh (k236b85 y1) (m + 1) t = kwh (k236b85 y1) m t7 := fun m => by rw [kwh_go (by rw [e0]), e0]
          exact ih _ p10 p11 t7 h9 (fun m S1 p2 p5 hm h1 => by have q := kx146 (m + 1) S1 p2 p5 (by rw [e1]; exact hm) (by rw [e1]; exact h1); (try rw [e1] at q); exact q.less (Nat.le_succ N)) (fun m S1 p2 p5 hm h1 => by have q := kx218 (m + 1) S1 p2 p5 (by rw [e1]; exact hm) (by rw [e1]; exact h1); (try rw [e1] at q); exact q.less (Nat.le_succ N))
        · intro S12 p16 p17 t13 e14 h15
          have e0 : (k236b85 y1) t = (1, t13) := eq_.trans e14
          have e1 : kwh (k236b85 y1) 1 t = (1, t13) := by rw [kwh_out (by rw [e0]; exact Nat.succ_ne_zero _), e0]
          have q := kx146 1 _ p16 p17 (by rw [e1]) (by rw [e1]; exact h15)
          try rw [e1] at q
          exact q.less (Nat.le_succ N)
        · intro S18 p22 p23 t19 e20 h21
          have e0 : (k236b85 y1) t = (2, t19) := eq_.trans e20
          have e1 : kwh (k236b85 y1) 1 t = (2, t19) := by rw [kwh_out (by rw [e0]; exact Nat.succ_ne_zero _), e0]
          have q := kx218 1 _ p22 p23 (by rw [e1]) (by rw [e1]; exact h21)
          try rw [e1] at q
          exact q.less (Nat.le_succ N)
      · refine l13f hi_236_95 (decide_eq_false c5) ?_
        refine l2 (v := 39) hi_236_98 rfl ?_
        refine l32 (as := [.ref 39]) (la := [some (.ref 39)]) (rest := []) hi_236_99 (am_hd0 (M := 236) (by decide) 99) rfl rfl rfl (fun N' d' _ => lt183 (N := N') (d := d') h3) ?_ (fun _ q => nomatch q.1)
        rintro v26 S24 ⟨ev26, h25⟩
        cases ev26
        show am_L _ _ _ _ _ [some (.ref 39), some (.int y1), o2, some (.int t.2.1), some (.int t.2.2), o5] [.int (k183 t.1)] _ _
        refine l0 hi_236_102 ?_
        by_cases c27 : (k183 t.1) ≠ 68
        · refine l13t hi_236_104 (decide_eq_true c27) ?_
          have e0 : (k236b85 y1) t = (2, (t.1, t.2.1, t.2.2)) := by unfold k236b85; rw [if_neg c1]; rw [if_neg c5]; rw [if_pos c27]
          have e1 : kwh (k236b85 y1) 1 t = (2, (t.1, t.2.1, t.2.2)) := by rw [kwh_out (by rw [e0]; exact Nat.succ_ne_zero _), e0]
          have q := kx218 1 _ o2 o5 (by rw [e1]) (by rw [e1]; exact h25)
          try rw [e1] at q
          exact q.less (Nat.le_succ N)
        · refine l13f hi_236_104 (decide_eq_false c27) ?_
          have eq_ : (k236b85 y1) t = k236b85_107 t.1 y1 t.2.1 t.2.2 := by unfold k236b85; rw [if_neg c1]; rw [if_neg c5]; rw [if_neg c27]
          refine lb236_85_107 h25  ?_ ?_ ?_
          · intro S28 p32 p33 t29 e30 h31
            have e0 : (k236b85 y1) t = (0, t29) := eq_.trans e30
            have e1 : ∀ m, kwh (k236b85 y1) (m + 1) t = kwh (k236b85 y1) m t29 := fun m => by rw [kwh_go (by rw [e0]), e0]
            exact ih _ p32 p33 t29 h31 (fun m S1 p2 p5 hm h1 => by have q := kx146 (m + 1) S1 p2 p5 (by rw [e1]; exact hm) (by rw [e1]; exact h1); (try rw [e1] at q); exact q.less (Nat.le_succ N)) (fun m S1 p2 p5 hm h1 => by have q := kx218 (m + 1) S1 p2 p5 (by rw [e1]; exact hm) (by rw [e1]; exact h1); (try rw [e1] at q); exact q.less (Nat.le_succ N))
          · intro S34 p38 p39 t35 e36 h37
            have e0 : (k236b85 y1) t = (1, t35) := eq_.trans e36
            have e1 : kwh (k236b85 y1) 1 t = (1, t35) := by rw [kwh_out (by rw [e0]; exact Nat.succ_ne_zero _), e0]
            have q := kx146 1 _ p38 p39 (by rw [e1]) (by rw [e1]; exact h37)
            try rw [e1] at q
            exact q.less (Nat.le_succ N)
          · intro S40 p44 p45 t41 e42 h43
            have e0 : (k236b85 y1) t = (2, t41) := eq_.trans e42
            have e1 : kwh (k236b85 y1) 1 t = (2, t41) := by rw [kwh_out (by rw [e0]; exact Nat.succ_ne_zero _), e0]
            have q := kx218 1 _ p44 p45 (by rw [e1]) (by rw [e1]; exact h43)
            try rw [e1] at q
            exact q.less (Nat.le_succ N)
noncomputable def k236_237 (s : kS) (y1 : Int32) (y3 : Int32) : kS × Int32 := ((k195 s y3 y1).1, 0)
theorem lt236_237 {sc : Nat × (Nat → Int32)} {N d : Nat} {S0 S : am_S} {s : kS} {y1 : Int32} {y3 : Int32} {o2 : Option Value} {o4 : Option Value} {o5 : Option Value} (hS : MK S0 S s) : am_L (am_PP sc) N d 236 237 [some (.ref 39), some (.int y1), o2, some (.int y3), o4, o5] [] S (fun o S1 => o = some none ∧ MK S0 S1 (k236_237 s y1 y3).1) := by
  refine l2 (v := 39) hi_236_237 rfl ?_
  refine l1 (v := y3) hi_236_238 rfl ?_
  refine l1 (v := y1) hi_236_239 rfl ?_
  refine l32 (as := [.ref 39, .int y3, .int y1]) (la := [some (.ref 39), some (.int y3), some (.int y1), none, none]) (rest := []) hi_236_240 (am_hd0 (M := 236) (by decide) 240) rfl rfl rfl (fun N' d' _ => lt195 (N := N') (d := d') hS) ?_ (fun _ q => nomatch q.1)
  rintro v3 S1 ⟨ev3, h2⟩
  cases ev3
  show am_L _ _ _ _ _ [some (.ref 39), some (.int y1), o2, some (.int y3), o4, o5] [] _ _
  refine l35 hi_236_243 ⟨rfl, ?_⟩
  exact h2
noncomputable def k236_228 (s : kS) (y1 : Int32) (y3 : Int32) : kS × Int32 := k236_237 ((k179 s 41 y1 0 0).1) y1 y3
theorem lt236_228 {sc : Nat × (Nat → Int32)} {N d : Nat} {S0 S : am_S} {s : kS} {y1 : Int32} {y3 : Int32} {o2 : Option Value} {o4 : Option Value} {o5 : Option Value} (hS : MK S0 S s) : am_L (am_PP sc) N d 236 228 [some (.ref 39), some (.int y1), o2, some (.int y3), o4, o5] [] S (fun o S1 => o = some none ∧ MK S0 S1 (k236_228 s y1 y3).1) := by
  refine l2 (v := 39) hi_236_228 rfl ?_
  refine l0 hi_236_229 ?_
  refine l1 (v := y1) hi_236_231 rfl ?_
  refine l0 hi_236_232 ?_
  refine l0 hi_236_233 ?_
  refine l32 (as := [.ref 39, .int 41, .int y1, .int 0, .int 0]) (la := [some (.ref 39), some (.int 41), some (.int y1), some (.int 0), some (.int 0)]) (rest := []) hi_236_234 (am_hd0 (M := 236) (by decide) 234) rfl rfl rfl (fun N' d' _ => lt179 (N := N') (d := d') hS) ?_ (fun _ q => nomatch q.1)
  rintro v3 S1 ⟨ev3, h2⟩
  cases ev3
  show am_L _ _ _ _ _ [some (.ref 39), some (.int y1), o2, some (.int y3), o4, o5] [] _ _
  refine am_L.mono (lt236_237 h2) ?_
  rintro o S1 ⟨e, h⟩
  have q : k236_228 s y1 y3 = k236_237 ((k179 s 41 y1 0 0).1) y1 y3 := rfl
  rw [q]; exact ⟨e, h⟩
noncomputable def k236_218 (s : kS) (y1 : Int32) (y3 : Int32) (y4 : Int32) : kS × Int32 := k236_228 ((k179 s 16 3 0 y4).1) y1 y3
theorem lt236_218 {sc : Nat × (Nat → Int32)} {N d : Nat} {S0 S : am_S} {s : kS} {y1 : Int32} {y3 : Int32} {y4 : Int32} {o2 : Option Value} {o5 : Option Value} (hS : MK S0 S s) : am_L (am_PP sc) N d 236 218 [some (.ref 39), some (.int y1), o2, some (.int y3), some (.int y4), o5] [] S (fun o S1 => o = some none ∧ MK S0 S1 (k236_218 s y1 y3 y4).1) := by
  refine l2 (v := 39) hi_236_218 rfl ?_
  refine l0 hi_236_219 ?_
  refine l0 hi_236_221 ?_
  refine l0 hi_236_222 ?_
  refine l1 (v := y4) hi_236_223 rfl ?_
  refine l32 (as := [.ref 39, .int 16, .int 3, .int 0, .int y4]) (la := [some (.ref 39), some (.int 16), some (.int 3), some (.int 0), some (.int y4)]) (rest := []) hi_236_225 (am_hd0 (M := 236) (by decide) 225) rfl rfl rfl (fun N' d' _ => lt179 (N := N') (d := d') hS) ?_ (fun _ q => nomatch q.1)
  rintro v3 S1 ⟨ev3, h2⟩
  cases ev3
  show am_L _ _ _ _ _ [some (.ref 39), some (.int y1), o2, some (.int y3), some (.int y4), o5] [] _ _
  refine am_L.mono (lt236_228 h2) ?_
  rintro o S1 ⟨e, h⟩
  have q : k236_218 s y1 y3 y4 = k236_228 ((k179 s 16 3 0 y4).1) y1 y3 := rfl
  rw [q]; exact ⟨e, h⟩
noncomputable def k236_77 (s : kS) (y1 : Int32) : kS × Int32 := if (kfin (k236b85 y1) (s, 0, s.1 4)).1 = 1 then ((kfin (k236b85 y1) (s, 0, s.1 4)).2.1, 0) else k236_218 ((kfin (k236b85 y1) (s, 0, s.1 4)).2.1) y1 ((kfin (k236b85 y1) (s, 0, s.1 4)).2.2.1) ((kfin (k236b85 y1) (s, 0, s.1 4)).2.2.2)
theorem lt236_77 {sc : Nat × (Nat → Int32)} {N d : Nat} {S0 S : am_S} {s : kS} {y1 : Int32} {o2 : Option Value} {o3 : Option Value} {o4 : Option Value} {o5 : Option Value} (hS : MK S0 S s) : am_L (am_PP sc) N d 236 77 [some (.ref 39), some (.int y1), o2, o3, o4, o5] [] S (fun o S1 => o = some none ∧ MK S0 S1 (k236_77 s y1).1) := by
  refine l0 hi_236_77 ?_
  refine l3 (ls' := [some (.ref 39), some (.int y1), o2, some (.int 0), o4, o5]) hi_236_78 (Nat.le_of_ble_eq_true rfl) rfl ?_
  refine l2 (v := 39) hi_236_79 rfl ?_
  refine l20 (v := .int (s.1 4)) hS hi_236_80 rfl ?_
  refine l3 (ls' := [some (.ref 39), some (.int y1), o2, some (.int 0), some (.int (s.1 4)), o5]) hi_236_83 (Nat.le_of_ble_eq_true rfl) rfl ?_
  refine lb236_85 N _ o2 o5 (s, 0, s.1 4) hS ?_ ?_
  · intro m1 S2 p6 p7 hm3 h4
    have hf5 : kfin (k236b85 y1) (s, 0, s.1 4) = kwh (k236b85 y1) m1 (s, 0, s.1 4) := kfin_eq (by rw [hm3]; decide)
    rw [← hf5] at hm3 h4
    try rw [← hf5]
    refine l35 hi_236_146 ⟨rfl, ?_⟩
    unfold k236_77; rw [if_pos hm3]; exact h4
  · intro m8 S9 p13 p14 hm10 h11
    have hf12 : kfin (k236b85 y1) (s, 0, s.1 4) = kwh (k236b85 y1) m8 (s, 0, s.1 4) := kfin_eq (by rw [hm10]; decide)
    rw [← hf12] at hm10 h11
    try rw [← hf12]
    have c15 : ¬ (kfin (k236b85 y1) (s, 0, s.1 4)).1 = 1 := by rw [hm10]; decide
    refine am_L.mono (lt236_218 h11) ?_
    rintro o S1 ⟨e, h⟩
    have q : k236_77 s y1 = k236_218 ((kfin (k236b85 y1) (s, 0, s.1 4)).2.1) y1 ((kfin (k236b85 y1) (s, 0, s.1 4)).2.2.1) ((kfin (k236b85 y1) (s, 0, s.1 4)).2.2.2) := by unfold k236_77; rw [if_neg c15]
    rw [q]; exact ⟨e, h⟩
noncomputable def k236_73 (s : kS) (y1 : Int32) : kS × Int32 := k236_77 ((k209 s).1) y1
theorem lt236_73 {sc : Nat × (Nat → Int32)} {N d : Nat} {S0 S : am_S} {s : kS} {y1 : Int32} {o2 : Option Value} {o3 : Option Value} {o4 : Option Value} {o5 : Option Value} (hS : MK S0 S s) : am_L (am_PP sc) N d 236 73 [some (.ref 39), some (.int y1), o2, o3, o4, o5] [] S (fun o S1 => o = some none ∧ MK S0 S1 (k236_73 s y1).1) := by
  refine l2 (v := 39) hi_236_73 rfl ?_
  refine l32 (as := [.ref 39]) (la := [some (.ref 39)]) (rest := []) hi_236_74 (am_hd0 (M := 236) (by decide) 74) rfl rfl rfl (fun N' d' _ => lt209 (N := N') (d := d') hS) ?_ (fun _ q => nomatch q.1)
  rintro v3 S1 ⟨ev3, h2⟩
  cases ev3
  show am_L _ _ _ _ _ [some (.ref 39), some (.int y1), o2, o3, o4, o5] [] _ _
  refine am_L.mono (lt236_77 h2) ?_
  rintro o S1 ⟨e, h⟩
  have q : k236_73 s y1 = k236_77 ((k209 s).1) y1 := rfl
  rw [q]; exact ⟨e, h⟩
noncomputable def k236_66 (s : kS) (y1 : Int32) (y2 : Int32) : kS × Int32 := k236_73 ((k190 s 3 0 y2).1) y1
theorem lt236_66 {sc : Nat × (Nat → Int32)} {N d : Nat} {S0 S : am_S} {s : kS} {y1 : Int32} {y2 : Int32} {o3 : Option Value} {o4 : Option Value} {o5 : Option Value} (hS : MK S0 S s) : am_L (am_PP sc) N d 236 66 [some (.ref 39), some (.int y1), some (.int y2), o3, o4, o5] [] S (fun o S1 => o = some none ∧ MK S0 S1 (k236_66 s y1 y2).1) := by
  refine l2 (v := 39) hi_236_66 rfl ?_
  refine l0 hi_236_67 ?_
  refine l0 hi_236_68 ?_
  refine l1 (v := y2) hi_236_69 rfl ?_
  refine l32 (as := [.ref 39, .int 3, .int 0, .int y2]) (la := [some (.ref 39), some (.int 3), some (.int 0), some (.int y2)]) (rest := []) hi_236_70 (am_hd0 (M := 236) (by decide) 70) rfl rfl rfl (fun N' d' _ => lt190 (N := N') (d := d') hS) ?_ (fun _ q => nomatch q.1)
  rintro v3 S1 ⟨ev3, h2⟩
  cases ev3
  show am_L _ _ _ _ _ [some (.ref 39), some (.int y1), some (.int y2), o3, o4, o5] [] _ _
  refine am_L.mono (lt236_73 h2) ?_
  rintro o S1 ⟨e, h⟩
  have q : k236_66 s y1 y2 = k236_73 ((k190 s 3 0 y2).1) y1 := rfl
  rw [q]; exact ⟨e, h⟩
noncomputable def k236_59 (s : kS) (y1 : Int32) : kS × Int32 := ((k195 s 0 y1).1, 0)
theorem lt236_59 {sc : Nat × (Nat → Int32)} {N d : Nat} {S0 S : am_S} {s : kS} {y1 : Int32} {o2 : Option Value} {o3 : Option Value} {o4 : Option Value} {o5 : Option Value} (hS : MK S0 S s) : am_L (am_PP sc) N d 236 59 [some (.ref 39), some (.int y1), o2, o3, o4, o5] [] S (fun o S1 => o = some none ∧ MK S0 S1 (k236_59 s y1).1) := by
  refine l2 (v := 39) hi_236_59 rfl ?_
  refine l0 hi_236_60 ?_
  refine l1 (v := y1) hi_236_61 rfl ?_
  refine l32 (as := [.ref 39, .int 0, .int y1]) (la := [some (.ref 39), some (.int 0), some (.int y1), none, none]) (rest := []) hi_236_62 (am_hd0 (M := 236) (by decide) 62) rfl rfl rfl (fun N' d' _ => lt195 (N := N') (d := d') hS) ?_ (fun _ q => nomatch q.1)
  rintro v3 S1 ⟨ev3, h2⟩
  cases ev3
  show am_L _ _ _ _ _ [some (.ref 39), some (.int y1), o2, o3, o4, o5] [] _ _
  refine l35 hi_236_65 ⟨rfl, ?_⟩
  exact h2
noncomputable def k236_50 (s : kS) (y1 : Int32) : kS × Int32 := k236_59 ((k179 s 41 y1 0 0).1) y1
theorem lt236_50 {sc : Nat × (Nat → Int32)} {N d : Nat} {S0 S : am_S} {s : kS} {y1 : Int32} {o2 : Option Value} {o3 : Option Value} {o4 : Option Value} {o5 : Option Value} (hS : MK S0 S s) : am_L (am_PP sc) N d 236 50 [some (.ref 39), some (.int y1), o2, o3, o4, o5] [] S (fun o S1 => o = some none ∧ MK S0 S1 (k236_50 s y1).1) := by
  refine l2 (v := 39) hi_236_50 rfl ?_
  refine l0 hi_236_51 ?_
  refine l1 (v := y1) hi_236_53 rfl ?_
  refine l0 hi_236_54 ?_
  refine l0 hi_236_55 ?_
  refine l32 (as := [.ref 39, .int 41, .int y1, .int 0, .int 0]) (la := [some (.ref 39), some (.int 41), some (.int y1), some (.int 0), some (.int 0)]) (rest := []) hi_236_56 (am_hd0 (M := 236) (by decide) 56) rfl rfl rfl (fun N' d' _ => lt179 (N := N') (d := d') hS) ?_ (fun _ q => nomatch q.1)
  rintro v3 S1 ⟨ev3, h2⟩
  cases ev3
  show am_L _ _ _ _ _ [some (.ref 39), some (.int y1), o2, o3, o4, o5] [] _ _
  refine am_L.mono (lt236_59 h2) ?_
  rintro o S1 ⟨e, h⟩
  have q : k236_50 s y1 = k236_59 ((k179 s 41 y1 0 0).1) y1 := rfl
  rw [q]; exact ⟨e, h⟩
noncomputable def k236_37 (s : kS) (y1 : Int32) (y2 : Int32) (z0 : Int32) : kS × Int32 := k236_50 ((k179 s 16 z0 (s.1 75) y2).1) y1
theorem lt236_37 {sc : Nat × (Nat → Int32)} {N d : Nat} {S0 S : am_S} {s : kS} {y1 : Int32} {y2 : Int32} {z0 : Int32} {o3 : Option Value} {o4 : Option Value} {o5 : Option Value} (hS : MK S0 S s) : am_L (am_PP sc) N d 236 37 [some (.ref 39), some (.int y1), some (.int y2), o3, o4, o5] [.int z0] S (fun o S1 => o = some none ∧ MK S0 S1 (k236_37 s y1 y2 z0).1) := by
  refine l3 (ls' := [some (.ref 39), some (.int y1), some (.int y2), some (.int z0), o4, o5]) hi_236_37 (Nat.le_of_ble_eq_true rfl) rfl ?_
  refine l2 (v := 39) hi_236_38 rfl ?_
  refine l0 hi_236_39 ?_
  refine l1 (v := z0) hi_236_41 rfl ?_
  refine l2 (v := 39) hi_236_42 rfl ?_
  refine l20 (v := .int (s.1 75)) hS hi_236_43 rfl ?_
  refine l1 (v := y2) hi_236_46 rfl ?_
  refine l32 (as := [.ref 39, .int 16, .int z0, .int (s.1 75), .int y2]) (la := [some (.ref 39), some (.int 16), some (.int z0), some (.int (s.1 75)), some (.int y2)]) (rest := []) hi_236_47 (am_hd0 (M := 236) (by decide) 47) rfl rfl rfl (fun N' d' _ => lt179 (N := N') (d := d') hS) ?_ (fun _ q => nomatch q.1)
  rintro v3 S1 ⟨ev3, h2⟩
  cases ev3
  show am_L _ _ _ _ _ [some (.ref 39), some (.int y1), some (.int y2), some (.int z0), o4, o5] [] _ _
  refine am_L.mono (lt236_50 h2) ?_
  rintro o S1 ⟨e, h⟩
  have q : k236_37 s y1 y2 z0 = k236_50 ((k179 s 16 z0 (s.1 75) y2).1) y1 := rfl
  rw [q]; exact ⟨e, h⟩
noncomputable def k236_10 (s : kS) (y1 : Int32) (y2 : Int32) (z0 : Int32) : kS × Int32 := if z0 ≠ 0 then if (k183 s) = 70 then k236_66 s y1 y2 else if (k183 s) = 68 then k236_66 s y1 y2 else k236_37 ((k237 s y2).1) y1 y2 ((k237 s y2).2) else (s, 0)
theorem lt236_10 {sc : Nat × (Nat → Int32)} {N d : Nat} {S0 S : am_S} {s : kS} {y1 : Int32} {y2 : Int32} {z0 : Int32} {o3 : Option Value} {o4 : Option Value} {o5 : Option Value} (hS : MK S0 S s) : am_L (am_PP sc) N d 236 10 [some (.ref 39), some (.int y1), some (.int y2), o3, o4, o5] [.int z0] S (fun o S1 => o = some none ∧ MK S0 S1 (k236_10 s y1 y2 z0).1) := by
  by_cases c1 : z0 ≠ 0
  · refine l12t hi_236_10 (decide_eq_true c1) ?_
    refine l2 (v := 39) hi_236_14 rfl ?_
    refine l32 (as := [.ref 39]) (la := [some (.ref 39)]) (rest := []) hi_236_15 (am_hd0 (M := 236) (by decide) 15) rfl rfl rfl (fun N' d' _ => lt183 (N := N') (d := d') hS) ?_ (fun _ q => nomatch q.1)
    rintro v4 S2 ⟨ev4, h3⟩
    cases ev4
    show am_L _ _ _ _ _ [some (.ref 39), some (.int y1), some (.int y2), o3, o4, o5] [.int (k183 s)] _ _
    refine l0 hi_236_18 ?_
    by_cases c5 : (k183 s) = 70
    · refine l13t hi_236_20 (decide_eq_true c5) ?_
      refine am_L.mono (lt236_66 h3) ?_
      rintro o S1 ⟨e, h⟩
      have q : k236_10 s y1 y2 z0 = k236_66 s y1 y2 := by unfold k236_10; rw [if_pos c1]; rw [if_pos c5]
      rw [q]; exact ⟨e, h⟩
    · refine l13f hi_236_20 (decide_eq_false c5) ?_
      refine l2 (v := 39) hi_236_23 rfl ?_
      refine l32 (as := [.ref 39]) (la := [some (.ref 39)]) (rest := []) hi_236_24 (am_hd0 (M := 236) (by decide) 24) rfl rfl rfl (fun N' d' _ => lt183 (N := N') (d := d') h3) ?_ (fun _ q => nomatch q.1)
      rintro v8 S6 ⟨ev8, h7⟩
      cases ev8
      show am_L _ _ _ _ _ [some (.ref 39), some (.int y1), some (.int y2), o3, o4, o5] [.int (k183 s)] _ _
      refine l0 hi_236_27 ?_
      by_cases c9 : (k183 s) = 68
      · refine l13t hi_236_29 (decide_eq_true c9) ?_
        refine am_L.mono (lt236_66 h7) ?_
        rintro o S1 ⟨e, h⟩
        have q : k236_10 s y1 y2 z0 = k236_66 s y1 y2 := by unfold k236_10; rw [if_pos c1]; rw [if_neg c5]; rw [if_pos c9]
        rw [q]; exact ⟨e, h⟩
      · refine l13f hi_236_29 (decide_eq_false c9) ?_
        refine l2 (v := 39) hi_236_32 rfl ?_
        refine l1 (v := y2) hi_236_33 rfl ?_
        refine l32 (as := [.ref 39, .int y2]) (la := [some (.ref 39), some (.int y2), none]) (rest := []) hi_236_34 (am_hd0 (M := 236) (by decide) 34) rfl rfl rfl (fun N' d' _ => lt237 (N := N') (d := d') h7) ?_ (fun _ q => nomatch q.1)
        rintro v12 S10 ⟨ev12, h11⟩
        cases ev12
        show am_L _ _ _ _ _ [some (.ref 39), some (.int y1), some (.int y2), o3, o4, o5] [.int ((k237 s y2).2)] _ _
        refine am_L.mono (lt236_37 h11) ?_
        rintro o S1 ⟨e, h⟩
        have q : k236_10 s y1 y2 z0 = k236_37 ((k237 s y2).1) y1 y2 ((k237 s y2).2) := by unfold k236_10; rw [if_pos c1]; rw [if_neg c5]; rw [if_neg c9]
        rw [q]; exact ⟨e, h⟩
  · refine l12f hi_236_10 (decide_eq_false c1) ?_
    refine l35 hi_236_13 ⟨rfl, ?_⟩
    unfold k236_10; rw [if_neg c1]; exact hS
/-- functionStatement(I)V -/
noncomputable def k236 (s : kS) (x1 : Int32) : kS × Int32 := k236_10 ((k200 s 1).1) x1 (s.1 4) ((k200 s 1).2)
theorem lt236 {sc : Nat × (Nat → Int32)} {N d : Nat} {S0 S : am_S} {s : kS} {x1 : Int32} (hS : MK S0 S s) : am_L (am_PP sc) N d 236 0 [some (.ref 39), some (.int x1), none, none, none, none] [] S (fun o S1 => o = some none ∧ MK S0 S1 (k236 s x1).1) := by
  refine l2 (v := 39) hi_236_0 rfl ?_
  refine l20 (v := .int (s.1 4)) hS hi_236_1 rfl ?_
  refine l3 (ls' := [some (.ref 39), some (.int x1), some (.int (s.1 4)), none, none, none]) hi_236_4 (Nat.le_of_ble_eq_true rfl) rfl ?_
  refine l2 (v := 39) hi_236_5 rfl ?_
  refine l0 hi_236_6 ?_
  refine l32 (as := [.ref 39, .int 1]) (la := [some (.ref 39), some (.int 1)]) (rest := []) hi_236_7 (am_hd0 (M := 236) (by decide) 7) rfl rfl rfl (fun N' d' _ => lt200 (N := N') (d := d') hS) ?_ (fun _ q => nomatch q.1)
  rintro v3 S1 ⟨ev3, h2⟩
  cases ev3
  show am_L _ _ _ _ _ [some (.ref 39), some (.int x1), some (.int (s.1 4)), none, none, none] [.int ((k200 s 1).2)] _ _
  refine am_L.mono (lt236_10 h2) ?_
  rintro o S1 ⟨e, h⟩
  have q : k236 s x1 = k236_10 ((k200 s 1).1) x1 (s.1 4) ((k200 s 1).2) := rfl
  rw [q]; exact ⟨e, h⟩
/-- keep(III)V -/
def k239 (s : kS) (x1 : Int32) (x2 : Int32) (x3 : Int32) : kS × Int32 := (kf (ka (ka (ka s 21 (s.1 20) x1) 22 (s.1 20) x2) 23 (s.1 20) x3) 20 ((s.1 20) + 1), 0)
theorem lt239 {sc : Nat × (Nat → Int32)} {N d : Nat} {S0 S : am_S} {s : kS} {x1 : Int32} {x2 : Int32} {x3 : Int32} (hS : MK S0 S s) : am_L (am_PP sc) N d 239 0 [some (.ref 39), some (.int x1), some (.int x2), some (.int x3)] [] S (fun o S1 => o = some none ∧ MK S0 S1 (k239 s x1 x2 x3).1) := by
  refine l2 (v := 39) hi_239_0 rfl ?_
  refine l20 (v := .ref 49) hS hi_239_1 rfl ?_
  refine l2 (v := 39) hi_239_4 rfl ?_
  refine l20 (v := .int (s.1 20)) hS hi_239_5 rfl ?_
  refine l1 (v := x1) hi_239_8 rfl ?_
  refine l26 hS ma_21 hi_239_9 fun S3 h4 g1 g2 => ?_
  refine l2 (v := 39) hi_239_10 rfl ?_
  refine l20 (v := .ref 50) h4 hi_239_11 rfl ?_
  refine l2 (v := 39) hi_239_14 rfl ?_
  refine l20 (v := .int (s.1 20)) h4 hi_239_15 rfl ?_
  refine l1 (v := x2) hi_239_18 rfl ?_
  refine l26 h4 ma_22 hi_239_19 fun S7 h8 g5 g6 => ?_
  refine l2 (v := 39) hi_239_20 rfl ?_
  refine l20 (v := .ref 51) h8 hi_239_21 rfl ?_
  refine l2 (v := 39) hi_239_24 rfl ?_
  refine l20 (v := .int (s.1 20)) h8 hi_239_25 rfl ?_
  refine l1 (v := x3) hi_239_28 rfl ?_
  refine l26 h8 ma_23 hi_239_29 fun S11 h12 g9 g10 => ?_
  refine l2 (v := 39) hi_239_30 rfl ?_
  refine l7 hi_239_31 ?_
  refine l20 (v := .int (s.1 20)) h12 hi_239_32 rfl ?_
  refine l0 hi_239_35 ?_
  refine l10 hi_239_36 ?_
  show am_L _ _ _ _ _ [some (.ref 39), some (.int x1), some (.int x2), some (.int x3)] [.int ((s.1 20) + 1), .ref 39] _ _
  refine l21 h12 hi_239_37 ms_20 fun S13 h14 => ?_
  refine l35 hi_239_40 ⟨rfl, ?_⟩
  exact h14
def k240b2 (y1 : Int32) (t : kS × Int32) : Nat × (kS × Int32) := if y1 ≤ t.2 then (1, (t.1, t.2)) else (0, ((k189 t.1 1 0 0 0).1, t.2 + 1))
theorem lb240_2 {sc : Nat × (Nat → Int32)} {d : Nat} {S0 : am_S} {y1 : Int32} {Q : Option (Option Value) → am_S → Prop} : ∀ (N : Nat) (S : am_S) (t : kS × Int32), MK S0 S t.1 → (∀ m S1, (kwh (k240b2 y1) m t).1 = 1 → MK S0 S1 (kwh (k240b2 y1) m t).2.1 → am_L (am_PP sc) N d 240 22 [some (.ref 39), some (.int y1), some (.int ((kwh (k240b2 y1) m t).2.2))] [] S1 Q) → am_L (am_PP sc) N d 240 2 [some (.ref 39), some (.int y1), some (.int t.2)] [] S Q := by
  intro N
  induction N with
  | zero => intros; exact l_zero
  | succ N ih =>
    intro S t hS kx22
    refine l1d (v := t.2) hi_240_2 rfl ?_
    refine l1 (v := y1) hi_240_3 rfl ?_
    by_cases c1 : y1 ≤ t.2
    · refine l13t hi_240_4 (decide_eq_true c1) ?_
      have e0 : (k240b2 y1) t = (1, (t.1, t.2)) := by unfold k240b2; rw [if_pos c1]
      have e1 : kwh (k240b2 y1) 1 t = (1, (t.1, t.2)) := by rw [kwh_out (by rw [e0]; exact Nat.succ_ne_zero _), e0]
      have q := kx22 1 _  (by rw [e1]) (by rw [e1]; exact hS)
      try rw [e1] at q
      exact q.less (Nat.le_succ N)
    · refine l13f hi_240_4 (decide_eq_false c1) ?_
      refine l2 (v := 39) hi_240_7 rfl ?_
      refine l0 hi_240_8 ?_
      refine l0 hi_240_9 ?_
      refine l0 hi_240_10 ?_
      refine l0 hi_240_11 ?_
      refine l32 (as := [.ref 39, .int 1, .int 0, .int 0, .int 0]) (la := [some (.ref 39), some (.int 1), some (.int 0), some (.int 0), some (.int 0)]) (rest := []) hi_240_12 (am_hd0 (M := 240) (by decide) 12) rfl rfl rfl (fun N' d' _ => lt189 (N := N') (d := d') hS) ?_ (fun _ q => nomatch q.1)
      rintro v4 S2 ⟨ev4, h3⟩
      cases ev4
      show am_L _ _ _ _ _ [some (.ref 39), some (.int y1), some (.int t.2)] [.int ((k189 t.1 1 0 0 0).2)] _ _
      refine l6i hi_240_15 ?_
      refine l5 (v := t.2) (ls' := [some (.ref 39), some (.int y1), some (.int (t.2 + 1))]) hi_240_16 rfl rfl ?_
      refine l18 hi_240_19 ?_
      have e0 : (k240b2 y1) t = (0, ((k189 t.1 1 0 0 0).1, t.2 + 1)) := by unfold k240b2; rw [if_neg c1]
      have e1 : ∀ m, kwh (k240b2 y1) (m + 1) t = kwh (k240b2 y1) m ((k189 t.1 1 0 0 0).1, t.2 + 1) := fun m => by rw [kwh_go (by rw [e0]), e0]
      exact ih _  ((k189 t.1 1 0 0 0).1, t.2 + 1) h3 (fun m S1 hm h1 => by have q := kx22 (m + 1) S1 (by rw [e1]; exact hm) (by rw [e1]; exact h1); (try rw [e1] at q); exact q.less (Nat.le_succ N))
/-- nils(I)V -/
noncomputable def k240 (s : kS) (x1 : Int32) : kS × Int32 := ((kfin (k240b2 x1) (s, 0)).2.1, 0)
theorem lt240 {sc : Nat × (Nat → Int32)} {N d : Nat} {S0 S : am_S} {s : kS} {x1 : Int32} (hS : MK S0 S s) : am_L (am_PP sc) N d 240 0 [some (.ref 39), some (.int x1), none] [] S (fun o S1 => o = some none ∧ MK S0 S1 (k240 s x1).1) := by
  refine l0 hi_240_0 ?_
  refine l3 (ls' := [some (.ref 39), some (.int x1), some (.int 0)]) hi_240_1 (Nat.le_of_ble_eq_true rfl) rfl ?_
  refine lb240_2 N _  (s, 0) hS ?_
  · intro m1 S2  hm3 h4
    have hf5 : kfin (k240b2 x1) (s, 0) = kwh (k240b2 x1) m1 (s, 0) := kfin_eq (by rw [hm3]; decide)
    rw [← hf5] at hm3 h4
    try rw [← hf5]
    refine l35 hi_240_22 ⟨rfl, ?_⟩
    exact h4
def k241b99 (y2 : Int32) (y3 : Int32) (y4 : Int32) (t : kS × Int32) : Nat × (kS × Int32) := if y4 ≤ t.2 then (1, (t.1, t.2)) else if (kr t.1 21 (y2 + t.2)) ≠ 2 then (0, (t.1, t.2 + 1)) else (0, ((k189 t.1 28 (y3 + t.2) 0 (kr t.1 23 (y2 + t.2))).1, t.2 + 1))
theorem lb241_99 {sc : Nat × (Nat → Int32)} {d : Nat} {S0 : am_S} {y2 : Int32} {y3 : Int32} {y4 : Int32} {Q : Option (Option Value) → am_S → Prop} : ∀ (N : Nat) (S : am_S) (o1 : Option Value) (t : kS × Int32), MK S0 S t.1 → (∀ m S1 (p1 : Option Value), (kwh (k241b99 y2 y3 y4) m t).1 = 1 → MK S0 S1 (kwh (k241b99 y2 y3 y4) m t).2.1 → am_L (am_PP sc) N d 241 146 [some (.ref 39), p1, some (.int y2), some (.int y3), some (.int y4), some (.int ((kwh (k241b99 y2 y3 y4) m t).2.2))] [] S1 Q) → am_L (am_PP sc) N d 241 99 [some (.ref 39), o1, some (.int y2), some (.int y3), some (.int y4), some (.int t.2)] [] S Q := by
  intro N
  induction N with
  | zero => intros; exact l_zero
  | succ N ih =>
    intro S o1 t hS kx146
    refine l1d (v := t.2) hi_241_99 rfl ?_
    refine l1 (v := y4) hi_241_101 rfl ?_
    by_cases c1 : y4 ≤ t.2
    · refine l13t hi_241_103 (decide_eq_true c1) ?_
      have e0 : (k241b99 y2 y3 y4) t = (1, (t.1, t.2)) := by unfold k241b99; rw [if_pos c1]
      have e1 : kwh (k241b99 y2 y3 y4) 1 t = (1, (t.1, t.2)) := by rw [kwh_out (by rw [e0]; exact Nat.succ_ne_zero _), e0]
      have q := kx146 1 _ o1 (by rw [e1]) (by rw [e1]; exact hS)
      try rw [e1] at q
      exact q.less (Nat.le_succ N)
    · refine l13f hi_241_103 (decide_eq_false c1) ?_
      refine l2 (v := 39) hi_241_106 rfl ?_
      refine l20 (v := .ref 49) hS hi_241_107 rfl ?_
      refine l1 (v := y2) hi_241_110 rfl ?_
      refine l1 (v := t.2) hi_241_111 rfl ?_
      refine l10 hi_241_113 ?_
      show am_L _ _ _ _ _ [some (.ref 39), o1, some (.int y2), some (.int y3), some (.int y4), some (.int t.2)] [.int (y2 + t.2), .ref 49] _ _
      refine l25 hS ma_21 hi_241_114 fun g2 g3 => ?_
      show am_L _ _ _ _ _ [some (.ref 39), o1, some (.int y2), some (.int y3), some (.int y4), some (.int t.2)] [.int (kr t.1 21 (y2 + t.2))] _ _
      refine l0 hi_241_115 ?_
      by_cases c4 : (kr t.1 21 (y2 + t.2)) ≠ 2
      · refine l13t hi_241_116 (decide_eq_true c4) ?_
        refine l5 (v := t.2) (ls' := [some (.ref 39), o1, some (.int y2), some (.int y3), some (.int y4), some (.int (t.2 + 1))]) hi_241_140 rfl rfl ?_
        refine l18 hi_241_143 ?_
        have e0 : (k241b99 y2 y3 y4) t = (0, (t.1, t.2 + 1)) := by unfold k241b99; rw [if_neg c1]; rw [if_pos c4]
        have e1 : ∀ m, kwh (k241b99 y2 y3 y4) (m + 1) t = kwh (k241b99 y2 y3 y4) m (t.1, t.2 + 1) := fun m => by rw [kwh_go (by rw [e0]), e0]
        exact ih _ o1 (t.1, t.2 + 1) hS (fun m S1 p1 hm h1 => by have q := kx146 (m + 1) S1 p1 (by rw [e1]; exact hm) (by rw [e1]; exact h1); (try rw [e1] at q); exact q.less (Nat.le_succ N))
      · refine l13f hi_241_116 (decide_eq_false c4) ?_
        refine l2 (v := 39) hi_241_119 rfl ?_
        refine l0 hi_241_120 ?_
        refine l1 (v := y3) hi_241_122 rfl ?_
        refine l1 (v := t.2) hi_241_123 rfl ?_
        refine l10 hi_241_125 ?_
        show am_L _ _ _ _ _ [some (.ref 39), o1, some (.int y2), some (.int y3), some (.int y4), some (.int t.2)] [.int (y3 + t.2), .int 28, .ref 39] _ _
        refine l0 hi_241_126 ?_
        refine l2 (v := 39) hi_241_127 rfl ?_
        refine l20 (v := .ref 51) hS hi_241_128 rfl ?_
        refine l1 (v := y2) hi_241_131 rfl ?_
        refine l1 (v := t.2) hi_241_132 rfl ?_
        refine l10 hi_241_134 ?_
        show am_L _ _ _ _ _ [some (.ref 39), o1, some (.int y2), some (.int y3), some (.int y4), some (.int t.2)] [.int (y2 + t.2), .ref 51, .int 0, .int (y3 + t.2), .int 28, .ref 39] _ _
        refine l25 hS ma_23 hi_241_135 fun g5 g6 => ?_
        show am_L _ _ _ _ _ [some (.ref 39), o1, some (.int y2), some (.int y3), some (.int y4), some (.int t.2)] [.int (kr t.1 23 (y2 + t.2)), .int 0, .int (y3 + t.2), .int 28, .ref 39] _ _
        refine l32 (as := [.ref 39, .int 28, .int (y3 + t.2), .int 0, .int (kr t.1 23 (y2 + t.2))]) (la := [some (.ref 39), some (.int 28), some (.int (y3 + t.2)), some (.int 0), some (.int (kr t.1 23 (y2 + t.2)))]) (rest := []) hi_241_136 (am_hd0 (M := 241) (by decide) 136) rfl rfl rfl (fun N' d' _ => lt189 (N := N') (d := d') hS) ?_ (fun _ q => nomatch q.1)
        rintro v9 S7 ⟨ev9, h8⟩
        cases ev9
        show am_L _ _ _ _ _ [some (.ref 39), o1, some (.int y2), some (.int y3), some (.int y4), some (.int t.2)] [.int ((k189 t.1 28 (y3 + t.2) 0 (kr t.1 23 (y2 + t.2))).2)] _ _
        refine l6i hi_241_139 ?_
        refine l5 (v := t.2) (ls' := [some (.ref 39), o1, some (.int y2), some (.int y3), some (.int y4), some (.int (t.2 + 1))]) hi_241_140 rfl rfl ?_
        refine l18 hi_241_143 ?_
        have e0 : (k241b99 y2 y3 y4) t = (0, ((k189 t.1 28 (y3 + t.2) 0 (kr t.1 23 (y2 + t.2))).1, t.2 + 1)) := by unfold k241b99; rw [if_neg c1]; rw [if_neg c4]
        have e1 : ∀ m, kwh (k241b99 y2 y3 y4) (m + 1) t = kwh (k241b99 y2 y3 y4) m ((k189 t.1 28 (y3 + t.2) 0 (kr t.1 23 (y2 + t.2))).1, t.2 + 1) := fun m => by rw [kwh_go (by rw [e0]), e0]
        exact ih _ o1 ((k189 t.1 28 (y3 + t.2) 0 (kr t.1 23 (y2 + t.2))).1, t.2 + 1) h8 (fun m S1 p1 hm h1 => by have q := kx146 (m + 1) S1 p1 (by rw [e1]; exact hm) (by rw [e1]; exact h1); (try rw [e1] at q); exact q.less (Nat.le_succ N))
def k241b16 (y1 : Int32) (y2 : Int32) (y3 : Int32) (y4 : Int32) (t : kS × Int32) : Nat × (kS × Int32) := if (t.1.1 20) ≤ t.2 then (1, (t.1, t.2)) else if (kr t.1 21 t.2) ≤ 0 then if (kr t.1 21 t.2) ≠ 2 then (0, ((k196 t.1 (kr t.1 2 (kr t.1 23 t.2)) 0 0 (kr t.1 23 t.2)).1, t.2 + 1)) else (0, ((k196 t.1 (kr t.1 2 (kr t.1 23 t.2)) 0 1 (kr t.1 23 t.2)).1, t.2 + 1)) else if (kr t.1 21 t.2) ≠ 2 then (0, ((k196 t.1 (kr t.1 2 (kr t.1 23 t.2)) 1 0 (kr t.1 23 t.2)).1, t.2 + 1)) else (0, ((k196 t.1 (kr t.1 2 (kr t.1 23 t.2)) 1 1 (kr t.1 23 t.2)).1, t.2 + 1))
theorem lb241_16 {sc : Nat × (Nat → Int32)} {d : Nat} {S0 : am_S} {y1 : Int32} {y2 : Int32} {y3 : Int32} {y4 : Int32} {Q : Option (Option Value) → am_S → Prop} : ∀ (N : Nat) (S : am_S) (t : kS × Int32), MK S0 S t.1 → (∀ m S1, (kwh (k241b16 y1 y2 y3 y4) m t).1 = 1 → MK S0 S1 (kwh (k241b16 y1 y2 y3 y4) m t).2.1 → am_L (am_PP sc) N d 241 85 [some (.ref 39), some (.int y1), some (.int y2), some (.int y3), some (.int y4), some (.int ((kwh (k241b16 y1 y2 y3 y4) m t).2.2))] [] S1 Q) → am_L (am_PP sc) N d 241 16 [some (.ref 39), some (.int y1), some (.int y2), some (.int y3), some (.int y4), some (.int t.2)] [] S Q := by
  intro N
  induction N with
  | zero => intros; exact l_zero
  | succ N ih =>
    intro S t hS kx85
    refine l1d (v := t.2) hi_241_16 rfl ?_
    refine l2 (v := 39) hi_241_18 rfl ?_
    refine l20 (v := .int (t.1.1 20)) hS hi_241_19 rfl ?_
    by_cases c1 : (t.1.1 20) ≤ t.2
    · refine l13t hi_241_22 (decide_eq_true c1) ?_
      have e0 : (k241b16 y1 y2 y3 y4) t = (1, (t.1, t.2)) := by unfold k241b16; rw [if_pos c1]
      have e1 : kwh (k241b16 y1 y2 y3 y4) 1 t = (1, (t.1, t.2)) := by rw [kwh_out (by rw [e0]; exact Nat.succ_ne_zero _), e0]
      have q := kx85 1 _  (by rw [e1]) (by rw [e1]; exact hS)
      try rw [e1] at q
      exact q.less (Nat.le_succ N)
    · refine l13f hi_241_22 (decide_eq_false c1) ?_
      refine l2 (v := 39) hi_241_25 rfl ?_
      refine l2 (v := 39) hi_241_26 rfl ?_
      refine l20 (v := .ref 41) hS hi_241_27 rfl ?_
      refine l2 (v := 39) hi_241_30 rfl ?_
      refine l20 (v := .ref 51) hS hi_241_31 rfl ?_
      refine l1 (v := t.2) hi_241_34 rfl ?_
      refine l25 hS ma_23 hi_241_36 fun g2 g3 => ?_
      show am_L _ _ _ _ _ [some (.ref 39), some (.int y1), some (.int y2), some (.int y3), some (.int y4), some (.int t.2)] [.int (kr t.1 23 t.2), .ref 41, .ref 39] _ _
      refine l25 hS ma_2 hi_241_37 fun g4 g5 => ?_
      show am_L _ _ _ _ _ [some (.ref 39), some (.int y1), some (.int y2), some (.int y3), some (.int y4), some (.int t.2)] [.int (kr t.1 2 (kr t.1 23 t.2)), .ref 39] _ _
      refine l2 (v := 39) hi_241_38 rfl ?_
      refine l20 (v := .ref 49) hS hi_241_39 rfl ?_
      refine l1 (v := t.2) hi_241_42 rfl ?_
      refine l25 hS ma_21 hi_241_44 fun g6 g7 => ?_
      show am_L _ _ _ _ _ [some (.ref 39), some (.int y1), some (.int y2), some (.int y3), some (.int y4), some (.int t.2)] [.int (kr t.1 21 t.2), .int (kr t.1 2 (kr t.1 23 t.2)), .ref 39] _ _
      by_cases c8 : (kr t.1 21 t.2) ≤ 0
      · refine l12t hi_241_45 (decide_eq_true c8) ?_
        refine l0 hi_241_52 ?_
        refine l2 (v := 39) hi_241_53 rfl ?_
        refine l20 (v := .ref 49) hS hi_241_54 rfl ?_
        refine l1 (v := t.2) hi_241_57 rfl ?_
        refine l25 hS ma_21 hi_241_59 fun g9 g10 => ?_
        show am_L _ _ _ _ _ [some (.ref 39), some (.int y1), some (.int y2), some (.int y3), some (.int y4), some (.int t.2)] [.int (kr t.1 21 t.2), .int 0, .int (kr t.1 2 (kr t.1 23 t.2)), .ref 39] _ _
        refine l0 hi_241_60 ?_
        by_cases c11 : (kr t.1 21 t.2) ≠ 2
        · refine l13t hi_241_61 (decide_eq_true c11) ?_
          refine l0 hi_241_68 ?_
          refine l2 (v := 39) hi_241_69 rfl ?_
          refine l20 (v := .ref 51) hS hi_241_70 rfl ?_
          refine l1 (v := t.2) hi_241_73 rfl ?_
          refine l25 hS ma_23 hi_241_75 fun g12 g13 => ?_
          show am_L _ _ _ _ _ [some (.ref 39), some (.int y1), some (.int y2), some (.int y3), some (.int y4), some (.int t.2)] [.int (kr t.1 23 t.2), .int 0, .int 0, .int (kr t.1 2 (kr t.1 23 t.2)), .ref 39] _ _
          refine l32 (as := [.ref 39, .int (kr t.1 2 (kr t.1 23 t.2)), .int 0, .int 0, .int (kr t.1 23 t.2)]) (la := [some (.ref 39), some (.int (kr t.1 2 (kr t.1 23 t.2))), some (.int 0), some (.int 0), some (.int (kr t.1 23 t.2)), none]) (rest := []) hi_241_76 (am_hd0 (M := 241) (by decide) 76) rfl rfl rfl (fun N' d' _ => lt196 (N := N') (d := d') hS) ?_ (fun _ q => nomatch q.1)
          rintro v16 S14 ⟨ev16, h15⟩
          cases ev16
          show am_L _ _ _ _ _ [some (.ref 39), some (.int y1), some (.int y2), some (.int y3), some (.int y4), some (.int t.2)] [] _ _
          refine l5 (v := t.2) (ls' := [some (.ref 39), some (.int y1), some (.int y2), some (.int y3), some (.int y4), some (.int (t.2 + 1))]) hi_241_79 rfl rfl ?_
          refine l18 hi_241_82 ?_
          have e0 : (k241b16 y1 y2 y3 y4) t = (0, ((k196 t.1 (kr t.1 2 (kr t.1 23 t.2)) 0 0 (kr t.1 23 t.2)).1, t.2 + 1)) := by unfold k241b16; rw [if_neg c1]; rw [if_pos c8]; rw [if_pos c11]
          have e1 : ∀ m, kwh (k241b16 y1 y2 y3 y4) (m + 1) t = kwh (k241b16 y1 y2 y3 y4) m ((k196 t.1 (kr t.1 2 (kr t.1 23 t.2)) 0 0 (kr t.1 23 t.2)).1, t.2 + 1) := fun m => by rw [kwh_go (by rw [e0]), e0]
          exact ih _  ((k196 t.1 (kr t.1 2 (kr t.1 23 t.2)) 0 0 (kr t.1 23 t.2)).1, t.2 + 1) h15 (fun m S1 hm h1 => by have q := kx85 (m + 1) S1 (by rw [e1]; exact hm) (by rw [e1]; exact h1); (try rw [e1] at q); exact q.less (Nat.le_succ N))
        · refine l13f hi_241_61 (decide_eq_false c11) ?_
          refine l0 hi_241_64 ?_
          refine l18 hi_241_65 ?_
          refine l2 (v := 39) hi_241_69 rfl ?_
          refine l20 (v := .ref 51) hS hi_241_70 rfl ?_
          refine l1 (v := t.2) hi_241_73 rfl ?_
          refine l25 hS ma_23 hi_241_75 fun g17 g18 => ?_
          show am_L _ _ _ _ _ [some (.ref 39), some (.int y1), some (.int y2), some (.int y3), some (.int y4), some (.int t.2)] [.int (kr t.1 23 t.2), .int 1, .int 0, .int (kr t.1 2 (kr t.1 23 t.2)), .ref 39] _ _
          refine l32 (as := [.ref 39, .int (kr t.1 2 (kr t.1 23 t.2)), .int 0, .int 1, .int (kr t.1 23 t.2)]) (la := [some (.ref 39), some (.int (kr t.1 2 (kr t.1 23 t.2))), some (.int 0), some (.int 1), some (.int (kr t.1 23 t.2)), none]) (rest := []) hi_241_76 (am_hd0 (M := 241) (by decide) 76) rfl rfl rfl (fun N' d' _ => lt196 (N := N') (d := d') hS) ?_ (fun _ q => nomatch q.1)
          rintro v21 S19 ⟨ev21, h20⟩
          cases ev21
          show am_L _ _ _ _ _ [some (.ref 39), some (.int y1), some (.int y2), some (.int y3), some (.int y4), some (.int t.2)] [] _ _
          refine l5 (v := t.2) (ls' := [some (.ref 39), some (.int y1), some (.int y2), some (.int y3), some (.int y4), some (.int (t.2 + 1))]) hi_241_79 rfl rfl ?_
          refine l18 hi_241_82 ?_
          have e0 : (k241b16 y1 y2 y3 y4) t = (0, ((k196 t.1 (kr t.1 2 (kr t.1 23 t.2)) 0 1 (kr t.1 23 t.2)).1, t.2 + 1)) := by unfold k241b16; rw [if_neg c1]; rw [if_pos c8]; rw [if_neg c11]
          have e1 : ∀ m, kwh (k241b16 y1 y2 y3 y4) (m + 1) t = kwh (k241b16 y1 y2 y3 y4) m ((k196 t.1 (kr t.1 2 (kr t.1 23 t.2)) 0 1 (kr t.1 23 t.2)).1, t.2 + 1) := fun m => by rw [kwh_go (by rw [e0]), e0]
          exact ih _  ((k196 t.1 (kr t.1 2 (kr t.1 23 t.2)) 0 1 (kr t.1 23 t.2)).1, t.2 + 1) h20 (fun m S1 hm h1 => by have q := kx85 (m + 1) S1 (by rw [e1]; exact hm) (by rw [e1]; exact h1); (try rw [e1] at q); exact q.less (Nat.le_succ N))
      · refine l12f hi_241_45 (decide_eq_false c8) ?_
        refine l0 hi_241_48 ?_
        refine l18 hi_241_49 ?_
        refine l2 (v := 39) hi_241_53 rfl ?_
        refine l20 (v := .ref 49) hS hi_241_54 rfl ?_
        refine l1 (v := t.2) hi_241_57 rfl ?_
        refine l25 hS ma_21 hi_241_59 fun g22 g23 => ?_
        show am_L _ _ _ _ _ [some (.ref 39), some (.int y1), some (.int y2), some (.int y3), some (.int y4), some (.int t.2)] [.int (kr t.1 21 t.2), .int 1, .int (kr t.1 2 (kr t.1 23 t.2)), .ref 39] _ _
        refine l0 hi_241_60 ?_
        by_cases c24 : (kr t.1 21 t.2) ≠ 2
        · refine l13t hi_241_61 (decide_eq_true c24) ?_
          refine l0 hi_241_68 ?_
          refine l2 (v := 39) hi_241_69 rfl ?_
          refine l20 (v := .ref 51) hS hi_241_70 rfl ?_
          refine l1 (v := t.2) hi_241_73 rfl ?_
          refine l25 hS ma_23 hi_241_75 fun g25 g26 => ?_
          show am_L _ _ _ _ _ [some (.ref 39), some (.int y1), some (.int y2), some (.int y3), some (.int y4), some (.int t.2)] [.int (kr t.1 23 t.2), .int 0, .int 1, .int (kr t.1 2 (kr t.1 23 t.2)), .ref 39] _ _
          refine l32 (as := [.ref 39, .int (kr t.1 2 (kr t.1 23 t.2)), .int 1, .int 0, .int (kr t.1 23 t.2)]) (la := [some (.ref 39), some (.int (kr t.1 2 (kr t.1 23 t.2))), some (.int 1), some (.int 0), some (.int (kr t.1 23 t.2)), none]) (rest := []) hi_241_76 (am_hd0 (M := 241) (by decide) 76) rfl rfl rfl (fun N' d' _ => lt196 (N := N') (d := d') hS) ?_ (fun _ q => nomatch q.1)
          rintro v29 S27 ⟨ev29, h28⟩
          cases ev29
          show am_L _ _ _ _ _ [some (.ref 39), some (.int y1), some (.int y2), some (.int y3), some (.int y4), some (.int t.2)] [] _ _
          refine l5 (v := t.2) (ls' := [some (.ref 39), some (.int y1), some (.int y2), some (.int y3), some (.int y4), some (.int (t.2 + 1))]) hi_241_79 rfl rfl ?_
          refine l18 hi_241_82 ?_
          have e0 : (k241b16 y1 y2 y3 y4) t = (0, ((k196 t.1 (kr t.1 2 (kr t.1 23 t.2)) 1 0 (kr t.1 23 t.2)).1, t.2 + 1)) := by unfold k241b16; rw [if_neg c1]; rw [if_neg c8]; rw [if_pos c24]
          have e1 : ∀ m, kwh (k241b16 y1 y2 y3 y4) (m + 1) t = kwh (k241b16 y1 y2 y3 y4) m ((k196 t.1 (kr t.1 2 (kr t.1 23 t.2)) 1 0 (kr t.1 23 t.2)).1, t.2 + 1) := fun m => by rw [kwh_go (by rw [e0]), e0]
          exact ih _  ((k196 t.1 (kr t.1 2 (kr t.1 23 t.2)) 1 0 (kr t.1 23 t.2)).1, t.2 + 1) h28 (fun m S1 hm h1 => by have q := kx85 (m + 1) S1 (by rw [e1]; exact hm) (by rw [e1]; exact h1); (try rw [e1] at q); exact q.less (Nat.le_succ N))
        · refine l13f hi_241_61 (decide_eq_false c24) ?_
          refine l0 hi_241_64 ?_
          refine l18 hi_241_65 ?_
          refine l2 (v := 39) hi_241_69 rfl ?_
          refine l20 (v := .ref 51) hS hi_241_70 rfl ?_
          refine l1 (v := t.2) hi_241_73 rfl ?_
          refine l25 hS ma_23 hi_241_75 fun g30 g31 => ?_
          show am_L _ _ _ _ _ [some (.ref 39), some (.int y1), some (.int y2), some (.int y3), some (.int y4), some (.int t.2)] [.int (kr t.1 23 t.2), .int 1, .int 1, .int (kr t.1 2 (kr t.1 23 t.2)), .ref 39] _ _
          refine l32 (as := [.ref 39, .int (kr t.1 2 (kr t.1 23 t.2)), .int 1, .int 1, .int (kr t.1 23 t.2)]) (la := [some (.ref 39), some (.int (kr t.1 2 (kr t.1 23 t.2))), some (.int 1), some (.int 1), some (.int (kr t.1 23 t.2)), none]) (rest := []) hi_241_76 (am_hd0 (M := 241) (by decide) 76) rfl rfl rfl (fun N' d' _ => lt196 (N := N') (d := d') hS) ?_ (fun _ q => nomatch q.1)
          rintro v34 S32 ⟨ev34, h33⟩
          cases ev34
          show am_L _ _ _ _ _ [some (.ref 39), some (.int y1), some (.int y2), some (.int y3), some (.int y4), some (.int t.2)] [] _ _
          refine l5 (v := t.2) (ls' := [some (.ref 39), some (.int y1), some (.int y2), some (.int y3), some (.int y4), some (.int (t.2 + 1))]) hi_241_79 rfl rfl ?_
          refine l18 hi_241_82 ?_
          have e0 : (k241b16 y1 y2 y3 y4) t = (0, ((k196 t.1 (kr t.1 2 (kr t.1 23 t.2)) 1 1 (kr t.1 23 t.2)).1, t.2 + 1)) := by unfold k241b16; rw [if_neg c1]; rw [if_neg c8]; rw [if_neg c24]
          have e1 : ∀ m, kwh (k241b16 y1 y2 y3 y4) (m + 1) t = kwh (k241b16 y1 y2 y3 y4) m ((k196 t.1 (kr t.1 2 (kr t.1 23 t.2)) 1 1 (kr t.1 23 t.2)).1, t.2 + 1) := fun m => by rw [kwh_go (by rw [e0]), e0]
          exact ih _  ((k196 t.1 (kr t.1 2 (kr t.1 23 t.2)) 1 1 (kr t.1 23 t.2)).1, t.2 + 1) h33 (fun m S1 hm h1 => by have q := kx85 (m + 1) S1 (by rw [e1]; exact hm) (by rw [e1]; exact h1); (try rw [e1] at q); exact q.less (Nat.le_succ N))
