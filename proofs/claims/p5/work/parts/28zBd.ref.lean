/-! THE REFERENCE: what each method does (printed by wip/p5/lw.py) -/
noncomputable def k236_37 (s : kS) (y1 : Int32) (y2 : Int32) (z0 : Int32) : kS × Int32 := k236_50 ((k179 s 16 z0 (s.1 75) y2).1) y1
theorem lt236_37 {sc : Nat × (Nat → Int32)} {N d : Nat} {S0 S : am_S} {s : kS} {y1 : Int32} {y2 : Int32} {z0 : Int32} {o3 : Option Value} {o4 : Option Value} {o5 : Option Value} (hS : MK S0 S s) : am_L (am_PP sc) N d 236 37 [some (.ref 39), some (.int y1), some (.int y2), o3, o4, o5] [.int z0] S (fun o S1 => o = some none ∧ MK S0 S1 (k236_37 s y1 y2 z0).1) := by
  refine l3 (ls' := [some (.ref 39), some (.int y1), some (.int y2), some (.int z0), o4, o5]) hi_236_37 (Nat.le_of_ble_eq_true rfl) rfl ?_
  refine l2 (v := 39) hi_236_38 rfl ?_
  refine l0 hi_236_39 ?_
  refine l1 (v := z0) hi_236_41 rfl ?_
  refine l2 (v := 39) hi_236_42 rfl ?_
  refine l20 (v := .int (s.1 75)) hS hi_236_43 rfl ?_
  refine l1 (v := y2) hi_236_46 rfl ?_
  refine l32 (as := [.ref 39, .int 16, .int z0, .int (s.1 75), .int y2]) (la := [some (.ref 39), some (.int 16), some (.int z0), some (.int (s.1 75)), some (.int y2)]) (rest := []) hi_236_47 (am_hd0 (M := 236) (by decide) 47) rfl rfl rfl (fun N' d' _ => lt179 (N := N') (d := d') hS) ?_ (fun _ q => nomatch q.1)
  rintro v3 S1 ⟨ev3, h2⟩
  cases ev3
  show am_L _ _ _ _ _ [some (.ref 39), some (.int y1), some (.int y2), some (.int z0), o4, o5] [] _ _
  refine am_L.mono (lt236_50 h2) ?_
  rintro o S1 ⟨e, h⟩
  have q : k236_37 s y1 y2 z0 = k236_50 ((k179 s 16 z0 (s.1 75) y2).1) y1 := rfl
  rw [q]; exact ⟨e, h⟩
noncomputable def k236_10 (s : kS) (y1 : Int32) (y2 : Int32) (z0 : Int32) : kS × Int32 := if z0 ≠ 0 then if (k183 s) = 70 then k236_66 s y1 y2 else if (k183 s) = 68 then k236_66 s y1 y2 else k236_37 ((k237 s y2).1) y1 y2 ((k237 s y2).2) else (s, 0)
theorem lt236_10 {sc : Nat × (Nat → Int32)} {N d : Nat} {S0 S : am_S} {s : kS} {y1 : Int32} {y2 : Int32} {z0 : Int32} {o3 : Option Value} {o4 : Option Value} {o5 : Option Value} (hS : MK S0 S s) : am_L (am_PP sc) N d 236 10 [some (.ref 39), some (.int y1), some (.int y2), o3, o4, o5] [.int z0] S (fun o S1 => o = some none ∧ MK S0 S1 (k236_10 s y1 y2 z0).1) := by
  by_cases c1 : z0 ≠ 0
  · refine l12t hi_236_10 (decide_eq_true c1) ?_
    refine l2 (v := 39) hi_236_14 rfl ?_
    refine l32 (as := [.ref 39]) (la := [some (.ref 39)]) (rest := []) hi_236_15 (am_hd0 (M := 236) (by decide) 15) rfl rfl rfl (fun N' d' _ => lt183 (N := N') (d := d') hS) ?_ (fun _ q => nomatch q.1)
    rintro v4 S2 ⟨ev4, h3⟩
    cases ev4
    show am_L _ _ _ _ _ [some (.ref 39), some (.int y1), some (.int y2), o3, o4, o5] [.int (k183 s)] _ _
    refine l0 hi_236_18 ?_
    by_cases c5 : (k183 s) = 70
    · refine l13t hi_236_20 (decide_eq_true c5) ?_
      refine am_L.mono (lt236_66 h3) ?_
      rintro o S1 ⟨e, h⟩
      have q : k236_10 s y1 y2 z0 = k236_66 s y1 y2 := by unfold k236_10; rw [if_pos c1]; rw [if_pos c5]
      rw [q]; exact ⟨e, h⟩
    · refine l13f hi_236_20 (decide_eq_false c5) ?_
      refine l2 (v := 39) hi_236_23 rfl ?_
      refine l32 (as := [.ref 39]) (la := [some (.ref 39)]) (rest := []) hi_236_24 (am_hd0 (M := 236) (by decide) 24) rfl rfl rfl (fun N' d' _ => lt183 (N := N') (d := d') h3) ?_ (fun _ q => nomatch q.1)
      rintro v8 S6 ⟨ev8, h7⟩
      cases ev8
      show am_L _ _ _ _ _ [some (.ref 39), some (.int y1), some (.int y2), o3, o4, o5] [.int (k183 s)] _ _
      refine l0 hi_236_27 ?_
      by_cases c9 : (k183 s) = 68
      · refine l13t hi_236_29 (decide_eq_true c9) ?_
        refine am_L.mono (lt236_66 h7) ?_
        rintro o S1 ⟨e, h⟩
        have q : k236_10 s y1 y2 z0 = k236_66 s y1 y2 := by unfold k236_10; rw [if_pos c1]; rw [if_neg c5]; rw [if_pos c9]
        rw [q]; exact ⟨e, h⟩
      · refine l13f hi_236_29 (decide_eq_false c9) ?_
        refine l2 (v := 39) hi_236_32 rfl ?_
        refine l1 (v := y2) hi_236_33 rfl ?_
        refine l32 (as := [.ref 39, .int y2]) (la := [some (.ref 39), some (.int y2), none]) (rest := []) hi_236_34 (am_hd0 (M := 236) (by decide) 34) rfl rfl rfl (fun N' d' _ => lt237 (N := N') (d := d') h7) ?_ (fun _ q => nomatch q.1)
        rintro v12 S10 ⟨ev12, h11⟩
        cases ev12
        show am_L _ _ _ _ _ [some (.ref 39), some (.int y1), some (.int y2), o3, o4, o5] [.int ((k237 s y2).2)] _ _
        refine am_L.mono (lt236_37 h11) ?_
        rintro o S1 ⟨e, h⟩
        have q : k236_10 s y1 y2 z0 = k236_37 ((k237 s y2).1) y1 y2 ((k237 s y2).2) := by unfold k236_10; rw [if_pos c1]; rw [if_neg c5]; rw [if_neg c9]
        rw [q]; exact ⟨e, h⟩
  · refine l12f hi_236_10 (decide_eq_false c1) ?_
    refine l35 hi_236_13 ⟨rfl, ?_⟩
    unfold k236_10; rw [if_neg c1]; exact hS
/-- functionStatement(I)V -/
noncomputable def k236 (s : kS) (x1 : Int32) : kS × Int32 := k236_10 ((k200 s 1).1) x1 (s.1 4) ((k200 s 1).2)
theorem lt236 {sc : Nat × (Nat → Int32)} {N d : Nat} {S0 S : am_S} {s : kS} {x1 : Int32} (hS : MK S0 S s) : am_L (am_PP sc) N d 236 0 [some (.ref 39), some (.int x1), none, none, none, none] [] S (fun o S1 => o = some none ∧ MK S0 S1 (k236 s x1).1) := by
  refine l2 (v := 39) hi_236_0 rfl ?_
  refine l20 (v := .int (s.1 4)) hS hi_236_1 rfl ?_
  refine l3 (ls' := [some (.ref 39), some (.int x1), some (.int (s.1 4)), none, none, none]) hi_236_4 (Nat.le_of_ble_eq_true rfl) rfl ?_
  refine l2 (v := 39) hi_236_5 rfl ?_
  refine l0 hi_236_6 ?_
  refine l32 (as := [.ref 39, .int 1]) (la := [some (.ref 39), some (.int 1)]) (rest := []) hi_236_7 (am_hd0 (M := 236) (by decide) 7) rfl rfl rfl (fun N' d' _ => lt200 (N := N') (d := d') hS) ?_ (fun _ q => nomatch q.1)
  rintro v3 S1 ⟨ev3, h2⟩
  cases ev3
  show am_L _ _ _ _ _ [some (.ref 39), some (.int x1), some (.int (s.1 4)), none, none, none] [.int ((k200 s 1).2)] _ _
  refine am_L.mono (lt236_10 h2) ?_
  rintro o S1 ⟨e, h⟩
  have q : k236 s x1 = k236_10 ((k200 s 1).1) x1 (s.1 4) ((k200 s 1).2) := rfl
  rw [q]; exact ⟨e, h⟩
/-- keep(III)V -/
def k239 (s : kS) (x1 : Int32) (x2 : Int32) (x3 : Int32) : kS × Int32 := (kf (ka (ka (ka s 21 (s.1 20) x1) 22 (s.1 20) x2) 23 (s.1 20) x3) 20 ((s.1 20) + 1), 0)
theorem lt239 {sc : Nat × (Nat → Int32)} {N d : Nat} {S0 S : am_S} {s : kS} {x1 : Int32} {x2 : Int32} {x3 : Int32} (hS : MK S0 S s) : am_L (am_PP sc) N d 239 0 [some (.ref 39), some (.int x1), some (.int x2), some (.int x3)] [] S (fun o S1 => o = some none ∧ MK S0 S1 (k239 s x1 x2 x3).1) := by
  refine l2 (v := 39) hi_239_0 rfl ?_
  refine l20 (v := .ref 49) hS hi_239_1 rfl ?_
  refine l2 (v := 39) hi_239_4 rfl ?_
  refine l20 (v := .int (s.1 20)) hS hi_239_5 rfl ?_
  refine l1 (v := x1) hi_239_8 rfl ?_
  refine l26 hS ma_21 hi_239_9 fun S3 h4 g1 g2 => ?_
  refine l2 (v := 39) hi_239_10 rfl ?_
  refine l20 (v := .ref 50) h4 hi_239_11 rfl ?_
  refine l2 (v := 39) hi_239_14 rfl ?_
  refine l20 (v := .int (s.1 20)) h4 hi_239_15 rfl ?_
  refine l1 (v := x2) hi_239_18 rfl ?_
  refine l26 h4 ma_22 hi_239_19 fun S7 h8 g5 g6 => ?_
  refine l2 (v := 39) hi_239_20 rfl ?_
  refine l20 (v := .ref 51) h8 hi_239_21 rfl ?_
  refine l2 (v := 39) hi_239_24 rfl ?_
  refine l20 (v := .int (s.1 20)) h8 hi_239_25 rfl ?_
  refine l1 (v := x3) hi_239_28 rfl ?_
  refine l26 h8 ma_23 hi_239_29 fun S11 h12 g9 g10 => ?_
  refine l2 (v := 39) hi_239_30 rfl ?_
  refine l7 hi_239_31 ?_
  refine l20 (v := .int (s.1 20)) h12 hi_239_32 rfl ?_
  refine l0 hi_239_35 ?_
  refine l10 hi_239_36 ?_
  show am_L _ _ _ _ _ [some (.ref 39), some (.int x1), some (.int x2), some (.int x3)] [.int ((s.1 20) + 1), .ref 39] _ _
  refine l21 h12 hi_239_37 ms_20 fun S13 h14 => ?_
  refine l35 hi_239_40 ⟨rfl, ?_⟩
  exact h14
def k240b2 (y1 : Int32) (t : kS × Int32) : Nat × (kS × Int32) := if y1 ≤ t.2 then (1, (t.1, t.2)) else (0, ((k189 t.1 1 0 0 0).1, t.2 + 1))
theorem lb240_2 {sc : Nat × (Nat → Int32)} {d : Nat} {S0 : am_S} {y1 : Int32} {Q : Option (Option Value) → am_S → Prop} : ∀ (N : Nat) (S : am_S) (t : kS × Int32), MK S0 S t.1 → (∀ m S1, (kwh (k240b2 y1) m t).1 = 1 → MK S0 S1 (kwh (k240b2 y1) m t).2.1 → am_L (am_PP sc) N d 240 22 [some (.ref 39), some (.int y1), some (.int ((kwh (k240b2 y1) m t).2.2))] [] S1 Q) → am_L (am_PP sc) N d 240 2 [some (.ref 39), some (.int y1), some (.int t.2)] [] S Q := by
  intro N
  induction N with
  | zero => intros; exact l_zero
  | succ N ih =>
    intro S t hS kx22
    refine l1d (v := t.2) hi_240_2 rfl ?_
    refine l1 (v := y1) hi_240_3 rfl ?_
    by_cases c1 : y1 ≤ t.2
    · refine l13t hi_240_4 (decide_eq_true c1) ?_
      have e0 : (k240b2 y1) t = (1, (t.1, t.2)) := by unfold k240b2; rw [if_pos c1]
      have e1 : kwh (k240b2 y1) 1 t = (1, (t.1, t.2)) := by rw [kwh_out (by rw [e0]; exact Nat.succ_ne_zero _), e0]
      have q := kx22 1 _  (by rw [e1]) (by rw [e1]; exact hS)
      rw [e1] at q
      exact q.less (Nat.le_succ N)
    · refine l13f hi_240_4 (decide_eq_false c1) ?_
      refine l2 (v := 39) hi_240_7 rfl ?_
      refine l0 hi_240_8 ?_
      refine l0 hi_240_9 ?_
      refine l0 hi_240_10 ?_
      refine l0 hi_240_11 ?_
      refine l32 (as := [.ref 39, .int 1, .int 0, .int 0, .int 0]) (la := [some (.ref 39), some (.int 1), some (.int 0), some (.int 0), some (.int 0)]) (rest := []) hi_240_12 (am_hd0 (M := 240) (by decide) 12) rfl rfl rfl (fun N' d' _ => lt189 (N := N') (d := d') hS) ?_ (fun _ q => nomatch q.1)
      rintro v4 S2 ⟨ev4, h3⟩
      cases ev4
      show am_L _ _ _ _ _ [some (.ref 39), some (.int y1), some (.int t.2)] [.int ((k189 t.1 1 0 0 0).2)] _ _
      refine l6i hi_240_15 ?_
      refine l5 (v := t.2) (ls' := [some (.ref 39), some (.int y1), some (.int (t.2 + 1))]) hi_240_16 rfl rfl ?_
      refine l18 hi_240_19 ?_
      have e0 : (k240b2 y1) t = (0, ((k189 t.1 1 0 0 0).1, t.2 + 1)) := by unfold k240b2; rw [if_neg c1]
      have e1 : ∀ m, kwh (k240b2 y1) (m + 1) t = kwh (k240b2 y1) m ((k189 t.1 1 0 0 0).1, t.2 + 1) := fun m => by rw [kwh_go (by rw [e0]), e0]
      exact ih _  ((k189 t.1 1 0 0 0).1, t.2 + 1) h3 (fun m S1 hm h1 => by have q := kx22 (m + 1) S1 (by rw [e1]; exact hm) (by rw [e1]; exact h1); rw [e1] at q; exact q.less (Nat.le_succ N))
/-- nils(I)V -/
noncomputable def k240 (s : kS) (x1 : Int32) : kS × Int32 := ((kfin (k240b2 x1) (s, 0)).2.1, 0)
theorem lt240 {sc : Nat × (Nat → Int32)} {N d : Nat} {S0 S : am_S} {s : kS} {x1 : Int32} (hS : MK S0 S s) : am_L (am_PP sc) N d 240 0 [some (.ref 39), some (.int x1), none] [] S (fun o S1 => o = some none ∧ MK S0 S1 (k240 s x1).1) := by
  refine l0 hi_240_0 ?_
  refine l3 (ls' := [some (.ref 39), some (.int x1), some (.int 0)]) hi_240_1 (Nat.le_of_ble_eq_true rfl) rfl ?_
  refine lb240_2 N _  (s, 0) hS ?_
  · intro m1 S2  hm3 h4
    have hf5 : kfin (k240b2 x1) (s, 0) = kwh (k240b2 x1) m1 (s, 0) := kfin_eq (by rw [hm3]; decide)
    rw [← hf5] at hm3 h4 ⊢
    refine l35 hi_240_22 ⟨rfl, ?_⟩
    exact h4
def k241b99 (y2 : Int32) (y3 : Int32) (y4 : Int32) (t : kS × Int32) : Nat × (kS × Int32) := if y4 ≤ t.2 then (1, (t.1, t.2)) else if (kr t.1 21 (y2 + t.2)) ≠ 2 then (0, (t.1, t.2 + 1)) else (0, ((k189 t.1 28 (y3 + t.2) 0 (kr t.1 23 (y2 + t.2))).1, t.2 + 1))
theorem lb241_99 {sc : Nat × (Nat → Int32)} {d : Nat} {S0 : am_S} {y2 : Int32} {y3 : Int32} {y4 : Int32} {Q : Option (Option Value) → am_S → Prop} : ∀ (N : Nat) (S : am_S) (o1 : Option Value) (t : kS × Int32), MK S0 S t.1 → (∀ m S1 (p1 : Option Value), (kwh (k241b99 y2 y3 y4) m t).1 = 1 → MK S0 S1 (kwh (k241b99 y2 y3 y4) m t).2.1 → am_L (am_PP sc) N d 241 146 [some (.ref 39), p1, some (.int y2), some (.int y3), some (.int y4), some (.int ((kwh (k241b99 y2 y3 y4) m t).2.2))] [] S1 Q) → am_L (am_PP sc) N d 241 99 [some (.ref 39), o1, some (.int y2), some (.int y3), some (.int y4), some (.int t.2)] [] S Q := by
  intro N
  induction N with
  | zero => intros; exact l_zero
  | succ N ih =>
    intro S o1 t hS kx146
    refine l1d (v := t.2) hi_241_99 rfl ?_
    refine l1 (v := y4) hi_241_101 rfl ?_
    by_cases c1 : y4 ≤ t.2
    · refine l13t hi_241_103 (decide_eq_true c1) ?_
      have e0 : (k241b99 y2 y3 y4) t = (1, (t.1, t.2)) := by unfold k241b99; rw [if_pos c1]
      have e1 : kwh (k241b99 y2 y3 y4) 1 t = (1, (t.1, t.2)) := by rw [kwh_out (by rw [e0]; exact Nat.succ_ne_zero _), e0]
      have q := kx146 1 _ o1 (by rw [e1]) (by rw [e1]; exact hS)
      rw [e1] at q
      exact q.less (Nat.le_succ N)
    · refine l13f hi_241_103 (decide_eq_false c1) ?_
      refine l2 (v := 39) hi_241_106 rfl ?_
      refine l20 (v := .ref 49) hS hi_241_107 rfl ?_
      refine l1 (v := y2) hi_241_110 rfl ?_
      refine l1 (v := t.2) hi_241_111 rfl ?_
      refine l10 hi_241_113 ?_
      show am_L _ _ _ _ _ [some (.ref 39), o1, some (.int y2), some (.int y3), some (.int y4), some (.int t.2)] [.int (y2 + t.2), .ref 49] _ _
      refine l25 hS ma_21 hi_241_114 fun g2 g3 => ?_
      show am_L _ _ _ _ _ [some (.ref 39), o1, some (.int y2), some (.int y3), some (.int y4), some (.int t.2)] [.int (kr t.1 21 (y2 + t.2))] _ _
      refine l0 hi_241_115 ?_
      by_cases c4 : (kr t.1 21 (y2 + t.2)) ≠ 2
      · refine l13t hi_241_116 (decide_eq_true c4) ?_
        refine l5 (v := t.2) (ls' := [some (.ref 39), o1, some (.int y2), some (.int y3), some (.int y4), some (.int (t.2 + 1))]) hi_241_140 rfl rfl ?_
        refine l18 hi_241_143 ?_
        have e0 : (k241b99 y2 y3 y4) t = (0, (t.1, t.2 + 1)) := by unfold k241b99; rw [if_neg c1]; rw [if_pos c4]
        have e1 : ∀ m, kwh (k241b99 y2 y3 y4) (m + 1) t = kwh (k241b99 y2 y3 y4) m (t.1, t.2 + 1) := fun m => by rw [kwh_go (by rw [e0]), e0]
        exact ih _ o1 (t.1, t.2 + 1) hS (fun m S1 p1 hm h1 => by have q := kx146 (m + 1) S1 p1 (by rw [e1]; exact hm) (by rw [e1]; exact h1); rw [e1] at q; exact q.less (Nat.le_succ N))
      · refine l13f hi_241_116 (decide_eq_false c4) ?_
        refine l2 (v := 39) hi_241_119 rfl ?_
        refine l0 hi_241_120 ?_
        refine l1 (v := y3) hi_241_122 rfl ?_
        refine l1 (v := t.2) hi_241_123 rfl ?_
        refine l10 hi_241_125 ?_
        show am_L _ _ _ _ _ [some (.ref 39), o1, some (.int y2), some (.int y3), some (.int y4), some (.int t.2)] [.int (y3 + t.2), .int 28, .ref 39] _ _
        refine l0 hi_241_126 ?_
        refine l2 (v := 39) hi_241_127 rfl ?_
        refine l20 (v := .ref 51) hS hi_241_128 rfl ?_
        refine l1 (v := y2) hi_241_131 rfl ?_
        refine l1 (v := t.2) hi_241_132 rfl ?_
        refine l10 hi_241_134 ?_
        show am_L _ _ _ _ _ [some (.ref 39), o1, some (.int y2), some (.int y3), some (.int y4), some (.int t.2)] [.int (y2 + t.2), .ref 51, .int 0, .int (y3 + t.2), .int 28, .ref 39] _ _
        refine l25 hS ma_23 hi_241_135 fun g5 g6 => ?_
        show am_L _ _ _ _ _ [some (.ref 39), o1, some (.int y2), some (.int y3), some (.int y4), some (.int t.2)] [.int (kr t.1 23 (y2 + t.2)), .int 0, .int (y3 + t.2), .int 28, .ref 39] _ _
        refine l32 (as := [.ref 39, .int 28, .int (y3 + t.2), .int 0, .int (kr t.1 23 (y2 + t.2))]) (la := [some (.ref 39), some (.int 28), some (.int (y3 + t.2)), some (.int 0), some (.int (kr t.1 23 (y2 + t.2)))]) (rest := []) hi_241_136 (am_hd0 (M := 241) (by decide) 136) rfl rfl rfl (fun N' d' _ => lt189 (N := N') (d := d') hS) ?_ (fun _ q => nomatch q.1)
        rintro v9 S7 ⟨ev9, h8⟩
        cases ev9
        show am_L _ _ _ _ _ [some (.ref 39), o1, some (.int y2), some (.int y3), some (.int y4), some (.int t.2)] [.int ((k189 t.1 28 (y3 + t.2) 0 (kr t.1 23 (y2 + t.2))).2)] _ _
        refine l6i hi_241_139 ?_
        refine l5 (v := t.2) (ls' := [some (.ref 39), o1, some (.int y2), some (.int y3), some (.int y4), some (.int (t.2 + 1))]) hi_241_140 rfl rfl ?_
        refine l18 hi_241_143 ?_
        have e0 : (k241b99 y2 y3 y4) t = (0, ((k189 t.1 28 (y3 + t.2) 0 (kr t.1 23 (y2 + t.2))).1, t.2 + 1)) := by unfold k241b99; rw [if_neg c1]; rw [if_neg c4]
        have e1 : ∀ m, kwh (k241b99 y2 y3 y4) (m + 1) t = kwh (k241b99 y2 y3 y4) m ((k189 t.1 28 (y3 + t.2) 0 (kr t.1 23 (y2 + t.2))).1, t.2 + 1) := fun m => by rw [kwh_go (by rw [e0]), e0]
        exact ih _ o1 ((k189 t.1 28 (y3 + t.2) 0 (kr t.1 23 (y2 + t.2))).1, t.2 + 1) h8 (fun m S1 p1 hm h1 => by have q := kx146 (m + 1) S1 p1 (by rw [e1]; exact hm) (by rw [e1]; exact h1); rw [e1] at q; exact q.less (Nat.le_succ N))
def k241b16 (y1 : Int32) (y2 : Int32) (y3 : Int32) (y4 : Int32) (t : kS × Int32) : Nat × (kS × Int32) := if (t.1.1 20) ≤ t.2 then (1, (t.1, t.2)) else if (kr t.1 21 t.2) ≤ 0 then if (kr t.1 21 t.2) ≠ 2 then (0, ((k196 t.1 (kr t.1 2 (kr t.1 23 t.2)) 0 0 (kr t.1 23 t.2)).1, t.2 + 1)) else (0, ((k196 t.1 (kr t.1 2 (kr t.1 23 t.2)) 0 1 (kr t.1 23 t.2)).1, t.2 + 1)) else if (kr t.1 21 t.2) ≠ 2 then (0, ((k196 t.1 (kr t.1 2 (kr t.1 23 t.2)) 1 0 (kr t.1 23 t.2)).1, t.2 + 1)) else (0, ((k196 t.1 (kr t.1 2 (kr t.1 23 t.2)) 1 1 (kr t.1 23 t.2)).1, t.2 + 1))
theorem lb241_16 {sc : Nat × (Nat → Int32)} {d : Nat} {S0 : am_S} {y1 : Int32} {y2 : Int32} {y3 : Int32} {y4 : Int32} {Q : Option (Option Value) → am_S → Prop} : ∀ (N : Nat) (S : am_S) (t : kS × Int32), MK S0 S t.1 → (∀ m S1, (kwh (k241b16 y1 y2 y3 y4) m t).1 = 1 → MK S0 S1 (kwh (k241b16 y1 y2 y3 y4) m t).2.1 → am_L (am_PP sc) N d 241 85 [some (.ref 39), some (.int y1), some (.int y2), some (.int y3), some (.int y4), some (.int ((kwh (k241b16 y1 y2 y3 y4) m t).2.2))] [] S1 Q) → am_L (am_PP sc) N d 241 16 [some (.ref 39), some (.int y1), some (.int y2), some (.int y3), some (.int y4), some (.int t.2)] [] S Q := by
  intro N
  induction N with
  | zero => intros; exact l_zero
  | succ N ih =>
    intro S t hS kx85
    refine l1d (v := t.2) hi_241_16 rfl ?_
    refine l2 (v := 39) hi_241_18 rfl ?_
    refine l20 (v := .int (t.1.1 20)) hS hi_241_19 rfl ?_
    by_cases c1 : (t.1.1 20) ≤ t.2
    · refine l13t hi_241_22 (decide_eq_true c1) ?_
      have e0 : (k241b16 y1 y2 y3 y4) t = (1, (t.1, t.2)) := by unfold k241b16; rw [if_pos c1]
      have e1 : kwh (k241b16 y1 y2 y3 y4) 1 t = (1, (t.1, t.2)) := by rw [kwh_out (by rw [e0]; exact Nat.succ_ne_zero _), e0]
      have q := kx85 1 _  (by rw [e1]) (by rw [e1]; exact hS)
      rw [e1] at q
      exact q.less (Nat.le_succ N)
    · refine l13f hi_241_22 (decide_eq_false c1) ?_
      refine l2 (v := 39) hi_241_25 rfl ?_
      refine l2 (v := 39) hi_241_26 rfl ?_
      refine l20 (v := .ref 41) hS hi_241_27 rfl ?_
      refine l2 (v := 39) hi_241_30 rfl ?_
      refine l20 (v := .ref 51) hS hi_241_31 rfl ?_
      refine l1 (v := t.2) hi_241_34 rfl ?_
      refine l25 hS ma_23 hi_241_36 fun g2 g3 => ?_
      show am_L _ _ _ _ _ [some (.ref 39), some (.int y1), some (.int y2), some (.int y3), some (.int y4), some (.int t.2)] [.int (kr t.1 23 t.2), .ref 41, .ref 39] _ _
      refine l25 hS ma_2 hi_241_37 fun g4 g5 => ?_
      show am_L _ _ _ _ _ [some (.ref 39), some (.int y1), some (.int y2), some (.int y3), some (.int y4), some (.int t.2)] [.int (kr t.1 2 (kr t.1 23 t.2)), .ref 39] _ _
      refine l2 (v := 39) hi_241_38 rfl ?_
      refine l20 (v := .ref 49) hS hi_241_39 rfl ?_
      refine l1 (v := t.2) hi_241_42 rfl ?_
      refine l25 hS ma_21 hi_241_44 fun g6 g7 => ?_
      show am_L _ _ _ _ _ [some (.ref 39), some (.int y1), some (.int y2), some (.int y3), some (.int y4), some (.int t.2)] [.int (kr t.1 21 t.2), .int (kr t.1 2 (kr t.1 23 t.2)), .ref 39] _ _
      by_cases c8 : (kr t.1 21 t.2) ≤ 0
      · refine l12t hi_241_45 (decide_eq_true c8) ?_
        refine l0 hi_241_52 ?_
        refine l2 (v := 39) hi_241_53 rfl ?_
        refine l20 (v := .ref 49) hS hi_241_54 rfl ?_
        refine l1 (v := t.2) hi_241_57 rfl ?_
        refine l25 hS ma_21 hi_241_59 fun g9 g10 => ?_
        show am_L _ _ _ _ _ [some (.ref 39), some (.int y1), some (.int y2), some (.int y3), some (.int y4), some (.int t.2)] [.int (kr t.1 21 t.2), .int 0, .int (kr t.1 2 (kr t.1 23 t.2)), .ref 39] _ _
        refine l0 hi_241_60 ?_
        by_cases c11 : (kr t.1 21 t.2) ≠ 2
        · refine l13t hi_241_61 (decide_eq_true c11) ?_
          refine l0 hi_241_68 ?_
          refine l2 (v := 39) hi_241_69 rfl ?_
          refine l20 (v := .ref 51) hS hi_241_70 rfl ?_
          refine l1 (v := t.2) hi_241_73 rfl ?_
          refine l25 hS ma_23 hi_241_75 fun g12 g13 => ?_
          show am_L _ _ _ _ _ [some (.ref 39), some (.int y1), some (.int y2), some (.int y3), some (.int y4), some (.int t.2)] [.int (kr t.1 23 t.2), .int 0, .int 0, .int (kr t.1 2 (kr t.1 23 t.2)), .ref 39] _ _
          refine l32 (as := [.ref 39, .int (kr t.1 2 (kr t.1 23 t.2)), .int 0, .int 0, .int (kr t.1 23 t.2)]) (la := [some (.ref 39), some (.int (kr t.1 2 (kr t.1 23 t.2))), some (.int 0), some (.int 0), some (.int (kr t.1 23 t.2)), none]) (rest := []) hi_241_76 (am_hd0 (M := 241) (by decide) 76) rfl rfl rfl (fun N' d' _ => lt196 (N := N') (d := d') hS) ?_ (fun _ q => nomatch q.1)
          rintro v16 S14 ⟨ev16, h15⟩
          cases ev16
          show am_L _ _ _ _ _ [some (.ref 39), some (.int y1), some (.int y2), some (.int y3), some (.int y4), some (.int t.2)] [] _ _
          refine l5 (v := t.2) (ls' := [some (.ref 39), some (.int y1), some (.int y2), some (.int y3), some (.int y4), some (.int (t.2 + 1))]) hi_241_79 rfl rfl ?_
          refine l18 hi_241_82 ?_
          have e0 : (k241b16 y1 y2 y3 y4) t = (0, ((k196 t.1 (kr t.1 2 (kr t.1 23 t.2)) 0 0 (kr t.1 23 t.2)).1, t.2 + 1)) := by unfold k241b16; rw [if_neg c1]; rw [if_pos c8]; rw [if_pos c11]
          have e1 : ∀ m, kwh (k241b16 y1 y2 y3 y4) (m + 1) t = kwh (k241b16 y1 y2 y3 y4) m ((k196 t.1 (kr t.1 2 (kr t.1 23 t.2)) 0 0 (kr t.1 23 t.2)).1, t.2 + 1) := fun m => by rw [kwh_go (by rw [e0]), e0]
          exact ih _  ((k196 t.1 (kr t.1 2 (kr t.1 23 t.2)) 0 0 (kr t.1 23 t.2)).1, t.2 + 1) h15 (fun m S1 hm h1 => by have q := kx85 (m + 1) S1 (by rw [e1]; exact hm) (by rw [e1]; exact h1); rw [e1] at q; exact q.less (Nat.le_succ N))
        · refine l13f hi_241_61 (decide_eq_false c11) ?_
          refine l0 hi_241_64 ?_
          refine l18 hi_241_65 ?_
          refine l2 (v := 39) hi_241_69 rfl ?_
          refine l20 (v := .ref 51) hS hi_241_70 rfl ?_
          refine l1 (v := t.2) hi_241_73 rfl ?_
          refine l25 hS ma_23 hi_241_75 fun g17 g18 => ?_
          show am_L _ _ _ _ _ [some (.ref 39), some (.int y1), some (.int y2), some (.int y3), some (.int y4), some (.int t.2)] [.int (kr t.1 23 t.2), .int 1, .int 0, .int (kr t.1 2 (kr t.1 23 t.2)), .ref 39] _ _
          refine l32 (as := [.ref 39, .int (kr t.1 2 (kr t.1 23 t.2)), .int 0, .int 1, .int (kr t.1 23 t.2)]) (la := [some (.ref 39), some (.int (kr t.1 2 (kr t.1 23 t.2))), some (.int 0), some (.int 1), some (.int (kr t.1 23 t.2)), none]) (rest := []) hi_241_76 (am_hd0 (M := 241) (by decide) 76) rfl rfl rfl (fun N' d' _ => lt196 (N := N') (d := d') hS) ?_ (fun _ q => nomatch q.1)
          rintro v21 S19 ⟨ev21, h20⟩
          cases ev21
          show am_L _ _ _ _ _ [some (.ref 39), some (.int y1), some (.int y2), some (.int y3), some (.int y4), some (.int t.2)] [] _ _
          refine l5 (v := t.2) (ls' := [some (.ref 39), some (.int y1), some (.int y2), some (.int y3), some (.int y4), some (.int (t.2 + 1))]) hi_241_79 rfl rfl ?_
          refine l18 hi_241_82 ?_
          have e0 : (k241b16 y1 y2 y3 y4) t = (0, ((k196 t.1 (kr t.1 2 (kr t.1 23 t.2)) 0 1 (kr t.1 23 t.2)).1, t.2 + 1)) := by unfold k241b16; rw [if_neg c1]; rw [if_pos c8]; rw [if_neg c11]
          have e1 : ∀ m, kwh (k241b16 y1 y2 y3 y4) (m + 1) t = kwh (k241b16 y1 y2 y3 y4) m ((k196 t.1 (kr t.1 2 (kr t.1 23 t.2)) 0 1 (kr t.1 23 t.2)).1, t.2 + 1) := fun m => by rw [kwh_go (by rw [e0]), e0]
          exact ih _  ((k196 t.1 (kr t.1 2 (kr t.1 23 t.2)) 0 1 (kr t.1 23 t.2)).1, t.2 + 1) h20 (fun m S1 hm h1 => by have q := kx85 (m + 1) S1 (by rw [e1]; exact hm) (by rw [e1]; exact h1); rw [e1] at q; exact q.less (Nat.le_succ N))
      · refine l12f hi_241_45 (decide_eq_false c8) ?_
        refine l0 hi_241_48 ?_
        refine l18 hi_241_49 ?_
        refine l2 (v := 39) hi_241_53 rfl ?_
        refine l20 (v := .ref 49) hS hi_241_54 rfl ?_
        refine l1 (v := t.2) hi_241_57 rfl ?_
        refine l25 hS ma_21 hi_241_59 fun g22 g23 => ?_
        show am_L _ _ _ _ _ [some (.ref 39), some (.int y1), some (.int y2), some (.int y3), some (.int y4), some (.int t.2)] [.int (kr t.1 21 t.2), .int 1, .int (kr t.1 2 (kr t.1 23 t.2)), .ref 39] _ _
        refine l0 hi_241_60 ?_
        by_cases c24 : (kr t.1 21 t.2) ≠ 2
        · refine l13t hi_241_61 (decide_eq_true c24) ?_
          refine l0 hi_241_68 ?_
          refine l2 (v := 39) hi_241_69 rfl ?_
          refine l20 (v := .ref 51) hS hi_241_70 rfl ?_
          refine l1 (v := t.2) hi_241_73 rfl ?_
          refine l25 hS ma_23 hi_241_75 fun g25 g26 => ?_
          show am_L _ _ _ _ _ [some (.ref 39), some (.int y1), some (.int y2), some (.int y3), some (.int y4), some (.int t.2)] [.int (kr t.1 23 t.2), .int 0, .int 1, .int (kr t.1 2 (kr t.1 23 t.2)), .ref 39] _ _
          refine l32 (as := [.ref 39, .int (kr t.1 2 (kr t.1 23 t.2)), .int 1, .int 0, .int (kr t.1 23 t.2)]) (la := [some (.ref 39), some (.int (kr t.1 2 (kr t.1 23 t.2))), some (.int 1), some (.int 0), some (.int (kr t.1 23 t.2)), none]) (rest := []) hi_241_76 (am_hd0 (M := 241) (by decide) 76) rfl rfl rfl (fun N' d' _ => lt196 (N := N') (d := d') hS) ?_ (fun _ q => nomatch q.1)
          rintro v29 S27 ⟨ev29, h28⟩
          cases ev29
          show am_L _ _ _ _ _ [some (.ref 39), some (.int y1), some (.int y2), some (.int y3), some (.int y4), some (.int t.2)] [] _ _
          refine l5 (v := t.2) (ls' := [some (.ref 39), some (.int y1), some (.int y2), some (.int y3), some (.int y4), some (.int (t.2 + 1))]) hi_241_79 rfl rfl ?_
          refine l18 hi_241_82 ?_
          have e0 : (k241b16 y1 y2 y3 y4) t = (0, ((k196 t.1 (kr t.1 2 (kr t.1 23 t.2)) 1 0 (kr t.1 23 t.2)).1, t.2 + 1)) := by unfold k241b16; rw [if_neg c1]; rw [if_neg c8]; rw [if_pos c24]
          have e1 : ∀ m, kwh (k241b16 y1 y2 y3 y4) (m + 1) t = kwh (k241b16 y1 y2 y3 y4) m ((k196 t.1 (kr t.1 2 (kr t.1 23 t.2)) 1 0 (kr t.1 23 t.2)).1, t.2 + 1) := fun m => by rw [kwh_go (by rw [e0]), e0]
          exact ih _  ((k196 t.1 (kr t.1 2 (kr t.1 23 t.2)) 1 0 (kr t.1 23 t.2)).1, t.2 + 1) h28 (fun m S1 hm h1 => by have q := kx85 (m + 1) S1 (by rw [e1]; exact hm) (by rw [e1]; exact h1); rw [e1] at q; exact q.less (Nat.le_succ N))
        · refine l13f hi_241_61 (decide_eq_false c24) ?_
          refine l0 hi_241_64 ?_
          refine l18 hi_241_65 ?_
          refine l2 (v := 39) hi_241_69 rfl ?_
          refine l20 (v := .ref 51) hS hi_241_70 rfl ?_
          refine l1 (v := t.2) hi_241_73 rfl ?_
          refine l25 hS ma_23 hi_241_75 fun g30 g31 => ?_
          show am_L _ _ _ _ _ [some (.ref 39), some (.int y1), some (.int y2), some (.int y3), some (.int y4), some (.int t.2)] [.int (kr t.1 23 t.2), .int 1, .int 1, .int (kr t.1 2 (kr t.1 23 t.2)), .ref 39] _ _
          refine l32 (as := [.ref 39, .int (kr t.1 2 (kr t.1 23 t.2)), .int 1, .int 1, .int (kr t.1 23 t.2)]) (la := [some (.ref 39), some (.int (kr t.1 2 (kr t.1 23 t.2))), some (.int 1), some (.int 1), some (.int (kr t.1 23 t.2)), none]) (rest := []) hi_241_76 (am_hd0 (M := 241) (by decide) 76) rfl rfl rfl (fun N' d' _ => lt196 (N := N') (d := d') hS) ?_ (fun _ q => nomatch q.1)
          rintro v34 S32 ⟨ev34, h33⟩
          cases ev34
          show am_L _ _ _ _ _ [some (.ref 39), some (.int y1), some (.int y2), some (.int y3), some (.int y4), some (.int t.2)] [] _ _
          refine l5 (v := t.2) (ls' := [some (.ref 39), some (.int y1), some (.int y2), some (.int y3), some (.int y4), some (.int (t.2 + 1))]) hi_241_79 rfl rfl ?_
          refine l18 hi_241_82 ?_
          have e0 : (k241b16 y1 y2 y3 y4) t = (0, ((k196 t.1 (kr t.1 2 (kr t.1 23 t.2)) 1 1 (kr t.1 23 t.2)).1, t.2 + 1)) := by unfold k241b16; rw [if_neg c1]; rw [if_neg c8]; rw [if_neg c24]
          have e1 : ∀ m, kwh (k241b16 y1 y2 y3 y4) (m + 1) t = kwh (k241b16 y1 y2 y3 y4) m ((k196 t.1 (kr t.1 2 (kr t.1 23 t.2)) 1 1 (kr t.1 23 t.2)).1, t.2 + 1) := fun m => by rw [kwh_go (by rw [e0]), e0]
          exact ih _  ((k196 t.1 (kr t.1 2 (kr t.1 23 t.2)) 1 1 (kr t.1 23 t.2)).1, t.2 + 1) h33 (fun m S1 hm h1 => by have q := kx85 (m + 1) S1 (by rw [e1]; exact hm) (by rw [e1]; exact h1); rw [e1] at q; exact q.less (Nat.le_succ N))
noncomputable def k241_95 (s : kS) (y2 : Int32) (y3 : Int32) (y4 : Int32) (z0 : Int32) : kS × Int32 := (kf ((kfin (k241b99 y2 y3 y4) (s, 0)).2.1) 20 y2, 0)
theorem lt241_95 {sc : Nat × (Nat → Int32)} {N d : Nat} {S0 S : am_S} {s : kS} {y2 : Int32} {y3 : Int32} {y4 : Int32} {z0 : Int32} {o1 : Option Value} {o5 : Option Value} (hS : MK S0 S s) : am_L (am_PP sc) N d 241 95 [some (.ref 39), o1, some (.int y2), some (.int y3), some (.int y4), o5] [.int z0] S (fun o S1 => o = some none ∧ MK S0 S1 (k241_95 s y2 y3 y4 z0).1) := by
  refine l6i hi_241_95 ?_
  refine l0 hi_241_96 ?_
  refine l3 (ls' := [some (.ref 39), o1, some (.int y2), some (.int y3), some (.int y4), some (.int 0)]) hi_241_97 (Nat.le_of_ble_eq_true rfl) rfl ?_
  refine lb241_99 N _ o1 (s, 0) hS ?_
  · intro m1 S2 p6 hm3 h4
    have hf5 : kfin (k241b99 y2 y3 y4) (s, 0) = kwh (k241b99 y2 y3 y4) m1 (s, 0) := kfin_eq (by rw [hm3]; decide)
    rw [← hf5] at hm3 h4 ⊢
    refine l2 (v := 39) hi_241_146 rfl ?_
    refine l1 (v := y2) hi_241_147 rfl ?_
    refine l21 h4 hi_241_148 ms_20 fun S7 h8 => ?_
    refine l35 hi_241_151 ⟨rfl, ?_⟩
    exact h8
/-- localEnd(II)V -/
noncomputable def k241 (s : kS) (x1 : Int32) (x2 : Int32) : kS × Int32 := k241_95 ((k189 ((kfin (k241b16 x1 x2 (k197 s) ((s.1 20) - x2)) (s, x2)).2.1) 27 (k197 s) ((s.1 20) - x2) x1).1) x2 (k197 s) ((s.1 20) - x2) ((k189 ((kfin (k241b16 x1 x2 (k197 s) ((s.1 20) - x2)) (s, x2)).2.1) 27 (k197 s) ((s.1 20) - x2) x1).2)
theorem lt241 {sc : Nat × (Nat → Int32)} {N d : Nat} {S0 S : am_S} {s : kS} {x1 : Int32} {x2 : Int32} (hS : MK S0 S s) : am_L (am_PP sc) N d 241 0 [some (.ref 39), some (.int x1), some (.int x2), none, none, none] [] S (fun o S1 => o = some none ∧ MK S0 S1 (k241 s x1 x2).1) := by
  refine l2 (v := 39) hi_241_0 rfl ?_
  refine l32 (as := [.ref 39]) (la := [some (.ref 39)]) (rest := []) hi_241_1 (am_hd0 (M := 241) (by decide) 1) rfl rfl rfl (fun N' d' _ => lt197 (N := N') (d := d') hS) ?_ (fun _ q => nomatch q.1)
  rintro v3 S1 ⟨ev3, h2⟩
  cases ev3
  show am_L _ _ _ _ _ [some (.ref 39), some (.int x1), some (.int x2), none, none, none] [.int (k197 s)] _ _
  refine l3 (ls' := [some (.ref 39), some (.int x1), some (.int x2), some (.int (k197 s)), none, none]) hi_241_4 (Nat.le_of_ble_eq_true rfl) rfl ?_
  refine l2 (v := 39) hi_241_5 rfl ?_
  refine l20 (v := .int (s.1 20)) h2 hi_241_6 rfl ?_
  refine l1 (v := x2) hi_241_9 rfl ?_
  refine l10 hi_241_10 ?_
  show am_L _ _ _ _ _ [some (.ref 39), some (.int x1), some (.int x2), some (.int (k197 s)), none, none] [.int ((s.1 20) - x2)] _ _
  refine l3 (ls' := [some (.ref 39), some (.int x1), some (.int x2), some (.int (k197 s)), some (.int ((s.1 20) - x2)), none]) hi_241_11 (Nat.le_of_ble_eq_true rfl) rfl ?_
  refine l1 (v := x2) hi_241_13 rfl ?_
  refine l3 (ls' := [some (.ref 39), some (.int x1), some (.int x2), some (.int (k197 s)), some (.int ((s.1 20) - x2)), some (.int x2)]) hi_241_14 (Nat.le_of_ble_eq_true rfl) rfl ?_
  refine lb241_16 N _  (s, x2) h2 ?_
  · intro m4 S5  hm6 h7
    have hf8 : kfin (k241b16 x1 x2 (k197 s) ((s.1 20) - x2)) (s, x2) = kwh (k241b16 x1 x2 (k197 s) ((s.1 20) - x2)) m4 (s, x2) := kfin_eq (by rw [hm6]; decide)
    rw [← hf8] at hm6 h7 ⊢
    refine l2 (v := 39) hi_241_85 rfl ?_
    refine l0 hi_241_86 ?_
    refine l1 (v := k197 s) hi_241_88 rfl ?_
    refine l1 (v := (s.1 20) - x2) hi_241_89 rfl ?_
    refine l1 (v := x1) hi_241_91 rfl ?_
    refine l32 (as := [.ref 39, .int 27, .int (k197 s), .int ((s.1 20) - x2), .int x1]) (la := [some (.ref 39), some (.int 27), some (.int (k197 s)), some (.int ((s.1 20) - x2)), some (.int x1)]) (rest := []) hi_241_92 (am_hd0 (M := 241) (by decide) 92) rfl rfl rfl (fun N' d' _ => lt189 (N := N') (d := d') h7) ?_ (fun _ q => nomatch q.1)
    rintro v11 S9 ⟨ev11, h10⟩
    cases ev11
    show am_L _ _ _ _ _ [some (.ref 39), some (.int x1), some (.int x2), some (.int (k197 s)), some (.int ((s.1 20) - x2)), some (.int ((kfin (k241b16 x1 x2 (k197 s) ((s.1 20) - x2)) (s, x2)).2.2))] [.int ((k189 ((kfin (k241b16 x1 x2 (k197 s) ((s.1 20) - x2)) (s, x2)).2.1) 27 (k197 s) ((s.1 20) - x2) x1).2)] _ _
    refine am_L.mono (lt241_95 h10) ?_
    rintro o S1 ⟨e, h⟩
    have q : k241 s x1 x2 = k241_95 ((k189 ((kfin (k241b16 x1 x2 (k197 s) ((s.1 20) - x2)) (s, x2)).2.1) 27 (k197 s) ((s.1 20) - x2) x1).1) x2 (k197 s) ((s.1 20) - x2) ((k189 ((kfin (k241b16 x1 x2 (k197 s) ((s.1 20) - x2)) (s, x2)).2.1) 27 (k197 s) ((s.1 20) - x2) x1).2) := rfl
    rw [q]; exact ⟨e, h⟩
def k238b113 (y1 : Int32) (y2 : Int32) (t : kS × Int32 × Int32) : Nat × (kS × Int32 × Int32) := if t.2.1 = 0 then (3, (t.1, t.2.1, t.2.2)) else if ((k200 t.1 1).2) ≠ 0 then if (k183 ((k200 t.1 1).1)) ≠ 57 then if (k183 ((k239 ((k200 t.1 1).1) 0 0 (t.1.1 4)).1)) ≠ 69 then (0, (kf ((k239 ((k200 t.1 1).1) 0 0 (t.1.1 4)).1) 4 ((((k239 ((k200 t.1 1).1) 0 0 (t.1.1 4)).1).1 4) + 0), 0, t.2.2)) else (0, (kf ((k239 ((k200 t.1 1).1) 0 0 (t.1.1 4)).1) 4 ((((k239 ((k200 t.1 1).1) 0 0 (t.1.1 4)).1).1 4) + 1), 1, t.2.2)) else if ((k200 (kf ((k200 t.1 1).1) 4 ((((k200 t.1 1).1).1 4) + 1)) 1).2) = 0 then (2, ((k200 (kf ((k200 t.1 1).1) 4 ((((k200 t.1 1).1).1 4) + 1)) 1).1, t.2.1, t.2.2)) else if ((k200 ((k200 (kf ((k200 t.1 1).1) 4 ((((k200 t.1 1).1).1 4) + 1)) 1).1) 58).2) ≠ 0 then if (kr ((k200 ((k200 (kf ((k200 t.1 1).1) 4 ((((k200 t.1 1).1).1 4) + 1)) 1).1) 58).1) 2 ((((k200 t.1 1).1).1 4) + 1)) ≠ (-2) then if (kr ((k200 ((k200 (kf ((k200 t.1 1).1) 4 ((((k200 t.1 1).1).1 4) + 1)) 1).1) 58).1) 2 ((((k200 t.1 1).1).1 4) + 1)) ≠ (-3) then if t.2.2 ≠ 0 then if (k183 ((k239 ((k191 ((k200 ((k200 (kf ((k200 t.1 1).1) 4 ((((k200 t.1 1).1).1 4) + 1)) 1).1) 58).1) 9 ((((k200 t.1 1).1).1 4) + 1)).1) 0 0 (t.1.1 4)).1)) ≠ 69 then (0, (kf ((k239 ((k191 ((k200 ((k200 (kf ((k200 t.1 1).1) 4 ((((k200 t.1 1).1).1 4) + 1)) 1).1) 58).1) 9 ((((k200 t.1 1).1).1 4) + 1)).1) 0 0 (t.1.1 4)).1) 4 ((((k239 ((k191 ((k200 ((k200 (kf ((k200 t.1 1).1) 4 ((((k200 t.1 1).1).1 4) + 1)) 1).1) 58).1) 9 ((((k200 t.1 1).1).1 4) + 1)).1) 0 0 (t.1.1 4)).1).1 4) + 0), 0, 1)) else (0, (kf ((k239 ((k191 ((k200 ((k200 (kf ((k200 t.1 1).1) 4 ((((k200 t.1 1).1).1 4) + 1)) 1).1) 58).1) 9 ((((k200 t.1 1).1).1 4) + 1)).1) 0 0 (t.1.1 4)).1) 4 ((((k239 ((k191 ((k200 ((k200 (kf ((k200 t.1 1).1) 4 ((((k200 t.1 1).1).1 4) + 1)) 1).1) 58).1) 9 ((((k200 t.1 1).1).1 4) + 1)).1) 0 0 (t.1.1 4)).1).1 4) + 1), 1, 1)) else if (k183 ((k239 ((k191 ((k200 ((k200 (kf ((k200 t.1 1).1) 4 ((((k200 t.1 1).1).1 4) + 1)) 1).1) 58).1) 9 ((((k200 t.1 1).1).1 4) + 1)).1) 0 0 (t.1.1 4)).1)) ≠ 69 then (0, (kf ((k239 ((k191 ((k200 ((k200 (kf ((k200 t.1 1).1) 4 ((((k200 t.1 1).1).1 4) + 1)) 1).1) 58).1) 9 ((((k200 t.1 1).1).1 4) + 1)).1) 0 0 (t.1.1 4)).1) 4 ((((k239 ((k191 ((k200 ((k200 (kf ((k200 t.1 1).1) 4 ((((k200 t.1 1).1).1 4) + 1)) 1).1) 58).1) 9 ((((k200 t.1 1).1).1 4) + 1)).1) 0 0 (t.1.1 4)).1).1 4) + 0), 0, 0)) else (0, (kf ((k239 ((k191 ((k200 ((k200 (kf ((k200 t.1 1).1) 4 ((((k200 t.1 1).1).1 4) + 1)) 1).1) 58).1) 9 ((((k200 t.1 1).1).1 4) + 1)).1) 0 0 (t.1.1 4)).1) 4 ((((k239 ((k191 ((k200 ((k200 (kf ((k200 t.1 1).1) 4 ((((k200 t.1 1).1).1 4) + 1)) 1).1) 58).1) 9 ((((k200 t.1 1).1).1 4) + 1)).1) 0 0 (t.1.1 4)).1).1 4) + 1), 1, 0)) else if t.2.2 = 0 then if t.2.2 ≠ 0 then if (k183 ((k239 ((k200 ((k200 (kf ((k200 t.1 1).1) 4 ((((k200 t.1 1).1).1 4) + 1)) 1).1) 58).1) 2 0 (t.1.1 4)).1)) ≠ 69 then (0, (kf ((k239 ((k200 ((k200 (kf ((k200 t.1 1).1) 4 ((((k200 t.1 1).1).1 4) + 1)) 1).1) 58).1) 2 0 (t.1.1 4)).1) 4 ((((k239 ((k200 ((k200 (kf ((k200 t.1 1).1) 4 ((((k200 t.1 1).1).1 4) + 1)) 1).1) 58).1) 2 0 (t.1.1 4)).1).1 4) + 0), 0, 1)) else (0, (kf ((k239 ((k200 ((k200 (kf ((k200 t.1 1).1) 4 ((((k200 t.1 1).1).1 4) + 1)) 1).1) 58).1) 2 0 (t.1.1 4)).1) 4 ((((k239 ((k200 ((k200 (kf ((k200 t.1 1).1) 4 ((((k200 t.1 1).1).1 4) + 1)) 1).1) 58).1) 2 0 (t.1.1 4)).1).1 4) + 1), 1, 1)) else if (k183 ((k239 ((k200 ((k200 (kf ((k200 t.1 1).1) 4 ((((k200 t.1 1).1).1 4) + 1)) 1).1) 58).1) 2 0 (t.1.1 4)).1)) ≠ 69 then (0, (kf ((k239 ((k200 ((k200 (kf ((k200 t.1 1).1) 4 ((((k200 t.1 1).1).1 4) + 1)) 1).1) 58).1) 2 0 (t.1.1 4)).1) 4 ((((k239 ((k200 ((k200 (kf ((k200 t.1 1).1) 4 ((((k200 t.1 1).1).1 4) + 1)) 1).1) 58).1) 2 0 (t.1.1 4)).1).1 4) + 0), 0, 1)) else (0, (kf ((k239 ((k200 ((k200 (kf ((k200 t.1 1).1) 4 ((((k200 t.1 1).1).1 4) + 1)) 1).1) 58).1) 2 0 (t.1.1 4)).1) 4 ((((k239 ((k200 ((k200 (kf ((k200 t.1 1).1) 4 ((((k200 t.1 1).1).1 4) + 1)) 1).1) 58).1) 2 0 (t.1.1 4)).1).1 4) + 1), 1, 1)) else if t.2.2 ≠ 0 then if (k183 ((k239 ((k191 ((k200 ((k200 (kf ((k200 t.1 1).1) 4 ((((k200 t.1 1).1).1 4) + 1)) 1).1) 58).1) 9 ((((k200 t.1 1).1).1 4) + 1)).1) 2 0 (t.1.1 4)).1)) ≠ 69 then (0, (kf ((k239 ((k191 ((k200 ((k200 (kf ((k200 t.1 1).1) 4 ((((k200 t.1 1).1).1 4) + 1)) 1).1) 58).1) 9 ((((k200 t.1 1).1).1 4) + 1)).1) 2 0 (t.1.1 4)).1) 4 ((((k239 ((k191 ((k200 ((k200 (kf ((k200 t.1 1).1) 4 ((((k200 t.1 1).1).1 4) + 1)) 1).1) 58).1) 9 ((((k200 t.1 1).1).1 4) + 1)).1) 2 0 (t.1.1 4)).1).1 4) + 0), 0, 1)) else (0, (kf ((k239 ((k191 ((k200 ((k200 (kf ((k200 t.1 1).1) 4 ((((k200 t.1 1).1).1 4) + 1)) 1).1) 58).1) 9 ((((k200 t.1 1).1).1 4) + 1)).1) 2 0 (t.1.1 4)).1) 4 ((((k239 ((k191 ((k200 ((k200 (kf ((k200 t.1 1).1) 4 ((((k200 t.1 1).1).1 4) + 1)) 1).1) 58).1) 9 ((((k200 t.1 1).1).1 4) + 1)).1) 2 0 (t.1.1 4)).1).1 4) + 1), 1, 1)) else if (k183 ((k239 ((k191 ((k200 ((k200 (kf ((k200 t.1 1).1) 4 ((((k200 t.1 1).1).1 4) + 1)) 1).1) 58).1) 9 ((((k200 t.1 1).1).1 4) + 1)).1) 2 0 (t.1.1 4)).1)) ≠ 69 then (0, (kf ((k239 ((k191 ((k200 ((k200 (kf ((k200 t.1 1).1) 4 ((((k200 t.1 1).1).1 4) + 1)) 1).1) 58).1) 9 ((((k200 t.1 1).1).1 4) + 1)).1) 2 0 (t.1.1 4)).1) 4 ((((k239 ((k191 ((k200 ((k200 (kf ((k200 t.1 1).1) 4 ((((k200 t.1 1).1).1 4) + 1)) 1).1) 58).1) 9 ((((k200 t.1 1).1).1 4) + 1)).1) 2 0 (t.1.1 4)).1).1 4) + 0), 0, 1)) else (0, (kf ((k239 ((k191 ((k200 ((k200 (kf ((k200 t.1 1).1) 4 ((((k200 t.1 1).1).1 4) + 1)) 1).1) 58).1) 9 ((((k200 t.1 1).1).1 4) + 1)).1) 2 0 (t.1.1 4)).1) 4 ((((k239 ((k191 ((k200 ((k200 (kf ((k200 t.1 1).1) 4 ((((k200 t.1 1).1).1 4) + 1)) 1).1) 58).1) 9 ((((k200 t.1 1).1).1 4) + 1)).1) 2 0 (t.1.1 4)).1).1 4) + 1), 1, 1)) else if t.2.2 ≠ 0 then if (k183 ((k239 ((k200 ((k200 (kf ((k200 t.1 1).1) 4 ((((k200 t.1 1).1).1 4) + 1)) 1).1) 58).1) 1 0 (t.1.1 4)).1)) ≠ 69 then (0, (kf ((k239 ((k200 ((k200 (kf ((k200 t.1 1).1) 4 ((((k200 t.1 1).1).1 4) + 1)) 1).1) 58).1) 1 0 (t.1.1 4)).1) 4 ((((k239 ((k200 ((k200 (kf ((k200 t.1 1).1) 4 ((((k200 t.1 1).1).1 4) + 1)) 1).1) 58).1) 1 0 (t.1.1 4)).1).1 4) + 0), 0, 1)) else (0, (kf ((k239 ((k200 ((k200 (kf ((k200 t.1 1).1) 4 ((((k200 t.1 1).1).1 4) + 1)) 1).1) 58).1) 1 0 (t.1.1 4)).1) 4 ((((k239 ((k200 ((k200 (kf ((k200 t.1 1).1) 4 ((((k200 t.1 1).1).1 4) + 1)) 1).1) 58).1) 1 0 (t.1.1 4)).1).1 4) + 1), 1, 1)) else if (k183 ((k239 ((k200 ((k200 (kf ((k200 t.1 1).1) 4 ((((k200 t.1 1).1).1 4) + 1)) 1).1) 58).1) 1 0 (t.1.1 4)).1)) ≠ 69 then (0, (kf ((k239 ((k200 ((k200 (kf ((k200 t.1 1).1) 4 ((((k200 t.1 1).1).1 4) + 1)) 1).1) 58).1) 1 0 (t.1.1 4)).1) 4 ((((k239 ((k200 ((k200 (kf ((k200 t.1 1).1) 4 ((((k200 t.1 1).1).1 4) + 1)) 1).1) 58).1) 1 0 (t.1.1 4)).1).1 4) + 0), 0, 0)) else (0, (kf ((k239 ((k200 ((k200 (kf ((k200 t.1 1).1) 4 ((((k200 t.1 1).1).1 4) + 1)) 1).1) 58).1) 1 0 (t.1.1 4)).1) 4 ((((k239 ((k200 ((k200 (kf ((k200 t.1 1).1) 4 ((((k200 t.1 1).1).1 4) + 1)) 1).1) 58).1) 1 0 (t.1.1 4)).1).1 4) + 1), 1, 0)) else (2, ((k200 ((k200 (kf ((k200 t.1 1).1) 4 ((((k200 t.1 1).1).1 4) + 1)) 1).1) 58).1, t.2.1, t.2.2)) else (1, ((k200 t.1 1).1, t.2.1, t.2.2))
set_option maxHeartbeats 16000000 in
theorem lb238_113 {sc : Nat × (Nat → Int32)} {d : Nat} {S0 : am_S} {y1 : Int32} {y2 : Int32} {Q : Option (Option Value) → am_S → Prop} : ∀ (N : Nat) (S : am_S) (o5 : Option Value) (o6 : Option Value) (o7 : Option Value) (t : kS × Int32 × Int32), MK S0 S t.1 → (∀ m S1 (p5 : Option Value) (p6 : Option Value) (p7 : Option Value), (kwh (k238b113 y1 y2) m t).1 = 1 → MK S0 S1 (kwh (k238b113 y1 y2) m t).2.1 → am_L (am_PP sc) N d 238 131 [some (.ref 39), some (.int y1), some (.int y2), some (.int ((kwh (k238b113 y1 y2) m t).2.2.1)), some (.int ((kwh (k238b113 y1 y2) m t).2.2.2)), p5, p6, p7] [] S1 Q) → (∀ m S1 (p5 : Option Value) (p6 : Option Value) (p7 : Option Value), (kwh (k238b113 y1 y2) m t).1 = 2 → MK S0 S1 (kwh (k238b113 y1 y2) m t).2.1 → am_L (am_PP sc) N d 238 177 [some (.ref 39), some (.int y1), some (.int y2), some (.int ((kwh (k238b113 y1 y2) m t).2.2.1)), some (.int ((kwh (k238b113 y1 y2) m t).2.2.2)), p5, p6, p7] [] S1 Q) → (∀ m S1 (p5 : Option Value) (p6 : Option Value) (p7 : Option Value), (kwh (k238b113 y1 y2) m t).1 = 3 → MK S0 S1 (kwh (k238b113 y1 y2) m t).2.1 → am_L (am_PP sc) N d 238 300 [some (.ref 39), some (.int y1), some (.int y2), some (.int ((kwh (k238b113 y1 y2) m t).2.2.1)), some (.int ((kwh (k238b113 y1 y2) m t).2.2.2)), p5, p6, p7] [] S1 Q) → am_L (am_PP sc) N d 238 113 [some (.ref 39), some (.int y1), some (.int y2), some (.int t.2.1), some (.int t.2.2), o5, o6, o7] [] S Q := by
  intro N
  induction N with
  | zero => intros; exact l_zero
  | succ N ih =>
    intro S o5 o6 o7 t hS kx131 kx177 kx300
    refine l1d (v := t.2.1) hi_238_113 rfl ?_
    by_cases c1 : t.2.1 = 0
    · refine l12t hi_238_114 (decide_eq_true c1) ?_
      have e0 : (k238b113 y1 y2) t = (3, (t.1, t.2.1, t.2.2)) := by unfold k238b113; rw [if_pos c1]
      have e1 : kwh (k238b113 y1 y2) 1 t = (3, (t.1, t.2.1, t.2.2)) := by rw [kwh_out (by rw [e0]; exact Nat.succ_ne_zero _), e0]
      have q := kx300 1 _ o5 o6 o7 (by rw [e1]) (by rw [e1]; exact hS)
      rw [e1] at q
      exact q.less (Nat.le_succ N)
    · refine l12f hi_238_114 (decide_eq_false c1) ?_
      refine l2 (v := 39) hi_238_117 rfl ?_
      refine l20 (v := .int (t.1.1 4)) hS hi_238_118 rfl ?_
      refine l3 (ls' := [some (.ref 39), some (.int y1), some (.int y2), some (.int t.2.1), some (.int t.2.2), some (.int (t.1.1 4)), o6, o7]) hi_238_121 (Nat.le_of_ble_eq_true rfl) rfl ?_
      refine l2 (v := 39) hi_238_123 rfl ?_
      refine l0 hi_238_124 ?_
      refine l32 (as := [.ref 39, .int 1]) (la := [some (.ref 39), some (.int 1)]) (rest := []) hi_238_125 (am_hd0 (M := 238) (by decide) 125) rfl rfl rfl (fun N' d' _ => lt200 (N := N') (d := d') hS) ?_ (fun _ q => nomatch q.1)
      rintro v4 S2 ⟨ev4, h3⟩
      cases ev4
      show am_L _ _ _ _ _ [some (.ref 39), some (.int y1), some (.int y2), some (.int t.2.1), some (.int t.2.2), some (.int (t.1.1 4)), o6, o7] [.int ((k200 t.1 1).2)] _ _
      by_cases c5 : ((k200 t.1 1).2) ≠ 0
      · refine l12t hi_238_128 (decide_eq_true c5) ?_
        refine l0 hi_238_132 ?_
        refine l3 (ls' := [some (.ref 39), some (.int y1), some (.int y2), some (.int t.2.1), some (.int t.2.2), some (.int (t.1.1 4)), some (.int 0), o7]) hi_238_133 (Nat.le_of_ble_eq_true rfl) rfl ?_
        refine l2 (v := 39) hi_238_135 rfl ?_
        refine l32 (as := [.ref 39]) (la := [some (.ref 39)]) (rest := []) hi_238_136 (am_hd0 (M := 238) (by decide) 136) rfl rfl rfl (fun N' d' _ => lt183 (N := N') (d := d') h3) ?_ (fun _ q => nomatch q.1)
        rintro v8 S6 ⟨ev8, h7⟩
        cases ev8
        show am_L _ _ _ _ _ [some (.ref 39), some (.int y1), some (.int y2), some (.int t.2.1), some (.int t.2.2), some (.int (t.1.1 4)), some (.int 0), o7] [.int (k183 ((k200 t.1 1).1))] _ _
        refine l0 hi_238_139 ?_
        by_cases c9 : (k183 ((k200 t.1 1).1)) ≠ 57
        · refine l13t hi_238_141 (decide_eq_true c9) ?_
          refine l2 (v := 39) hi_238_255 rfl ?_
          refine l1 (v := 0) hi_238_256 rfl ?_
          refine l0 hi_238_258 ?_
          refine l1 (v := t.1.1 4) hi_238_259 rfl ?_
          refine l32 (as := [.ref 39, .int 0, .int 0, .int (t.1.1 4)]) (la := [some (.ref 39), some (.int 0), some (.int 0), some (.int (t.1.1 4))]) (rest := []) hi_238_261 (am_hd0 (M := 238) (by decide) 261) rfl rfl rfl (fun N' d' _ => lt239 (N := N') (d := d') h7) ?_ (fun _ q => nomatch q.1)
          rintro v12 S10 ⟨ev12, h11⟩
          cases ev12
          show am_L _ _ _ _ _ [some (.ref 39), some (.int y1), some (.int y2), some (.int t.2.1), some (.int t.2.2), some (.int (t.1.1 4)), some (.int 0), o7] [] _ _
          refine l2 (v := 39) hi_238_264 rfl ?_
          refine l32 (as := [.ref 39]) (la := [some (.ref 39)]) (rest := []) hi_238_265 (am_hd0 (M := 238) (by decide) 265) rfl rfl rfl (fun N' d' _ => lt183 (N := N') (d := d') h11) ?_ (fun _ q => nomatch q.1)
          rintro v15 S13 ⟨ev15, h14⟩
          cases ev15
          show am_L _ _ _ _ _ [some (.ref 39), some (.int y1), some (.int y2), some (.int t.2.1), some (.int t.2.2), some (.int (t.1.1 4)), some (.int 0), o7] [.int (k183 ((k239 ((k200 t.1 1).1) 0 0 (t.1.1 4)).1))] _ _
          refine l0 hi_238_268 ?_
          by_cases c16 : (k183 ((k239 ((k200 t.1 1).1) 0 0 (t.1.1 4)).1)) ≠ 69
          · refine l13t hi_238_270 (decide_eq_true c16) ?_
            refine l0 hi_238_277 ?_
            refine l3 (ls' := [some (.ref 39), some (.int y1), some (.int y2), some (.int 0), some (.int t.2.2), some (.int (t.1.1 4)), some (.int 0), o7]) hi_238_278 (Nat.le_of_ble_eq_true rfl) rfl ?_
            refine l2 (v := 39) hi_238_279 rfl ?_
            refine l7 hi_238_280 ?_
            refine l20 (v := .int (((k239 ((k200 t.1 1).1) 0 0 (t.1.1 4)).1).1 4)) h14 hi_238_281 rfl ?_
            refine l1 (v := 0) hi_238_284 rfl ?_
            refine l12t hi_238_285 (by decide) ?_
            refine l0 hi_238_292 ?_
            refine l10 hi_238_293 ?_
            show am_L _ _ _ _ _ [some (.ref 39), some (.int y1), some (.int y2), some (.int 0), some (.int t.2.2), some (.int (t.1.1 4)), some (.int 0), o7] [.int ((((k239 ((k200 t.1 1).1) 0 0 (t.1.1 4)).1).1 4) + 0), .ref 39] _ _
            refine l21 h14 hi_238_294 ms_4 fun S17 h18 => ?_
            refine l18 hi_238_297 ?_
            have e0 : (k238b113 y1 y2) t = (0, (kf ((k239 ((k200 t.1 1).1) 0 0 (t.1.1 4)).1) 4 ((((k239 ((k200 t.1 1).1) 0 0 (t.1.1 4)).1).1 4) + 0), 0, t.2.2)) := by unfold k238b113; rw [if_neg c1]; rw [if_pos c5]; rw [if_pos c9]; rw [if_pos c16]
            have e1 : ∀ m, kwh (k238b113 y1 y2) (m + 1) t = kwh (k238b113 y1 y2) m (kf ((k239 ((k200 t.1 1).1) 0 0 (t.1.1 4)).1) 4 ((((k239 ((k200 t.1 1).1) 0 0 (t.1.1 4)).1).1 4) + 0), 0, t.2.2) := fun m => by rw [kwh_go (by rw [e0]), e0]
            exact ih _ (some (.int (t.1.1 4))) (some (.int 0)) o7 (kf ((k239 ((k200 t.1 1).1) 0 0 (t.1.1 4)).1) 4 ((((k239 ((k200 t.1 1).1) 0 0 (t.1.1 4)).1).1 4) + 0), 0, t.2.2) h18 (fun m S1 p5 p6 p7 hm h1 => by have q := kx131 (m + 1) S1 p5 p6 p7 (by rw [e1]; exact hm) (by rw [e1]; exact h1); rw [e1] at q; exact q.less (Nat.le_succ N)) (fun m S1 p5 p6 p7 hm h1 => by have q := kx177 (m + 1) S1 p5 p6 p7 (by rw [e1]; exact hm) (by rw [e1]; exact h1); rw [e1] at q; exact q.less (Nat.le_succ N)) (fun m S1 p5 p6 p7 hm h1 => by have q := kx300 (m + 1) S1 p5 p6 p7 (by rw [e1]; exact hm) (by rw [e1]; exact h1); rw [e1] at q; exact q.less (Nat.le_succ N))
          · refine l13f hi_238_270 (decide_eq_false c16) ?_
            refine l0 hi_238_273 ?_
            refine l18 hi_238_274 ?_
            refine l3 (ls' := [some (.ref 39), some (.int y1), some (.int y2), some (.int 1), some (.int t.2.2), some (.int (t.1.1 4)), some (.int 0), o7]) hi_238_278 (Nat.le_of_ble_eq_true rfl) rfl ?_
            refine l2 (v := 39) hi_238_279 rfl ?_
            refine l7 hi_238_280 ?_
            refine l20 (v := .int (((k239 ((k200 t.1 1).1) 0 0 (t.1.1 4)).1).1 4)) h14 hi_238_281 rfl ?_
            refine l1 (v := 1) hi_238_284 rfl ?_
            refine l12f hi_238_285 (by decide) ?_
            refine l0 hi_238_288 ?_
            refine l18 hi_238_289 ?_
            refine l10 hi_238_293 ?_
            show am_L _ _ _ _ _ [some (.ref 39), some (.int y1), some (.int y2), some (.int 1), some (.int t.2.2), some (.int (t.1.1 4)), some (.int 0), o7] [.int ((((k239 ((k200 t.1 1).1) 0 0 (t.1.1 4)).1).1 4) + 1), .ref 39] _ _
            refine l21 h14 hi_238_294 ms_4 fun S19 h20 => ?_
            refine l18 hi_238_297 ?_
            have e0 : (k238b113 y1 y2) t = (0, (kf ((k239 ((k200 t.1 1).1) 0 0 (t.1.1 4)).1) 4 ((((k239 ((k200 t.1 1).1) 0 0 (t.1.1 4)).1).1 4) + 1), 1, t.2.2)) := by unfold k238b113; rw [if_neg c1]; rw [if_pos c5]; rw [if_pos c9]; rw [if_neg c16]
            have e1 : ∀ m, kwh (k238b113 y1 y2) (m + 1) t = kwh (k238b113 y1 y2) m (kf ((k239 ((k200 t.1 1).1) 0 0 (t.1.1 4)).1) 4 ((((k239 ((k200 t.1 1).1) 0 0 (t.1.1 4)).1).1 4) + 1), 1, t.2.2) := fun m => by rw [kwh_go (by rw [e0]), e0]
            exact ih _ (some (.int (t.1.1 4))) (some (.int 0)) o7 (kf ((k239 ((k200 t.1 1).1) 0 0 (t.1.1 4)).1) 4 ((((k239 ((k200 t.1 1).1) 0 0 (t.1.1 4)).1).1 4) + 1), 1, t.2.2) h20 (fun m S1 p5 p6 p7 hm h1 => by have q := kx131 (m + 1) S1 p5 p6 p7 (by rw [e1]; exact hm) (by rw [e1]; exact h1); rw [e1] at q; exact q.less (Nat.le_succ N)) (fun m S1 p5 p6 p7 hm h1 => by have q := kx177 (m + 1) S1 p5 p6 p7 (by rw [e1]; exact hm) (by rw [e1]; exact h1); rw [e1] at q; exact q.less (Nat.le_succ N)) (fun m S1 p5 p6 p7 hm h1 => by have q := kx300 (m + 1) S1 p5 p6 p7 (by rw [e1]; exact hm) (by rw [e1]; exact h1); rw [e1] at q; exact q.less (Nat.le_succ N))
        · refine l13f hi_238_141 (decide_eq_false c9) ?_
          refine l2 (v := 39) hi_238_144 rfl ?_
          refine l7 hi_238_145 ?_
          refine l20 (v := .int (((k200 t.1 1).1).1 4)) h7 hi_238_146 rfl ?_
          refine l0 hi_238_149 ?_
          refine l10 hi_238_150 ?_
          show am_L _ _ _ _ _ [some (.ref 39), some (.int y1), some (.int y2), some (.int t.2.1), some (.int t.2.2), some (.int (t.1.1 4)), some (.int 0), o7] [.int ((((k200 t.1 1).1).1 4) + 1), .ref 39] _ _
          refine l21 h7 hi_238_151 ms_4 fun S21 h22 => ?_
          refine l2 (v := 39) hi_238_154 rfl ?_
          refine l20 (v := .int ((((k200 t.1 1).1).1 4) + 1)) h22 hi_238_155 rfl ?_
          refine l3 (ls' := [some (.ref 39), some (.int y1), some (.int y2), some (.int t.2.1), some (.int t.2.2), some (.int (t.1.1 4)), some (.int 0), some (.int ((((k200 t.1 1).1).1 4) + 1))]) hi_238_158 (Nat.le_of_ble_eq_true rfl) rfl ?_
          refine l2 (v := 39) hi_238_160 rfl ?_
          refine l0 hi_238_161 ?_
          refine l32 (as := [.ref 39, .int 1]) (la := [some (.ref 39), some (.int 1)]) (rest := []) hi_238_162 (am_hd0 (M := 238) (by decide) 162) rfl rfl rfl (fun N' d' _ => lt200 (N := N') (d := d') h22) ?_ (fun _ q => nomatch q.1)
          rintro v25 S23 ⟨ev25, h24⟩
          cases ev25
          show am_L _ _ _ _ _ [some (.ref 39), some (.int y1), some (.int y2), some (.int t.2.1), some (.int t.2.2), some (.int (t.1.1 4)), some (.int 0), some (.int ((((k200 t.1 1).1).1 4) + 1))] [.int ((k200 (kf ((k200 t.1 1).1) 4 ((((k200 t.1 1).1).1 4) + 1)) 1).2)] _ _
          by_cases c26 : ((k200 (kf ((k200 t.1 1).1) 4 ((((k200 t.1 1).1).1 4) + 1)) 1).2) = 0
          · refine l12t hi_238_165 (decide_eq_true c26) ?_
            have e0 : (k238b113 y1 y2) t = (2, ((k200 (kf ((k200 t.1 1).1) 4 ((((k200 t.1 1).1).1 4) + 1)) 1).1, t.2.1, t.2.2)) := by unfold k238b113; rw [if_neg c1]; rw [if_pos c5]; rw [if_neg c9]; rw [if_pos c26]
            have e1 : kwh (k238b113 y1 y2) 1 t = (2, ((k200 (kf ((k200 t.1 1).1) 4 ((((k200 t.1 1).1).1 4) + 1)) 1).1, t.2.1, t.2.2)) := by rw [kwh_out (by rw [e0]; exact Nat.succ_ne_zero _), e0]
            have q := kx177 1 _ (some (.int (t.1.1 4))) (some (.int 0)) (some (.int ((((k200 t.1 1).1).1 4) + 1))) (by rw [e1]) (by rw [e1]; exact h24)
            rw [e1] at q
            exact q.less (Nat.le_succ N)
          · refine l12f hi_238_165 (decide_eq_false c26) ?_
            refine l2 (v := 39) hi_238_168 rfl ?_
            refine l0 hi_238_169 ?_
            refine l32 (as := [.ref 39, .int 58]) (la := [some (.ref 39), some (.int 58)]) (rest := []) hi_238_171 (am_hd0 (M := 238) (by decide) 171) rfl rfl rfl (fun N' d' _ => lt200 (N := N') (d := d') h24) ?_ (fun _ q => nomatch q.1)
            rintro v29 S27 ⟨ev29, h28⟩
            cases ev29
            show am_L _ _ _ _ _ [some (.ref 39), some (.int y1), some (.int y2), some (.int t.2.1), some (.int t.2.2), some (.int (t.1.1 4)), some (.int 0), some (.int ((((k200 t.1 1).1).1 4) + 1))] [.int ((k200 ((k200 (kf ((k200 t.1 1).1) 4 ((((k200 t.1 1).1).1 4) + 1)) 1).1) 58).2)] _ _
            by_cases c30 : ((k200 ((k200 (kf ((k200 t.1 1).1) 4 ((((k200 t.1 1).1).1 4) + 1)) 1).1) 58).2) ≠ 0
            · refine l12t hi_238_174 (decide_eq_true c30) ?_
              refine l2 (v := 39) hi_238_178 rfl ?_
              refine l20 (v := .ref 41) h28 hi_238_179 rfl ?_
              refine l1 (v := (((k200 t.1 1).1).1 4) + 1) hi_238_182 rfl ?_
              refine l25 h28 ma_2 hi_238_184 fun g31 g32 => ?_
              show am_L _ _ _ _ _ [some (.ref 39), some (.int y1), some (.int y2), some (.int t.2.1), some (.int t.2.2), some (.int (t.1.1 4)), some (.int 0), some (.int ((((k200 t.1 1).1).1 4) + 1))] [.int (kr ((k200 ((k200 (kf ((k200 t.1 1).1) 4 ((((k200 t.1 1).1).1 4) + 1)) 1).1) 58).1) 2 ((((k200 t.1 1).1).1 4) + 1))] _ _
              refine l0 hi_238_185 ?_
              by_cases c33 : (kr ((k200 ((k200 (kf ((k200 t.1 1).1) 4 ((((k200 t.1 1).1).1 4) + 1)) 1).1) 58).1) 2 ((((k200 t.1 1).1).1 4) + 1)) ≠ (-2)
              · refine l13t hi_238_187 (decide_eq_true c33) ?_
                refine l2 (v := 39) hi_238_194 rfl ?_
                refine l20 (v := .ref 41) h28 hi_238_195 rfl ?_
                refine l1 (v := (((k200 t.1 1).1).1 4) + 1) hi_238_198 rfl ?_
                refine l25 h28 ma_2 hi_238_200 fun g34 g35 => ?_
                show am_L _ _ _ _ _ [some (.ref 39), some (.int y1), some (.int y2), some (.int t.2.1), some (.int t.2.2), some (.int (t.1.1 4)), some (.int 0), some (.int ((((k200 t.1 1).1).1 4) + 1))] [.int (kr ((k200 ((k200 (kf ((k200 t.1 1).1) 4 ((((k200 t.1 1).1).1 4) + 1)) 1).1) 58).1) 2 ((((k200 t.1 1).1).1 4) + 1))] _ _
                refine l0 hi_238_201 ?_
                by_cases c36 : (kr ((k200 ((k200 (kf ((k200 t.1 1).1) 4 ((((k200 t.1 1).1).1 4) + 1)) 1).1) 58).1) 2 ((((k200 t.1 1).1).1 4) + 1)) ≠ (-3)
                · refine l13t hi_238_203 (decide_eq_true c36) ?_
                  refine l0 hi_238_210 ?_
                  refine l3 (ls' := [some (.ref 39), some (.int y1), some (.int y2), some (.int t.2.1), some (.int t.2.2), some (.int (t.1.1 4)), some (.int 0), some (.int ((((k200 t.1 1).1).1 4) + 1))]) hi_238_211 (Nat.le_of_ble_eq_true rfl) rfl ?_
                  refine l1 (v := 0) hi_238_213 rfl ?_
                  refine l12t hi_238_215 (by decide) ?_
                  refine l2 (v := 39) hi_238_229 rfl ?_
                  refine l0 hi_238_230 ?_
                  refine l1 (v := (((k200 t.1 1).1).1 4) + 1) hi_238_232 rfl ?_
                  refine l32 (as := [.ref 39, .int 9, .int ((((k200 t.1 1).1).1 4) + 1)]) (la := [some (.ref 39), some (.int 9), some (.int ((((k200 t.1 1).1).1 4) + 1))]) (rest := []) hi_238_234 (am_hd0 (M := 238) (by decide) 234) rfl rfl rfl (fun N' d' _ => lt191 (N := N') (d := d') h28) ?_ (fun _ q => nomatch q.1)
                  rintro v39 S37 ⟨ev39, h38⟩
                  cases ev39
                  show am_L _ _ _ _ _ [some (.ref 39), some (.int y1), some (.int y2), some (.int t.2.1), some (.int t.2.2), some (.int (t.1.1 4)), some (.int 0), some (.int ((((k200 t.1 1).1).1 4) + 1))] [] _ _
                  refine l1 (v := t.2.2) hi_238_237 rfl ?_
                  by_cases c40 : t.2.2 ≠ 0
                  · refine l12t hi_238_239 (decide_eq_true c40) ?_
                    refine l0 hi_238_248 ?_
                    refine l18 hi_238_249 ?_
                    refine l3 (ls' := [some (.ref 39), some (.int y1), some (.int y2), some (.int t.2.1), some (.int 1), some (.int (t.1.1 4)), some (.int 0), some (.int ((((k200 t.1 1).1).1 4) + 1))]) hi_238_253 (Nat.le_of_ble_eq_true rfl) rfl ?_
                    refine l2 (v := 39) hi_238_255 rfl ?_
                    refine l1 (v := 0) hi_238_256 rfl ?_
                    refine l0 hi_238_258 ?_
                    refine l1 (v := t.1.1 4) hi_238_259 rfl ?_
                    refine l32 (as := [.ref 39, .int 0, .int 0, .int (t.1.1 4)]) (la := [some (.ref 39), some (.int 0), some (.int 0), some (.int (t.1.1 4))]) (rest := []) hi_238_261 (am_hd0 (M := 238) (by decide) 261) rfl rfl rfl (fun N' d' _ => lt239 (N := N') (d := d') h38) ?_ (fun _ q => nomatch q.1)
                    rintro v43 S41 ⟨ev43, h42⟩
                    cases ev43
                    show am_L _ _ _ _ _ [some (.ref 39), some (.int y1), some (.int y2), some (.int t.2.1), some (.int 1), some (.int (t.1.1 4)), some (.int 0), some (.int ((((k200 t.1 1).1).1 4) + 1))] [] _ _
                    refine l2 (v := 39) hi_238_264 rfl ?_
                    refine l32 (as := [.ref 39]) (la := [some (.ref 39)]) (rest := []) hi_238_265 (am_hd0 (M := 238) (by decide) 265) rfl rfl rfl (fun N' d' _ => lt183 (N := N') (d := d') h42) ?_ (fun _ q => nomatch q.1)
                    rintro v46 S44 ⟨ev46, h45⟩
                    cases ev46
                    show am_L _ _ _ _ _ [some (.ref 39), some (.int y1), some (.int y2), some (.int t.2.1), some (.int 1), some (.int (t.1.1 4)), some (.int 0), some (.int ((((k200 t.1 1).1).1 4) + 1))] [.int (k183 ((k239 ((k191 ((k200 ((k200 (kf ((k200 t.1 1).1) 4 ((((k200 t.1 1).1).1 4) + 1)) 1).1) 58).1) 9 ((((k200 t.1 1).1).1 4) + 1)).1) 0 0 (t.1.1 4)).1))] _ _
                    refine l0 hi_238_268 ?_
                    by_cases c47 : (k183 ((k239 ((k191 ((k200 ((k200 (kf ((k200 t.1 1).1) 4 ((((k200 t.1 1).1).1 4) + 1)) 1).1) 58).1) 9 ((((k200 t.1 1).1).1 4) + 1)).1) 0 0 (t.1.1 4)).1)) ≠ 69
                    · refine l13t hi_238_270 (decide_eq_true c47) ?_
                      refine l0 hi_238_277 ?_
                      refine l3 (ls' := [some (.ref 39), some (.int y1), some (.int y2), some (.int 0), some (.int 1), some (.int (t.1.1 4)), some (.int 0), some (.int ((((k200 t.1 1).1).1 4) + 1))]) hi_238_278 (Nat.le_of_ble_eq_true rfl) rfl ?_
                      refine l2 (v := 39) hi_238_279 rfl ?_
                      refine l7 hi_238_280 ?_
                      refine l20 (v := .int (((k239 ((k191 ((k200 ((k200 (kf ((k200 t.1 1).1) 4 ((((k200 t.1 1).1).1 4) + 1)) 1).1) 58).1) 9 ((((k200 t.1 1).1).1 4) + 1)).1) 0 0 (t.1.1 4)).1).1 4)) h45 hi_238_281 rfl ?_
                      refine l1 (v := 0) hi_238_284 rfl ?_
                      refine l12t hi_238_285 (by decide) ?_
                      refine l0 hi_238_292 ?_
                      refine l10 hi_238_293 ?_
                      show am_L _ _ _ _ _ [some (.ref 39), some (.int y1), some (.int y2), some (.int 0), some (.int 1), some (.int (t.1.1 4)), some (.int 0), some (.int ((((k200 t.1 1).1).1 4) + 1))] [.int ((((k239 ((k191 ((k200 ((k200 (kf ((k200 t.1 1).1) 4 ((((k200 t.1 1).1).1 4) + 1)) 1).1) 58).1) 9 ((((k200 t.1 1).1).1 4) + 1)).1) 0 0 (t.1.1 4)).1).1 4) + 0), .ref 39] _ _
                      refine l21 h45 hi_238_294 ms_4 fun S48 h49 => ?_
                      refine l18 hi_238_297 ?_
                      have e0 : (k238b113 y1 y2) t = (0, (kf ((k239 ((k191 ((k200 ((k200 (kf ((k200 t.1 1).1) 4 ((((k200 t.1 1).1).1 4) + 1)) 1).1) 58).1) 9 ((((k200 t.1 1).1).1 4) + 1)).1) 0 0 (t.1.1 4)).1) 4 ((((k239 ((k191 ((k200 ((k200 (kf ((k200 t.1 1).1) 4 ((((k200 t.1 1).1).1 4) + 1)) 1).1) 58).1) 9 ((((k200 t.1 1).1).1 4) + 1)).1) 0 0 (t.1.1 4)).1).1 4) + 0), 0, 1)) := by unfold k238b113; rw [if_neg c1]; rw [if_pos c5]; rw [if_neg c9]; rw [if_neg c26]; rw [if_pos c30]; rw [if_pos c33]; rw [if_pos c36]; rw [if_pos c40]; rw [if_pos c47]
                      have e1 : ∀ m, kwh (k238b113 y1 y2) (m + 1) t = kwh (k238b113 y1 y2) m (kf ((k239 ((k191 ((k200 ((k200 (kf ((k200 t.1 1).1) 4 ((((k200 t.1 1).1).1 4) + 1)) 1).1) 58).1) 9 ((((k200 t.1 1).1).1 4) + 1)).1) 0 0 (t.1.1 4)).1) 4 ((((k239 ((k191 ((k200 ((k200 (kf ((k200 t.1 1).1) 4 ((((k200 t.1 1).1).1 4) + 1)) 1).1) 58).1) 9 ((((k200 t.1 1).1).1 4) + 1)).1) 0 0 (t.1.1 4)).1).1 4) + 0), 0, 1) := fun m => by rw [kwh_go (by rw [e0]), e0]
                      exact ih _ (some (.int (t.1.1 4))) (some (.int 0)) (some (.int ((((k200 t.1 1).1).1 4) + 1))) (kf ((k239 ((k191 ((k200 ((k200 (kf ((k200 t.1 1).1) 4 ((((k200 t.1 1).1).1 4) + 1)) 1).1) 58).1) 9 ((((k200 t.1 1).1).1 4) + 1)).1) 0 0 (t.1.1 4)).1) 4 ((((k239 ((k191 ((k200 ((k200 (kf ((k200 t.1 1).1) 4 ((((k200 t.1 1).1).1 4) + 1)) 1).1) 58).1) 9 ((((k200 t.1 1).1).1 4) + 1)).1) 0 0 (t.1.1 4)).1).1 4) + 0), 0, 1) h49 (fun m S1 p5 p6 p7 hm h1 => by have q := kx131 (m + 1) S1 p5 p6 p7 (by rw [e1]; exact hm) (by rw [e1]; exact h1); rw [e1] at q; exact q.less (Nat.le_succ N)) (fun m S1 p5 p6 p7 hm h1 => by have q := kx177 (m + 1) S1 p5 p6 p7 (by rw [e1]; exact hm) (by rw [e1]; exact h1); rw [e1] at q; exact q.less (Nat.le_succ N)) (fun m S1 p5 p6 p7 hm h1 => by have q := kx300 (m + 1) S1 p5 p6 p7 (by rw [e1]; exact hm) (by rw [e1]; exact h1); rw [e1] at q; exact q.less (Nat.le_succ N))
                    · refine l13f hi_238_270 (decide_eq_false c47) ?_
                      refine l0 hi_238_273 ?_
                      refine l18 hi_238_274 ?_
                      refine l3 (ls' := [some (.ref 39), some (.int y1), some (.int y2), some (.int 1), some (.int 1), some (.int (t.1.1 4)), some (.int 0), some (.int ((((k200 t.1 1).1).1 4) + 1))]) hi_238_278 (Nat.le_of_ble_eq_true rfl) rfl ?_
                      refine l2 (v := 39) hi_238_279 rfl ?_
                      refine l7 hi_238_280 ?_
                      refine l20 (v := .int (((k239 ((k191 ((k200 ((k200 (kf ((k200 t.1 1).1) 4 ((((k200 t.1 1).1).1 4) + 1)) 1).1) 58).1) 9 ((((k200 t.1 1).1).1 4) + 1)).1) 0 0 (t.1.1 4)).1).1 4)) h45 hi_238_281 rfl ?_
                      refine l1 (v := 1) hi_238_284 rfl ?_
                      refine l12f hi_238_285 (by decide) ?_
                      refine l0 hi_238_288 ?_
                      refine l18 hi_238_289 ?_
                      refine l10 hi_238_293 ?_
                      show am_L _ _ _ _ _ [some (.ref 39), some (.int y1), some (.int y2), some (.int 1), some (.int 1), some (.int (t.1.1 4)), some (.int 0), some (.int ((((k200 t.1 1).1).1 4) + 1))] [.int ((((k239 ((k191 ((k200 ((k200 (kf ((k200 t.1 1).1) 4 ((((k200 t.1 1).1).1 4) + 1)) 1).1) 58).1) 9 ((((k200 t.1 1).1).1 4) + 1)).1) 0 0 (t.1.1 4)).1).1 4) + 1), .ref 39] _ _
                      refine l21 h45 hi_238_294 ms_4 fun S50 h51 => ?_
                      refine l18 hi_238_297 ?_
                      have e0 : (k238b113 y1 y2) t = (0, (kf ((k239 ((k191 ((k200 ((k200 (kf ((k200 t.1 1).1) 4 ((((k200 t.1 1).1).1 4) + 1)) 1).1) 58).1) 9 ((((k200 t.1 1).1).1 4) + 1)).1) 0 0 (t.1.1 4)).1) 4 ((((k239 ((k191 ((k200 ((k200 (kf ((k200 t.1 1).1) 4 ((((k200 t.1 1).1).1 4) + 1)) 1).1) 58).1) 9 ((((k200 t.1 1).1).1 4) + 1)).1) 0 0 (t.1.1 4)).1).1 4) + 1), 1, 1)) := by unfold k238b113; rw [if_neg c1]; rw [if_pos c5]; rw [if_neg c9]; rw [if_neg c26]; rw [if_pos c30]; rw [if_pos c33]; rw [if_pos c36]; rw [if_pos c40]; rw [if_neg c47]
                      have e1 : ∀ m, kwh (k238b113 y1 y2) (m + 1) t = kwh (k238b113 y1 y2) m (kf ((k239 ((k191 ((k200 ((k200 (kf ((k200 t.1 1).1) 4 ((((k200 t.1 1).1).1 4) + 1)) 1).1) 58).1) 9 ((((k200 t.1 1).1).1 4) + 1)).1) 0 0 (t.1.1 4)).1) 4 ((((k239 ((k191 ((k200 ((k200 (kf ((k200 t.1 1).1) 4 ((((k200 t.1 1).1).1 4) + 1)) 1).1) 58).1) 9 ((((k200 t.1 1).1).1 4) + 1)).1) 0 0 (t.1.1 4)).1).1 4) + 1), 1, 1) := fun m => by rw [kwh_go (by rw [e0]), e0]
                      exact ih _ (some (.int (t.1.1 4))) (some (.int 0)) (some (.int ((((k200 t.1 1).1).1 4) + 1))) (kf ((k239 ((k191 ((k200 ((k200 (kf ((k200 t.1 1).1) 4 ((((k200 t.1 1).1).1 4) + 1)) 1).1) 58).1) 9 ((((k200 t.1 1).1).1 4) + 1)).1) 0 0 (t.1.1 4)).1) 4 ((((k239 ((k191 ((k200 ((k200 (kf ((k200 t.1 1).1) 4 ((((k200 t.1 1).1).1 4) + 1)) 1).1) 58).1) 9 ((((k200 t.1 1).1).1 4) + 1)).1) 0 0 (t.1.1 4)).1).1 4) + 1), 1, 1) h51 (fun m S1 p5 p6 p7 hm h1 => by have q := kx131 (m + 1) S1 p5 p6 p7 (by rw [e1]; exact hm) (by rw [e1]; exact h1); rw [e1] at q; exact q.less (Nat.le_succ N)) (fun m S1 p5 p6 p7 hm h1 => by have q := kx177 (m + 1) S1 p5 p6 p7 (by rw [e1]; exact hm) (by rw [e1]; exact h1); rw [e1] at q; exact q.less (Nat.le_succ N)) (fun m S1 p5 p6 p7 hm h1 => by have q := kx300 (m + 1) S1 p5 p6 p7 (by rw [e1]; exact hm) (by rw [e1]; exact h1); rw [e1] at q; exact q.less (Nat.le_succ N))
                  · refine l12f hi_238_239 (decide_eq_false c40) ?_
                    refine l1 (v := 0) hi_238_242 rfl ?_
                    refine l0 hi_238_244 ?_
                    refine l13t hi_238_245 (by decide) ?_
                    refine l0 hi_238_252 ?_
                    refine l3 (ls' := [some (.ref 39), some (.int y1), some (.int y2), some (.int t.2.1), some (.int 0), some (.int (t.1.1 4)), some (.int 0), some (.int ((((k200 t.1 1).1).1 4) + 1))]) hi_238_253 (Nat.le_of_ble_eq_true rfl) rfl ?_
                    refine l2 (v := 39) hi_238_255 rfl ?_
                    refine l1 (v := 0) hi_238_256 rfl ?_
                    refine l0 hi_238_258 ?_
                    refine l1 (v := t.1.1 4) hi_238_259 rfl ?_
                    refine l32 (as := [.ref 39, .int 0, .int 0, .int (t.1.1 4)]) (la := [some (.ref 39), some (.int 0), some (.int 0), some (.int (t.1.1 4))]) (rest := []) hi_238_261 (am_hd0 (M := 238) (by decide) 261) rfl rfl rfl (fun N' d' _ => lt239 (N := N') (d := d') h38) ?_ (fun _ q => nomatch q.1)
                    rintro v54 S52 ⟨ev54, h53⟩
                    cases ev54
                    show am_L _ _ _ _ _ [some (.ref 39), some (.int y1), some (.int y2), some (.int t.2.1), some (.int 0), some (.int (t.1.1 4)), some (.int 0), some (.int ((((k200 t.1 1).1).1 4) + 1))] [] _ _
                    refine l2 (v := 39) hi_238_264 rfl ?_
                    refine l32 (as := [.ref 39]) (la := [some (.ref 39)]) (rest := []) hi_238_265 (am_hd0 (M := 238) (by decide) 265) rfl rfl rfl (fun N' d' _ => lt183 (N := N') (d := d') h53) ?_ (fun _ q => nomatch q.1)
                    rintro v57 S55 ⟨ev57, h56⟩
                    cases ev57
                    show am_L _ _ _ _ _ [some (.ref 39), some (.int y1), some (.int y2), some (.int t.2.1), some (.int 0), some (.int (t.1.1 4)), some (.int 0), some (.int ((((k200 t.1 1).1).1 4) + 1))] [.int (k183 ((k239 ((k191 ((k200 ((k200 (kf ((k200 t.1 1).1) 4 ((((k200 t.1 1).1).1 4) + 1)) 1).1) 58).1) 9 ((((k200 t.1 1).1).1 4) + 1)).1) 0 0 (t.1.1 4)).1))] _ _
                    refine l0 hi_238_268 ?_
                    by_cases c58 : (k183 ((k239 ((k191 ((k200 ((k200 (kf ((k200 t.1 1).1) 4 ((((k200 t.1 1).1).1 4) + 1)) 1).1) 58).1) 9 ((((k200 t.1 1).1).1 4) + 1)).1) 0 0 (t.1.1 4)).1)) ≠ 69
                    · refine l13t hi_238_270 (decide_eq_true c58) ?_
                      refine l0 hi_238_277 ?_
                      refine l3 (ls' := [some (.ref 39), some (.int y1), some (.int y2), some (.int 0), some (.int 0), some (.int (t.1.1 4)), some (.int 0), some (.int ((((k200 t.1 1).1).1 4) + 1))]) hi_238_278 (Nat.le_of_ble_eq_true rfl) rfl ?_
                      refine l2 (v := 39) hi_238_279 rfl ?_
                      refine l7 hi_238_280 ?_
                      refine l20 (v := .int (((k239 ((k191 ((k200 ((k200 (kf ((k200 t.1 1).1) 4 ((((k200 t.1 1).1).1 4) + 1)) 1).1) 58).1) 9 ((((k200 t.1 1).1).1 4) + 1)).1) 0 0 (t.1.1 4)).1).1 4)) h56 hi_238_281 rfl ?_
                      refine l1 (v := 0) hi_238_284 rfl ?_
                      refine l12t hi_238_285 (by decide) ?_
                      refine l0 hi_238_292 ?_
                      refine l10 hi_238_293 ?_
                      show am_L _ _ _ _ _ [some (.ref 39), some (.int y1), some (.int y2), some (.int 0), some (.int 0), some (.int (t.1.1 4)), some (.int 0), some (.int ((((k200 t.1 1).1).1 4) + 1))] [.int ((((k239 ((k191 ((k200 ((k200 (kf ((k200 t.1 1).1) 4 ((((k200 t.1 1).1).1 4) + 1)) 1).1) 58).1) 9 ((((k200 t.1 1).1).1 4) + 1)).1) 0 0 (t.1.1 4)).1).1 4) + 0), .ref 39] _ _
                      refine l21 h56 hi_238_294 ms_4 fun S59 h60 => ?_
                      refine l18 hi_238_297 ?_
                      have e0 : (k238b113 y1 y2) t = (0, (kf ((k239 ((k191 ((k200 ((k200 (kf ((k200 t.1 1).1) 4 ((((k200 t.1 1).1).1 4) + 1)) 1).1) 58).1) 9 ((((k200 t.1 1).1).1 4) + 1)).1) 0 0 (t.1.1 4)).1) 4 ((((k239 ((k191 ((k200 ((k200 (kf ((k200 t.1 1).1) 4 ((((k200 t.1 1).1).1 4) + 1)) 1).1) 58).1) 9 ((((k200 t.1 1).1).1 4) + 1)).1) 0 0 (t.1.1 4)).1).1 4) + 0), 0, 0)) := by unfold k238b113; rw [if_neg c1]; rw [if_pos c5]; rw [if_neg c9]; rw [if_neg c26]; rw [if_pos c30]; rw [if_pos c33]; rw [if_pos c36]; rw [if_neg c40]; rw [if_pos c58]
                      have e1 : ∀ m, kwh (k238b113 y1 y2) (m + 1) t = kwh (k238b113 y1 y2) m (kf ((k239 ((k191 ((k200 ((k200 (kf ((k200 t.1 1).1) 4 ((((k200 t.1 1).1).1 4) + 1)) 1).1) 58).1) 9 ((((k200 t.1 1).1).1 4) + 1)).1) 0 0 (t.1.1 4)).1) 4 ((((k239 ((k191 ((k200 ((k200 (kf ((k200 t.1 1).1) 4 ((((k200 t.1 1).1).1 4) + 1)) 1).1) 58).1) 9 ((((k200 t.1 1).1).1 4) + 1)).1) 0 0 (t.1.1 4)).1).1 4) + 0), 0, 0) := fun m => by rw [kwh_go (by rw [e0]), e0]
                      exact ih _ (some (.int (t.1.1 4))) (some (.int 0)) (some (.int ((((k200 t.1 1).1).1 4) + 1))) (kf ((k239 ((k191 ((k200 ((k200 (kf ((k200 t.1 1).1) 4 ((((k200 t.1 1).1).1 4) + 1)) 1).1) 58).1) 9 ((((k200 t.1 1).1).1 4) + 1)).1) 0 0 (t.1.1 4)).1) 4 ((((k239 ((k191 ((k200 ((k200 (kf ((k200 t.1 1).1) 4 ((((k200 t.1 1).1).1 4) + 1)) 1).1) 58).1) 9 ((((k200 t.1 1).1).1 4) + 1)).1) 0 0 (t.1.1 4)).1).1 4) + 0), 0, 0) h60 (fun m S1 p5 p6 p7 hm h1 => by have q := kx131 (m + 1) S1 p5 p6 p7 (by rw [e1]; exact hm) (by rw [e1]; exact h1); rw [e1] at q; exact q.less (Nat.le_succ N)) (fun m S1 p5 p6 p7 hm h1 => by have q := kx177 (m + 1) S1 p5 p6 p7 (by rw [e1]; exact hm) (by rw [e1]; exact h1); rw [e1] at q; exact q.less (Nat.le_succ N)) (fun m S1 p5 p6 p7 hm h1 => by have q := kx300 (m + 1) S1 p5 p6 p7 (by rw [e1]; exact hm) (by rw [e1]; exact h1); rw [e1] at q; exact q.less (Nat.le_succ N))
                    · refine l13f hi_238_270 (decide_eq_false c58) ?_
                      refine l0 hi_238_273 ?_
                      refine l18 hi_238_274 ?_
                      refine l3 (ls' := [some (.ref 39), some (.int y1), some (.int y2), some (.int 1), some (.int 0), some (.int (t.1.1 4)), some (.int 0), some (.int ((((k200 t.1 1).1).1 4) + 1))]) hi_238_278 (Nat.le_of_ble_eq_true rfl) rfl ?_
                      refine l2 (v := 39) hi_238_279 rfl ?_
                      refine l7 hi_238_280 ?_
                      refine l20 (v := .int (((k239 ((k191 ((k200 ((k200 (kf ((k200 t.1 1).1) 4 ((((k200 t.1 1).1).1 4) + 1)) 1).1) 58).1) 9 ((((k200 t.1 1).1).1 4) + 1)).1) 0 0 (t.1.1 4)).1).1 4)) h56 hi_238_281 rfl ?_
                      refine l1 (v := 1) hi_238_284 rfl ?_
                      refine l12f hi_238_285 (by decide) ?_
                      refine l0 hi_238_288 ?_
                      refine l18 hi_238_289 ?_
                      refine l10 hi_238_293 ?_
                      show am_L _ _ _ _ _ [some (.ref 39), some (.int y1), some (.int y2), some (.int 1), some (.int 0), some (.int (t.1.1 4)), some (.int 0), some (.int ((((k200 t.1 1).1).1 4) + 1))] [.int ((((k239 ((k191 ((k200 ((k200 (kf ((k200 t.1 1).1) 4 ((((k200 t.1 1).1).1 4) + 1)) 1).1) 58).1) 9 ((((k200 t.1 1).1).1 4) + 1)).1) 0 0 (t.1.1 4)).1).1 4) + 1), .ref 39] _ _
                      refine l21 h56 hi_238_294 ms_4 fun S61 h62 => ?_
                      refine l18 hi_238_297 ?_
                      have e0 : (k238b113 y1 y2) t = (0, (kf ((k239 ((k191 ((k200 ((k200 (kf ((k200 t.1 1).1) 4 ((((k200 t.1 1).1).1 4) + 1)) 1).1) 58).1) 9 ((((k200 t.1 1).1).1 4) + 1)).1) 0 0 (t.1.1 4)).1) 4 ((((k239 ((k191 ((k200 ((k200 (kf ((k200 t.1 1).1) 4 ((((k200 t.1 1).1).1 4) + 1)) 1).1) 58).1) 9 ((((k200 t.1 1).1).1 4) + 1)).1) 0 0 (t.1.1 4)).1).1 4) + 1), 1, 0)) := by unfold k238b113; rw [if_neg c1]; rw [if_pos c5]; rw [if_neg c9]; rw [if_neg c26]; rw [if_pos c30]; rw [if_pos c33]; rw [if_pos c36]; rw [if_neg c40]; rw [if_neg c58]
                      have e1 : ∀ m, kwh (k238b113 y1 y2) (m + 1) t = kwh (k238b113 y1 y2) m (kf ((k239 ((k191 ((k200 ((k200 (kf ((k200 t.1 1).1) 4 ((((k200 t.1 1).1).1 4) + 1)) 1).1) 58).1) 9 ((((k200 t.1 1).1).1 4) + 1)).1) 0 0 (t.1.1 4)).1) 4 ((((k239 ((k191 ((k200 ((k200 (kf ((k200 t.1 1).1) 4 ((((k200 t.1 1).1).1 4) + 1)) 1).1) 58).1) 9 ((((k200 t.1 1).1).1 4) + 1)).1) 0 0 (t.1.1 4)).1).1 4) + 1), 1, 0) := fun m => by rw [kwh_go (by rw [e0]), e0]
                      exact ih _ (some (.int (t.1.1 4))) (some (.int 0)) (some (.int ((((k200 t.1 1).1).1 4) + 1))) (kf ((k239 ((k191 ((k200 ((k200 (kf ((k200 t.1 1).1) 4 ((((k200 t.1 1).1).1 4) + 1)) 1).1) 58).1) 9 ((((k200 t.1 1).1).1 4) + 1)).1) 0 0 (t.1.1 4)).1) 4 ((((k239 ((k191 ((k200 ((k200 (kf ((k200 t.1 1).1) 4 ((((k200 t.1 1).1).1 4) + 1)) 1).1) 58).1) 9 ((((k200 t.1 1).1).1 4) + 1)).1) 0 0 (t.1.1 4)).1).1 4) + 1), 1, 0) h62 (fun m S1 p5 p6 p7 hm h1 => by have q := kx131 (m + 1) S1 p5 p6 p7 (by rw [e1]; exact hm) (by rw [e1]; exact h1); rw [e1] at q; exact q.less (Nat.le_succ N)) (fun m S1 p5 p6 p7 hm h1 => by have q := kx177 (m + 1) S1 p5 p6 p7 (by rw [e1]; exact hm) (by rw [e1]; exact h1); rw [e1] at q; exact q.less (Nat.le_succ N)) (fun m S1 p5 p6 p7 hm h1 => by have q := kx300 (m + 1) S1 p5 p6 p7 (by rw [e1]; exact hm) (by rw [e1]; exact h1); rw [e1] at q; exact q.less (Nat.le_succ N))
                · refine l13f hi_238_203 (decide_eq_false c36) ?_
                  refine l0 hi_238_206 ?_
                  refine l18 hi_238_207 ?_
                  refine l3 (ls' := [some (.ref 39), some (.int y1), some (.int y2), some (.int t.2.1), some (.int t.2.2), some (.int (t.1.1 4)), some (.int 2), some (.int ((((k200 t.1 1).1).1 4) + 1))]) hi_238_211 (Nat.le_of_ble_eq_true rfl) rfl ?_
                  refine l1 (v := 2) hi_238_213 rfl ?_
                  refine l12f hi_238_215 (by decide) ?_
                  refine l1 (v := 2) hi_238_218 rfl ?_
                  refine l0 hi_238_220 ?_
                  refine l13f hi_238_221 (by decide) ?_
                  refine l1 (v := t.2.2) hi_238_224 rfl ?_
                  by_cases c63 : t.2.2 = 0
                  · refine l12t hi_238_226 (decide_eq_true c63) ?_
                    refine l1 (v := t.2.2) hi_238_237 rfl ?_
                    by_cases c64 : t.2.2 ≠ 0
                    · refine l12t hi_238_239 (decide_eq_true c64) ?_
                      refine l0 hi_238_248 ?_
                      refine l18 hi_238_249 ?_
                      refine l3 (ls' := [some (.ref 39), some (.int y1), some (.int y2), some (.int t.2.1), some (.int 1), some (.int (t.1.1 4)), some (.int 2), some (.int ((((k200 t.1 1).1).1 4) + 1))]) hi_238_253 (Nat.le_of_ble_eq_true rfl) rfl ?_
                      refine l2 (v := 39) hi_238_255 rfl ?_
                      refine l1 (v := 2) hi_238_256 rfl ?_
                      refine l0 hi_238_258 ?_
                      refine l1 (v := t.1.1 4) hi_238_259 rfl ?_
                      refine l32 (as := [.ref 39, .int 2, .int 0, .int (t.1.1 4)]) (la := [some (.ref 39), some (.int 2), some (.int 0), some (.int (t.1.1 4))]) (rest := []) hi_238_261 (am_hd0 (M := 238) (by decide) 261) rfl rfl rfl (fun N' d' _ => lt239 (N := N') (d := d') h28) ?_ (fun _ q => nomatch q.1)
                      rintro v67 S65 ⟨ev67, h66⟩
                      cases ev67
                      show am_L _ _ _ _ _ [some (.ref 39), some (.int y1), some (.int y2), some (.int t.2.1), some (.int 1), some (.int (t.1.1 4)), some (.int 2), some (.int ((((k200 t.1 1).1).1 4) + 1))] [] _ _
                      refine l2 (v := 39) hi_238_264 rfl ?_
                      refine l32 (as := [.ref 39]) (la := [some (.ref 39)]) (rest := []) hi_238_265 (am_hd0 (M := 238) (by decide) 265) rfl rfl rfl (fun N' d' _ => lt183 (N := N') (d := d') h66) ?_ (fun _ q => nomatch q.1)
                      rintro v70 S68 ⟨ev70, h69⟩
                      cases ev70
                      show am_L _ _ _ _ _ [some (.ref 39), some (.int y1), some (.int y2), some (.int t.2.1), some (.int 1), some (.int (t.1.1 4)), some (.int 2), some (.int ((((k200 t.1 1).1).1 4) + 1))] [.int (k183 ((k239 ((k200 ((k200 (kf ((k200 t.1 1).1) 4 ((((k200 t.1 1).1).1 4) + 1)) 1).1) 58).1) 2 0 (t.1.1 4)).1))] _ _
                      refine l0 hi_238_268 ?_
                      by_cases c71 : (k183 ((k239 ((k200 ((k200 (kf ((k200 t.1 1).1) 4 ((((k200 t.1 1).1).1 4) + 1)) 1).1) 58).1) 2 0 (t.1.1 4)).1)) ≠ 69
                      · refine l13t hi_238_270 (decide_eq_true c71) ?_
                        refine l0 hi_238_277 ?_
                        refine l3 (ls' := [some (.ref 39), some (.int y1), some (.int y2), some (.int 0), some (.int 1), some (.int (t.1.1 4)), some (.int 2), some (.int ((((k200 t.1 1).1).1 4) + 1))]) hi_238_278 (Nat.le_of_ble_eq_true rfl) rfl ?_
                        refine l2 (v := 39) hi_238_279 rfl ?_
                        refine l7 hi_238_280 ?_
                        refine l20 (v := .int (((k239 ((k200 ((k200 (kf ((k200 t.1 1).1) 4 ((((k200 t.1 1).1).1 4) + 1)) 1).1) 58).1) 2 0 (t.1.1 4)).1).1 4)) h69 hi_238_281 rfl ?_
                        refine l1 (v := 0) hi_238_284 rfl ?_
                        refine l12t hi_238_285 (by decide) ?_
                        refine l0 hi_238_292 ?_
                        refine l10 hi_238_293 ?_
                        show am_L _ _ _ _ _ [some (.ref 39), some (.int y1), some (.int y2), some (.int 0), some (.int 1), some (.int (t.1.1 4)), some (.int 2), some (.int ((((k200 t.1 1).1).1 4) + 1))] [.int ((((k239 ((k200 ((k200 (kf ((k200 t.1 1).1) 4 ((((k200 t.1 1).1).1 4) + 1)) 1).1) 58).1) 2 0 (t.1.1 4)).1).1 4) + 0), .ref 39] _ _
                        refine l21 h69 hi_238_294 ms_4 fun S72 h73 => ?_
                        refine l18 hi_238_297 ?_
                        have e0 : (k238b113 y1 y2) t = (0, (kf ((k239 ((k200 ((k200 (kf ((k200 t.1 1).1) 4 ((((k200 t.1 1).1).1 4) + 1)) 1).1) 58).1) 2 0 (t.1.1 4)).1) 4 ((((k239 ((k200 ((k200 (kf ((k200 t.1 1).1) 4 ((((k200 t.1 1).1).1 4) + 1)) 1).1) 58).1) 2 0 (t.1.1 4)).1).1 4) + 0), 0, 1)) := by unfold k238b113; rw [if_neg c1]; rw [if_pos c5]; rw [if_neg c9]; rw [if_neg c26]; rw [if_pos c30]; rw [if_pos c33]; rw [if_neg c36]; rw [if_pos c63]; rw [if_pos c64]; rw [if_pos c71]
                        have e1 : ∀ m, kwh (k238b113 y1 y2) (m + 1) t = kwh (k238b113 y1 y2) m (kf ((k239 ((k200 ((k200 (kf ((k200 t.1 1).1) 4 ((((k200 t.1 1).1).1 4) + 1)) 1).1) 58).1) 2 0 (t.1.1 4)).1) 4 ((((k239 ((k200 ((k200 (kf ((k200 t.1 1).1) 4 ((((k200 t.1 1).1).1 4) + 1)) 1).1) 58).1) 2 0 (t.1.1 4)).1).1 4) + 0), 0, 1) := fun m => by rw [kwh_go (by rw [e0]), e0]
                        exact ih _ (some (.int (t.1.1 4))) (some (.int 2)) (some (.int ((((k200 t.1 1).1).1 4) + 1))) (kf ((k239 ((k200 ((k200 (kf ((k200 t.1 1).1) 4 ((((k200 t.1 1).1).1 4) + 1)) 1).1) 58).1) 2 0 (t.1.1 4)).1) 4 ((((k239 ((k200 ((k200 (kf ((k200 t.1 1).1) 4 ((((k200 t.1 1).1).1 4) + 1)) 1).1) 58).1) 2 0 (t.1.1 4)).1).1 4) + 0), 0, 1) h73 (fun m S1 p5 p6 p7 hm h1 => by have q := kx131 (m + 1) S1 p5 p6 p7 (by rw [e1]; exact hm) (by rw [e1]; exact h1); rw [e1] at q; exact q.less (Nat.le_succ N)) (fun m S1 p5 p6 p7 hm h1 => by have q := kx177 (m + 1) S1 p5 p6 p7 (by rw [e1]; exact hm) (by rw [e1]; exact h1); rw [e1] at q; exact q.less (Nat.le_succ N)) (fun m S1 p5 p6 p7 hm h1 => by have q := kx300 (m + 1) S1 p5 p6 p7 (by rw [e1]; exact hm) (by rw [e1]; exact h1); rw [e1] at q; exact q.less (Nat.le_succ N))
                      · refine l13f hi_238_270 (decide_eq_false c71) ?_
                        refine l0 hi_238_273 ?_
                        refine l18 hi_238_274 ?_
                        refine l3 (ls' := [some (.ref 39), some (.int y1), some (.int y2), some (.int 1), some (.int 1), some (.int (t.1.1 4)), some (.int 2), some (.int ((((k200 t.1 1).1).1 4) + 1))]) hi_238_278 (Nat.le_of_ble_eq_true rfl) rfl ?_
                        refine l2 (v := 39) hi_238_279 rfl ?_
                        refine l7 hi_238_280 ?_
                        refine l20 (v := .int (((k239 ((k200 ((k200 (kf ((k200 t.1 1).1) 4 ((((k200 t.1 1).1).1 4) + 1)) 1).1) 58).1) 2 0 (t.1.1 4)).1).1 4)) h69 hi_238_281 rfl ?_
                        refine l1 (v := 1) hi_238_284 rfl ?_
                        refine l12f hi_238_285 (by decide) ?_
                        refine l0 hi_238_288 ?_
                        refine l18 hi_238_289 ?_
                        refine l10 hi_238_293 ?_
                        show am_L _ _ _ _ _ [some (.ref 39), some (.int y1), some (.int y2), some (.int 1), some (.int 1), some (.int (t.1.1 4)), some (.int 2), some (.int ((((k200 t.1 1).1).1 4) + 1))] [.int ((((k239 ((k200 ((k200 (kf ((k200 t.1 1).1) 4 ((((k200 t.1 1).1).1 4) + 1)) 1).1) 58).1) 2 0 (t.1.1 4)).1).1 4) + 1), .ref 39] _ _
                        refine l21 h69 hi_238_294 ms_4 fun S74 h75 => ?_
                        refine l18 hi_238_297 ?_
                        have e0 : (k238b113 y1 y2) t = (0, (kf ((k239 ((k200 ((k200 (kf ((k200 t.1 1).1) 4 ((((k200 t.1 1).1).1 4) + 1)) 1).1) 58).1) 2 0 (t.1.1 4)).1) 4 ((((k239 ((k200 ((k200 (kf ((k200 t.1 1).1) 4 ((((k200 t.1 1).1).1 4) + 1)) 1).1) 58).1) 2 0 (t.1.1 4)).1).1 4) + 1), 1, 1)) := by unfold k238b113; rw [if_neg c1]; rw [if_pos c5]; rw [if_neg c9]; rw [if_neg c26]; rw [if_pos c30]; rw [if_pos c33]; rw [if_neg c36]; rw [if_pos c63]; rw [if_pos c64]; rw [if_neg c71]
                        have e1 : ∀ m, kwh (k238b113 y1 y2) (m + 1) t = kwh (k238b113 y1 y2) m (kf ((k239 ((k200 ((k200 (kf ((k200 t.1 1).1) 4 ((((k200 t.1 1).1).1 4) + 1)) 1).1) 58).1) 2 0 (t.1.1 4)).1) 4 ((((k239 ((k200 ((k200 (kf ((k200 t.1 1).1) 4 ((((k200 t.1 1).1).1 4) + 1)) 1).1) 58).1) 2 0 (t.1.1 4)).1).1 4) + 1), 1, 1) := fun m => by rw [kwh_go (by rw [e0]), e0]
                        exact ih _ (some (.int (t.1.1 4))) (some (.int 2)) (some (.int ((((k200 t.1 1).1).1 4) + 1))) (kf ((k239 ((k200 ((k200 (kf ((k200 t.1 1).1) 4 ((((k200 t.1 1).1).1 4) + 1)) 1).1) 58).1) 2 0 (t.1.1 4)).1) 4 ((((k239 ((k200 ((k200 (kf ((k200 t.1 1).1) 4 ((((k200 t.1 1).1).1 4) + 1)) 1).1) 58).1) 2 0 (t.1.1 4)).1).1 4) + 1), 1, 1) h75 (fun m S1 p5 p6 p7 hm h1 => by have q := kx131 (m + 1) S1 p5 p6 p7 (by rw [e1]; exact hm) (by rw [e1]; exact h1); rw [e1] at q; exact q.less (Nat.le_succ N)) (fun m S1 p5 p6 p7 hm h1 => by have q := kx177 (m + 1) S1 p5 p6 p7 (by rw [e1]; exact hm) (by rw [e1]; exact h1); rw [e1] at q; exact q.less (Nat.le_succ N)) (fun m S1 p5 p6 p7 hm h1 => by have q := kx300 (m + 1) S1 p5 p6 p7 (by rw [e1]; exact hm) (by rw [e1]; exact h1); rw [e1] at q; exact q.less (Nat.le_succ N))
                    · refine l12f hi_238_239 (decide_eq_false c64) ?_
                      refine l1 (v := 2) hi_238_242 rfl ?_
                      refine l0 hi_238_244 ?_
                      refine l13f hi_238_245 (by decide) ?_
                      refine l0 hi_238_248 ?_
                      refine l18 hi_238_249 ?_
                      refine l3 (ls' := [some (.ref 39), some (.int y1), some (.int y2), some (.int t.2.1), some (.int 1), some (.int (t.1.1 4)), some (.int 2), some (.int ((((k200 t.1 1).1).1 4) + 1))]) hi_238_253 (Nat.le_of_ble_eq_true rfl) rfl ?_
                      refine l2 (v := 39) hi_238_255 rfl ?_
                      refine l1 (v := 2) hi_238_256 rfl ?_
                      refine l0 hi_238_258 ?_
                      refine l1 (v := t.1.1 4) hi_238_259 rfl ?_
                      refine l32 (as := [.ref 39, .int 2, .int 0, .int (t.1.1 4)]) (la := [some (.ref 39), some (.int 2), some (.int 0), some (.int (t.1.1 4))]) (rest := []) hi_238_261 (am_hd0 (M := 238) (by decide) 261) rfl rfl rfl (fun N' d' _ => lt239 (N := N') (d := d') h28) ?_ (fun _ q => nomatch q.1)
                      rintro v78 S76 ⟨ev78, h77⟩
                      cases ev78
                      show am_L _ _ _ _ _ [some (.ref 39), some (.int y1), some (.int y2), some (.int t.2.1), some (.int 1), some (.int (t.1.1 4)), some (.int 2), some (.int ((((k200 t.1 1).1).1 4) + 1))] [] _ _
                      refine l2 (v := 39) hi_238_264 rfl ?_
                      refine l32 (as := [.ref 39]) (la := [some (.ref 39)]) (rest := []) hi_238_265 (am_hd0 (M := 238) (by decide) 265) rfl rfl rfl (fun N' d' _ => lt183 (N := N') (d := d') h77) ?_ (fun _ q => nomatch q.1)
                      rintro v81 S79 ⟨ev81, h80⟩
                      cases ev81
                      show am_L _ _ _ _ _ [some (.ref 39), some (.int y1), some (.int y2), some (.int t.2.1), some (.int 1), some (.int (t.1.1 4)), some (.int 2), some (.int ((((k200 t.1 1).1).1 4) + 1))] [.int (k183 ((k239 ((k200 ((k200 (kf ((k200 t.1 1).1) 4 ((((k200 t.1 1).1).1 4) + 1)) 1).1) 58).1) 2 0 (t.1.1 4)).1))] _ _
                      refine l0 hi_238_268 ?_
                      by_cases c82 : (k183 ((k239 ((k200 ((k200 (kf ((k200 t.1 1).1) 4 ((((k200 t.1 1).1).1 4) + 1)) 1).1) 58).1) 2 0 (t.1.1 4)).1)) ≠ 69
                      · refine l13t hi_238_270 (decide_eq_true c82) ?_
                        refine l0 hi_238_277 ?_
                        refine l3 (ls' := [some (.ref 39), some (.int y1), some (.int y2), some (.int 0), some (.int 1), some (.int (t.1.1 4)), some (.int 2), some (.int ((((k200 t.1 1).1).1 4) + 1))]) hi_238_278 (Nat.le_of_ble_eq_true rfl) rfl ?_
                        refine l2 (v := 39) hi_238_279 rfl ?_
                        refine l7 hi_238_280 ?_
                        refine l20 (v := .int (((k239 ((k200 ((k200 (kf ((k200 t.1 1).1) 4 ((((k200 t.1 1).1).1 4) + 1)) 1).1) 58).1) 2 0 (t.1.1 4)).1).1 4)) h80 hi_238_281 rfl ?_
                        refine l1 (v := 0) hi_238_284 rfl ?_
                        refine l12t hi_238_285 (by decide) ?_
                        refine l0 hi_238_292 ?_
                        refine l10 hi_238_293 ?_
                        show am_L _ _ _ _ _ [some (.ref 39), some (.int y1), some (.int y2), some (.int 0), some (.int 1), some (.int (t.1.1 4)), some (.int 2), some (.int ((((k200 t.1 1).1).1 4) + 1))] [.int ((((k239 ((k200 ((k200 (kf ((k200 t.1 1).1) 4 ((((k200 t.1 1).1).1 4) + 1)) 1).1) 58).1) 2 0 (t.1.1 4)).1).1 4) + 0), .ref 39] _ _
                        refine l21 h80 hi_238_294 ms_4 fun S83 h84 => ?_
                        refine l18 hi_238_297 ?_
                        have e0 : (k238b113 y1 y2) t = (0, (kf ((k239 ((k200 ((k200 (kf ((k200 t.1 1).1) 4 ((((k200 t.1 1).1).1 4) + 1)) 1).1) 58).1) 2 0 (t.1.1 4)).1) 4 ((((k239 ((k200 ((k200 (kf ((k200 t.1 1).1) 4 ((((k200 t.1 1).1).1 4) + 1)) 1).1) 58).1) 2 0 (t.1.1 4)).1).1 4) + 0), 0, 1)) := by unfold k238b113; rw [if_neg c1]; rw [if_pos c5]; rw [if_neg c9]; rw [if_neg c26]; rw [if_pos c30]; rw [if_pos c33]; rw [if_neg c36]; rw [if_pos c63]; rw [if_neg c64]; rw [if_pos c82]
                        have e1 : ∀ m, kwh (k238b113 y1 y2) (m + 1) t = kwh (k238b113 y1 y2) m (kf ((k239 ((k200 ((k200 (kf ((k200 t.1 1).1) 4 ((((k200 t.1 1).1).1 4) + 1)) 1).1) 58).1) 2 0 (t.1.1 4)).1) 4 ((((k239 ((k200 ((k200 (kf ((k200 t.1 1).1) 4 ((((k200 t.1 1).1).1 4) + 1)) 1).1) 58).1) 2 0 (t.1.1 4)).1).1 4) + 0), 0, 1) := fun m => by rw [kwh_go (by rw [e0]), e0]
                        exact ih _ (some (.int (t.1.1 4))) (some (.int 2)) (some (.int ((((k200 t.1 1).1).1 4) + 1))) (kf ((k239 ((k200 ((k200 (kf ((k200 t.1 1).1) 4 ((((k200 t.1 1).1).1 4) + 1)) 1).1) 58).1) 2 0 (t.1.1 4)).1) 4 ((((k239 ((k200 ((k200 (kf ((k200 t.1 1).1) 4 ((((k200 t.1 1).1).1 4) + 1)) 1).1) 58).1) 2 0 (t.1.1 4)).1).1 4) + 0), 0, 1) h84 (fun m S1 p5 p6 p7 hm h1 => by have q := kx131 (m + 1) S1 p5 p6 p7 (by rw [e1]; exact hm) (by rw [e1]; exact h1); rw [e1] at q; exact q.less (Nat.le_succ N)) (fun m S1 p5 p6 p7 hm h1 => by have q := kx177 (m + 1) S1 p5 p6 p7 (by rw [e1]; exact hm) (by rw [e1]; exact h1); rw [e1] at q; exact q.less (Nat.le_succ N)) (fun m S1 p5 p6 p7 hm h1 => by have q := kx300 (m + 1) S1 p5 p6 p7 (by rw [e1]; exact hm) (by rw [e1]; exact h1); rw [e1] at q; exact q.less (Nat.le_succ N))
                      · refine l13f hi_238_270 (decide_eq_false c82) ?_
                        refine l0 hi_238_273 ?_
                        refine l18 hi_238_274 ?_
                        refine l3 (ls' := [some (.ref 39), some (.int y1), some (.int y2), some (.int 1), some (.int 1), some (.int (t.1.1 4)), some (.int 2), some (.int ((((k200 t.1 1).1).1 4) + 1))]) hi_238_278 (Nat.le_of_ble_eq_true rfl) rfl ?_
                        refine l2 (v := 39) hi_238_279 rfl ?_
                        refine l7 hi_238_280 ?_
                        refine l20 (v := .int (((k239 ((k200 ((k200 (kf ((k200 t.1 1).1) 4 ((((k200 t.1 1).1).1 4) + 1)) 1).1) 58).1) 2 0 (t.1.1 4)).1).1 4)) h80 hi_238_281 rfl ?_
                        refine l1 (v := 1) hi_238_284 rfl ?_
                        refine l12f hi_238_285 (by decide) ?_
                        refine l0 hi_238_288 ?_
                        refine l18 hi_238_289 ?_
                        refine l10 hi_238_293 ?_
                        show am_L _ _ _ _ _ [some (.ref 39), some (.int y1), some (.int y2), some (.int 1), some (.int 1), some (.int (t.1.1 4)), some (.int 2), some (.int ((((k200 t.1 1).1).1 4) + 1))] [.int ((((k239 ((k200 ((k200 (kf ((k200 t.1 1).1) 4 ((((k200 t.1 1).1).1 4) + 1)) 1).1) 58).1) 2 0 (t.1.1 4)).1).1 4) + 1), .ref 39] _ _
                        refine l21 h80 hi_238_294 ms_4 fun S85 h86 => ?_
                        refine l18 hi_238_297 ?_
                        have e0 : (k238b113 y1 y2) t = (0, (kf ((k239 ((k200 ((k200 (kf ((k200 t.1 1).1) 4 ((((k200 t.1 1).1).1 4) + 1)) 1).1) 58).1) 2 0 (t.1.1 4)).1) 4 ((((k239 ((k200 ((k200 (kf ((k200 t.1 1).1) 4 ((((k200 t.1 1).1).1 4) + 1)) 1).1) 58).1) 2 0 (t.1.1 4)).1).1 4) + 1), 1, 1)) := by unfold k238b113; rw [if_neg c1]; rw [if_pos c5]; rw [if_neg c9]; rw [if_neg c26]; rw [if_pos c30]; rw [if_pos c33]; rw [if_neg c36]; rw [if_pos c63]; rw [if_neg c64]; rw [if_neg c82]
                        have e1 : ∀ m, kwh (k238b113 y1 y2) (m + 1) t = kwh (k238b113 y1 y2) m (kf ((k239 ((k200 ((k200 (kf ((k200 t.1 1).1) 4 ((((k200 t.1 1).1).1 4) + 1)) 1).1) 58).1) 2 0 (t.1.1 4)).1) 4 ((((k239 ((k200 ((k200 (kf ((k200 t.1 1).1) 4 ((((k200 t.1 1).1).1 4) + 1)) 1).1) 58).1) 2 0 (t.1.1 4)).1).1 4) + 1), 1, 1) := fun m => by rw [kwh_go (by rw [e0]), e0]
                        exact ih _ (some (.int (t.1.1 4))) (some (.int 2)) (some (.int ((((k200 t.1 1).1).1 4) + 1))) (kf ((k239 ((k200 ((k200 (kf ((k200 t.1 1).1) 4 ((((k200 t.1 1).1).1 4) + 1)) 1).1) 58).1) 2 0 (t.1.1 4)).1) 4 ((((k239 ((k200 ((k200 (kf ((k200 t.1 1).1) 4 ((((k200 t.1 1).1).1 4) + 1)) 1).1) 58).1) 2 0 (t.1.1 4)).1).1 4) + 1), 1, 1) h86 (fun m S1 p5 p6 p7 hm h1 => by have q := kx131 (m + 1) S1 p5 p6 p7 (by rw [e1]; exact hm) (by rw [e1]; exact h1); rw [e1] at q; exact q.less (Nat.le_succ N)) (fun m S1 p5 p6 p7 hm h1 => by have q := kx177 (m + 1) S1 p5 p6 p7 (by rw [e1]; exact hm) (by rw [e1]; exact h1); rw [e1] at q; exact q.less (Nat.le_succ N)) (fun m S1 p5 p6 p7 hm h1 => by have q := kx300 (m + 1) S1 p5 p6 p7 (by rw [e1]; exact hm) (by rw [e1]; exact h1); rw [e1] at q; exact q.less (Nat.le_succ N))
                  · refine l12f hi_238_226 (decide_eq_false c63) ?_
                    refine l2 (v := 39) hi_238_229 rfl ?_
                    refine l0 hi_238_230 ?_
                    refine l1 (v := (((k200 t.1 1).1).1 4) + 1) hi_238_232 rfl ?_
                    refine l32 (as := [.ref 39, .int 9, .int ((((k200 t.1 1).1).1 4) + 1)]) (la := [some (.ref 39), some (.int 9), some (.int ((((k200 t.1 1).1).1 4) + 1))]) (rest := []) hi_238_234 (am_hd0 (M := 238) (by decide) 234) rfl rfl rfl (fun N' d' _ => lt191 (N := N') (d := d') h28) ?_ (fun _ q => nomatch q.1)
                    rintro v89 S87 ⟨ev89, h88⟩
                    cases ev89
                    show am_L _ _ _ _ _ [some (.ref 39), some (.int y1), some (.int y2), some (.int t.2.1), some (.int t.2.2), some (.int (t.1.1 4)), some (.int 2), some (.int ((((k200 t.1 1).1).1 4) + 1))] [] _ _
                    refine l1 (v := t.2.2) hi_238_237 rfl ?_
                    by_cases c90 : t.2.2 ≠ 0
                    · refine l12t hi_238_239 (decide_eq_true c90) ?_
                      refine l0 hi_238_248 ?_
                      refine l18 hi_238_249 ?_
                      refine l3 (ls' := [some (.ref 39), some (.int y1), some (.int y2), some (.int t.2.1), some (.int 1), some (.int (t.1.1 4)), some (.int 2), some (.int ((((k200 t.1 1).1).1 4) + 1))]) hi_238_253 (Nat.le_of_ble_eq_true rfl) rfl ?_
                      refine l2 (v := 39) hi_238_255 rfl ?_
                      refine l1 (v := 2) hi_238_256 rfl ?_
                      refine l0 hi_238_258 ?_
                      refine l1 (v := t.1.1 4) hi_238_259 rfl ?_
                      refine l32 (as := [.ref 39, .int 2, .int 0, .int (t.1.1 4)]) (la := [some (.ref 39), some (.int 2), some (.int 0), some (.int (t.1.1 4))]) (rest := []) hi_238_261 (am_hd0 (M := 238) (by decide) 261) rfl rfl rfl (fun N' d' _ => lt239 (N := N') (d := d') h88) ?_ (fun _ q => nomatch q.1)
                      rintro v93 S91 ⟨ev93, h92⟩
                      cases ev93
                      show am_L _ _ _ _ _ [some (.ref 39), some (.int y1), some (.int y2), some (.int t.2.1), some (.int 1), some (.int (t.1.1 4)), some (.int 2), some (.int ((((k200 t.1 1).1).1 4) + 1))] [] _ _
                      refine l2 (v := 39) hi_238_264 rfl ?_
                      refine l32 (as := [.ref 39]) (la := [some (.ref 39)]) (rest := []) hi_238_265 (am_hd0 (M := 238) (by decide) 265) rfl rfl rfl (fun N' d' _ => lt183 (N := N') (d := d') h92) ?_ (fun _ q => nomatch q.1)
                      rintro v96 S94 ⟨ev96, h95⟩
                      cases ev96
                      show am_L _ _ _ _ _ [some (.ref 39), some (.int y1), some (.int y2), some (.int t.2.1), some (.int 1), some (.int (t.1.1 4)), some (.int 2), some (.int ((((k200 t.1 1).1).1 4) + 1))] [.int (k183 ((k239 ((k191 ((k200 ((k200 (kf ((k200 t.1 1).1) 4 ((((k200 t.1 1).1).1 4) + 1)) 1).1) 58).1) 9 ((((k200 t.1 1).1).1 4) + 1)).1) 2 0 (t.1.1 4)).1))] _ _
                      refine l0 hi_238_268 ?_
                      by_cases c97 : (k183 ((k239 ((k191 ((k200 ((k200 (kf ((k200 t.1 1).1) 4 ((((k200 t.1 1).1).1 4) + 1)) 1).1) 58).1) 9 ((((k200 t.1 1).1).1 4) + 1)).1) 2 0 (t.1.1 4)).1)) ≠ 69
                      · refine l13t hi_238_270 (decide_eq_true c97) ?_
                        refine l0 hi_238_277 ?_
                        refine l3 (ls' := [some (.ref 39), some (.int y1), some (.int y2), some (.int 0), some (.int 1), some (.int (t.1.1 4)), some (.int 2), some (.int ((((k200 t.1 1).1).1 4) + 1))]) hi_238_278 (Nat.le_of_ble_eq_true rfl) rfl ?_
                        refine l2 (v := 39) hi_238_279 rfl ?_
                        refine l7 hi_238_280 ?_
                        refine l20 (v := .int (((k239 ((k191 ((k200 ((k200 (kf ((k200 t.1 1).1) 4 ((((k200 t.1 1).1).1 4) + 1)) 1).1) 58).1) 9 ((((k200 t.1 1).1).1 4) + 1)).1) 2 0 (t.1.1 4)).1).1 4)) h95 hi_238_281 rfl ?_
                        refine l1 (v := 0) hi_238_284 rfl ?_
                        refine l12t hi_238_285 (by decide) ?_
                        refine l0 hi_238_292 ?_
                        refine l10 hi_238_293 ?_
                        show am_L _ _ _ _ _ [some (.ref 39), some (.int y1), some (.int y2), some (.int 0), some (.int 1), some (.int (t.1.1 4)), some (.int 2), some (.int ((((k200 t.1 1).1).1 4) + 1))] [.int ((((k239 ((k191 ((k200 ((k200 (kf ((k200 t.1 1).1) 4 ((((k200 t.1 1).1).1 4) + 1)) 1).1) 58).1) 9 ((((k200 t.1 1).1).1 4) + 1)).1) 2 0 (t.1.1 4)).1).1 4) + 0), .ref 39] _ _
                        refine l21 h95 hi_238_294 ms_4 fun S98 h99 => ?_
                        refine l18 hi_238_297 ?_
                        have e0 : (k238b113 y1 y2) t = (0, (kf ((k239 ((k191 ((k200 ((k200 (kf ((k200 t.1 1).1) 4 ((((k200 t.1 1).1).1 4) + 1)) 1).1) 58).1) 9 ((((k200 t.1 1).1).1 4) + 1)).1) 2 0 (t.1.1 4)).1) 4 ((((k239 ((k191 ((k200 ((k200 (kf ((k200 t.1 1).1) 4 ((((k200 t.1 1).1).1 4) + 1)) 1).1) 58).1) 9 ((((k200 t.1 1).1).1 4) + 1)).1) 2 0 (t.1.1 4)).1).1 4) + 0), 0, 1)) := by unfold k238b113; rw [if_neg c1]; rw [if_pos c5]; rw [if_neg c9]; rw [if_neg c26]; rw [if_pos c30]; rw [if_pos c33]; rw [if_neg c36]; rw [if_neg c63]; rw [if_pos c90]; rw [if_pos c97]
                        have e1 : ∀ m, kwh (k238b113 y1 y2) (m + 1) t = kwh (k238b113 y1 y2) m (kf ((k239 ((k191 ((k200 ((k200 (kf ((k200 t.1 1).1) 4 ((((k200 t.1 1).1).1 4) + 1)) 1).1) 58).1) 9 ((((k200 t.1 1).1).1 4) + 1)).1) 2 0 (t.1.1 4)).1) 4 ((((k239 ((k191 ((k200 ((k200 (kf ((k200 t.1 1).1) 4 ((((k200 t.1 1).1).1 4) + 1)) 1).1) 58).1) 9 ((((k200 t.1 1).1).1 4) + 1)).1) 2 0 (t.1.1 4)).1).1 4) + 0), 0, 1) := fun m => by rw [kwh_go (by rw [e0]), e0]
                        exact ih _ (some (.int (t.1.1 4))) (some (.int 2)) (some (.int ((((k200 t.1 1).1).1 4) + 1))) (kf ((k239 ((k191 ((k200 ((k200 (kf ((k200 t.1 1).1) 4 ((((k200 t.1 1).1).1 4) + 1)) 1).1) 58).1) 9 ((((k200 t.1 1).1).1 4) + 1)).1) 2 0 (t.1.1 4)).1) 4 ((((k239 ((k191 ((k200 ((k200 (kf ((k200 t.1 1).1) 4 ((((k200 t.1 1).1).1 4) + 1)) 1).1) 58).1) 9 ((((k200 t.1 1).1).1 4) + 1)).1) 2 0 (t.1.1 4)).1).1 4) + 0), 0, 1) h99 (fun m S1 p5 p6 p7 hm h1 => by have q := kx131 (m + 1) S1 p5 p6 p7 (by rw [e1]; exact hm) (by rw [e1]; exact h1); rw [e1] at q; exact q.less (Nat.le_succ N)) (fun m S1 p5 p6 p7 hm h1 => by have q := kx177 (m + 1) S1 p5 p6 p7 (by rw [e1]; exact hm) (by rw [e1]; exact h1); rw [e1] at q; exact q.less (Nat.le_succ N)) (fun m S1 p5 p6 p7 hm h1 => by have q := kx300 (m + 1) S1 p5 p6 p7 (by rw [e1]; exact hm) (by rw [e1]; exact h1); rw [e1] at q; exact q.less (Nat.le_succ N))
                      · refine l13f hi_238_270 (decide_eq_false c97) ?_
                        refine l0 hi_238_273 ?_
                        refine l18 hi_238_274 ?_
                        refine l3 (ls' := [some (.ref 39), some (.int y1), some (.int y2), some (.int 1), some (.int 1), some (.int (t.1.1 4)), some (.int 2), some (.int ((((k200 t.1 1).1).1 4) + 1))]) hi_238_278 (Nat.le_of_ble_eq_true rfl) rfl ?_
                        refine l2 (v := 39) hi_238_279 rfl ?_
                        refine l7 hi_238_280 ?_
                        refine l20 (v := .int (((k239 ((k191 ((k200 ((k200 (kf ((k200 t.1 1).1) 4 ((((k200 t.1 1).1).1 4) + 1)) 1).1) 58).1) 9 ((((k200 t.1 1).1).1 4) + 1)).1) 2 0 (t.1.1 4)).1).1 4)) h95 hi_238_281 rfl ?_
                        refine l1 (v := 1) hi_238_284 rfl ?_
                        refine l12f hi_238_285 (by decide) ?_
                        refine l0 hi_238_288 ?_
                        refine l18 hi_238_289 ?_
                        refine l10 hi_238_293 ?_
                        show am_L _ _ _ _ _ [some (.ref 39), some (.int y1), some (.int y2), some (.int 1), some (.int 1), some (.int (t.1.1 4)), some (.int 2), some (.int ((((k200 t.1 1).1).1 4) + 1))] [.int ((((k239 ((k191 ((k200 ((k200 (kf ((k200 t.1 1).1) 4 ((((k200 t.1 1).1).1 4) + 1)) 1).1) 58).1) 9 ((((k200 t.1 1).1).1 4) + 1)).1) 2 0 (t.1.1 4)).1).1 4) + 1), .ref 39] _ _
                        refine l21 h95 hi_238_294 ms_4 fun S100 h101 => ?_
                        refine l18 hi_238_297 ?_
                        have e0 : (k238b113 y1 y2) t = (0, (kf ((k239 ((k191 ((k200 ((k200 (kf ((k200 t.1 1).1) 4 ((((k200 t.1 1).1).1 4) + 1)) 1).1) 58).1) 9 ((((k200 t.1 1).1).1 4) + 1)).1) 2 0 (t.1.1 4)).1) 4 ((((k239 ((k191 ((k200 ((k200 (kf ((k200 t.1 1).1) 4 ((((k200 t.1 1).1).1 4) + 1)) 1).1) 58).1) 9 ((((k200 t.1 1).1).1 4) + 1)).1) 2 0 (t.1.1 4)).1).1 4) + 1), 1, 1)) := by unfold k238b113; rw [if_neg c1]; rw [if_pos c5]; rw [if_neg c9]; rw [if_neg c26]; rw [if_pos c30]; rw [if_pos c33]; rw [if_neg c36]; rw [if_neg c63]; rw [if_pos c90]; rw [if_neg c97]
                        have e1 : ∀ m, kwh (k238b113 y1 y2) (m + 1) t = kwh (k238b113 y1 y2) m (kf ((k239 ((k191 ((k200 ((k200 (kf ((k200 t.1 1).1) 4 ((((k200 t.1 1).1).1 4) + 1)) 1).1) 58).1) 9 ((((k200 t.1 1).1).1 4) + 1)).1) 2 0 (t.1.1 4)).1) 4 ((((k239 ((k191 ((k200 ((k200 (kf ((k200 t.1 1).1) 4 ((((k200 t.1 1).1).1 4) + 1)) 1).1) 58).1) 9 ((((k200 t.1 1).1).1 4) + 1)).1) 2 0 (t.1.1 4)).1).1 4) + 1), 1, 1) := fun m => by rw [kwh_go (by rw [e0]), e0]
                        exact ih _ (some (.int (t.1.1 4))) (some (.int 2)) (some (.int ((((k200 t.1 1).1).1 4) + 1))) (kf ((k239 ((k191 ((k200 ((k200 (kf ((k200 t.1 1).1) 4 ((((k200 t.1 1).1).1 4) + 1)) 1).1) 58).1) 9 ((((k200 t.1 1).1).1 4) + 1)).1) 2 0 (t.1.1 4)).1) 4 ((((k239 ((k191 ((k200 ((k200 (kf ((k200 t.1 1).1) 4 ((((k200 t.1 1).1).1 4) + 1)) 1).1) 58).1) 9 ((((k200 t.1 1).1).1 4) + 1)).1) 2 0 (t.1.1 4)).1).1 4) + 1), 1, 1) h101 (fun m S1 p5 p6 p7 hm h1 => by have q := kx131 (m + 1) S1 p5 p6 p7 (by rw [e1]; exact hm) (by rw [e1]; exact h1); rw [e1] at q; exact q.less (Nat.le_succ N)) (fun m S1 p5 p6 p7 hm h1 => by have q := kx177 (m + 1) S1 p5 p6 p7 (by rw [e1]; exact hm) (by rw [e1]; exact h1); rw [e1] at q; exact q.less (Nat.le_succ N)) (fun m S1 p5 p6 p7 hm h1 => by have q := kx300 (m + 1) S1 p5 p6 p7 (by rw [e1]; exact hm) (by rw [e1]; exact h1); rw [e1] at q; exact q.less (Nat.le_succ N))
                    · refine l12f hi_238_239 (decide_eq_false c90) ?_
                      refine l1 (v := 2) hi_238_242 rfl ?_
                      refine l0 hi_238_244 ?_
                      refine l13f hi_238_245 (by decide) ?_
                      refine l0 hi_238_248 ?_
                      refine l18 hi_238_249 ?_
                      refine l3 (ls' := [some (.ref 39), some (.int y1), some (.int y2), some (.int t.2.1), some (.int 1), some (.int (t.1.1 4)), some (.int 2), some (.int ((((k200 t.1 1).1).1 4) + 1))]) hi_238_253 (Nat.le_of_ble_eq_true rfl) rfl ?_
                      refine l2 (v := 39) hi_238_255 rfl ?_
                      refine l1 (v := 2) hi_238_256 rfl ?_
                      refine l0 hi_238_258 ?_
                      refine l1 (v := t.1.1 4) hi_238_259 rfl ?_
                      refine l32 (as := [.ref 39, .int 2, .int 0, .int (t.1.1 4)]) (la := [some (.ref 39), some (.int 2), some (.int 0), some (.int (t.1.1 4))]) (rest := []) hi_238_261 (am_hd0 (M := 238) (by decide) 261) rfl rfl rfl (fun N' d' _ => lt239 (N := N') (d := d') h88) ?_ (fun _ q => nomatch q.1)
                      rintro v104 S102 ⟨ev104, h103⟩
                      cases ev104
                      show am_L _ _ _ _ _ [some (.ref 39), some (.int y1), some (.int y2), some (.int t.2.1), some (.int 1), some (.int (t.1.1 4)), some (.int 2), some (.int ((((k200 t.1 1).1).1 4) + 1))] [] _ _
                      refine l2 (v := 39) hi_238_264 rfl ?_
                      refine l32 (as := [.ref 39]) (la := [some (.ref 39)]) (rest := []) hi_238_265 (am_hd0 (M := 238) (by decide) 265) rfl rfl rfl (fun N' d' _ => lt183 (N := N') (d := d') h103) ?_ (fun _ q => nomatch q.1)
                      rintro v107 S105 ⟨ev107, h106⟩
                      cases ev107
                      show am_L _ _ _ _ _ [some (.ref 39), some (.int y1), some (.int y2), some (.int t.2.1), some (.int 1), some (.int (t.1.1 4)), some (.int 2), some (.int ((((k200 t.1 1).1).1 4) + 1))] [.int (k183 ((k239 ((k191 ((k200 ((k200 (kf ((k200 t.1 1).1) 4 ((((k200 t.1 1).1).1 4) + 1)) 1).1) 58).1) 9 ((((k200 t.1 1).1).1 4) + 1)).1) 2 0 (t.1.1 4)).1))] _ _
                      refine l0 hi_238_268 ?_
                      by_cases c108 : (k183 ((k239 ((k191 ((k200 ((k200 (kf ((k200 t.1 1).1) 4 ((((k200 t.1 1).1).1 4) + 1)) 1).1) 58).1) 9 ((((k200 t.1 1).1).1 4) + 1)).1) 2 0 (t.1.1 4)).1)) ≠ 69
                      · refine l13t hi_238_270 (decide_eq_true c108) ?_
                        refine l0 hi_238_277 ?_
                        refine l3 (ls' := [some (.ref 39), some (.int y1), some (.int y2), some (.int 0), some (.int 1), some (.int (t.1.1 4)), some (.int 2), some (.int ((((k200 t.1 1).1).1 4) + 1))]) hi_238_278 (Nat.le_of_ble_eq_true rfl) rfl ?_
                        refine l2 (v := 39) hi_238_279 rfl ?_
                        refine l7 hi_238_280 ?_
                        refine l20 (v := .int (((k239 ((k191 ((k200 ((k200 (kf ((k200 t.1 1).1) 4 ((((k200 t.1 1).1).1 4) + 1)) 1).1) 58).1) 9 ((((k200 t.1 1).1).1 4) + 1)).1) 2 0 (t.1.1 4)).1).1 4)) h106 hi_238_281 rfl ?_
                        refine l1 (v := 0) hi_238_284 rfl ?_
                        refine l12t hi_238_285 (by decide) ?_
                        refine l0 hi_238_292 ?_
                        refine l10 hi_238_293 ?_
                        show am_L _ _ _ _ _ [some (.ref 39), some (.int y1), some (.int y2), some (.int 0), some (.int 1), some (.int (t.1.1 4)), some (.int 2), some (.int ((((k200 t.1 1).1).1 4) + 1))] [.int ((((k239 ((k191 ((k200 ((k200 (kf ((k200 t.1 1).1) 4 ((((k200 t.1 1).1).1 4) + 1)) 1).1) 58).1) 9 ((((k200 t.1 1).1).1 4) + 1)).1) 2 0 (t.1.1 4)).1).1 4) + 0), .ref 39] _ _
                        refine l21 h106 hi_238_294 ms_4 fun S109 h110 => ?_
                        refine l18 hi_238_297 ?_
                        have e0 : (k238b113 y1 y2) t = (0, (kf ((k239 ((k191 ((k200 ((k200 (kf ((k200 t.1 1).1) 4 ((((k200 t.1 1).1).1 4) + 1)) 1).1) 58).1) 9 ((((k200 t.1 1).1).1 4) + 1)).1) 2 0 (t.1.1 4)).1) 4 ((((k239 ((k191 ((k200 ((k200 (kf ((k200 t.1 1).1) 4 ((((k200 t.1 1).1).1 4) + 1)) 1).1) 58).1) 9 ((((k200 t.1 1).1).1 4) + 1)).1) 2 0 (t.1.1 4)).1).1 4) + 0), 0, 1)) := by unfold k238b113; rw [if_neg c1]; rw [if_pos c5]; rw [if_neg c9]; rw [if_neg c26]; rw [if_pos c30]; rw [if_pos c33]; rw [if_neg c36]; rw [if_neg c63]; rw [if_neg c90]; rw [if_pos c108]
                        have e1 : ∀ m, kwh (k238b113 y1 y2) (m + 1) t = kwh (k238b113 y1 y2) m (kf ((k239 ((k191 ((k200 ((k200 (kf ((k200 t.1 1).1) 4 ((((k200 t.1 1).1).1 4) + 1)) 1).1) 58).1) 9 ((((k200 t.1 1).1).1 4) + 1)).1) 2 0 (t.1.1 4)).1) 4 ((((k239 ((k191 ((k200 ((k200 (kf ((k200 t.1 1).1) 4 ((((k200 t.1 1).1).1 4) + 1)) 1).1) 58).1) 9 ((((k200 t.1 1).1).1 4) + 1)).1) 2 0 (t.1.1 4)).1).1 4) + 0), 0, 1) := fun m => by rw [kwh_go (by rw [e0]), e0]
                        exact ih _ (some (.int (t.1.1 4))) (some (.int 2)) (some (.int ((((k200 t.1 1).1).1 4) + 1))) (kf ((k239 ((k191 ((k200 ((k200 (kf ((k200 t.1 1).1) 4 ((((k200 t.1 1).1).1 4) + 1)) 1).1) 58).1) 9 ((((k200 t.1 1).1).1 4) + 1)).1) 2 0 (t.1.1 4)).1) 4 ((((k239 ((k191 ((k200 ((k200 (kf ((k200 t.1 1).1) 4 ((((k200 t.1 1).1).1 4) + 1)) 1).1) 58).1) 9 ((((k200 t.1 1).1).1 4) + 1)).1) 2 0 (t.1.1 4)).1).1 4) + 0), 0, 1) h110 (fun m S1 p5 p6 p7 hm h1 => by have q := kx131 (m + 1) S1 p5 p6 p7 (by rw [e1]; exact hm) (by rw [e1]; exact h1); rw [e1] at q; exact q.less (Nat.le_succ N)) (fun m S1 p5 p6 p7 hm h1 => by have q := kx177 (m + 1) S1 p5 p6 p7 (by rw [e1]; exact hm) (by rw [e1]; exact h1); rw [e1] at q; exact q.less (Nat.le_succ N)) (fun m S1 p5 p6 p7 hm h1 => by have q := kx300 (m + 1) S1 p5 p6 p7 (by rw [e1]; exact hm) (by rw [e1]; exact h1); rw [e1] at q; exact q.less (Nat.le_succ N))
                      · refine l13f hi_238_270 (decide_eq_false c108) ?_
                        refine l0 hi_238_273 ?_
                        refine l18 hi_238_274 ?_
                        refine l3 (ls' := [some (.ref 39), some (.int y1), some (.int y2), some (.int 1), some (.int 1), some (.int (t.1.1 4)), some (.int 2), some (.int ((((k200 t.1 1).1).1 4) + 1))]) hi_238_278 (Nat.le_of_ble_eq_true rfl) rfl ?_
                        refine l2 (v := 39) hi_238_279 rfl ?_
                        refine l7 hi_238_280 ?_
                        refine l20 (v := .int (((k239 ((k191 ((k200 ((k200 (kf ((k200 t.1 1).1) 4 ((((k200 t.1 1).1).1 4) + 1)) 1).1) 58).1) 9 ((((k200 t.1 1).1).1 4) + 1)).1) 2 0 (t.1.1 4)).1).1 4)) h106 hi_238_281 rfl ?_
                        refine l1 (v := 1) hi_238_284 rfl ?_
                        refine l12f hi_238_285 (by decide) ?_
                        refine l0 hi_238_288 ?_
                        refine l18 hi_238_289 ?_
                        refine l10 hi_238_293 ?_
                        show am_L _ _ _ _ _ [some (.ref 39), some (.int y1), some (.int y2), some (.int 1), some (.int 1), some (.int (t.1.1 4)), some (.int 2), some (.int ((((k200 t.1 1).1).1 4) + 1))] [.int ((((k239 ((k191 ((k200 ((k200 (kf ((k200 t.1 1).1) 4 ((((k200 t.1 1).1).1 4) + 1)) 1).1) 58).1) 9 ((((k200 t.1 1).1).1 4) + 1)).1) 2 0 (t.1.1 4)).1).1 4) + 1), .ref 39] _ _
                        refine l21 h106 hi_238_294 ms_4 fun S111 h112 => ?_
                        refine l18 hi_238_297 ?_
                        have e0 : (k238b113 y1 y2) t = (0, (kf ((k239 ((k191 ((k200 ((k200 (kf ((k200 t.1 1).1) 4 ((((k200 t.1 1).1).1 4) + 1)) 1).1) 58).1) 9 ((((k200 t.1 1).1).1 4) + 1)).1) 2 0 (t.1.1 4)).1) 4 ((((k239 ((k191 ((k200 ((k200 (kf ((k200 t.1 1).1) 4 ((((k200 t.1 1).1).1 4) + 1)) 1).1) 58).1) 9 ((((k200 t.1 1).1).1 4) + 1)).1) 2 0 (t.1.1 4)).1).1 4) + 1), 1, 1)) := by unfold k238b113; rw [if_neg c1]; rw [if_pos c5]; rw [if_neg c9]; rw [if_neg c26]; rw [if_pos c30]; rw [if_pos c33]; rw [if_neg c36]; rw [if_neg c63]; rw [if_neg c90]; rw [if_neg c108]
                        have e1 : ∀ m, kwh (k238b113 y1 y2) (m + 1) t = kwh (k238b113 y1 y2) m (kf ((k239 ((k191 ((k200 ((k200 (kf ((k200 t.1 1).1) 4 ((((k200 t.1 1).1).1 4) + 1)) 1).1) 58).1) 9 ((((k200 t.1 1).1).1 4) + 1)).1) 2 0 (t.1.1 4)).1) 4 ((((k239 ((k191 ((k200 ((k200 (kf ((k200 t.1 1).1) 4 ((((k200 t.1 1).1).1 4) + 1)) 1).1) 58).1) 9 ((((k200 t.1 1).1).1 4) + 1)).1) 2 0 (t.1.1 4)).1).1 4) + 1), 1, 1) := fun m => by rw [kwh_go (by rw [e0]), e0]
                        exact ih _ (some (.int (t.1.1 4))) (some (.int 2)) (some (.int ((((k200 t.1 1).1).1 4) + 1))) (kf ((k239 ((k191 ((k200 ((k200 (kf ((k200 t.1 1).1) 4 ((((k200 t.1 1).1).1 4) + 1)) 1).1) 58).1) 9 ((((k200 t.1 1).1).1 4) + 1)).1) 2 0 (t.1.1 4)).1) 4 ((((k239 ((k191 ((k200 ((k200 (kf ((k200 t.1 1).1) 4 ((((k200 t.1 1).1).1 4) + 1)) 1).1) 58).1) 9 ((((k200 t.1 1).1).1 4) + 1)).1) 2 0 (t.1.1 4)).1).1 4) + 1), 1, 1) h112 (fun m S1 p5 p6 p7 hm h1 => by have q := kx131 (m + 1) S1 p5 p6 p7 (by rw [e1]; exact hm) (by rw [e1]; exact h1); rw [e1] at q; exact q.less (Nat.le_succ N)) (fun m S1 p5 p6 p7 hm h1 => by have q := kx177 (m + 1) S1 p5 p6 p7 (by rw [e1]; exact hm) (by rw [e1]; exact h1); rw [e1] at q; exact q.less (Nat.le_succ N)) (fun m S1 p5 p6 p7 hm h1 => by have q := kx300 (m + 1) S1 p5 p6 p7 (by rw [e1]; exact hm) (by rw [e1]; exact h1); rw [e1] at q; exact q.less (Nat.le_succ N))
              · refine l13f hi_238_187 (decide_eq_false c33) ?_
                refine l0 hi_238_190 ?_
                refine l18 hi_238_191 ?_
                refine l3 (ls' := [some (.ref 39), some (.int y1), some (.int y2), some (.int t.2.1), some (.int t.2.2), some (.int (t.1.1 4)), some (.int 1), some (.int ((((k200 t.1 1).1).1 4) + 1))]) hi_238_211 (Nat.le_of_ble_eq_true rfl) rfl ?_
                refine l1 (v := 1) hi_238_213 rfl ?_
                refine l12f hi_238_215 (by decide) ?_
                refine l1 (v := 1) hi_238_218 rfl ?_
                refine l0 hi_238_220 ?_
                refine l13t hi_238_221 (by decide) ?_
                refine l1 (v := t.2.2) hi_238_237 rfl ?_
                by_cases c113 : t.2.2 ≠ 0
                · refine l12t hi_238_239 (decide_eq_true c113) ?_
                  refine l0 hi_238_248 ?_
                  refine l18 hi_238_249 ?_
                  refine l3 (ls' := [some (.ref 39), some (.int y1), some (.int y2), some (.int t.2.1), some (.int 1), some (.int (t.1.1 4)), some (.int 1), some (.int ((((k200 t.1 1).1).1 4) + 1))]) hi_238_253 (Nat.le_of_ble_eq_true rfl) rfl ?_
                  refine l2 (v := 39) hi_238_255 rfl ?_
                  refine l1 (v := 1) hi_238_256 rfl ?_
                  refine l0 hi_238_258 ?_
                  refine l1 (v := t.1.1 4) hi_238_259 rfl ?_
                  refine l32 (as := [.ref 39, .int 1, .int 0, .int (t.1.1 4)]) (la := [some (.ref 39), some (.int 1), some (.int 0), some (.int (t.1.1 4))]) (rest := []) hi_238_261 (am_hd0 (M := 238) (by decide) 261) rfl rfl rfl (fun N' d' _ => lt239 (N := N') (d := d') h28) ?_ (fun _ q => nomatch q.1)
                  rintro v116 S114 ⟨ev116, h115⟩
                  cases ev116
                  show am_L _ _ _ _ _ [some (.ref 39), some (.int y1), some (.int y2), some (.int t.2.1), some (.int 1), some (.int (t.1.1 4)), some (.int 1), some (.int ((((k200 t.1 1).1).1 4) + 1))] [] _ _
                  refine l2 (v := 39) hi_238_264 rfl ?_
                  refine l32 (as := [.ref 39]) (la := [some (.ref 39)]) (rest := []) hi_238_265 (am_hd0 (M := 238) (by decide) 265) rfl rfl rfl (fun N' d' _ => lt183 (N := N') (d := d') h115) ?_ (fun _ q => nomatch q.1)
                  rintro v119 S117 ⟨ev119, h118⟩
                  cases ev119
                  show am_L _ _ _ _ _ [some (.ref 39), some (.int y1), some (.int y2), some (.int t.2.1), some (.int 1), some (.int (t.1.1 4)), some (.int 1), some (.int ((((k200 t.1 1).1).1 4) + 1))] [.int (k183 ((k239 ((k200 ((k200 (kf ((k200 t.1 1).1) 4 ((((k200 t.1 1).1).1 4) + 1)) 1).1) 58).1) 1 0 (t.1.1 4)).1))] _ _
                  refine l0 hi_238_268 ?_
                  by_cases c120 : (k183 ((k239 ((k200 ((k200 (kf ((k200 t.1 1).1) 4 ((((k200 t.1 1).1).1 4) + 1)) 1).1) 58).1) 1 0 (t.1.1 4)).1)) ≠ 69
                  · refine l13t hi_238_270 (decide_eq_true c120) ?_
                    refine l0 hi_238_277 ?_
                    refine l3 (ls' := [some (.ref 39), some (.int y1), some (.int y2), some (.int 0), some (.int 1), some (.int (t.1.1 4)), some (.int 1), some (.int ((((k200 t.1 1).1).1 4) + 1))]) hi_238_278 (Nat.le_of_ble_eq_true rfl) rfl ?_
                    refine l2 (v := 39) hi_238_279 rfl ?_
                    refine l7 hi_238_280 ?_
                    refine l20 (v := .int (((k239 ((k200 ((k200 (kf ((k200 t.1 1).1) 4 ((((k200 t.1 1).1).1 4) + 1)) 1).1) 58).1) 1 0 (t.1.1 4)).1).1 4)) h118 hi_238_281 rfl ?_
                    refine l1 (v := 0) hi_238_284 rfl ?_
                    refine l12t hi_238_285 (by decide) ?_
                    refine l0 hi_238_292 ?_
                    refine l10 hi_238_293 ?_
                    show am_L _ _ _ _ _ [some (.ref 39), some (.int y1), some (.int y2), some (.int 0), some (.int 1), some (.int (t.1.1 4)), some (.int 1), some (.int ((((k200 t.1 1).1).1 4) + 1))] [.int ((((k239 ((k200 ((k200 (kf ((k200 t.1 1).1) 4 ((((k200 t.1 1).1).1 4) + 1)) 1).1) 58).1) 1 0 (t.1.1 4)).1).1 4) + 0), .ref 39] _ _
                    refine l21 h118 hi_238_294 ms_4 fun S121 h122 => ?_
                    refine l18 hi_238_297 ?_
                    have e0 : (k238b113 y1 y2) t = (0, (kf ((k239 ((k200 ((k200 (kf ((k200 t.1 1).1) 4 ((((k200 t.1 1).1).1 4) + 1)) 1).1) 58).1) 1 0 (t.1.1 4)).1) 4 ((((k239 ((k200 ((k200 (kf ((k200 t.1 1).1) 4 ((((k200 t.1 1).1).1 4) + 1)) 1).1) 58).1) 1 0 (t.1.1 4)).1).1 4) + 0), 0, 1)) := by unfold k238b113; rw [if_neg c1]; rw [if_pos c5]; rw [if_neg c9]; rw [if_neg c26]; rw [if_pos c30]; rw [if_neg c33]; rw [if_pos c113]; rw [if_pos c120]
                    have e1 : ∀ m, kwh (k238b113 y1 y2) (m + 1) t = kwh (k238b113 y1 y2) m (kf ((k239 ((k200 ((k200 (kf ((k200 t.1 1).1) 4 ((((k200 t.1 1).1).1 4) + 1)) 1).1) 58).1) 1 0 (t.1.1 4)).1) 4 ((((k239 ((k200 ((k200 (kf ((k200 t.1 1).1) 4 ((((k200 t.1 1).1).1 4) + 1)) 1).1) 58).1) 1 0 (t.1.1 4)).1).1 4) + 0), 0, 1) := fun m => by rw [kwh_go (by rw [e0]), e0]
                    exact ih _ (some (.int (t.1.1 4))) (some (.int 1)) (some (.int ((((k200 t.1 1).1).1 4) + 1))) (kf ((k239 ((k200 ((k200 (kf ((k200 t.1 1).1) 4 ((((k200 t.1 1).1).1 4) + 1)) 1).1) 58).1) 1 0 (t.1.1 4)).1) 4 ((((k239 ((k200 ((k200 (kf ((k200 t.1 1).1) 4 ((((k200 t.1 1).1).1 4) + 1)) 1).1) 58).1) 1 0 (t.1.1 4)).1).1 4) + 0), 0, 1) h122 (fun m S1 p5 p6 p7 hm h1 => by have q := kx131 (m + 1) S1 p5 p6 p7 (by rw [e1]; exact hm) (by rw [e1]; exact h1); rw [e1] at q; exact q.less (Nat.le_succ N)) (fun m S1 p5 p6 p7 hm h1 => by have q := kx177 (m + 1) S1 p5 p6 p7 (by rw [e1]; exact hm) (by rw [e1]; exact h1); rw [e1] at q; exact q.less (Nat.le_succ N)) (fun m S1 p5 p6 p7 hm h1 => by have q := kx300 (m + 1) S1 p5 p6 p7 (by rw [e1]; exact hm) (by rw [e1]; exact h1); rw [e1] at q; exact q.less (Nat.le_succ N))
                  · refine l13f hi_238_270 (decide_eq_false c120) ?_
                    refine l0 hi_238_273 ?_
                    refine l18 hi_238_274 ?_
                    refine l3 (ls' := [some (.ref 39), some (.int y1), some (.int y2), some (.int 1), some (.int 1), some (.int (t.1.1 4)), some (.int 1), some (.int ((((k200 t.1 1).1).1 4) + 1))]) hi_238_278 (Nat.le_of_ble_eq_true rfl) rfl ?_
                    refine l2 (v := 39) hi_238_279 rfl ?_
                    refine l7 hi_238_280 ?_
                    refine l20 (v := .int (((k239 ((k200 ((k200 (kf ((k200 t.1 1).1) 4 ((((k200 t.1 1).1).1 4) + 1)) 1).1) 58).1) 1 0 (t.1.1 4)).1).1 4)) h118 hi_238_281 rfl ?_
                    refine l1 (v := 1) hi_238_284 rfl ?_
                    refine l12f hi_238_285 (by decide) ?_
                    refine l0 hi_238_288 ?_
                    refine l18 hi_238_289 ?_
                    refine l10 hi_238_293 ?_
                    show am_L _ _ _ _ _ [some (.ref 39), some (.int y1), some (.int y2), some (.int 1), some (.int 1), some (.int (t.1.1 4)), some (.int 1), some (.int ((((k200 t.1 1).1).1 4) + 1))] [.int ((((k239 ((k200 ((k200 (kf ((k200 t.1 1).1) 4 ((((k200 t.1 1).1).1 4) + 1)) 1).1) 58).1) 1 0 (t.1.1 4)).1).1 4) + 1), .ref 39] _ _
                    refine l21 h118 hi_238_294 ms_4 fun S123 h124 => ?_
                    refine l18 hi_238_297 ?_
                    have e0 : (k238b113 y1 y2) t = (0, (kf ((k239 ((k200 ((k200 (kf ((k200 t.1 1).1) 4 ((((k200 t.1 1).1).1 4) + 1)) 1).1) 58).1) 1 0 (t.1.1 4)).1) 4 ((((k239 ((k200 ((k200 (kf ((k200 t.1 1).1) 4 ((((k200 t.1 1).1).1 4) + 1)) 1).1) 58).1) 1 0 (t.1.1 4)).1).1 4) + 1), 1, 1)) := by unfold k238b113; rw [if_neg c1]; rw [if_pos c5]; rw [if_neg c9]; rw [if_neg c26]; rw [if_pos c30]; rw [if_neg c33]; rw [if_pos c113]; rw [if_neg c120]
                    have e1 : ∀ m, kwh (k238b113 y1 y2) (m + 1) t = kwh (k238b113 y1 y2) m (kf ((k239 ((k200 ((k200 (kf ((k200 t.1 1).1) 4 ((((k200 t.1 1).1).1 4) + 1)) 1).1) 58).1) 1 0 (t.1.1 4)).1) 4 ((((k239 ((k200 ((k200 (kf ((k200 t.1 1).1) 4 ((((k200 t.1 1).1).1 4) + 1)) 1).1) 58).1) 1 0 (t.1.1 4)).1).1 4) + 1), 1, 1) := fun m => by rw [kwh_go (by rw [e0]), e0]
                    exact ih _ (some (.int (t.1.1 4))) (some (.int 1)) (some (.int ((((k200 t.1 1).1).1 4) + 1))) (kf ((k239 ((k200 ((k200 (kf ((k200 t.1 1).1) 4 ((((k200 t.1 1).1).1 4) + 1)) 1).1) 58).1) 1 0 (t.1.1 4)).1) 4 ((((k239 ((k200 ((k200 (kf ((k200 t.1 1).1) 4 ((((k200 t.1 1).1).1 4) + 1)) 1).1) 58).1) 1 0 (t.1.1 4)).1).1 4) + 1), 1, 1) h124 (fun m S1 p5 p6 p7 hm h1 => by have q := kx131 (m + 1) S1 p5 p6 p7 (by rw [e1]; exact hm) (by rw [e1]; exact h1); rw [e1] at q; exact q.less (Nat.le_succ N)) (fun m S1 p5 p6 p7 hm h1 => by have q := kx177 (m + 1) S1 p5 p6 p7 (by rw [e1]; exact hm) (by rw [e1]; exact h1); rw [e1] at q; exact q.less (Nat.le_succ N)) (fun m S1 p5 p6 p7 hm h1 => by have q := kx300 (m + 1) S1 p5 p6 p7 (by rw [e1]; exact hm) (by rw [e1]; exact h1); rw [e1] at q; exact q.less (Nat.le_succ N))
                · refine l12f hi_238_239 (decide_eq_false c113) ?_
                  refine l1 (v := 1) hi_238_242 rfl ?_
                  refine l0 hi_238_244 ?_
                  refine l13t hi_238_245 (by decide) ?_
                  refine l0 hi_238_252 ?_
                  refine l3 (ls' := [some (.ref 39), some (.int y1), some (.int y2), some (.int t.2.1), some (.int 0), some (.int (t.1.1 4)), some (.int 1), some (.int ((((k200 t.1 1).1).1 4) + 1))]) hi_238_253 (Nat.le_of_ble_eq_true rfl) rfl ?_
                  refine l2 (v := 39) hi_238_255 rfl ?_
                  refine l1 (v := 1) hi_238_256 rfl ?_
                  refine l0 hi_238_258 ?_
                  refine l1 (v := t.1.1 4) hi_238_259 rfl ?_
                  refine l32 (as := [.ref 39, .int 1, .int 0, .int (t.1.1 4)]) (la := [some (.ref 39), some (.int 1), some (.int 0), some (.int (t.1.1 4))]) (rest := []) hi_238_261 (am_hd0 (M := 238) (by decide) 261) rfl rfl rfl (fun N' d' _ => lt239 (N := N') (d := d') h28) ?_ (fun _ q => nomatch q.1)
                  rintro v127 S125 ⟨ev127, h126⟩
                  cases ev127
                  show am_L _ _ _ _ _ [some (.ref 39), some (.int y1), some (.int y2), some (.int t.2.1), some (.int 0), some (.int (t.1.1 4)), some (.int 1), some (.int ((((k200 t.1 1).1).1 4) + 1))] [] _ _
                  refine l2 (v := 39) hi_238_264 rfl ?_
                  refine l32 (as := [.ref 39]) (la := [some (.ref 39)]) (rest := []) hi_238_265 (am_hd0 (M := 238) (by decide) 265) rfl rfl rfl (fun N' d' _ => lt183 (N := N') (d := d') h126) ?_ (fun _ q => nomatch q.1)
                  rintro v130 S128 ⟨ev130, h129⟩
                  cases ev130
                  show am_L _ _ _ _ _ [some (.ref 39), some (.int y1), some (.int y2), some (.int t.2.1), some (.int 0), some (.int (t.1.1 4)), some (.int 1), some (.int ((((k200 t.1 1).1).1 4) + 1))] [.int (k183 ((k239 ((k200 ((k200 (kf ((k200 t.1 1).1) 4 ((((k200 t.1 1).1).1 4) + 1)) 1).1) 58).1) 1 0 (t.1.1 4)).1))] _ _
                  refine l0 hi_238_268 ?_
                  by_cases c131 : (k183 ((k239 ((k200 ((k200 (kf ((k200 t.1 1).1) 4 ((((k200 t.1 1).1).1 4) + 1)) 1).1) 58).1) 1 0 (t.1.1 4)).1)) ≠ 69
                  · refine l13t hi_238_270 (decide_eq_true c131) ?_
                    refine l0 hi_238_277 ?_
                    refine l3 (ls' := [some (.ref 39), some (.int y1), some (.int y2), some (.int 0), some (.int 0), some (.int (t.1.1 4)), some (.int 1), some (.int ((((k200 t.1 1).1).1 4) + 1))]) hi_238_278 (Nat.le_of_ble_eq_true rfl) rfl ?_
                    refine l2 (v := 39) hi_238_279 rfl ?_
                    refine l7 hi_238_280 ?_
                    refine l20 (v := .int (((k239 ((k200 ((k200 (kf ((k200 t.1 1).1) 4 ((((k200 t.1 1).1).1 4) + 1)) 1).1) 58).1) 1 0 (t.1.1 4)).1).1 4)) h129 hi_238_281 rfl ?_
                    refine l1 (v := 0) hi_238_284 rfl ?_
                    refine l12t hi_238_285 (by decide) ?_
                    refine l0 hi_238_292 ?_
                    refine l10 hi_238_293 ?_
                    show am_L _ _ _ _ _ [some (.ref 39), some (.int y1), some (.int y2), some (.int 0), some (.int 0), some (.int (t.1.1 4)), some (.int 1), some (.int ((((k200 t.1 1).1).1 4) + 1))] [.int ((((k239 ((k200 ((k200 (kf ((k200 t.1 1).1) 4 ((((k200 t.1 1).1).1 4) + 1)) 1).1) 58).1) 1 0 (t.1.1 4)).1).1 4) + 0), .ref 39] _ _
                    refine l21 h129 hi_238_294 ms_4 fun S132 h133 => ?_
                    refine l18 hi_238_297 ?_
                    have e0 : (k238b113 y1 y2) t = (0, (kf ((k239 ((k200 ((k200 (kf ((k200 t.1 1).1) 4 ((((k200 t.1 1).1).1 4) + 1)) 1).1) 58).1) 1 0 (t.1.1 4)).1) 4 ((((k239 ((k200 ((k200 (kf ((k200 t.1 1).1) 4 ((((k200 t.1 1).1).1 4) + 1)) 1).1) 58).1) 1 0 (t.1.1 4)).1).1 4) + 0), 0, 0)) := by unfold k238b113; rw [if_neg c1]; rw [if_pos c5]; rw [if_neg c9]; rw [if_neg c26]; rw [if_pos c30]; rw [if_neg c33]; rw [if_neg c113]; rw [if_pos c131]
                    have e1 : ∀ m, kwh (k238b113 y1 y2) (m + 1) t = kwh (k238b113 y1 y2) m (kf ((k239 ((k200 ((k200 (kf ((k200 t.1 1).1) 4 ((((k200 t.1 1).1).1 4) + 1)) 1).1) 58).1) 1 0 (t.1.1 4)).1) 4 ((((k239 ((k200 ((k200 (kf ((k200 t.1 1).1) 4 ((((k200 t.1 1).1).1 4) + 1)) 1).1) 58).1) 1 0 (t.1.1 4)).1).1 4) + 0), 0, 0) := fun m => by rw [kwh_go (by rw [e0]), e0]
                    exact ih _ (some (.int (t.1.1 4))) (some (.int 1)) (some (.int ((((k200 t.1 1).1).1 4) + 1))) (kf ((k239 ((k200 ((k200 (kf ((k200 t.1 1).1) 4 ((((k200 t.1 1).1).1 4) + 1)) 1).1) 58).1) 1 0 (t.1.1 4)).1) 4 ((((k239 ((k200 ((k200 (kf ((k200 t.1 1).1) 4 ((((k200 t.1 1).1).1 4) + 1)) 1).1) 58).1) 1 0 (t.1.1 4)).1).1 4) + 0), 0, 0) h133 (fun m S1 p5 p6 p7 hm h1 => by have q := kx131 (m + 1) S1 p5 p6 p7 (by rw [e1]; exact hm) (by rw [e1]; exact h1); rw [e1] at q; exact q.less (Nat.le_succ N)) (fun m S1 p5 p6 p7 hm h1 => by have q := kx177 (m + 1) S1 p5 p6 p7 (by rw [e1]; exact hm) (by rw [e1]; exact h1); rw [e1] at q; exact q.less (Nat.le_succ N)) (fun m S1 p5 p6 p7 hm h1 => by have q := kx300 (m + 1) S1 p5 p6 p7 (by rw [e1]; exact hm) (by rw [e1]; exact h1); rw [e1] at q; exact q.less (Nat.le_succ N))
                  · refine l13f hi_238_270 (decide_eq_false c131) ?_
                    refine l0 hi_238_273 ?_
                    refine l18 hi_238_274 ?_
                    refine l3 (ls' := [some (.ref 39), some (.int y1), some (.int y2), some (.int 1), some (.int 0), some (.int (t.1.1 4)), some (.int 1), some (.int ((((k200 t.1 1).1).1 4) + 1))]) hi_238_278 (Nat.le_of_ble_eq_true rfl) rfl ?_
                    refine l2 (v := 39) hi_238_279 rfl ?_
                    refine l7 hi_238_280 ?_
                    refine l20 (v := .int (((k239 ((k200 ((k200 (kf ((k200 t.1 1).1) 4 ((((k200 t.1 1).1).1 4) + 1)) 1).1) 58).1) 1 0 (t.1.1 4)).1).1 4)) h129 hi_238_281 rfl ?_
                    refine l1 (v := 1) hi_238_284 rfl ?_
                    refine l12f hi_238_285 (by decide) ?_
                    refine l0 hi_238_288 ?_
                    refine l18 hi_238_289 ?_
                    refine l10 hi_238_293 ?_
                    show am_L _ _ _ _ _ [some (.ref 39), some (.int y1), some (.int y2), some (.int 1), some (.int 0), some (.int (t.1.1 4)), some (.int 1), some (.int ((((k200 t.1 1).1).1 4) + 1))] [.int ((((k239 ((k200 ((k200 (kf ((k200 t.1 1).1) 4 ((((k200 t.1 1).1).1 4) + 1)) 1).1) 58).1) 1 0 (t.1.1 4)).1).1 4) + 1), .ref 39] _ _
                    refine l21 h129 hi_238_294 ms_4 fun S134 h135 => ?_
                    refine l18 hi_238_297 ?_
                    have e0 : (k238b113 y1 y2) t = (0, (kf ((k239 ((k200 ((k200 (kf ((k200 t.1 1).1) 4 ((((k200 t.1 1).1).1 4) + 1)) 1).1) 58).1) 1 0 (t.1.1 4)).1) 4 ((((k239 ((k200 ((k200 (kf ((k200 t.1 1).1) 4 ((((k200 t.1 1).1).1 4) + 1)) 1).1) 58).1) 1 0 (t.1.1 4)).1).1 4) + 1), 1, 0)) := by unfold k238b113; rw [if_neg c1]; rw [if_pos c5]; rw [if_neg c9]; rw [if_neg c26]; rw [if_pos c30]; rw [if_neg c33]; rw [if_neg c113]; rw [if_neg c131]
                    have e1 : ∀ m, kwh (k238b113 y1 y2) (m + 1) t = kwh (k238b113 y1 y2) m (kf ((k239 ((k200 ((k200 (kf ((k200 t.1 1).1) 4 ((((k200 t.1 1).1).1 4) + 1)) 1).1) 58).1) 1 0 (t.1.1 4)).1) 4 ((((k239 ((k200 ((k200 (kf ((k200 t.1 1).1) 4 ((((k200 t.1 1).1).1 4) + 1)) 1).1) 58).1) 1 0 (t.1.1 4)).1).1 4) + 1), 1, 0) := fun m => by rw [kwh_go (by rw [e0]), e0]
                    exact ih _ (some (.int (t.1.1 4))) (some (.int 1)) (some (.int ((((k200 t.1 1).1).1 4) + 1))) (kf ((k239 ((k200 ((k200 (kf ((k200 t.1 1).1) 4 ((((k200 t.1 1).1).1 4) + 1)) 1).1) 58).1) 1 0 (t.1.1 4)).1) 4 ((((k239 ((k200 ((k200 (kf ((k200 t.1 1).1) 4 ((((k200 t.1 1).1).1 4) + 1)) 1).1) 58).1) 1 0 (t.1.1 4)).1).1 4) + 1), 1, 0) h135 (fun m S1 p5 p6 p7 hm h1 => by have q := kx131 (m + 1) S1 p5 p6 p7 (by rw [e1]; exact hm) (by rw [e1]; exact h1); rw [e1] at q; exact q.less (Nat.le_succ N)) (fun m S1 p5 p6 p7 hm h1 => by have q := kx177 (m + 1) S1 p5 p6 p7 (by rw [e1]; exact hm) (by rw [e1]; exact h1); rw [e1] at q; exact q.less (Nat.le_succ N)) (fun m S1 p5 p6 p7 hm h1 => by have q := kx300 (m + 1) S1 p5 p6 p7 (by rw [e1]; exact hm) (by rw [e1]; exact h1); rw [e1] at q; exact q.less (Nat.le_succ N))
            · refine l12f hi_238_174 (decide_eq_false c30) ?_
              have e0 : (k238b113 y1 y2) t = (2, ((k200 ((k200 (kf ((k200 t.1 1).1) 4 ((((k200 t.1 1).1).1 4) + 1)) 1).1) 58).1, t.2.1, t.2.2)) := by unfold k238b113; rw [if_neg c1]; rw [if_pos c5]; rw [if_neg c9]; rw [if_neg c26]; rw [if_neg c30]
              have e1 : kwh (k238b113 y1 y2) 1 t = (2, ((k200 ((k200 (kf ((k200 t.1 1).1) 4 ((((k200 t.1 1).1).1 4) + 1)) 1).1) 58).1, t.2.1, t.2.2)) := by rw [kwh_out (by rw [e0]; exact Nat.succ_ne_zero _), e0]
              have q := kx177 1 _ (some (.int (t.1.1 4))) (some (.int 0)) (some (.int ((((k200 t.1 1).1).1 4) + 1))) (by rw [e1]) (by rw [e1]; exact h28)
              rw [e1] at q
              exact q.less (Nat.le_succ N)
      · refine l12f hi_238_128 (decide_eq_false c5) ?_
        have e0 : (k238b113 y1 y2) t = (1, ((k200 t.1 1).1, t.2.1, t.2.2)) := by unfold k238b113; rw [if_neg c1]; rw [if_neg c5]
        have e1 : kwh (k238b113 y1 y2) 1 t = (1, ((k200 t.1 1).1, t.2.1, t.2.2)) := by rw [kwh_out (by rw [e0]; exact Nat.succ_ne_zero _), e0]
        have q := kx131 1 _ (some (.int (t.1.1 4))) o6 o7 (by rw [e1]) (by rw [e1]; exact h3)
        rw [e1] at q
        exact q.less (Nat.le_succ N)
noncomputable def k238_345 (s : kS) (y1 : Int32) (y2 : Int32) : kS × Int32 := ((k241 s y1 y2).1, 0)
theorem lt238_345 {sc : Nat × (Nat → Int32)} {N d : Nat} {S0 S : am_S} {s : kS} {y1 : Int32} {y2 : Int32} {o3 : Option Value} {o4 : Option Value} {o5 : Option Value} {o6 : Option Value} {o7 : Option Value} (hS : MK S0 S s) : am_L (am_PP sc) N d 238 345 [some (.ref 39), some (.int y1), some (.int y2), o3, o4, o5, o6, o7] [] S (fun o S1 => o = some none ∧ MK S0 S1 (k238_345 s y1 y2).1) := by
  refine l2 (v := 39) hi_238_345 rfl ?_
  refine l1 (v := y1) hi_238_346 rfl ?_
  refine l1 (v := y2) hi_238_347 rfl ?_
  refine l32 (as := [.ref 39, .int y1, .int y2]) (la := [some (.ref 39), some (.int y1), some (.int y2), none, none, none]) (rest := []) hi_238_348 (am_hd0 (M := 238) (by decide) 348) rfl rfl rfl (fun N' d' _ => lt241 (N := N') (d := d') hS) ?_ (fun _ q => nomatch q.1)
  rintro v3 S1 ⟨ev3, h2⟩
  cases ev3
  show am_L _ _ _ _ _ [some (.ref 39), some (.int y1), some (.int y2), o3, o4, o5, o6, o7] [] _ _
  refine l35 hi_238_351 ⟨rfl, ?_⟩
  exact h2
noncomputable def k238_328 (s : kS) : kS × Int32 := ((k214 s).1, 0)
theorem lt238_328 {sc : Nat × (Nat → Int32)} {N d : Nat} {S0 S : am_S} {s : kS} {o1 : Option Value} {o2 : Option Value} {o3 : Option Value} {o4 : Option Value} {o5 : Option Value} {o6 : Option Value} {o7 : Option Value} (hS : MK S0 S s) : am_L (am_PP sc) N d 238 328 [some (.ref 39), o1, o2, o3, o4, o5, o6, o7] [] S (fun o S1 => o = some none ∧ MK S0 S1 (k238_328 s).1) := by
  refine l2 (v := 39) hi_238_328 rfl ?_
  refine l32 (as := [.ref 39]) (la := [some (.ref 39)]) (rest := []) hi_238_329 (am_hd0 (M := 238) (by decide) 329) rfl rfl rfl (fun N' d' _ => lt214 (N := N') (d := d') hS) ?_ (fun _ q => nomatch q.1)
  rintro v3 S1 ⟨ev3, h2⟩
  cases ev3
  show am_L _ _ _ _ _ [some (.ref 39), o1, o2, o3, o4, o5, o6, o7] [] _ _
  refine l18 hi_238_332 ?_
  refine l35 hi_238_351 ⟨rfl, ?_⟩
  exact h2
noncomputable def k238_96 (s : kS) (y2 : Int32) : kS × Int32 := ((k195 s 0 y2).1, 0)
theorem lt238_96 {sc : Nat × (Nat → Int32)} {N d : Nat} {S0 S : am_S} {s : kS} {y2 : Int32} {o1 : Option Value} {o3 : Option Value} {o4 : Option Value} {o5 : Option Value} {o6 : Option Value} {o7 : Option Value} (hS : MK S0 S s) : am_L (am_PP sc) N d 238 96 [some (.ref 39), o1, some (.int y2), o3, o4, o5, o6, o7] [] S (fun o S1 => o = some none ∧ MK S0 S1 (k238_96 s y2).1) := by
  refine l2 (v := 39) hi_238_96 rfl ?_
  refine l0 hi_238_97 ?_
  refine l1 (v := y2) hi_238_98 rfl ?_
  refine l32 (as := [.ref 39, .int 0, .int y2]) (la := [some (.ref 39), some (.int 0), some (.int y2), none, none]) (rest := []) hi_238_99 (am_hd0 (M := 238) (by decide) 99) rfl rfl rfl (fun N' d' _ => lt195 (N := N') (d := d') hS) ?_ (fun _ q => nomatch q.1)
  rintro v3 S1 ⟨ev3, h2⟩
  cases ev3
  show am_L _ _ _ _ _ [some (.ref 39), o1, some (.int y2), o3, o4, o5, o6, o7] [] _ _
  refine l35 hi_238_102 ⟨rfl, ?_⟩
  exact h2
noncomputable def k238_87 (s : kS) (y2 : Int32) : kS × Int32 := k238_96 ((k179 s 41 y2 0 0).1) y2
theorem lt238_87 {sc : Nat × (Nat → Int32)} {N d : Nat} {S0 S : am_S} {s : kS} {y2 : Int32} {o1 : Option Value} {o3 : Option Value} {o4 : Option Value} {o5 : Option Value} {o6 : Option Value} {o7 : Option Value} (hS : MK S0 S s) : am_L (am_PP sc) N d 238 87 [some (.ref 39), o1, some (.int y2), o3, o4, o5, o6, o7] [] S (fun o S1 => o = some none ∧ MK S0 S1 (k238_87 s y2).1) := by
  refine l2 (v := 39) hi_238_87 rfl ?_
  refine l0 hi_238_88 ?_
  refine l1 (v := y2) hi_238_90 rfl ?_
  refine l0 hi_238_91 ?_
  refine l0 hi_238_92 ?_
  refine l32 (as := [.ref 39, .int 41, .int y2, .int 0, .int 0]) (la := [some (.ref 39), some (.int 41), some (.int y2), some (.int 0), some (.int 0)]) (rest := []) hi_238_93 (am_hd0 (M := 238) (by decide) 93) rfl rfl rfl (fun N' d' _ => lt179 (N := N') (d := d') hS) ?_ (fun _ q => nomatch q.1)
  rintro v3 S1 ⟨ev3, h2⟩
  cases ev3
  show am_L _ _ _ _ _ [some (.ref 39), o1, some (.int y2), o3, o4, o5, o6, o7] [] _ _
  refine am_L.mono (lt238_96 h2) ?_
  rintro o S1 ⟨e, h⟩
  have q : k238_87 s y2 = k238_96 ((k179 s 41 y2 0 0).1) y2 := rfl
  rw [q]; exact ⟨e, h⟩
noncomputable def k238_76 (s : kS) (y2 : Int32) (y3 : Int32) (y4 : Int32) (z0 : Int32) : kS × Int32 := k238_87 ((k179 s 17 y4 y3 0).1) y2
theorem lt238_76 {sc : Nat × (Nat → Int32)} {N d : Nat} {S0 S : am_S} {s : kS} {y2 : Int32} {y3 : Int32} {y4 : Int32} {z0 : Int32} {o1 : Option Value} {o5 : Option Value} {o6 : Option Value} {o7 : Option Value} (hS : MK S0 S s) : am_L (am_PP sc) N d 238 76 [some (.ref 39), o1, some (.int y2), some (.int y3), some (.int y4), o5, o6, o7] [.int z0] S (fun o S1 => o = some none ∧ MK S0 S1 (k238_76 s y2 y3 y4 z0).1) := by
  refine l6i hi_238_76 ?_
  refine l2 (v := 39) hi_238_77 rfl ?_
  refine l0 hi_238_78 ?_
  refine l1 (v := y4) hi_238_80 rfl ?_
  refine l1 (v := y3) hi_238_82 rfl ?_
  refine l0 hi_238_83 ?_
  refine l32 (as := [.ref 39, .int 17, .int y4, .int y3, .int 0]) (la := [some (.ref 39), some (.int 17), some (.int y4), some (.int y3), some (.int 0)]) (rest := []) hi_238_84 (am_hd0 (M := 238) (by decide) 84) rfl rfl rfl (fun N' d' _ => lt179 (N := N') (d := d') hS) ?_ (fun _ q => nomatch q.1)
  rintro v3 S1 ⟨ev3, h2⟩
  cases ev3
  show am_L _ _ _ _ _ [some (.ref 39), o1, some (.int y2), some (.int y3), some (.int y4), o5, o6, o7] [] _ _
  refine am_L.mono (lt238_87 h2) ?_
  rintro o S1 ⟨e, h⟩
  have q : k238_76 s y2 y3 y4 z0 = k238_87 ((k179 s 17 y4 y3 0).1) y2 := rfl
  rw [q]; exact ⟨e, h⟩
noncomputable def k238_66 (s : kS) (y1 : Int32) (y2 : Int32) (y3 : Int32) (y4 : Int32) : kS × Int32 := k238_76 ((k189 s 27 y4 1 y1).1) y2 y3 y4 ((k189 s 27 y4 1 y1).2)
theorem lt238_66 {sc : Nat × (Nat → Int32)} {N d : Nat} {S0 S : am_S} {s : kS} {y1 : Int32} {y2 : Int32} {y3 : Int32} {y4 : Int32} {o5 : Option Value} {o6 : Option Value} {o7 : Option Value} (hS : MK S0 S s) : am_L (am_PP sc) N d 238 66 [some (.ref 39), some (.int y1), some (.int y2), some (.int y3), some (.int y4), o5, o6, o7] [] S (fun o S1 => o = some none ∧ MK S0 S1 (k238_66 s y1 y2 y3 y4).1) := by
  refine l2 (v := 39) hi_238_66 rfl ?_
  refine l0 hi_238_67 ?_
  refine l1 (v := y4) hi_238_69 rfl ?_
  refine l0 hi_238_71 ?_
  refine l1 (v := y1) hi_238_72 rfl ?_
  refine l32 (as := [.ref 39, .int 27, .int y4, .int 1, .int y1]) (la := [some (.ref 39), some (.int 27), some (.int y4), some (.int 1), some (.int y1)]) (rest := []) hi_238_73 (am_hd0 (M := 238) (by decide) 73) rfl rfl rfl (fun N' d' _ => lt189 (N := N') (d := d') hS) ?_ (fun _ q => nomatch q.1)
  rintro v3 S1 ⟨ev3, h2⟩
  cases ev3
  show am_L _ _ _ _ _ [some (.ref 39), some (.int y1), some (.int y2), some (.int y3), some (.int y4), o5, o6, o7] [.int ((k189 s 27 y4 1 y1).2)] _ _
  refine am_L.mono (lt238_76 h2) ?_
  rintro o S1 ⟨e, h⟩
  have q : k238_66 s y1 y2 y3 y4 = k238_76 ((k189 s 27 y4 1 y1).1) y2 y3 y4 ((k189 s 27 y4 1 y1).2) := rfl
  rw [q]; exact ⟨e, h⟩
noncomputable def k238_46 (s : kS) (y1 : Int32) (y2 : Int32) (y3 : Int32) (z0 : Int32) : kS × Int32 := k238_66 ((k196 s (kr s 2 y3) 0 0 y3).1) y1 y2 y3 (k197 s)
theorem lt238_46 {sc : Nat × (Nat → Int32)} {N d : Nat} {S0 S : am_S} {s : kS} {y1 : Int32} {y2 : Int32} {y3 : Int32} {z0 : Int32} {o4 : Option Value} {o5 : Option Value} {o6 : Option Value} {o7 : Option Value} (hS : MK S0 S s) : am_L (am_PP sc) N d 238 46 [some (.ref 39), some (.int y1), some (.int y2), some (.int y3), o4, o5, o6, o7] [.int z0] S (fun o S1 => o = some none ∧ MK S0 S1 (k238_46 s y1 y2 y3 z0).1) := by
  refine l6i hi_238_46 ?_
  refine l2 (v := 39) hi_238_47 rfl ?_
  refine l32 (as := [.ref 39]) (la := [some (.ref 39)]) (rest := []) hi_238_48 (am_hd0 (M := 238) (by decide) 48) rfl rfl rfl (fun N' d' _ => lt197 (N := N') (d := d') hS) ?_ (fun _ q => nomatch q.1)
  rintro v3 S1 ⟨ev3, h2⟩
  cases ev3
  show am_L _ _ _ _ _ [some (.ref 39), some (.int y1), some (.int y2), some (.int y3), o4, o5, o6, o7] [.int (k197 s)] _ _
  refine l3 (ls' := [some (.ref 39), some (.int y1), some (.int y2), some (.int y3), some (.int (k197 s)), o5, o6, o7]) hi_238_51 (Nat.le_of_ble_eq_true rfl) rfl ?_
  refine l2 (v := 39) hi_238_53 rfl ?_
  refine l2 (v := 39) hi_238_54 rfl ?_
  refine l20 (v := .ref 41) h2 hi_238_55 rfl ?_
  refine l1 (v := y3) hi_238_58 rfl ?_
  refine l25 h2 ma_2 hi_238_59 fun g4 g5 => ?_
  show am_L _ _ _ _ _ [some (.ref 39), some (.int y1), some (.int y2), some (.int y3), some (.int (k197 s)), o5, o6, o7] [.int (kr s 2 y3), .ref 39] _ _
  refine l0 hi_238_60 ?_
  refine l0 hi_238_61 ?_
  refine l1 (v := y3) hi_238_62 rfl ?_
  refine l32 (as := [.ref 39, .int (kr s 2 y3), .int 0, .int 0, .int y3]) (la := [some (.ref 39), some (.int (kr s 2 y3)), some (.int 0), some (.int 0), some (.int y3), none]) (rest := []) hi_238_63 (am_hd0 (M := 238) (by decide) 63) rfl rfl rfl (fun N' d' _ => lt196 (N := N') (d := d') h2) ?_ (fun _ q => nomatch q.1)
  rintro v8 S6 ⟨ev8, h7⟩
  cases ev8
  show am_L _ _ _ _ _ [some (.ref 39), some (.int y1), some (.int y2), some (.int y3), some (.int (k197 s)), o5, o6, o7] [] _ _
  refine am_L.mono (lt238_66 h7) ?_
  rintro o S1 ⟨e, h⟩
  have q : k238_46 s y1 y2 y3 z0 = k238_66 ((k196 s (kr s 2 y3) 0 0 y3).1) y1 y2 y3 (k197 s) := rfl
  rw [q]; exact ⟨e, h⟩
noncomputable def k238_34 (s : kS) (y1 : Int32) (y2 : Int32) (y3 : Int32) (z0 : Int32) : kS × Int32 := if z0 ≠ 0 then k238_46 ((k189 s 1 0 0 0).1) y1 y2 y3 ((k189 s 1 0 0 0).2) else (s, 0)
theorem lt238_34 {sc : Nat × (Nat → Int32)} {N d : Nat} {S0 S : am_S} {s : kS} {y1 : Int32} {y2 : Int32} {y3 : Int32} {z0 : Int32} {o4 : Option Value} {o5 : Option Value} {o6 : Option Value} {o7 : Option Value} (hS : MK S0 S s) : am_L (am_PP sc) N d 238 34 [some (.ref 39), some (.int y1), some (.int y2), some (.int y3), o4, o5, o6, o7] [.int z0] S (fun o S1 => o = some none ∧ MK S0 S1 (k238_34 s y1 y2 y3 z0).1) := by
  by_cases c1 : z0 ≠ 0
  · refine l12t hi_238_34 (decide_eq_true c1) ?_
    refine l2 (v := 39) hi_238_38 rfl ?_
    refine l0 hi_238_39 ?_
    refine l0 hi_238_40 ?_
    refine l0 hi_238_41 ?_
    refine l0 hi_238_42 ?_
    refine l32 (as := [.ref 39, .int 1, .int 0, .int 0, .int 0]) (la := [some (.ref 39), some (.int 1), some (.int 0), some (.int 0), some (.int 0)]) (rest := []) hi_238_43 (am_hd0 (M := 238) (by decide) 43) rfl rfl rfl (fun N' d' _ => lt189 (N := N') (d := d') hS) ?_ (fun _ q => nomatch q.1)
    rintro v4 S2 ⟨ev4, h3⟩
    cases ev4
    show am_L _ _ _ _ _ [some (.ref 39), some (.int y1), some (.int y2), some (.int y3), o4, o5, o6, o7] [.int ((k189 s 1 0 0 0).2)] _ _
    refine am_L.mono (lt238_46 h3) ?_
    rintro o S1 ⟨e, h⟩
    have q : k238_34 s y1 y2 y3 z0 = k238_46 ((k189 s 1 0 0 0).1) y1 y2 y3 ((k189 s 1 0 0 0).2) := by unfold k238_34; rw [if_pos c1]
    rw [q]; exact ⟨e, h⟩
  · refine l12f hi_238_34 (decide_eq_false c1) ?_
    refine l35 hi_238_37 ⟨rfl, ?_⟩
    unfold k238_34; rw [if_neg c1]; exact hS
noncomputable def k238_20 (s : kS) (y1 : Int32) (y2 : Int32) (z0 : Int32) : kS × Int32 := if z0 ≠ 0 then k238_34 ((k200 s 1).1) y1 y2 (s.1 4) ((k200 s 1).2) else (s, 0)
theorem lt238_20 {sc : Nat × (Nat → Int32)} {N d : Nat} {S0 S : am_S} {s : kS} {y1 : Int32} {y2 : Int32} {z0 : Int32} {o3 : Option Value} {o4 : Option Value} {o5 : Option Value} {o6 : Option Value} {o7 : Option Value} (hS : MK S0 S s) : am_L (am_PP sc) N d 238 20 [some (.ref 39), some (.int y1), some (.int y2), o3, o4, o5, o6, o7] [.int z0] S (fun o S1 => o = some none ∧ MK S0 S1 (k238_20 s y1 y2 z0).1) := by
  by_cases c1 : z0 ≠ 0
  · refine l12t hi_238_20 (decide_eq_true c1) ?_
    refine l2 (v := 39) hi_238_24 rfl ?_
    refine l20 (v := .int (s.1 4)) hS hi_238_25 rfl ?_
    refine l3 (ls' := [some (.ref 39), some (.int y1), some (.int y2), some (.int (s.1 4)), o4, o5, o6, o7]) hi_238_28 (Nat.le_of_ble_eq_true rfl) rfl ?_
    refine l2 (v := 39) hi_238_29 rfl ?_
    refine l0 hi_238_30 ?_
    refine l32 (as := [.ref 39, .int 1]) (la := [some (.ref 39), some (.int 1)]) (rest := []) hi_238_31 (am_hd0 (M := 238) (by decide) 31) rfl rfl rfl (fun N' d' _ => lt200 (N := N') (d := d') hS) ?_ (fun _ q => nomatch q.1)
    rintro v4 S2 ⟨ev4, h3⟩
    cases ev4
    show am_L _ _ _ _ _ [some (.ref 39), some (.int y1), some (.int y2), some (.int (s.1 4)), o4, o5, o6, o7] [.int ((k200 s 1).2)] _ _
    refine am_L.mono (lt238_34 h3) ?_
    rintro o S1 ⟨e, h⟩
    have q : k238_20 s y1 y2 z0 = k238_34 ((k200 s 1).1) y1 y2 (s.1 4) ((k200 s 1).2) := by unfold k238_20; rw [if_pos c1]
    rw [q]; exact ⟨e, h⟩
  · refine l12f hi_238_20 (decide_eq_false c1) ?_
    refine l35 hi_238_23 ⟨rfl, ?_⟩
    unfold k238_20; rw [if_neg c1]; exact hS
/-- local(I)V -/
noncomputable def k238 (s : kS) (x1 : Int32) : kS × Int32 := if (k183 s) ≠ 18 then if (kfin (k238b113 x1 (s.1 20)) (s, 1, 0)).1 = 1 then ((kfin (k238b113 x1 (s.1 20)) (s, 1, 0)).2.1, 0) else if (kfin (k238b113 x1 (s.1 20)) (s, 1, 0)).1 = 2 then ((kfin (k238b113 x1 (s.1 20)) (s, 1, 0)).2.1, 0) else if (k183 ((kfin (k238b113 x1 (s.1 20)) (s, 1, 0)).2.1)) ≠ 59 then k238_345 ((k240 ((kfin (k238b113 x1 (s.1 20)) (s, 1, 0)).2.1) ((((kfin (k238b113 x1 (s.1 20)) (s, 1, 0)).2.1).1 20) - (s.1 20))).1) x1 (s.1 20) else k238_328 ((k179 (kf ((kfin (k238b113 x1 (s.1 20)) (s, 1, 0)).2.1) 4 ((((kfin (k238b113 x1 (s.1 20)) (s, 1, 0)).2.1).1 4) + 1)) 18 x1 (s.1 20) 0).1) else k238_20 ((k193 s 18).1) x1 (s.1 4) ((k193 s 18).2)
theorem lt238 {sc : Nat × (Nat → Int32)} {N d : Nat} {S0 S : am_S} {s : kS} {x1 : Int32} (hS : MK S0 S s) : am_L (am_PP sc) N d 238 0 [some (.ref 39), some (.int x1), none, none, none, none, none, none] [] S (fun o S1 => o = some none ∧ MK S0 S1 (k238 s x1).1) := by
  refine l2 (v := 39) hi_238_0 rfl ?_
  refine l32 (as := [.ref 39]) (la := [some (.ref 39)]) (rest := []) hi_238_1 (am_hd0 (M := 238) (by decide) 1) rfl rfl rfl (fun N' d' _ => lt183 (N := N') (d := d') hS) ?_ (fun _ q => nomatch q.1)
  rintro v3 S1 ⟨ev3, h2⟩
  cases ev3
  show am_L _ _ _ _ _ [some (.ref 39), some (.int x1), none, none, none, none, none, none] [.int (k183 s)] _ _
  refine l0 hi_238_4 ?_
  by_cases c4 : (k183 s) ≠ 18
  · refine l13t hi_238_6 (decide_eq_true c4) ?_
    refine l2 (v := 39) hi_238_103 rfl ?_
    refine l20 (v := .int (s.1 20)) h2 hi_238_104 rfl ?_
    refine l3 (ls' := [some (.ref 39), some (.int x1), some (.int (s.1 20)), none, none, none, none, none]) hi_238_107 (Nat.le_of_ble_eq_true rfl) rfl ?_
    refine l0 hi_238_108 ?_
    refine l3 (ls' := [some (.ref 39), some (.int x1), some (.int (s.1 20)), some (.int 1), none, none, none, none]) hi_238_109 (Nat.le_of_ble_eq_true rfl) rfl ?_
    refine l0 hi_238_110 ?_
    refine l3 (ls' := [some (.ref 39), some (.int x1), some (.int (s.1 20)), some (.int 1), some (.int 0), none, none, none]) hi_238_111 (Nat.le_of_ble_eq_true rfl) rfl ?_
    refine lb238_113 N _ none none none (s, 1, 0) h2 ?_ ?_ ?_
    · intro m5 S6 p10 p11 p12 hm7 h8
      have hf9 : kfin (k238b113 x1 (s.1 20)) (s, 1, 0) = kwh (k238b113 x1 (s.1 20)) m5 (s, 1, 0) := kfin_eq (by rw [hm7]; decide)
      rw [← hf9] at hm7 h8 ⊢
      refine l35 hi_238_131 ⟨rfl, ?_⟩
      unfold k238; rw [if_pos c4]; rw [if_pos hm7]; exact h8
    · intro m13 S14 p18 p19 p20 hm15 h16
      have hf17 : kfin (k238b113 x1 (s.1 20)) (s, 1, 0) = kwh (k238b113 x1 (s.1 20)) m13 (s, 1, 0) := kfin_eq (by rw [hm15]; decide)
      rw [← hf17] at hm15 h16 ⊢
      have c21 : ¬ (kfin (k238b113 x1 (s.1 20)) (s, 1, 0)).1 = 1 := by rw [hm15]; decide
      refine l35 hi_238_177 ⟨rfl, ?_⟩
      unfold k238; rw [if_pos c4]; rw [if_neg c21]; rw [if_pos hm15]; exact h16
    · intro m22 S23 p27 p28 p29 hm24 h25
      have hf26 : kfin (k238b113 x1 (s.1 20)) (s, 1, 0) = kwh (k238b113 x1 (s.1 20)) m22 (s, 1, 0) := kfin_eq (by rw [hm24]; decide)
      rw [← hf26] at hm24 h25 ⊢
      have c30 : ¬ (kfin (k238b113 x1 (s.1 20)) (s, 1, 0)).1 = 1 := by rw [hm24]; decide
      have c31 : ¬ (kfin (k238b113 x1 (s.1 20)) (s, 1, 0)).1 = 2 := by rw [hm24]; decide
      refine l2 (v := 39) hi_238_300 rfl ?_
      refine l32 (as := [.ref 39]) (la := [some (.ref 39)]) (rest := []) hi_238_301 (am_hd0 (M := 238) (by decide) 301) rfl rfl rfl (fun N' d' _ => lt183 (N := N') (d := d') h25) ?_ (fun _ q => nomatch q.1)
      rintro v34 S32 ⟨ev34, h33⟩
      cases ev34
      show am_L _ _ _ _ _ [some (.ref 39), some (.int x1), some (.int (s.1 20)), some (.int ((kfin (k238b113 x1 (s.1 20)) (s, 1, 0)).2.2.1)), some (.int ((kfin (k238b113 x1 (s.1 20)) (s, 1, 0)).2.2.2)), p27, p28, p29] [.int (k183 ((kfin (k238b113 x1 (s.1 20)) (s, 1, 0)).2.1))] _ _
      refine l0 hi_238_304 ?_
      by_cases c35 : (k183 ((kfin (k238b113 x1 (s.1 20)) (s, 1, 0)).2.1)) ≠ 59
      · refine l13t hi_238_306 (decide_eq_true c35) ?_
        refine l2 (v := 39) hi_238_335 rfl ?_
        refine l2 (v := 39) hi_238_336 rfl ?_
        refine l20 (v := .int (((kfin (k238b113 x1 (s.1 20)) (s, 1, 0)).2.1).1 20)) h33 hi_238_337 rfl ?_
        refine l1 (v := s.1 20) hi_238_340 rfl ?_
        refine l10 hi_238_341 ?_
        show am_L _ _ _ _ _ [some (.ref 39), some (.int x1), some (.int (s.1 20)), some (.int ((kfin (k238b113 x1 (s.1 20)) (s, 1, 0)).2.2.1)), some (.int ((kfin (k238b113 x1 (s.1 20)) (s, 1, 0)).2.2.2)), p27, p28, p29] [.int ((((kfin (k238b113 x1 (s.1 20)) (s, 1, 0)).2.1).1 20) - (s.1 20)), .ref 39] _ _
        refine l32 (as := [.ref 39, .int ((((kfin (k238b113 x1 (s.1 20)) (s, 1, 0)).2.1).1 20) - (s.1 20))]) (la := [some (.ref 39), some (.int ((((kfin (k238b113 x1 (s.1 20)) (s, 1, 0)).2.1).1 20) - (s.1 20))), none]) (rest := []) hi_238_342 (am_hd0 (M := 238) (by decide) 342) rfl rfl rfl (fun N' d' _ => lt240 (N := N') (d := d') h33) ?_ (fun _ q => nomatch q.1)
        rintro v38 S36 ⟨ev38, h37⟩
        cases ev38
        show am_L _ _ _ _ _ [some (.ref 39), some (.int x1), some (.int (s.1 20)), some (.int ((kfin (k238b113 x1 (s.1 20)) (s, 1, 0)).2.2.1)), some (.int ((kfin (k238b113 x1 (s.1 20)) (s, 1, 0)).2.2.2)), p27, p28, p29] [] _ _
        refine am_L.mono (lt238_345 h37) ?_
        rintro o S1 ⟨e, h⟩
        have q : k238 s x1 = k238_345 ((k240 ((kfin (k238b113 x1 (s.1 20)) (s, 1, 0)).2.1) ((((kfin (k238b113 x1 (s.1 20)) (s, 1, 0)).2.1).1 20) - (s.1 20))).1) x1 (s.1 20) := by unfold k238; rw [if_pos c4]; rw [if_neg c30]; rw [if_neg c31]; rw [if_pos c35]
        rw [q]; exact ⟨e, h⟩
      · refine l13f hi_238_306 (decide_eq_false c35) ?_
        refine l2 (v := 39) hi_238_309 rfl ?_
        refine l7 hi_238_310 ?_
        refine l20 (v := .int (((kfin (k238b113 x1 (s.1 20)) (s, 1, 0)).2.1).1 4)) h33 hi_238_311 rfl ?_
        refine l0 hi_238_314 ?_
        refine l10 hi_238_315 ?_
        show am_L _ _ _ _ _ [some (.ref 39), some (.int x1), some (.int (s.1 20)), some (.int ((kfin (k238b113 x1 (s.1 20)) (s, 1, 0)).2.2.1)), some (.int ((kfin (k238b113 x1 (s.1 20)) (s, 1, 0)).2.2.2)), p27, p28, p29] [.int ((((kfin (k238b113 x1 (s.1 20)) (s, 1, 0)).2.1).1 4) + 1), .ref 39] _ _
        refine l21 h33 hi_238_316 ms_4 fun S39 h40 => ?_
        refine l2 (v := 39) hi_238_319 rfl ?_
        refine l0 hi_238_320 ?_
        refine l1 (v := x1) hi_238_322 rfl ?_
        refine l1 (v := s.1 20) hi_238_323 rfl ?_
        refine l0 hi_238_324 ?_
        refine l32 (as := [.ref 39, .int 18, .int x1, .int (s.1 20), .int 0]) (la := [some (.ref 39), some (.int 18), some (.int x1), some (.int (s.1 20)), some (.int 0)]) (rest := []) hi_238_325 (am_hd0 (M := 238) (by decide) 325) rfl rfl rfl (fun N' d' _ => lt179 (N := N') (d := d') h40) ?_ (fun _ q => nomatch q.1)
        rintro v43 S41 ⟨ev43, h42⟩
        cases ev43
        show am_L _ _ _ _ _ [some (.ref 39), some (.int x1), some (.int (s.1 20)), some (.int ((kfin (k238b113 x1 (s.1 20)) (s, 1, 0)).2.2.1)), some (.int ((kfin (k238b113 x1 (s.1 20)) (s, 1, 0)).2.2.2)), p27, p28, p29] [] _ _
        refine am_L.mono (lt238_328 h42) ?_
        rintro o S1 ⟨e, h⟩
        have q : k238 s x1 = k238_328 ((k179 (kf ((kfin (k238b113 x1 (s.1 20)) (s, 1, 0)).2.1) 4 ((((kfin (k238b113 x1 (s.1 20)) (s, 1, 0)).2.1).1 4) + 1)) 18 x1 (s.1 20) 0).1) := by unfold k238; rw [if_pos c4]; rw [if_neg c30]; rw [if_neg c31]; rw [if_neg c35]
        rw [q]; exact ⟨e, h⟩
  · refine l13f hi_238_6 (decide_eq_false c4) ?_
    refine l2 (v := 39) hi_238_9 rfl ?_
    refine l20 (v := .int (s.1 4)) h2 hi_238_10 rfl ?_
    refine l3 (ls' := [some (.ref 39), some (.int x1), some (.int (s.1 4)), none, none, none, none, none]) hi_238_13 (Nat.le_of_ble_eq_true rfl) rfl ?_
    refine l2 (v := 39) hi_238_14 rfl ?_
    refine l0 hi_238_15 ?_
    refine l32 (as := [.ref 39, .int 18]) (la := [some (.ref 39), some (.int 18)]) (rest := []) hi_238_17 (am_hd0 (M := 238) (by decide) 17) rfl rfl rfl (fun N' d' _ => lt193 (N := N') (d := d') h2) ?_ (fun _ q => nomatch q.1)
    rintro v46 S44 ⟨ev46, h45⟩
    cases ev46
    show am_L _ _ _ _ _ [some (.ref 39), some (.int x1), some (.int (s.1 4)), none, none, none, none, none] [.int ((k193 s 18).2)] _ _
    refine am_L.mono (lt238_20 h45) ?_
    rintro o S1 ⟨e, h⟩
    have q : k238 s x1 = k238_20 ((k193 s 18).1) x1 (s.1 4) ((k193 s 18).2) := by unfold k238; rw [if_neg c4]
    rw [q]; exact ⟨e, h⟩
noncomputable def k228_226 (s : kS) : kS × Int32 := ((k178 s).1, 0)
theorem lt228_226 {sc : Nat × (Nat → Int32)} {N d : Nat} {S0 S : am_S} {s : kS} {o1 : Option Value} {o2 : Option Value} (hS : MK S0 S s) : am_L (am_PP sc) N d 228 226 [some (.ref 39), o1, o2] [] S (fun o S1 => o = some none ∧ MK S0 S1 (k228_226 s).1) := by
  refine l2 (v := 39) hi_228_226 rfl ?_
  refine l32 (as := [.ref 39]) (la := [some (.ref 39)]) (rest := []) hi_228_227 (am_hd0 (M := 228) (by decide) 227) rfl rfl rfl (fun N' d' _ => lt178 (N := N') (d := d') hS) ?_ (fun _ q => nomatch q.1)
  rintro v3 S1 ⟨ev3, h2⟩
  cases ev3
  show am_L _ _ _ _ _ [some (.ref 39), o1, o2] [] _ _
  refine l18 hi_228_230 ?_
  refine l35 hi_228_422 ⟨rfl, ?_⟩
  exact h2
noncomputable def k228_218 (s : kS) : kS × Int32 := k228_226 ((k179 s 2 0 0 0).1)
theorem lt228_218 {sc : Nat × (Nat → Int32)} {N d : Nat} {S0 S : am_S} {s : kS} {o1 : Option Value} {o2 : Option Value} (hS : MK S0 S s) : am_L (am_PP sc) N d 228 218 [some (.ref 39), o1, o2] [] S (fun o S1 => o = some none ∧ MK S0 S1 (k228_218 s).1) := by
  refine l2 (v := 39) hi_228_218 rfl ?_
  refine l0 hi_228_219 ?_
  refine l0 hi_228_220 ?_
  refine l0 hi_228_221 ?_
  refine l0 hi_228_222 ?_
  refine l32 (as := [.ref 39, .int 2, .int 0, .int 0, .int 0]) (la := [some (.ref 39), some (.int 2), some (.int 0), some (.int 0), some (.int 0)]) (rest := []) hi_228_223 (am_hd0 (M := 228) (by decide) 223) rfl rfl rfl (fun N' d' _ => lt179 (N := N') (d := d') hS) ?_ (fun _ q => nomatch q.1)
  rintro v3 S1 ⟨ev3, h2⟩
  cases ev3
  show am_L _ _ _ _ _ [some (.ref 39), o1, o2] [] _ _
  refine am_L.mono (lt228_226 h2) ?_
  rintro o S1 ⟨e, h⟩
  have q : k228_218 s = k228_226 ((k179 s 2 0 0 0).1) := rfl
  rw [q]; exact ⟨e, h⟩
noncomputable def k228_207 (s : kS) (z0 : Int32) : kS × Int32 := if z0 ≠ 0 then k228_218 ((k177 s 0).1) else (s, 0)
theorem lt228_207 {sc : Nat × (Nat → Int32)} {N d : Nat} {S0 S : am_S} {s : kS} {z0 : Int32} {o1 : Option Value} {o2 : Option Value} (hS : MK S0 S s) : am_L (am_PP sc) N d 228 207 [some (.ref 39), o1, o2] [.int z0] S (fun o S1 => o = some none ∧ MK S0 S1 (k228_207 s z0).1) := by
  by_cases c1 : z0 ≠ 0
  · refine l12t hi_228_207 (decide_eq_true c1) ?_
    refine l2 (v := 39) hi_228_213 rfl ?_
    refine l0 hi_228_214 ?_
    refine l32 (as := [.ref 39, .int 0]) (la := [some (.ref 39), some (.int 0)]) (rest := []) hi_228_215 (am_hd0 (M := 228) (by decide) 215) rfl rfl rfl (fun N' d' _ => lt177 (N := N') (d := d') hS) ?_ (fun _ q => nomatch q.1)
    rintro v4 S2 ⟨ev4, h3⟩
    cases ev4
    show am_L _ _ _ _ _ [some (.ref 39), o1, o2] [] _ _
    refine am_L.mono (lt228_218 h3) ?_
    rintro o S1 ⟨e, h⟩
    have q : k228_207 s z0 = k228_218 ((k177 s 0).1) := by unfold k228_207; rw [if_pos c1]
    rw [q]; exact ⟨e, h⟩
  · refine l12f hi_228_207 (decide_eq_false c1) ?_
    refine l18 hi_228_210 ?_
    refine l35 hi_228_422 ⟨rfl, ?_⟩
    unfold k228_207; rw [if_neg c1]; exact hS
