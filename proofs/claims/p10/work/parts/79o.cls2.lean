/-! THE CLASS: what each method does (printed by wip/p5/cw_run.py) -/
set_option maxRecDepth 4096
def c117b37 (y1 : Int32) (y2 : Int32) (t : cS × Int32) : Nat × (cS × Int32) := if y1 ≤ t.2 then (1, (t.1, t.2)) else (0, ((c78 t.1 1 0 0 0).1, t.2 + 1))
theorem lb117_37 {sc : Nat × (Nat → Int32)} {d : Nat} {A : Nat → Nat} {K : Nat} {y1 : Int32} {y2 : Int32} {Q : Option (Option Value) → am_S → Prop} : ∀ (N : Nat) (S : am_S) (t : cS × Int32), CM A K S t.1 → (∀ m S1, (kwh (c117b37 y1 y2) m t).1 = 1 → CM A K S1 (kwh (c117b37 y1 y2) m t).2.1 → am_L (am_PP sc) N d 117 57 [some (.ref 7), some (.int y1), some (.int y2), some (.int ((kwh (c117b37 y1 y2) m t).2.2))] [] S1 Q) → am_L (am_PP sc) N d 117 37 [some (.ref 7), some (.int y1), some (.int y2), some (.int t.2)] [] S Q := by
  intro N
  induction N with
  | zero => intros; exact l_zero
  | succ N ih =>
    intro S t hS kx57
    refine l1d (v := t.2) hi_117_37 rfl ?_
    refine l1 (v := y1) hi_117_38 rfl ?_
    by_cases cn1 : y1 ≤ t.2
    · refine l13t hi_117_39 (decide_eq_true cn1) ?_
      have e0 : (c117b37 y1 y2) t = (1, (t.1, t.2)) := by unfold c117b37; rw [if_pos cn1]
      have e1 : kwh (c117b37 y1 y2) 1 t = (1, (t.1, t.2)) := by rw [kwh_out (by rw [e0]; exact Nat.succ_ne_zero _), e0]
      have q := kx57 1 _  (by rw [e1]) (by rw [e1]; exact hS)
      try rw [e1] at q
      exact q.less (Nat.le_succ N)
    · refine l13f hi_117_39 (decide_eq_false cn1) ?_
      refine l2 (v := 7) hi_117_42 rfl ?_
      refine l0 hi_117_43 ?_
      refine l0 hi_117_44 ?_
      refine l0 hi_117_45 ?_
      refine l0 hi_117_46 ?_
      refine l32 (as := [.ref 7, .int 1, .int 0, .int 0, .int 0]) (la := [some (.ref 7), some (.int 1), some (.int 0), some (.int 0), some (.int 0)]) (rest := []) hi_117_47 (am_hd0 (M := 117) (by decide) 47) rfl rfl rfl (fun N' d' _ => lc78 (N := N') (d := d') hS ) ?_ (fun _ q => nomatch q.1)
      rintro v4 S2 ⟨ev4, h3⟩
      cases ev4
      show am_L _ _ _ _ _ [some (.ref 7), some (.int y1), some (.int y2), some (.int t.2)] [.int ((c78 t.1 1 0 0 0).2)] _ _
      refine l6i hi_117_50 ?_
      refine l5 (v := t.2) (ls' := [some (.ref 7), some (.int y1), some (.int y2), some (.int (t.2 + 1))]) hi_117_51 rfl rfl ?_
      refine l18 hi_117_54 ?_
      have e0 : (c117b37 y1 y2) t = (0, ((c78 t.1 1 0 0 0).1, t.2 + 1)) := by unfold c117b37; rw [if_neg cn1]
      have e1 : ∀ m, kwh (c117b37 y1 y2) (m + 1) t = kwh (c117b37 y1 y2) m ((c78 t.1 1 0 0 0).1, t.2 + 1) := fun m => by rw [kwh_go (by rw [e0]), e0]
      exact ih _  ((c78 t.1 1 0 0 0).1, t.2 + 1) h3 (fun m S1 hm h1 => by have q := kx57 (m + 1) S1 (by rw [e1]; exact hm) (by rw [e1]; exact h1); (try rw [e1] at q); exact q.less (Nat.le_succ N))
noncomputable def c117_35 (s : cS) (y1 : Int32) (y2 : Int32) : cS × Int32 := if y2 ≤ y1 then ((kfin (c117b37 y1 y2) (s, y2)).2.1, 0) else ((c78 ((kfin (c117b37 y1 y2) (s, y2)).2.1) 26 (y2 - y1) 0 0).1, 0)
theorem lc117_35 {sc : Nat × (Nat → Int32)} {N d : Nat} {A : Nat → Nat} {K : Nat} {S : am_S} {s : cS} {y1 : Int32} {y2 : Int32} {o3 : Option Value} (hS : CM A K S s) : am_L (am_PP sc) N d 117 35 [some (.ref 7), some (.int y1), some (.int y2), o3] [] S (fun o S1 => o = some none ∧ CM A K S1 (c117_35 s y1 y2).1) := by
  refine l1 (v := y2) hi_117_35 rfl ?_
  refine l3 (ls' := [some (.ref 7), some (.int y1), some (.int y2), some (.int y2)]) hi_117_36 (Nat.le_of_ble_eq_true rfl) rfl ?_
  refine lb117_37  N _  (s, y2) hS ?_
  · intro m1 S2  hm3 h4
    have hf5 : kfin (c117b37 y1 y2) (s, y2) = kwh (c117b37 y1 y2) m1 (s, y2) := kfin_eq (by rw [hm3]; decide)
    rw [← hf5] at hm3 h4
    try rw [← hf5]
    refine l1 (v := y2) hi_117_57 rfl ?_
    refine l1 (v := y1) hi_117_58 rfl ?_
    by_cases cn6 : y2 ≤ y1
    · refine l13t hi_117_59 (decide_eq_true cn6) ?_
      refine l35 hi_117_74 ⟨rfl, ?_⟩
      unfold c117_35; rw [if_pos cn6]; exact h4
    · refine l13f hi_117_59 (decide_eq_false cn6) ?_
      refine l2 (v := 7) hi_117_62 rfl ?_
      refine l0 hi_117_63 ?_
      refine l1 (v := y2) hi_117_65 rfl ?_
      refine l1 (v := y1) hi_117_66 rfl ?_
      refine l10 hi_117_67 ?_
      show am_L _ _ _ _ _ [some (.ref 7), some (.int y1), some (.int y2), some (.int ((kfin (c117b37 y1 y2) (s, y2)).2.2))] [.int (y2 - y1), .int 26, .ref 7] _ _
      refine l0 hi_117_68 ?_
      refine l0 hi_117_69 ?_
      refine l32 (as := [.ref 7, .int 26, .int (y2 - y1), .int 0, .int 0]) (la := [some (.ref 7), some (.int 26), some (.int (y2 - y1)), some (.int 0), some (.int 0)]) (rest := []) hi_117_70 (am_hd0 (M := 117) (by decide) 70) rfl rfl rfl (fun N' d' _ => lc78 (N := N') (d := d') h4 ) ?_ (fun _ q => nomatch q.1)
      rintro v9 S7 ⟨ev9, h8⟩
      cases ev9
      show am_L _ _ _ _ _ [some (.ref 7), some (.int y1), some (.int y2), some (.int ((kfin (c117b37 y1 y2) (s, y2)).2.2))] [.int ((c78 ((kfin (c117b37 y1 y2) (s, y2)).2.1) 26 (y2 - y1) 0 0).2)] _ _
      refine l6i hi_117_73 ?_
      refine l35 hi_117_74 ⟨rfl, ?_⟩
      unfold c117_35; rw [if_neg cn6]; exact h8
noncomputable def c117_20 (s : cS) (y1 : Int32) (y2 : Int32) : cS × Int32 := ((c78 s 25 ((y1 - y2) + 1) 0 0).1, 0)
theorem lc117_20 {sc : Nat × (Nat → Int32)} {N d : Nat} {A : Nat → Nat} {K : Nat} {S : am_S} {s : cS} {y1 : Int32} {y2 : Int32} {o3 : Option Value} (hS : CM A K S s) : am_L (am_PP sc) N d 117 20 [some (.ref 7), some (.int y1), some (.int y2), o3] [] S (fun o S1 => o = some none ∧ CM A K S1 (c117_20 s y1 y2).1) := by
  refine l2 (v := 7) hi_117_20 rfl ?_
  refine l0 hi_117_21 ?_
  refine l1 (v := y1) hi_117_23 rfl ?_
  refine l1 (v := y2) hi_117_24 rfl ?_
  refine l10 hi_117_25 ?_
  show am_L _ _ _ _ _ [some (.ref 7), some (.int y1), some (.int y2), o3] [.int (y1 - y2), .int 25, .ref 7] _ _
  refine l0 hi_117_26 ?_
  refine l10 hi_117_27 ?_
  show am_L _ _ _ _ _ [some (.ref 7), some (.int y1), some (.int y2), o3] [.int ((y1 - y2) + 1), .int 25, .ref 7] _ _
  refine l0 hi_117_28 ?_
  refine l0 hi_117_29 ?_
  refine l32 (as := [.ref 7, .int 25, .int ((y1 - y2) + 1), .int 0, .int 0]) (la := [some (.ref 7), some (.int 25), some (.int ((y1 - y2) + 1)), some (.int 0), some (.int 0)]) (rest := []) hi_117_30 (am_hd0 (M := 117) (by decide) 30) rfl rfl rfl (fun N' d' _ => lc78 (N := N') (d := d') hS ) ?_ (fun _ q => nomatch q.1)
  rintro v3 S1 ⟨ev3, h2⟩
  cases ev3
  show am_L _ _ _ _ _ [some (.ref 7), some (.int y1), some (.int y2), o3] [.int ((c78 s 25 ((y1 - y2) + 1) 0 0).2)] _ _
  refine l6i hi_117_33 ?_
  refine l35 hi_117_34 ⟨rfl, ?_⟩
  exact h2
noncomputable def c117 (s : cS) (x1 : Int32) (x2 : Int32) : cS × Int32 := if x2 ≤ 0 then c117_35 s x1 x2 else if x1 < x2 then c117_35 s x1 x2 else if (s.f 7 5) = 0 then c117_35 s x1 x2 else c117_20 ((c96 s).1) x1 x2
theorem lc117 {sc : Nat × (Nat → Int32)} {N d : Nat} {A : Nat → Nat} {K : Nat} {S : am_S} {s : cS} {x1 : Int32} {x2 : Int32} (hS : CM A K S s) : am_L (am_PP sc) N d 117 0 [some (.ref 7), some (.int x1), some (.int x2), none] [] S (fun o S1 => o = some none ∧ CM A K S1 (c117 s x1 x2).1) := by
  refine l1 (v := x2) hi_117_0 rfl ?_
  by_cases cn1 : x2 ≤ 0
  · refine l12t hi_117_1 (decide_eq_true cn1) ?_
    refine am_L.mono (lc117_35 hS ) ?_
    rintro o S1 ⟨e, h⟩
    have q : c117 s x1 x2 = c117_35 s x1 x2 := by unfold c117; rw [if_pos cn1]
    rw [q]; exact ⟨e, h⟩
  · refine l12f hi_117_1 (decide_eq_false cn1) ?_
    refine l1 (v := x2) hi_117_4 rfl ?_
    refine l1 (v := x1) hi_117_5 rfl ?_
    by_cases cn2 : x1 < x2
    · refine l13t hi_117_6 (decide_eq_true cn2) ?_
      refine am_L.mono (lc117_35 hS ) ?_
      rintro o S1 ⟨e, h⟩
      have q : c117 s x1 x2 = c117_35 s x1 x2 := by unfold c117; rw [if_neg cn1]; rw [if_pos cn2]
      rw [q]; exact ⟨e, h⟩
    · refine l13f hi_117_6 (decide_eq_false cn2) ?_
      refine l2 (v := 7) hi_117_9 rfl ?_
      refine l20s (v := .int (s.f 7 5)) hS cs_7 hi_117_10 rfl ?_
      by_cases cn3 : (s.f 7 5) = 0
      · refine l12t hi_117_13 (decide_eq_true cn3) ?_
        refine am_L.mono (lc117_35 hS ) ?_
        rintro o S1 ⟨e, h⟩
        have q : c117 s x1 x2 = c117_35 s x1 x2 := by unfold c117; rw [if_neg cn1]; rw [if_neg cn2]; rw [if_pos cn3]
        rw [q]; exact ⟨e, h⟩
      · refine l12f hi_117_13 (decide_eq_false cn3) ?_
        refine l2 (v := 7) hi_117_16 rfl ?_
        refine l32 (as := [.ref 7]) (la := [some (.ref 7)]) (rest := []) hi_117_17 (am_hd0 (M := 117) (by decide) 17) rfl rfl rfl (fun N' d' _ => lc96 (N := N') (d := d') hS ) ?_ (fun _ q => nomatch q.1)
        rintro v6 S4 ⟨ev6, h5⟩
        cases ev6
        show am_L _ _ _ _ _ [some (.ref 7), some (.int x1), some (.int x2), none] [] _ _
        refine am_L.mono (lc117_20 h5 ) ?_
        rintro o S1 ⟨e, h⟩
        have q : c117 s x1 x2 = c117_20 ((c96 s).1) x1 x2 := by unfold c117; rw [if_neg cn1]; rw [if_neg cn2]; rw [if_neg cn3]
        rw [q]; exact ⟨e, h⟩
def c118b12_54 (s : cS) (y1 : Int32) (y2 : Int32) (y3 : Int32) (y4 : Int32) : Nat × (cS × Int32 × Int32) := (0, ((c78 s (tg s (.s 10) y3 0) y4 0 (tg s (.s 10) y3 2)).1, y2, y3 + (-1)))
theorem lb118_12_54 {sc : Nat × (Nat → Int32)} {N d : Nat} {A : Nat → Nat} {K : Nat} {S : am_S} {s : cS} {y1 : Int32} {y2 : Int32} {y3 : Int32} {y4 : Int32} {Q : Option (Option Value) → am_S → Prop} (hS : CM A K S s) (kb : (∀ S1 (p4 : Option Value) (t : cS × Int32 × Int32), c118b12_54 s y1 y2 y3 y4 = (0, t) → CM A K S1 t.1 → am_L (am_PP sc) N d 118 12 [some (.ref 7), some (.int y1), some (.int t.2.1), some (.int t.2.2), p4] [] S1 Q)) (kx86 : (∀ S1 (p4 : Option Value) (t : cS × Int32 × Int32), c118b12_54 s y1 y2 y3 y4 = (1, t) → CM A K S1 t.1 → am_L (am_PP sc) N d 118 86 [some (.ref 7), some (.int y1), some (.int t.2.1), some (.int t.2.2), p4] [] S1 Q)) : am_L (am_PP sc) N d 118 54 [some (.ref 7), some (.int y1), some (.int y2), some (.int y3), some (.int y4)] [] S Q := by
  refine l2 (v := 7) hi_118_54 rfl ?_
  refine l2 (v := 7) hi_118_55 rfl ?_
  refine l20s (v := .ref 10) hS cs_7 hi_118_56 rfl ?_
  refine l1 (v := y3) hi_118_59 rfl ?_
  refine l0 hi_118_60 ?_
  refine l32 (as := [.ref 10, .int y3, .int 0]) (la := [some (.ref 10), some (.int y3), some (.int 0)]) (rest := [.ref 7]) hi_118_61 (am_hd0 (M := 118) (by decide) 61) rfl rfl rfl (fun N' d' _ => lc54 (N := N') (d := d') (t := (.s 10)) hS ct_10) ?_ (fun _ q => nomatch q.1)
  rintro v3 S1 ⟨ev3, h2⟩
  cases ev3
  show am_L _ _ _ _ _ [some (.ref 7), some (.int y1), some (.int y2), some (.int y3), some (.int y4)] [.int (tg s (.s 10) y3 0), .ref 7] _ _
  refine l1 (v := y4) hi_118_64 rfl ?_
  refine l0 hi_118_66 ?_
  refine l2 (v := 7) hi_118_67 rfl ?_
  refine l20s (v := .ref 10) h2 cs_7 hi_118_68 rfl ?_
  refine l1 (v := y3) hi_118_71 rfl ?_
  refine l0 hi_118_72 ?_
  refine l32 (as := [.ref 10, .int y3, .int 2]) (la := [some (.ref 10), some (.int y3), some (.int 2)]) (rest := [.int 0, .int y4, .int (tg s (.s 10) y3 0), .ref 7]) hi_118_73 (am_hd0 (M := 118) (by decide) 73) rfl rfl rfl (fun N' d' _ => lc54 (N := N') (d := d') (t := (.s 10)) h2 ct_10) ?_ (fun _ q => nomatch q.1)
  rintro v6 S4 ⟨ev6, h5⟩
  cases ev6
  show am_L _ _ _ _ _ [some (.ref 7), some (.int y1), some (.int y2), some (.int y3), some (.int y4)] [.int (tg s (.s 10) y3 2), .int 0, .int y4, .int (tg s (.s 10) y3 0), .ref 7] _ _
  refine l32 (as := [.ref 7, .int (tg s (.s 10) y3 0), .int y4, .int 0, .int (tg s (.s 10) y3 2)]) (la := [some (.ref 7), some (.int (tg s (.s 10) y3 0)), some (.int y4), some (.int 0), some (.int (tg s (.s 10) y3 2))]) (rest := []) hi_118_76 (am_hd0 (M := 118) (by decide) 76) rfl rfl rfl (fun N' d' _ => lc78 (N := N') (d := d') h5 ) ?_ (fun _ q => nomatch q.1)
  rintro v9 S7 ⟨ev9, h8⟩
  cases ev9
  show am_L _ _ _ _ _ [some (.ref 7), some (.int y1), some (.int y2), some (.int y3), some (.int y4)] [.int ((c78 s (tg s (.s 10) y3 0) y4 0 (tg s (.s 10) y3 2)).2)] _ _
  refine l6i hi_118_79 ?_
  refine l5 (v := y3) (ls' := [some (.ref 7), some (.int y1), some (.int y2), some (.int (y3 + (-1))), some (.int y4)]) hi_118_80 rfl rfl ?_
  refine l18 hi_118_83 ?_
  exact kb _ (some (.int y4)) ((c78 s (tg s (.s 10) y3 0) y4 0 (tg s (.s 10) y3 2)).1, y2, y3 + (-1)) (rfl) h8
def c118b12 (y1 : Int32) (t : cS × Int32 × Int32) : Nat × (cS × Int32 × Int32) := if t.2.2 < y1 then (1, (t.1, t.2.1, t.2.2)) else if (tg t.1 (.s 10) t.2.2 0) ≠ 32 then c118b12_54 t.1 y1 t.2.1 t.2.2 (tg t.1 (.s 10) t.2.2 1) else c118b12_54 t.1 y1 (t.2.1 + 1) t.2.2 (((2 * t.2.1) + t.2.2) - y1)
theorem lb118_12 {sc : Nat × (Nat → Int32)} {d : Nat} {A : Nat → Nat} {K : Nat} {y1 : Int32} {Q : Option (Option Value) → am_S → Prop} : ∀ (N : Nat) (S : am_S) (o4 : Option Value) (t : cS × Int32 × Int32), CM A K S t.1 → (∀ m S1 (p4 : Option Value), (kwh (c118b12 y1) m t).1 = 1 → CM A K S1 (kwh (c118b12 y1) m t).2.1 → am_L (am_PP sc) N d 118 86 [some (.ref 7), some (.int y1), some (.int ((kwh (c118b12 y1) m t).2.2.1)), some (.int ((kwh (c118b12 y1) m t).2.2.2)), p4] [] S1 Q) → am_L (am_PP sc) N d 118 12 [some (.ref 7), some (.int y1), some (.int t.2.1), some (.int t.2.2), o4] [] S Q := by
  intro N
  induction N with
  | zero => intros; exact l_zero
  | succ N ih =>
    intro S o4 t hS kx86
    refine l1d (v := t.2.2) hi_118_12 rfl ?_
    refine l1 (v := y1) hi_118_13 rfl ?_
    by_cases cn1 : t.2.2 < y1
    · refine l13t hi_118_14 (decide_eq_true cn1) ?_
      have e0 : (c118b12 y1) t = (1, (t.1, t.2.1, t.2.2)) := by unfold c118b12; rw [if_pos cn1]
      have e1 : kwh (c118b12 y1) 1 t = (1, (t.1, t.2.1, t.2.2)) := by rw [kwh_out (by rw [e0]; exact Nat.succ_ne_zero _), e0]
      have q := kx86 1 _ o4 (by rw [e1]) (by rw [e1]; exact hS)
      try rw [e1] at q
      exact q.less (Nat.le_succ N)
    · refine l13f hi_118_14 (decide_eq_false cn1) ?_
      refine l2 (v := 7) hi_118_17 rfl ?_
      refine l20s (v := .ref 10) hS cs_7 hi_118_18 rfl ?_
      refine l1 (v := t.2.2) hi_118_21 rfl ?_
      refine l0 hi_118_22 ?_
      refine l32 (as := [.ref 10, .int t.2.2, .int 1]) (la := [some (.ref 10), some (.int t.2.2), some (.int 1)]) (rest := []) hi_118_23 (am_hd0 (M := 118) (by decide) 23) rfl rfl rfl (fun N' d' _ => lc54 (N := N') (d := d') (t := (.s 10)) hS ct_10) ?_ (fun _ q => nomatch q.1)
      rintro v4 S2 ⟨ev4, h3⟩
      cases ev4
      show am_L _ _ _ _ _ [some (.ref 7), some (.int y1), some (.int t.2.1), some (.int t.2.2), o4] [.int (tg t.1 (.s 10) t.2.2 1)] _ _
      refine l3 (ls' := [some (.ref 7), some (.int y1), some (.int t.2.1), some (.int t.2.2), some (.int (tg t.1 (.s 10) t.2.2 1))]) hi_118_26 (Nat.le_of_ble_eq_true rfl) rfl ?_
      refine l2 (v := 7) hi_118_28 rfl ?_
      refine l20s (v := .ref 10) h3 cs_7 hi_118_29 rfl ?_
      refine l1 (v := t.2.2) hi_118_32 rfl ?_
      refine l0 hi_118_33 ?_
      refine l32 (as := [.ref 10, .int t.2.2, .int 0]) (la := [some (.ref 10), some (.int t.2.2), some (.int 0)]) (rest := []) hi_118_34 (am_hd0 (M := 118) (by decide) 34) rfl rfl rfl (fun N' d' _ => lc54 (N := N') (d := d') (t := (.s 10)) h3 ct_10) ?_ (fun _ q => nomatch q.1)
      rintro v7 S5 ⟨ev7, h6⟩
      cases ev7
      show am_L _ _ _ _ _ [some (.ref 7), some (.int y1), some (.int t.2.1), some (.int t.2.2), some (.int (tg t.1 (.s 10) t.2.2 1))] [.int (tg t.1 (.s 10) t.2.2 0)] _ _
      refine l0 hi_118_37 ?_
      by_cases cn8 : (tg t.1 (.s 10) t.2.2 0) ≠ 32
      · refine l13t hi_118_39 (decide_eq_true cn8) ?_
        have eq_ : (c118b12 y1) t = c118b12_54 t.1 y1 t.2.1 t.2.2 (tg t.1 (.s 10) t.2.2 1) := by unfold c118b12; rw [if_neg cn1]; rw [if_pos cn8]
        refine lb118_12_54 h6 ?_ ?_
        · intro S9 p13 t10 e11 h12
          have e0 : (c118b12 y1) t = (0, t10) := eq_.trans e11
          have e1 : ∀ m, kwh (c118b12 y1) (m + 1) t = kwh (c118b12 y1) m t10 := fun m => by rw [kwh_go (by rw [e0]), e0]
          exact ih _ p13 t10 h12 (fun m S1 p4 hm h1 => by have q := kx86 (m + 1) S1 p4 (by rw [e1]; exact hm) (by rw [e1]; exact h1); (try rw [e1] at q); exact q.less (Nat.le_succ N))
        · intro S14 p18 t15 e16 h17
          have e0 : (c118b12 y1) t = (1, t15) := eq_.trans e16
          have e1 : kwh (c118b12 y1) 1 t = (1, t15) := by rw [kwh_out (by rw [e0]; exact Nat.succ_ne_zero _), e0]
          have q := kx86 1 _ p18 (by rw [e1]) (by rw [e1]; exact h17)
          try rw [e1] at q
          exact q.less (Nat.le_succ N)
      · refine l13f hi_118_39 (decide_eq_false cn8) ?_
        refine l0 hi_118_42 ?_
        refine l1 (v := t.2.1) hi_118_43 rfl ?_
        refine l10 hi_118_44 ?_
        show am_L _ _ _ _ _ [some (.ref 7), some (.int y1), some (.int t.2.1), some (.int t.2.2), some (.int (tg t.1 (.s 10) t.2.2 1))] [.int (2 * t.2.1)] _ _
        refine l1 (v := t.2.2) hi_118_45 rfl ?_
        refine l10 hi_118_46 ?_
        show am_L _ _ _ _ _ [some (.ref 7), some (.int y1), some (.int t.2.1), some (.int t.2.2), some (.int (tg t.1 (.s 10) t.2.2 1))] [.int ((2 * t.2.1) + t.2.2)] _ _
        refine l1 (v := y1) hi_118_47 rfl ?_
        refine l10 hi_118_48 ?_
        show am_L _ _ _ _ _ [some (.ref 7), some (.int y1), some (.int t.2.1), some (.int t.2.2), some (.int (tg t.1 (.s 10) t.2.2 1))] [.int (((2 * t.2.1) + t.2.2) - y1)] _ _
        refine l3 (ls' := [some (.ref 7), some (.int y1), some (.int t.2.1), some (.int t.2.2), some (.int (((2 * t.2.1) + t.2.2) - y1))]) hi_118_49 (Nat.le_of_ble_eq_true rfl) rfl ?_
        refine l5 (v := t.2.1) (ls' := [some (.ref 7), some (.int y1), some (.int (t.2.1 + 1)), some (.int t.2.2), some (.int (((2 * t.2.1) + t.2.2) - y1))]) hi_118_51 rfl rfl ?_
        have eq_ : (c118b12 y1) t = c118b12_54 t.1 y1 (t.2.1 + 1) t.2.2 (((2 * t.2.1) + t.2.2) - y1) := by unfold c118b12; rw [if_neg cn1]; rw [if_neg cn8]
        refine lb118_12_54 h6 ?_ ?_
        · intro S19 p23 t20 e21 h22
          have e0 : (c118b12 y1) t = (0, t20) := eq_.trans e21
          have e1 : ∀ m, kwh (c118b12 y1) (m + 1) t = kwh (c118b12 y1) m t20 := fun m => by rw [kwh_go (by rw [e0]), e0]
          exact ih _ p23 t20 h22 (fun m S1 p4 hm h1 => by have q := kx86 (m + 1) S1 p4 (by rw [e1]; exact hm) (by rw [e1]; exact h1); (try rw [e1] at q); exact q.less (Nat.le_succ N))
        · intro S24 p28 t25 e26 h27
          have e0 : (c118b12 y1) t = (1, t25) := eq_.trans e26
          have e1 : kwh (c118b12 y1) 1 t = (1, t25) := by rw [kwh_out (by rw [e0]; exact Nat.succ_ne_zero _), e0]
          have q := kx86 1 _ p28 (by rw [e1]) (by rw [e1]; exact h27)
          try rw [e1] at q
          exact q.less (Nat.le_succ N)
noncomputable def c118_102 (s : cS) (y1 : Int32) : cS × Int32 := (tct s (.s 10) y1, 0)
theorem lc118_102 {sc : Nat × (Nat → Int32)} {N d : Nat} {A : Nat → Nat} {K : Nat} {S : am_S} {s : cS} {y1 : Int32} {o2 : Option Value} {o3 : Option Value} {o4 : Option Value} (hS : CM A K S s) : am_L (am_PP sc) N d 118 102 [some (.ref 7), some (.int y1), o2, o3, o4] [] S (fun o S1 => o = some none ∧ CM A K S1 (c118_102 s y1).1) := by
  refine l2 (v := 7) hi_118_102 rfl ?_
  refine l20s (v := .ref 10) hS cs_7 hi_118_103 rfl ?_
  refine l1 (v := y1) hi_118_106 rfl ?_
  refine l32 (as := [.ref 10, .int y1]) (la := [some (.ref 10), some (.int y1)]) (rest := []) hi_118_107 (am_hd0 (M := 118) (by decide) 107) rfl rfl rfl (fun N' d' _ => lc30 (N := N') (d := d') (t := (.s 10)) hS ct_10) ?_ (fun _ q => nomatch q.1)
  rintro v3 S1 ⟨ev3, h2⟩
  cases ev3
  show am_L _ _ _ _ _ [some (.ref 7), some (.int y1), o2, o3, o4] [] _ _
  refine l35 hi_118_110 ⟨rfl, ?_⟩
  exact h2
noncomputable def c118_101 (s : cS) (y1 : Int32) (z0 : Int32) : cS × Int32 := c118_102 s y1
theorem lc118_101 {sc : Nat × (Nat → Int32)} {N d : Nat} {A : Nat → Nat} {K : Nat} {S : am_S} {s : cS} {y1 : Int32} {z0 : Int32} {o2 : Option Value} {o3 : Option Value} {o4 : Option Value} (hS : CM A K S s) : am_L (am_PP sc) N d 118 101 [some (.ref 7), some (.int y1), o2, o3, o4] [.int z0] S (fun o S1 => o = some none ∧ CM A K S1 (c118_101 s y1 z0).1) := by
  refine l6i hi_118_101 ?_
  refine am_L.mono (lc118_102 hS ) ?_
  rintro o S1 ⟨e, h⟩
  have q : c118_101 s y1 z0 = c118_102 s y1 := rfl
  rw [q]; exact ⟨e, h⟩
noncomputable def c118 (s : cS) (x1 : Int32) : cS × Int32 := if ((kfin (c118b12 x1) (s, 0, (s.r (.s 10)) - 1)).2.2.1) ≤ 0 then c118_102 ((kfin (c118b12 x1) (s, 0, (s.r (.s 10)) - 1)).2.1) x1 else c118_101 ((c78 ((kfin (c118b12 x1) (s, 0, (s.r (.s 10)) - 1)).2.1) 26 (2 * ((kfin (c118b12 x1) (s, 0, (s.r (.s 10)) - 1)).2.2.1)) 0 0).1) x1 ((c78 ((kfin (c118b12 x1) (s, 0, (s.r (.s 10)) - 1)).2.1) 26 (2 * ((kfin (c118b12 x1) (s, 0, (s.r (.s 10)) - 1)).2.2.1)) 0 0).2)
theorem lc118 {sc : Nat × (Nat → Int32)} {N d : Nat} {A : Nat → Nat} {K : Nat} {S : am_S} {s : cS} {x1 : Int32} (hS : CM A K S s) : am_L (am_PP sc) N d 118 0 [some (.ref 7), some (.int x1), none, none, none] [] S (fun o S1 => o = some none ∧ CM A K S1 (c118 s x1).1) := by
  refine l0 hi_118_0 ?_
  refine l3 (ls' := [some (.ref 7), some (.int x1), some (.int 0), none, none]) hi_118_1 (Nat.le_of_ble_eq_true rfl) rfl ?_
  refine l2 (v := 7) hi_118_2 rfl ?_
  refine l20s (v := .ref 10) hS cs_7 hi_118_3 rfl ?_
  refine l32 (as := [.ref 10]) (la := [some (.ref 10)]) (rest := []) hi_118_6 (am_hd0 (M := 118) (by decide) 6) rfl rfl rfl (fun N' d' _ => lc36 (N := N') (d := d') (t := (.s 10)) hS ct_10) ?_ (fun _ q => nomatch q.1)
  rintro v3 S1 ⟨ev3, h2⟩
  cases ev3
  show am_L _ _ _ _ _ [some (.ref 7), some (.int x1), some (.int 0), none, none] [.int (s.r (.s 10))] _ _
  refine l0 hi_118_9 ?_
  refine l10 hi_118_10 ?_
  show am_L _ _ _ _ _ [some (.ref 7), some (.int x1), some (.int 0), none, none] [.int ((s.r (.s 10)) - 1)] _ _
  refine l3 (ls' := [some (.ref 7), some (.int x1), some (.int 0), some (.int ((s.r (.s 10)) - 1)), none]) hi_118_11 (Nat.le_of_ble_eq_true rfl) rfl ?_
  refine lb118_12  N _ none (s, 0, (s.r (.s 10)) - 1) h2 ?_
  · intro m4 S5 p9 hm6 h7
    have hf8 : kfin (c118b12 x1) (s, 0, (s.r (.s 10)) - 1) = kwh (c118b12 x1) m4 (s, 0, (s.r (.s 10)) - 1) := kfin_eq (by rw [hm6]; decide)
    rw [← hf8] at hm6 h7
    try rw [← hf8]
    refine l1 (v := (kfin (c118b12 x1) (s, 0, (s.r (.s 10)) - 1)).2.2.1) hi_118_86 rfl ?_
    by_cases cn10 : ((kfin (c118b12 x1) (s, 0, (s.r (.s 10)) - 1)).2.2.1) ≤ 0
    · refine l12t hi_118_87 (decide_eq_true cn10) ?_
      refine am_L.mono (lc118_102 h7 ) ?_
      rintro o S1 ⟨e, h⟩
      have q : c118 s x1 = c118_102 ((kfin (c118b12 x1) (s, 0, (s.r (.s 10)) - 1)).2.1) x1 := by unfold c118; rw [if_pos cn10]
      rw [q]; exact ⟨e, h⟩
    · refine l12f hi_118_87 (decide_eq_false cn10) ?_
      refine l2 (v := 7) hi_118_90 rfl ?_
      refine l0 hi_118_91 ?_
      refine l0 hi_118_93 ?_
      refine l1 (v := (kfin (c118b12 x1) (s, 0, (s.r (.s 10)) - 1)).2.2.1) hi_118_94 rfl ?_
      refine l10 hi_118_95 ?_
      show am_L _ _ _ _ _ [some (.ref 7), some (.int x1), some (.int ((kfin (c118b12 x1) (s, 0, (s.r (.s 10)) - 1)).2.2.1)), some (.int ((kfin (c118b12 x1) (s, 0, (s.r (.s 10)) - 1)).2.2.2)), p9] [.int (2 * ((kfin (c118b12 x1) (s, 0, (s.r (.s 10)) - 1)).2.2.1)), .int 26, .ref 7] _ _
      refine l0 hi_118_96 ?_
      refine l0 hi_118_97 ?_
      refine l32 (as := [.ref 7, .int 26, .int (2 * ((kfin (c118b12 x1) (s, 0, (s.r (.s 10)) - 1)).2.2.1)), .int 0, .int 0]) (la := [some (.ref 7), some (.int 26), some (.int (2 * ((kfin (c118b12 x1) (s, 0, (s.r (.s 10)) - 1)).2.2.1))), some (.int 0), some (.int 0)]) (rest := []) hi_118_98 (am_hd0 (M := 118) (by decide) 98) rfl rfl rfl (fun N' d' _ => lc78 (N := N') (d := d') h7 ) ?_ (fun _ q => nomatch q.1)
      rintro v13 S11 ⟨ev13, h12⟩
      cases ev13
      show am_L _ _ _ _ _ [some (.ref 7), some (.int x1), some (.int ((kfin (c118b12 x1) (s, 0, (s.r (.s 10)) - 1)).2.2.1)), some (.int ((kfin (c118b12 x1) (s, 0, (s.r (.s 10)) - 1)).2.2.2)), p9] [.int ((c78 ((kfin (c118b12 x1) (s, 0, (s.r (.s 10)) - 1)).2.1) 26 (2 * ((kfin (c118b12 x1) (s, 0, (s.r (.s 10)) - 1)).2.2.1)) 0 0).2)] _ _
      refine am_L.mono (lc118_101 h12 ) ?_
      rintro o S1 ⟨e, h⟩
      have q : c118 s x1 = c118_101 ((c78 ((kfin (c118b12 x1) (s, 0, (s.r (.s 10)) - 1)).2.1) 26 (2 * ((kfin (c118b12 x1) (s, 0, (s.r (.s 10)) - 1)).2.2.1)) 0 0).1) x1 ((c78 ((kfin (c118b12 x1) (s, 0, (s.r (.s 10)) - 1)).2.1) 26 (2 * ((kfin (c118b12 x1) (s, 0, (s.r (.s 10)) - 1)).2.2.1)) 0 0).2) := by unfold c118; rw [if_neg cn10]
      rw [q]; exact ⟨e, h⟩
def c121 (s : cS) (x0 : Int32) : Int32 := if x0 = 0 then 1 else if x0 = 15 then 1 else if x0 = 13 then 1 else if x0 = 14 then 1 else if x0 ≠ 30 then 0 else 1
theorem lc121 {sc : Nat × (Nat → Int32)} {N d : Nat} {A : Nat → Nat} {K : Nat} {S : am_S} {s : cS} {x0 : Int32} (hS : CM A K S s) : am_L (am_PP sc) N d 121 0 [some (.int x0)] [] S (fun o S1 => o = some (some (.int (c121 s x0))) ∧ CM A K S1 s) := by
  refine l1 (v := x0) hi_121_0 rfl ?_
  by_cases cn1 : x0 = 0
  · refine l12t hi_121_1 (decide_eq_true cn1) ?_
    refine l0 hi_121_28 ?_
    refine l18 hi_121_29 ?_
    refine l36 hi_121_33 fun _ => ⟨?_, ?_⟩
    · unfold c121; rw [if_pos cn1]
    · exact hS
  · refine l12f hi_121_1 (decide_eq_false cn1) ?_
    refine l1 (v := x0) hi_121_4 rfl ?_
    refine l0 hi_121_5 ?_
    by_cases cn2 : x0 = 15
    · refine l13t hi_121_7 (decide_eq_true cn2) ?_
      refine l0 hi_121_28 ?_
      refine l18 hi_121_29 ?_
      refine l36 hi_121_33 fun _ => ⟨?_, ?_⟩
      · unfold c121; rw [if_neg cn1]; rw [if_pos cn2]
      · exact hS
    · refine l13f hi_121_7 (decide_eq_false cn2) ?_
      refine l1 (v := x0) hi_121_10 rfl ?_
      refine l0 hi_121_11 ?_
      by_cases cn3 : x0 = 13
      · refine l13t hi_121_13 (decide_eq_true cn3) ?_
        refine l0 hi_121_28 ?_
        refine l18 hi_121_29 ?_
        refine l36 hi_121_33 fun _ => ⟨?_, ?_⟩
        · unfold c121; rw [if_neg cn1]; rw [if_neg cn2]; rw [if_pos cn3]
        · exact hS
      · refine l13f hi_121_13 (decide_eq_false cn3) ?_
        refine l1 (v := x0) hi_121_16 rfl ?_
        refine l0 hi_121_17 ?_
        by_cases cn4 : x0 = 14
        · refine l13t hi_121_19 (decide_eq_true cn4) ?_
          refine l0 hi_121_28 ?_
          refine l18 hi_121_29 ?_
          refine l36 hi_121_33 fun _ => ⟨?_, ?_⟩
          · unfold c121; rw [if_neg cn1]; rw [if_neg cn2]; rw [if_neg cn3]; rw [if_pos cn4]
          · exact hS
        · refine l13f hi_121_19 (decide_eq_false cn4) ?_
          refine l1 (v := x0) hi_121_22 rfl ?_
          refine l0 hi_121_23 ?_
          by_cases cn5 : x0 ≠ 30
          · refine l13t hi_121_25 (decide_eq_true cn5) ?_
            refine l0 hi_121_32 ?_
            refine l36 hi_121_33 fun _ => ⟨?_, ?_⟩
            · unfold c121; rw [if_neg cn1]; rw [if_neg cn2]; rw [if_neg cn3]; rw [if_neg cn4]; rw [if_pos cn5]
            · exact hS
          · refine l13f hi_121_25 (decide_eq_false cn5) ?_
            refine l0 hi_121_28 ?_
            refine l18 hi_121_29 ?_
            refine l36 hi_121_33 fun _ => ⟨?_, ?_⟩
            · unfold c121; rw [if_neg cn1]; rw [if_neg cn2]; rw [if_neg cn3]; rw [if_neg cn4]; rw [if_neg cn5]
            · exact hS
def c120b9 (s : cS) (t : Int32 × Int32 × Int32) : Nat × (Int32 × Int32 × Int32) := if t.2.1 = 0 then (1, (t.1, t.2.1, t.2.2)) else if 16384 < t.2.2 then (1, (t.1, t.2.1, t.2.2)) else if (c93 s t.1) ≠ 67 then if (c93 s t.1) ≠ 66 then (0, (t.1, 0, t.2.2 + 1)) else (0, (t.1 + 3, t.2.1, t.2.2 + 1)) else (0, (t.1 + 1, t.2.1, t.2.2 + 1))
theorem lb120_9 {sc : Nat × (Nat → Int32)} {d : Nat} {A : Nat → Nat} {K : Nat} {s : cS} {Q : Option (Option Value) → am_S → Prop} : ∀ (N : Nat) (S : am_S) (t : Int32 × Int32 × Int32), CM A K S s → (∀ m S1, (kwh (c120b9 s) m t).1 = 1 → CM A K S1 s → am_L (am_PP sc) N d 120 60 [some (.ref 2), some (.int ((kwh (c120b9 s) m t).2.1)), some (.int ((kwh (c120b9 s) m t).2.2.1)), some (.int ((kwh (c120b9 s) m t).2.2.2))] [] S1 Q) → am_L (am_PP sc) N d 120 9 [some (.ref 2), some (.int t.1), some (.int t.2.1), some (.int t.2.2)] [] S Q := by
  intro N
  induction N with
  | zero => intros; exact l_zero
  | succ N ih =>
    intro S t hS kx60
    refine l1d (v := t.2.1) hi_120_9 rfl ?_
    by_cases cn1 : t.2.1 = 0
    · refine l12t hi_120_10 (decide_eq_true cn1) ?_
      have e0 : (c120b9 s) t = (1, (t.1, t.2.1, t.2.2)) := by unfold c120b9; rw [if_pos cn1]
      have e1 : kwh (c120b9 s) 1 t = (1, (t.1, t.2.1, t.2.2)) := by rw [kwh_out (by rw [e0]; exact Nat.succ_ne_zero _), e0]
      have q := kx60 1 _  (by rw [e1]) (by exact hS)
      try rw [e1] at q
      exact q.less (Nat.le_succ N)
    · refine l12f hi_120_10 (decide_eq_false cn1) ?_
      refine l1 (v := t.2.2) hi_120_13 rfl ?_
      refine l0 hi_120_14 ?_
      by_cases cn2 : 16384 < t.2.2
      · refine l13t hi_120_17 (decide_eq_true cn2) ?_
        have e0 : (c120b9 s) t = (1, (t.1, t.2.1, t.2.2)) := by unfold c120b9; rw [if_neg cn1]; rw [if_pos cn2]
        have e1 : kwh (c120b9 s) 1 t = (1, (t.1, t.2.1, t.2.2)) := by rw [kwh_out (by rw [e0]; exact Nat.succ_ne_zero _), e0]
        have q := kx60 1 _  (by rw [e1]) (by exact hS)
        try rw [e1] at q
        exact q.less (Nat.le_succ N)
      · refine l13f hi_120_17 (decide_eq_false cn2) ?_
        refine l2 (v := 2) hi_120_20 rfl ?_
        refine l1 (v := t.1) hi_120_21 rfl ?_
        refine l32 (as := [.ref 2, .int t.1]) (la := [some (.ref 2), some (.int t.1)]) (rest := []) hi_120_22 (am_hd0 (M := 120) (by decide) 22) rfl rfl rfl (fun N' d' _ => lc93 (N := N') (d := d') hS ) ?_ (fun _ q => nomatch q.1)
        rintro v5 S3 ⟨ev5, h4⟩
        cases ev5
        show am_L _ _ _ _ _ [some (.ref 2), some (.int t.1), some (.int t.2.1), some (.int t.2.2)] [.int (c93 s t.1)] _ _
        refine l0 hi_120_25 ?_
        by_cases cn6 : (c93 s t.1) ≠ 67
        · refine l13t hi_120_27 (decide_eq_true cn6) ?_
          refine l2 (v := 2) hi_120_36 rfl ?_
          refine l1 (v := t.1) hi_120_37 rfl ?_
          refine l32 (as := [.ref 2, .int t.1]) (la := [some (.ref 2), some (.int t.1)]) (rest := []) hi_120_38 (am_hd0 (M := 120) (by decide) 38) rfl rfl rfl (fun N' d' _ => lc93 (N := N') (d := d') h4 ) ?_ (fun _ q => nomatch q.1)
          rintro v9 S7 ⟨ev9, h8⟩
          cases ev9
          show am_L _ _ _ _ _ [some (.ref 2), some (.int t.1), some (.int t.2.1), some (.int t.2.2)] [.int (c93 s t.1)] _ _
          refine l0 hi_120_41 ?_
          by_cases cn10 : (c93 s t.1) ≠ 66
          · refine l13t hi_120_43 (decide_eq_true cn10) ?_
            refine l0 hi_120_52 ?_
            refine l3 (ls' := [some (.ref 2), some (.int t.1), some (.int 0), some (.int t.2.2)]) hi_120_53 (Nat.le_of_ble_eq_true rfl) rfl ?_
            refine l5 (v := t.2.2) (ls' := [some (.ref 2), some (.int t.1), some (.int 0), some (.int (t.2.2 + 1))]) hi_120_54 rfl rfl ?_
            refine l18 hi_120_57 ?_
            have e0 : (c120b9 s) t = (0, (t.1, 0, t.2.2 + 1)) := by unfold c120b9; rw [if_neg cn1]; rw [if_neg cn2]; rw [if_pos cn6]; rw [if_pos cn10]
            have e1 : ∀ m, kwh (c120b9 s) (m + 1) t = kwh (c120b9 s) m (t.1, 0, t.2.2 + 1) := fun m => by rw [kwh_go (by rw [e0]), e0]
            exact ih _  (t.1, 0, t.2.2 + 1) h8 (fun m S1 hm h1 => by have q := kx60 (m + 1) S1 (by rw [e1]; exact hm) (by exact h1); (try rw [e1] at q); exact q.less (Nat.le_succ N))
          · refine l13f hi_120_43 (decide_eq_false cn10) ?_
            refine l5 (v := t.1) (ls' := [some (.ref 2), some (.int (t.1 + 3)), some (.int t.2.1), some (.int t.2.2)]) hi_120_46 rfl rfl ?_
            refine l18 hi_120_49 ?_
            refine l5 (v := t.2.2) (ls' := [some (.ref 2), some (.int (t.1 + 3)), some (.int t.2.1), some (.int (t.2.2 + 1))]) hi_120_54 rfl rfl ?_
            refine l18 hi_120_57 ?_
            have e0 : (c120b9 s) t = (0, (t.1 + 3, t.2.1, t.2.2 + 1)) := by unfold c120b9; rw [if_neg cn1]; rw [if_neg cn2]; rw [if_pos cn6]; rw [if_neg cn10]
            have e1 : ∀ m, kwh (c120b9 s) (m + 1) t = kwh (c120b9 s) m (t.1 + 3, t.2.1, t.2.2 + 1) := fun m => by rw [kwh_go (by rw [e0]), e0]
            exact ih _  (t.1 + 3, t.2.1, t.2.2 + 1) h8 (fun m S1 hm h1 => by have q := kx60 (m + 1) S1 (by rw [e1]; exact hm) (by exact h1); (try rw [e1] at q); exact q.less (Nat.le_succ N))
        · refine l13f hi_120_27 (decide_eq_false cn6) ?_
          refine l5 (v := t.1) (ls' := [some (.ref 2), some (.int (t.1 + 1)), some (.int t.2.1), some (.int t.2.2)]) hi_120_30 rfl rfl ?_
          refine l18 hi_120_33 ?_
          refine l5 (v := t.2.2) (ls' := [some (.ref 2), some (.int (t.1 + 1)), some (.int t.2.1), some (.int (t.2.2 + 1))]) hi_120_54 rfl rfl ?_
          refine l18 hi_120_57 ?_
          have e0 : (c120b9 s) t = (0, (t.1 + 1, t.2.1, t.2.2 + 1)) := by unfold c120b9; rw [if_neg cn1]; rw [if_neg cn2]; rw [if_neg cn6]
          have e1 : ∀ m, kwh (c120b9 s) (m + 1) t = kwh (c120b9 s) m (t.1 + 1, t.2.1, t.2.2 + 1) := fun m => by rw [kwh_go (by rw [e0]), e0]
          exact ih _  (t.1 + 1, t.2.1, t.2.2 + 1) h4 (fun m S1 hm h1 => by have q := kx60 (m + 1) S1 (by rw [e1]; exact hm) (by exact h1); (try rw [e1] at q); exact q.less (Nat.le_succ N))
noncomputable def c120_60 (s : cS) (y1 : Int32) : Int32 := if (c121 s (c93 s y1)) = 0 then 0 else if (c93 s y1) = 30 then 0 else 1
theorem lc120_60 {sc : Nat × (Nat → Int32)} {N d : Nat} {A : Nat → Nat} {K : Nat} {S : am_S} {s : cS} {y1 : Int32} {o2 : Option Value} {o3 : Option Value} (hS : CM A K S s) : am_L (am_PP sc) N d 120 60 [some (.ref 2), some (.int y1), o2, o3] [] S (fun o S1 => o = some (some (.int (c120_60 s y1))) ∧ CM A K S1 s) := by
  refine l2 (v := 2) hi_120_60 rfl ?_
  refine l1 (v := y1) hi_120_61 rfl ?_
  refine l32 (as := [.ref 2, .int y1]) (la := [some (.ref 2), some (.int y1)]) (rest := []) hi_120_62 (am_hd0 (M := 120) (by decide) 62) rfl rfl rfl (fun N' d' _ => lc93 (N := N') (d := d') hS ) ?_ (fun _ q => nomatch q.1)
  rintro v3 S1 ⟨ev3, h2⟩
  cases ev3
  show am_L _ _ _ _ _ [some (.ref 2), some (.int y1), o2, o3] [.int (c93 s y1)] _ _
  refine l32 (as := [.int (c93 s y1)]) (la := [some (.int (c93 s y1))]) (rest := []) hi_120_65 (am_hd0 (M := 120) (by decide) 65) rfl rfl rfl (fun N' d' _ => lc121 (N := N') (d := d') h2 ) ?_ (fun _ q => nomatch q.1)
  rintro v6 S4 ⟨ev6, h5⟩
  cases ev6
  show am_L _ _ _ _ _ [some (.ref 2), some (.int y1), o2, o3] [.int (c121 s (c93 s y1))] _ _
  by_cases cn7 : (c121 s (c93 s y1)) = 0
  · refine l12t hi_120_68 (decide_eq_true cn7) ?_
    refine l0 hi_120_85 ?_
    refine l36 hi_120_86 fun _ => ⟨?_, ?_⟩
    · unfold c120_60; rw [if_pos cn7]
    · exact h5
  · refine l12f hi_120_68 (decide_eq_false cn7) ?_
    refine l2 (v := 2) hi_120_71 rfl ?_
    refine l1 (v := y1) hi_120_72 rfl ?_
    refine l32 (as := [.ref 2, .int y1]) (la := [some (.ref 2), some (.int y1)]) (rest := []) hi_120_73 (am_hd0 (M := 120) (by decide) 73) rfl rfl rfl (fun N' d' _ => lc93 (N := N') (d := d') h5 ) ?_ (fun _ q => nomatch q.1)
    rintro v10 S8 ⟨ev10, h9⟩
    cases ev10
    show am_L _ _ _ _ _ [some (.ref 2), some (.int y1), o2, o3] [.int (c93 s y1)] _ _
    refine l0 hi_120_76 ?_
    by_cases cn11 : (c93 s y1) = 30
    · refine l13t hi_120_78 (decide_eq_true cn11) ?_
      refine l0 hi_120_85 ?_
      refine l36 hi_120_86 fun _ => ⟨?_, ?_⟩
      · unfold c120_60; rw [if_neg cn7]; rw [if_pos cn11]
      · exact h9
    · refine l13f hi_120_78 (decide_eq_false cn11) ?_
      refine l0 hi_120_81 ?_
      refine l18 hi_120_82 ?_
      refine l36 hi_120_86 fun _ => ⟨?_, ?_⟩
      · unfold c120_60; rw [if_neg cn7]; rw [if_neg cn11]
      · exact h9
noncomputable def c120 (s : cS) : Int32 := c120_60 s ((kfin (c120b9 s) (s.f 2 2, 1, 0)).2.1)
theorem lc120 {sc : Nat × (Nat → Int32)} {N d : Nat} {A : Nat → Nat} {K : Nat} {S : am_S} {s : cS} (hS : CM A K S s) : am_L (am_PP sc) N d 120 0 [some (.ref 2), none, none, none] [] S (fun o S1 => o = some (some (.int (c120 s))) ∧ CM A K S1 s) := by
  refine l2 (v := 2) hi_120_0 rfl ?_
  refine l20s (v := .int (s.f 2 2)) hS cs_2 hi_120_1 rfl ?_
  refine l3 (ls' := [some (.ref 2), some (.int (s.f 2 2)), none, none]) hi_120_4 (Nat.le_of_ble_eq_true rfl) rfl ?_
  refine l0 hi_120_5 ?_
  refine l3 (ls' := [some (.ref 2), some (.int (s.f 2 2)), some (.int 1), none]) hi_120_6 (Nat.le_of_ble_eq_true rfl) rfl ?_
  refine l0 hi_120_7 ?_
  refine l3 (ls' := [some (.ref 2), some (.int (s.f 2 2)), some (.int 1), some (.int 0)]) hi_120_8 (Nat.le_of_ble_eq_true rfl) rfl ?_
  refine lb120_9  N _  (s.f 2 2, 1, 0) hS ?_
  · intro m1 S2  hm3 h4
    have hf5 : kfin (c120b9 s) (s.f 2 2, 1, 0) = kwh (c120b9 s) m1 (s.f 2 2, 1, 0) := kfin_eq (by rw [hm3]; decide)
    rw [← hf5] at hm3
    try rw [← hf5]
    refine am_L.mono (lc120_60 h4 ) ?_
    rintro o S1 ⟨e, h⟩
    have q : c120 s = c120_60 s ((kfin (c120b9 s) (s.f 2 2, 1, 0)).2.1) := rfl
    rw [q]; exact ⟨e, h⟩
def c122 (s : cS) (x1 : Int32) (x2 : Int32) (x3 : Int32) (x4 : Int32) : cS × Int32 := if x4 = 0 then ((tad s (.s 24) x1 x2 x3 0).1, 0) else ((tad s (.s 24) x1 x2 x3 1).1, 0)
theorem lc122 {sc : Nat × (Nat → Int32)} {N d : Nat} {A : Nat → Nat} {K : Nat} {S : am_S} {s : cS} {x1 : Int32} {x2 : Int32} {x3 : Int32} {x4 : Int32} (hS : CM A K S s) : am_L (am_PP sc) N d 122 0 [some (.ref 23), some (.int x1), some (.int x2), some (.int x3), some (.int x4)] [] S (fun o S1 => o = some none ∧ CM A K S1 (c122 s x1 x2 x3 x4).1) := by
  refine l2 (v := 23) hi_122_0 rfl ?_
  refine l20s (v := .ref 24) hS cs_23 hi_122_1 rfl ?_
  refine l1 (v := x1) hi_122_4 rfl ?_
  refine l1 (v := x2) hi_122_5 rfl ?_
  refine l1 (v := x3) hi_122_6 rfl ?_
  refine l1 (v := x4) hi_122_7 rfl ?_
  by_cases cn1 : x4 = 0
  · refine l12t hi_122_9 (decide_eq_true cn1) ?_
    refine l0 hi_122_16 ?_
    refine l32 (as := [.ref 24, .int x1, .int x2, .int x3, .int 0]) (la := [some (.ref 24), some (.int x1), some (.int x2), some (.int x3), some (.int 0), none]) (rest := []) hi_122_17 (am_hd0 (M := 122) (by decide) 17) rfl rfl rfl (fun N' d' _ => lc31 (N := N') (d := d') (t := (.s 24)) hS ct_24) ?_ (fun _ q => nomatch q.1)
    rintro v4 S2 ⟨ev4, h3⟩
    cases ev4
    show am_L _ _ _ _ _ [some (.ref 23), some (.int x1), some (.int x2), some (.int x3), some (.int x4)] [.int ((tad s (.s 24) x1 x2 x3 0).2)] _ _
    refine l6i hi_122_20 ?_
    refine l35 hi_122_21 ⟨rfl, ?_⟩
    unfold c122; rw [if_pos cn1]; exact h3
  · refine l12f hi_122_9 (decide_eq_false cn1) ?_
    refine l0 hi_122_12 ?_
    refine l18 hi_122_13 ?_
    refine l32 (as := [.ref 24, .int x1, .int x2, .int x3, .int 1]) (la := [some (.ref 24), some (.int x1), some (.int x2), some (.int x3), some (.int 1), none]) (rest := []) hi_122_17 (am_hd0 (M := 122) (by decide) 17) rfl rfl rfl (fun N' d' _ => lc31 (N := N') (d := d') (t := (.s 24)) hS ct_24) ?_ (fun _ q => nomatch q.1)
    rintro v7 S5 ⟨ev7, h6⟩
    cases ev7
    show am_L _ _ _ _ _ [some (.ref 23), some (.int x1), some (.int x2), some (.int x3), some (.int x4)] [.int ((tad s (.s 24) x1 x2 x3 1).2)] _ _
    refine l6i hi_122_20 ?_
    refine l35 hi_122_21 ⟨rfl, ?_⟩
    unfold c122; rw [if_neg cn1]; exact h6
noncomputable def c119_69 (s : cS) (y2 : Int32) : cS × Option Int32 := ((c122 s y2 (c98 s) (c75 s) (c120 s)).1, some 0)
theorem lc119_69 {sc : Nat × (Nat → Int32)} {N d : Nat} {A : Nat → Nat} {K : Nat} {S : am_S} {s : cS} {y2 : Int32} {o1 : Option Value} (hS : CM A K S s) : am_L (am_PP sc) N d 119 69 [some (.ref 7), o1, some (.int y2)] [] S (fun o S1 => o = cow (c119_69 s y2).2 ∧ CM A K S1 (c119_69 s y2).1) := by
  refine l2 (v := 7) hi_119_69 rfl ?_
  refine l20s (v := .ref 12) hS cs_7 hi_119_70 rfl ?_
  refine l20s (v := .ref 23) hS cs_12 hi_119_73 rfl ?_
  refine l1 (v := y2) hi_119_76 rfl ?_
  refine l2 (v := 7) hi_119_77 rfl ?_
  refine l32 (as := [.ref 7]) (la := [some (.ref 7)]) (rest := [.int y2, .ref 23]) hi_119_78 (am_hd0 (M := 119) (by decide) 78) rfl rfl rfl (fun N' d' _ => lc98 (N := N') (d := d') hS ) ?_ (fun _ q => nomatch q.1)
  rintro v3 S1 ⟨ev3, h2⟩
  cases ev3
  show am_L _ _ _ _ _ [some (.ref 7), o1, some (.int y2)] [.int (c98 s), .int y2, .ref 23] _ _
  refine l2 (v := 7) hi_119_81 rfl ?_
  refine l20s (v := .ref 12) h2 cs_7 hi_119_82 rfl ?_
  refine l32 (as := [.ref 12]) (la := [some (.ref 12)]) (rest := [.int (c98 s), .int y2, .ref 23]) hi_119_85 (am_hd0 (M := 119) (by decide) 85) rfl rfl rfl (fun N' d' _ => lc75 (N := N') (d := d') h2 ) ?_ (fun _ q => nomatch q.1)
  rintro v6 S4 ⟨ev6, h5⟩
  cases ev6
  show am_L _ _ _ _ _ [some (.ref 7), o1, some (.int y2)] [.int (c75 s), .int (c98 s), .int y2, .ref 23] _ _
  refine l2 (v := 7) hi_119_88 rfl ?_
  refine l20s (v := .ref 2) h5 cs_7 hi_119_89 rfl ?_
  refine l32 (as := [.ref 2]) (la := [some (.ref 2), none, none, none]) (rest := [.int (c75 s), .int (c98 s), .int y2, .ref 23]) hi_119_92 (am_hd0 (M := 119) (by decide) 92) rfl rfl rfl (fun N' d' _ => lc120 (N := N') (d := d') h5 ) ?_ (fun _ q => nomatch q.1)
  rintro v9 S7 ⟨ev9, h8⟩
  cases ev9
  show am_L _ _ _ _ _ [some (.ref 7), o1, some (.int y2)] [.int (c120 s), .int (c75 s), .int (c98 s), .int y2, .ref 23] _ _
  refine l32 (as := [.ref 23, .int y2, .int (c98 s), .int (c75 s), .int (c120 s)]) (la := [some (.ref 23), some (.int y2), some (.int (c98 s)), some (.int (c75 s)), some (.int (c120 s))]) (rest := []) hi_119_95 (am_hd0 (M := 119) (by decide) 95) rfl rfl rfl (fun N' d' _ => lc122 (N := N') (d := d') h8 ) ?_ (fun _ q => nomatch q.1)
  rintro v12 S10 ⟨ev12, h11⟩
  cases ev12
  show am_L _ _ _ _ _ [some (.ref 7), o1, some (.int y2)] [] _ _
  have e_ : c119_69 s y2 = ((c122 s y2 (c98 s) (c75 s) (c120 s)).1, some 0) := rfl
  refine l35 hi_119_98 ⟨?_, ?_⟩
  · rw [e_]; rfl
  · rw [e_]; exact h11
noncomputable def c119_34 (s : cS) (y1 : Int32) (y2 : Int32) (z0 : Int32) : cS × Option Int32 := if (c84 s y2 (s.b s.now 10)) < 0 then c119_69 s y2 else c119_69 ((c76 s 13 y1).1) y2
theorem lc119_34 {sc : Nat × (Nat → Int32)} {N d : Nat} {A : Nat → Nat} {K : Nat} {S : am_S} {s : cS} {y1 : Int32} {y2 : Int32} {z0 : Int32} (hS : CM A K S s) : am_L (am_PP sc) N d 119 34 [some (.ref 7), some (.int y1), some (.int y2)] [.int z0] S (fun o S1 => o = cow (c119_34 s y1 y2 z0).2 ∧ CM A K S1 (c119_34 s y1 y2 z0).1) := by
  refine l6i hi_119_34 ?_
  refine l2 (v := 7) hi_119_35 rfl ?_
  refine l20s (v := .ref 12) hS cs_7 hi_119_36 rfl ?_
  refine l20s (v := .ref 23) hS cs_12 hi_119_39 rfl ?_
  refine l1 (v := y2) hi_119_42 rfl ?_
  refine l2 (v := 7) hi_119_43 rfl ?_
  refine l20s (v := .ref 12) hS cs_7 hi_119_44 rfl ?_
  refine l32 (as := [.ref 12]) (la := [some (.ref 12)]) (rest := [.int y2, .ref 23]) hi_119_47 (am_hd0 (M := 119) (by decide) 47) rfl rfl rfl (fun N' d' _ => lc79 (N := N') (d := d') hS) ?_ (fun _ q => nomatch q.1)
  rintro v3 S1 ⟨ev3, h2⟩
  cases ev3
  show am_L _ _ _ _ _ [some (.ref 7), some (.int y1), some (.int y2)] [.ref (A s.now), .int y2, .ref 23] _ _
  refine l20b (v := .int (s.b s.now 10)) h2 (show s.now ≤ K from CM.nl (s := s) hS) hi_119_50 rfl ?_
  refine l32 (as := [.ref 23, .int y2, .int (s.b s.now 10)]) (la := [some (.ref 23), some (.int y2), some (.int (s.b s.now 10)), none]) (rest := []) hi_119_53 (am_hd0 (M := 119) (by decide) 53) rfl rfl rfl (fun N' d' _ => lc84 (N := N') (d := d') h2 ) ?_ (fun _ q => nomatch q.1)
  rintro v6 S4 ⟨ev6, h5⟩
  cases ev6
  show am_L _ _ _ _ _ [some (.ref 7), some (.int y1), some (.int y2)] [.int (c84 s y2 (s.b s.now 10))] _ _
  by_cases cn7 : (c84 s y2 (s.b s.now 10)) < 0
  · refine l12t hi_119_56 (decide_eq_true cn7) ?_
    refine am_L.mono (lc119_69 h5 ) ?_
    rintro o S1 ⟨e, h⟩
    have q : c119_34 s y1 y2 z0 = c119_69 s y2 := by unfold c119_34; rw [if_pos cn7]
    rw [q]; exact ⟨e, h⟩
  · refine l12f hi_119_56 (decide_eq_false cn7) ?_
    refine l2 (v := 7) hi_119_59 rfl ?_
    refine l20s (v := .ref 1) h5 cs_7 hi_119_60 rfl ?_
    refine l0 hi_119_63 ?_
    refine l1 (v := y1) hi_119_65 rfl ?_
    refine l32 (as := [.ref 1, .int 13, .int y1]) (la := [some (.ref 1), some (.int 13), some (.int y1)]) (rest := []) hi_119_66 (am_hd0 (M := 119) (by decide) 66) rfl rfl rfl (fun N' d' _ => lc76 (N := N') (d := d') h5 ) ?_ (fun _ q => nomatch q.1)
    rintro v10 S8 ⟨ev10, h9⟩
    cases ev10
    show am_L _ _ _ _ _ [some (.ref 7), some (.int y1), some (.int y2)] [] _ _
    refine am_L.mono (lc119_69 h9 ) ?_
    rintro o S1 ⟨e, h⟩
    have q : c119_34 s y1 y2 z0 = c119_69 ((c76 s 13 y1).1) y2 := by unfold c119_34; rw [if_neg cn7]
    rw [q]; exact ⟨e, h⟩
noncomputable def c119_24 (s : cS) (y1 : Int32) (z0 : Int32) : cS × Option Int32 := cbd (c64 s 66) (fun _ w4 => c119_34 ((c64 s 66).1) y1 z0 w4)
theorem lc119_24 {sc : Nat × (Nat → Int32)} {N d : Nat} {A : Nat → Nat} {K : Nat} {S : am_S} {s : cS} {y1 : Int32} {z0 : Int32} {o2 : Option Value} (hS : CM A K S s) : am_L (am_PP sc) N d 119 24 [some (.ref 7), some (.int y1), o2] [.int z0] S (fun o S1 => o = cow (c119_24 s y1 z0).2 ∧ CM A K S1 (c119_24 s y1 z0).1) := by
  refine l3 (ls' := [some (.ref 7), some (.int y1), some (.int z0)]) hi_119_24 (Nat.le_of_ble_eq_true rfl) rfl ?_
  refine l2 (v := 7) hi_119_25 rfl ?_
  refine l20s (v := .ref 2) hS cs_7 hi_119_26 rfl ?_
  refine l0 hi_119_29 ?_
  refine l32 (as := [.ref 2, .int 66]) (la := [some (.ref 2), some (.int 66)]) (rest := []) hi_119_31 (am_hd0 (M := 119) (by decide) 31) rfl rfl rfl (fun N' d' hN_ => lc64 (N := N') (d := d') hS ) ?_ ?_
  · rintro v3 S1 ⟨ev, h2⟩
    obtain ⟨w4, e5, rfl⟩ := cov_some ev
    show am_L _ _ _ _ _ [some (.ref 7), some (.int y1), some (.int z0)] [.int w4] _ _
    refine am_L.mono (lc119_34 h2 ) ?_
    rintro o S1 ⟨e, h⟩
    have q : c119_24 s y1 z0 = c119_34 ((c64 s 66).1) y1 z0 w4 := by unfold c119_24; rw [cbd_some e5]
    rw [q]; exact ⟨e, h⟩
  · rintro S1 ⟨q1, q2⟩
    have hn := cov_none q1
    have e_ : c119_24 s y1 z0 = (c64 s 66) := by unfold c119_24; rw [cbd_none hn]
    rw [e_]
    exact ⟨by rw [hn]; rfl, q2⟩
noncomputable def c119_7 (s : cS) (z0 : Int32) : cS × Option Int32 := cbd (c64 s 1) (fun _ w7 => c119_24 ((c64 s 1).1) (c63 s) w7)
theorem lc119_7 {sc : Nat × (Nat → Int32)} {N d : Nat} {A : Nat → Nat} {K : Nat} {S : am_S} {s : cS} {z0 : Int32} {o1 : Option Value} {o2 : Option Value} (hS : CM A K S s) : am_L (am_PP sc) N d 119 7 [some (.ref 7), o1, o2] [.int z0] S (fun o S1 => o = cow (c119_7 s z0).2 ∧ CM A K S1 (c119_7 s z0).1) := by
  refine l6i hi_119_7 ?_
  refine l2 (v := 7) hi_119_8 rfl ?_
  refine l20s (v := .ref 2) hS cs_7 hi_119_9 rfl ?_
  refine l32 (as := [.ref 2]) (la := [some (.ref 2)]) (rest := []) hi_119_12 (am_hd0 (M := 119) (by decide) 12) rfl rfl rfl (fun N' d' _ => lc63 (N := N') (d := d') hS ) ?_ (fun _ q => nomatch q.1)
  rintro v3 S1 ⟨ev3, h2⟩
  cases ev3
  show am_L _ _ _ _ _ [some (.ref 7), o1, o2] [.int (c63 s)] _ _
  refine l3 (ls' := [some (.ref 7), some (.int (c63 s)), o2]) hi_119_15 (Nat.le_of_ble_eq_true rfl) rfl ?_
  refine l2 (v := 7) hi_119_16 rfl ?_
  refine l20s (v := .ref 2) h2 cs_7 hi_119_17 rfl ?_
  refine l0 hi_119_20 ?_
  refine l32 (as := [.ref 2, .int 1]) (la := [some (.ref 2), some (.int 1)]) (rest := []) hi_119_21 (am_hd0 (M := 119) (by decide) 21) rfl rfl rfl (fun N' d' hN_ => lc64 (N := N') (d := d') h2 ) ?_ ?_
  · rintro v6 S4 ⟨ev, h5⟩
    obtain ⟨w7, e8, rfl⟩ := cov_some ev
    show am_L _ _ _ _ _ [some (.ref 7), some (.int (c63 s)), o2] [.int w7] _ _
    refine am_L.mono (lc119_24 h5 ) ?_
    rintro o S1 ⟨e, h⟩
    have q : c119_7 s z0 = c119_24 ((c64 s 1).1) (c63 s) w7 := by unfold c119_7; rw [cbd_some e8]
    rw [q]; exact ⟨e, h⟩
  · rintro S4 ⟨q1, q2⟩
    have hn := cov_none q1
    have e_ : c119_7 s z0 = (c64 s 1) := by unfold c119_7; rw [cbd_none hn]
    rw [e_]
    exact ⟨by rw [hn]; rfl, q2⟩
noncomputable def c119 (s : cS) : cS × Option Int32 := cbd (c55 s) (fun _ w4 => c119_7 ((c55 s).1) w4)
theorem lc119 {sc : Nat × (Nat → Int32)} {N d : Nat} {A : Nat → Nat} {K : Nat} {S : am_S} {s : cS} (hS : CM A K S s) : am_L (am_PP sc) N d 119 0 [some (.ref 7), none, none] [] S (fun o S1 => o = cow (c119 s).2 ∧ CM A K S1 (c119 s).1) := by
  refine l2 (v := 7) hi_119_0 rfl ?_
  refine l20s (v := .ref 2) hS cs_7 hi_119_1 rfl ?_
  refine l32 (as := [.ref 2]) (la := [some (.ref 2), none]) (rest := []) hi_119_4 (am_hd0 (M := 119) (by decide) 4) rfl rfl rfl (fun N' d' hN_ => lc55 (N := N') (d := d') hS ) ?_ ?_
  · rintro v3 S1 ⟨ev, h2⟩
    obtain ⟨w4, e5, rfl⟩ := cov_some ev
    show am_L _ _ _ _ _ [some (.ref 7), none, none] [.int w4] _ _
    refine am_L.mono (lc119_7 h2 ) ?_
    rintro o S1 ⟨e, h⟩
    have q : c119 s = c119_7 ((c55 s).1) w4 := by unfold c119; rw [cbd_some e5]
    rw [q]; exact ⟨e, h⟩
  · rintro S1 ⟨q1, q2⟩
    have hn := cov_none q1
    have e_ : c119 s = (c55 s) := by unfold c119; rw [cbd_none hn]
    rw [e_]
    exact ⟨by rw [hn]; rfl, q2⟩
def c124 (s : cS) : Int32 := tg s (.s 28) ((s.r (.s 28)) - 1) 0
theorem lc124 {sc : Nat × (Nat → Int32)} {N d : Nat} {A : Nat → Nat} {K : Nat} {S : am_S} {s : cS} (hS : CM A K S s) : am_L (am_PP sc) N d 124 0 [some (.ref 23)] [] S (fun o S1 => o = some (some (.int (c124 s))) ∧ CM A K S1 s) := by
  refine l2 (v := 23) hi_124_0 rfl ?_
  refine l20s (v := .ref 28) hS cs_23 hi_124_1 rfl ?_
  refine l2 (v := 23) hi_124_4 rfl ?_
  refine l20s (v := .ref 28) hS cs_23 hi_124_5 rfl ?_
  refine l32 (as := [.ref 28]) (la := [some (.ref 28)]) (rest := [.ref 28]) hi_124_8 (am_hd0 (M := 124) (by decide) 8) rfl rfl rfl (fun N' d' _ => lc36 (N := N') (d := d') (t := (.s 28)) hS ct_28) ?_ (fun _ q => nomatch q.1)
  rintro v3 S1 ⟨ev3, h2⟩
  cases ev3
  show am_L _ _ _ _ _ [some (.ref 23)] [.int (s.r (.s 28)), .ref 28] _ _
  refine l0 hi_124_11 ?_
  refine l10 hi_124_12 ?_
  show am_L _ _ _ _ _ [some (.ref 23)] [.int ((s.r (.s 28)) - 1), .ref 28] _ _
  refine l0 hi_124_13 ?_
  refine l32 (as := [.ref 28, .int ((s.r (.s 28)) - 1), .int 0]) (la := [some (.ref 28), some (.int ((s.r (.s 28)) - 1)), some (.int 0)]) (rest := []) hi_124_14 (am_hd0 (M := 124) (by decide) 14) rfl rfl rfl (fun N' d' _ => lc54 (N := N') (d := d') (t := (.s 28)) h2 ct_28) ?_ (fun _ q => nomatch q.1)
  rintro v6 S4 ⟨ev6, h5⟩
  cases ev6
  show am_L _ _ _ _ _ [some (.ref 23)] [.int (tg s (.s 28) ((s.r (.s 28)) - 1) 0)] _ _
  refine l33 hi_124_17 ⟨?_, ?_⟩
  · rfl
  · exact h5
def c125 (s : cS) (x1 : Int32) : cS × Int32 := ((tad s (.s 30) x1 0 0 0).1, 0)
theorem lc125 {sc : Nat × (Nat → Int32)} {N d : Nat} {A : Nat → Nat} {K : Nat} {S : am_S} {s : cS} {x1 : Int32} (hS : CM A K S s) : am_L (am_PP sc) N d 125 0 [some (.ref 23), some (.int x1)] [] S (fun o S1 => o = some none ∧ CM A K S1 (c125 s x1).1) := by
  refine l2 (v := 23) hi_125_0 rfl ?_
  refine l20s (v := .ref 30) hS cs_23 hi_125_1 rfl ?_
  refine l1 (v := x1) hi_125_4 rfl ?_
  refine l0 hi_125_5 ?_
  refine l0 hi_125_6 ?_
  refine l0 hi_125_7 ?_
  refine l32 (as := [.ref 30, .int x1, .int 0, .int 0, .int 0]) (la := [some (.ref 30), some (.int x1), some (.int 0), some (.int 0), some (.int 0), none]) (rest := []) hi_125_8 (am_hd0 (M := 125) (by decide) 8) rfl rfl rfl (fun N' d' _ => lc31 (N := N') (d := d') (t := (.s 30)) hS ct_30) ?_ (fun _ q => nomatch q.1)
  rintro v3 S1 ⟨ev3, h2⟩
  cases ev3
  show am_L _ _ _ _ _ [some (.ref 23), some (.int x1)] [.int ((tad s (.s 30) x1 0 0 0).2)] _ _
  refine l6i hi_125_11 ?_
  refine l35 hi_125_12 ⟨rfl, ?_⟩
  exact h2
def c123_82 (s : cS) : cS × Option Int32 := ((c125 ((c78 s 36 0 0 0).1) ((c78 s 36 0 0 0).2)).1, some 0)
theorem lc123_82 {sc : Nat × (Nat → Int32)} {N d : Nat} {A : Nat → Nat} {K : Nat} {S : am_S} {s : cS} {o1 : Option Value} {o2 : Option Value} (hS : CM A K S s) : am_L (am_PP sc) N d 123 82 [some (.ref 7), o1, o2] [] S (fun o S1 => o = cow (c123_82 s).2 ∧ CM A K S1 (c123_82 s).1) := by
  refine l2 (v := 7) hi_123_82 rfl ?_
  refine l20s (v := .ref 12) hS cs_7 hi_123_83 rfl ?_
  refine l20s (v := .ref 23) hS cs_12 hi_123_86 rfl ?_
  refine l2 (v := 7) hi_123_89 rfl ?_
  refine l0 hi_123_90 ?_
  refine l0 hi_123_92 ?_
  refine l0 hi_123_93 ?_
  refine l0 hi_123_94 ?_
  refine l32 (as := [.ref 7, .int 36, .int 0, .int 0, .int 0]) (la := [some (.ref 7), some (.int 36), some (.int 0), some (.int 0), some (.int 0)]) (rest := [.ref 23]) hi_123_95 (am_hd0 (M := 123) (by decide) 95) rfl rfl rfl (fun N' d' _ => lc78 (N := N') (d := d') hS ) ?_ (fun _ q => nomatch q.1)
  rintro v3 S1 ⟨ev3, h2⟩
  cases ev3
  show am_L _ _ _ _ _ [some (.ref 7), o1, o2] [.int ((c78 s 36 0 0 0).2), .ref 23] _ _
  refine l32 (as := [.ref 23, .int ((c78 s 36 0 0 0).2)]) (la := [some (.ref 23), some (.int ((c78 s 36 0 0 0).2))]) (rest := []) hi_123_98 (am_hd0 (M := 123) (by decide) 98) rfl rfl rfl (fun N' d' _ => lc125 (N := N') (d := d') h2 ) ?_ (fun _ q => nomatch q.1)
  rintro v6 S4 ⟨ev6, h5⟩
  cases ev6
  show am_L _ _ _ _ _ [some (.ref 7), o1, o2] [] _ _
  have e_ : c123_82 s = ((c125 ((c78 s 36 0 0 0).1) ((c78 s 36 0 0 0).2)).1, some 0) := rfl
  refine l35 hi_123_101 ⟨?_, ?_⟩
  · rw [e_]; rfl
  · rw [e_]; exact h5
def c123_81 (s : cS) (z0 : Int32) : cS × Option Int32 := c123_82 s
theorem lc123_81 {sc : Nat × (Nat → Int32)} {N d : Nat} {A : Nat → Nat} {K : Nat} {S : am_S} {s : cS} {z0 : Int32} {o1 : Option Value} {o2 : Option Value} (hS : CM A K S s) : am_L (am_PP sc) N d 123 81 [some (.ref 7), o1, o2] [.int z0] S (fun o S1 => o = cow (c123_81 s z0).2 ∧ CM A K S1 (c123_81 s z0).1) := by
  refine l6i hi_123_81 ?_
  refine am_L.mono (lc123_82 hS ) ?_
  rintro o S1 ⟨e, h⟩
  have q : c123_81 s z0 = c123_82 s := rfl
  rw [q]; exact ⟨e, h⟩
def c123_15 (s : cS) (y1 : Int32) (z0 : Int32) : cS × Option Int32 := if (c50 s) ≠ (s.b s.now 12) then if (c75 s) ≤ (c124 s) then c123_82 s else c123_81 ((c78 s 33 (c124 s) 0 0).1) ((c78 s 33 (c124 s) 0 0).2) else ((c76 s 11 y1).1, some 0)
theorem lc123_15 {sc : Nat × (Nat → Int32)} {N d : Nat} {A : Nat → Nat} {K : Nat} {S : am_S} {s : cS} {y1 : Int32} {z0 : Int32} {o2 : Option Value} (hS : CM A K S s) : am_L (am_PP sc) N d 123 15 [some (.ref 7), some (.int y1), o2] [.int z0] S (fun o S1 => o = cow (c123_15 s y1 z0).2 ∧ CM A K S1 (c123_15 s y1 z0).1) := by
  refine l6i hi_123_15 ?_
  refine l2 (v := 7) hi_123_16 rfl ?_
  refine l20s (v := .ref 12) hS cs_7 hi_123_17 rfl ?_
  refine l20s (v := .ref 23) hS cs_12 hi_123_20 rfl ?_
  refine l32 (as := [.ref 23]) (la := [some (.ref 23)]) (rest := []) hi_123_23 (am_hd0 (M := 123) (by decide) 23) rfl rfl rfl (fun N' d' _ => lc50 (N := N') (d := d') hS ) ?_ (fun _ q => nomatch q.1)
  rintro v3 S1 ⟨ev3, h2⟩
  cases ev3
  show am_L _ _ _ _ _ [some (.ref 7), some (.int y1), o2] [.int (c50 s)] _ _
  refine l2 (v := 7) hi_123_26 rfl ?_
  refine l20s (v := .ref 12) h2 cs_7 hi_123_27 rfl ?_
  refine l32 (as := [.ref 12]) (la := [some (.ref 12)]) (rest := [.int (c50 s)]) hi_123_30 (am_hd0 (M := 123) (by decide) 30) rfl rfl rfl (fun N' d' _ => lc79 (N := N') (d := d') h2) ?_ (fun _ q => nomatch q.1)
  rintro v6 S4 ⟨ev6, h5⟩
  cases ev6
  show am_L _ _ _ _ _ [some (.ref 7), some (.int y1), o2] [.ref (A s.now), .int (c50 s)] _ _
  refine l20b (v := .int (s.b s.now 12)) h5 (show s.now ≤ K from CM.nl (s := s) h2) hi_123_33 rfl ?_
  by_cases cn7 : (c50 s) ≠ (s.b s.now 12)
  · refine l13t hi_123_36 (decide_eq_true cn7) ?_
    refine l2 (v := 7) hi_123_50 rfl ?_
    refine l20s (v := .ref 12) h5 cs_7 hi_123_51 rfl ?_
    refine l20s (v := .ref 23) h5 cs_12 hi_123_54 rfl ?_
    refine l32 (as := [.ref 23]) (la := [some (.ref 23)]) (rest := []) hi_123_57 (am_hd0 (M := 123) (by decide) 57) rfl rfl rfl (fun N' d' _ => lc124 (N := N') (d := d') h5 ) ?_ (fun _ q => nomatch q.1)
    rintro v10 S8 ⟨ev10, h9⟩
    cases ev10
    show am_L _ _ _ _ _ [some (.ref 7), some (.int y1), o2] [.int (c124 s)] _ _
    refine l3 (ls' := [some (.ref 7), some (.int y1), some (.int (c124 s))]) hi_123_60 (Nat.le_of_ble_eq_true rfl) rfl ?_
    refine l2 (v := 7) hi_123_61 rfl ?_
    refine l20s (v := .ref 12) h9 cs_7 hi_123_62 rfl ?_
    refine l32 (as := [.ref 12]) (la := [some (.ref 12)]) (rest := []) hi_123_65 (am_hd0 (M := 123) (by decide) 65) rfl rfl rfl (fun N' d' _ => lc75 (N := N') (d := d') h9 ) ?_ (fun _ q => nomatch q.1)
    rintro v13 S11 ⟨ev13, h12⟩
    cases ev13
    show am_L _ _ _ _ _ [some (.ref 7), some (.int y1), some (.int (c124 s))] [.int (c75 s)] _ _
    refine l1 (v := c124 s) hi_123_68 rfl ?_
    by_cases cn14 : (c75 s) ≤ (c124 s)
    · refine l13t hi_123_69 (decide_eq_true cn14) ?_
      refine am_L.mono (lc123_82 h12 ) ?_
      rintro o S1 ⟨e, h⟩
      have q : c123_15 s y1 z0 = c123_82 s := by unfold c123_15; rw [if_pos cn7]; rw [if_pos cn14]
      rw [q]; exact ⟨e, h⟩
    · refine l13f hi_123_69 (decide_eq_false cn14) ?_
      refine l2 (v := 7) hi_123_72 rfl ?_
      refine l0 hi_123_73 ?_
      refine l1 (v := c124 s) hi_123_75 rfl ?_
      refine l0 hi_123_76 ?_
      refine l0 hi_123_77 ?_
      refine l32 (as := [.ref 7, .int 33, .int (c124 s), .int 0, .int 0]) (la := [some (.ref 7), some (.int 33), some (.int (c124 s)), some (.int 0), some (.int 0)]) (rest := []) hi_123_78 (am_hd0 (M := 123) (by decide) 78) rfl rfl rfl (fun N' d' _ => lc78 (N := N') (d := d') h12 ) ?_ (fun _ q => nomatch q.1)
      rintro v17 S15 ⟨ev17, h16⟩
      cases ev17
      show am_L _ _ _ _ _ [some (.ref 7), some (.int y1), some (.int (c124 s))] [.int ((c78 s 33 (c124 s) 0 0).2)] _ _
      refine am_L.mono (lc123_81 h16 ) ?_
      rintro o S1 ⟨e, h⟩
      have q : c123_15 s y1 z0 = c123_81 ((c78 s 33 (c124 s) 0 0).1) ((c78 s 33 (c124 s) 0 0).2) := by unfold c123_15; rw [if_pos cn7]; rw [if_neg cn14]
      rw [q]; exact ⟨e, h⟩
  · refine l13f hi_123_36 (decide_eq_false cn7) ?_
    refine l2 (v := 7) hi_123_39 rfl ?_
    refine l20s (v := .ref 1) h5 cs_7 hi_123_40 rfl ?_
    refine l0 hi_123_43 ?_
    refine l1 (v := y1) hi_123_45 rfl ?_
    refine l32 (as := [.ref 1, .int 11, .int y1]) (la := [some (.ref 1), some (.int 11), some (.int y1)]) (rest := []) hi_123_46 (am_hd0 (M := 123) (by decide) 46) rfl rfl rfl (fun N' d' _ => lc76 (N := N') (d := d') h5 ) ?_ (fun _ q => nomatch q.1)
    rintro v20 S18 ⟨ev20, h19⟩
    cases ev20
    show am_L _ _ _ _ _ [some (.ref 7), some (.int y1), o2] [] _ _
    have e_ : c123_15 s y1 z0 = ((c76 s 11 y1).1, some 0) := by unfold c123_15; rw [if_neg cn7]
    refine l35 hi_123_49 ⟨?_, ?_⟩
    · rw [e_]; rfl
    · rw [e_]; exact h19
def c123 (s : cS) : cS × Option Int32 := cbd (c55 s) (fun _ w7 => c123_15 ((c55 s).1) (c63 s) w7)
theorem lc123 {sc : Nat × (Nat → Int32)} {N d : Nat} {A : Nat → Nat} {K : Nat} {S : am_S} {s : cS} (hS : CM A K S s) : am_L (am_PP sc) N d 123 0 [some (.ref 7), none, none] [] S (fun o S1 => o = cow (c123 s).2 ∧ CM A K S1 (c123 s).1) := by
  refine l2 (v := 7) hi_123_0 rfl ?_
  refine l20s (v := .ref 2) hS cs_7 hi_123_1 rfl ?_
  refine l32 (as := [.ref 2]) (la := [some (.ref 2)]) (rest := []) hi_123_4 (am_hd0 (M := 123) (by decide) 4) rfl rfl rfl (fun N' d' _ => lc63 (N := N') (d := d') hS ) ?_ (fun _ q => nomatch q.1)
  rintro v3 S1 ⟨ev3, h2⟩
  cases ev3
  show am_L _ _ _ _ _ [some (.ref 7), none, none] [.int (c63 s)] _ _
  refine l3 (ls' := [some (.ref 7), some (.int (c63 s)), none]) hi_123_7 (Nat.le_of_ble_eq_true rfl) rfl ?_
  refine l2 (v := 7) hi_123_8 rfl ?_
  refine l20s (v := .ref 2) h2 cs_7 hi_123_9 rfl ?_
  refine l32 (as := [.ref 2]) (la := [some (.ref 2), none]) (rest := []) hi_123_12 (am_hd0 (M := 123) (by decide) 12) rfl rfl rfl (fun N' d' hN_ => lc55 (N := N') (d := d') h2 ) ?_ ?_
  · rintro v6 S4 ⟨ev, h5⟩
    obtain ⟨w7, e8, rfl⟩ := cov_some ev
    show am_L _ _ _ _ _ [some (.ref 7), some (.int (c63 s)), none] [.int w7] _ _
    refine am_L.mono (lc123_15 h5 ) ?_
    rintro o S1 ⟨e, h⟩
    have q : c123 s = c123_15 ((c55 s).1) (c63 s) w7 := by unfold c123; rw [cbd_some e8]
    rw [q]; exact ⟨e, h⟩
  · rintro S4 ⟨q1, q2⟩
    have hn := cov_none q1
    have e_ : c123 s = (c55 s) := by unfold c123; rw [cbd_none hn]
    rw [e_]
    exact ⟨by rw [hn]; rfl, q2⟩
def c127 (s : cS) (x1 : Int32) (x2 : Int32) (x3 : Int32) (x4 : Int32) : cS × Int32 := ((tad s (.s 26) x1 x2 x3 x4).1, 0)
theorem lc127 {sc : Nat × (Nat → Int32)} {N d : Nat} {A : Nat → Nat} {K : Nat} {S : am_S} {s : cS} {x1 : Int32} {x2 : Int32} {x3 : Int32} {x4 : Int32} (hS : CM A K S s) : am_L (am_PP sc) N d 127 0 [some (.ref 23), some (.int x1), some (.int x2), some (.int x3), some (.int x4)] [] S (fun o S1 => o = some none ∧ CM A K S1 (c127 s x1 x2 x3 x4).1) := by
  refine l2 (v := 23) hi_127_0 rfl ?_
  refine l20s (v := .ref 26) hS cs_23 hi_127_1 rfl ?_
  refine l1 (v := x1) hi_127_4 rfl ?_
  refine l1 (v := x2) hi_127_5 rfl ?_
  refine l1 (v := x3) hi_127_6 rfl ?_
  refine l1 (v := x4) hi_127_7 rfl ?_
  refine l32 (as := [.ref 26, .int x1, .int x2, .int x3, .int x4]) (la := [some (.ref 26), some (.int x1), some (.int x2), some (.int x3), some (.int x4), none]) (rest := []) hi_127_9 (am_hd0 (M := 127) (by decide) 9) rfl rfl rfl (fun N' d' _ => lc31 (N := N') (d := d') (t := (.s 26)) hS ct_26) ?_ (fun _ q => nomatch q.1)
  rintro v3 S1 ⟨ev3, h2⟩
  cases ev3
  show am_L _ _ _ _ _ [some (.ref 23), some (.int x1), some (.int x2), some (.int x3), some (.int x4)] [.int ((tad s (.s 26) x1 x2 x3 x4).2)] _ _
  refine l6i hi_127_12 ?_
  refine l35 hi_127_13 ⟨rfl, ?_⟩
  exact h2
def c126_54 (s : cS) (y1 : Int32) (y2 : Int32) (y3 : Int32) (z0 : Int32) : cS × Option Int32 := ((c127 s y2 y1 y3 (c75 s)).1, some 0)
theorem lc126_54 {sc : Nat × (Nat → Int32)} {N d : Nat} {A : Nat → Nat} {K : Nat} {S : am_S} {s : cS} {y1 : Int32} {y2 : Int32} {y3 : Int32} {z0 : Int32} (hS : CM A K S s) : am_L (am_PP sc) N d 126 54 [some (.ref 7), some (.int y1), some (.int y2), some (.int y3)] [.int z0] S (fun o S1 => o = cow (c126_54 s y1 y2 y3 z0).2 ∧ CM A K S1 (c126_54 s y1 y2 y3 z0).1) := by
  refine l6i hi_126_54 ?_
  refine l2 (v := 7) hi_126_55 rfl ?_
  refine l20s (v := .ref 12) hS cs_7 hi_126_56 rfl ?_
  refine l20s (v := .ref 23) hS cs_12 hi_126_59 rfl ?_
  refine l1 (v := y2) hi_126_62 rfl ?_
  refine l1 (v := y1) hi_126_63 rfl ?_
  refine l1 (v := y3) hi_126_64 rfl ?_
  refine l2 (v := 7) hi_126_65 rfl ?_
  refine l20s (v := .ref 12) hS cs_7 hi_126_66 rfl ?_
  refine l32 (as := [.ref 12]) (la := [some (.ref 12)]) (rest := [.int y3, .int y1, .int y2, .ref 23]) hi_126_69 (am_hd0 (M := 126) (by decide) 69) rfl rfl rfl (fun N' d' _ => lc75 (N := N') (d := d') hS ) ?_ (fun _ q => nomatch q.1)
  rintro v3 S1 ⟨ev3, h2⟩
  cases ev3
  show am_L _ _ _ _ _ [some (.ref 7), some (.int y1), some (.int y2), some (.int y3)] [.int (c75 s), .int y3, .int y1, .int y2, .ref 23] _ _
  refine l32 (as := [.ref 23, .int y2, .int y1, .int y3, .int (c75 s)]) (la := [some (.ref 23), some (.int y2), some (.int y1), some (.int y3), some (.int (c75 s))]) (rest := []) hi_126_72 (am_hd0 (M := 126) (by decide) 72) rfl rfl rfl (fun N' d' _ => lc127 (N := N') (d := d') h2 ) ?_ (fun _ q => nomatch q.1)
  rintro v6 S4 ⟨ev6, h5⟩
  cases ev6
  show am_L _ _ _ _ _ [some (.ref 7), some (.int y1), some (.int y2), some (.int y3)] [] _ _
  have e_ : c126_54 s y1 y2 y3 z0 = ((c127 s y2 y1 y3 (c75 s)).1, some 0) := rfl
  refine l35 hi_126_75 ⟨?_, ?_⟩
  · rw [e_]; rfl
  · rw [e_]; exact h5
def c126_44 (s : cS) (y1 : Int32) (y2 : Int32) (z0 : Int32) : cS × Option Int32 := c126_54 ((c78 s 36 0 0 0).1) y1 y2 z0 ((c78 s 36 0 0 0).2)
theorem lc126_44 {sc : Nat × (Nat → Int32)} {N d : Nat} {A : Nat → Nat} {K : Nat} {S : am_S} {s : cS} {y1 : Int32} {y2 : Int32} {z0 : Int32} {o3 : Option Value} (hS : CM A K S s) : am_L (am_PP sc) N d 126 44 [some (.ref 7), some (.int y1), some (.int y2), o3] [.int z0] S (fun o S1 => o = cow (c126_44 s y1 y2 z0).2 ∧ CM A K S1 (c126_44 s y1 y2 z0).1) := by
  refine l3 (ls' := [some (.ref 7), some (.int y1), some (.int y2), some (.int z0)]) hi_126_44 (Nat.le_of_ble_eq_true rfl) rfl ?_
  refine l2 (v := 7) hi_126_45 rfl ?_
  refine l0 hi_126_46 ?_
  refine l0 hi_126_48 ?_
  refine l0 hi_126_49 ?_
  refine l0 hi_126_50 ?_
  refine l32 (as := [.ref 7, .int 36, .int 0, .int 0, .int 0]) (la := [some (.ref 7), some (.int 36), some (.int 0), some (.int 0), some (.int 0)]) (rest := []) hi_126_51 (am_hd0 (M := 126) (by decide) 51) rfl rfl rfl (fun N' d' _ => lc78 (N := N') (d := d') hS ) ?_ (fun _ q => nomatch q.1)
  rintro v3 S1 ⟨ev3, h2⟩
  cases ev3
  show am_L _ _ _ _ _ [some (.ref 7), some (.int y1), some (.int y2), some (.int z0)] [.int ((c78 s 36 0 0 0).2)] _ _
  refine am_L.mono (lc126_54 h2 ) ?_
  rintro o S1 ⟨e, h⟩
  have q : c126_44 s y1 y2 z0 = c126_54 ((c78 s 36 0 0 0).1) y1 y2 z0 ((c78 s 36 0 0 0).2) := rfl
  rw [q]; exact ⟨e, h⟩
def c126_34 (s : cS) (y1 : Int32) (y2 : Int32) (z0 : Int32) : cS × Option Int32 := c126_44 ((c78 s 33 0 0 0).1) y1 y2 ((c78 s 33 0 0 0).2)
theorem lc126_34 {sc : Nat × (Nat → Int32)} {N d : Nat} {A : Nat → Nat} {K : Nat} {S : am_S} {s : cS} {y1 : Int32} {y2 : Int32} {z0 : Int32} {o3 : Option Value} (hS : CM A K S s) : am_L (am_PP sc) N d 126 34 [some (.ref 7), some (.int y1), some (.int y2), o3] [.int z0] S (fun o S1 => o = cow (c126_34 s y1 y2 z0).2 ∧ CM A K S1 (c126_34 s y1 y2 z0).1) := by
  refine l6i hi_126_34 ?_
  refine l2 (v := 7) hi_126_35 rfl ?_
  refine l0 hi_126_36 ?_
  refine l0 hi_126_38 ?_
  refine l0 hi_126_39 ?_
  refine l0 hi_126_40 ?_
  refine l32 (as := [.ref 7, .int 33, .int 0, .int 0, .int 0]) (la := [some (.ref 7), some (.int 33), some (.int 0), some (.int 0), some (.int 0)]) (rest := []) hi_126_41 (am_hd0 (M := 126) (by decide) 41) rfl rfl rfl (fun N' d' _ => lc78 (N := N') (d := d') hS ) ?_ (fun _ q => nomatch q.1)
  rintro v3 S1 ⟨ev3, h2⟩
  cases ev3
  show am_L _ _ _ _ _ [some (.ref 7), some (.int y1), some (.int y2), o3] [.int ((c78 s 33 0 0 0).2)] _ _
  refine am_L.mono (lc126_44 h2 ) ?_
  rintro o S1 ⟨e, h⟩
  have q : c126_34 s y1 y2 z0 = c126_44 ((c78 s 33 0 0 0).1) y1 y2 ((c78 s 33 0 0 0).2) := rfl
  rw [q]; exact ⟨e, h⟩
def c126_24 (s : cS) (y1 : Int32) (z0 : Int32) : cS × Option Int32 := c126_34 ((c78 s 34 0 0 y1).1) y1 z0 ((c78 s 34 0 0 y1).2)
theorem lc126_24 {sc : Nat × (Nat → Int32)} {N d : Nat} {A : Nat → Nat} {K : Nat} {S : am_S} {s : cS} {y1 : Int32} {z0 : Int32} {o2 : Option Value} {o3 : Option Value} (hS : CM A K S s) : am_L (am_PP sc) N d 126 24 [some (.ref 7), some (.int y1), o2, o3] [.int z0] S (fun o S1 => o = cow (c126_24 s y1 z0).2 ∧ CM A K S1 (c126_24 s y1 z0).1) := by
  refine l3 (ls' := [some (.ref 7), some (.int y1), some (.int z0), o3]) hi_126_24 (Nat.le_of_ble_eq_true rfl) rfl ?_
  refine l2 (v := 7) hi_126_25 rfl ?_
  refine l0 hi_126_26 ?_
  refine l0 hi_126_28 ?_
  refine l0 hi_126_29 ?_
  refine l1 (v := y1) hi_126_30 rfl ?_
  refine l32 (as := [.ref 7, .int 34, .int 0, .int 0, .int y1]) (la := [some (.ref 7), some (.int 34), some (.int 0), some (.int 0), some (.int y1)]) (rest := []) hi_126_31 (am_hd0 (M := 126) (by decide) 31) rfl rfl rfl (fun N' d' _ => lc78 (N := N') (d := d') hS ) ?_ (fun _ q => nomatch q.1)
  rintro v3 S1 ⟨ev3, h2⟩
  cases ev3
  show am_L _ _ _ _ _ [some (.ref 7), some (.int y1), some (.int z0), o3] [.int ((c78 s 34 0 0 y1).2)] _ _
  refine am_L.mono (lc126_34 h2 ) ?_
  rintro o S1 ⟨e, h⟩
  have q : c126_24 s y1 z0 = c126_34 ((c78 s 34 0 0 y1).1) y1 z0 ((c78 s 34 0 0 y1).2) := rfl
  rw [q]; exact ⟨e, h⟩
def c126_15 (s : cS) (y1 : Int32) (z0 : Int32) : cS × Option Int32 := cbd (c64 s 1) (fun _ w4 => c126_24 ((c64 s 1).1) y1 w4)
theorem lc126_15 {sc : Nat × (Nat → Int32)} {N d : Nat} {A : Nat → Nat} {K : Nat} {S : am_S} {s : cS} {y1 : Int32} {z0 : Int32} {o2 : Option Value} {o3 : Option Value} (hS : CM A K S s) : am_L (am_PP sc) N d 126 15 [some (.ref 7), some (.int y1), o2, o3] [.int z0] S (fun o S1 => o = cow (c126_15 s y1 z0).2 ∧ CM A K S1 (c126_15 s y1 z0).1) := by
  refine l6i hi_126_15 ?_
  refine l2 (v := 7) hi_126_16 rfl ?_
  refine l20s (v := .ref 2) hS cs_7 hi_126_17 rfl ?_
  refine l0 hi_126_20 ?_
  refine l32 (as := [.ref 2, .int 1]) (la := [some (.ref 2), some (.int 1)]) (rest := []) hi_126_21 (am_hd0 (M := 126) (by decide) 21) rfl rfl rfl (fun N' d' hN_ => lc64 (N := N') (d := d') hS ) ?_ ?_
  · rintro v3 S1 ⟨ev, h2⟩
    obtain ⟨w4, e5, rfl⟩ := cov_some ev
    show am_L _ _ _ _ _ [some (.ref 7), some (.int y1), o2, o3] [.int w4] _ _
    refine am_L.mono (lc126_24 h2 ) ?_
    rintro o S1 ⟨e, h⟩
    have q : c126_15 s y1 z0 = c126_24 ((c64 s 1).1) y1 w4 := by unfold c126_15; rw [cbd_some e5]
    rw [q]; exact ⟨e, h⟩
  · rintro S1 ⟨q1, q2⟩
    have hn := cov_none q1
    have e_ : c126_15 s y1 z0 = (c64 s 1) := by unfold c126_15; rw [cbd_none hn]
    rw [e_]
    exact ⟨by rw [hn]; rfl, q2⟩
def c126 (s : cS) : cS × Option Int32 := cbd (c55 s) (fun _ w7 => c126_15 ((c55 s).1) (c63 s) w7)
theorem lc126 {sc : Nat × (Nat → Int32)} {N d : Nat} {A : Nat → Nat} {K : Nat} {S : am_S} {s : cS} (hS : CM A K S s) : am_L (am_PP sc) N d 126 0 [some (.ref 7), none, none, none] [] S (fun o S1 => o = cow (c126 s).2 ∧ CM A K S1 (c126 s).1) := by
  refine l2 (v := 7) hi_126_0 rfl ?_
  refine l20s (v := .ref 2) hS cs_7 hi_126_1 rfl ?_
  refine l32 (as := [.ref 2]) (la := [some (.ref 2)]) (rest := []) hi_126_4 (am_hd0 (M := 126) (by decide) 4) rfl rfl rfl (fun N' d' _ => lc63 (N := N') (d := d') hS ) ?_ (fun _ q => nomatch q.1)
  rintro v3 S1 ⟨ev3, h2⟩
  cases ev3
  show am_L _ _ _ _ _ [some (.ref 7), none, none, none] [.int (c63 s)] _ _
  refine l3 (ls' := [some (.ref 7), some (.int (c63 s)), none, none]) hi_126_7 (Nat.le_of_ble_eq_true rfl) rfl ?_
  refine l2 (v := 7) hi_126_8 rfl ?_
  refine l20s (v := .ref 2) h2 cs_7 hi_126_9 rfl ?_
  refine l32 (as := [.ref 2]) (la := [some (.ref 2), none]) (rest := []) hi_126_12 (am_hd0 (M := 126) (by decide) 12) rfl rfl rfl (fun N' d' hN_ => lc55 (N := N') (d := d') h2 ) ?_ ?_
  · rintro v6 S4 ⟨ev, h5⟩
    obtain ⟨w7, e8, rfl⟩ := cov_some ev
    show am_L _ _ _ _ _ [some (.ref 7), some (.int (c63 s)), none, none] [.int w7] _ _
    refine am_L.mono (lc126_15 h5 ) ?_
    rintro o S1 ⟨e, h⟩
    have q : c126 s = c126_15 ((c55 s).1) (c63 s) w7 := by unfold c126; rw [cbd_some e8]
    rw [q]; exact ⟨e, h⟩
  · rintro S4 ⟨q1, q2⟩
    have hn := cov_none q1
    have e_ : c126 s = (c55 s) := by unfold c126; rw [cbd_none hn]
    rw [e_]
    exact ⟨by rw [hn]; rfl, q2⟩
def c129 (s : cS) : Int32 := if (c75 s) ≤ (c82 s) then 0 else 1
theorem lc129 {sc : Nat × (Nat → Int32)} {N d : Nat} {A : Nat → Nat} {K : Nat} {S : am_S} {s : cS} (hS : CM A K S s) : am_L (am_PP sc) N d 129 0 [some (.ref 12)] [] S (fun o S1 => o = some (some (.int (c129 s))) ∧ CM A K S1 s) := by
  refine l2 (v := 12) hi_129_0 rfl ?_
  refine l32 (as := [.ref 12]) (la := [some (.ref 12)]) (rest := []) hi_129_1 (am_hd0 (M := 129) (by decide) 1) rfl rfl rfl (fun N' d' _ => lc75 (N := N') (d := d') hS ) ?_ (fun _ q => nomatch q.1)
  rintro v3 S1 ⟨ev3, h2⟩
  cases ev3
  show am_L _ _ _ _ _ [some (.ref 12)] [.int (c75 s)] _ _
  refine l2 (v := 12) hi_129_4 rfl ?_
  refine l32 (as := [.ref 12]) (la := [some (.ref 12)]) (rest := [.int (c75 s)]) hi_129_5 (am_hd0 (M := 129) (by decide) 5) rfl rfl rfl (fun N' d' _ => lc82 (N := N') (d := d') h2 ) ?_ (fun _ q => nomatch q.1)
  rintro v6 S4 ⟨ev6, h5⟩
  cases ev6
  show am_L _ _ _ _ _ [some (.ref 12)] [.int (c82 s), .int (c75 s)] _ _
  by_cases cn7 : (c75 s) ≤ (c82 s)
  · refine l13t hi_129_8 (decide_eq_true cn7) ?_
    refine l0 hi_129_15 ?_
    refine l36 hi_129_16 fun _ => ⟨?_, ?_⟩
    · unfold c129; rw [if_pos cn7]
    · exact h5
  · refine l13f hi_129_8 (decide_eq_false cn7) ?_
    refine l0 hi_129_11 ?_
    refine l18 hi_129_12 ?_
    refine l36 hi_129_16 fun _ => ⟨?_, ?_⟩
    · unfold c129; rw [if_neg cn7]
    · exact h5
def c131 (s : cS) (x1 : Int32) : cS × Int32 := ((tad s (.s 28) x1 (s.r (.s 30)) 0 0).1, 0)
theorem lc131 {sc : Nat × (Nat → Int32)} {N d : Nat} {A : Nat → Nat} {K : Nat} {S : am_S} {s : cS} {x1 : Int32} (hS : CM A K S s) : am_L (am_PP sc) N d 131 0 [some (.ref 23), some (.int x1)] [] S (fun o S1 => o = some none ∧ CM A K S1 (c131 s x1).1) := by
  refine l2 (v := 23) hi_131_0 rfl ?_
  refine l20s (v := .ref 28) hS cs_23 hi_131_1 rfl ?_
  refine l1 (v := x1) hi_131_4 rfl ?_
  refine l2 (v := 23) hi_131_5 rfl ?_
  refine l20s (v := .ref 30) hS cs_23 hi_131_6 rfl ?_
  refine l32 (as := [.ref 30]) (la := [some (.ref 30)]) (rest := [.int x1, .ref 28]) hi_131_9 (am_hd0 (M := 131) (by decide) 9) rfl rfl rfl (fun N' d' _ => lc36 (N := N') (d := d') (t := (.s 30)) hS ct_30) ?_ (fun _ q => nomatch q.1)
  rintro v3 S1 ⟨ev3, h2⟩
  cases ev3
  show am_L _ _ _ _ _ [some (.ref 23), some (.int x1)] [.int (s.r (.s 30)), .int x1, .ref 28] _ _
  refine l0 hi_131_12 ?_
  refine l0 hi_131_13 ?_
  refine l32 (as := [.ref 28, .int x1, .int (s.r (.s 30)), .int 0, .int 0]) (la := [some (.ref 28), some (.int x1), some (.int (s.r (.s 30))), some (.int 0), some (.int 0), none]) (rest := []) hi_131_14 (am_hd0 (M := 131) (by decide) 14) rfl rfl rfl (fun N' d' _ => lc31 (N := N') (d := d') (t := (.s 28)) h2 ct_28) ?_ (fun _ q => nomatch q.1)
  rintro v6 S4 ⟨ev6, h5⟩
  cases ev6
  show am_L _ _ _ _ _ [some (.ref 23), some (.int x1)] [.int ((tad s (.s 28) x1 (s.r (.s 30)) 0 0).2)] _ _
  refine l6i hi_131_17 ?_
  refine l35 hi_131_18 ⟨rfl, ?_⟩
  exact h5
def c132b20 (y1 : Nat) (y2 : Int32) (t : cS × Int32) : Nat × (cS × Int32) := if (t.1.r (.s 30)) ≤ t.2 then (1, (t.1, t.2)) else (0, ((c109 t.1 y1 (tg t.1 (.s 30) t.2 0) 1).1, t.2 + 1))
theorem lb132_20 {sc : Nat × (Nat → Int32)} {d : Nat} {A : Nat → Nat} {K : Nat} {y1 : Nat} {y2 : Int32} {Q : Option (Option Value) → am_S → Prop} (hy1 : y1 ≤ K) : ∀ (N : Nat) (S : am_S) (t : cS × Int32), CM A K S t.1 → (∀ m S1, (kwh (c132b20 y1 y2) m t).1 = 1 → CM A K S1 (kwh (c132b20 y1 y2) m t).2.1 → am_L (am_PP sc) N d 132 51 [some (.ref 23), some (.ref (A y1)), some (.int y2), some (.int ((kwh (c132b20 y1 y2) m t).2.2))] [] S1 Q) → am_L (am_PP sc) N d 132 20 [some (.ref 23), some (.ref (A y1)), some (.int y2), some (.int t.2)] [] S Q := by
  intro N
  induction N with
  | zero => intros; exact l_zero
  | succ N ih =>
    intro S t hS kx51
    refine l1d (v := t.2) hi_132_20 rfl ?_
    refine l2 (v := 23) hi_132_21 rfl ?_
    refine l20s (v := .ref 30) hS cs_23 hi_132_22 rfl ?_
    refine l32 (as := [.ref 30]) (la := [some (.ref 30)]) (rest := [.int t.2]) hi_132_25 (am_hd0 (M := 132) (by decide) 25) rfl rfl rfl (fun N' d' _ => lc36 (N := N') (d := d') (t := (.s 30)) hS ct_30) ?_ (fun _ q => nomatch q.1)
    rintro v3 S1 ⟨ev3, h2⟩
    cases ev3
    show am_L _ _ _ _ _ [some (.ref 23), some (.ref (A y1)), some (.int y2), some (.int t.2)] [.int (t.1.r (.s 30)), .int t.2] _ _
    by_cases cn4 : (t.1.r (.s 30)) ≤ t.2
    · refine l13t hi_132_28 (decide_eq_true cn4) ?_
      have e0 : (c132b20 y1 y2) t = (1, (t.1, t.2)) := by unfold c132b20; rw [if_pos cn4]
      have e1 : kwh (c132b20 y1 y2) 1 t = (1, (t.1, t.2)) := by rw [kwh_out (by rw [e0]; exact Nat.succ_ne_zero _), e0]
      have q := kx51 1 _  (by rw [e1]) (by rw [e1]; exact h2)
      try rw [e1] at q
      exact q.less (Nat.le_succ N)
    · refine l13f hi_132_28 (decide_eq_false cn4) ?_
      refine l2 (v := (A y1)) hi_132_31 rfl ?_
      refine l2 (v := 23) hi_132_32 rfl ?_
      refine l20s (v := .ref 30) h2 cs_23 hi_132_33 rfl ?_
      refine l1 (v := t.2) hi_132_36 rfl ?_
      refine l0 hi_132_37 ?_
      refine l32 (as := [.ref 30, .int t.2, .int 0]) (la := [some (.ref 30), some (.int t.2), some (.int 0)]) (rest := [.ref (A y1)]) hi_132_38 (am_hd0 (M := 132) (by decide) 38) rfl rfl rfl (fun N' d' _ => lc54 (N := N') (d := d') (t := (.s 30)) h2 ct_30) ?_ (fun _ q => nomatch q.1)
      rintro v7 S5 ⟨ev7, h6⟩
      cases ev7
      show am_L _ _ _ _ _ [some (.ref 23), some (.ref (A y1)), some (.int y2), some (.int t.2)] [.int (tg t.1 (.s 30) t.2 0), .ref (A y1)] _ _
      refine l0 hi_132_41 ?_
      refine l32 (as := [.ref (A y1), .int (tg t.1 (.s 30) t.2 0), .int 1]) (la := [some (.ref (A y1)), some (.int (tg t.1 (.s 30) t.2 0)), some (.int 1)]) (rest := []) hi_132_42 (am_hd0 (M := 132) (by decide) 42) rfl rfl rfl (fun N' d' _ => lc109 (N := N') (d := d') h6 hy1) ?_ (fun _ q => nomatch q.1)
      rintro v10 S8 ⟨ev10, h9⟩
      cases ev10
      show am_L _ _ _ _ _ [some (.ref 23), some (.ref (A y1)), some (.int y2), some (.int t.2)] [] _ _
      refine l5 (v := t.2) (ls' := [some (.ref 23), some (.ref (A y1)), some (.int y2), some (.int (t.2 + 1))]) hi_132_45 rfl rfl ?_
      refine l18 hi_132_48 ?_
      have e0 : (c132b20 y1 y2) t = (0, ((c109 t.1 y1 (tg t.1 (.s 30) t.2 0) 1).1, t.2 + 1)) := by unfold c132b20; rw [if_neg cn4]
      have e1 : ∀ m, kwh (c132b20 y1 y2) (m + 1) t = kwh (c132b20 y1 y2) m ((c109 t.1 y1 (tg t.1 (.s 30) t.2 0) 1).1, t.2 + 1) := fun m => by rw [kwh_go (by rw [e0]), e0]
      exact ih _  ((c109 t.1 y1 (tg t.1 (.s 30) t.2 0) 1).1, t.2 + 1) h9 (fun m S1 hm h1 => by have q := kx51 (m + 1) S1 (by rw [e1]; exact hm) (by rw [e1]; exact h1); (try rw [e1] at q); exact q.less (Nat.le_succ N))
noncomputable def c132_59 (s : cS) : cS × Int32 := (tct s (.s 28) ((s.r (.s 28)) - 1), 0)
theorem lc132_59 {sc : Nat × (Nat → Int32)} {N d : Nat} {A : Nat → Nat} {K : Nat} {S : am_S} {s : cS} {o1 : Option Value} {o2 : Option Value} {o3 : Option Value} (hS : CM A K S s) : am_L (am_PP sc) N d 132 59 [some (.ref 23), o1, o2, o3] [] S (fun o S1 => o = some none ∧ CM A K S1 (c132_59 s).1) := by
  refine l2 (v := 23) hi_132_59 rfl ?_
  refine l20s (v := .ref 28) hS cs_23 hi_132_60 rfl ?_
  refine l2 (v := 23) hi_132_63 rfl ?_
  refine l20s (v := .ref 28) hS cs_23 hi_132_64 rfl ?_
  refine l32 (as := [.ref 28]) (la := [some (.ref 28)]) (rest := [.ref 28]) hi_132_67 (am_hd0 (M := 132) (by decide) 67) rfl rfl rfl (fun N' d' _ => lc36 (N := N') (d := d') (t := (.s 28)) hS ct_28) ?_ (fun _ q => nomatch q.1)
  rintro v3 S1 ⟨ev3, h2⟩
  cases ev3
  show am_L _ _ _ _ _ [some (.ref 23), o1, o2, o3] [.int (s.r (.s 28)), .ref 28] _ _
  refine l0 hi_132_70 ?_
  refine l10 hi_132_71 ?_
  show am_L _ _ _ _ _ [some (.ref 23), o1, o2, o3] [.int ((s.r (.s 28)) - 1), .ref 28] _ _
  refine l32 (as := [.ref 28, .int ((s.r (.s 28)) - 1)]) (la := [some (.ref 28), some (.int ((s.r (.s 28)) - 1))]) (rest := []) hi_132_72 (am_hd0 (M := 132) (by decide) 72) rfl rfl rfl (fun N' d' _ => lc30 (N := N') (d := d') (t := (.s 28)) h2 ct_28) ?_ (fun _ q => nomatch q.1)
  rintro v6 S4 ⟨ev6, h5⟩
  cases ev6
  show am_L _ _ _ _ _ [some (.ref 23), o1, o2, o3] [] _ _
  refine l35 hi_132_75 ⟨rfl, ?_⟩
  exact h5
noncomputable def c132 (s : cS) (x1 : Nat) : cS × Int32 := c132_59 (tct ((kfin (c132b20 x1 (tg s (.s 28) ((s.r (.s 28)) - 1) 1)) (s, tg s (.s 28) ((s.r (.s 28)) - 1) 1)).2.1) (.s 30) (tg s (.s 28) ((s.r (.s 28)) - 1) 1))
theorem lc132 {sc : Nat × (Nat → Int32)} {N d : Nat} {A : Nat → Nat} {K : Nat} {S : am_S} {s : cS} {x1 : Nat} (hS : CM A K S s) (hx1 : x1 ≤ K) : am_L (am_PP sc) N d 132 0 [some (.ref 23), some (.ref (A x1)), none, none] [] S (fun o S1 => o = some none ∧ CM A K S1 (c132 s x1).1) := by
  refine l2 (v := 23) hi_132_0 rfl ?_
  refine l20s (v := .ref 28) hS cs_23 hi_132_1 rfl ?_
  refine l2 (v := 23) hi_132_4 rfl ?_
  refine l20s (v := .ref 28) hS cs_23 hi_132_5 rfl ?_
  refine l32 (as := [.ref 28]) (la := [some (.ref 28)]) (rest := [.ref 28]) hi_132_8 (am_hd0 (M := 132) (by decide) 8) rfl rfl rfl (fun N' d' _ => lc36 (N := N') (d := d') (t := (.s 28)) hS ct_28) ?_ (fun _ q => nomatch q.1)
  rintro v3 S1 ⟨ev3, h2⟩
  cases ev3
  show am_L _ _ _ _ _ [some (.ref 23), some (.ref (A x1)), none, none] [.int (s.r (.s 28)), .ref 28] _ _
  refine l0 hi_132_11 ?_
  refine l10 hi_132_12 ?_
  show am_L _ _ _ _ _ [some (.ref 23), some (.ref (A x1)), none, none] [.int ((s.r (.s 28)) - 1), .ref 28] _ _
  refine l0 hi_132_13 ?_
  refine l32 (as := [.ref 28, .int ((s.r (.s 28)) - 1), .int 1]) (la := [some (.ref 28), some (.int ((s.r (.s 28)) - 1)), some (.int 1)]) (rest := []) hi_132_14 (am_hd0 (M := 132) (by decide) 14) rfl rfl rfl (fun N' d' _ => lc54 (N := N') (d := d') (t := (.s 28)) h2 ct_28) ?_ (fun _ q => nomatch q.1)
  rintro v6 S4 ⟨ev6, h5⟩
  cases ev6
  show am_L _ _ _ _ _ [some (.ref 23), some (.ref (A x1)), none, none] [.int (tg s (.s 28) ((s.r (.s 28)) - 1) 1)] _ _
  refine l3 (ls' := [some (.ref 23), some (.ref (A x1)), some (.int (tg s (.s 28) ((s.r (.s 28)) - 1) 1)), none]) hi_132_17 (Nat.le_of_ble_eq_true rfl) rfl ?_
  refine l1 (v := tg s (.s 28) ((s.r (.s 28)) - 1) 1) hi_132_18 rfl ?_
  refine l3 (ls' := [some (.ref 23), some (.ref (A x1)), some (.int (tg s (.s 28) ((s.r (.s 28)) - 1) 1)), some (.int (tg s (.s 28) ((s.r (.s 28)) - 1) 1))]) hi_132_19 (Nat.le_of_ble_eq_true rfl) rfl ?_
  refine lb132_20 hx1 N _  (s, tg s (.s 28) ((s.r (.s 28)) - 1) 1) h5 ?_
  · intro m7 S8  hm9 h10
    have hf11 : kfin (c132b20 x1 (tg s (.s 28) ((s.r (.s 28)) - 1) 1)) (s, tg s (.s 28) ((s.r (.s 28)) - 1) 1) = kwh (c132b20 x1 (tg s (.s 28) ((s.r (.s 28)) - 1) 1)) m7 (s, tg s (.s 28) ((s.r (.s 28)) - 1) 1) := kfin_eq (by rw [hm9]; decide)
    rw [← hf11] at hm9 h10
    try rw [← hf11]
    refine l2 (v := 23) hi_132_51 rfl ?_
    refine l20s (v := .ref 30) h10 cs_23 hi_132_52 rfl ?_
    refine l1 (v := tg s (.s 28) ((s.r (.s 28)) - 1) 1) hi_132_55 rfl ?_
    refine l32 (as := [.ref 30, .int (tg s (.s 28) ((s.r (.s 28)) - 1) 1)]) (la := [some (.ref 30), some (.int (tg s (.s 28) ((s.r (.s 28)) - 1) 1))]) (rest := []) hi_132_56 (am_hd0 (M := 132) (by decide) 56) rfl rfl rfl (fun N' d' _ => lc30 (N := N') (d := d') (t := (.s 30)) h10 ct_30) ?_ (fun _ q => nomatch q.1)
    rintro v14 S12 ⟨ev14, h13⟩
    cases ev14
    show am_L _ _ _ _ _ [some (.ref 23), some (.ref (A x1)), some (.int (tg s (.s 28) ((s.r (.s 28)) - 1) 1)), some (.int ((kfin (c132b20 x1 (tg s (.s 28) ((s.r (.s 28)) - 1) 1)) (s, tg s (.s 28) ((s.r (.s 28)) - 1) 1)).2.2))] [] _ _
    refine am_L.mono (lc132_59 h13 ) ?_
    rintro o S1 ⟨e, h⟩
    have q : c132 s x1 = c132_59 (tct ((kfin (c132b20 x1 (tg s (.s 28) ((s.r (.s 28)) - 1) 1)) (s, tg s (.s 28) ((s.r (.s 28)) - 1) 1)).2.1) (.s 30) (tg s (.s 28) ((s.r (.s 28)) - 1) 1)) := rfl
    rw [q]; exact ⟨e, h⟩
def c136_9 (s : cS) (y1 : Int32) (z0 : Int32) : cS × Int32 := ((c109 s s.now y1 1).1, z0)
theorem lc136_9 {sc : Nat × (Nat → Int32)} {N d : Nat} {A : Nat → Nat} {K : Nat} {S : am_S} {s : cS} {y1 : Int32} {z0 : Int32} {o2 : Option Value} {o3 : Option Value} (hS : CM A K S s) : am_L (am_PP sc) N d 136 9 [some (.ref 7), some (.int y1), o2, o3] [.int z0] S (fun o S1 => o = some (some (.int (c136_9 s y1 z0).2)) ∧ CM A K S1 (c136_9 s y1 z0).1) := by
  refine l3 (ls' := [some (.ref 7), some (.int y1), o2, some (.int z0)]) hi_136_9 (Nat.le_of_ble_eq_true rfl) rfl ?_
  refine l2 (v := 7) hi_136_10 rfl ?_
  refine l20s (v := .ref 12) hS cs_7 hi_136_11 rfl ?_
  refine l32 (as := [.ref 12]) (la := [some (.ref 12)]) (rest := []) hi_136_14 (am_hd0 (M := 136) (by decide) 14) rfl rfl rfl (fun N' d' _ => lc79 (N := N') (d := d') hS) ?_ (fun _ q => nomatch q.1)
  rintro v3 S1 ⟨ev3, h2⟩
  cases ev3
  show am_L _ _ _ _ _ [some (.ref 7), some (.int y1), o2, some (.int z0)] [.ref (A s.now)] _ _
  refine l1 (v := y1) hi_136_17 rfl ?_
  refine l0 hi_136_18 ?_
  refine l32 (as := [.ref (A s.now), .int y1, .int 1]) (la := [some (.ref (A s.now)), some (.int y1), some (.int 1)]) (rest := []) hi_136_19 (am_hd0 (M := 136) (by decide) 19) rfl rfl rfl (fun N' d' _ => lc109 (N := N') (d := d') h2 (show s.now ≤ K from CM.nl (s := s) hS)) ?_ (fun _ q => nomatch q.1)
  rintro v6 S4 ⟨ev6, h5⟩
  cases ev6
  show am_L _ _ _ _ _ [some (.ref 7), some (.int y1), o2, some (.int z0)] [] _ _
  refine l1 (v := z0) hi_136_22 rfl ?_
  refine l33 hi_136_23 ⟨?_, ?_⟩
  · rfl
  · exact h5
def c136 (s : cS) (x1 : Int32) (x2 : Int32) : cS × Int32 := c136_9 ((c78 s 36 x2 0 0).1) x1 ((c78 s 36 x2 0 0).2)
theorem lc136 {sc : Nat × (Nat → Int32)} {N d : Nat} {A : Nat → Nat} {K : Nat} {S : am_S} {s : cS} {x1 : Int32} {x2 : Int32} (hS : CM A K S s) : am_L (am_PP sc) N d 136 0 [some (.ref 7), some (.int x1), some (.int x2), none] [] S (fun o S1 => o = some (some (.int (c136 s x1 x2).2)) ∧ CM A K S1 (c136 s x1 x2).1) := by
  refine l2 (v := 7) hi_136_0 rfl ?_
  refine l0 hi_136_1 ?_
  refine l1 (v := x2) hi_136_3 rfl ?_
  refine l0 hi_136_4 ?_
  refine l0 hi_136_5 ?_
  refine l32 (as := [.ref 7, .int 36, .int x2, .int 0, .int 0]) (la := [some (.ref 7), some (.int 36), some (.int x2), some (.int 0), some (.int 0)]) (rest := []) hi_136_6 (am_hd0 (M := 136) (by decide) 6) rfl rfl rfl (fun N' d' _ => lc78 (N := N') (d := d') hS ) ?_ (fun _ q => nomatch q.1)
  rintro v3 S1 ⟨ev3, h2⟩
  cases ev3
  show am_L _ _ _ _ _ [some (.ref 7), some (.int x1), some (.int x2), none] [.int ((c78 s 36 x2 0 0).2)] _ _
  refine am_L.mono (lc136_9 h2 ) ?_
  rintro o S1 ⟨e, h⟩
  have q : c136 s x1 x2 = c136_9 ((c78 s 36 x2 0 0).1) x1 ((c78 s 36 x2 0 0).2) := rfl
  rw [q]; exact ⟨e, h⟩
def c137b4 (t : cS × Int32 × Int32) : Nat × (cS × Int32 × Int32) := if t.2.1 < 0 then (1, (t.1, t.2.1, t.2.2)) else if 16384 < t.2.2 then (1, (t.1, t.2.1, t.2.2)) else (0, ((c109 t.1 t.1.now t.2.1 1).1, tg t.1 (.i t.1.now) t.2.1 1, t.2.2 + 1))
theorem lb137_4 {sc : Nat × (Nat → Int32)} {d : Nat} {A : Nat → Nat} {K : Nat} {Q : Option (Option Value) → am_S → Prop} : ∀ (N : Nat) (S : am_S) (o1 : Option Value) (o4 : Option Value) (t : cS × Int32 × Int32), CM A K S t.1 → (∀ m S1 (p1 : Option Value) (p4 : Option Value), (kwh c137b4 m t).1 = 1 → CM A K S1 (kwh c137b4 m t).2.1 → am_L (am_PP sc) N d 137 53 [some (.ref 7), p1, some (.int ((kwh c137b4 m t).2.2.1)), some (.int ((kwh c137b4 m t).2.2.2)), p4] [] S1 Q) → am_L (am_PP sc) N d 137 4 [some (.ref 7), o1, some (.int t.2.1), some (.int t.2.2), o4] [] S Q := by
  intro N
  induction N with
  | zero => intros; exact l_zero
  | succ N ih =>
    intro S o1 o4 t hS kx53
    refine l1d (v := t.2.1) hi_137_4 rfl ?_
    by_cases cn1 : t.2.1 < 0
    · refine l12t hi_137_5 (decide_eq_true cn1) ?_
      have e0 : c137b4 t = (1, (t.1, t.2.1, t.2.2)) := by unfold c137b4; rw [if_pos cn1]
      have e1 : kwh c137b4 1 t = (1, (t.1, t.2.1, t.2.2)) := by rw [kwh_out (by rw [e0]; exact Nat.succ_ne_zero _), e0]
      have q := kx53 1 _ o1 o4 (by rw [e1]) (by rw [e1]; exact hS)
      try rw [e1] at q
      exact q.less (Nat.le_succ N)
    · refine l12f hi_137_5 (decide_eq_false cn1) ?_
      refine l1 (v := t.2.2) hi_137_8 rfl ?_
      refine l0 hi_137_9 ?_
      by_cases cn2 : 16384 < t.2.2
      · refine l13t hi_137_12 (decide_eq_true cn2) ?_
        have e0 : c137b4 t = (1, (t.1, t.2.1, t.2.2)) := by unfold c137b4; rw [if_neg cn1]; rw [if_pos cn2]
        have e1 : kwh c137b4 1 t = (1, (t.1, t.2.1, t.2.2)) := by rw [kwh_out (by rw [e0]; exact Nat.succ_ne_zero _), e0]
        have q := kx53 1 _ o1 o4 (by rw [e1]) (by rw [e1]; exact hS)
        try rw [e1] at q
        exact q.less (Nat.le_succ N)
      · refine l13f hi_137_12 (decide_eq_false cn2) ?_
        refine l2 (v := 7) hi_137_15 rfl ?_
        refine l20s (v := .ref 12) hS cs_7 hi_137_16 rfl ?_
        refine l32 (as := [.ref 12]) (la := [some (.ref 12)]) (rest := []) hi_137_19 (am_hd0 (M := 137) (by decide) 19) rfl rfl rfl (fun N' d' _ => lc79 (N := N') (d := d') hS) ?_ (fun _ q => nomatch q.1)
        rintro v5 S3 ⟨ev5, h4⟩
        cases ev5
        show am_L _ _ _ _ _ [some (.ref 7), o1, some (.int t.2.1), some (.int t.2.2), o4] [.ref (A t.1.now)] _ _
        refine l20b (v := .ref (cTa A (.i t.1.now))) h4 (show t.1.now ≤ K from CM.nl (s := t.1) hS) hi_137_22 rfl ?_
        refine l1 (v := t.2.1) hi_137_25 rfl ?_
        refine l0 hi_137_26 ?_
        refine l32 (as := [.ref (cTa A (.i t.1.now)), .int t.2.1, .int 1]) (la := [some (.ref (cTa A (.i t.1.now))), some (.int t.2.1), some (.int 1)]) (rest := []) hi_137_27 (am_hd0 (M := 137) (by decide) 27) rfl rfl rfl (fun N' d' _ => lc54 (N := N') (d := d') (t := (.i t.1.now)) h4 (show cTl _ (.i t.1.now) from (show t.1.now ≤ K from CM.nl (s := t.1) hS))) ?_ (fun _ q => nomatch q.1)
        rintro v8 S6 ⟨ev8, h7⟩
        cases ev8
        show am_L _ _ _ _ _ [some (.ref 7), o1, some (.int t.2.1), some (.int t.2.2), o4] [.int (tg t.1 (.i t.1.now) t.2.1 1)] _ _
        refine l3 (ls' := [some (.ref 7), o1, some (.int t.2.1), some (.int t.2.2), some (.int (tg t.1 (.i t.1.now) t.2.1 1))]) hi_137_30 (Nat.le_of_ble_eq_true rfl) rfl ?_
        refine l2 (v := 7) hi_137_32 rfl ?_
        refine l20s (v := .ref 12) h7 cs_7 hi_137_33 rfl ?_
        refine l32 (as := [.ref 12]) (la := [some (.ref 12)]) (rest := []) hi_137_36 (am_hd0 (M := 137) (by decide) 36) rfl rfl rfl (fun N' d' _ => lc79 (N := N') (d := d') h7) ?_ (fun _ q => nomatch q.1)
        rintro v11 S9 ⟨ev11, h10⟩
        cases ev11
        show am_L _ _ _ _ _ [some (.ref 7), o1, some (.int t.2.1), some (.int t.2.2), some (.int (tg t.1 (.i t.1.now) t.2.1 1))] [.ref (A t.1.now)] _ _
        refine l1 (v := t.2.1) hi_137_39 rfl ?_
        refine l0 hi_137_40 ?_
        refine l32 (as := [.ref (A t.1.now), .int t.2.1, .int 1]) (la := [some (.ref (A t.1.now)), some (.int t.2.1), some (.int 1)]) (rest := []) hi_137_41 (am_hd0 (M := 137) (by decide) 41) rfl rfl rfl (fun N' d' _ => lc109 (N := N') (d := d') h10 (show t.1.now ≤ K from CM.nl (s := t.1) h7)) ?_ (fun _ q => nomatch q.1)
        rintro v14 S12 ⟨ev14, h13⟩
        cases ev14
        show am_L _ _ _ _ _ [some (.ref 7), o1, some (.int t.2.1), some (.int t.2.2), some (.int (tg t.1 (.i t.1.now) t.2.1 1))] [] _ _
        refine l1 (v := tg t.1 (.i t.1.now) t.2.1 1) hi_137_44 rfl ?_
        refine l3 (ls' := [some (.ref 7), o1, some (.int (tg t.1 (.i t.1.now) t.2.1 1)), some (.int t.2.2), some (.int (tg t.1 (.i t.1.now) t.2.1 1))]) hi_137_46 (Nat.le_of_ble_eq_true rfl) rfl ?_
        refine l5 (v := t.2.2) (ls' := [some (.ref 7), o1, some (.int (tg t.1 (.i t.1.now) t.2.1 1)), some (.int (t.2.2 + 1)), some (.int (tg t.1 (.i t.1.now) t.2.1 1))]) hi_137_47 rfl rfl ?_
        refine l18 hi_137_50 ?_
        have e0 : c137b4 t = (0, ((c109 t.1 t.1.now t.2.1 1).1, tg t.1 (.i t.1.now) t.2.1 1, t.2.2 + 1)) := by unfold c137b4; rw [if_neg cn1]; rw [if_neg cn2]
        have e1 : ∀ m, kwh c137b4 (m + 1) t = kwh c137b4 m ((c109 t.1 t.1.now t.2.1 1).1, tg t.1 (.i t.1.now) t.2.1 1, t.2.2 + 1) := fun m => by rw [kwh_go (by rw [e0]), e0]
        exact ih _ o1 (some (.int (tg t.1 (.i t.1.now) t.2.1 1))) ((c109 t.1 t.1.now t.2.1 1).1, tg t.1 (.i t.1.now) t.2.1 1, t.2.2 + 1) h13 (fun m S1 p1 p4 hm h1 => by have q := kx53 (m + 1) S1 p1 p4 (by rw [e1]; exact hm) (by rw [e1]; exact h1); (try rw [e1] at q); exact q.less (Nat.le_succ N))
noncomputable def c137 (s : cS) (x1 : Int32) : cS × Int32 := ((kfin c137b4 (s, x1, 0)).2.1, 0)
theorem lc137 {sc : Nat × (Nat → Int32)} {N d : Nat} {A : Nat → Nat} {K : Nat} {S : am_S} {s : cS} {x1 : Int32} (hS : CM A K S s) : am_L (am_PP sc) N d 137 0 [some (.ref 7), some (.int x1), none, none, none] [] S (fun o S1 => o = some none ∧ CM A K S1 (c137 s x1).1) := by
  refine l1 (v := x1) hi_137_0 rfl ?_
  refine l3 (ls' := [some (.ref 7), some (.int x1), some (.int x1), none, none]) hi_137_1 (Nat.le_of_ble_eq_true rfl) rfl ?_
  refine l0 hi_137_2 ?_
  refine l3 (ls' := [some (.ref 7), some (.int x1), some (.int x1), some (.int 0), none]) hi_137_3 (Nat.le_of_ble_eq_true rfl) rfl ?_
  refine lb137_4  N _ (some (.int x1)) none (s, x1, 0) hS ?_
  · intro m1 S2 p6 p7 hm3 h4
    have hf5 : kfin c137b4 (s, x1, 0) = kwh c137b4 m1 (s, x1, 0) := kfin_eq (by rw [hm3]; decide)
    rw [← hf5] at hm3 h4
    try rw [← hf5]
    refine l35 hi_137_53 ⟨rfl, ?_⟩
    exact h4
def c141 (s : cS) (x1 : Int32) : cS × Int32 := (ts s (.s 14) ((s.r (.s 14)) - 1) 1 ((tg s (.s 14) ((s.r (.s 14)) - 1) 1) ||| x1), 0)
theorem lc141 {sc : Nat × (Nat → Int32)} {N d : Nat} {A : Nat → Nat} {K : Nat} {S : am_S} {s : cS} {x1 : Int32} (hS : CM A K S s) : am_L (am_PP sc) N d 141 0 [some (.ref 12), some (.int x1), none] [] S (fun o S1 => o = some none ∧ CM A K S1 (c141 s x1).1) := by
  refine l2 (v := 12) hi_141_0 rfl ?_
  refine l20s (v := .ref 14) hS cs_12 hi_141_1 rfl ?_
  refine l32 (as := [.ref 14]) (la := [some (.ref 14)]) (rest := []) hi_141_4 (am_hd0 (M := 141) (by decide) 4) rfl rfl rfl (fun N' d' _ => lc36 (N := N') (d := d') (t := (.s 14)) hS ct_14) ?_ (fun _ q => nomatch q.1)
  rintro v3 S1 ⟨ev3, h2⟩
  cases ev3
  show am_L _ _ _ _ _ [some (.ref 12), some (.int x1), none] [.int (s.r (.s 14))] _ _
  refine l0 hi_141_7 ?_
  refine l10 hi_141_8 ?_
  show am_L _ _ _ _ _ [some (.ref 12), some (.int x1), none] [.int ((s.r (.s 14)) - 1)] _ _
  refine l3 (ls' := [some (.ref 12), some (.int x1), some (.int ((s.r (.s 14)) - 1))]) hi_141_9 (Nat.le_of_ble_eq_true rfl) rfl ?_
  refine l2 (v := 12) hi_141_10 rfl ?_
  refine l20s (v := .ref 14) h2 cs_12 hi_141_11 rfl ?_
  refine l1 (v := (s.r (.s 14)) - 1) hi_141_14 rfl ?_
  refine l0 hi_141_15 ?_
  refine l2 (v := 12) hi_141_16 rfl ?_
  refine l20s (v := .ref 14) h2 cs_12 hi_141_17 rfl ?_
  refine l1 (v := (s.r (.s 14)) - 1) hi_141_20 rfl ?_
  refine l0 hi_141_21 ?_
  refine l32 (as := [.ref 14, .int ((s.r (.s 14)) - 1), .int 1]) (la := [some (.ref 14), some (.int ((s.r (.s 14)) - 1)), some (.int 1)]) (rest := [.int 1, .int ((s.r (.s 14)) - 1), .ref 14]) hi_141_22 (am_hd0 (M := 141) (by decide) 22) rfl rfl rfl (fun N' d' _ => lc54 (N := N') (d := d') (t := (.s 14)) h2 ct_14) ?_ (fun _ q => nomatch q.1)
  rintro v6 S4 ⟨ev6, h5⟩
  cases ev6
  show am_L _ _ _ _ _ [some (.ref 12), some (.int x1), some (.int ((s.r (.s 14)) - 1))] [.int (tg s (.s 14) ((s.r (.s 14)) - 1) 1), .int 1, .int ((s.r (.s 14)) - 1), .ref 14] _ _
  refine l1 (v := x1) hi_141_25 rfl ?_
  refine l10 hi_141_26 ?_
  show am_L _ _ _ _ _ [some (.ref 12), some (.int x1), some (.int ((s.r (.s 14)) - 1))] [.int ((tg s (.s 14) ((s.r (.s 14)) - 1) 1) ||| x1), .int 1, .int ((s.r (.s 14)) - 1), .ref 14] _ _
  refine l32 (as := [.ref 14, .int ((s.r (.s 14)) - 1), .int 1, .int ((tg s (.s 14) ((s.r (.s 14)) - 1) 1) ||| x1)]) (la := [some (.ref 14), some (.int ((s.r (.s 14)) - 1)), some (.int 1), some (.int ((tg s (.s 14) ((s.r (.s 14)) - 1) 1) ||| x1))]) (rest := []) hi_141_27 (am_hd0 (M := 141) (by decide) 27) rfl rfl rfl (fun N' d' _ => lc86 (N := N') (d := d') (t := (.s 14)) h5 ct_14) ?_ (fun _ q => nomatch q.1)
  rintro v9 S7 ⟨ev9, h8⟩
  cases ev9
  show am_L _ _ _ _ _ [some (.ref 12), some (.int x1), some (.int ((s.r (.s 14)) - 1))] [] _ _
  refine l35 hi_141_30 ⟨rfl, ?_⟩
  exact h8
def c140b19 (y1 : Int32) (y2 : Int32) (y3 : Int32) (y4 : Int32) (t : cS × Int32) : Nat × (cS × Int32) := if y1 ≤ t.2 then (1, (t.1, t.2)) else (0, ((c74 t.1 0 0 y3).1, t.2 + 1))
theorem lb140_19 {sc : Nat × (Nat → Int32)} {d : Nat} {A : Nat → Nat} {K : Nat} {y1 : Int32} {y2 : Int32} {y3 : Int32} {y4 : Int32} {Q : Option (Option Value) → am_S → Prop} : ∀ (N : Nat) (S : am_S) (t : cS × Int32), CM A K S t.1 → (∀ m S1, (kwh (c140b19 y1 y2 y3 y4) m t).1 = 1 → CM A K S1 (kwh (c140b19 y1 y2 y3 y4) m t).2.1 → am_L (am_PP sc) N d 140 41 [some (.ref 7), some (.int y1), some (.int y2), some (.int y3), some (.int y4), some (.int ((kwh (c140b19 y1 y2 y3 y4) m t).2.2))] [] S1 Q) → am_L (am_PP sc) N d 140 19 [some (.ref 7), some (.int y1), some (.int y2), some (.int y3), some (.int y4), some (.int t.2)] [] S Q := by
  intro N
  induction N with
  | zero => intros; exact l_zero
  | succ N ih =>
    intro S t hS kx41
    refine l1d (v := t.2) hi_140_19 rfl ?_
    refine l1 (v := y1) hi_140_21 rfl ?_
    by_cases cn1 : y1 ≤ t.2
    · refine l13t hi_140_22 (decide_eq_true cn1) ?_
      have e0 : (c140b19 y1 y2 y3 y4) t = (1, (t.1, t.2)) := by unfold c140b19; rw [if_pos cn1]
      have e1 : kwh (c140b19 y1 y2 y3 y4) 1 t = (1, (t.1, t.2)) := by rw [kwh_out (by rw [e0]; exact Nat.succ_ne_zero _), e0]
      have q := kx41 1 _  (by rw [e1]) (by rw [e1]; exact hS)
      try rw [e1] at q
      exact q.less (Nat.le_succ N)
    · refine l13f hi_140_22 (decide_eq_false cn1) ?_
      refine l2 (v := 7) hi_140_25 rfl ?_
      refine l20s (v := .ref 12) hS cs_7 hi_140_26 rfl ?_
      refine l0 hi_140_29 ?_
      refine l0 hi_140_30 ?_
      refine l1 (v := y3) hi_140_31 rfl ?_
      refine l32 (as := [.ref 12, .int 0, .int 0, .int y3]) (la := [some (.ref 12), some (.int 0), some (.int 0), some (.int y3)]) (rest := []) hi_140_32 (am_hd0 (M := 140) (by decide) 32) rfl rfl rfl (fun N' d' _ => lc74 (N := N') (d := d') hS ) ?_ (fun _ q => nomatch q.1)
      rintro v4 S2 ⟨ev4, h3⟩
      cases ev4
      show am_L _ _ _ _ _ [some (.ref 7), some (.int y1), some (.int y2), some (.int y3), some (.int y4), some (.int t.2)] [] _ _
      refine l5 (v := t.2) (ls' := [some (.ref 7), some (.int y1), some (.int y2), some (.int y3), some (.int y4), some (.int (t.2 + 1))]) hi_140_35 rfl rfl ?_
      refine l18 hi_140_38 ?_
      have e0 : (c140b19 y1 y2 y3 y4) t = (0, ((c74 t.1 0 0 y3).1, t.2 + 1)) := by unfold c140b19; rw [if_neg cn1]
      have e1 : ∀ m, kwh (c140b19 y1 y2 y3 y4) (m + 1) t = kwh (c140b19 y1 y2 y3 y4) m ((c74 t.1 0 0 y3).1, t.2 + 1) := fun m => by rw [kwh_go (by rw [e0]), e0]
      exact ih _  ((c74 t.1 0 0 y3).1, t.2 + 1) h3 (fun m S1 hm h1 => by have q := kx41 (m + 1) S1 (by rw [e1]; exact hm) (by rw [e1]; exact h1); (try rw [e1] at q); exact q.less (Nat.le_succ N))
noncomputable def c140_49 (s : cS) (y4 : Int32) : cS × Int32 := ((c131 s (c75 s)).1, y4)
theorem lc140_49 {sc : Nat × (Nat → Int32)} {N d : Nat} {A : Nat → Nat} {K : Nat} {S : am_S} {s : cS} {y4 : Int32} {o1 : Option Value} {o2 : Option Value} {o3 : Option Value} {o5 : Option Value} (hS : CM A K S s) : am_L (am_PP sc) N d 140 49 [some (.ref 7), o1, o2, o3, some (.int y4), o5] [] S (fun o S1 => o = some (some (.int (c140_49 s y4).2)) ∧ CM A K S1 (c140_49 s y4).1) := by
  refine l2 (v := 7) hi_140_49 rfl ?_
  refine l20s (v := .ref 12) hS cs_7 hi_140_50 rfl ?_
  refine l20s (v := .ref 23) hS cs_12 hi_140_53 rfl ?_
  refine l2 (v := 7) hi_140_56 rfl ?_
  refine l20s (v := .ref 12) hS cs_7 hi_140_57 rfl ?_
  refine l32 (as := [.ref 12]) (la := [some (.ref 12)]) (rest := [.ref 23]) hi_140_60 (am_hd0 (M := 140) (by decide) 60) rfl rfl rfl (fun N' d' _ => lc75 (N := N') (d := d') hS ) ?_ (fun _ q => nomatch q.1)
  rintro v3 S1 ⟨ev3, h2⟩
  cases ev3
  show am_L _ _ _ _ _ [some (.ref 7), o1, o2, o3, some (.int y4), o5] [.int (c75 s), .ref 23] _ _
  refine l32 (as := [.ref 23, .int (c75 s)]) (la := [some (.ref 23), some (.int (c75 s))]) (rest := []) hi_140_63 (am_hd0 (M := 140) (by decide) 63) rfl rfl rfl (fun N' d' _ => lc131 (N := N') (d := d') h2 ) ?_ (fun _ q => nomatch q.1)
  rintro v6 S4 ⟨ev6, h5⟩
  cases ev6
  show am_L _ _ _ _ _ [some (.ref 7), o1, o2, o3, some (.int y4), o5] [] _ _
  refine l1 (v := y4) hi_140_66 rfl ?_
  refine l33 hi_140_68 ⟨?_, ?_⟩
  · rfl
  · exact h5
noncomputable def c140_16 (s : cS) (y1 : Int32) (y2 : Int32) (y3 : Int32) (y4 : Int32) : cS × Int32 := c140_49 ((c141 ((kfin (c140b19 y1 y2 y3 y4) (s, 0)).2.1) y2).1) y4
theorem lc140_16 {sc : Nat × (Nat → Int32)} {N d : Nat} {A : Nat → Nat} {K : Nat} {S : am_S} {s : cS} {y1 : Int32} {y2 : Int32} {y3 : Int32} {y4 : Int32} {o5 : Option Value} (hS : CM A K S s) : am_L (am_PP sc) N d 140 16 [some (.ref 7), some (.int y1), some (.int y2), some (.int y3), some (.int y4), o5] [] S (fun o S1 => o = some (some (.int (c140_16 s y1 y2 y3 y4).2)) ∧ CM A K S1 (c140_16 s y1 y2 y3 y4).1) := by
  refine l0 hi_140_16 ?_
  refine l3 (ls' := [some (.ref 7), some (.int y1), some (.int y2), some (.int y3), some (.int y4), some (.int 0)]) hi_140_17 (Nat.le_of_ble_eq_true rfl) rfl ?_
  refine lb140_19  N _  (s, 0) hS ?_
  · intro m1 S2  hm3 h4
    have hf5 : kfin (c140b19 y1 y2 y3 y4) (s, 0) = kwh (c140b19 y1 y2 y3 y4) m1 (s, 0) := kfin_eq (by rw [hm3]; decide)
    rw [← hf5] at hm3 h4
    try rw [← hf5]
    refine l2 (v := 7) hi_140_41 rfl ?_
    refine l20s (v := .ref 12) h4 cs_7 hi_140_42 rfl ?_
    refine l1 (v := y2) hi_140_45 rfl ?_
    refine l32 (as := [.ref 12, .int y2]) (la := [some (.ref 12), some (.int y2), none]) (rest := []) hi_140_46 (am_hd0 (M := 140) (by decide) 46) rfl rfl rfl (fun N' d' _ => lc141 (N := N') (d := d') h4 ) ?_ (fun _ q => nomatch q.1)
    rintro v8 S6 ⟨ev8, h7⟩
    cases ev8
    show am_L _ _ _ _ _ [some (.ref 7), some (.int y1), some (.int y2), some (.int y3), some (.int y4), some (.int ((kfin (c140b19 y1 y2 y3 y4) (s, 0)).2.2))] [] _ _
    refine am_L.mono (lc140_49 h7 ) ?_
    rintro o S1 ⟨e, h⟩
    have q : c140_16 s y1 y2 y3 y4 = c140_49 ((c141 ((kfin (c140b19 y1 y2 y3 y4) (s, 0)).2.1) y2).1) y4 := rfl
    rw [q]; exact ⟨e, h⟩
noncomputable def c140 (s : cS) (x1 : Int32) (x2 : Int32) (x3 : Int32) : cS × Int32 := c140_16 ((c51 s).1) x1 x2 x3 (c75 s)
theorem lc140 {sc : Nat × (Nat → Int32)} {N d : Nat} {A : Nat → Nat} {K : Nat} {S : am_S} {s : cS} {x1 : Int32} {x2 : Int32} {x3 : Int32} (hS : CM A K S s) : am_L (am_PP sc) N d 140 0 [some (.ref 7), some (.int x1), some (.int x2), some (.int x3), none, none] [] S (fun o S1 => o = some (some (.int (c140 s x1 x2 x3).2)) ∧ CM A K S1 (c140 s x1 x2 x3).1) := by
  refine l2 (v := 7) hi_140_0 rfl ?_
  refine l20s (v := .ref 12) hS cs_7 hi_140_1 rfl ?_
  refine l32 (as := [.ref 12]) (la := [some (.ref 12)]) (rest := []) hi_140_4 (am_hd0 (M := 140) (by decide) 4) rfl rfl rfl (fun N' d' _ => lc75 (N := N') (d := d') hS ) ?_ (fun _ q => nomatch q.1)
  rintro v3 S1 ⟨ev3, h2⟩
  cases ev3
  show am_L _ _ _ _ _ [some (.ref 7), some (.int x1), some (.int x2), some (.int x3), none, none] [.int (c75 s)] _ _
  refine l3 (ls' := [some (.ref 7), some (.int x1), some (.int x2), some (.int x3), some (.int (c75 s)), none]) hi_140_7 (Nat.le_of_ble_eq_true rfl) rfl ?_
  refine l2 (v := 7) hi_140_9 rfl ?_
  refine l20s (v := .ref 12) h2 cs_7 hi_140_10 rfl ?_
  refine l32 (as := [.ref 12]) (la := [some (.ref 12)]) (rest := []) hi_140_13 (am_hd0 (M := 140) (by decide) 13) rfl rfl rfl (fun N' d' _ => lc51 (N := N') (d := d') h2 ) ?_ (fun _ q => nomatch q.1)
  rintro v6 S4 ⟨ev6, h5⟩
  cases ev6
  show am_L _ _ _ _ _ [some (.ref 7), some (.int x1), some (.int x2), some (.int x3), some (.int (c75 s)), none] [] _ _
  refine am_L.mono (lc140_16 h5 ) ?_
  rintro o S1 ⟨e, h⟩
  have q : c140 s x1 x2 x3 = c140_16 ((c51 s).1) x1 x2 x3 (c75 s) := rfl
  rw [q]; exact ⟨e, h⟩
noncomputable def c143_7 (s : cS) : cS × Int32 := ((c132 s s.now).1, 0)
theorem lc143_7 {sc : Nat × (Nat → Int32)} {N d : Nat} {A : Nat → Nat} {K : Nat} {S : am_S} {s : cS} (hS : CM A K S s) : am_L (am_PP sc) N d 143 7 [some (.ref 7)] [] S (fun o S1 => o = some none ∧ CM A K S1 (c143_7 s).1) := by
  refine l2 (v := 7) hi_143_7 rfl ?_
  refine l20s (v := .ref 12) hS cs_7 hi_143_8 rfl ?_
  refine l20s (v := .ref 23) hS cs_12 hi_143_11 rfl ?_
  refine l2 (v := 7) hi_143_14 rfl ?_
  refine l20s (v := .ref 12) hS cs_7 hi_143_15 rfl ?_
  refine l32 (as := [.ref 12]) (la := [some (.ref 12)]) (rest := [.ref 23]) hi_143_18 (am_hd0 (M := 143) (by decide) 18) rfl rfl rfl (fun N' d' _ => lc79 (N := N') (d := d') hS) ?_ (fun _ q => nomatch q.1)
  rintro v3 S1 ⟨ev3, h2⟩
  cases ev3
  show am_L _ _ _ _ _ [some (.ref 7)] [.ref (A s.now), .ref 23] _ _
  refine l32 (as := [.ref 23, .ref (A s.now)]) (la := [some (.ref 23), some (.ref (A s.now)), none, none]) (rest := []) hi_143_21 (am_hd0 (M := 143) (by decide) 21) rfl rfl rfl (fun N' d' _ => lc132 (N := N') (d := d') h2 (show s.now ≤ K from CM.nl (s := s) hS)) ?_ (fun _ q => nomatch q.1)
  rintro v6 S4 ⟨ev6, h5⟩
  cases ev6
  show am_L _ _ _ _ _ [some (.ref 7)] [] _ _
  refine l35 hi_143_24 ⟨rfl, ?_⟩
  exact h5
noncomputable def c143 (s : cS) : cS × Int32 := c143_7 ((c81 s).1)
theorem lc143 {sc : Nat × (Nat → Int32)} {N d : Nat} {A : Nat → Nat} {K : Nat} {S : am_S} {s : cS} (hS : CM A K S s) : am_L (am_PP sc) N d 143 0 [some (.ref 7)] [] S (fun o S1 => o = some none ∧ CM A K S1 (c143 s).1) := by
  refine l2 (v := 7) hi_143_0 rfl ?_
  refine l20s (v := .ref 12) hS cs_7 hi_143_1 rfl ?_
  refine l32 (as := [.ref 12]) (la := [some (.ref 12), none]) (rest := []) hi_143_4 (am_hd0 (M := 143) (by decide) 4) rfl rfl rfl (fun N' d' _ => lc81 (N := N') (d := d') hS ) ?_ (fun _ q => nomatch q.1)
  rintro v3 S1 ⟨ev3, h2⟩
  cases ev3
  show am_L _ _ _ _ _ [some (.ref 7)] [] _ _
  refine am_L.mono (lc143_7 h2 ) ?_
  rintro o S1 ⟨e, h⟩
  have q : c143 s = c143_7 ((c81 s).1) := rfl
  rw [q]; exact ⟨e, h⟩
def c148_78 (s : cS) (y4 : Int32) : cS × Option Int32 := if y4 = 0 then ((c141 s 2).1, some y4) else ((c141 s 6).1, some y4)
theorem lc148_78 {sc : Nat × (Nat → Int32)} {N d : Nat} {A : Nat → Nat} {K : Nat} {S : am_S} {s : cS} {y4 : Int32} {o1 : Option Value} {o2 : Option Value} {o3 : Option Value} (hS : CM A K S s) : am_L (am_PP sc) N d 148 78 [some (.ref 7), o1, o2, o3, some (.int y4)] [] S (fun o S1 => o = cov (c148_78 s y4).2 ∧ CM A K S1 (c148_78 s y4).1) := by
  refine l2 (v := 7) hi_148_78 rfl ?_
  refine l20s (v := .ref 12) hS cs_7 hi_148_79 rfl ?_
  refine l1 (v := y4) hi_148_82 rfl ?_
  by_cases cn1 : y4 = 0
  · refine l12t hi_148_84 (decide_eq_true cn1) ?_
    refine l0 hi_148_92 ?_
    refine l32 (as := [.ref 12, .int 2]) (la := [some (.ref 12), some (.int 2), none]) (rest := []) hi_148_93 (am_hd0 (M := 148) (by decide) 93) rfl rfl rfl (fun N' d' _ => lc141 (N := N') (d := d') hS ) ?_ (fun _ q => nomatch q.1)
    rintro v4 S2 ⟨ev4, h3⟩
    cases ev4
    show am_L _ _ _ _ _ [some (.ref 7), o1, o2, o3, some (.int y4)] [] _ _
    refine l1 (v := y4) hi_148_96 rfl ?_
    have e_ : c148_78 s y4 = ((c141 s 2).1, some y4) := by unfold c148_78; rw [if_pos cn1]
    refine l36 hi_148_98 fun _ => ⟨?_, ?_⟩
    · rw [e_]; rfl
    · rw [e_]; exact h3
  · refine l12f hi_148_84 (decide_eq_false cn1) ?_
    refine l0 hi_148_87 ?_
    refine l18 hi_148_89 ?_
    refine l32 (as := [.ref 12, .int 6]) (la := [some (.ref 12), some (.int 6), none]) (rest := []) hi_148_93 (am_hd0 (M := 148) (by decide) 93) rfl rfl rfl (fun N' d' _ => lc141 (N := N') (d := d') hS ) ?_ (fun _ q => nomatch q.1)
    rintro v7 S5 ⟨ev7, h6⟩
    cases ev7
    show am_L _ _ _ _ _ [some (.ref 7), o1, o2, o3, some (.int y4)] [] _ _
    refine l1 (v := y4) hi_148_96 rfl ?_
    have e_ : c148_78 s y4 = ((c141 s 6).1, some y4) := by unfold c148_78; rw [if_neg cn1]
    refine l36 hi_148_98 fun _ => ⟨?_, ?_⟩
    · rw [e_]; rfl
    · rw [e_]; exact h6
def c148_68 (s : cS) (y2 : Int32) (y4 : Int32) : cS × Option Int32 := c148_78 ((c76 s 9 y2).1) y4
theorem lc148_68 {sc : Nat × (Nat → Int32)} {N d : Nat} {A : Nat → Nat} {K : Nat} {S : am_S} {s : cS} {y2 : Int32} {y4 : Int32} {o1 : Option Value} {o3 : Option Value} (hS : CM A K S s) : am_L (am_PP sc) N d 148 68 [some (.ref 7), o1, some (.int y2), o3, some (.int y4)] [] S (fun o S1 => o = cov (c148_68 s y2 y4).2 ∧ CM A K S1 (c148_68 s y2 y4).1) := by
  refine l2 (v := 7) hi_148_68 rfl ?_
  refine l20s (v := .ref 1) hS cs_7 hi_148_69 rfl ?_
  refine l0 hi_148_72 ?_
  refine l1 (v := y2) hi_148_74 rfl ?_
  refine l32 (as := [.ref 1, .int 9, .int y2]) (la := [some (.ref 1), some (.int 9), some (.int y2)]) (rest := []) hi_148_75 (am_hd0 (M := 148) (by decide) 75) rfl rfl rfl (fun N' d' _ => lc76 (N := N') (d := d') hS ) ?_ (fun _ q => nomatch q.1)
  rintro v3 S1 ⟨ev3, h2⟩
  cases ev3
  show am_L _ _ _ _ _ [some (.ref 7), o1, some (.int y2), o3, some (.int y4)] [] _ _
  refine am_L.mono (lc148_78 h2 ) ?_
  rintro o S1 ⟨e, h⟩
  have q : c148_68 s y2 y4 = c148_78 ((c76 s 9 y2).1) y4 := rfl
  rw [q]; exact ⟨e, h⟩
def c148_57 (s : cS) (y2 : Int32) (y3 : Int32) (y4 : Int32) : cS × Option Int32 := if y4 ≠ 0 then c148_78 s y4 else if y3 = (-2) then c148_78 s y4 else c148_68 s y2 y4
theorem lc148_57 {sc : Nat × (Nat → Int32)} {N d : Nat} {A : Nat → Nat} {K : Nat} {S : am_S} {s : cS} {y2 : Int32} {y3 : Int32} {y4 : Int32} {o1 : Option Value} (hS : CM A K S s) : am_L (am_PP sc) N d 148 57 [some (.ref 7), o1, some (.int y2), some (.int y3), some (.int y4)] [] S (fun o S1 => o = cov (c148_57 s y2 y3 y4).2 ∧ CM A K S1 (c148_57 s y2 y3 y4).1) := by
  refine l1 (v := y4) hi_148_57 rfl ?_
  by_cases cn1 : y4 ≠ 0
  · refine l12t hi_148_59 (decide_eq_true cn1) ?_
    refine am_L.mono (lc148_78 hS ) ?_
    rintro o S1 ⟨e, h⟩
    have q : c148_57 s y2 y3 y4 = c148_78 s y4 := by unfold c148_57; rw [if_pos cn1]
    rw [q]; exact ⟨e, h⟩
  · refine l12f hi_148_59 (decide_eq_false cn1) ?_
    refine l1 (v := y3) hi_148_62 rfl ?_
    refine l0 hi_148_63 ?_
    by_cases cn2 : y3 = (-2)
    · refine l13t hi_148_65 (decide_eq_true cn2) ?_
      refine am_L.mono (lc148_78 hS ) ?_
      rintro o S1 ⟨e, h⟩
      have q : c148_57 s y2 y3 y4 = c148_78 s y4 := by unfold c148_57; rw [if_neg cn1]; rw [if_pos cn2]
      rw [q]; exact ⟨e, h⟩
    · refine l13f hi_148_65 (decide_eq_false cn2) ?_
      refine am_L.mono (lc148_68 hS ) ?_
      rintro o S1 ⟨e, h⟩
      have q : c148_57 s y2 y3 y4 = c148_68 s y2 y4 := by unfold c148_57; rw [if_neg cn1]; rw [if_neg cn2]
      rw [q]; exact ⟨e, h⟩
def c148_46 (s : cS) (y1 : Int32) (y2 : Int32) (y3 : Int32) (z0 : Int32) : cS × Option Int32 := if z0 = 0 then c148_57 s y2 y3 z0 else if y1 ≠ 0 then c148_68 s y2 z0 else c148_57 s y2 y3 z0
theorem lc148_46 {sc : Nat × (Nat → Int32)} {N d : Nat} {A : Nat → Nat} {K : Nat} {S : am_S} {s : cS} {y1 : Int32} {y2 : Int32} {y3 : Int32} {z0 : Int32} {o4 : Option Value} (hS : CM A K S s) : am_L (am_PP sc) N d 148 46 [some (.ref 7), some (.int y1), some (.int y2), some (.int y3), o4] [.int z0] S (fun o S1 => o = cov (c148_46 s y1 y2 y3 z0).2 ∧ CM A K S1 (c148_46 s y1 y2 y3 z0).1) := by
  refine l3 (ls' := [some (.ref 7), some (.int y1), some (.int y2), some (.int y3), some (.int z0)]) hi_148_46 (Nat.le_of_ble_eq_true rfl) rfl ?_
  refine l1 (v := z0) hi_148_48 rfl ?_
  by_cases cn1 : z0 = 0
  · refine l12t hi_148_50 (decide_eq_true cn1) ?_
    refine am_L.mono (lc148_57 hS ) ?_
    rintro o S1 ⟨e, h⟩
    have q : c148_46 s y1 y2 y3 z0 = c148_57 s y2 y3 z0 := by unfold c148_46; rw [if_pos cn1]
    rw [q]; exact ⟨e, h⟩
  · refine l12f hi_148_50 (decide_eq_false cn1) ?_
    refine l1 (v := y1) hi_148_53 rfl ?_
    by_cases cn2 : y1 ≠ 0
    · refine l12t hi_148_54 (decide_eq_true cn2) ?_
      refine am_L.mono (lc148_68 hS ) ?_
      rintro o S1 ⟨e, h⟩
      have q : c148_46 s y1 y2 y3 z0 = c148_68 s y2 z0 := by unfold c148_46; rw [if_neg cn1]; rw [if_pos cn2]
      rw [q]; exact ⟨e, h⟩
    · refine l12f hi_148_54 (decide_eq_false cn2) ?_
      refine am_L.mono (lc148_57 hS ) ?_
      rintro o S1 ⟨e, h⟩
      have q : c148_46 s y1 y2 y3 z0 = c148_57 s y2 y3 z0 := by unfold c148_46; rw [if_neg cn1]; rw [if_neg cn2]
      rw [q]; exact ⟨e, h⟩
def c148_34 (s : cS) (y1 : Int32) (y2 : Int32) (y3 : Int32) (z0 : Int32) : cS × Option Int32 := if y3 ≠ (-3) then c148_46 s y1 y2 y3 0 else c148_46 s y1 y2 y3 1
theorem lc148_34 {sc : Nat × (Nat → Int32)} {N d : Nat} {A : Nat → Nat} {K : Nat} {S : am_S} {s : cS} {y1 : Int32} {y2 : Int32} {y3 : Int32} {z0 : Int32} {o4 : Option Value} (hS : CM A K S s) : am_L (am_PP sc) N d 148 34 [some (.ref 7), some (.int y1), some (.int y2), some (.int y3), o4] [.int z0] S (fun o S1 => o = cov (c148_34 s y1 y2 y3 z0).2 ∧ CM A K S1 (c148_34 s y1 y2 y3 z0).1) := by
  refine l6i hi_148_34 ?_
  refine l1 (v := y3) hi_148_35 rfl ?_
  refine l0 hi_148_36 ?_
  by_cases cn1 : y3 ≠ (-3)
  · refine l13t hi_148_38 (decide_eq_true cn1) ?_
    refine l0 hi_148_45 ?_
    refine am_L.mono (lc148_46 hS ) ?_
    rintro o S1 ⟨e, h⟩
    have q : c148_34 s y1 y2 y3 z0 = c148_46 s y1 y2 y3 0 := by unfold c148_34; rw [if_pos cn1]
    rw [q]; exact ⟨e, h⟩
  · refine l13f hi_148_38 (decide_eq_false cn1) ?_
    refine l0 hi_148_41 ?_
    refine l18 hi_148_42 ?_
    refine am_L.mono (lc148_46 hS ) ?_
    rintro o S1 ⟨e, h⟩
    have q : c148_34 s y1 y2 y3 z0 = c148_46 s y1 y2 y3 1 := by unfold c148_34; rw [if_neg cn1]
    rw [q]; exact ⟨e, h⟩
def c148_24 (s : cS) (y1 : Int32) (y2 : Int32) (z0 : Int32) : cS × Option Int32 := cbd (c64 s 58) (fun _ w4 => c148_34 ((c64 s 58).1) y1 y2 z0 w4)
theorem lc148_24 {sc : Nat × (Nat → Int32)} {N d : Nat} {A : Nat → Nat} {K : Nat} {S : am_S} {s : cS} {y1 : Int32} {y2 : Int32} {z0 : Int32} {o3 : Option Value} {o4 : Option Value} (hS : CM A K S s) : am_L (am_PP sc) N d 148 24 [some (.ref 7), some (.int y1), some (.int y2), o3, o4] [.int z0] S (fun o S1 => o = cov (c148_24 s y1 y2 z0).2 ∧ CM A K S1 (c148_24 s y1 y2 z0).1) := by
  refine l3 (ls' := [some (.ref 7), some (.int y1), some (.int y2), some (.int z0), o4]) hi_148_24 (Nat.le_of_ble_eq_true rfl) rfl ?_
  refine l2 (v := 7) hi_148_25 rfl ?_
  refine l20s (v := .ref 2) hS cs_7 hi_148_26 rfl ?_
  refine l0 hi_148_29 ?_
  refine l32 (as := [.ref 2, .int 58]) (la := [some (.ref 2), some (.int 58)]) (rest := []) hi_148_31 (am_hd0 (M := 148) (by decide) 31) rfl rfl rfl (fun N' d' hN_ => lc64 (N := N') (d := d') hS ) ?_ ?_
  · rintro v3 S1 ⟨ev, h2⟩
    obtain ⟨w4, e5, rfl⟩ := cov_some ev
    show am_L _ _ _ _ _ [some (.ref 7), some (.int y1), some (.int y2), some (.int z0), o4] [.int w4] _ _
    refine am_L.mono (lc148_34 h2 ) ?_
    rintro o S1 ⟨e, h⟩
    have q : c148_24 s y1 y2 z0 = c148_34 ((c64 s 58).1) y1 y2 z0 w4 := by unfold c148_24; rw [cbd_some e5]
    rw [q]; exact ⟨e, h⟩
  · rintro S1 ⟨q1, q2⟩
    have hn := cov_none q1
    have e_ : c148_24 s y1 y2 z0 = (c64 s 58) := by unfold c148_24; rw [cbd_none hn]
    rw [e_]
    exact ⟨by rw [hn]; rfl, q2⟩
def c148_7 (s : cS) (y1 : Int32) (z0 : Int32) : cS × Option Int32 := cbd (c64 s 1) (fun _ w7 => c148_24 ((c64 s 1).1) y1 (c63 s) w7)
theorem lc148_7 {sc : Nat × (Nat → Int32)} {N d : Nat} {A : Nat → Nat} {K : Nat} {S : am_S} {s : cS} {y1 : Int32} {z0 : Int32} {o2 : Option Value} {o3 : Option Value} {o4 : Option Value} (hS : CM A K S s) : am_L (am_PP sc) N d 148 7 [some (.ref 7), some (.int y1), o2, o3, o4] [.int z0] S (fun o S1 => o = cov (c148_7 s y1 z0).2 ∧ CM A K S1 (c148_7 s y1 z0).1) := by
  refine l6i hi_148_7 ?_
  refine l2 (v := 7) hi_148_8 rfl ?_
  refine l20s (v := .ref 2) hS cs_7 hi_148_9 rfl ?_
  refine l32 (as := [.ref 2]) (la := [some (.ref 2)]) (rest := []) hi_148_12 (am_hd0 (M := 148) (by decide) 12) rfl rfl rfl (fun N' d' _ => lc63 (N := N') (d := d') hS ) ?_ (fun _ q => nomatch q.1)
  rintro v3 S1 ⟨ev3, h2⟩
  cases ev3
  show am_L _ _ _ _ _ [some (.ref 7), some (.int y1), o2, o3, o4] [.int (c63 s)] _ _
  refine l3 (ls' := [some (.ref 7), some (.int y1), some (.int (c63 s)), o3, o4]) hi_148_15 (Nat.le_of_ble_eq_true rfl) rfl ?_
  refine l2 (v := 7) hi_148_16 rfl ?_
  refine l20s (v := .ref 2) h2 cs_7 hi_148_17 rfl ?_
  refine l0 hi_148_20 ?_
  refine l32 (as := [.ref 2, .int 1]) (la := [some (.ref 2), some (.int 1)]) (rest := []) hi_148_21 (am_hd0 (M := 148) (by decide) 21) rfl rfl rfl (fun N' d' hN_ => lc64 (N := N') (d := d') h2 ) ?_ ?_
  · rintro v6 S4 ⟨ev, h5⟩
    obtain ⟨w7, e8, rfl⟩ := cov_some ev
    show am_L _ _ _ _ _ [some (.ref 7), some (.int y1), some (.int (c63 s)), o3, o4] [.int w7] _ _
    refine am_L.mono (lc148_24 h5 ) ?_
    rintro o S1 ⟨e, h⟩
    have q : c148_7 s y1 z0 = c148_24 ((c64 s 1).1) y1 (c63 s) w7 := by unfold c148_7; rw [cbd_some e8]
    rw [q]; exact ⟨e, h⟩
  · rintro S4 ⟨q1, q2⟩
    have hn := cov_none q1
    have e_ : c148_7 s y1 z0 = (c64 s 1) := by unfold c148_7; rw [cbd_none hn]
    rw [e_]
    exact ⟨by rw [hn]; rfl, q2⟩
def c148 (s : cS) (x1 : Int32) : cS × Option Int32 := cbd (c55 s) (fun _ w4 => c148_7 ((c55 s).1) x1 w4)
theorem lc148 {sc : Nat × (Nat → Int32)} {N d : Nat} {A : Nat → Nat} {K : Nat} {S : am_S} {s : cS} {x1 : Int32} (hS : CM A K S s) : am_L (am_PP sc) N d 148 0 [some (.ref 7), some (.int x1), none, none, none] [] S (fun o S1 => o = cov (c148 s x1).2 ∧ CM A K S1 (c148 s x1).1) := by
  refine l2 (v := 7) hi_148_0 rfl ?_
  refine l20s (v := .ref 2) hS cs_7 hi_148_1 rfl ?_
  refine l32 (as := [.ref 2]) (la := [some (.ref 2), none]) (rest := []) hi_148_4 (am_hd0 (M := 148) (by decide) 4) rfl rfl rfl (fun N' d' hN_ => lc55 (N := N') (d := d') hS ) ?_ ?_
  · rintro v3 S1 ⟨ev, h2⟩
    obtain ⟨w4, e5, rfl⟩ := cov_some ev
    show am_L _ _ _ _ _ [some (.ref 7), some (.int x1), none, none, none] [.int w4] _ _
    refine am_L.mono (lc148_7 h2 ) ?_
    rintro o S1 ⟨e, h⟩
    have q : c148 s x1 = c148_7 ((c55 s).1) x1 w4 := by unfold c148; rw [cbd_some e5]
    rw [q]; exact ⟨e, h⟩
  · rintro S1 ⟨q1, q2⟩
    have hn := cov_none q1
    have e_ : c148 s x1 = (c55 s) := by unfold c148; rw [cbd_none hn]
    rw [e_]
    exact ⟨by rw [hn]; rfl, q2⟩
def c149b10 (t : cS × Int32) : Nat × (cS × Int32) := if (t.1.r (.s 14)) ≤ t.2 then (1, (t.1, t.2)) else (0, (ts t.1 (.s 14) t.2 1 ((tg t.1 (.s 14) t.2 1) ||| 1), t.2 + 1))
theorem lb149_10 {sc : Nat × (Nat → Int32)} {d : Nat} {A : Nat → Nat} {K : Nat} {Q : Option (Option Value) → am_S → Prop} : ∀ (N : Nat) (S : am_S) (o1 : Option Value) (t : cS × Int32), CM A K S t.1 → (∀ m S1 (p1 : Option Value), (kwh c149b10 m t).1 = 1 → CM A K S1 (kwh c149b10 m t).2.1 → am_L (am_PP sc) N d 149 47 [some (.ref 12), p1, some (.int ((kwh c149b10 m t).2.2))] [] S1 Q) → am_L (am_PP sc) N d 149 10 [some (.ref 12), o1, some (.int t.2)] [] S Q := by
  intro N
  induction N with
  | zero => intros; exact l_zero
  | succ N ih =>
    intro S o1 t hS kx47
    refine l1d (v := t.2) hi_149_10 rfl ?_
    refine l2 (v := 12) hi_149_11 rfl ?_
    refine l20s (v := .ref 14) hS cs_12 hi_149_12 rfl ?_
    refine l32 (as := [.ref 14]) (la := [some (.ref 14)]) (rest := [.int t.2]) hi_149_15 (am_hd0 (M := 149) (by decide) 15) rfl rfl rfl (fun N' d' _ => lc36 (N := N') (d := d') (t := (.s 14)) hS ct_14) ?_ (fun _ q => nomatch q.1)
    rintro v3 S1 ⟨ev3, h2⟩
    cases ev3
    show am_L _ _ _ _ _ [some (.ref 12), o1, some (.int t.2)] [.int (t.1.r (.s 14)), .int t.2] _ _
    by_cases cn4 : (t.1.r (.s 14)) ≤ t.2
    · refine l13t hi_149_18 (decide_eq_true cn4) ?_
      have e0 : c149b10 t = (1, (t.1, t.2)) := by unfold c149b10; rw [if_pos cn4]
      have e1 : kwh c149b10 1 t = (1, (t.1, t.2)) := by rw [kwh_out (by rw [e0]; exact Nat.succ_ne_zero _), e0]
      have q := kx47 1 _ o1 (by rw [e1]) (by rw [e1]; exact h2)
      try rw [e1] at q
      exact q.less (Nat.le_succ N)
    · refine l13f hi_149_18 (decide_eq_false cn4) ?_
      refine l2 (v := 12) hi_149_21 rfl ?_
      refine l20s (v := .ref 14) h2 cs_12 hi_149_22 rfl ?_
      refine l1 (v := t.2) hi_149_25 rfl ?_
      refine l0 hi_149_26 ?_
      refine l2 (v := 12) hi_149_27 rfl ?_
      refine l20s (v := .ref 14) h2 cs_12 hi_149_28 rfl ?_
      refine l1 (v := t.2) hi_149_31 rfl ?_
      refine l0 hi_149_32 ?_
      refine l32 (as := [.ref 14, .int t.2, .int 1]) (la := [some (.ref 14), some (.int t.2), some (.int 1)]) (rest := [.int 1, .int t.2, .ref 14]) hi_149_33 (am_hd0 (M := 149) (by decide) 33) rfl rfl rfl (fun N' d' _ => lc54 (N := N') (d := d') (t := (.s 14)) h2 ct_14) ?_ (fun _ q => nomatch q.1)
      rintro v7 S5 ⟨ev7, h6⟩
      cases ev7
      show am_L _ _ _ _ _ [some (.ref 12), o1, some (.int t.2)] [.int (tg t.1 (.s 14) t.2 1), .int 1, .int t.2, .ref 14] _ _
      refine l0 hi_149_36 ?_
      refine l10 hi_149_37 ?_
      show am_L _ _ _ _ _ [some (.ref 12), o1, some (.int t.2)] [.int ((tg t.1 (.s 14) t.2 1) ||| 1), .int 1, .int t.2, .ref 14] _ _
      refine l32 (as := [.ref 14, .int t.2, .int 1, .int ((tg t.1 (.s 14) t.2 1) ||| 1)]) (la := [some (.ref 14), some (.int t.2), some (.int 1), some (.int ((tg t.1 (.s 14) t.2 1) ||| 1))]) (rest := []) hi_149_38 (am_hd0 (M := 149) (by decide) 38) rfl rfl rfl (fun N' d' _ => lc86 (N := N') (d := d') (t := (.s 14)) h6 ct_14) ?_ (fun _ q => nomatch q.1)
      rintro v10 S8 ⟨ev10, h9⟩
      cases ev10
      show am_L _ _ _ _ _ [some (.ref 12), o1, some (.int t.2)] [] _ _
      refine l5 (v := t.2) (ls' := [some (.ref 12), o1, some (.int (t.2 + 1))]) hi_149_41 rfl rfl ?_
      refine l18 hi_149_44 ?_
      have e0 : c149b10 t = (0, (ts t.1 (.s 14) t.2 1 ((tg t.1 (.s 14) t.2 1) ||| 1), t.2 + 1)) := by unfold c149b10; rw [if_neg cn4]
      have e1 : ∀ m, kwh c149b10 (m + 1) t = kwh c149b10 m (ts t.1 (.s 14) t.2 1 ((tg t.1 (.s 14) t.2 1) ||| 1), t.2 + 1) := fun m => by rw [kwh_go (by rw [e0]), e0]
      exact ih _ o1 (ts t.1 (.s 14) t.2 1 ((tg t.1 (.s 14) t.2 1) ||| 1), t.2 + 1) h9 (fun m S1 p1 hm h1 => by have q := kx47 (m + 1) S1 p1 (by rw [e1]; exact hm) (by rw [e1]; exact h1); (try rw [e1] at q); exact q.less (Nat.le_succ N))
noncomputable def c149 (s : cS) (x1 : Int32) : cS × Int32 := ((kfin c149b10 (s, (s.b s.now 9) + x1)).2.1, 0)
theorem lc149 {sc : Nat × (Nat → Int32)} {N d : Nat} {A : Nat → Nat} {K : Nat} {S : am_S} {s : cS} {x1 : Int32} (hS : CM A K S s) : am_L (am_PP sc) N d 149 0 [some (.ref 12), some (.int x1), none] [] S (fun o S1 => o = some none ∧ CM A K S1 (c149 s x1).1) := by
  refine l2 (v := 12) hi_149_0 rfl ?_
  refine l20s (v := .ref (A s.now)) hS cs_12 hi_149_1 rfl ?_
  refine l20b (v := .int (s.b s.now 9)) hS (show s.now ≤ K from CM.nl (s := s) hS) hi_149_4 rfl ?_
  refine l1 (v := x1) hi_149_7 rfl ?_
  refine l10 hi_149_8 ?_
  show am_L _ _ _ _ _ [some (.ref 12), some (.int x1), none] [.int ((s.b s.now 9) + x1)] _ _
  refine l3 (ls' := [some (.ref 12), some (.int x1), some (.int ((s.b s.now 9) + x1))]) hi_149_9 (Nat.le_of_ble_eq_true rfl) rfl ?_
  refine lb149_10  N _ (some (.int x1)) (s, (s.b s.now 9) + x1) hS ?_
  · intro m1 S2 p6 hm3 h4
    have hf5 : kfin c149b10 (s, (s.b s.now 9) + x1) = kwh c149b10 m1 (s, (s.b s.now 9) + x1) := kfin_eq (by rw [hm3]; decide)
    rw [← hf5] at hm3 h4
    try rw [← hf5]
    refine l35 hi_149_47 ⟨rfl, ?_⟩
    exact h4
def c151b8 (s : cS) (t : Int32) : Nat × (Int32) := if (s.r (.s 14)) ≤ t then (2, t) else if ((tg s (.s 14) t 1) &&& 4) = 0 then (0, (t + 1)) else (1, t)
theorem lb151_8 {sc : Nat × (Nat → Int32)} {d : Nat} {A : Nat → Nat} {K : Nat} {s : cS} {Q : Option (Option Value) → am_S → Prop} : ∀ (N : Nat) (S : am_S) (t : Int32), CM A K S s → (∀ m S1, (kwh (c151b8 s) m t).1 = 1 → CM A K S1 s → am_L (am_PP sc) N d 151 33 [some (.ref 12), some (.int ((kwh (c151b8 s) m t).2))] [] S1 Q) → (∀ m S1, (kwh (c151b8 s) m t).1 = 2 → CM A K S1 s → am_L (am_PP sc) N d 151 41 [some (.ref 12), some (.int ((kwh (c151b8 s) m t).2))] [] S1 Q) → am_L (am_PP sc) N d 151 8 [some (.ref 12), some (.int t)] [] S Q := by
  intro N
  induction N with
  | zero => intros; exact l_zero
  | succ N ih =>
    intro S t hS kx33 kx41
    refine l1d (v := t) hi_151_8 rfl ?_
    refine l2 (v := 12) hi_151_9 rfl ?_
    refine l20s (v := .ref 14) hS cs_12 hi_151_10 rfl ?_
    refine l32 (as := [.ref 14]) (la := [some (.ref 14)]) (rest := [.int t]) hi_151_13 (am_hd0 (M := 151) (by decide) 13) rfl rfl rfl (fun N' d' _ => lc36 (N := N') (d := d') (t := (.s 14)) hS ct_14) ?_ (fun _ q => nomatch q.1)
    rintro v3 S1 ⟨ev3, h2⟩
    cases ev3
    show am_L _ _ _ _ _ [some (.ref 12), some (.int t)] [.int (s.r (.s 14)), .int t] _ _
    by_cases cn4 : (s.r (.s 14)) ≤ t
    · refine l13t hi_151_16 (decide_eq_true cn4) ?_
      have e0 : (c151b8 s) t = (2, t) := by unfold c151b8; rw [if_pos cn4]
      have e1 : kwh (c151b8 s) 1 t = (2, t) := by rw [kwh_out (by rw [e0]; exact Nat.succ_ne_zero _), e0]
      have q := kx41 1 _  (by rw [e1]) (by exact h2)
      try rw [e1] at q
      exact q.less (Nat.le_succ N)
    · refine l13f hi_151_16 (decide_eq_false cn4) ?_
      refine l2 (v := 12) hi_151_19 rfl ?_
      refine l20s (v := .ref 14) h2 cs_12 hi_151_20 rfl ?_
      refine l1 (v := t) hi_151_23 rfl ?_
      refine l0 hi_151_24 ?_
      refine l32 (as := [.ref 14, .int t, .int 1]) (la := [some (.ref 14), some (.int t), some (.int 1)]) (rest := []) hi_151_25 (am_hd0 (M := 151) (by decide) 25) rfl rfl rfl (fun N' d' _ => lc54 (N := N') (d := d') (t := (.s 14)) h2 ct_14) ?_ (fun _ q => nomatch q.1)
      rintro v7 S5 ⟨ev7, h6⟩
      cases ev7
      show am_L _ _ _ _ _ [some (.ref 12), some (.int t)] [.int (tg s (.s 14) t 1)] _ _
      refine l0 hi_151_28 ?_
      refine l10 hi_151_29 ?_
      show am_L _ _ _ _ _ [some (.ref 12), some (.int t)] [.int ((tg s (.s 14) t 1) &&& 4)] _ _
      by_cases cn8 : ((tg s (.s 14) t 1) &&& 4) = 0
      · refine l12t hi_151_30 (decide_eq_true cn8) ?_
        refine l5 (v := t) (ls' := [some (.ref 12), some (.int (t + 1))]) hi_151_35 rfl rfl ?_
        refine l18 hi_151_38 ?_
        have e0 : (c151b8 s) t = (0, (t + 1)) := by unfold c151b8; rw [if_neg cn4]; rw [if_pos cn8]
        have e1 : ∀ m, kwh (c151b8 s) (m + 1) t = kwh (c151b8 s) m (t + 1) := fun m => by rw [kwh_go (by rw [e0]), e0]
        exact ih _  (t + 1) h6 (fun m S1 hm h1 => by have q := kx33 (m + 1) S1 (by rw [e1]; exact hm) (by exact h1); (try rw [e1] at q); exact q.less (Nat.le_succ N)) (fun m S1 hm h1 => by have q := kx41 (m + 1) S1 (by rw [e1]; exact hm) (by exact h1); (try rw [e1] at q); exact q.less (Nat.le_succ N))
      · refine l12f hi_151_30 (decide_eq_false cn8) ?_
        have e0 : (c151b8 s) t = (1, t) := by unfold c151b8; rw [if_neg cn4]; rw [if_neg cn8]
        have e1 : kwh (c151b8 s) 1 t = (1, t) := by rw [kwh_out (by rw [e0]; exact Nat.succ_ne_zero _), e0]
        have q := kx33 1 _  (by rw [e1]) (by exact h6)
        try rw [e1] at q
        exact q.less (Nat.le_succ N)
noncomputable def c151 (s : cS) : Int32 := if (kfin (c151b8 s) (s.b s.now 9)).1 = 1 then 1 else 0
theorem lc151 {sc : Nat × (Nat → Int32)} {N d : Nat} {A : Nat → Nat} {K : Nat} {S : am_S} {s : cS} (hS : CM A K S s) : am_L (am_PP sc) N d 151 0 [some (.ref 12), none] [] S (fun o S1 => o = some (some (.int (c151 s))) ∧ CM A K S1 s) := by
  refine l2 (v := 12) hi_151_0 rfl ?_
  refine l20s (v := .ref (A s.now)) hS cs_12 hi_151_1 rfl ?_
  refine l20b (v := .int (s.b s.now 9)) hS (show s.now ≤ K from CM.nl (s := s) hS) hi_151_4 rfl ?_
  refine l3 (ls' := [some (.ref 12), some (.int (s.b s.now 9))]) hi_151_7 (Nat.le_of_ble_eq_true rfl) rfl ?_
  refine lb151_8  N _  (s.b s.now 9) hS ?_ ?_
  · intro m1 S2  hm3 h4
    have hf5 : kfin (c151b8 s) (s.b s.now 9) = kwh (c151b8 s) m1 (s.b s.now 9) := kfin_eq (by rw [hm3]; decide)
    rw [← hf5] at hm3
    try rw [← hf5]
    refine l0 hi_151_33 ?_
    refine l36 hi_151_34 fun _ => ⟨?_, ?_⟩
    · unfold c151; rw [if_pos hm3]
    · exact h4
  · intro m6 S7  hm8 h9
    have hf10 : kfin (c151b8 s) (s.b s.now 9) = kwh (c151b8 s) m6 (s.b s.now 9) := kfin_eq (by rw [hm8]; decide)
    rw [← hf10] at hm8
    try rw [← hf10]
    have cn11 : ¬ (kfin (c151b8 s) (s.b s.now 9)).1 = 1 := by rw [hm8]; decide
    refine l0 hi_151_41 ?_
    refine l36 hi_151_42 fun _ => ⟨?_, ?_⟩
    · unfold c151; rw [if_neg cn11]
    · exact h9
