/-! THE CLASS: what each method does (printed by wip/p5/cw_run.py) -/
set_option maxRecDepth 4096
noncomputable def c81_59 (s : cS) (y1 : Int32) : cS × Int32 := (tct s (.s 16) y1, 0)
theorem lc81_59 {sc : Nat × (Nat → Int32)} {N d : Nat} {A : Nat → Nat} {K : Nat} {S : am_S} {s : cS} {y1 : Int32} (hS : CM A K S s) : am_L (am_PP sc) N d 81 59 [some (.ref 12), some (.int y1)] [] S (fun o S1 => o = some none ∧ CM A K S1 (c81_59 s y1).1) := by
  refine l2 (v := 12) hi_81_59 rfl ?_
  refine l20s (v := .ref 16) hS cs_12 hi_81_60 rfl ?_
  refine l1 (v := y1) hi_81_63 rfl ?_
  refine l32 (as := [.ref 16, .int y1]) (la := [some (.ref 16), some (.int y1)]) (rest := []) hi_81_64 (am_hd0 (M := 81) (by decide) 64) rfl rfl rfl (fun N' d' _ => lc30 (N := N') (d := d') (t := (.s 16)) hS ct_16) ?_ (fun _ q => nomatch q.1)
  rintro v3 S1 ⟨ev3, h2⟩
  cases ev3
  show am_L _ _ _ _ _ [some (.ref 12), some (.int y1)] [] _ _
  refine l35 hi_81_67 ⟨rfl, ?_⟩
  exact h2
noncomputable def c81_43 (s : cS) (y1 : Int32) : cS × Int32 := c81_59 (tct s (.s 14) (tg s (.s 16) y1 0)) y1
theorem lc81_43 {sc : Nat × (Nat → Int32)} {N d : Nat} {A : Nat → Nat} {K : Nat} {S : am_S} {s : cS} {y1 : Int32} (hS : CM A K S s) : am_L (am_PP sc) N d 81 43 [some (.ref 12), some (.int y1)] [] S (fun o S1 => o = some none ∧ CM A K S1 (c81_43 s y1).1) := by
  refine l2 (v := 12) hi_81_43 rfl ?_
  refine l20s (v := .ref 14) hS cs_12 hi_81_44 rfl ?_
  refine l2 (v := 12) hi_81_47 rfl ?_
  refine l20s (v := .ref 16) hS cs_12 hi_81_48 rfl ?_
  refine l1 (v := y1) hi_81_51 rfl ?_
  refine l0 hi_81_52 ?_
  refine l32 (as := [.ref 16, .int y1, .int 0]) (la := [some (.ref 16), some (.int y1), some (.int 0)]) (rest := [.ref 14]) hi_81_53 (am_hd0 (M := 81) (by decide) 53) rfl rfl rfl (fun N' d' _ => lc54 (N := N') (d := d') (t := (.s 16)) hS ct_16) ?_ (fun _ q => nomatch q.1)
  rintro v3 S1 ⟨ev3, h2⟩
  cases ev3
  show am_L _ _ _ _ _ [some (.ref 12), some (.int y1)] [.int (tg s (.s 16) y1 0), .ref 14] _ _
  refine l32 (as := [.ref 14, .int (tg s (.s 16) y1 0)]) (la := [some (.ref 14), some (.int (tg s (.s 16) y1 0))]) (rest := []) hi_81_56 (am_hd0 (M := 81) (by decide) 56) rfl rfl rfl (fun N' d' _ => lc30 (N := N') (d := d') (t := (.s 14)) h2 ct_14) ?_ (fun _ q => nomatch q.1)
  rintro v6 S4 ⟨ev6, h5⟩
  cases ev6
  show am_L _ _ _ _ _ [some (.ref 12), some (.int y1)] [] _ _
  refine am_L.mono (lc81_59 h5 ) ?_
  rintro o S1 ⟨e, h⟩
  have q : c81_43 s y1 = c81_59 (tct s (.s 14) (tg s (.s 16) y1 0)) y1 := rfl
  rw [q]; exact ⟨e, h⟩
noncomputable def c81 (s : cS) : cS × Int32 := c81_43 ((c83 s s.now (tg s (.s 16) ((s.r (.s 16)) - 1) 1) (tg s (.s 16) ((s.r (.s 16)) - 1) 2) (c82 s)).1) ((s.r (.s 16)) - 1)
theorem lc81 {sc : Nat × (Nat → Int32)} {N d : Nat} {A : Nat → Nat} {K : Nat} {S : am_S} {s : cS} (hS : CM A K S s) : am_L (am_PP sc) N d 81 0 [some (.ref 12), none] [] S (fun o S1 => o = some none ∧ CM A K S1 (c81 s).1) := by
  refine l2 (v := 12) hi_81_0 rfl ?_
  refine l20s (v := .ref 16) hS cs_12 hi_81_1 rfl ?_
  refine l32 (as := [.ref 16]) (la := [some (.ref 16)]) (rest := []) hi_81_4 (am_hd0 (M := 81) (by decide) 4) rfl rfl rfl (fun N' d' _ => lc36 (N := N') (d := d') (t := (.s 16)) hS ct_16) ?_ (fun _ q => nomatch q.1)
  rintro v3 S1 ⟨ev3, h2⟩
  cases ev3
  show am_L _ _ _ _ _ [some (.ref 12), none] [.int (s.r (.s 16))] _ _
  refine l0 hi_81_7 ?_
  refine l10 hi_81_8 ?_
  show am_L _ _ _ _ _ [some (.ref 12), none] [.int ((s.r (.s 16)) - 1)] _ _
  refine l3 (ls' := [some (.ref 12), some (.int ((s.r (.s 16)) - 1))]) hi_81_9 (Nat.le_of_ble_eq_true rfl) rfl ?_
  refine l2 (v := 12) hi_81_10 rfl ?_
  refine l20s (v := .ref 23) h2 cs_12 hi_81_11 rfl ?_
  refine l2 (v := 12) hi_81_14 rfl ?_
  refine l20s (v := .ref (A s.now)) h2 cs_12 hi_81_15 rfl ?_
  refine l2 (v := 12) hi_81_18 rfl ?_
  refine l20s (v := .ref 16) h2 cs_12 hi_81_19 rfl ?_
  refine l1 (v := (s.r (.s 16)) - 1) hi_81_22 rfl ?_
  refine l0 hi_81_23 ?_
  refine l32 (as := [.ref 16, .int ((s.r (.s 16)) - 1), .int 1]) (la := [some (.ref 16), some (.int ((s.r (.s 16)) - 1)), some (.int 1)]) (rest := [.ref (A s.now), .ref 23]) hi_81_24 (am_hd0 (M := 81) (by decide) 24) rfl rfl rfl (fun N' d' _ => lc54 (N := N') (d := d') (t := (.s 16)) h2 ct_16) ?_ (fun _ q => nomatch q.1)
  rintro v6 S4 ⟨ev6, h5⟩
  cases ev6
  show am_L _ _ _ _ _ [some (.ref 12), some (.int ((s.r (.s 16)) - 1))] [.int (tg s (.s 16) ((s.r (.s 16)) - 1) 1), .ref (A s.now), .ref 23] _ _
  refine l2 (v := 12) hi_81_27 rfl ?_
  refine l20s (v := .ref 16) h5 cs_12 hi_81_28 rfl ?_
  refine l1 (v := (s.r (.s 16)) - 1) hi_81_31 rfl ?_
  refine l0 hi_81_32 ?_
  refine l32 (as := [.ref 16, .int ((s.r (.s 16)) - 1), .int 2]) (la := [some (.ref 16), some (.int ((s.r (.s 16)) - 1)), some (.int 2)]) (rest := [.int (tg s (.s 16) ((s.r (.s 16)) - 1) 1), .ref (A s.now), .ref 23]) hi_81_33 (am_hd0 (M := 81) (by decide) 33) rfl rfl rfl (fun N' d' _ => lc54 (N := N') (d := d') (t := (.s 16)) h5 ct_16) ?_ (fun _ q => nomatch q.1)
  rintro v9 S7 ⟨ev9, h8⟩
  cases ev9
  show am_L _ _ _ _ _ [some (.ref 12), some (.int ((s.r (.s 16)) - 1))] [.int (tg s (.s 16) ((s.r (.s 16)) - 1) 2), .int (tg s (.s 16) ((s.r (.s 16)) - 1) 1), .ref (A s.now), .ref 23] _ _
  refine l2 (v := 12) hi_81_36 rfl ?_
  refine l32 (as := [.ref 12]) (la := [some (.ref 12)]) (rest := [.int (tg s (.s 16) ((s.r (.s 16)) - 1) 2), .int (tg s (.s 16) ((s.r (.s 16)) - 1) 1), .ref (A s.now), .ref 23]) hi_81_37 (am_hd0 (M := 81) (by decide) 37) rfl rfl rfl (fun N' d' _ => lc82 (N := N') (d := d') h8 ) ?_ (fun _ q => nomatch q.1)
  rintro v12 S10 ⟨ev12, h11⟩
  cases ev12
  show am_L _ _ _ _ _ [some (.ref 12), some (.int ((s.r (.s 16)) - 1))] [.int (c82 s), .int (tg s (.s 16) ((s.r (.s 16)) - 1) 2), .int (tg s (.s 16) ((s.r (.s 16)) - 1) 1), .ref (A s.now), .ref 23] _ _
  refine l32 (as := [.ref 23, .ref (A s.now), .int (tg s (.s 16) ((s.r (.s 16)) - 1) 1), .int (tg s (.s 16) ((s.r (.s 16)) - 1) 2), .int (c82 s)]) (la := [some (.ref 23), some (.ref (A s.now)), some (.int (tg s (.s 16) ((s.r (.s 16)) - 1) 1)), some (.int (tg s (.s 16) ((s.r (.s 16)) - 1) 2)), some (.int (c82 s)), none, none, none]) (rest := []) hi_81_40 (am_hd0 (M := 81) (by decide) 40) rfl rfl rfl (fun N' d' _ => lc83 (N := N') (d := d') h11 (show s.now ≤ K from CM.nl (s := s) h2)) ?_ (fun _ q => nomatch q.1)
  rintro v15 S13 ⟨ev15, h14⟩
  cases ev15
  show am_L _ _ _ _ _ [some (.ref 12), some (.int ((s.r (.s 16)) - 1))] [] _ _
  refine am_L.mono (lc81_43 h14 ) ?_
  rintro o S1 ⟨e, h⟩
  have q : c81 s = c81_43 ((c83 s s.now (tg s (.s 16) ((s.r (.s 16)) - 1) 1) (tg s (.s 16) ((s.r (.s 16)) - 1) 2) (c82 s)).1) ((s.r (.s 16)) - 1) := rfl
  rw [q]; exact ⟨e, h⟩
def c88b2 (y1 : Int32) (t : cS × Int32) : Nat × (cS × Int32) := if (t.1.r (.s 26)) ≤ t.2 then (1, (t.1, t.2)) else (0, ((c76 t.1 12 (tg t.1 (.s 26) t.2 1)).1, t.2 + 1))
theorem lb88_2 {sc : Nat × (Nat → Int32)} {d : Nat} {A : Nat → Nat} {K : Nat} {y1 : Int32} {Q : Option (Option Value) → am_S → Prop} : ∀ (N : Nat) (S : am_S) (t : cS × Int32), CM A K S t.1 → (∀ m S1, (kwh (c88b2 y1) m t).1 = 1 → CM A K S1 (kwh (c88b2 y1) m t).2.1 → am_L (am_PP sc) N d 88 37 [some (.ref 23), some (.int y1), some (.int ((kwh (c88b2 y1) m t).2.2))] [] S1 Q) → am_L (am_PP sc) N d 88 2 [some (.ref 23), some (.int y1), some (.int t.2)] [] S Q := by
  intro N
  induction N with
  | zero => intros; exact l_zero
  | succ N ih =>
    intro S t hS kx37
    refine l1d (v := t.2) hi_88_2 rfl ?_
    refine l2 (v := 23) hi_88_3 rfl ?_
    refine l20s (v := .ref 26) hS cs_23 hi_88_4 rfl ?_
    refine l32 (as := [.ref 26]) (la := [some (.ref 26)]) (rest := [.int t.2]) hi_88_7 (am_hd0 (M := 88) (by decide) 7) rfl rfl rfl (fun N' d' _ => lc36 (N := N') (d := d') (t := (.s 26)) hS ct_26) ?_ (fun _ q => nomatch q.1)
    rintro v3 S1 ⟨ev3, h2⟩
    cases ev3
    show am_L _ _ _ _ _ [some (.ref 23), some (.int y1), some (.int t.2)] [.int (t.1.r (.s 26)), .int t.2] _ _
    by_cases cn4 : (t.1.r (.s 26)) ≤ t.2
    · refine l13t hi_88_10 (decide_eq_true cn4) ?_
      have e0 : (c88b2 y1) t = (1, (t.1, t.2)) := by unfold c88b2; rw [if_pos cn4]
      have e1 : kwh (c88b2 y1) 1 t = (1, (t.1, t.2)) := by rw [kwh_out (by rw [e0]; exact Nat.succ_ne_zero _), e0]
      have q := kx37 1 _  (by rw [e1]) (by rw [e1]; exact h2)
      try rw [e1] at q
      exact q.less (Nat.le_succ N)
    · refine l13f hi_88_10 (decide_eq_false cn4) ?_
      refine l2 (v := 23) hi_88_13 rfl ?_
      refine l20s (v := .ref 1) h2 cs_23 hi_88_14 rfl ?_
      refine l0 hi_88_17 ?_
      refine l2 (v := 23) hi_88_19 rfl ?_
      refine l20s (v := .ref 26) h2 cs_23 hi_88_20 rfl ?_
      refine l1 (v := t.2) hi_88_23 rfl ?_
      refine l0 hi_88_24 ?_
      refine l32 (as := [.ref 26, .int t.2, .int 1]) (la := [some (.ref 26), some (.int t.2), some (.int 1)]) (rest := [.int 12, .ref 1]) hi_88_25 (am_hd0 (M := 88) (by decide) 25) rfl rfl rfl (fun N' d' _ => lc54 (N := N') (d := d') (t := (.s 26)) h2 ct_26) ?_ (fun _ q => nomatch q.1)
      rintro v7 S5 ⟨ev7, h6⟩
      cases ev7
      show am_L _ _ _ _ _ [some (.ref 23), some (.int y1), some (.int t.2)] [.int (tg t.1 (.s 26) t.2 1), .int 12, .ref 1] _ _
      refine l32 (as := [.ref 1, .int 12, .int (tg t.1 (.s 26) t.2 1)]) (la := [some (.ref 1), some (.int 12), some (.int (tg t.1 (.s 26) t.2 1))]) (rest := []) hi_88_28 (am_hd0 (M := 88) (by decide) 28) rfl rfl rfl (fun N' d' _ => lc76 (N := N') (d := d') h6 ) ?_ (fun _ q => nomatch q.1)
      rintro v10 S8 ⟨ev10, h9⟩
      cases ev10
      show am_L _ _ _ _ _ [some (.ref 23), some (.int y1), some (.int t.2)] [] _ _
      refine l5 (v := t.2) (ls' := [some (.ref 23), some (.int y1), some (.int (t.2 + 1))]) hi_88_31 rfl rfl ?_
      refine l18 hi_88_34 ?_
      have e0 : (c88b2 y1) t = (0, ((c76 t.1 12 (tg t.1 (.s 26) t.2 1)).1, t.2 + 1)) := by unfold c88b2; rw [if_neg cn4]
      have e1 : ∀ m, kwh (c88b2 y1) (m + 1) t = kwh (c88b2 y1) m ((c76 t.1 12 (tg t.1 (.s 26) t.2 1)).1, t.2 + 1) := fun m => by rw [kwh_go (by rw [e0]), e0]
      exact ih _  ((c76 t.1 12 (tg t.1 (.s 26) t.2 1)).1, t.2 + 1) h9 (fun m S1 hm h1 => by have q := kx37 (m + 1) S1 (by rw [e1]; exact hm) (by rw [e1]; exact h1); (try rw [e1] at q); exact q.less (Nat.le_succ N))
noncomputable def c88 (s : cS) (x1 : Int32) : cS × Int32 := (tct ((kfin (c88b2 x1) (s, x1)).2.1) (.s 26) x1, 0)
theorem lc88 {sc : Nat × (Nat → Int32)} {N d : Nat} {A : Nat → Nat} {K : Nat} {S : am_S} {s : cS} {x1 : Int32} (hS : CM A K S s) : am_L (am_PP sc) N d 88 0 [some (.ref 23), some (.int x1), none] [] S (fun o S1 => o = some none ∧ CM A K S1 (c88 s x1).1) := by
  refine l1 (v := x1) hi_88_0 rfl ?_
  refine l3 (ls' := [some (.ref 23), some (.int x1), some (.int x1)]) hi_88_1 (Nat.le_of_ble_eq_true rfl) rfl ?_
  refine lb88_2  N _  (s, x1) hS ?_
  · intro m1 S2  hm3 h4
    have hf5 : kfin (c88b2 x1) (s, x1) = kwh (c88b2 x1) m1 (s, x1) := kfin_eq (by rw [hm3]; decide)
    rw [← hf5] at hm3 h4
    try rw [← hf5]
    refine l2 (v := 23) hi_88_37 rfl ?_
    refine l20s (v := .ref 26) h4 cs_23 hi_88_38 rfl ?_
    refine l1 (v := x1) hi_88_41 rfl ?_
    refine l32 (as := [.ref 26, .int x1]) (la := [some (.ref 26), some (.int x1)]) (rest := []) hi_88_42 (am_hd0 (M := 88) (by decide) 42) rfl rfl rfl (fun N' d' _ => lc30 (N := N') (d := d') (t := (.s 26)) h4 ct_26) ?_ (fun _ q => nomatch q.1)
    rintro v8 S6 ⟨ev8, h7⟩
    cases ev8
    show am_L _ _ _ _ _ [some (.ref 23), some (.int x1), some (.int ((kfin (c88b2 x1) (s, x1)).2.2))] [] _ _
    refine l35 hi_88_45 ⟨rfl, ?_⟩
    exact h7
noncomputable def c80_18 (s : cS) : cS × Int32 := if (s.f 13 1) ≤ 1 then (s, 0) else (nn (nf s 13 1 (s.f 13 1 - 1)) ((nf s 13 1 (s.f 13 1 - 1)).op ((s.f 13 1 - 1) - 1).toInt.toNat), 0)
theorem lc80_18 {sc : Nat × (Nat → Int32)} {N d : Nat} {A : Nat → Nat} {K : Nat} {S : am_S} {s : cS} (hS : CM A K S s) : am_L (am_PP sc) N d 80 18 [some (.ref 12)] [] S (fun o S1 => o = some none ∧ CM A K S1 (c80_18 s).1) := by
  refine l2 (v := 12) hi_80_18 rfl ?_
  refine l20s (v := .ref 13) hS cs_12 hi_80_19 rfl ?_
  refine l32 (as := [.ref 13]) (la := [some (.ref 13)]) (rest := []) hi_80_22 (am_hd0 (M := 80) (by decide) 22) rfl rfl rfl (fun N' d' _ => lc14 (N := N') (d := d') hS (Or.inr rfl)) ?_ (fun _ q => nomatch q.1)
  rintro v3 S1 ⟨ev3, h2⟩
  cases ev3
  show am_L _ _ _ _ _ [some (.ref 12)] [.int (s.f 13 1)] _ _
  refine l0 hi_80_25 ?_
  by_cases cn4 : (s.f 13 1) ≤ 1
  · refine l13t hi_80_26 (decide_eq_true cn4) ?_
    refine l35 hi_80_69 ⟨rfl, ?_⟩
    unfold c80_18; rw [if_pos cn4]; exact h2
  · refine l13f hi_80_26 (decide_eq_false cn4) ?_
    refine l2 (v := 12) hi_80_29 rfl ?_
    refine l20s (v := .ref 13) h2 cs_12 hi_80_30 rfl ?_
    refine l2 (v := 12) hi_80_33 rfl ?_
    refine l20s (v := .ref 13) h2 cs_12 hi_80_34 rfl ?_
    refine l32 (as := [.ref 13]) (la := [some (.ref 13)]) (rest := [.ref 13]) hi_80_37 (am_hd0 (M := 80) (by decide) 37) rfl rfl rfl (fun N' d' _ => lc14 (N := N') (d := d') h2 (Or.inr rfl)) ?_ (fun _ q => nomatch q.1)
    rintro v7 S5 ⟨ev7, h6⟩
    cases ev7
    show am_L _ _ _ _ _ [some (.ref 12)] [.int (s.f 13 1), .ref 13] _ _
    refine l0 hi_80_40 ?_
    refine l10 hi_80_41 ?_
    show am_L _ _ _ _ _ [some (.ref 12)] [.int ((s.f 13 1) - 1), .ref 13] _ _
    refine l32 (as := [.ref 13, .int ((s.f 13 1) - 1)]) (la := [some (.ref 13), some (.int ((s.f 13 1) - 1)), none, none]) (rest := []) hi_80_42 (am_hd0 (M := 80) (by decide) 42) rfl rfl rfl (fun N' d' _ => lc89o (N := N') (d := d') h6) ?_ (fun _ q => nomatch q.1.choose_spec)
    rintro v10 S8 ⟨⟨r11, ev10⟩, h9⟩
    cases ev10
    show am_L _ _ _ _ _ [some (.ref 12)] [.ref r11] _ _
    refine l6r hi_80_45 ?_
    refine l2 (v := 12) hi_80_46 rfl ?_
    refine l2 (v := 12) hi_80_47 rfl ?_
    refine l20s (v := .ref 13) h9 cs_12 hi_80_48 rfl ?_
    refine l2 (v := 12) hi_80_51 rfl ?_
    refine l20s (v := .ref 13) h9 cs_12 hi_80_52 rfl ?_
    refine l32 (as := [.ref 13]) (la := [some (.ref 13)]) (rest := [.ref 13, .ref 12]) hi_80_55 (am_hd0 (M := 80) (by decide) 55) rfl rfl rfl (fun N' d' _ => lc14 (N := N') (d := d') h9 (Or.inr rfl)) ?_ (fun _ q => nomatch q.1)
    rintro v14 S12 ⟨ev14, h13⟩
    cases ev14
    show am_L _ _ _ _ _ [some (.ref 12)] [.int (s.f 13 1 - 1), .ref 13, .ref 12] _ _
    refine l0 hi_80_58 ?_
    refine l10 hi_80_59 ?_
    show am_L _ _ _ _ _ [some (.ref 12)] [.int ((s.f 13 1 - 1) - 1), .ref 13, .ref 12] _ _
    refine l32 (as := [.ref 13, .int ((s.f 13 1 - 1) - 1)]) (la := [some (.ref 13), some (.int ((s.f 13 1 - 1) - 1))]) (rest := [.ref 12]) hi_80_60 (am_hd0 (M := 80) (by decide) 60) rfl rfl rfl (fun N' d' _ => lc25o (N := N') (d := d') h13) ?_ (fun _ q => nomatch q.1)
    rintro v17 S15 ⟨ev17, x18, h16⟩
    cases ev17
    show am_L _ _ _ _ _ [some (.ref 12)] [.ref (A ((nf s 13 1 (s.f 13 1 - 1)).op ((s.f 13 1 - 1) - 1).toInt.toNat)), .ref 12] _ _
    refine l30 hi_80_63 ?_
    refine l21n h16 x18 hi_80_66 fun S19 h20 => ?_
    refine l35 hi_80_69 ⟨rfl, ?_⟩
    unfold c80_18; rw [if_neg cn4]; exact h20
noncomputable def c80_4 (s : cS) : cS × Int32 := c80_18 ((c88 s (s.b s.now 11)).1)
theorem lc80_4 {sc : Nat × (Nat → Int32)} {N d : Nat} {A : Nat → Nat} {K : Nat} {S : am_S} {s : cS} (hS : CM A K S s) : am_L (am_PP sc) N d 80 4 [some (.ref 12)] [] S (fun o S1 => o = some none ∧ CM A K S1 (c80_4 s).1) := by
  refine l2 (v := 12) hi_80_4 rfl ?_
  refine l20s (v := .ref 23) hS cs_12 hi_80_5 rfl ?_
  refine l2 (v := 12) hi_80_8 rfl ?_
  refine l20s (v := .ref (A s.now)) hS cs_12 hi_80_9 rfl ?_
  refine l20b (v := .int (s.b s.now 11)) hS (show s.now ≤ K from CM.nl (s := s) hS) hi_80_12 rfl ?_
  refine l32 (as := [.ref 23, .int (s.b s.now 11)]) (la := [some (.ref 23), some (.int (s.b s.now 11)), none]) (rest := []) hi_80_15 (am_hd0 (M := 80) (by decide) 15) rfl rfl rfl (fun N' d' _ => lc88 (N := N') (d := d') hS ) ?_ (fun _ q => nomatch q.1)
  rintro v3 S1 ⟨ev3, h2⟩
  cases ev3
  show am_L _ _ _ _ _ [some (.ref 12)] [] _ _
  refine am_L.mono (lc80_18 h2 ) ?_
  rintro o S1 ⟨e, h⟩
  have q : c80_4 s = c80_18 ((c88 s (s.b s.now 11)).1) := rfl
  rw [q]; exact ⟨e, h⟩
noncomputable def c80 (s : cS) : cS × Int32 := c80_4 ((c81 s).1)
theorem lc80 {sc : Nat × (Nat → Int32)} {N d : Nat} {A : Nat → Nat} {K : Nat} {S : am_S} {s : cS} (hS : CM A K S s) : am_L (am_PP sc) N d 80 0 [some (.ref 12)] [] S (fun o S1 => o = some none ∧ CM A K S1 (c80 s).1) := by
  refine l2 (v := 12) hi_80_0 rfl ?_
  refine l32 (as := [.ref 12]) (la := [some (.ref 12), none]) (rest := []) hi_80_1 (am_hd0 (M := 80) (by decide) 1) rfl rfl rfl (fun N' d' _ => lc81 (N := N') (d := d') hS ) ?_ (fun _ q => nomatch q.1)
  rintro v3 S1 ⟨ev3, h2⟩
  cases ev3
  show am_L _ _ _ _ _ [some (.ref 12)] [] _ _
  refine am_L.mono (lc80_4 h2 ) ?_
  rintro o S1 ⟨e, h⟩
  have q : c80 s = c80_4 ((c81 s).1) := rfl
  rw [q]; exact ⟨e, h⟩
def c93 (s : cS) (x1 : Int32) : Int32 := tg s (.s 3) x1 0
theorem lc93 {sc : Nat × (Nat → Int32)} {N d : Nat} {A : Nat → Nat} {K : Nat} {S : am_S} {s : cS} {x1 : Int32} (hS : CM A K S s) : am_L (am_PP sc) N d 93 0 [some (.ref 2), some (.int x1)] [] S (fun o S1 => o = some (some (.int (c93 s x1))) ∧ CM A K S1 s) := by
  refine l2 (v := 2) hi_93_0 rfl ?_
  refine l20s (v := .ref 3) hS cs_2 hi_93_1 rfl ?_
  refine l1 (v := x1) hi_93_4 rfl ?_
  refine l0 hi_93_5 ?_
  refine l32 (as := [.ref 3, .int x1, .int 0]) (la := [some (.ref 3), some (.int x1), some (.int 0)]) (rest := []) hi_93_6 (am_hd0 (M := 93) (by decide) 6) rfl rfl rfl (fun N' d' _ => lc54 (N := N') (d := d') (t := (.s 3)) hS ct_3) ?_ (fun _ q => nomatch q.1)
  rintro v3 S1 ⟨ev3, h2⟩
  cases ev3
  show am_L _ _ _ _ _ [some (.ref 2), some (.int x1)] [.int (tg s (.s 3) x1 0)] _ _
  refine l33 hi_93_9 ⟨?_, ?_⟩
  · rfl
  · exact h2
def c95 (s : cS) (x0 : Int32) : Int32 := if x0 = 69 then 1 else if x0 ≠ 67 then 0 else 1
theorem lc95 {sc : Nat × (Nat → Int32)} {N d : Nat} {A : Nat → Nat} {K : Nat} {S : am_S} {s : cS} {x0 : Int32} (hS : CM A K S s) : am_L (am_PP sc) N d 95 0 [some (.int x0)] [] S (fun o S1 => o = some (some (.int (c95 s x0))) ∧ CM A K S1 s) := by
  refine l1 (v := x0) hi_95_0 rfl ?_
  refine l0 hi_95_1 ?_
  by_cases cn1 : x0 = 69
  · refine l13t hi_95_3 (decide_eq_true cn1) ?_
    refine l0 hi_95_12 ?_
    refine l18 hi_95_13 ?_
    refine l36 hi_95_17 fun _ => ⟨?_, ?_⟩
    · unfold c95; rw [if_pos cn1]
    · exact hS
  · refine l13f hi_95_3 (decide_eq_false cn1) ?_
    refine l1 (v := x0) hi_95_6 rfl ?_
    refine l0 hi_95_7 ?_
    by_cases cn2 : x0 ≠ 67
    · refine l13t hi_95_9 (decide_eq_true cn2) ?_
      refine l0 hi_95_16 ?_
      refine l36 hi_95_17 fun _ => ⟨?_, ?_⟩
      · unfold c95; rw [if_neg cn1]; rw [if_pos cn2]
      · exact hS
    · refine l13f hi_95_9 (decide_eq_false cn2) ?_
      refine l0 hi_95_12 ?_
      refine l18 hi_95_13 ?_
      refine l36 hi_95_17 fun _ => ⟨?_, ?_⟩
      · unfold c95; rw [if_neg cn1]; rw [if_neg cn2]
      · exact hS
def c94_25 (s : cS) (y1 : Int32) : Int32 := if (c93 s y1) ≠ 63 then 0 else 1
theorem lc94_25 {sc : Nat × (Nat → Int32)} {N d : Nat} {A : Nat → Nat} {K : Nat} {S : am_S} {s : cS} {y1 : Int32} (hS : CM A K S s) : am_L (am_PP sc) N d 94 25 [some (.ref 7), some (.int y1)] [] S (fun o S1 => o = some (some (.int (c94_25 s y1))) ∧ CM A K S1 s) := by
  refine l2 (v := 7) hi_94_25 rfl ?_
  refine l20s (v := .ref 2) hS cs_7 hi_94_26 rfl ?_
  refine l1 (v := y1) hi_94_29 rfl ?_
  refine l32 (as := [.ref 2, .int y1]) (la := [some (.ref 2), some (.int y1)]) (rest := []) hi_94_30 (am_hd0 (M := 94) (by decide) 30) rfl rfl rfl (fun N' d' _ => lc93 (N := N') (d := d') hS ) ?_ (fun _ q => nomatch q.1)
  rintro v3 S1 ⟨ev3, h2⟩
  cases ev3
  show am_L _ _ _ _ _ [some (.ref 7), some (.int y1)] [.int (c93 s y1)] _ _
  refine l0 hi_94_33 ?_
  by_cases cn4 : (c93 s y1) ≠ 63
  · refine l13t hi_94_35 (decide_eq_true cn4) ?_
    refine l0 hi_94_42 ?_
    refine l36 hi_94_43 fun _ => ⟨?_, ?_⟩
    · unfold c94_25; rw [if_pos cn4]
    · exact h2
  · refine l13f hi_94_35 (decide_eq_false cn4) ?_
    refine l0 hi_94_38 ?_
    refine l18 hi_94_39 ?_
    refine l36 hi_94_43 fun _ => ⟨?_, ?_⟩
    · unfold c94_25; rw [if_neg cn4]
    · exact h2
def c94 (s : cS) : Int32 := if (c95 s (c93 s (c63 s))) = 0 then c94_25 s (c63 s) else c94_25 s ((c63 s) + 1)
theorem lc94 {sc : Nat × (Nat → Int32)} {N d : Nat} {A : Nat → Nat} {K : Nat} {S : am_S} {s : cS} (hS : CM A K S s) : am_L (am_PP sc) N d 94 0 [some (.ref 7), none] [] S (fun o S1 => o = some (some (.int (c94 s))) ∧ CM A K S1 s) := by
  refine l2 (v := 7) hi_94_0 rfl ?_
  refine l20s (v := .ref 2) hS cs_7 hi_94_1 rfl ?_
  refine l32 (as := [.ref 2]) (la := [some (.ref 2)]) (rest := []) hi_94_4 (am_hd0 (M := 94) (by decide) 4) rfl rfl rfl (fun N' d' _ => lc63 (N := N') (d := d') hS ) ?_ (fun _ q => nomatch q.1)
  rintro v3 S1 ⟨ev3, h2⟩
  cases ev3
  show am_L _ _ _ _ _ [some (.ref 7), none] [.int (c63 s)] _ _
  refine l3 (ls' := [some (.ref 7), some (.int (c63 s))]) hi_94_7 (Nat.le_of_ble_eq_true rfl) rfl ?_
  refine l2 (v := 7) hi_94_8 rfl ?_
  refine l20s (v := .ref 2) h2 cs_7 hi_94_9 rfl ?_
  refine l1 (v := c63 s) hi_94_12 rfl ?_
  refine l32 (as := [.ref 2, .int (c63 s)]) (la := [some (.ref 2), some (.int (c63 s))]) (rest := []) hi_94_13 (am_hd0 (M := 94) (by decide) 13) rfl rfl rfl (fun N' d' _ => lc93 (N := N') (d := d') h2 ) ?_ (fun _ q => nomatch q.1)
  rintro v6 S4 ⟨ev6, h5⟩
  cases ev6
  show am_L _ _ _ _ _ [some (.ref 7), some (.int (c63 s))] [.int (c93 s (c63 s))] _ _
  refine l32 (as := [.int (c93 s (c63 s))]) (la := [some (.int (c93 s (c63 s)))]) (rest := []) hi_94_16 (am_hd0 (M := 94) (by decide) 16) rfl rfl rfl (fun N' d' _ => lc95 (N := N') (d := d') h5 ) ?_ (fun _ q => nomatch q.1)
  rintro v9 S7 ⟨ev9, h8⟩
  cases ev9
  show am_L _ _ _ _ _ [some (.ref 7), some (.int (c63 s))] [.int (c95 s (c93 s (c63 s)))] _ _
  by_cases cn10 : (c95 s (c93 s (c63 s))) = 0
  · refine l12t hi_94_19 (decide_eq_true cn10) ?_
    refine am_L.mono (lc94_25 h8 ) ?_
    rintro o S1 ⟨e, h⟩
    have q : c94 s = c94_25 s (c63 s) := by unfold c94; rw [if_pos cn10]
    rw [q]; exact ⟨e, h⟩
  · refine l12f hi_94_19 (decide_eq_false cn10) ?_
    refine l5 (v := c63 s) (ls' := [some (.ref 7), some (.int ((c63 s) + 1))]) hi_94_22 rfl rfl ?_
    refine am_L.mono (lc94_25 h8 ) ?_
    rintro o S1 ⟨e, h⟩
    have q : c94 s = c94_25 s ((c63 s) + 1) := by unfold c94; rw [if_neg cn10]
    rw [q]; exact ⟨e, h⟩
def c98 (s : cS) : Int32 := s.r (.i s.now)
theorem lc98 {sc : Nat × (Nat → Int32)} {N d : Nat} {A : Nat → Nat} {K : Nat} {S : am_S} {s : cS} (hS : CM A K S s) : am_L (am_PP sc) N d 98 0 [some (.ref 7)] [] S (fun o S1 => o = some (some (.int (c98 s))) ∧ CM A K S1 s) := by
  refine l2 (v := 7) hi_98_0 rfl ?_
  refine l20s (v := .ref 12) hS cs_7 hi_98_1 rfl ?_
  refine l32 (as := [.ref 12]) (la := [some (.ref 12)]) (rest := []) hi_98_4 (am_hd0 (M := 98) (by decide) 4) rfl rfl rfl (fun N' d' _ => lc79 (N := N') (d := d') hS) ?_ (fun _ q => nomatch q.1)
  rintro v3 S1 ⟨ev3, h2⟩
  cases ev3
  show am_L _ _ _ _ _ [some (.ref 7)] [.ref (A s.now)] _ _
  refine l20b (v := .ref (cTa A (.i s.now))) h2 (show s.now ≤ K from CM.nl (s := s) hS) hi_98_7 rfl ?_
  refine l32 (as := [.ref (cTa A (.i s.now))]) (la := [some (.ref (cTa A (.i s.now)))]) (rest := []) hi_98_10 (am_hd0 (M := 98) (by decide) 10) rfl rfl rfl (fun N' d' _ => lc36 (N := N') (d := d') (t := (.i s.now)) h2 (show cTl _ (.i s.now) from (show s.now ≤ K from CM.nl (s := s) hS))) ?_ (fun _ q => nomatch q.1)
  rintro v6 S4 ⟨ev6, h5⟩
  cases ev6
  show am_L _ _ _ _ _ [some (.ref 7)] [.int (s.r (.i s.now))] _ _
  refine l33 hi_98_13 ⟨?_, ?_⟩
  · rfl
  · exact h5
def c97 (s : cS) : Int32 := tg s (.i s.now) ((c98 s) - 1) 0
theorem lc97 {sc : Nat × (Nat → Int32)} {N d : Nat} {A : Nat → Nat} {K : Nat} {S : am_S} {s : cS} (hS : CM A K S s) : am_L (am_PP sc) N d 97 0 [some (.ref 7)] [] S (fun o S1 => o = some (some (.int (c97 s))) ∧ CM A K S1 s) := by
  refine l2 (v := 7) hi_97_0 rfl ?_
  refine l20s (v := .ref 12) hS cs_7 hi_97_1 rfl ?_
  refine l32 (as := [.ref 12]) (la := [some (.ref 12)]) (rest := []) hi_97_4 (am_hd0 (M := 97) (by decide) 4) rfl rfl rfl (fun N' d' _ => lc79 (N := N') (d := d') hS) ?_ (fun _ q => nomatch q.1)
  rintro v3 S1 ⟨ev3, h2⟩
  cases ev3
  show am_L _ _ _ _ _ [some (.ref 7)] [.ref (A s.now)] _ _
  refine l20b (v := .ref (cTa A (.i s.now))) h2 (show s.now ≤ K from CM.nl (s := s) hS) hi_97_7 rfl ?_
  refine l2 (v := 7) hi_97_10 rfl ?_
  refine l32 (as := [.ref 7]) (la := [some (.ref 7)]) (rest := [.ref (cTa A (.i s.now))]) hi_97_11 (am_hd0 (M := 97) (by decide) 11) rfl rfl rfl (fun N' d' _ => lc98 (N := N') (d := d') h2 ) ?_ (fun _ q => nomatch q.1)
  rintro v6 S4 ⟨ev6, h5⟩
  cases ev6
  show am_L _ _ _ _ _ [some (.ref 7)] [.int (c98 s), .ref (cTa A (.i s.now))] _ _
  refine l0 hi_97_14 ?_
  refine l10 hi_97_15 ?_
  show am_L _ _ _ _ _ [some (.ref 7)] [.int ((c98 s) - 1), .ref (cTa A (.i s.now))] _ _
  refine l0 hi_97_16 ?_
  refine l32 (as := [.ref (cTa A (.i s.now)), .int ((c98 s) - 1), .int 0]) (la := [some (.ref (cTa A (.i s.now))), some (.int ((c98 s) - 1)), some (.int 0)]) (rest := []) hi_97_17 (am_hd0 (M := 97) (by decide) 17) rfl rfl rfl (fun N' d' _ => lc54 (N := N') (d := d') (t := (.i s.now)) h5 (show cTl _ (.i s.now) from (show s.now ≤ K from CM.nl (s := s) hS))) ?_ (fun _ q => nomatch q.1)
  rintro v9 S7 ⟨ev9, h8⟩
  cases ev9
  show am_L _ _ _ _ _ [some (.ref 7)] [.int (tg s (.i s.now) ((c98 s) - 1) 0)] _ _
  refine l33 hi_97_20 ⟨?_, ?_⟩
  · rfl
  · exact h8
def c99 (s : cS) (x1 : Int32) (x2 : Int32) : cS × Int32 := (ts s (.i s.now) ((c98 s) - 1) 2 (((tg s (.i s.now) ((c98 s) - 1) 2) &&& x1) ||| x2), 0)
theorem lc99 {sc : Nat × (Nat → Int32)} {N d : Nat} {A : Nat → Nat} {K : Nat} {S : am_S} {s : cS} {x1 : Int32} {x2 : Int32} (hS : CM A K S s) : am_L (am_PP sc) N d 99 0 [some (.ref 7), some (.int x1), some (.int x2), none] [] S (fun o S1 => o = some none ∧ CM A K S1 (c99 s x1 x2).1) := by
  refine l2 (v := 7) hi_99_0 rfl ?_
  refine l32 (as := [.ref 7]) (la := [some (.ref 7)]) (rest := []) hi_99_1 (am_hd0 (M := 99) (by decide) 1) rfl rfl rfl (fun N' d' _ => lc98 (N := N') (d := d') hS ) ?_ (fun _ q => nomatch q.1)
  rintro v3 S1 ⟨ev3, h2⟩
  cases ev3
  show am_L _ _ _ _ _ [some (.ref 7), some (.int x1), some (.int x2), none] [.int (c98 s)] _ _
  refine l0 hi_99_4 ?_
  refine l10 hi_99_5 ?_
  show am_L _ _ _ _ _ [some (.ref 7), some (.int x1), some (.int x2), none] [.int ((c98 s) - 1)] _ _
  refine l3 (ls' := [some (.ref 7), some (.int x1), some (.int x2), some (.int ((c98 s) - 1))]) hi_99_6 (Nat.le_of_ble_eq_true rfl) rfl ?_
  refine l2 (v := 7) hi_99_7 rfl ?_
  refine l20s (v := .ref 12) h2 cs_7 hi_99_8 rfl ?_
  refine l32 (as := [.ref 12]) (la := [some (.ref 12)]) (rest := []) hi_99_11 (am_hd0 (M := 99) (by decide) 11) rfl rfl rfl (fun N' d' _ => lc79 (N := N') (d := d') h2) ?_ (fun _ q => nomatch q.1)
  rintro v6 S4 ⟨ev6, h5⟩
  cases ev6
  show am_L _ _ _ _ _ [some (.ref 7), some (.int x1), some (.int x2), some (.int ((c98 s) - 1))] [.ref (A s.now)] _ _
  refine l20b (v := .ref (cTa A (.i s.now))) h5 (show s.now ≤ K from CM.nl (s := s) h2) hi_99_14 rfl ?_
  refine l1 (v := (c98 s) - 1) hi_99_17 rfl ?_
  refine l0 hi_99_18 ?_
  refine l2 (v := 7) hi_99_19 rfl ?_
  refine l20s (v := .ref 12) h5 cs_7 hi_99_20 rfl ?_
  refine l32 (as := [.ref 12]) (la := [some (.ref 12)]) (rest := [.int 2, .int ((c98 s) - 1), .ref (cTa A (.i s.now))]) hi_99_23 (am_hd0 (M := 99) (by decide) 23) rfl rfl rfl (fun N' d' _ => lc79 (N := N') (d := d') h5) ?_ (fun _ q => nomatch q.1)
  rintro v9 S7 ⟨ev9, h8⟩
  cases ev9
  show am_L _ _ _ _ _ [some (.ref 7), some (.int x1), some (.int x2), some (.int ((c98 s) - 1))] [.ref (A s.now), .int 2, .int ((c98 s) - 1), .ref (cTa A (.i s.now))] _ _
  refine l20b (v := .ref (cTa A (.i s.now))) h8 (show s.now ≤ K from CM.nl (s := s) h5) hi_99_26 rfl ?_
  refine l1 (v := (c98 s) - 1) hi_99_29 rfl ?_
  refine l0 hi_99_30 ?_
  refine l32 (as := [.ref (cTa A (.i s.now)), .int ((c98 s) - 1), .int 2]) (la := [some (.ref (cTa A (.i s.now))), some (.int ((c98 s) - 1)), some (.int 2)]) (rest := [.int 2, .int ((c98 s) - 1), .ref (cTa A (.i s.now))]) hi_99_31 (am_hd0 (M := 99) (by decide) 31) rfl rfl rfl (fun N' d' _ => lc54 (N := N') (d := d') (t := (.i s.now)) h8 (show cTl _ (.i s.now) from (show s.now ≤ K from CM.nl (s := s) h5))) ?_ (fun _ q => nomatch q.1)
  rintro v12 S10 ⟨ev12, h11⟩
  cases ev12
  show am_L _ _ _ _ _ [some (.ref 7), some (.int x1), some (.int x2), some (.int ((c98 s) - 1))] [.int (tg s (.i s.now) ((c98 s) - 1) 2), .int 2, .int ((c98 s) - 1), .ref (cTa A (.i s.now))] _ _
  refine l1 (v := x1) hi_99_34 rfl ?_
  refine l10 hi_99_35 ?_
  show am_L _ _ _ _ _ [some (.ref 7), some (.int x1), some (.int x2), some (.int ((c98 s) - 1))] [.int ((tg s (.i s.now) ((c98 s) - 1) 2) &&& x1), .int 2, .int ((c98 s) - 1), .ref (cTa A (.i s.now))] _ _
  refine l1 (v := x2) hi_99_36 rfl ?_
  refine l10 hi_99_37 ?_
  show am_L _ _ _ _ _ [some (.ref 7), some (.int x1), some (.int x2), some (.int ((c98 s) - 1))] [.int (((tg s (.i s.now) ((c98 s) - 1) 2) &&& x1) ||| x2), .int 2, .int ((c98 s) - 1), .ref (cTa A (.i s.now))] _ _
  refine l32 (as := [.ref (cTa A (.i s.now)), .int ((c98 s) - 1), .int 2, .int (((tg s (.i s.now) ((c98 s) - 1) 2) &&& x1) ||| x2)]) (la := [some (.ref (cTa A (.i s.now))), some (.int ((c98 s) - 1)), some (.int 2), some (.int (((tg s (.i s.now) ((c98 s) - 1) 2) &&& x1) ||| x2))]) (rest := []) hi_99_38 (am_hd0 (M := 99) (by decide) 38) rfl rfl rfl (fun N' d' _ => lc86 (N := N') (d := d') (t := (.i s.now)) h11 (show cTl _ (.i s.now) from (show s.now ≤ K from CM.nl (s := s) h5))) ?_ (fun _ q => nomatch q.1)
  rintro v15 S13 ⟨ev15, h14⟩
  cases ev15
  show am_L _ _ _ _ _ [some (.ref 7), some (.int x1), some (.int x2), some (.int ((c98 s) - 1))] [] _ _
  refine l35 hi_99_41 ⟨rfl, ?_⟩
  exact h14
def c96 (s : cS) : cS × Int32 := if (c97 s) ≠ 6 then ((c99 s 1 4).1, 0) else (ts s (.i s.now) ((c98 s) - 1) 2 0, 0)
theorem lc96 {sc : Nat × (Nat → Int32)} {N d : Nat} {A : Nat → Nat} {K : Nat} {S : am_S} {s : cS} (hS : CM A K S s) : am_L (am_PP sc) N d 96 0 [some (.ref 7)] [] S (fun o S1 => o = some none ∧ CM A K S1 (c96 s).1) := by
  refine l2 (v := 7) hi_96_0 rfl ?_
  refine l32 (as := [.ref 7]) (la := [some (.ref 7)]) (rest := []) hi_96_1 (am_hd0 (M := 96) (by decide) 1) rfl rfl rfl (fun N' d' _ => lc97 (N := N') (d := d') hS ) ?_ (fun _ q => nomatch q.1)
  rintro v3 S1 ⟨ev3, h2⟩
  cases ev3
  show am_L _ _ _ _ _ [some (.ref 7)] [.int (c97 s)] _ _
  refine l0 hi_96_4 ?_
  by_cases cn4 : (c97 s) ≠ 6
  · refine l13t hi_96_6 (decide_eq_true cn4) ?_
    refine l2 (v := 7) hi_96_33 rfl ?_
    refine l0 hi_96_34 ?_
    refine l0 hi_96_35 ?_
    refine l32 (as := [.ref 7, .int 1, .int 4]) (la := [some (.ref 7), some (.int 1), some (.int 4), none]) (rest := []) hi_96_36 (am_hd0 (M := 96) (by decide) 36) rfl rfl rfl (fun N' d' _ => lc99 (N := N') (d := d') h2 ) ?_ (fun _ q => nomatch q.1)
    rintro v7 S5 ⟨ev7, h6⟩
    cases ev7
    show am_L _ _ _ _ _ [some (.ref 7)] [] _ _
    refine l35 hi_96_39 ⟨rfl, ?_⟩
    unfold c96; rw [if_pos cn4]; exact h6
  · refine l13f hi_96_6 (decide_eq_false cn4) ?_
    refine l2 (v := 7) hi_96_9 rfl ?_
    refine l20s (v := .ref 12) h2 cs_7 hi_96_10 rfl ?_
    refine l32 (as := [.ref 12]) (la := [some (.ref 12)]) (rest := []) hi_96_13 (am_hd0 (M := 96) (by decide) 13) rfl rfl rfl (fun N' d' _ => lc79 (N := N') (d := d') h2) ?_ (fun _ q => nomatch q.1)
    rintro v10 S8 ⟨ev10, h9⟩
    cases ev10
    show am_L _ _ _ _ _ [some (.ref 7)] [.ref (A s.now)] _ _
    refine l20b (v := .ref (cTa A (.i s.now))) h9 (show s.now ≤ K from CM.nl (s := s) h2) hi_96_16 rfl ?_
    refine l2 (v := 7) hi_96_19 rfl ?_
    refine l32 (as := [.ref 7]) (la := [some (.ref 7)]) (rest := [.ref (cTa A (.i s.now))]) hi_96_20 (am_hd0 (M := 96) (by decide) 20) rfl rfl rfl (fun N' d' _ => lc98 (N := N') (d := d') h9 ) ?_ (fun _ q => nomatch q.1)
    rintro v13 S11 ⟨ev13, h12⟩
    cases ev13
    show am_L _ _ _ _ _ [some (.ref 7)] [.int (c98 s), .ref (cTa A (.i s.now))] _ _
    refine l0 hi_96_23 ?_
    refine l10 hi_96_24 ?_
    show am_L _ _ _ _ _ [some (.ref 7)] [.int ((c98 s) - 1), .ref (cTa A (.i s.now))] _ _
    refine l0 hi_96_25 ?_
    refine l0 hi_96_26 ?_
    refine l32 (as := [.ref (cTa A (.i s.now)), .int ((c98 s) - 1), .int 2, .int 0]) (la := [some (.ref (cTa A (.i s.now))), some (.int ((c98 s) - 1)), some (.int 2), some (.int 0)]) (rest := []) hi_96_27 (am_hd0 (M := 96) (by decide) 27) rfl rfl rfl (fun N' d' _ => lc86 (N := N') (d := d') (t := (.i s.now)) h12 (show cTl _ (.i s.now) from (show s.now ≤ K from CM.nl (s := s) h2))) ?_ (fun _ q => nomatch q.1)
    rintro v16 S14 ⟨ev16, h15⟩
    cases ev16
    show am_L _ _ _ _ _ [some (.ref 7)] [] _ _
    refine l18 hi_96_30 ?_
    refine l35 hi_96_39 ⟨rfl, ?_⟩
    unfold c96; rw [if_neg cn4]; exact h15
def c101 (s : cS) : Int32 := s.f 12 7
theorem lc101 {sc : Nat × (Nat → Int32)} {N d : Nat} {A : Nat → Nat} {K : Nat} {S : am_S} {s : cS} (hS : CM A K S s) : am_L (am_PP sc) N d 101 0 [some (.ref 12)] [] S (fun o S1 => o = some (some (.int (c101 s))) ∧ CM A K S1 s) := by
  refine l2 (v := 12) hi_101_0 rfl ?_
  refine l20s (v := .int (s.f 12 7)) hS cs_12 hi_101_1 rfl ?_
  refine l33 hi_101_4 ⟨?_, ?_⟩
  · rfl
  · exact hS
def c102 (s : cS) : Int32 := s.f 12 8
theorem lc102 {sc : Nat × (Nat → Int32)} {N d : Nat} {A : Nat → Nat} {K : Nat} {S : am_S} {s : cS} (hS : CM A K S s) : am_L (am_PP sc) N d 102 0 [some (.ref 12)] [] S (fun o S1 => o = some (some (.int (c102 s))) ∧ CM A K S1 s) := by
  refine l2 (v := 12) hi_102_0 rfl ?_
  refine l20s (v := .int (s.f 12 8)) hS cs_12 hi_102_1 rfl ?_
  refine l33 hi_102_4 ⟨?_, ?_⟩
  · rfl
  · exact hS
def c100 (s : cS) (x1 : Int32) : cS × Int32 := if x1 ≠ 1 then if x1 ≠ 2 then if x1 ≠ 3 then (s, 0) else ((c78 s 11 0 0 (s.f 7 6)).1, 0) else ((c78 s 12 (s.f 7 7) 0 (s.f 7 6)).1, 0) else ((c78 s (c101 s) (c102 s) 0 (s.f 7 6)).1, 0)
theorem lc100 {sc : Nat × (Nat → Int32)} {N d : Nat} {A : Nat → Nat} {K : Nat} {S : am_S} {s : cS} {x1 : Int32} (hS : CM A K S s) : am_L (am_PP sc) N d 100 0 [some (.ref 7), some (.int x1)] [] S (fun o S1 => o = some none ∧ CM A K S1 (c100 s x1).1) := by
  refine l1 (v := x1) hi_100_0 rfl ?_
  refine l0 hi_100_1 ?_
  by_cases cn1 : x1 ≠ 1
  · refine l13t hi_100_2 (decide_eq_true cn1) ?_
    refine l1 (v := x1) hi_100_32 rfl ?_
    refine l0 hi_100_33 ?_
    by_cases cn2 : x1 ≠ 2
    · refine l13t hi_100_34 (decide_eq_true cn2) ?_
      refine l1 (v := x1) hi_100_56 rfl ?_
      refine l0 hi_100_57 ?_
      by_cases cn3 : x1 ≠ 3
      · refine l13t hi_100_58 (decide_eq_true cn3) ?_
        refine l35 hi_100_74 ⟨rfl, ?_⟩
        unfold c100; rw [if_pos cn1]; rw [if_pos cn2]; rw [if_pos cn3]; exact hS
      · refine l13f hi_100_58 (decide_eq_false cn3) ?_
        refine l2 (v := 7) hi_100_61 rfl ?_
        refine l0 hi_100_62 ?_
        refine l0 hi_100_64 ?_
        refine l0 hi_100_65 ?_
        refine l2 (v := 7) hi_100_66 rfl ?_
        refine l20s (v := .int (s.f 7 6)) hS cs_7 hi_100_67 rfl ?_
        refine l32 (as := [.ref 7, .int 11, .int 0, .int 0, .int (s.f 7 6)]) (la := [some (.ref 7), some (.int 11), some (.int 0), some (.int 0), some (.int (s.f 7 6))]) (rest := []) hi_100_70 (am_hd0 (M := 100) (by decide) 70) rfl rfl rfl (fun N' d' _ => lc78 (N := N') (d := d') hS ) ?_ (fun _ q => nomatch q.1)
        rintro v6 S4 ⟨ev6, h5⟩
        cases ev6
        show am_L _ _ _ _ _ [some (.ref 7), some (.int x1)] [.int ((c78 s 11 0 0 (s.f 7 6)).2)] _ _
        refine l6i hi_100_73 ?_
        refine l35 hi_100_74 ⟨rfl, ?_⟩
        unfold c100; rw [if_pos cn1]; rw [if_pos cn2]; rw [if_neg cn3]; exact h5
    · refine l13f hi_100_34 (decide_eq_false cn2) ?_
      refine l2 (v := 7) hi_100_37 rfl ?_
      refine l0 hi_100_38 ?_
      refine l2 (v := 7) hi_100_40 rfl ?_
      refine l20s (v := .int (s.f 7 7)) hS cs_7 hi_100_41 rfl ?_
      refine l0 hi_100_44 ?_
      refine l2 (v := 7) hi_100_45 rfl ?_
      refine l20s (v := .int (s.f 7 6)) hS cs_7 hi_100_46 rfl ?_
      refine l32 (as := [.ref 7, .int 12, .int (s.f 7 7), .int 0, .int (s.f 7 6)]) (la := [some (.ref 7), some (.int 12), some (.int (s.f 7 7)), some (.int 0), some (.int (s.f 7 6))]) (rest := []) hi_100_49 (am_hd0 (M := 100) (by decide) 49) rfl rfl rfl (fun N' d' _ => lc78 (N := N') (d := d') hS ) ?_ (fun _ q => nomatch q.1)
      rintro v9 S7 ⟨ev9, h8⟩
      cases ev9
      show am_L _ _ _ _ _ [some (.ref 7), some (.int x1)] [.int ((c78 s 12 (s.f 7 7) 0 (s.f 7 6)).2)] _ _
      refine l6i hi_100_52 ?_
      refine l18 hi_100_53 ?_
      refine l35 hi_100_74 ⟨rfl, ?_⟩
      unfold c100; rw [if_pos cn1]; rw [if_neg cn2]; exact h8
  · refine l13f hi_100_2 (decide_eq_false cn1) ?_
    refine l2 (v := 7) hi_100_5 rfl ?_
    refine l2 (v := 7) hi_100_6 rfl ?_
    refine l20s (v := .ref 12) hS cs_7 hi_100_7 rfl ?_
    refine l32 (as := [.ref 12]) (la := [some (.ref 12)]) (rest := [.ref 7]) hi_100_10 (am_hd0 (M := 100) (by decide) 10) rfl rfl rfl (fun N' d' _ => lc101 (N := N') (d := d') hS ) ?_ (fun _ q => nomatch q.1)
    rintro v12 S10 ⟨ev12, h11⟩
    cases ev12
    show am_L _ _ _ _ _ [some (.ref 7), some (.int x1)] [.int (c101 s), .ref 7] _ _
    refine l2 (v := 7) hi_100_13 rfl ?_
    refine l20s (v := .ref 12) h11 cs_7 hi_100_14 rfl ?_
    refine l32 (as := [.ref 12]) (la := [some (.ref 12)]) (rest := [.int (c101 s), .ref 7]) hi_100_17 (am_hd0 (M := 100) (by decide) 17) rfl rfl rfl (fun N' d' _ => lc102 (N := N') (d := d') h11 ) ?_ (fun _ q => nomatch q.1)
    rintro v15 S13 ⟨ev15, h14⟩
    cases ev15
    show am_L _ _ _ _ _ [some (.ref 7), some (.int x1)] [.int (c102 s), .int (c101 s), .ref 7] _ _
    refine l0 hi_100_20 ?_
    refine l2 (v := 7) hi_100_21 rfl ?_
    refine l20s (v := .int (s.f 7 6)) h14 cs_7 hi_100_22 rfl ?_
    refine l32 (as := [.ref 7, .int (c101 s), .int (c102 s), .int 0, .int (s.f 7 6)]) (la := [some (.ref 7), some (.int (c101 s)), some (.int (c102 s)), some (.int 0), some (.int (s.f 7 6))]) (rest := []) hi_100_25 (am_hd0 (M := 100) (by decide) 25) rfl rfl rfl (fun N' d' _ => lc78 (N := N') (d := d') h14 ) ?_ (fun _ q => nomatch q.1)
    rintro v18 S16 ⟨ev18, h17⟩
    cases ev18
    show am_L _ _ _ _ _ [some (.ref 7), some (.int x1)] [.int ((c78 s (c101 s) (c102 s) 0 (s.f 7 6)).2)] _ _
    refine l6i hi_100_28 ?_
    refine l18 hi_100_29 ?_
    refine l35 hi_100_74 ⟨rfl, ?_⟩
    unfold c100; rw [if_neg cn1]; exact h17
def c104 (s : cS) (x1 : Int32) : Int32 := tg s (.s 3) x1 1
theorem lc104 {sc : Nat × (Nat → Int32)} {N d : Nat} {A : Nat → Nat} {K : Nat} {S : am_S} {s : cS} {x1 : Int32} (hS : CM A K S s) : am_L (am_PP sc) N d 104 0 [some (.ref 2), some (.int x1)] [] S (fun o S1 => o = some (some (.int (c104 s x1))) ∧ CM A K S1 s) := by
  refine l2 (v := 2) hi_104_0 rfl ?_
  refine l20s (v := .ref 3) hS cs_2 hi_104_1 rfl ?_
  refine l1 (v := x1) hi_104_4 rfl ?_
  refine l0 hi_104_5 ?_
  refine l32 (as := [.ref 3, .int x1, .int 1]) (la := [some (.ref 3), some (.int x1), some (.int 1)]) (rest := []) hi_104_6 (am_hd0 (M := 104) (by decide) 6) rfl rfl rfl (fun N' d' _ => lc54 (N := N') (d := d') (t := (.s 3)) hS ct_3) ?_ (fun _ q => nomatch q.1)
  rintro v3 S1 ⟨ev3, h2⟩
  cases ev3
  show am_L _ _ _ _ _ [some (.ref 2), some (.int x1)] [.int (tg s (.s 3) x1 1)] _ _
  refine l33 hi_104_9 ⟨?_, ?_⟩
  · rfl
  · exact h2
def c103_203 (s : cS) (y2 : Int32) (z0 : Int32) : cS × Option Int32 := if y2 ≠ 72 then (s, some 0) else (s, some 1)
theorem lc103_203 {sc : Nat × (Nat → Int32)} {N d : Nat} {A : Nat → Nat} {K : Nat} {S : am_S} {s : cS} {y2 : Int32} {z0 : Int32} {o1 : Option Value} (hS : CM A K S s) : am_L (am_PP sc) N d 103 203 [some (.ref 7), o1, some (.int y2)] [.int z0] S (fun o S1 => o = cov (c103_203 s y2 z0).2 ∧ CM A K S1 (c103_203 s y2 z0).1) := by
  refine l6i hi_103_203 ?_
  refine l1 (v := y2) hi_103_204 rfl ?_
  refine l0 hi_103_205 ?_
  by_cases cn1 : y2 ≠ 72
  · refine l13t hi_103_207 (decide_eq_true cn1) ?_
    refine l0 hi_103_214 ?_
    have e_ : c103_203 s y2 z0 = (s, some 0) := by unfold c103_203; rw [if_pos cn1]
    refine l36 hi_103_215 fun _ => ⟨?_, ?_⟩
    · rw [e_]; rfl
    · rw [e_]; exact hS
  · refine l13f hi_103_207 (decide_eq_false cn1) ?_
    refine l0 hi_103_210 ?_
    refine l18 hi_103_211 ?_
    have e_ : c103_203 s y2 z0 = (s, some 1) := by unfold c103_203; rw [if_neg cn1]
    refine l36 hi_103_215 fun _ => ⟨?_, ?_⟩
    · rw [e_]; rfl
    · rw [e_]; exact hS
def c103_196 (s : cS) (y2 : Int32) : cS × Option Int32 := cbd (c55 s) (fun _ w4 => c103_203 ((c55 s).1) y2 w4)
theorem lc103_196 {sc : Nat × (Nat → Int32)} {N d : Nat} {A : Nat → Nat} {K : Nat} {S : am_S} {s : cS} {y2 : Int32} {o1 : Option Value} (hS : CM A K S s) : am_L (am_PP sc) N d 103 196 [some (.ref 7), o1, some (.int y2)] [] S (fun o S1 => o = cov (c103_196 s y2).2 ∧ CM A K S1 (c103_196 s y2).1) := by
  refine l2 (v := 7) hi_103_196 rfl ?_
  refine l20s (v := .ref 2) hS cs_7 hi_103_197 rfl ?_
  refine l32 (as := [.ref 2]) (la := [some (.ref 2), none]) (rest := []) hi_103_200 (am_hd0 (M := 103) (by decide) 200) rfl rfl rfl (fun N' d' hN_ => lc55 (N := N') (d := d') hS ) ?_ ?_
  · rintro v3 S1 ⟨ev, h2⟩
    obtain ⟨w4, e5, rfl⟩ := cov_some ev
    show am_L _ _ _ _ _ [some (.ref 7), o1, some (.int y2)] [.int w4] _ _
    refine am_L.mono (lc103_203 h2 ) ?_
    rintro o S1 ⟨e, h⟩
    have q : c103_196 s y2 = c103_203 ((c55 s).1) y2 w4 := by unfold c103_196; rw [cbd_some e5]
    rw [q]; exact ⟨e, h⟩
  · rintro S1 ⟨q1, q2⟩
    have hn := cov_none q1
    have e_ : c103_196 s y2 = (c55 s) := by unfold c103_196; rw [cbd_none hn]
    rw [e_]
    exact ⟨by rw [hn]; rfl, q2⟩
def c103_127 (s : cS) (y2 : Int32) (z0 : Int32) : cS × Option Int32 := c103_196 s y2
theorem lc103_127 {sc : Nat × (Nat → Int32)} {N d : Nat} {A : Nat → Nat} {K : Nat} {S : am_S} {s : cS} {y2 : Int32} {z0 : Int32} {o1 : Option Value} (hS : CM A K S s) : am_L (am_PP sc) N d 103 127 [some (.ref 7), o1, some (.int y2)] [.int z0] S (fun o S1 => o = cov (c103_127 s y2 z0).2 ∧ CM A K S1 (c103_127 s y2 z0).1) := by
  refine l6i hi_103_127 ?_
  refine l18 hi_103_128 ?_
  refine am_L.mono (lc103_196 hS ) ?_
  rintro o S1 ⟨e, h⟩
  have q : c103_127 s y2 z0 = c103_196 s y2 := rfl
  rw [q]; exact ⟨e, h⟩
def c103_146 (s : cS) (y2 : Int32) (z0 : Int32) : cS × Option Int32 := c103_196 s y2
theorem lc103_146 {sc : Nat × (Nat → Int32)} {N d : Nat} {A : Nat → Nat} {K : Nat} {S : am_S} {s : cS} {y2 : Int32} {z0 : Int32} {o1 : Option Value} (hS : CM A K S s) : am_L (am_PP sc) N d 103 146 [some (.ref 7), o1, some (.int y2)] [.int z0] S (fun o S1 => o = cov (c103_146 s y2 z0).2 ∧ CM A K S1 (c103_146 s y2 z0).1) := by
  refine l6i hi_103_146 ?_
  refine l18 hi_103_147 ?_
  refine am_L.mono (lc103_196 hS ) ?_
  rintro o S1 ⟨e, h⟩
  have q : c103_146 s y2 z0 = c103_196 s y2 := rfl
  rw [q]; exact ⟨e, h⟩
def c103_96 (s : cS) (y2 : Int32) (z0 : Int32) : cS × Option Int32 := c103_196 s y2
theorem lc103_96 {sc : Nat × (Nat → Int32)} {N d : Nat} {A : Nat → Nat} {K : Nat} {S : am_S} {s : cS} {y2 : Int32} {z0 : Int32} {o1 : Option Value} (hS : CM A K S s) : am_L (am_PP sc) N d 103 96 [some (.ref 7), o1, some (.int y2)] [.int z0] S (fun o S1 => o = cov (c103_96 s y2 z0).2 ∧ CM A K S1 (c103_96 s y2 z0).1) := by
  refine l6i hi_103_96 ?_
  refine l18 hi_103_97 ?_
  refine am_L.mono (lc103_196 hS ) ?_
  rintro o S1 ⟨e, h⟩
  have q : c103_96 s y2 z0 = c103_196 s y2 := rfl
  rw [q]; exact ⟨e, h⟩
def c103_84 (s : cS) (y2 : Int32) (z0 : Int32) : cS × Option Int32 := c103_196 s y2
theorem lc103_84 {sc : Nat × (Nat → Int32)} {N d : Nat} {A : Nat → Nat} {K : Nat} {S : am_S} {s : cS} {y2 : Int32} {z0 : Int32} {o1 : Option Value} (hS : CM A K S s) : am_L (am_PP sc) N d 103 84 [some (.ref 7), o1, some (.int y2)] [.int z0] S (fun o S1 => o = cov (c103_84 s y2 z0).2 ∧ CM A K S1 (c103_84 s y2 z0).1) := by
  refine l6i hi_103_84 ?_
  refine l18 hi_103_85 ?_
  refine am_L.mono (lc103_196 hS ) ?_
  rintro o S1 ⟨e, h⟩
  have q : c103_84 s y2 z0 = c103_196 s y2 := rfl
  rw [q]; exact ⟨e, h⟩
def c103_108 (s : cS) (y2 : Int32) (z0 : Int32) : cS × Option Int32 := c103_196 s y2
theorem lc103_108 {sc : Nat × (Nat → Int32)} {N d : Nat} {A : Nat → Nat} {K : Nat} {S : am_S} {s : cS} {y2 : Int32} {z0 : Int32} {o1 : Option Value} (hS : CM A K S s) : am_L (am_PP sc) N d 103 108 [some (.ref 7), o1, some (.int y2)] [.int z0] S (fun o S1 => o = cov (c103_108 s y2 z0).2 ∧ CM A K S1 (c103_108 s y2 z0).1) := by
  refine l6i hi_103_108 ?_
  refine l18 hi_103_109 ?_
  refine am_L.mono (lc103_196 hS ) ?_
  rintro o S1 ⟨e, h⟩
  have q : c103_108 s y2 z0 = c103_196 s y2 := rfl
  rw [q]; exact ⟨e, h⟩
def c103_182 (s : cS) (y2 : Int32) (z0 : Int32) : cS × Option Int32 := c103_196 s y2
theorem lc103_182 {sc : Nat × (Nat → Int32)} {N d : Nat} {A : Nat → Nat} {K : Nat} {S : am_S} {s : cS} {y2 : Int32} {z0 : Int32} {o1 : Option Value} (hS : CM A K S s) : am_L (am_PP sc) N d 103 182 [some (.ref 7), o1, some (.int y2)] [.int z0] S (fun o S1 => o = cov (c103_182 s y2 z0).2 ∧ CM A K S1 (c103_182 s y2 z0).1) := by
  refine l6i hi_103_182 ?_
  refine l18 hi_103_183 ?_
  refine am_L.mono (lc103_196 hS ) ?_
  rintro o S1 ⟨e, h⟩
  have q : c103_182 s y2 z0 = c103_196 s y2 := rfl
  rw [q]; exact ⟨e, h⟩
def c103_173 (s : cS) (y2 : Int32) : cS × Option Int32 := c103_182 ((c78 s 6 0 1 0).1) y2 ((c78 s 6 0 1 0).2)
theorem lc103_173 {sc : Nat × (Nat → Int32)} {N d : Nat} {A : Nat → Nat} {K : Nat} {S : am_S} {s : cS} {y2 : Int32} {o1 : Option Value} (hS : CM A K S s) : am_L (am_PP sc) N d 103 173 [some (.ref 7), o1, some (.int y2)] [] S (fun o S1 => o = cov (c103_173 s y2).2 ∧ CM A K S1 (c103_173 s y2).1) := by
  refine l2 (v := 7) hi_103_173 rfl ?_
  refine l0 hi_103_174 ?_
  refine l0 hi_103_176 ?_
  refine l0 hi_103_177 ?_
  refine l0 hi_103_178 ?_
  refine l32 (as := [.ref 7, .int 6, .int 0, .int 1, .int 0]) (la := [some (.ref 7), some (.int 6), some (.int 0), some (.int 1), some (.int 0)]) (rest := []) hi_103_179 (am_hd0 (M := 103) (by decide) 179) rfl rfl rfl (fun N' d' _ => lc78 (N := N') (d := d') hS ) ?_ (fun _ q => nomatch q.1)
  rintro v3 S1 ⟨ev3, h2⟩
  cases ev3
  show am_L _ _ _ _ _ [some (.ref 7), o1, some (.int y2)] [.int ((c78 s 6 0 1 0).2)] _ _
  refine am_L.mono (lc103_182 h2 ) ?_
  rintro o S1 ⟨e, h⟩
  have q : c103_173 s y2 = c103_182 ((c78 s 6 0 1 0).1) y2 ((c78 s 6 0 1 0).2) := rfl
  rw [q]; exact ⟨e, h⟩
def c103 (s : cS) : cS × Option Int32 := if (c53 s) = 2 then (c103_127 ((c78 s 4 (c104 s (c63 s)) 0 0).1) (c53 s) ((c78 s 4 (c104 s (c63 s)) 0 0).2)) else if (c53 s) = 3 then (c103_146 ((c78 s 5 (c104 s (c63 s)) 0 0).1) (c53 s) ((c78 s 5 (c104 s (c63 s)) 0 0).2)) else if (c53 s) = 16 then (c103_96 ((c78 s 2 0 0 0).1) (c53 s) ((c78 s 2 0 0 0).2)) else if (c53 s) = 23 then (c103_84 ((c78 s 1 0 0 0).1) (c53 s) ((c78 s 1 0 0 0).2)) else if (c53 s) = 29 then (c103_108 ((c78 s 3 0 0 0).1) (c53 s) ((c78 s 3 0 0 0).2)) else if (c53 s) = 72 then (if (s.b s.now 5) ≠ 0 then c103_173 s (c53 s) else c103_173 ((c76 s 15 (c63 s)).1) (c53 s)) else cbd (c58 s 7 (c63 s)) (fun _ w44 => c103_196 ((c58 s 7 (c63 s)).1) (c53 s))
theorem lc103 {sc : Nat × (Nat → Int32)} {N d : Nat} {A : Nat → Nat} {K : Nat} {S : am_S} {s : cS} (hS : CM A K S s) : am_L (am_PP sc) N d 103 0 [some (.ref 7), none, none] [] S (fun o S1 => o = cov (c103 s).2 ∧ CM A K S1 (c103 s).1) := by
  refine l2 (v := 7) hi_103_0 rfl ?_
  refine l20s (v := .ref 2) hS cs_7 hi_103_1 rfl ?_
  refine l32 (as := [.ref 2]) (la := [some (.ref 2)]) (rest := []) hi_103_4 (am_hd0 (M := 103) (by decide) 4) rfl rfl rfl (fun N' d' _ => lc63 (N := N') (d := d') hS ) ?_ (fun _ q => nomatch q.1)
  rintro v3 S1 ⟨ev3, h2⟩
  cases ev3
  show am_L _ _ _ _ _ [some (.ref 7), none, none] [.int (c63 s)] _ _
  refine l3 (ls' := [some (.ref 7), some (.int (c63 s)), none]) hi_103_7 (Nat.le_of_ble_eq_true rfl) rfl ?_
  refine l2 (v := 7) hi_103_8 rfl ?_
  refine l20s (v := .ref 2) h2 cs_7 hi_103_9 rfl ?_
  refine l32 (as := [.ref 2]) (la := [some (.ref 2)]) (rest := []) hi_103_12 (am_hd0 (M := 103) (by decide) 12) rfl rfl rfl (fun N' d' _ => lc53 (N := N') (d := d') h2 ) ?_ (fun _ q => nomatch q.1)
  rintro v6 S4 ⟨ev6, h5⟩
  cases ev6
  show am_L _ _ _ _ _ [some (.ref 7), some (.int (c63 s)), none] [.int (c53 s)] _ _
  refine l3 (ls' := [some (.ref 7), some (.int (c63 s)), some (.int (c53 s))]) hi_103_15 (Nat.le_of_ble_eq_true rfl) rfl ?_
  refine l1 (v := c53 s) hi_103_16 rfl ?_
  by_cases cn7 : (c53 s) = 2
  · refine l19 (t := 112) hi_103_17 (by rw [cn7]; decide) ?_
    refine l2 (v := 7) hi_103_112 rfl ?_
    refine l0 hi_103_113 ?_
    refine l2 (v := 7) hi_103_114 rfl ?_
    refine l20s (v := .ref 2) h5 cs_7 hi_103_115 rfl ?_
    refine l1 (v := c63 s) hi_103_118 rfl ?_
    refine l32 (as := [.ref 2, .int (c63 s)]) (la := [some (.ref 2), some (.int (c63 s))]) (rest := [.int 4, .ref 7]) hi_103_119 (am_hd0 (M := 103) (by decide) 119) rfl rfl rfl (fun N' d' _ => lc104 (N := N') (d := d') h5 ) ?_ (fun _ q => nomatch q.1)
    rintro v10 S8 ⟨ev10, h9⟩
    cases ev10
    show am_L _ _ _ _ _ [some (.ref 7), some (.int (c63 s)), some (.int (c53 s))] [.int (c104 s (c63 s)), .int 4, .ref 7] _ _
    refine l0 hi_103_122 ?_
    refine l0 hi_103_123 ?_
    refine l32 (as := [.ref 7, .int 4, .int (c104 s (c63 s)), .int 0, .int 0]) (la := [some (.ref 7), some (.int 4), some (.int (c104 s (c63 s))), some (.int 0), some (.int 0)]) (rest := []) hi_103_124 (am_hd0 (M := 103) (by decide) 124) rfl rfl rfl (fun N' d' _ => lc78 (N := N') (d := d') h9 ) ?_ (fun _ q => nomatch q.1)
    rintro v13 S11 ⟨ev13, h12⟩
    cases ev13
    show am_L _ _ _ _ _ [some (.ref 7), some (.int (c63 s)), some (.int (c53 s))] [.int ((c78 s 4 (c104 s (c63 s)) 0 0).2)] _ _
    refine am_L.mono (lc103_127 h12 ) ?_
    rintro o S1 ⟨e, h⟩
    have q : c103 s = c103_127 ((c78 s 4 (c104 s (c63 s)) 0 0).1) (c53 s) ((c78 s 4 (c104 s (c63 s)) 0 0).2) := by unfold c103; rw [if_pos cn7]
    rw [q]; exact ⟨e, h⟩
  by_cases cn14 : (c53 s) = 3
  · refine l19 (t := 131) hi_103_17 (by rw [cn14]; decide) ?_
    refine l2 (v := 7) hi_103_131 rfl ?_
    refine l0 hi_103_132 ?_
    refine l2 (v := 7) hi_103_133 rfl ?_
    refine l20s (v := .ref 2) h5 cs_7 hi_103_134 rfl ?_
    refine l1 (v := c63 s) hi_103_137 rfl ?_
    refine l32 (as := [.ref 2, .int (c63 s)]) (la := [some (.ref 2), some (.int (c63 s))]) (rest := [.int 5, .ref 7]) hi_103_138 (am_hd0 (M := 103) (by decide) 138) rfl rfl rfl (fun N' d' _ => lc104 (N := N') (d := d') h5 ) ?_ (fun _ q => nomatch q.1)
    rintro v17 S15 ⟨ev17, h16⟩
    cases ev17
    show am_L _ _ _ _ _ [some (.ref 7), some (.int (c63 s)), some (.int (c53 s))] [.int (c104 s (c63 s)), .int 5, .ref 7] _ _
    refine l0 hi_103_141 ?_
    refine l0 hi_103_142 ?_
    refine l32 (as := [.ref 7, .int 5, .int (c104 s (c63 s)), .int 0, .int 0]) (la := [some (.ref 7), some (.int 5), some (.int (c104 s (c63 s))), some (.int 0), some (.int 0)]) (rest := []) hi_103_143 (am_hd0 (M := 103) (by decide) 143) rfl rfl rfl (fun N' d' _ => lc78 (N := N') (d := d') h16 ) ?_ (fun _ q => nomatch q.1)
    rintro v20 S18 ⟨ev20, h19⟩
    cases ev20
    show am_L _ _ _ _ _ [some (.ref 7), some (.int (c63 s)), some (.int (c53 s))] [.int ((c78 s 5 (c104 s (c63 s)) 0 0).2)] _ _
    refine am_L.mono (lc103_146 h19 ) ?_
    rintro o S1 ⟨e, h⟩
    have q : c103 s = c103_146 ((c78 s 5 (c104 s (c63 s)) 0 0).1) (c53 s) ((c78 s 5 (c104 s (c63 s)) 0 0).2) := by unfold c103; rw [if_neg cn7]; rw [if_pos cn14]
    rw [q]; exact ⟨e, h⟩
  by_cases cn21 : (c53 s) = 16
  · refine l19 (t := 88) hi_103_17 (by rw [cn21]; decide) ?_
    refine l2 (v := 7) hi_103_88 rfl ?_
    refine l0 hi_103_89 ?_
    refine l0 hi_103_90 ?_
    refine l0 hi_103_91 ?_
    refine l0 hi_103_92 ?_
    refine l32 (as := [.ref 7, .int 2, .int 0, .int 0, .int 0]) (la := [some (.ref 7), some (.int 2), some (.int 0), some (.int 0), some (.int 0)]) (rest := []) hi_103_93 (am_hd0 (M := 103) (by decide) 93) rfl rfl rfl (fun N' d' _ => lc78 (N := N') (d := d') h5 ) ?_ (fun _ q => nomatch q.1)
    rintro v24 S22 ⟨ev24, h23⟩
    cases ev24
    show am_L _ _ _ _ _ [some (.ref 7), some (.int (c63 s)), some (.int (c53 s))] [.int ((c78 s 2 0 0 0).2)] _ _
    refine am_L.mono (lc103_96 h23 ) ?_
    rintro o S1 ⟨e, h⟩
    have q : c103 s = c103_96 ((c78 s 2 0 0 0).1) (c53 s) ((c78 s 2 0 0 0).2) := by unfold c103; rw [if_neg cn7]; rw [if_neg cn14]; rw [if_pos cn21]
    rw [q]; exact ⟨e, h⟩
  by_cases cn25 : (c53 s) = 23
  · refine l19 (t := 76) hi_103_17 (by rw [cn25]; decide) ?_
    refine l2 (v := 7) hi_103_76 rfl ?_
    refine l0 hi_103_77 ?_
    refine l0 hi_103_78 ?_
    refine l0 hi_103_79 ?_
    refine l0 hi_103_80 ?_
    refine l32 (as := [.ref 7, .int 1, .int 0, .int 0, .int 0]) (la := [some (.ref 7), some (.int 1), some (.int 0), some (.int 0), some (.int 0)]) (rest := []) hi_103_81 (am_hd0 (M := 103) (by decide) 81) rfl rfl rfl (fun N' d' _ => lc78 (N := N') (d := d') h5 ) ?_ (fun _ q => nomatch q.1)
    rintro v28 S26 ⟨ev28, h27⟩
    cases ev28
    show am_L _ _ _ _ _ [some (.ref 7), some (.int (c63 s)), some (.int (c53 s))] [.int ((c78 s 1 0 0 0).2)] _ _
    refine am_L.mono (lc103_84 h27 ) ?_
    rintro o S1 ⟨e, h⟩
    have q : c103 s = c103_84 ((c78 s 1 0 0 0).1) (c53 s) ((c78 s 1 0 0 0).2) := by unfold c103; rw [if_neg cn7]; rw [if_neg cn14]; rw [if_neg cn21]; rw [if_pos cn25]
    rw [q]; exact ⟨e, h⟩
  by_cases cn29 : (c53 s) = 29
  · refine l19 (t := 100) hi_103_17 (by rw [cn29]; decide) ?_
    refine l2 (v := 7) hi_103_100 rfl ?_
    refine l0 hi_103_101 ?_
    refine l0 hi_103_102 ?_
    refine l0 hi_103_103 ?_
    refine l0 hi_103_104 ?_
    refine l32 (as := [.ref 7, .int 3, .int 0, .int 0, .int 0]) (la := [some (.ref 7), some (.int 3), some (.int 0), some (.int 0), some (.int 0)]) (rest := []) hi_103_105 (am_hd0 (M := 103) (by decide) 105) rfl rfl rfl (fun N' d' _ => lc78 (N := N') (d := d') h5 ) ?_ (fun _ q => nomatch q.1)
    rintro v32 S30 ⟨ev32, h31⟩
    cases ev32
    show am_L _ _ _ _ _ [some (.ref 7), some (.int (c63 s)), some (.int (c53 s))] [.int ((c78 s 3 0 0 0).2)] _ _
    refine am_L.mono (lc103_108 h31 ) ?_
    rintro o S1 ⟨e, h⟩
    have q : c103 s = c103_108 ((c78 s 3 0 0 0).1) (c53 s) ((c78 s 3 0 0 0).2) := by unfold c103; rw [if_neg cn7]; rw [if_neg cn14]; rw [if_neg cn21]; rw [if_neg cn25]; rw [if_pos cn29]
    rw [q]; exact ⟨e, h⟩
  by_cases cn33 : (c53 s) = 72
  · refine l19 (t := 150) hi_103_17 (by rw [cn33]; decide) ?_
    refine l2 (v := 7) hi_103_150 rfl ?_
    refine l20s (v := .ref 12) h5 cs_7 hi_103_151 rfl ?_
    refine l32 (as := [.ref 12]) (la := [some (.ref 12)]) (rest := []) hi_103_154 (am_hd0 (M := 103) (by decide) 154) rfl rfl rfl (fun N' d' _ => lc79 (N := N') (d := d') h5) ?_ (fun _ q => nomatch q.1)
    rintro v36 S34 ⟨ev36, h35⟩
    cases ev36
    show am_L _ _ _ _ _ [some (.ref 7), some (.int (c63 s)), some (.int (c53 s))] [.ref (A s.now)] _ _
    refine l20b (v := .int (s.b s.now 5)) h35 (show s.now ≤ K from CM.nl (s := s) h5) hi_103_157 rfl ?_
    by_cases cn37 : (s.b s.now 5) ≠ 0
    · refine l12t hi_103_160 (decide_eq_true cn37) ?_
      refine am_L.mono (lc103_173 h35 ) ?_
      rintro o S1 ⟨e, h⟩
      have q : c103 s = c103_173 s (c53 s) := by unfold c103; rw [if_neg cn7]; rw [if_neg cn14]; rw [if_neg cn21]; rw [if_neg cn25]; rw [if_neg cn29]; rw [if_pos cn33]; rw [if_pos cn37]
      rw [q]; exact ⟨e, h⟩
    · refine l12f hi_103_160 (decide_eq_false cn37) ?_
      refine l2 (v := 7) hi_103_163 rfl ?_
      refine l20s (v := .ref 1) h35 cs_7 hi_103_164 rfl ?_
      refine l0 hi_103_167 ?_
      refine l1 (v := c63 s) hi_103_169 rfl ?_
      refine l32 (as := [.ref 1, .int 15, .int (c63 s)]) (la := [some (.ref 1), some (.int 15), some (.int (c63 s))]) (rest := []) hi_103_170 (am_hd0 (M := 103) (by decide) 170) rfl rfl rfl (fun N' d' _ => lc76 (N := N') (d := d') h35 ) ?_ (fun _ q => nomatch q.1)
      rintro v40 S38 ⟨ev40, h39⟩
      cases ev40
      show am_L _ _ _ _ _ [some (.ref 7), some (.int (c63 s)), some (.int (c53 s))] [] _ _
      refine am_L.mono (lc103_173 h39 ) ?_
      rintro o S1 ⟨e, h⟩
      have q : c103 s = c103_173 ((c76 s 15 (c63 s)).1) (c53 s) := by unfold c103; rw [if_neg cn7]; rw [if_neg cn14]; rw [if_neg cn21]; rw [if_neg cn25]; rw [if_neg cn29]; rw [if_pos cn33]; rw [if_neg cn37]
      rw [q]; exact ⟨e, h⟩
  refine l19 (t := 186) hi_103_17 (sw_not (ks := [2, 3, 16, 23, 29, 72]) (by decide) (by intro k hk; simp only [List.mem_cons, List.not_mem_nil, or_false] at hk; rcases hk with rfl | rfl | rfl | rfl | rfl | rfl <;> first | exact cn7 | exact cn14 | exact cn21 | exact cn25 | exact cn29 | exact cn33)) ?_
  refine l2 (v := 7) hi_103_186 rfl ?_
  refine l20s (v := .ref 1) h5 cs_7 hi_103_187 rfl ?_
  refine l0 hi_103_190 ?_
  refine l1 (v := c63 s) hi_103_192 rfl ?_
  refine l32 (as := [.ref 1, .int 7, .int (c63 s)]) (la := [some (.ref 1), some (.int 7), some (.int (c63 s))]) (rest := []) hi_103_193 (am_hd0 (M := 103) (by decide) 193) rfl rfl rfl (fun N' d' hN_ => lc58 (N := N') (d := d') h5 ) ?_ ?_
  · rintro v43 S41 ⟨ev, h42⟩
    obtain ⟨w44, e45, rfl⟩ := cow_some ev
    show am_L _ _ _ _ _ [some (.ref 7), some (.int (c63 s)), some (.int (c53 s))] [] _ _
    refine am_L.mono (lc103_196 h42 ) ?_
    rintro o S1 ⟨e, h⟩
    have q : c103 s = c103_196 ((c58 s 7 (c63 s)).1) (c53 s) := by unfold c103; rw [if_neg cn7]; rw [if_neg cn14]; rw [if_neg cn21]; rw [if_neg cn25]; rw [if_neg cn29]; rw [if_neg cn33]; rw [cbd_some e45]
    rw [q]; exact ⟨e, h⟩
  · rintro S41 ⟨q1, q2⟩
    have hn := cow_none q1
    have e_ : c103 s = (c58 s 7 (c63 s)) := by unfold c103; rw [if_neg cn7]; rw [if_neg cn14]; rw [if_neg cn21]; rw [if_neg cn25]; rw [if_neg cn29]; rw [if_neg cn33]; rw [cbd_none hn]
    rw [e_]
    exact ⟨by rw [hn]; rfl, q2⟩
def c106 (s : cS) (x0 : Int32) : Int32 := if x0 = 10 then 2 else if x0 = 25 then 1 else if x0 = 40 then 9 else if x0 = 41 then 9 else if x0 = 42 then 10 else if x0 = 43 then 10 else if x0 = 44 then 10 else if x0 = 45 then 12 else if x0 = 47 then 6 else if x0 = 48 then 5 else if x0 = 49 then 4 else if x0 = 50 then 7 else if x0 = 51 then 7 else if x0 = 52 then 10 else if x0 = 53 then 3 else if x0 = 54 then 3 else if x0 = 55 then 3 else if x0 = 56 then 3 else if x0 = 57 then 3 else if x0 = 58 then 3 else if x0 = 71 then 8 else 0
theorem lc106 {sc : Nat × (Nat → Int32)} {N d : Nat} {A : Nat → Nat} {K : Nat} {S : am_S} {s : cS} {x0 : Int32} (hS : CM A K S s) : am_L (am_PP sc) N d 106 0 [some (.int x0)] [] S (fun o S1 => o = some (some (.int (c106 s x0))) ∧ CM A K S1 s) := by
  refine l1 (v := x0) hi_106_0 rfl ?_
  by_cases cn1 : x0 = 10
  · refine l19 (t := 266) hi_106_1 (by rw [cn1]; decide) ?_
    refine l0 hi_106_266 ?_
    refine l33 hi_106_267 ⟨?_, ?_⟩
    · unfold c106; rw [if_pos cn1]
    · exact hS
  by_cases cn2 : x0 = 25
  · refine l19 (t := 264) hi_106_1 (by rw [cn2]; decide) ?_
    refine l0 hi_106_264 ?_
    refine l33 hi_106_265 ⟨?_, ?_⟩
    · unfold c106; rw [if_neg cn1]; rw [if_pos cn2]
    · exact hS
  by_cases cn3 : x0 = 40
  · refine l19 (t := 283) hi_106_1 (by rw [cn3]; decide) ?_
    refine l0 hi_106_283 ?_
    refine l33 hi_106_285 ⟨?_, ?_⟩
    · unfold c106; rw [if_neg cn1]; rw [if_neg cn2]; rw [if_pos cn3]
    · exact hS
  by_cases cn4 : x0 = 41
  · refine l19 (t := 283) hi_106_1 (by rw [cn4]; decide) ?_
    refine l0 hi_106_283 ?_
    refine l33 hi_106_285 ⟨?_, ?_⟩
    · unfold c106; rw [if_neg cn1]; rw [if_neg cn2]; rw [if_neg cn3]; rw [if_pos cn4]
    · exact hS
  by_cases cn5 : x0 = 42
  · refine l19 (t := 286) hi_106_1 (by rw [cn5]; decide) ?_
    refine l0 hi_106_286 ?_
    refine l33 hi_106_288 ⟨?_, ?_⟩
    · unfold c106; rw [if_neg cn1]; rw [if_neg cn2]; rw [if_neg cn3]; rw [if_neg cn4]; rw [if_pos cn5]
    · exact hS
  by_cases cn6 : x0 = 43
  · refine l19 (t := 286) hi_106_1 (by rw [cn6]; decide) ?_
    refine l0 hi_106_286 ?_
    refine l33 hi_106_288 ⟨?_, ?_⟩
    · unfold c106; rw [if_neg cn1]; rw [if_neg cn2]; rw [if_neg cn3]; rw [if_neg cn4]; rw [if_neg cn5]; rw [if_pos cn6]
    · exact hS
  by_cases cn7 : x0 = 44
  · refine l19 (t := 286) hi_106_1 (by rw [cn7]; decide) ?_
    refine l0 hi_106_286 ?_
    refine l33 hi_106_288 ⟨?_, ?_⟩
    · unfold c106; rw [if_neg cn1]; rw [if_neg cn2]; rw [if_neg cn3]; rw [if_neg cn4]; rw [if_neg cn5]; rw [if_neg cn6]; rw [if_pos cn7]
    · exact hS
  by_cases cn8 : x0 = 45
  · refine l19 (t := 289) hi_106_1 (by rw [cn8]; decide) ?_
    refine l0 hi_106_289 ?_
    refine l33 hi_106_291 ⟨?_, ?_⟩
    · unfold c106; rw [if_neg cn1]; rw [if_neg cn2]; rw [if_neg cn3]; rw [if_neg cn4]; rw [if_neg cn5]; rw [if_neg cn6]; rw [if_neg cn7]; rw [if_pos cn8]
    · exact hS
  by_cases cn9 : x0 = 47
  · refine l19 (t := 274) hi_106_1 (by rw [cn9]; decide) ?_
    refine l0 hi_106_274 ?_
    refine l33 hi_106_276 ⟨?_, ?_⟩
    · unfold c106; rw [if_neg cn1]; rw [if_neg cn2]; rw [if_neg cn3]; rw [if_neg cn4]; rw [if_neg cn5]; rw [if_neg cn6]; rw [if_neg cn7]; rw [if_neg cn8]; rw [if_pos cn9]
    · exact hS
  by_cases cn10 : x0 = 48
  · refine l19 (t := 272) hi_106_1 (by rw [cn10]; decide) ?_
    refine l0 hi_106_272 ?_
    refine l33 hi_106_273 ⟨?_, ?_⟩
    · unfold c106; rw [if_neg cn1]; rw [if_neg cn2]; rw [if_neg cn3]; rw [if_neg cn4]; rw [if_neg cn5]; rw [if_neg cn6]; rw [if_neg cn7]; rw [if_neg cn8]; rw [if_neg cn9]; rw [if_pos cn10]
    · exact hS
  by_cases cn11 : x0 = 49
  · refine l19 (t := 270) hi_106_1 (by rw [cn11]; decide) ?_
    refine l0 hi_106_270 ?_
    refine l33 hi_106_271 ⟨?_, ?_⟩
    · unfold c106; rw [if_neg cn1]; rw [if_neg cn2]; rw [if_neg cn3]; rw [if_neg cn4]; rw [if_neg cn5]; rw [if_neg cn6]; rw [if_neg cn7]; rw [if_neg cn8]; rw [if_neg cn9]; rw [if_neg cn10]; rw [if_pos cn11]
    · exact hS
  by_cases cn12 : x0 = 50
  · refine l19 (t := 277) hi_106_1 (by rw [cn12]; decide) ?_
    refine l0 hi_106_277 ?_
    refine l33 hi_106_279 ⟨?_, ?_⟩
    · unfold c106; rw [if_neg cn1]; rw [if_neg cn2]; rw [if_neg cn3]; rw [if_neg cn4]; rw [if_neg cn5]; rw [if_neg cn6]; rw [if_neg cn7]; rw [if_neg cn8]; rw [if_neg cn9]; rw [if_neg cn10]; rw [if_neg cn11]; rw [if_pos cn12]
    · exact hS
  by_cases cn13 : x0 = 51
  · refine l19 (t := 277) hi_106_1 (by rw [cn13]; decide) ?_
    refine l0 hi_106_277 ?_
    refine l33 hi_106_279 ⟨?_, ?_⟩
    · unfold c106; rw [if_neg cn1]; rw [if_neg cn2]; rw [if_neg cn3]; rw [if_neg cn4]; rw [if_neg cn5]; rw [if_neg cn6]; rw [if_neg cn7]; rw [if_neg cn8]; rw [if_neg cn9]; rw [if_neg cn10]; rw [if_neg cn11]; rw [if_neg cn12]; rw [if_pos cn13]
    · exact hS
  by_cases cn14 : x0 = 52
  · refine l19 (t := 286) hi_106_1 (by rw [cn14]; decide) ?_
    refine l0 hi_106_286 ?_
    refine l33 hi_106_288 ⟨?_, ?_⟩
    · unfold c106; rw [if_neg cn1]; rw [if_neg cn2]; rw [if_neg cn3]; rw [if_neg cn4]; rw [if_neg cn5]; rw [if_neg cn6]; rw [if_neg cn7]; rw [if_neg cn8]; rw [if_neg cn9]; rw [if_neg cn10]; rw [if_neg cn11]; rw [if_neg cn12]; rw [if_neg cn13]; rw [if_pos cn14]
    · exact hS
  by_cases cn15 : x0 = 53
  · refine l19 (t := 268) hi_106_1 (by rw [cn15]; decide) ?_
    refine l0 hi_106_268 ?_
    refine l33 hi_106_269 ⟨?_, ?_⟩
    · unfold c106; rw [if_neg cn1]; rw [if_neg cn2]; rw [if_neg cn3]; rw [if_neg cn4]; rw [if_neg cn5]; rw [if_neg cn6]; rw [if_neg cn7]; rw [if_neg cn8]; rw [if_neg cn9]; rw [if_neg cn10]; rw [if_neg cn11]; rw [if_neg cn12]; rw [if_neg cn13]; rw [if_neg cn14]; rw [if_pos cn15]
    · exact hS
  by_cases cn16 : x0 = 54
  · refine l19 (t := 268) hi_106_1 (by rw [cn16]; decide) ?_
    refine l0 hi_106_268 ?_
    refine l33 hi_106_269 ⟨?_, ?_⟩
    · unfold c106; rw [if_neg cn1]; rw [if_neg cn2]; rw [if_neg cn3]; rw [if_neg cn4]; rw [if_neg cn5]; rw [if_neg cn6]; rw [if_neg cn7]; rw [if_neg cn8]; rw [if_neg cn9]; rw [if_neg cn10]; rw [if_neg cn11]; rw [if_neg cn12]; rw [if_neg cn13]; rw [if_neg cn14]; rw [if_neg cn15]; rw [if_pos cn16]
    · exact hS
  by_cases cn17 : x0 = 55
  · refine l19 (t := 268) hi_106_1 (by rw [cn17]; decide) ?_
    refine l0 hi_106_268 ?_
    refine l33 hi_106_269 ⟨?_, ?_⟩
    · unfold c106; rw [if_neg cn1]; rw [if_neg cn2]; rw [if_neg cn3]; rw [if_neg cn4]; rw [if_neg cn5]; rw [if_neg cn6]; rw [if_neg cn7]; rw [if_neg cn8]; rw [if_neg cn9]; rw [if_neg cn10]; rw [if_neg cn11]; rw [if_neg cn12]; rw [if_neg cn13]; rw [if_neg cn14]; rw [if_neg cn15]; rw [if_neg cn16]; rw [if_pos cn17]
    · exact hS
  by_cases cn18 : x0 = 56
  · refine l19 (t := 268) hi_106_1 (by rw [cn18]; decide) ?_
    refine l0 hi_106_268 ?_
    refine l33 hi_106_269 ⟨?_, ?_⟩
    · unfold c106; rw [if_neg cn1]; rw [if_neg cn2]; rw [if_neg cn3]; rw [if_neg cn4]; rw [if_neg cn5]; rw [if_neg cn6]; rw [if_neg cn7]; rw [if_neg cn8]; rw [if_neg cn9]; rw [if_neg cn10]; rw [if_neg cn11]; rw [if_neg cn12]; rw [if_neg cn13]; rw [if_neg cn14]; rw [if_neg cn15]; rw [if_neg cn16]; rw [if_neg cn17]; rw [if_pos cn18]
    · exact hS
  by_cases cn19 : x0 = 57
  · refine l19 (t := 268) hi_106_1 (by rw [cn19]; decide) ?_
    refine l0 hi_106_268 ?_
    refine l33 hi_106_269 ⟨?_, ?_⟩
    · unfold c106; rw [if_neg cn1]; rw [if_neg cn2]; rw [if_neg cn3]; rw [if_neg cn4]; rw [if_neg cn5]; rw [if_neg cn6]; rw [if_neg cn7]; rw [if_neg cn8]; rw [if_neg cn9]; rw [if_neg cn10]; rw [if_neg cn11]; rw [if_neg cn12]; rw [if_neg cn13]; rw [if_neg cn14]; rw [if_neg cn15]; rw [if_neg cn16]; rw [if_neg cn17]; rw [if_neg cn18]; rw [if_pos cn19]
    · exact hS
  by_cases cn20 : x0 = 58
  · refine l19 (t := 268) hi_106_1 (by rw [cn20]; decide) ?_
    refine l0 hi_106_268 ?_
    refine l33 hi_106_269 ⟨?_, ?_⟩
    · unfold c106; rw [if_neg cn1]; rw [if_neg cn2]; rw [if_neg cn3]; rw [if_neg cn4]; rw [if_neg cn5]; rw [if_neg cn6]; rw [if_neg cn7]; rw [if_neg cn8]; rw [if_neg cn9]; rw [if_neg cn10]; rw [if_neg cn11]; rw [if_neg cn12]; rw [if_neg cn13]; rw [if_neg cn14]; rw [if_neg cn15]; rw [if_neg cn16]; rw [if_neg cn17]; rw [if_neg cn18]; rw [if_neg cn19]; rw [if_pos cn20]
    · exact hS
  by_cases cn21 : x0 = 71
  · refine l19 (t := 280) hi_106_1 (by rw [cn21]; decide) ?_
    refine l0 hi_106_280 ?_
    refine l33 hi_106_282 ⟨?_, ?_⟩
    · unfold c106; rw [if_neg cn1]; rw [if_neg cn2]; rw [if_neg cn3]; rw [if_neg cn4]; rw [if_neg cn5]; rw [if_neg cn6]; rw [if_neg cn7]; rw [if_neg cn8]; rw [if_neg cn9]; rw [if_neg cn10]; rw [if_neg cn11]; rw [if_neg cn12]; rw [if_neg cn13]; rw [if_neg cn14]; rw [if_neg cn15]; rw [if_neg cn16]; rw [if_neg cn17]; rw [if_neg cn18]; rw [if_neg cn19]; rw [if_neg cn20]; rw [if_pos cn21]
    · exact hS
  refine l19 (t := 292) hi_106_1 (sw_not (ks := [10, 25, 40, 41, 42, 43, 44, 45, 47, 48, 49, 50, 51, 52, 53, 54, 55, 56, 57, 58, 71]) (by decide) (by intro k hk; simp only [List.mem_cons, List.not_mem_nil, or_false] at hk; rcases hk with rfl | rfl | rfl | rfl | rfl | rfl | rfl | rfl | rfl | rfl | rfl | rfl | rfl | rfl | rfl | rfl | rfl | rfl | rfl | rfl | rfl <;> first | exact cn1 | exact cn2 | exact cn3 | exact cn4 | exact cn5 | exact cn6 | exact cn7 | exact cn8 | exact cn9 | exact cn10 | exact cn11 | exact cn12 | exact cn13 | exact cn14 | exact cn15 | exact cn16 | exact cn17 | exact cn18 | exact cn19 | exact cn20 | exact cn21)) ?_
  refine l0 hi_106_292 ?_
  refine l33 hi_106_293 ⟨?_, ?_⟩
  · unfold c106; rw [if_neg cn1]; rw [if_neg cn2]; rw [if_neg cn3]; rw [if_neg cn4]; rw [if_neg cn5]; rw [if_neg cn6]; rw [if_neg cn7]; rw [if_neg cn8]; rw [if_neg cn9]; rw [if_neg cn10]; rw [if_neg cn11]; rw [if_neg cn12]; rw [if_neg cn13]; rw [if_neg cn14]; rw [if_neg cn15]; rw [if_neg cn16]; rw [if_neg cn17]; rw [if_neg cn18]; rw [if_neg cn19]; rw [if_neg cn20]; rw [if_neg cn21]
  · exact hS
def c107 (s : cS) (x0 : Int32) : Int32 := if x0 = 71 then 1 else if x0 ≠ 45 then 0 else 1
theorem lc107 {sc : Nat × (Nat → Int32)} {N d : Nat} {A : Nat → Nat} {K : Nat} {S : am_S} {s : cS} {x0 : Int32} (hS : CM A K S s) : am_L (am_PP sc) N d 107 0 [some (.int x0)] [] S (fun o S1 => o = some (some (.int (c107 s x0))) ∧ CM A K S1 s) := by
  refine l1 (v := x0) hi_107_0 rfl ?_
  refine l0 hi_107_1 ?_
  by_cases cn1 : x0 = 71
  · refine l13t hi_107_3 (decide_eq_true cn1) ?_
    refine l0 hi_107_12 ?_
    refine l18 hi_107_13 ?_
    refine l36 hi_107_17 fun _ => ⟨?_, ?_⟩
    · unfold c107; rw [if_pos cn1]
    · exact hS
  · refine l13f hi_107_3 (decide_eq_false cn1) ?_
    refine l1 (v := x0) hi_107_6 rfl ?_
    refine l0 hi_107_7 ?_
    by_cases cn2 : x0 ≠ 45
    · refine l13t hi_107_9 (decide_eq_true cn2) ?_
      refine l0 hi_107_16 ?_
      refine l36 hi_107_17 fun _ => ⟨?_, ?_⟩
      · unfold c107; rw [if_neg cn1]; rw [if_pos cn2]
      · exact hS
    · refine l13f hi_107_9 (decide_eq_false cn2) ?_
      refine l0 hi_107_12 ?_
      refine l18 hi_107_13 ?_
      refine l36 hi_107_17 fun _ => ⟨?_, ?_⟩
      · unfold c107; rw [if_neg cn1]; rw [if_neg cn2]
      · exact hS
def c109 (s : cS) (x0 : Nat) (x1 : Int32) (x2 : Int32) : cS × Int32 := (ts s (.i x0) x1 x2 (s.r (.i x0)), 0)
theorem lc109 {sc : Nat × (Nat → Int32)} {N d : Nat} {A : Nat → Nat} {K : Nat} {S : am_S} {s : cS} {x0 : Nat} {x1 : Int32} {x2 : Int32} (hS : CM A K S s) (hx0 : x0 ≤ K) : am_L (am_PP sc) N d 109 0 [some (.ref (A x0)), some (.int x1), some (.int x2)] [] S (fun o S1 => o = some none ∧ CM A K S1 (c109 s x0 x1 x2).1) := by
  refine l2 (v := (A x0)) hi_109_0 rfl ?_
  refine l20b (v := .ref (cTa A (.i x0))) hS hx0 hi_109_1 rfl ?_
  refine l1 (v := x1) hi_109_4 rfl ?_
  refine l1 (v := x2) hi_109_5 rfl ?_
  refine l2 (v := (A x0)) hi_109_6 rfl ?_
  refine l20b (v := .ref (cTa A (.i x0))) hS hx0 hi_109_7 rfl ?_
  refine l32 (as := [.ref (cTa A (.i x0))]) (la := [some (.ref (cTa A (.i x0)))]) (rest := [.int x2, .int x1, .ref (cTa A (.i x0))]) hi_109_10 (am_hd0 (M := 109) (by decide) 10) rfl rfl rfl (fun N' d' _ => lc36 (N := N') (d := d') (t := (.i x0)) hS (show cTl _ (.i x0) from hx0)) ?_ (fun _ q => nomatch q.1)
  rintro v3 S1 ⟨ev3, h2⟩
  cases ev3
  show am_L _ _ _ _ _ [some (.ref (A x0)), some (.int x1), some (.int x2)] [.int (s.r (.i x0)), .int x2, .int x1, .ref (cTa A (.i x0))] _ _
  refine l32 (as := [.ref (cTa A (.i x0)), .int x1, .int x2, .int (s.r (.i x0))]) (la := [some (.ref (cTa A (.i x0))), some (.int x1), some (.int x2), some (.int (s.r (.i x0)))]) (rest := []) hi_109_13 (am_hd0 (M := 109) (by decide) 13) rfl rfl rfl (fun N' d' _ => lc86 (N := N') (d := d') (t := (.i x0)) h2 (show cTl _ (.i x0) from hx0)) ?_ (fun _ q => nomatch q.1)
  rintro v6 S4 ⟨ev6, h5⟩
  cases ev6
  show am_L _ _ _ _ _ [some (.ref (A x0)), some (.int x1), some (.int x2)] [] _ _
  refine l35 hi_109_16 ⟨rfl, ?_⟩
  exact h5
def c108b10 (y1 : Int32) (y2 : Int32) (t : cS × Int32) : Nat × (cS × Int32) := if t.2 < y1 then (1, (t.1, t.2)) else if (tg t.1 (.s 8) t.2 0) < y2 then (1, (t.1, t.2)) else if (tg t.1 (.s 8) t.2 1) = 10 then (0, (tct ((c109 t.1 t.1.now (tg t.1 (.s 8) t.2 3) 1).1) (.s 8) t.2, t.2 + (-1))) else if (tg t.1 (.s 8) t.2 1) ≠ 25 then if (tg t.1 (.s 8) t.2 1) ≠ 24 then if (tg t.1 (.s 8) t.2 0) ≠ 11 then (0, (tct ((c78 t.1 19 (tg t.1 (.s 8) t.2 1) 0 (tg t.1 (.s 8) t.2 2)).1) (.s 8) t.2, t.2 + (-1))) else (0, (tct ((c78 t.1 18 (tg t.1 (.s 8) t.2 1) 0 (tg t.1 (.s 8) t.2 2)).1) (.s 8) t.2, t.2 + (-1))) else (0, (tct ((c78 t.1 17 0 0 (tg t.1 (.s 8) t.2 2)).1) (.s 8) t.2, t.2 + (-1))) else (0, (tct ((c109 t.1 t.1.now (tg t.1 (.s 8) t.2 3) 1).1) (.s 8) t.2, t.2 + (-1)))
theorem lb108_10 {sc : Nat × (Nat → Int32)} {d : Nat} {A : Nat → Nat} {K : Nat} {y1 : Int32} {y2 : Int32} {Q : Option (Option Value) → am_S → Prop} : ∀ (N : Nat) (S : am_S) (o4 : Option Value) (o5 : Option Value) (t : cS × Int32), CM A K S t.1 → (∀ m S1 (p4 : Option Value) (p5 : Option Value), (kwh (c108b10 y1 y2) m t).1 = 1 → CM A K S1 (kwh (c108b10 y1 y2) m t).2.1 → am_L (am_PP sc) N d 108 163 [some (.ref 7), some (.int y1), some (.int y2), some (.int ((kwh (c108b10 y1 y2) m t).2.2)), p4, p5] [] S1 Q) → am_L (am_PP sc) N d 108 10 [some (.ref 7), some (.int y1), some (.int y2), some (.int t.2), o4, o5] [] S Q := by
  intro N
  induction N with
  | zero => intros; exact l_zero
  | succ N ih =>
    intro S o4 o5 t hS kx163
    refine l1d (v := t.2) hi_108_10 rfl ?_
    refine l1 (v := y1) hi_108_11 rfl ?_
    by_cases cn1 : t.2 < y1
    · refine l13t hi_108_12 (decide_eq_true cn1) ?_
      have e0 : (c108b10 y1 y2) t = (1, (t.1, t.2)) := by unfold c108b10; rw [if_pos cn1]
      have e1 : kwh (c108b10 y1 y2) 1 t = (1, (t.1, t.2)) := by rw [kwh_out (by rw [e0]; exact Nat.succ_ne_zero _), e0]
      have q := kx163 1 _ o4 o5 (by rw [e1]) (by rw [e1]; exact hS)
      try rw [e1] at q
      exact q.less (Nat.le_succ N)
    · refine l13f hi_108_12 (decide_eq_false cn1) ?_
      refine l2 (v := 7) hi_108_15 rfl ?_
      refine l20s (v := .ref 8) hS cs_7 hi_108_16 rfl ?_
      refine l1 (v := t.2) hi_108_19 rfl ?_
      refine l0 hi_108_20 ?_
      refine l32 (as := [.ref 8, .int t.2, .int 0]) (la := [some (.ref 8), some (.int t.2), some (.int 0)]) (rest := []) hi_108_21 (am_hd0 (M := 108) (by decide) 21) rfl rfl rfl (fun N' d' _ => lc54 (N := N') (d := d') (t := (.s 8)) hS ct_8) ?_ (fun _ q => nomatch q.1)
      rintro v4 S2 ⟨ev4, h3⟩
      cases ev4
      show am_L _ _ _ _ _ [some (.ref 7), some (.int y1), some (.int y2), some (.int t.2), o4, o5] [.int (tg t.1 (.s 8) t.2 0)] _ _
      refine l1 (v := y2) hi_108_24 rfl ?_
      by_cases cn5 : (tg t.1 (.s 8) t.2 0) < y2
      · refine l13t hi_108_25 (decide_eq_true cn5) ?_
        have e0 : (c108b10 y1 y2) t = (1, (t.1, t.2)) := by unfold c108b10; rw [if_neg cn1]; rw [if_pos cn5]
        have e1 : kwh (c108b10 y1 y2) 1 t = (1, (t.1, t.2)) := by rw [kwh_out (by rw [e0]; exact Nat.succ_ne_zero _), e0]
        have q := kx163 1 _ o4 o5 (by rw [e1]) (by rw [e1]; exact h3)
        try rw [e1] at q
        exact q.less (Nat.le_succ N)
      · refine l13f hi_108_25 (decide_eq_false cn5) ?_
        refine l2 (v := 7) hi_108_28 rfl ?_
        refine l20s (v := .ref 8) h3 cs_7 hi_108_29 rfl ?_
        refine l1 (v := t.2) hi_108_32 rfl ?_
        refine l0 hi_108_33 ?_
        refine l32 (as := [.ref 8, .int t.2, .int 1]) (la := [some (.ref 8), some (.int t.2), some (.int 1)]) (rest := []) hi_108_34 (am_hd0 (M := 108) (by decide) 34) rfl rfl rfl (fun N' d' _ => lc54 (N := N') (d := d') (t := (.s 8)) h3 ct_8) ?_ (fun _ q => nomatch q.1)
        rintro v8 S6 ⟨ev8, h7⟩
        cases ev8
        show am_L _ _ _ _ _ [some (.ref 7), some (.int y1), some (.int y2), some (.int t.2), o4, o5] [.int (tg t.1 (.s 8) t.2 1)] _ _
        refine l3 (ls' := [some (.ref 7), some (.int y1), some (.int y2), some (.int t.2), some (.int (tg t.1 (.s 8) t.2 1)), o5]) hi_108_37 (Nat.le_of_ble_eq_true rfl) rfl ?_
        refine l2 (v := 7) hi_108_39 rfl ?_
        refine l20s (v := .ref 8) h7 cs_7 hi_108_40 rfl ?_
        refine l1 (v := t.2) hi_108_43 rfl ?_
        refine l0 hi_108_44 ?_
        refine l32 (as := [.ref 8, .int t.2, .int 2]) (la := [some (.ref 8), some (.int t.2), some (.int 2)]) (rest := []) hi_108_45 (am_hd0 (M := 108) (by decide) 45) rfl rfl rfl (fun N' d' _ => lc54 (N := N') (d := d') (t := (.s 8)) h7 ct_8) ?_ (fun _ q => nomatch q.1)
        rintro v11 S9 ⟨ev11, h10⟩
        cases ev11
        show am_L _ _ _ _ _ [some (.ref 7), some (.int y1), some (.int y2), some (.int t.2), some (.int (tg t.1 (.s 8) t.2 1)), o5] [.int (tg t.1 (.s 8) t.2 2)] _ _
        refine l3 (ls' := [some (.ref 7), some (.int y1), some (.int y2), some (.int t.2), some (.int (tg t.1 (.s 8) t.2 1)), some (.int (tg t.1 (.s 8) t.2 2))]) hi_108_48 (Nat.le_of_ble_eq_true rfl) rfl ?_
        refine l1 (v := tg t.1 (.s 8) t.2 1) hi_108_50 rfl ?_
        refine l0 hi_108_52 ?_
        by_cases cn12 : (tg t.1 (.s 8) t.2 1) = 10
        · refine l13t hi_108_54 (decide_eq_true cn12) ?_
          refine l2 (v := 7) hi_108_64 rfl ?_
          refine l20s (v := .ref 12) h10 cs_7 hi_108_65 rfl ?_
          refine l32 (as := [.ref 12]) (la := [some (.ref 12)]) (rest := []) hi_108_68 (am_hd0 (M := 108) (by decide) 68) rfl rfl rfl (fun N' d' _ => lc79 (N := N') (d := d') h10) ?_ (fun _ q => nomatch q.1)
          rintro v15 S13 ⟨ev15, h14⟩
          cases ev15
          show am_L _ _ _ _ _ [some (.ref 7), some (.int y1), some (.int y2), some (.int t.2), some (.int (tg t.1 (.s 8) t.2 1)), some (.int (tg t.1 (.s 8) t.2 2))] [.ref (A t.1.now)] _ _
          refine l2 (v := 7) hi_108_71 rfl ?_
          refine l20s (v := .ref 8) h14 cs_7 hi_108_72 rfl ?_
          refine l1 (v := t.2) hi_108_75 rfl ?_
          refine l0 hi_108_76 ?_
          refine l32 (as := [.ref 8, .int t.2, .int 3]) (la := [some (.ref 8), some (.int t.2), some (.int 3)]) (rest := [.ref (A t.1.now)]) hi_108_77 (am_hd0 (M := 108) (by decide) 77) rfl rfl rfl (fun N' d' _ => lc54 (N := N') (d := d') (t := (.s 8)) h14 ct_8) ?_ (fun _ q => nomatch q.1)
          rintro v18 S16 ⟨ev18, h17⟩
          cases ev18
          show am_L _ _ _ _ _ [some (.ref 7), some (.int y1), some (.int y2), some (.int t.2), some (.int (tg t.1 (.s 8) t.2 1)), some (.int (tg t.1 (.s 8) t.2 2))] [.int (tg t.1 (.s 8) t.2 3), .ref (A t.1.now)] _ _
          refine l0 hi_108_80 ?_
          refine l32 (as := [.ref (A t.1.now), .int (tg t.1 (.s 8) t.2 3), .int 1]) (la := [some (.ref (A t.1.now)), some (.int (tg t.1 (.s 8) t.2 3)), some (.int 1)]) (rest := []) hi_108_81 (am_hd0 (M := 108) (by decide) 81) rfl rfl rfl (fun N' d' _ => lc109 (N := N') (d := d') h17 (show t.1.now ≤ K from CM.nl (s := t.1) h10)) ?_ (fun _ q => nomatch q.1)
          rintro v21 S19 ⟨ev21, h20⟩
          cases ev21
          show am_L _ _ _ _ _ [some (.ref 7), some (.int y1), some (.int y2), some (.int t.2), some (.int (tg t.1 (.s 8) t.2 1)), some (.int (tg t.1 (.s 8) t.2 2))] [] _ _
          refine l18 hi_108_84 ?_
          refine l2 (v := 7) hi_108_149 rfl ?_
          refine l20s (v := .ref 8) h20 cs_7 hi_108_150 rfl ?_
          refine l1 (v := t.2) hi_108_153 rfl ?_
          refine l32 (as := [.ref 8, .int t.2]) (la := [some (.ref 8), some (.int t.2)]) (rest := []) hi_108_154 (am_hd0 (M := 108) (by decide) 154) rfl rfl rfl (fun N' d' _ => lc30 (N := N') (d := d') (t := (.s 8)) h20 ct_8) ?_ (fun _ q => nomatch q.1)
          rintro v24 S22 ⟨ev24, h23⟩
          cases ev24
          show am_L _ _ _ _ _ [some (.ref 7), some (.int y1), some (.int y2), some (.int t.2), some (.int (tg t.1 (.s 8) t.2 1)), some (.int (tg t.1 (.s 8) t.2 2))] [] _ _
          refine l5 (v := t.2) (ls' := [some (.ref 7), some (.int y1), some (.int y2), some (.int (t.2 + (-1))), some (.int (tg t.1 (.s 8) t.2 1)), some (.int (tg t.1 (.s 8) t.2 2))]) hi_108_157 rfl rfl ?_
          refine l18 hi_108_160 ?_
          have e0 : (c108b10 y1 y2) t = (0, (tct ((c109 t.1 t.1.now (tg t.1 (.s 8) t.2 3) 1).1) (.s 8) t.2, t.2 + (-1))) := by unfold c108b10; rw [if_neg cn1]; rw [if_neg cn5]; rw [if_pos cn12]
          have e1 : ∀ m, kwh (c108b10 y1 y2) (m + 1) t = kwh (c108b10 y1 y2) m (tct ((c109 t.1 t.1.now (tg t.1 (.s 8) t.2 3) 1).1) (.s 8) t.2, t.2 + (-1)) := fun m => by rw [kwh_go (by rw [e0]), e0]
          exact ih _ (some (.int (tg t.1 (.s 8) t.2 1))) (some (.int (tg t.1 (.s 8) t.2 2))) (tct ((c109 t.1 t.1.now (tg t.1 (.s 8) t.2 3) 1).1) (.s 8) t.2, t.2 + (-1)) h23 (fun m S1 p4 p5 hm h1 => by have q := kx163 (m + 1) S1 p4 p5 (by rw [e1]; exact hm) (by rw [e1]; exact h1); (try rw [e1] at q); exact q.less (Nat.le_succ N))
        · refine l13f hi_108_54 (decide_eq_false cn12) ?_
          refine l1 (v := tg t.1 (.s 8) t.2 1) hi_108_57 rfl ?_
          refine l0 hi_108_59 ?_
          by_cases cn25 : (tg t.1 (.s 8) t.2 1) ≠ 25
          · refine l13t hi_108_61 (decide_eq_true cn25) ?_
            refine l1 (v := tg t.1 (.s 8) t.2 1) hi_108_87 rfl ?_
            refine l0 hi_108_89 ?_
            by_cases cn26 : (tg t.1 (.s 8) t.2 1) ≠ 24
            · refine l13t hi_108_91 (decide_eq_true cn26) ?_
              refine l2 (v := 7) hi_108_108 rfl ?_
              refine l20s (v := .ref 8) h10 cs_7 hi_108_109 rfl ?_
              refine l1 (v := t.2) hi_108_112 rfl ?_
              refine l0 hi_108_113 ?_
              refine l32 (as := [.ref 8, .int t.2, .int 0]) (la := [some (.ref 8), some (.int t.2), some (.int 0)]) (rest := []) hi_108_114 (am_hd0 (M := 108) (by decide) 114) rfl rfl rfl (fun N' d' _ => lc54 (N := N') (d := d') (t := (.s 8)) h10 ct_8) ?_ (fun _ q => nomatch q.1)
              rintro v29 S27 ⟨ev29, h28⟩
              cases ev29
              show am_L _ _ _ _ _ [some (.ref 7), some (.int y1), some (.int y2), some (.int t.2), some (.int (tg t.1 (.s 8) t.2 1)), some (.int (tg t.1 (.s 8) t.2 2))] [.int (tg t.1 (.s 8) t.2 0)] _ _
              refine l0 hi_108_117 ?_
              by_cases cn30 : (tg t.1 (.s 8) t.2 0) ≠ 11
              · refine l13t hi_108_119 (decide_eq_true cn30) ?_
                refine l2 (v := 7) hi_108_137 rfl ?_
                refine l0 hi_108_138 ?_
                refine l1 (v := tg t.1 (.s 8) t.2 1) hi_108_140 rfl ?_
                refine l0 hi_108_142 ?_
                refine l1 (v := tg t.1 (.s 8) t.2 2) hi_108_143 rfl ?_
                refine l32 (as := [.ref 7, .int 19, .int (tg t.1 (.s 8) t.2 1), .int 0, .int (tg t.1 (.s 8) t.2 2)]) (la := [some (.ref 7), some (.int 19), some (.int (tg t.1 (.s 8) t.2 1)), some (.int 0), some (.int (tg t.1 (.s 8) t.2 2))]) (rest := []) hi_108_145 (am_hd0 (M := 108) (by decide) 145) rfl rfl rfl (fun N' d' _ => lc78 (N := N') (d := d') h28 ) ?_ (fun _ q => nomatch q.1)
                rintro v33 S31 ⟨ev33, h32⟩
                cases ev33
                show am_L _ _ _ _ _ [some (.ref 7), some (.int y1), some (.int y2), some (.int t.2), some (.int (tg t.1 (.s 8) t.2 1)), some (.int (tg t.1 (.s 8) t.2 2))] [.int ((c78 t.1 19 (tg t.1 (.s 8) t.2 1) 0 (tg t.1 (.s 8) t.2 2)).2)] _ _
                refine l6i hi_108_148 ?_
                refine l2 (v := 7) hi_108_149 rfl ?_
                refine l20s (v := .ref 8) h32 cs_7 hi_108_150 rfl ?_
                refine l1 (v := t.2) hi_108_153 rfl ?_
                refine l32 (as := [.ref 8, .int t.2]) (la := [some (.ref 8), some (.int t.2)]) (rest := []) hi_108_154 (am_hd0 (M := 108) (by decide) 154) rfl rfl rfl (fun N' d' _ => lc30 (N := N') (d := d') (t := (.s 8)) h32 ct_8) ?_ (fun _ q => nomatch q.1)
                rintro v36 S34 ⟨ev36, h35⟩
                cases ev36
                show am_L _ _ _ _ _ [some (.ref 7), some (.int y1), some (.int y2), some (.int t.2), some (.int (tg t.1 (.s 8) t.2 1)), some (.int (tg t.1 (.s 8) t.2 2))] [] _ _
                refine l5 (v := t.2) (ls' := [some (.ref 7), some (.int y1), some (.int y2), some (.int (t.2 + (-1))), some (.int (tg t.1 (.s 8) t.2 1)), some (.int (tg t.1 (.s 8) t.2 2))]) hi_108_157 rfl rfl ?_
                refine l18 hi_108_160 ?_
                have e0 : (c108b10 y1 y2) t = (0, (tct ((c78 t.1 19 (tg t.1 (.s 8) t.2 1) 0 (tg t.1 (.s 8) t.2 2)).1) (.s 8) t.2, t.2 + (-1))) := by unfold c108b10; rw [if_neg cn1]; rw [if_neg cn5]; rw [if_neg cn12]; rw [if_pos cn25]; rw [if_pos cn26]; rw [if_pos cn30]
                have e1 : ∀ m, kwh (c108b10 y1 y2) (m + 1) t = kwh (c108b10 y1 y2) m (tct ((c78 t.1 19 (tg t.1 (.s 8) t.2 1) 0 (tg t.1 (.s 8) t.2 2)).1) (.s 8) t.2, t.2 + (-1)) := fun m => by rw [kwh_go (by rw [e0]), e0]
                exact ih _ (some (.int (tg t.1 (.s 8) t.2 1))) (some (.int (tg t.1 (.s 8) t.2 2))) (tct ((c78 t.1 19 (tg t.1 (.s 8) t.2 1) 0 (tg t.1 (.s 8) t.2 2)).1) (.s 8) t.2, t.2 + (-1)) h35 (fun m S1 p4 p5 hm h1 => by have q := kx163 (m + 1) S1 p4 p5 (by rw [e1]; exact hm) (by rw [e1]; exact h1); (try rw [e1] at q); exact q.less (Nat.le_succ N))
              · refine l13f hi_108_119 (decide_eq_false cn30) ?_
                refine l2 (v := 7) hi_108_122 rfl ?_
                refine l0 hi_108_123 ?_
                refine l1 (v := tg t.1 (.s 8) t.2 1) hi_108_125 rfl ?_
                refine l0 hi_108_127 ?_
                refine l1 (v := tg t.1 (.s 8) t.2 2) hi_108_128 rfl ?_
                refine l32 (as := [.ref 7, .int 18, .int (tg t.1 (.s 8) t.2 1), .int 0, .int (tg t.1 (.s 8) t.2 2)]) (la := [some (.ref 7), some (.int 18), some (.int (tg t.1 (.s 8) t.2 1)), some (.int 0), some (.int (tg t.1 (.s 8) t.2 2))]) (rest := []) hi_108_130 (am_hd0 (M := 108) (by decide) 130) rfl rfl rfl (fun N' d' _ => lc78 (N := N') (d := d') h28 ) ?_ (fun _ q => nomatch q.1)
                rintro v39 S37 ⟨ev39, h38⟩
                cases ev39
                show am_L _ _ _ _ _ [some (.ref 7), some (.int y1), some (.int y2), some (.int t.2), some (.int (tg t.1 (.s 8) t.2 1)), some (.int (tg t.1 (.s 8) t.2 2))] [.int ((c78 t.1 18 (tg t.1 (.s 8) t.2 1) 0 (tg t.1 (.s 8) t.2 2)).2)] _ _
                refine l6i hi_108_133 ?_
                refine l18 hi_108_134 ?_
                refine l2 (v := 7) hi_108_149 rfl ?_
                refine l20s (v := .ref 8) h38 cs_7 hi_108_150 rfl ?_
                refine l1 (v := t.2) hi_108_153 rfl ?_
                refine l32 (as := [.ref 8, .int t.2]) (la := [some (.ref 8), some (.int t.2)]) (rest := []) hi_108_154 (am_hd0 (M := 108) (by decide) 154) rfl rfl rfl (fun N' d' _ => lc30 (N := N') (d := d') (t := (.s 8)) h38 ct_8) ?_ (fun _ q => nomatch q.1)
                rintro v42 S40 ⟨ev42, h41⟩
                cases ev42
                show am_L _ _ _ _ _ [some (.ref 7), some (.int y1), some (.int y2), some (.int t.2), some (.int (tg t.1 (.s 8) t.2 1)), some (.int (tg t.1 (.s 8) t.2 2))] [] _ _
                refine l5 (v := t.2) (ls' := [some (.ref 7), some (.int y1), some (.int y2), some (.int (t.2 + (-1))), some (.int (tg t.1 (.s 8) t.2 1)), some (.int (tg t.1 (.s 8) t.2 2))]) hi_108_157 rfl rfl ?_
                refine l18 hi_108_160 ?_
                have e0 : (c108b10 y1 y2) t = (0, (tct ((c78 t.1 18 (tg t.1 (.s 8) t.2 1) 0 (tg t.1 (.s 8) t.2 2)).1) (.s 8) t.2, t.2 + (-1))) := by unfold c108b10; rw [if_neg cn1]; rw [if_neg cn5]; rw [if_neg cn12]; rw [if_pos cn25]; rw [if_pos cn26]; rw [if_neg cn30]
                have e1 : ∀ m, kwh (c108b10 y1 y2) (m + 1) t = kwh (c108b10 y1 y2) m (tct ((c78 t.1 18 (tg t.1 (.s 8) t.2 1) 0 (tg t.1 (.s 8) t.2 2)).1) (.s 8) t.2, t.2 + (-1)) := fun m => by rw [kwh_go (by rw [e0]), e0]
                exact ih _ (some (.int (tg t.1 (.s 8) t.2 1))) (some (.int (tg t.1 (.s 8) t.2 2))) (tct ((c78 t.1 18 (tg t.1 (.s 8) t.2 1) 0 (tg t.1 (.s 8) t.2 2)).1) (.s 8) t.2, t.2 + (-1)) h41 (fun m S1 p4 p5 hm h1 => by have q := kx163 (m + 1) S1 p4 p5 (by rw [e1]; exact hm) (by rw [e1]; exact h1); (try rw [e1] at q); exact q.less (Nat.le_succ N))
            · refine l13f hi_108_91 (decide_eq_false cn26) ?_
              refine l2 (v := 7) hi_108_94 rfl ?_
              refine l0 hi_108_95 ?_
              refine l0 hi_108_97 ?_
              refine l0 hi_108_98 ?_
              refine l1 (v := tg t.1 (.s 8) t.2 2) hi_108_99 rfl ?_
              refine l32 (as := [.ref 7, .int 17, .int 0, .int 0, .int (tg t.1 (.s 8) t.2 2)]) (la := [some (.ref 7), some (.int 17), some (.int 0), some (.int 0), some (.int (tg t.1 (.s 8) t.2 2))]) (rest := []) hi_108_101 (am_hd0 (M := 108) (by decide) 101) rfl rfl rfl (fun N' d' _ => lc78 (N := N') (d := d') h10 ) ?_ (fun _ q => nomatch q.1)
              rintro v45 S43 ⟨ev45, h44⟩
              cases ev45
              show am_L _ _ _ _ _ [some (.ref 7), some (.int y1), some (.int y2), some (.int t.2), some (.int (tg t.1 (.s 8) t.2 1)), some (.int (tg t.1 (.s 8) t.2 2))] [.int ((c78 t.1 17 0 0 (tg t.1 (.s 8) t.2 2)).2)] _ _
              refine l6i hi_108_104 ?_
              refine l18 hi_108_105 ?_
              refine l2 (v := 7) hi_108_149 rfl ?_
              refine l20s (v := .ref 8) h44 cs_7 hi_108_150 rfl ?_
              refine l1 (v := t.2) hi_108_153 rfl ?_
              refine l32 (as := [.ref 8, .int t.2]) (la := [some (.ref 8), some (.int t.2)]) (rest := []) hi_108_154 (am_hd0 (M := 108) (by decide) 154) rfl rfl rfl (fun N' d' _ => lc30 (N := N') (d := d') (t := (.s 8)) h44 ct_8) ?_ (fun _ q => nomatch q.1)
              rintro v48 S46 ⟨ev48, h47⟩
              cases ev48
              show am_L _ _ _ _ _ [some (.ref 7), some (.int y1), some (.int y2), some (.int t.2), some (.int (tg t.1 (.s 8) t.2 1)), some (.int (tg t.1 (.s 8) t.2 2))] [] _ _
              refine l5 (v := t.2) (ls' := [some (.ref 7), some (.int y1), some (.int y2), some (.int (t.2 + (-1))), some (.int (tg t.1 (.s 8) t.2 1)), some (.int (tg t.1 (.s 8) t.2 2))]) hi_108_157 rfl rfl ?_
              refine l18 hi_108_160 ?_
              have e0 : (c108b10 y1 y2) t = (0, (tct ((c78 t.1 17 0 0 (tg t.1 (.s 8) t.2 2)).1) (.s 8) t.2, t.2 + (-1))) := by unfold c108b10; rw [if_neg cn1]; rw [if_neg cn5]; rw [if_neg cn12]; rw [if_pos cn25]; rw [if_neg cn26]
              have e1 : ∀ m, kwh (c108b10 y1 y2) (m + 1) t = kwh (c108b10 y1 y2) m (tct ((c78 t.1 17 0 0 (tg t.1 (.s 8) t.2 2)).1) (.s 8) t.2, t.2 + (-1)) := fun m => by rw [kwh_go (by rw [e0]), e0]
              exact ih _ (some (.int (tg t.1 (.s 8) t.2 1))) (some (.int (tg t.1 (.s 8) t.2 2))) (tct ((c78 t.1 17 0 0 (tg t.1 (.s 8) t.2 2)).1) (.s 8) t.2, t.2 + (-1)) h47 (fun m S1 p4 p5 hm h1 => by have q := kx163 (m + 1) S1 p4 p5 (by rw [e1]; exact hm) (by rw [e1]; exact h1); (try rw [e1] at q); exact q.less (Nat.le_succ N))
          · refine l13f hi_108_61 (decide_eq_false cn25) ?_
            refine l2 (v := 7) hi_108_64 rfl ?_
            refine l20s (v := .ref 12) h10 cs_7 hi_108_65 rfl ?_
            refine l32 (as := [.ref 12]) (la := [some (.ref 12)]) (rest := []) hi_108_68 (am_hd0 (M := 108) (by decide) 68) rfl rfl rfl (fun N' d' _ => lc79 (N := N') (d := d') h10) ?_ (fun _ q => nomatch q.1)
            rintro v51 S49 ⟨ev51, h50⟩
            cases ev51
            show am_L _ _ _ _ _ [some (.ref 7), some (.int y1), some (.int y2), some (.int t.2), some (.int (tg t.1 (.s 8) t.2 1)), some (.int (tg t.1 (.s 8) t.2 2))] [.ref (A t.1.now)] _ _
            refine l2 (v := 7) hi_108_71 rfl ?_
            refine l20s (v := .ref 8) h50 cs_7 hi_108_72 rfl ?_
            refine l1 (v := t.2) hi_108_75 rfl ?_
            refine l0 hi_108_76 ?_
            refine l32 (as := [.ref 8, .int t.2, .int 3]) (la := [some (.ref 8), some (.int t.2), some (.int 3)]) (rest := [.ref (A t.1.now)]) hi_108_77 (am_hd0 (M := 108) (by decide) 77) rfl rfl rfl (fun N' d' _ => lc54 (N := N') (d := d') (t := (.s 8)) h50 ct_8) ?_ (fun _ q => nomatch q.1)
            rintro v54 S52 ⟨ev54, h53⟩
            cases ev54
            show am_L _ _ _ _ _ [some (.ref 7), some (.int y1), some (.int y2), some (.int t.2), some (.int (tg t.1 (.s 8) t.2 1)), some (.int (tg t.1 (.s 8) t.2 2))] [.int (tg t.1 (.s 8) t.2 3), .ref (A t.1.now)] _ _
            refine l0 hi_108_80 ?_
            refine l32 (as := [.ref (A t.1.now), .int (tg t.1 (.s 8) t.2 3), .int 1]) (la := [some (.ref (A t.1.now)), some (.int (tg t.1 (.s 8) t.2 3)), some (.int 1)]) (rest := []) hi_108_81 (am_hd0 (M := 108) (by decide) 81) rfl rfl rfl (fun N' d' _ => lc109 (N := N') (d := d') h53 (show t.1.now ≤ K from CM.nl (s := t.1) h10)) ?_ (fun _ q => nomatch q.1)
            rintro v57 S55 ⟨ev57, h56⟩
            cases ev57
            show am_L _ _ _ _ _ [some (.ref 7), some (.int y1), some (.int y2), some (.int t.2), some (.int (tg t.1 (.s 8) t.2 1)), some (.int (tg t.1 (.s 8) t.2 2))] [] _ _
            refine l18 hi_108_84 ?_
            refine l2 (v := 7) hi_108_149 rfl ?_
            refine l20s (v := .ref 8) h56 cs_7 hi_108_150 rfl ?_
            refine l1 (v := t.2) hi_108_153 rfl ?_
            refine l32 (as := [.ref 8, .int t.2]) (la := [some (.ref 8), some (.int t.2)]) (rest := []) hi_108_154 (am_hd0 (M := 108) (by decide) 154) rfl rfl rfl (fun N' d' _ => lc30 (N := N') (d := d') (t := (.s 8)) h56 ct_8) ?_ (fun _ q => nomatch q.1)
            rintro v60 S58 ⟨ev60, h59⟩
            cases ev60
            show am_L _ _ _ _ _ [some (.ref 7), some (.int y1), some (.int y2), some (.int t.2), some (.int (tg t.1 (.s 8) t.2 1)), some (.int (tg t.1 (.s 8) t.2 2))] [] _ _
            refine l5 (v := t.2) (ls' := [some (.ref 7), some (.int y1), some (.int y2), some (.int (t.2 + (-1))), some (.int (tg t.1 (.s 8) t.2 1)), some (.int (tg t.1 (.s 8) t.2 2))]) hi_108_157 rfl rfl ?_
            refine l18 hi_108_160 ?_
            have e0 : (c108b10 y1 y2) t = (0, (tct ((c109 t.1 t.1.now (tg t.1 (.s 8) t.2 3) 1).1) (.s 8) t.2, t.2 + (-1))) := by unfold c108b10; rw [if_neg cn1]; rw [if_neg cn5]; rw [if_neg cn12]; rw [if_neg cn25]
            have e1 : ∀ m, kwh (c108b10 y1 y2) (m + 1) t = kwh (c108b10 y1 y2) m (tct ((c109 t.1 t.1.now (tg t.1 (.s 8) t.2 3) 1).1) (.s 8) t.2, t.2 + (-1)) := fun m => by rw [kwh_go (by rw [e0]), e0]
            exact ih _ (some (.int (tg t.1 (.s 8) t.2 1))) (some (.int (tg t.1 (.s 8) t.2 2))) (tct ((c109 t.1 t.1.now (tg t.1 (.s 8) t.2 3) 1).1) (.s 8) t.2, t.2 + (-1)) h59 (fun m S1 p4 p5 hm h1 => by have q := kx163 (m + 1) S1 p4 p5 (by rw [e1]; exact hm) (by rw [e1]; exact h1); (try rw [e1] at q); exact q.less (Nat.le_succ N))
noncomputable def c108 (s : cS) (x1 : Int32) (x2 : Int32) : cS × Int32 := ((kfin (c108b10 x1 x2) (s, (s.r (.s 8)) - 1)).2.1, 0)
theorem lc108 {sc : Nat × (Nat → Int32)} {N d : Nat} {A : Nat → Nat} {K : Nat} {S : am_S} {s : cS} {x1 : Int32} {x2 : Int32} (hS : CM A K S s) : am_L (am_PP sc) N d 108 0 [some (.ref 7), some (.int x1), some (.int x2), none, none, none] [] S (fun o S1 => o = some none ∧ CM A K S1 (c108 s x1 x2).1) := by
  refine l2 (v := 7) hi_108_0 rfl ?_
  refine l20s (v := .ref 8) hS cs_7 hi_108_1 rfl ?_
  refine l32 (as := [.ref 8]) (la := [some (.ref 8)]) (rest := []) hi_108_4 (am_hd0 (M := 108) (by decide) 4) rfl rfl rfl (fun N' d' _ => lc36 (N := N') (d := d') (t := (.s 8)) hS ct_8) ?_ (fun _ q => nomatch q.1)
  rintro v3 S1 ⟨ev3, h2⟩
  cases ev3
  show am_L _ _ _ _ _ [some (.ref 7), some (.int x1), some (.int x2), none, none, none] [.int (s.r (.s 8))] _ _
  refine l0 hi_108_7 ?_
  refine l10 hi_108_8 ?_
  show am_L _ _ _ _ _ [some (.ref 7), some (.int x1), some (.int x2), none, none, none] [.int ((s.r (.s 8)) - 1)] _ _
  refine l3 (ls' := [some (.ref 7), some (.int x1), some (.int x2), some (.int ((s.r (.s 8)) - 1)), none, none]) hi_108_9 (Nat.le_of_ble_eq_true rfl) rfl ?_
  refine lb108_10  N _ none none (s, (s.r (.s 8)) - 1) h2 ?_
  · intro m4 S5 p9 p10 hm6 h7
    have hf8 : kfin (c108b10 x1 x2) (s, (s.r (.s 8)) - 1) = kwh (c108b10 x1 x2) m4 (s, (s.r (.s 8)) - 1) := kfin_eq (by rw [hm6]; decide)
    rw [← hf8] at hm6 h7
    try rw [← hf8]
    refine l35 hi_108_163 ⟨rfl, ?_⟩
    exact h7
noncomputable def c105_96 (s : cS) (z0 : Int32) : cS × Option Int32 := cbd (c55 s) (fun _ w4 => ((c55 s).1, some 1))
theorem lc105_96 {sc : Nat × (Nat → Int32)} {N d : Nat} {A : Nat → Nat} {K : Nat} {S : am_S} {s : cS} {z0 : Int32} {o1 : Option Value} {o2 : Option Value} {o3 : Option Value} {o4 : Option Value} (hS : CM A K S s) : am_L (am_PP sc) N d 105 96 [some (.ref 7), o1, o2, o3, o4] [.int z0] S (fun o S1 => o = cov (c105_96 s z0).2 ∧ CM A K S1 (c105_96 s z0).1) := by
  refine l6i hi_105_96 ?_
  refine l2 (v := 7) hi_105_97 rfl ?_
  refine l20s (v := .ref 2) hS cs_7 hi_105_98 rfl ?_
  refine l32 (as := [.ref 2]) (la := [some (.ref 2), none]) (rest := []) hi_105_101 (am_hd0 (M := 105) (by decide) 101) rfl rfl rfl (fun N' d' hN_ => lc55 (N := N') (d := d') hS ) ?_ ?_
  · rintro v3 S1 ⟨ev, h2⟩
    obtain ⟨w4, e5, rfl⟩ := cov_some ev
    show am_L _ _ _ _ _ [some (.ref 7), o1, o2, o3, o4] [.int w4] _ _
    refine l6i hi_105_104 ?_
    refine l0 hi_105_105 ?_
    have e_ : c105_96 s z0 = ((c55 s).1, some 1) := by unfold c105_96; rw [cbd_some e5]
    refine l36 hi_105_106 fun _ => ⟨?_, ?_⟩
    · rw [e_]; rfl
    · rw [e_]; exact h2
  · rintro S1 ⟨q1, q2⟩
    have hn := cov_none q1
    have e_ : c105_96 s z0 = (c55 s) := by unfold c105_96; rw [cbd_none hn]
    rw [e_]
    exact ⟨by rw [hn]; rfl, q2⟩
noncomputable def c105_78 (s : cS) (y2 : Int32) (y3 : Int32) (y4 : Int32) : cS × Option Int32 := c105_96 ((tad s (.s 8) y3 y2 (c63 s) y4).1) ((tad s (.s 8) y3 y2 (c63 s) y4).2)
theorem lc105_78 {sc : Nat × (Nat → Int32)} {N d : Nat} {A : Nat → Nat} {K : Nat} {S : am_S} {s : cS} {y2 : Int32} {y3 : Int32} {y4 : Int32} {o1 : Option Value} (hS : CM A K S s) : am_L (am_PP sc) N d 105 78 [some (.ref 7), o1, some (.int y2), some (.int y3), some (.int y4)] [] S (fun o S1 => o = cov (c105_78 s y2 y3 y4).2 ∧ CM A K S1 (c105_78 s y2 y3 y4).1) := by
  refine l2 (v := 7) hi_105_78 rfl ?_
  refine l20s (v := .ref 8) hS cs_7 hi_105_79 rfl ?_
  refine l1 (v := y3) hi_105_82 rfl ?_
  refine l1 (v := y2) hi_105_83 rfl ?_
  refine l2 (v := 7) hi_105_84 rfl ?_
  refine l20s (v := .ref 2) hS cs_7 hi_105_85 rfl ?_
  refine l32 (as := [.ref 2]) (la := [some (.ref 2)]) (rest := [.int y2, .int y3, .ref 8]) hi_105_88 (am_hd0 (M := 105) (by decide) 88) rfl rfl rfl (fun N' d' _ => lc63 (N := N') (d := d') hS ) ?_ (fun _ q => nomatch q.1)
  rintro v3 S1 ⟨ev3, h2⟩
  cases ev3
  show am_L _ _ _ _ _ [some (.ref 7), o1, some (.int y2), some (.int y3), some (.int y4)] [.int (c63 s), .int y2, .int y3, .ref 8] _ _
  refine l1 (v := y4) hi_105_91 rfl ?_
  refine l32 (as := [.ref 8, .int y3, .int y2, .int (c63 s), .int y4]) (la := [some (.ref 8), some (.int y3), some (.int y2), some (.int (c63 s)), some (.int y4), none]) (rest := []) hi_105_93 (am_hd0 (M := 105) (by decide) 93) rfl rfl rfl (fun N' d' _ => lc31 (N := N') (d := d') (t := (.s 8)) h2 ct_8) ?_ (fun _ q => nomatch q.1)
  rintro v6 S4 ⟨ev6, h5⟩
  cases ev6
  show am_L _ _ _ _ _ [some (.ref 7), o1, some (.int y2), some (.int y3), some (.int y4)] [.int ((tad s (.s 8) y3 y2 (c63 s) y4).2)] _ _
  refine am_L.mono (lc105_96 h5 ) ?_
  rintro o S1 ⟨e, h⟩
  have q : c105_78 s y2 y3 y4 = c105_96 ((tad s (.s 8) y3 y2 (c63 s) y4).1) ((tad s (.s 8) y3 y2 (c63 s) y4).2) := rfl
  rw [q]; exact ⟨e, h⟩
noncomputable def c105_76 (s : cS) (y2 : Int32) (y3 : Int32) (z0 : Int32) : cS × Option Int32 := c105_78 s y2 y3 z0
theorem lc105_76 {sc : Nat × (Nat → Int32)} {N d : Nat} {A : Nat → Nat} {K : Nat} {S : am_S} {s : cS} {y2 : Int32} {y3 : Int32} {z0 : Int32} {o1 : Option Value} {o4 : Option Value} (hS : CM A K S s) : am_L (am_PP sc) N d 105 76 [some (.ref 7), o1, some (.int y2), some (.int y3), o4] [.int z0] S (fun o S1 => o = cov (c105_76 s y2 y3 z0).2 ∧ CM A K S1 (c105_76 s y2 y3 z0).1) := by
  refine l3 (ls' := [some (.ref 7), o1, some (.int y2), some (.int y3), some (.int z0)]) hi_105_76 (Nat.le_of_ble_eq_true rfl) rfl ?_
  refine am_L.mono (lc105_78 hS ) ?_
  rintro o S1 ⟨e, h⟩
  have q : c105_76 s y2 y3 z0 = c105_78 s y2 y3 z0 := rfl
  rw [q]; exact ⟨e, h⟩
noncomputable def c105_56 (s : cS) (y2 : Int32) (y3 : Int32) (z0 : Int32) : cS × Option Int32 := c105_78 s y2 y3 z0
theorem lc105_56 {sc : Nat × (Nat → Int32)} {N d : Nat} {A : Nat → Nat} {K : Nat} {S : am_S} {s : cS} {y2 : Int32} {y3 : Int32} {z0 : Int32} {o1 : Option Value} {o4 : Option Value} (hS : CM A K S s) : am_L (am_PP sc) N d 105 56 [some (.ref 7), o1, some (.int y2), some (.int y3), o4] [.int z0] S (fun o S1 => o = cov (c105_56 s y2 y3 z0).2 ∧ CM A K S1 (c105_56 s y2 y3 z0).1) := by
  refine l3 (ls' := [some (.ref 7), o1, some (.int y2), some (.int y3), some (.int z0)]) hi_105_56 (Nat.le_of_ble_eq_true rfl) rfl ?_
  refine l18 hi_105_58 ?_
  refine am_L.mono (lc105_78 hS ) ?_
  rintro o S1 ⟨e, h⟩
  have q : c105_56 s y2 y3 z0 = c105_78 s y2 y3 z0 := rfl
  rw [q]; exact ⟨e, h⟩
noncomputable def c105_38 (s : cS) (y2 : Int32) (y3 : Int32) : cS × Option Int32 := if y2 ≠ 10 then if y2 ≠ 25 then c105_78 s y2 y3 (-1) else c105_76 ((c78 s 16 0 0 0).1) y2 y3 ((c78 s 16 0 0 0).2) else c105_56 ((c78 s 15 0 0 0).1) y2 y3 ((c78 s 15 0 0 0).2)
theorem lc105_38 {sc : Nat × (Nat → Int32)} {N d : Nat} {A : Nat → Nat} {K : Nat} {S : am_S} {s : cS} {y2 : Int32} {y3 : Int32} {o1 : Option Value} {o4 : Option Value} (hS : CM A K S s) : am_L (am_PP sc) N d 105 38 [some (.ref 7), o1, some (.int y2), some (.int y3), o4] [] S (fun o S1 => o = cov (c105_38 s y2 y3).2 ∧ CM A K S1 (c105_38 s y2 y3).1) := by
  refine l0 hi_105_38 ?_
  refine l3 (ls' := [some (.ref 7), o1, some (.int y2), some (.int y3), some (.int (-1))]) hi_105_39 (Nat.le_of_ble_eq_true rfl) rfl ?_
  refine l1 (v := y2) hi_105_41 rfl ?_
  refine l0 hi_105_42 ?_
  by_cases cn1 : y2 ≠ 10
  · refine l13t hi_105_44 (decide_eq_true cn1) ?_
    refine l1 (v := y2) hi_105_61 rfl ?_
    refine l0 hi_105_62 ?_
    by_cases cn2 : y2 ≠ 25
    · refine l13t hi_105_64 (decide_eq_true cn2) ?_
      refine am_L.mono (lc105_78 hS ) ?_
      rintro o S1 ⟨e, h⟩
      have q : c105_38 s y2 y3 = c105_78 s y2 y3 (-1) := by unfold c105_38; rw [if_pos cn1]; rw [if_pos cn2]
      rw [q]; exact ⟨e, h⟩
    · refine l13f hi_105_64 (decide_eq_false cn2) ?_
      refine l2 (v := 7) hi_105_67 rfl ?_
      refine l0 hi_105_68 ?_
      refine l0 hi_105_70 ?_
      refine l0 hi_105_71 ?_
      refine l0 hi_105_72 ?_
      refine l32 (as := [.ref 7, .int 16, .int 0, .int 0, .int 0]) (la := [some (.ref 7), some (.int 16), some (.int 0), some (.int 0), some (.int 0)]) (rest := []) hi_105_73 (am_hd0 (M := 105) (by decide) 73) rfl rfl rfl (fun N' d' _ => lc78 (N := N') (d := d') hS ) ?_ (fun _ q => nomatch q.1)
      rintro v5 S3 ⟨ev5, h4⟩
      cases ev5
      show am_L _ _ _ _ _ [some (.ref 7), o1, some (.int y2), some (.int y3), some (.int (-1))] [.int ((c78 s 16 0 0 0).2)] _ _
      refine am_L.mono (lc105_76 h4 ) ?_
      rintro o S1 ⟨e, h⟩
      have q : c105_38 s y2 y3 = c105_76 ((c78 s 16 0 0 0).1) y2 y3 ((c78 s 16 0 0 0).2) := by unfold c105_38; rw [if_pos cn1]; rw [if_neg cn2]
      rw [q]; exact ⟨e, h⟩
  · refine l13f hi_105_44 (decide_eq_false cn1) ?_
    refine l2 (v := 7) hi_105_47 rfl ?_
    refine l0 hi_105_48 ?_
    refine l0 hi_105_50 ?_
    refine l0 hi_105_51 ?_
    refine l0 hi_105_52 ?_
    refine l32 (as := [.ref 7, .int 15, .int 0, .int 0, .int 0]) (la := [some (.ref 7), some (.int 15), some (.int 0), some (.int 0), some (.int 0)]) (rest := []) hi_105_53 (am_hd0 (M := 105) (by decide) 53) rfl rfl rfl (fun N' d' _ => lc78 (N := N') (d := d') hS ) ?_ (fun _ q => nomatch q.1)
    rintro v8 S6 ⟨ev8, h7⟩
    cases ev8
    show am_L _ _ _ _ _ [some (.ref 7), o1, some (.int y2), some (.int y3), some (.int (-1))] [.int ((c78 s 15 0 0 0).2)] _ _
    refine am_L.mono (lc105_56 h7 ) ?_
    rintro o S1 ⟨e, h⟩
    have q : c105_38 s y2 y3 = c105_56 ((c78 s 15 0 0 0).1) y2 y3 ((c78 s 15 0 0 0).2) := by unfold c105_38; rw [if_neg cn1]
    rw [q]; exact ⟨e, h⟩
noncomputable def c105_35 (s : cS) (y2 : Int32) (y3 : Int32) (z0 : Int32) (z1 : Int32) : cS × Option Int32 := c105_38 ((c108 s z1 z0).1) y2 y3
theorem lc105_35 {sc : Nat × (Nat → Int32)} {N d : Nat} {A : Nat → Nat} {K : Nat} {S : am_S} {s : cS} {y2 : Int32} {y3 : Int32} {z0 : Int32} {z1 : Int32} {o1 : Option Value} {o4 : Option Value} (hS : CM A K S s) : am_L (am_PP sc) N d 105 35 [some (.ref 7), o1, some (.int y2), some (.int y3), o4] [.int z0, .int z1, .ref 7] S (fun o S1 => o = cov (c105_35 s y2 y3 z0 z1).2 ∧ CM A K S1 (c105_35 s y2 y3 z0 z1).1) := by
  refine l32 (as := [.ref 7, .int z1, .int z0]) (la := [some (.ref 7), some (.int z1), some (.int z0), none, none, none]) (rest := []) hi_105_35 (am_hd0 (M := 105) (by decide) 35) rfl rfl rfl (fun N' d' _ => lc108 (N := N') (d := d') hS ) ?_ (fun _ q => nomatch q.1)
  rintro v3 S1 ⟨ev3, h2⟩
  cases ev3
  show am_L _ _ _ _ _ [some (.ref 7), o1, some (.int y2), some (.int y3), o4] [] _ _
  refine am_L.mono (lc105_38 h2 ) ?_
  rintro o S1 ⟨e, h⟩
  have q : c105_35 s y2 y3 z0 z1 = c105_38 ((c108 s z1 z0).1) y2 y3 := rfl
  rw [q]; exact ⟨e, h⟩
noncomputable def c105 (s : cS) (x1 : Int32) : cS × Option Int32 := if (c106 s (c53 s)) ≠ 0 then if (c107 s (c53 s)) = 0 then c105_35 s (c53 s) (c106 s (c53 s)) (c106 s (c53 s)) x1 else c105_35 s (c53 s) (c106 s (c53 s)) ((c106 s (c53 s)) + 1) x1 else (s, some 0)
theorem lc105 {sc : Nat × (Nat → Int32)} {N d : Nat} {A : Nat → Nat} {K : Nat} {S : am_S} {s : cS} {x1 : Int32} (hS : CM A K S s) : am_L (am_PP sc) N d 105 0 [some (.ref 7), some (.int x1), none, none, none] [] S (fun o S1 => o = cov (c105 s x1).2 ∧ CM A K S1 (c105 s x1).1) := by
  refine l2 (v := 7) hi_105_0 rfl ?_
  refine l20s (v := .ref 2) hS cs_7 hi_105_1 rfl ?_
  refine l32 (as := [.ref 2]) (la := [some (.ref 2)]) (rest := []) hi_105_4 (am_hd0 (M := 105) (by decide) 4) rfl rfl rfl (fun N' d' _ => lc53 (N := N') (d := d') hS ) ?_ (fun _ q => nomatch q.1)
  rintro v3 S1 ⟨ev3, h2⟩
  cases ev3
  show am_L _ _ _ _ _ [some (.ref 7), some (.int x1), none, none, none] [.int (c53 s)] _ _
  refine l3 (ls' := [some (.ref 7), some (.int x1), some (.int (c53 s)), none, none]) hi_105_7 (Nat.le_of_ble_eq_true rfl) rfl ?_
  refine l1 (v := c53 s) hi_105_8 rfl ?_
  refine l32 (as := [.int (c53 s)]) (la := [some (.int (c53 s))]) (rest := []) hi_105_9 (am_hd0 (M := 105) (by decide) 9) rfl rfl rfl (fun N' d' _ => lc106 (N := N') (d := d') h2 ) ?_ (fun _ q => nomatch q.1)
  rintro v6 S4 ⟨ev6, h5⟩
  cases ev6
  show am_L _ _ _ _ _ [some (.ref 7), some (.int x1), some (.int (c53 s)), none, none] [.int (c106 s (c53 s))] _ _
  refine l3 (ls' := [some (.ref 7), some (.int x1), some (.int (c53 s)), some (.int (c106 s (c53 s))), none]) hi_105_12 (Nat.le_of_ble_eq_true rfl) rfl ?_
  refine l1 (v := c106 s (c53 s)) hi_105_13 rfl ?_
  by_cases cn7 : (c106 s (c53 s)) ≠ 0
  · refine l12t hi_105_14 (decide_eq_true cn7) ?_
    refine l2 (v := 7) hi_105_19 rfl ?_
    refine l1 (v := x1) hi_105_20 rfl ?_
    refine l1 (v := c53 s) hi_105_21 rfl ?_
    refine l32 (as := [.int (c53 s)]) (la := [some (.int (c53 s))]) (rest := [.int x1, .ref 7]) hi_105_22 (am_hd0 (M := 105) (by decide) 22) rfl rfl rfl (fun N' d' _ => lc107 (N := N') (d := d') h5 ) ?_ (fun _ q => nomatch q.1)
    rintro v10 S8 ⟨ev10, h9⟩
    cases ev10
    show am_L _ _ _ _ _ [some (.ref 7), some (.int x1), some (.int (c53 s)), some (.int (c106 s (c53 s))), none] [.int (c107 s (c53 s)), .int x1, .ref 7] _ _
    by_cases cn11 : (c107 s (c53 s)) = 0
    · refine l12t hi_105_25 (decide_eq_true cn11) ?_
      refine l1 (v := c106 s (c53 s)) hi_105_34 rfl ?_
      refine am_L.mono (lc105_35 h9 ) ?_
      rintro o S1 ⟨e, h⟩
      have q : c105 s x1 = c105_35 s (c53 s) (c106 s (c53 s)) (c106 s (c53 s)) x1 := by unfold c105; rw [if_pos cn7]; rw [if_pos cn11]
      rw [q]; exact ⟨e, h⟩
    · refine l12f hi_105_25 (decide_eq_false cn11) ?_
      refine l1 (v := c106 s (c53 s)) hi_105_28 rfl ?_
      refine l0 hi_105_29 ?_
      refine l10 hi_105_30 ?_
      show am_L _ _ _ _ _ [some (.ref 7), some (.int x1), some (.int (c53 s)), some (.int (c106 s (c53 s))), none] [.int ((c106 s (c53 s)) + 1), .int x1, .ref 7] _ _
      refine l18 hi_105_31 ?_
      refine am_L.mono (lc105_35 h9 ) ?_
      rintro o S1 ⟨e, h⟩
      have q : c105 s x1 = c105_35 s (c53 s) (c106 s (c53 s)) ((c106 s (c53 s)) + 1) x1 := by unfold c105; rw [if_pos cn7]; rw [if_neg cn11]
      rw [q]; exact ⟨e, h⟩
  · refine l12f hi_105_14 (decide_eq_false cn7) ?_
    refine l0 hi_105_17 ?_
    have e_ : c105 s x1 = (s, some 0) := by unfold c105; rw [if_neg cn7]
    refine l36 hi_105_18 fun _ => ⟨?_, ?_⟩
    · rw [e_]; rfl
    · rw [e_]; exact h5
def c110_25 (s : cS) (y1 : Int32) (z0 : Int32) : cS × Option Int32 := (nf (nf s 7 7 z0) 7 6 y1, some 2)
theorem lc110_25 {sc : Nat × (Nat → Int32)} {N d : Nat} {A : Nat → Nat} {K : Nat} {S : am_S} {s : cS} {y1 : Int32} {z0 : Int32} (hS : CM A K S s) : am_L (am_PP sc) N d 110 25 [some (.ref 7), some (.int y1)] [.int z0, .ref 7] S (fun o S1 => o = cov (c110_25 s y1 z0).2 ∧ CM A K S1 (c110_25 s y1 z0).1) := by
  refine l21s hS cs_7 hi_110_25 (fun _ _ => rfl) fun S1 h2 => ?_
  refine l2 (v := 7) hi_110_28 rfl ?_
  refine l1 (v := y1) hi_110_29 rfl ?_
  refine l21s h2 cs_7 hi_110_30 (fun _ _ => rfl) fun S3 h4 => ?_
  refine l0 hi_110_33 ?_
  have e_ : c110_25 s y1 z0 = (nf (nf s 7 7 z0) 7 6 y1, some 2) := rfl
  refine l33 hi_110_34 ⟨?_, ?_⟩
  · rw [e_]; rfl
  · rw [e_]; exact h4
def c110_15 (s : cS) (y1 : Int32) (z0 : Int32) : cS × Option Int32 := cbd (c64 s 1) (fun _ w4 => c110_25 ((c64 s 1).1) y1 w4)
theorem lc110_15 {sc : Nat × (Nat → Int32)} {N d : Nat} {A : Nat → Nat} {K : Nat} {S : am_S} {s : cS} {y1 : Int32} {z0 : Int32} (hS : CM A K S s) : am_L (am_PP sc) N d 110 15 [some (.ref 7), some (.int y1)] [.int z0] S (fun o S1 => o = cov (c110_15 s y1 z0).2 ∧ CM A K S1 (c110_15 s y1 z0).1) := by
  refine l6i hi_110_15 ?_
  refine l2 (v := 7) hi_110_16 rfl ?_
  refine l2 (v := 7) hi_110_17 rfl ?_
  refine l20s (v := .ref 2) hS cs_7 hi_110_18 rfl ?_
  refine l0 hi_110_21 ?_
  refine l32 (as := [.ref 2, .int 1]) (la := [some (.ref 2), some (.int 1)]) (rest := [.ref 7]) hi_110_22 (am_hd0 (M := 110) (by decide) 22) rfl rfl rfl (fun N' d' hN_ => lc64 (N := N') (d := d') hS ) ?_ ?_
  · rintro v3 S1 ⟨ev, h2⟩
    obtain ⟨w4, e5, rfl⟩ := cov_some ev
    show am_L _ _ _ _ _ [some (.ref 7), some (.int y1)] [.int w4, .ref 7] _ _
    refine am_L.mono (lc110_25 h2 ) ?_
    rintro o S1 ⟨e, h⟩
    have q : c110_15 s y1 z0 = c110_25 ((c64 s 1).1) y1 w4 := by unfold c110_15; rw [cbd_some e5]
    rw [q]; exact ⟨e, h⟩
  · rintro S1 ⟨q1, q2⟩
    have hn := cov_none q1
    have e_ : c110_15 s y1 z0 = (c64 s 1) := by unfold c110_15; rw [cbd_none hn]
    rw [e_]
    exact ⟨by rw [hn]; rfl, q2⟩
def c110 (s : cS) : cS × Option Int32 := cbd (c55 s) (fun _ w7 => c110_15 ((c55 s).1) (c63 s) w7)
theorem lc110 {sc : Nat × (Nat → Int32)} {N d : Nat} {A : Nat → Nat} {K : Nat} {S : am_S} {s : cS} (hS : CM A K S s) : am_L (am_PP sc) N d 110 0 [some (.ref 7), none] [] S (fun o S1 => o = cov (c110 s).2 ∧ CM A K S1 (c110 s).1) := by
  refine l2 (v := 7) hi_110_0 rfl ?_
  refine l20s (v := .ref 2) hS cs_7 hi_110_1 rfl ?_
  refine l32 (as := [.ref 2]) (la := [some (.ref 2)]) (rest := []) hi_110_4 (am_hd0 (M := 110) (by decide) 4) rfl rfl rfl (fun N' d' _ => lc63 (N := N') (d := d') hS ) ?_ (fun _ q => nomatch q.1)
  rintro v3 S1 ⟨ev3, h2⟩
  cases ev3
  show am_L _ _ _ _ _ [some (.ref 7), none] [.int (c63 s)] _ _
  refine l3 (ls' := [some (.ref 7), some (.int (c63 s))]) hi_110_7 (Nat.le_of_ble_eq_true rfl) rfl ?_
  refine l2 (v := 7) hi_110_8 rfl ?_
  refine l20s (v := .ref 2) h2 cs_7 hi_110_9 rfl ?_
  refine l32 (as := [.ref 2]) (la := [some (.ref 2), none]) (rest := []) hi_110_12 (am_hd0 (M := 110) (by decide) 12) rfl rfl rfl (fun N' d' hN_ => lc55 (N := N') (d := d') h2 ) ?_ ?_
  · rintro v6 S4 ⟨ev, h5⟩
    obtain ⟨w7, e8, rfl⟩ := cov_some ev
    show am_L _ _ _ _ _ [some (.ref 7), some (.int (c63 s))] [.int w7] _ _
    refine am_L.mono (lc110_15 h5 ) ?_
    rintro o S1 ⟨e, h⟩
    have q : c110 s = c110_15 ((c55 s).1) (c63 s) w7 := by unfold c110; rw [cbd_some e8]
    rw [q]; exact ⟨e, h⟩
  · rintro S4 ⟨q1, q2⟩
    have hn := cov_none q1
    have e_ : c110 s = (c55 s) := by unfold c110; rw [cbd_none hn]
    rw [e_]
    exact ⟨by rw [hn]; rfl, q2⟩
def c115 (s : cS) : Int32 := s.f 12 9
theorem lc115 {sc : Nat × (Nat → Int32)} {N d : Nat} {A : Nat → Nat} {K : Nat} {S : am_S} {s : cS} (hS : CM A K S s) : am_L (am_PP sc) N d 115 0 [some (.ref 12)] [] S (fun o S1 => o = some (some (.int (c115 s))) ∧ CM A K S1 s) := by
  refine l2 (v := 12) hi_115_0 rfl ?_
  refine l20s (v := .int (s.f 12 9)) hS cs_12 hi_115_1 rfl ?_
  refine l36 hi_115_4 fun _ => ⟨?_, ?_⟩
  · rfl
  · exact hS
def c114 (s : cS) (x1 : Int32) : cS × Int32 := if (c115 s) = 0 then (s, 0) else ((c76 s 10 x1).1, 0)
theorem lc114 {sc : Nat × (Nat → Int32)} {N d : Nat} {A : Nat → Nat} {K : Nat} {S : am_S} {s : cS} {x1 : Int32} (hS : CM A K S s) : am_L (am_PP sc) N d 114 0 [some (.ref 7), some (.int x1)] [] S (fun o S1 => o = some none ∧ CM A K S1 (c114 s x1).1) := by
  refine l2 (v := 7) hi_114_0 rfl ?_
  refine l20s (v := .ref 12) hS cs_7 hi_114_1 rfl ?_
  refine l32 (as := [.ref 12]) (la := [some (.ref 12)]) (rest := []) hi_114_4 (am_hd0 (M := 114) (by decide) 4) rfl rfl rfl (fun N' d' _ => lc115 (N := N') (d := d') hS ) ?_ (fun _ q => nomatch q.1)
  rintro v3 S1 ⟨ev3, h2⟩
  cases ev3
  show am_L _ _ _ _ _ [some (.ref 7), some (.int x1)] [.int (c115 s)] _ _
  by_cases cn4 : (c115 s) = 0
  · refine l12t hi_114_7 (decide_eq_true cn4) ?_
    refine l35 hi_114_20 ⟨rfl, ?_⟩
    unfold c114; rw [if_pos cn4]; exact h2
  · refine l12f hi_114_7 (decide_eq_false cn4) ?_
    refine l2 (v := 7) hi_114_10 rfl ?_
    refine l20s (v := .ref 1) h2 cs_7 hi_114_11 rfl ?_
    refine l0 hi_114_14 ?_
    refine l1 (v := x1) hi_114_16 rfl ?_
    refine l32 (as := [.ref 1, .int 10, .int x1]) (la := [some (.ref 1), some (.int 10), some (.int x1)]) (rest := []) hi_114_17 (am_hd0 (M := 114) (by decide) 17) rfl rfl rfl (fun N' d' _ => lc76 (N := N') (d := d') h2 ) ?_ (fun _ q => nomatch q.1)
    rintro v7 S5 ⟨ev7, h6⟩
    cases ev7
    show am_L _ _ _ _ _ [some (.ref 7), some (.int x1)] [] _ _
    refine l35 hi_114_20 ⟨rfl, ?_⟩
    unfold c114; rw [if_neg cn4]; exact h6
def c116 (s : cS) (x0 : Int32) : Int32 := (x0 - 8) + 29
theorem lc116 {sc : Nat × (Nat → Int32)} {N d : Nat} {A : Nat → Nat} {K : Nat} {S : am_S} {s : cS} {x0 : Int32} (hS : CM A K S s) : am_L (am_PP sc) N d 116 0 [some (.int x0)] [] S (fun o S1 => o = some (some (.int (c116 s x0))) ∧ CM A K S1 s) := by
  refine l1 (v := x0) hi_116_0 rfl ?_
  refine l0 hi_116_1 ?_
  refine l10 hi_116_3 ?_
  show am_L _ _ _ _ _ [some (.int x0)] [.int (x0 - 8)] _ _
  refine l0 hi_116_4 ?_
  refine l10 hi_116_6 ?_
  show am_L _ _ _ _ _ [some (.int x0)] [.int ((x0 - 8) + 29)] _ _
  refine l33 hi_116_7 ⟨?_, ?_⟩
  · rfl
  · exact hS
def c113_36 (s : cS) : cS × Option Int32 := ((tad s (.s 10) (c116 s (c101 s)) (c102 s) (s.f 7 6) 0).1, some 0)
theorem lc113_36 {sc : Nat × (Nat → Int32)} {N d : Nat} {A : Nat → Nat} {K : Nat} {S : am_S} {s : cS} {o1 : Option Value} (hS : CM A K S s) : am_L (am_PP sc) N d 113 36 [some (.ref 7), o1] [] S (fun o S1 => o = cow (c113_36 s).2 ∧ CM A K S1 (c113_36 s).1) := by
  refine l2 (v := 7) hi_113_36 rfl ?_
  refine l20s (v := .ref 10) hS cs_7 hi_113_37 rfl ?_
  refine l2 (v := 7) hi_113_40 rfl ?_
  refine l20s (v := .ref 12) hS cs_7 hi_113_41 rfl ?_
  refine l32 (as := [.ref 12]) (la := [some (.ref 12)]) (rest := [.ref 10]) hi_113_44 (am_hd0 (M := 113) (by decide) 44) rfl rfl rfl (fun N' d' _ => lc101 (N := N') (d := d') hS ) ?_ (fun _ q => nomatch q.1)
  rintro v3 S1 ⟨ev3, h2⟩
  cases ev3
  show am_L _ _ _ _ _ [some (.ref 7), o1] [.int (c101 s), .ref 10] _ _
  refine l32 (as := [.int (c101 s)]) (la := [some (.int (c101 s))]) (rest := [.ref 10]) hi_113_47 (am_hd0 (M := 113) (by decide) 47) rfl rfl rfl (fun N' d' _ => lc116 (N := N') (d := d') h2 ) ?_ (fun _ q => nomatch q.1)
  rintro v6 S4 ⟨ev6, h5⟩
  cases ev6
  show am_L _ _ _ _ _ [some (.ref 7), o1] [.int (c116 s (c101 s)), .ref 10] _ _
  refine l2 (v := 7) hi_113_50 rfl ?_
  refine l20s (v := .ref 12) h5 cs_7 hi_113_51 rfl ?_
  refine l32 (as := [.ref 12]) (la := [some (.ref 12)]) (rest := [.int (c116 s (c101 s)), .ref 10]) hi_113_54 (am_hd0 (M := 113) (by decide) 54) rfl rfl rfl (fun N' d' _ => lc102 (N := N') (d := d') h5 ) ?_ (fun _ q => nomatch q.1)
  rintro v9 S7 ⟨ev9, h8⟩
  cases ev9
  show am_L _ _ _ _ _ [some (.ref 7), o1] [.int (c102 s), .int (c116 s (c101 s)), .ref 10] _ _
  refine l2 (v := 7) hi_113_57 rfl ?_
  refine l20s (v := .int (s.f 7 6)) h8 cs_7 hi_113_58 rfl ?_
  refine l0 hi_113_61 ?_
  refine l32 (as := [.ref 10, .int (c116 s (c101 s)), .int (c102 s), .int (s.f 7 6), .int 0]) (la := [some (.ref 10), some (.int (c116 s (c101 s))), some (.int (c102 s)), some (.int (s.f 7 6)), some (.int 0), none]) (rest := []) hi_113_62 (am_hd0 (M := 113) (by decide) 62) rfl rfl rfl (fun N' d' _ => lc31 (N := N') (d := d') (t := (.s 10)) h8 ct_10) ?_ (fun _ q => nomatch q.1)
  rintro v12 S10 ⟨ev12, h11⟩
  cases ev12
  show am_L _ _ _ _ _ [some (.ref 7), o1] [.int ((tad s (.s 10) (c116 s (c101 s)) (c102 s) (s.f 7 6) 0).2)] _ _
  refine l6i hi_113_65 ?_
  refine l18 hi_113_66 ?_
  have e_ : c113_36 s = ((tad s (.s 10) (c116 s (c101 s)) (c102 s) (s.f 7 6) 0).1, some 0) := rfl
  refine l35 hi_113_135 ⟨?_, ?_⟩
  · rw [e_]; rfl
  · rw [e_]; exact h11
def c113_80 (s : cS) (z0 : Int32) : cS × Option Int32 := ((tad s (.s 10) 32 0 (s.f 7 6) 0).1, some 0)
theorem lc113_80 {sc : Nat × (Nat → Int32)} {N d : Nat} {A : Nat → Nat} {K : Nat} {S : am_S} {s : cS} {z0 : Int32} {o1 : Option Value} (hS : CM A K S s) : am_L (am_PP sc) N d 113 80 [some (.ref 7), o1] [.int z0] S (fun o S1 => o = cow (c113_80 s z0).2 ∧ CM A K S1 (c113_80 s z0).1) := by
  refine l6i hi_113_80 ?_
  refine l2 (v := 7) hi_113_81 rfl ?_
  refine l20s (v := .ref 10) hS cs_7 hi_113_82 rfl ?_
  refine l0 hi_113_85 ?_
  refine l0 hi_113_87 ?_
  refine l2 (v := 7) hi_113_88 rfl ?_
  refine l20s (v := .int (s.f 7 6)) hS cs_7 hi_113_89 rfl ?_
  refine l0 hi_113_92 ?_
  refine l32 (as := [.ref 10, .int 32, .int 0, .int (s.f 7 6), .int 0]) (la := [some (.ref 10), some (.int 32), some (.int 0), some (.int (s.f 7 6)), some (.int 0), none]) (rest := []) hi_113_93 (am_hd0 (M := 113) (by decide) 93) rfl rfl rfl (fun N' d' _ => lc31 (N := N') (d := d') (t := (.s 10)) hS ct_10) ?_ (fun _ q => nomatch q.1)
  rintro v3 S1 ⟨ev3, h2⟩
  cases ev3
  show am_L _ _ _ _ _ [some (.ref 7), o1] [.int ((tad s (.s 10) 32 0 (s.f 7 6) 0).2)] _ _
  refine l6i hi_113_96 ?_
  refine l18 hi_113_97 ?_
  have e_ : c113_80 s z0 = ((tad s (.s 10) 32 0 (s.f 7 6) 0).1, some 0) := rfl
  refine l35 hi_113_135 ⟨?_, ?_⟩
  · rw [e_]; rfl
  · rw [e_]; exact h2
def c113 (s : cS) (x1 : Int32) : cS × Option Int32 := if x1 = 1 then (c113_36 ((c114 s (s.f 7 6)).1)) else if x1 = 2 then (c113_80 ((c78 s 5 (s.f 7 7) 0 0).1) ((c78 s 5 (s.f 7 7) 0 0).2)) else if x1 = 3 then ((tad s (.s 10) 32 0 (s.f 7 6) 0).1, some 0) else cbd (c58 s 7 (c63 s)) (fun _ w19 => ((c58 s 7 (c63 s)).1, some 0))
theorem lc113 {sc : Nat × (Nat → Int32)} {N d : Nat} {A : Nat → Nat} {K : Nat} {S : am_S} {s : cS} {x1 : Int32} (hS : CM A K S s) : am_L (am_PP sc) N d 113 0 [some (.ref 7), some (.int x1)] [] S (fun o S1 => o = cow (c113 s x1).2 ∧ CM A K S1 (c113 s x1).1) := by
  refine l1 (v := x1) hi_113_0 rfl ?_
  by_cases cn1 : x1 = 1
  · refine l19 (t := 28) hi_113_1 (by rw [cn1]; decide) ?_
    refine l2 (v := 7) hi_113_28 rfl ?_
    refine l2 (v := 7) hi_113_29 rfl ?_
    refine l20s (v := .int (s.f 7 6)) hS cs_7 hi_113_30 rfl ?_
    refine l32 (as := [.ref 7, .int (s.f 7 6)]) (la := [some (.ref 7), some (.int (s.f 7 6))]) (rest := []) hi_113_33 (am_hd0 (M := 113) (by decide) 33) rfl rfl rfl (fun N' d' _ => lc114 (N := N') (d := d') hS ) ?_ (fun _ q => nomatch q.1)
    rintro v4 S2 ⟨ev4, h3⟩
    cases ev4
    show am_L _ _ _ _ _ [some (.ref 7), some (.int x1)] [] _ _
    refine am_L.mono (lc113_36 h3 ) ?_
    rintro o S1 ⟨e, h⟩
    have q : c113 s x1 = c113_36 ((c114 s (s.f 7 6)).1) := by unfold c113; rw [if_pos cn1]
    rw [q]; exact ⟨e, h⟩
  by_cases cn5 : x1 = 2
  · refine l19 (t := 69) hi_113_1 (by rw [cn5]; decide) ?_
    refine l2 (v := 7) hi_113_69 rfl ?_
    refine l0 hi_113_70 ?_
    refine l2 (v := 7) hi_113_71 rfl ?_
    refine l20s (v := .int (s.f 7 7)) hS cs_7 hi_113_72 rfl ?_
    refine l0 hi_113_75 ?_
    refine l0 hi_113_76 ?_
    refine l32 (as := [.ref 7, .int 5, .int (s.f 7 7), .int 0, .int 0]) (la := [some (.ref 7), some (.int 5), some (.int (s.f 7 7)), some (.int 0), some (.int 0)]) (rest := []) hi_113_77 (am_hd0 (M := 113) (by decide) 77) rfl rfl rfl (fun N' d' _ => lc78 (N := N') (d := d') hS ) ?_ (fun _ q => nomatch q.1)
    rintro v8 S6 ⟨ev8, h7⟩
    cases ev8
    show am_L _ _ _ _ _ [some (.ref 7), some (.int x1)] [.int ((c78 s 5 (s.f 7 7) 0 0).2)] _ _
    refine am_L.mono (lc113_80 h7 ) ?_
    rintro o S1 ⟨e, h⟩
    have q : c113 s x1 = c113_80 ((c78 s 5 (s.f 7 7) 0 0).1) ((c78 s 5 (s.f 7 7) 0 0).2) := by unfold c113; rw [if_neg cn1]; rw [if_pos cn5]
    rw [q]; exact ⟨e, h⟩
  by_cases cn9 : x1 = 3
  · refine l19 (t := 100) hi_113_1 (by rw [cn9]; decide) ?_
    refine l2 (v := 7) hi_113_100 rfl ?_
    refine l20s (v := .ref 10) hS cs_7 hi_113_101 rfl ?_
    refine l0 hi_113_104 ?_
    refine l0 hi_113_106 ?_
    refine l2 (v := 7) hi_113_107 rfl ?_
    refine l20s (v := .int (s.f 7 6)) hS cs_7 hi_113_108 rfl ?_
    refine l0 hi_113_111 ?_
    refine l32 (as := [.ref 10, .int 32, .int 0, .int (s.f 7 6), .int 0]) (la := [some (.ref 10), some (.int 32), some (.int 0), some (.int (s.f 7 6)), some (.int 0), none]) (rest := []) hi_113_112 (am_hd0 (M := 113) (by decide) 112) rfl rfl rfl (fun N' d' _ => lc31 (N := N') (d := d') (t := (.s 10)) hS ct_10) ?_ (fun _ q => nomatch q.1)
    rintro v12 S10 ⟨ev12, h11⟩
    cases ev12
    show am_L _ _ _ _ _ [some (.ref 7), some (.int x1)] [.int ((tad s (.s 10) 32 0 (s.f 7 6) 0).2)] _ _
    refine l6i hi_113_115 ?_
    refine l18 hi_113_116 ?_
    have e_ : c113 s x1 = ((tad s (.s 10) 32 0 (s.f 7 6) 0).1, some 0) := by unfold c113; rw [if_neg cn1]; rw [if_neg cn5]; rw [if_pos cn9]
    refine l35 hi_113_135 ⟨?_, ?_⟩
    · rw [e_]; rfl
    · rw [e_]; exact h11
  refine l19 (t := 119) hi_113_1 (sw_not (ks := [1, 2, 3]) (by decide) (by intro k hk; simp only [List.mem_cons, List.not_mem_nil, or_false] at hk; rcases hk with rfl | rfl | rfl <;> first | exact cn1 | exact cn5 | exact cn9)) ?_
  refine l2 (v := 7) hi_113_119 rfl ?_
  refine l20s (v := .ref 1) hS cs_7 hi_113_120 rfl ?_
  refine l0 hi_113_123 ?_
  refine l2 (v := 7) hi_113_125 rfl ?_
  refine l20s (v := .ref 2) hS cs_7 hi_113_126 rfl ?_
  refine l32 (as := [.ref 2]) (la := [some (.ref 2)]) (rest := [.int 7, .ref 1]) hi_113_129 (am_hd0 (M := 113) (by decide) 129) rfl rfl rfl (fun N' d' _ => lc63 (N := N') (d := d') hS ) ?_ (fun _ q => nomatch q.1)
  rintro v15 S13 ⟨ev15, h14⟩
  cases ev15
  show am_L _ _ _ _ _ [some (.ref 7), some (.int x1)] [.int (c63 s), .int 7, .ref 1] _ _
  refine l32 (as := [.ref 1, .int 7, .int (c63 s)]) (la := [some (.ref 1), some (.int 7), some (.int (c63 s))]) (rest := []) hi_113_132 (am_hd0 (M := 113) (by decide) 132) rfl rfl rfl (fun N' d' hN_ => lc58 (N := N') (d := d') h14 ) ?_ ?_
  · rintro v18 S16 ⟨ev, h17⟩
    obtain ⟨w19, e20, rfl⟩ := cow_some ev
    show am_L _ _ _ _ _ [some (.ref 7), some (.int x1)] [] _ _
    have e_ : c113 s x1 = ((c58 s 7 (c63 s)).1, some 0) := by unfold c113; rw [if_neg cn1]; rw [if_neg cn5]; rw [if_neg cn9]; rw [cbd_some e20]
    refine l35 hi_113_135 ⟨?_, ?_⟩
    · rw [e_]; rfl
    · rw [e_]; exact h17
  · rintro S16 ⟨q1, q2⟩
    have hn := cow_none q1
    have e_ : c113 s x1 = (c58 s 7 (c63 s)) := by unfold c113; rw [if_neg cn1]; rw [if_neg cn5]; rw [if_neg cn9]; rw [cbd_none hn]
    rw [e_]
    exact ⟨by rw [hn]; rfl, q2⟩
