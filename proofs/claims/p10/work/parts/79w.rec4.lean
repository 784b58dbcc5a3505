/-! THE CLASS: what each method does (printed by wip/p5/cw_run.py) -/
set_option maxRecDepth 4096
noncomputable def c41_82 (rc : cRC) (s : cS) (z0 : Int32) : Option (cS × Option Int32) := some ((c80 s).1, some 0)
theorem lc41_82 {sc : Nat × (Nat → Int32)} {N d : Nat} {A : Nat → Nat} {K : Nat} {S : am_S} {rc : cRC} {s : cS} {z0 : Int32} {o1 : Option Value} (hr : RCH sc rc N) (hS : CM A K S s) : am_L (am_PP sc) N d 41 82 [some (.ref 7), o1] [.int z0] S (fun o S1 => ∃ s1 w, c41_82 rc s z0 = some (s1, w) ∧ o = cow w ∧ CX A K S1 s1) := by
  refine l6i hi_41_82 ?_
  refine l2 (v := 7) hi_41_83 rfl ?_
  refine l20s (v := .ref 12) hS cs_7 hi_41_84 rfl ?_
  refine l32 (as := [.ref 12]) (la := [some (.ref 12)]) (rest := []) hi_41_87 (am_hd0 (M := 41) (by decide) 87) rfl rfl rfl (fun N' d' _ => lc80 (N := N') (d := d') hS ) ?_ (fun _ q => nomatch q.1)
  rintro v3 S1 ⟨ev3, h2⟩
  cases ev3
  show am_L _ _ _ _ _ [some (.ref 7), o1] [] _ _
  exact l35 hi_41_90 ⟨(c80 s).1, some 0, (rfl), rfl, A, K, cX.rfl, h2⟩
noncomputable def c41_56 (rc : cRC) (s : cS) (y1 : Nat) : Option (cS × Option Int32) := c41_82 rc ((c78 (nb s y1 6 (c35 s)) 45 0 0 (c35 (nb s y1 6 (c35 s)))).1) ((c78 (nb s y1 6 (c35 s)) 45 0 0 (c35 (nb s y1 6 (c35 s)))).2)
theorem lc41_56 {sc : Nat × (Nat → Int32)} {N d : Nat} {A : Nat → Nat} {K : Nat} {S : am_S} {rc : cRC} {s : cS} {y1 : Nat} (hr : RCH sc rc N) (hS : CM A K S s) (hy1 : y1 ≤ K) : am_L (am_PP sc) N d 41 56 [some (.ref 7), some (.ref (A y1))] [] S (fun o S1 => ∃ s1 w, c41_56 rc s y1 = some (s1, w) ∧ o = cow w ∧ CX A K S1 s1) := by
  refine l2 (v := (A y1)) hi_41_56 rfl ?_
  refine l2 (v := 7) hi_41_57 rfl ?_
  refine l20s (v := .ref 2) hS cs_7 hi_41_58 rfl ?_
  refine l32 (as := [.ref 2]) (la := [some (.ref 2)]) (rest := [.ref (A y1)]) hi_41_61 (am_hd0 (M := 41) (by decide) 61) rfl rfl rfl (fun N' d' _ => lc35 (N := N') (d := d') hS ) ?_ (fun _ q => nomatch q.1)
  rintro v3 S1 ⟨ev3, h2⟩
  cases ev3
  show am_L _ _ _ _ _ [some (.ref 7), some (.ref (A y1))] [.int (c35 s), .ref (A y1)] _ _
  refine l21b h2 hy1 hi_41_64 (fun _ _ => rfl) fun S4 h5 => ?_
  refine l2 (v := 7) hi_41_67 rfl ?_
  refine l0 hi_41_68 ?_
  refine l0 hi_41_70 ?_
  refine l0 hi_41_71 ?_
  refine l2 (v := 7) hi_41_72 rfl ?_
  refine l20s (v := .ref 2) h5 cs_7 hi_41_73 rfl ?_
  refine l32 (as := [.ref 2]) (la := [some (.ref 2)]) (rest := [.int 0, .int 0, .int 45, .ref 7]) hi_41_76 (am_hd0 (M := 41) (by decide) 76) rfl rfl rfl (fun N' d' _ => lc35 (N := N') (d := d') h5 ) ?_ (fun _ q => nomatch q.1)
  rintro v8 S6 ⟨ev8, h7⟩
  cases ev8
  show am_L _ _ _ _ _ [some (.ref 7), some (.ref (A y1))] [.int (c35 (nb s y1 6 (c35 s))), .int 0, .int 0, .int 45, .ref 7] _ _
  refine l32 (as := [.ref 7, .int 45, .int 0, .int 0, .int (c35 (nb s y1 6 (c35 s)))]) (la := [some (.ref 7), some (.int 45), some (.int 0), some (.int 0), some (.int (c35 (nb s y1 6 (c35 s))))]) (rest := []) hi_41_79 (am_hd0 (M := 41) (by decide) 79) rfl rfl rfl (fun N' d' _ => lc78 (N := N') (d := d') h7 ) ?_ (fun _ q => nomatch q.1)
  rintro v11 S9 ⟨ev11, h10⟩
  cases ev11
  show am_L _ _ _ _ _ [some (.ref 7), some (.ref (A y1))] [.int ((c78 (nb s y1 6 (c35 s)) 45 0 0 (c35 (nb s y1 6 (c35 s)))).2)] _ _
  refine am_L.mono (lc41_82 hr h10 ) ?_
  rintro o S1 ⟨s1, w1, q0, q1, A_, K_, q2, q3⟩
  exact ⟨s1, w1, (rfl).trans q0, q1, A_, K_, cX.trans cX.rfl q2, q3⟩
noncomputable def c41_48 (rc : cRC) (s : cS) (y1 : Nat) : Option (cS × Option Int32) := rbd (some (c65 s 0)) (fun _ w4 => c41_56 rc ((c65 s 0).1) y1)
theorem lc41_48 {sc : Nat × (Nat → Int32)} {N d : Nat} {A : Nat → Nat} {K : Nat} {S : am_S} {rc : cRC} {s : cS} {y1 : Nat} (hr : RCH sc rc N) (hS : CM A K S s) (hy1 : y1 ≤ K) : am_L (am_PP sc) N d 41 48 [some (.ref 7), some (.ref (A y1))] [] S (fun o S1 => ∃ s1 w, c41_48 rc s y1 = some (s1, w) ∧ o = cow w ∧ CX A K S1 s1) := by
  refine l2 (v := 7) hi_41_48 rfl ?_
  refine l20s (v := .ref 2) hS cs_7 hi_41_49 rfl ?_
  refine l0 hi_41_52 ?_
  refine l32 (as := [.ref 2, .int 0]) (la := [some (.ref 2), some (.int 0)]) (rest := []) hi_41_53 (am_hd0 (M := 41) (by decide) 53) rfl rfl rfl (fun N' d' hN_ => lc65 (N := N') (d := d') hS ) ?_ ?_
  · rintro v3 S1 ⟨ev, h2⟩
    obtain ⟨w4, e5, rfl⟩ := cow_some ev
    show am_L _ _ _ _ _ [some (.ref 7), some (.ref (A y1))] [] _ _
    refine am_L.mono (lc41_56 hr h2 hy1) ?_
    rintro o S1 ⟨s1, w1, q0, q1, A_, K_, q2, q3⟩
    exact ⟨s1, w1, (show c41_48 rc s y1 = c41_56 rc ((c65 s 0).1) y1 from by unfold c41_48; rw [rbd_th e5]).trans q0, q1, A_, K_, cX.trans cX.rfl q2, q3⟩
  · rintro S1 ⟨q1, q2⟩
    have hn := cow_none q1
    exact ⟨_, none, (by unfold c41_48; rw [rbd_thn hn]), rfl, A, K, cX.rfl, q2⟩
noncomputable def c41_38 (rc : cRC) (s : cS) (z0 : Nat) : Option (cS × Option Int32) := rbd (rc 52 (nb s z0 5 1) 0 0 0 0 0 0 0) (fun s8 w6 => c41_48 rc s8 z0)
theorem lc41_38 {sc : Nat × (Nat → Int32)} {N d : Nat} {A : Nat → Nat} {K : Nat} {S : am_S} {rc : cRC} {s : cS} {z0 : Nat} {o1 : Option Value} (hr : RCH sc rc N) (hS : CM A K S s) (hz0 : z0 ≤ K) : am_L (am_PP sc) N d 41 38 [some (.ref 7), o1] [.ref (A z0)] S (fun o S1 => ∃ s1 w, c41_38 rc s z0 = some (s1, w) ∧ o = cow w ∧ CX A K S1 s1) := by
  refine l4 (ls' := [some (.ref 7), some (.ref (A z0))]) hi_41_38 (Nat.le_of_ble_eq_true rfl) rfl ?_
  refine l2 (v := (A z0)) hi_41_39 rfl ?_
  refine l0 hi_41_40 ?_
  refine l21b hS hz0 hi_41_41 (fun _ _ => rfl) fun S1 h2 => ?_
  refine l2 (v := 7) hi_41_44 rfl ?_
  refine l32 (as := [.ref 7]) (la := [some (.ref 7), none]) (rest := []) hi_41_45 (am_hd0 (M := 41) (by decide) 45) rfl rfl rfl (fun N' d' hN_ => hr.h52 (N' := N') (d := d') hN_ h2) ?_ ?_
  · rintro v5 S3 ⟨s8, w_, e7, q1, A9, K10, x11, h4⟩
    obtain ⟨w6, rfl, rfl⟩ := cow_some q1
    rw [← x11.2 z0 hz0]
    show am_L _ _ _ _ _ [some (.ref 7), some (.ref (A9 z0))] [] _ _
    refine am_L.mono (lc41_48 hr h4 (Nat.le_trans hz0 x11.1)) ?_
    rintro o S1 ⟨s1, w1, q0, q1, A_, K_, q2, q3⟩
    exact ⟨s1, w1, (show c41_38 rc s z0 = c41_48 rc s8 z0 from by unfold c41_38; rw [rbd_s e7]).trans q0, q1, A_, K_, cX.trans (cX.trans cX.rfl x11) q2, q3⟩
  · rintro S3 ⟨s1, w1, q0, q1, A_, K_, q2, q3⟩
    obtain rfl := cow_none q1
    exact ⟨s1, none, (by unfold c41_38; rw [rbd_n q0]), rfl, A_, K_, cX.trans cX.rfl q2, q3⟩
noncomputable def c41_30 (rc : cRC) (s : cS) : Option (cS × Option Int32) := c41_38 rc ((c46 s (-1)).1) ((c46 s (-1)).2)
theorem lc41_30 {sc : Nat × (Nat → Int32)} {N d : Nat} {A : Nat → Nat} {K : Nat} {S : am_S} {rc : cRC} {s : cS} {o1 : Option Value} (hr : RCH sc rc N) (hS : CM A K S s) : am_L (am_PP sc) N d 41 30 [some (.ref 7), o1] [] S (fun o S1 => ∃ s1 w, c41_30 rc s = some (s1, w) ∧ o = cow w ∧ CX A K S1 s1) := by
  refine l2 (v := 7) hi_41_30 rfl ?_
  refine l20s (v := .ref 12) hS cs_7 hi_41_31 rfl ?_
  refine l0 hi_41_34 ?_
  refine l32 (as := [.ref 12, .int (-1)]) (la := [some (.ref 12), some (.int (-1)), none]) (rest := []) hi_41_35 (am_hd0 (M := 41) (by decide) 35) rfl rfl rfl (fun N' d' _ => lc46 (N := N') (d := d') hS ) ?_ (fun _ q => nomatch q.choose_spec.choose_spec.2.1)
  rintro v3 S1 ⟨A4, K5, x6, ev3, l7, h2⟩
  cases ev3
  show am_L _ _ _ _ _ [some (.ref 7), o1] [.ref (A4 ((c46 s (-1)).2))] _ _
  refine am_L.mono (lc41_38 hr h2 l7) ?_
  rintro o S1 ⟨s1, w1, q0, q1, A_, K_, q2, q3⟩
  exact ⟨s1, w1, (rfl).trans q0, q1, A_, K_, cX.trans (cX.trans cX.rfl x6) q2, q3⟩
noncomputable def c41_22 (rc : cRC) (s : cS) : Option (cS × Option Int32) := c41_30 rc (tct s (.s 10) 0)
theorem lc41_22 {sc : Nat × (Nat → Int32)} {N d : Nat} {A : Nat → Nat} {K : Nat} {S : am_S} {rc : cRC} {s : cS} {o1 : Option Value} (hr : RCH sc rc N) (hS : CM A K S s) : am_L (am_PP sc) N d 41 22 [some (.ref 7), o1] [] S (fun o S1 => ∃ s1 w, c41_22 rc s = some (s1, w) ∧ o = cow w ∧ CX A K S1 s1) := by
  refine l2 (v := 7) hi_41_22 rfl ?_
  refine l20s (v := .ref 10) hS cs_7 hi_41_23 rfl ?_
  refine l0 hi_41_26 ?_
  refine l32 (as := [.ref 10, .int 0]) (la := [some (.ref 10), some (.int 0)]) (rest := []) hi_41_27 (am_hd0 (M := 41) (by decide) 27) rfl rfl rfl (fun N' d' _ => lc30 (N := N') (d := d') (t := (.s 10)) hS ct_10) ?_ (fun _ q => nomatch q.1)
  rintro v3 S1 ⟨ev3, h2⟩
  cases ev3
  show am_L _ _ _ _ _ [some (.ref 7), o1] [] _ _
  refine am_L.mono (lc41_30 hr h2 ) ?_
  rintro o S1 ⟨s1, w1, q0, q1, A_, K_, q2, q3⟩
  exact ⟨s1, w1, (rfl).trans q0, q1, A_, K_, cX.trans cX.rfl q2, q3⟩
noncomputable def c41_14 (rc : cRC) (s : cS) : Option (cS × Option Int32) := c41_22 rc (tct s (.s 8) 0)
theorem lc41_14 {sc : Nat × (Nat → Int32)} {N d : Nat} {A : Nat → Nat} {K : Nat} {S : am_S} {rc : cRC} {s : cS} {o1 : Option Value} (hr : RCH sc rc N) (hS : CM A K S s) : am_L (am_PP sc) N d 41 14 [some (.ref 7), o1] [] S (fun o S1 => ∃ s1 w, c41_14 rc s = some (s1, w) ∧ o = cow w ∧ CX A K S1 s1) := by
  refine l2 (v := 7) hi_41_14 rfl ?_
  refine l20s (v := .ref 8) hS cs_7 hi_41_15 rfl ?_
  refine l0 hi_41_18 ?_
  refine l32 (as := [.ref 8, .int 0]) (la := [some (.ref 8), some (.int 0)]) (rest := []) hi_41_19 (am_hd0 (M := 41) (by decide) 19) rfl rfl rfl (fun N' d' _ => lc30 (N := N') (d := d') (t := (.s 8)) hS ct_8) ?_ (fun _ q => nomatch q.1)
  rintro v3 S1 ⟨ev3, h2⟩
  cases ev3
  show am_L _ _ _ _ _ [some (.ref 7), o1] [] _ _
  refine am_L.mono (lc41_22 hr h2 ) ?_
  rintro o S1 ⟨s1, w1, q0, q1, A_, K_, q2, q3⟩
  exact ⟨s1, w1, (rfl).trans q0, q1, A_, K_, cX.trans cX.rfl q2, q3⟩
noncomputable def c41_7 (rc : cRC) (s : cS) : Option (cS × Option Int32) := c41_14 rc ((c43 s).1)
theorem lc41_7 {sc : Nat × (Nat → Int32)} {N d : Nat} {A : Nat → Nat} {K : Nat} {S : am_S} {rc : cRC} {s : cS} {o1 : Option Value} (hr : RCH sc rc N) (hS : CM A K S s) : am_L (am_PP sc) N d 41 7 [some (.ref 7), o1] [] S (fun o S1 => ∃ s1 w, c41_7 rc s = some (s1, w) ∧ o = cow w ∧ CX A K S1 s1) := by
  refine l2 (v := 7) hi_41_7 rfl ?_
  refine l20s (v := .ref 12) hS cs_7 hi_41_8 rfl ?_
  refine l32 (as := [.ref 12]) (la := [some (.ref 12)]) (rest := []) hi_41_11 (am_hd0 (M := 41) (by decide) 11) rfl rfl rfl (fun N' d' _ => lc43 (N := N') (d := d') hS ) ?_ (fun _ q => nomatch q.1)
  rintro v3 S1 ⟨ev3, h2⟩
  cases ev3
  show am_L _ _ _ _ _ [some (.ref 7), o1] [] _ _
  refine am_L.mono (lc41_14 hr h2 ) ?_
  rintro o S1 ⟨s1, w1, q0, q1, A_, K_, q2, q3⟩
  exact ⟨s1, w1, (rfl).trans q0, q1, A_, K_, cX.trans cX.rfl q2, q3⟩
noncomputable def c41 (rc : cRC) (s : cS) : Option (cS × Option Int32) := c41_7 rc ((c42 s).1)
theorem lc41 {sc : Nat × (Nat → Int32)} {N d : Nat} {A : Nat → Nat} {K : Nat} {S : am_S} {rc : cRC} {s : cS} (hr : RCH sc rc N) (hS : CM A K S s) : am_L (am_PP sc) N d 41 0 [some (.ref 7), none] [] S (fun o S1 => ∃ s1 w, c41 rc s = some (s1, w) ∧ o = cow w ∧ CX A K S1 s1) := by
  refine l2 (v := 7) hi_41_0 rfl ?_
  refine l20s (v := .ref 2) hS cs_7 hi_41_1 rfl ?_
  refine l32 (as := [.ref 2]) (la := [some (.ref 2)]) (rest := []) hi_41_4 (am_hd0 (M := 41) (by decide) 4) rfl rfl rfl (fun N' d' _ => lc42 (N := N') (d := d') hS ) ?_ (fun _ q => nomatch q.1)
  rintro v3 S1 ⟨ev3, h2⟩
  cases ev3
  show am_L _ _ _ _ _ [some (.ref 7), none] [] _ _
  refine am_L.mono (lc41_7 hr h2 ) ?_
  rintro o S1 ⟨s1, w1, q0, q1, A_, K_, q2, q3⟩
  exact ⟨s1, w1, (rfl).trans q0, q1, A_, K_, cX.trans cX.rfl q2, q3⟩
