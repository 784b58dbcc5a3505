/-! THE CLASS: what each method does (printed by wip/p5/cw_run.py) -/
set_option maxRecDepth 4096
noncomputable def c145_110 (rc : cRC) (s : cS) (y4 : Int32) : Option (cS × Option Int32) := some ((c118 s y4).1, some 0)
theorem lc145_110 {sc : Nat × (Nat → Int32)} {N d : Nat} {A : Nat → Nat} {K : Nat} {S : am_S} {rc : cRC} {s : cS} {y4 : Int32} {o1 : Option Value} {o2 : Option Value} {o3 : Option Value} (hr : RCH sc rc N) (hS : CM A K S s) : am_L (am_PP sc) N d 145 110 [some (.ref 7), o1, o2, o3, some (.int y4)] [] S (fun o S1 => ∃ s1 w, c145_110 rc s y4 = some (s1, w) ∧ o = cow w ∧ CX A K S1 s1) := by
  refine l2 (v := 7) hi_145_110 rfl ?_
  refine l1 (v := y4) hi_145_111 rfl ?_
  refine l32 (as := [.ref 7, .int y4]) (la := [some (.ref 7), some (.int y4), none, none, none]) (rest := []) hi_145_113 (am_hd0 (M := 145) (by decide) 113) rfl rfl rfl (fun N' d' _ => lc118 (N := N') (d := d') hS ) ?_ (fun _ q => nomatch q.1)
  rintro v3 S1 ⟨ev3, h2⟩
  cases ev3
  show am_L _ _ _ _ _ [some (.ref 7), o1, o2, o3, some (.int y4)] [] _ _
  exact l35 hi_145_116 ⟨(c118 s y4).1, some 0, (rfl), rfl, A, K, cX.rfl, h2⟩
noncomputable def c145_104 (rc : cRC) (s : cS) (y1 : Int32) (y3 : Int32) (y4 : Int32) : Option (cS × Option Int32) := rbd (rc 73 s 0 y1 y3 0 0 0 0) (fun s6 w4 => c145_110 rc s6 y4)
theorem lc145_104 {sc : Nat × (Nat → Int32)} {N d : Nat} {A : Nat → Nat} {K : Nat} {S : am_S} {rc : cRC} {s : cS} {y1 : Int32} {y3 : Int32} {y4 : Int32} {o2 : Option Value} (hr : RCH sc rc N) (hS : CM A K S s) : am_L (am_PP sc) N d 145 104 [some (.ref 7), some (.int y1), o2, some (.int y3), some (.int y4)] [] S (fun o S1 => ∃ s1 w, c145_104 rc s y1 y3 y4 = some (s1, w) ∧ o = cow w ∧ CX A K S1 s1) := by
  refine l2 (v := 7) hi_145_104 rfl ?_
  refine l1 (v := y1) hi_145_105 rfl ?_
  refine l1 (v := y3) hi_145_106 rfl ?_
  refine l32 (as := [.ref 7, .int y1, .int y3]) (la := [some (.ref 7), some (.int y1), some (.int y3), none, none, none]) (rest := []) hi_145_107 (am_hd0 (M := 145) (by decide) 107) rfl rfl rfl (fun N' d' hN_ => hr.h73 (N' := N') (d := d') hN_ hS) ?_ ?_
  · rintro v3 S1 ⟨s6, w_, e5, q1, A7, K8, x9, h2⟩
    obtain ⟨w4, rfl, rfl⟩ := cow_some q1
    show am_L _ _ _ _ _ [some (.ref 7), some (.int y1), o2, some (.int y3), some (.int y4)] [] _ _
    refine am_L.mono (lc145_110 hr h2 ) ?_
    rintro o S1 ⟨s1, w1, q0, q1, A_, K_, q2, q3⟩
    exact ⟨s1, w1, (show c145_104 rc s y1 y3 y4 = c145_110 rc s6 y4 from by unfold c145_104; rw [rbd_s e5]).trans q0, q1, A_, K_, cX.trans (cX.trans cX.rfl x9) q2, q3⟩
  · rintro S1 ⟨s1, w1, q0, q1, A_, K_, q2, q3⟩
    obtain rfl := cow_none q1
    exact ⟨s1, none, (by unfold c145_104; rw [rbd_n q0]), rfl, A_, K_, cX.trans cX.rfl q2, q3⟩
noncomputable def c145_90 (rc : cRC) (s : cS) (y1 : Int32) (y2 : Int32) (y3 : Int32) : Option (cS × Option Int32) := rbd (some (c113 s y2)) (fun _ w7 => c145_104 rc ((c113 s y2).1) y1 y3 (s.r (.s 10)))
theorem lc145_90 {sc : Nat × (Nat → Int32)} {N d : Nat} {A : Nat → Nat} {K : Nat} {S : am_S} {rc : cRC} {s : cS} {y1 : Int32} {y2 : Int32} {y3 : Int32} {o4 : Option Value} (hr : RCH sc rc N) (hS : CM A K S s) : am_L (am_PP sc) N d 145 90 [some (.ref 7), some (.int y1), some (.int y2), some (.int y3), o4] [] S (fun o S1 => ∃ s1 w, c145_90 rc s y1 y2 y3 = some (s1, w) ∧ o = cow w ∧ CX A K S1 s1) := by
  refine l2 (v := 7) hi_145_90 rfl ?_
  refine l20s (v := .ref 10) hS cs_7 hi_145_91 rfl ?_
  refine l32 (as := [.ref 10]) (la := [some (.ref 10)]) (rest := []) hi_145_94 (am_hd0 (M := 145) (by decide) 94) rfl rfl rfl (fun N' d' _ => lc36 (N := N') (d := d') (t := (.s 10)) hS ct_10) ?_ (fun _ q => nomatch q.1)
  rintro v3 S1 ⟨ev3, h2⟩
  cases ev3
  show am_L _ _ _ _ _ [some (.ref 7), some (.int y1), some (.int y2), some (.int y3), o4] [.int (s.r (.s 10))] _ _
  refine l3 (ls' := [some (.ref 7), some (.int y1), some (.int y2), some (.int y3), some (.int (s.r (.s 10)))]) hi_145_97 (Nat.le_of_ble_eq_true rfl) rfl ?_
  refine l2 (v := 7) hi_145_99 rfl ?_
  refine l1 (v := y2) hi_145_100 rfl ?_
  refine l32 (as := [.ref 7, .int y2]) (la := [some (.ref 7), some (.int y2)]) (rest := []) hi_145_101 (am_hd0 (M := 145) (by decide) 101) rfl rfl rfl (fun N' d' hN_ => lc113 (N := N') (d := d') h2 ) ?_ ?_
  · rintro v6 S4 ⟨ev, h5⟩
    obtain ⟨w7, e8, rfl⟩ := cow_some ev
    show am_L _ _ _ _ _ [some (.ref 7), some (.int y1), some (.int y2), some (.int y3), some (.int (s.r (.s 10)))] [] _ _
    refine am_L.mono (lc145_104 hr h5 ) ?_
    rintro o S1 ⟨s1, w1, q0, q1, A_, K_, q2, q3⟩
    exact ⟨s1, w1, (show c145_90 rc s y1 y2 y3 = c145_104 rc ((c113 s y2).1) y1 y3 (s.r (.s 10)) from by unfold c145_90; rw [rbd_th e8]).trans q0, q1, A_, K_, cX.trans cX.rfl q2, q3⟩
  · rintro S4 ⟨q1, q2⟩
    have hn := cow_none q1
    exact ⟨_, none, (by unfold c145_90; rw [rbd_thn hn]), rfl, A, K, cX.rfl, q2⟩
noncomputable def c145_89 (rc : cRC) (s : cS) (y1 : Int32) (y3 : Int32) (z0 : Int32) : Option (cS × Option Int32) := c145_90 rc s y1 z0 y3
theorem lc145_89 {sc : Nat × (Nat → Int32)} {N d : Nat} {A : Nat → Nat} {K : Nat} {S : am_S} {rc : cRC} {s : cS} {y1 : Int32} {y3 : Int32} {z0 : Int32} {o2 : Option Value} {o4 : Option Value} (hr : RCH sc rc N) (hS : CM A K S s) : am_L (am_PP sc) N d 145 89 [some (.ref 7), some (.int y1), o2, some (.int y3), o4] [.int z0] S (fun o S1 => ∃ s1 w, c145_89 rc s y1 y3 z0 = some (s1, w) ∧ o = cow w ∧ CX A K S1 s1) := by
  refine l3 (ls' := [some (.ref 7), some (.int y1), some (.int z0), some (.int y3), o4]) hi_145_89 (Nat.le_of_ble_eq_true rfl) rfl ?_
  refine am_L.mono (lc145_90 hr hS ) ?_
  rintro o S1 ⟨s1, w1, q0, q1, A_, K_, q2, q3⟩
  exact ⟨s1, w1, (rfl).trans q0, q1, A_, K_, cX.trans cX.rfl q2, q3⟩
noncomputable def c145_85 (rc : cRC) (s : cS) (y1 : Int32) (y3 : Int32) : Option (cS × Option Int32) := rbd (some (c110 s)) (fun _ w4 => c145_89 rc ((c110 s).1) y1 y3 w4)
theorem lc145_85 {sc : Nat × (Nat → Int32)} {N d : Nat} {A : Nat → Nat} {K : Nat} {S : am_S} {rc : cRC} {s : cS} {y1 : Int32} {y3 : Int32} {o2 : Option Value} {o4 : Option Value} (hr : RCH sc rc N) (hS : CM A K S s) : am_L (am_PP sc) N d 145 85 [some (.ref 7), some (.int y1), o2, some (.int y3), o4] [] S (fun o S1 => ∃ s1 w, c145_85 rc s y1 y3 = some (s1, w) ∧ o = cow w ∧ CX A K S1 s1) := by
  refine l2 (v := 7) hi_145_85 rfl ?_
  refine l32 (as := [.ref 7]) (la := [some (.ref 7), none]) (rest := []) hi_145_86 (am_hd0 (M := 145) (by decide) 86) rfl rfl rfl (fun N' d' hN_ => lc110 (N := N') (d := d') hS ) ?_ ?_
  · rintro v3 S1 ⟨ev, h2⟩
    obtain ⟨w4, e5, rfl⟩ := cov_some ev
    show am_L _ _ _ _ _ [some (.ref 7), some (.int y1), o2, some (.int y3), o4] [.int w4] _ _
    refine am_L.mono (lc145_89 hr h2 ) ?_
    rintro o S1 ⟨s1, w1, q0, q1, A_, K_, q2, q3⟩
    exact ⟨s1, w1, (show c145_85 rc s y1 y3 = c145_89 rc ((c110 s).1) y1 y3 w4 from by unfold c145_85; rw [rbd_th e5]).trans q0, q1, A_, K_, cX.trans cX.rfl q2, q3⟩
  · rintro S1 ⟨q1, q2⟩
    have hn := cov_none q1
    exact ⟨_, none, (by unfold c145_85; rw [rbd_thn hn]), rfl, A, K, cX.rfl, q2⟩
noncomputable def c145_75 (rc : cRC) (s : cS) (y1 : Int32) (y2 : Int32) (z0 : Int32) : Option (cS × Option Int32) := if z0 = 0 then c145_90 rc s y1 y2 z0 else c145_85 rc ((c100 s y2).1) y1 z0
theorem lc145_75 {sc : Nat × (Nat → Int32)} {N d : Nat} {A : Nat → Nat} {K : Nat} {S : am_S} {rc : cRC} {s : cS} {y1 : Int32} {y2 : Int32} {z0 : Int32} {o3 : Option Value} {o4 : Option Value} (hr : RCH sc rc N) (hS : CM A K S s) : am_L (am_PP sc) N d 145 75 [some (.ref 7), some (.int y1), some (.int y2), o3, o4] [.int z0] S (fun o S1 => ∃ s1 w, c145_75 rc s y1 y2 z0 = some (s1, w) ∧ o = cow w ∧ CX A K S1 s1) := by
  refine l3 (ls' := [some (.ref 7), some (.int y1), some (.int y2), some (.int z0), o4]) hi_145_75 (Nat.le_of_ble_eq_true rfl) rfl ?_
  refine l1 (v := z0) hi_145_76 rfl ?_
  by_cases cn1 : z0 = 0
  · refine l12t hi_145_77 (decide_eq_true cn1) ?_
    refine am_L.mono (lc145_90 hr hS ) ?_
    rintro o S1 ⟨s1, w1, q0, q1, A_, K_, q2, q3⟩
    exact ⟨s1, w1, (show c145_75 rc s y1 y2 z0 = c145_90 rc s y1 y2 z0 from by unfold c145_75; rw [if_pos cn1]).trans q0, q1, A_, K_, cX.trans cX.rfl q2, q3⟩
  · refine l12f hi_145_77 (decide_eq_false cn1) ?_
    refine l2 (v := 7) hi_145_80 rfl ?_
    refine l1 (v := y2) hi_145_81 rfl ?_
    refine l32 (as := [.ref 7, .int y2]) (la := [some (.ref 7), some (.int y2)]) (rest := []) hi_145_82 (am_hd0 (M := 145) (by decide) 82) rfl rfl rfl (fun N' d' _ => lc100 (N := N') (d := d') hS ) ?_ (fun _ q => nomatch q.1)
    rintro v4 S2 ⟨ev4, h3⟩
    cases ev4
    show am_L _ _ _ _ _ [some (.ref 7), some (.int y1), some (.int y2), some (.int z0), o4] [] _ _
    refine am_L.mono (lc145_85 hr h3 ) ?_
    rintro o S1 ⟨s1, w1, q0, q1, A_, K_, q2, q3⟩
    exact ⟨s1, w1, (show c145_75 rc s y1 y2 z0 = c145_85 rc ((c100 s y2).1) y1 z0 from by unfold c145_75; rw [if_neg cn1]).trans q0, q1, A_, K_, cX.trans cX.rfl q2, q3⟩
noncomputable def c145_58 (rc : cRC) (s : cS) (y1 : Int32) (y2 : Int32) : Option (cS × Option Int32) := if (c53 s) ≠ 68 then c145_75 rc s y1 y2 0 else c145_75 rc s y1 y2 1
theorem lc145_58 {sc : Nat × (Nat → Int32)} {N d : Nat} {A : Nat → Nat} {K : Nat} {S : am_S} {rc : cRC} {s : cS} {y1 : Int32} {y2 : Int32} {o3 : Option Value} {o4 : Option Value} (hr : RCH sc rc N) (hS : CM A K S s) : am_L (am_PP sc) N d 145 58 [some (.ref 7), some (.int y1), some (.int y2), o3, o4] [] S (fun o S1 => ∃ s1 w, c145_58 rc s y1 y2 = some (s1, w) ∧ o = cow w ∧ CX A K S1 s1) := by
  refine l2 (v := 7) hi_145_58 rfl ?_
  refine l20s (v := .ref 2) hS cs_7 hi_145_59 rfl ?_
  refine l32 (as := [.ref 2]) (la := [some (.ref 2)]) (rest := []) hi_145_62 (am_hd0 (M := 145) (by decide) 62) rfl rfl rfl (fun N' d' _ => lc53 (N := N') (d := d') hS ) ?_ (fun _ q => nomatch q.1)
  rintro v3 S1 ⟨ev3, h2⟩
  cases ev3
  show am_L _ _ _ _ _ [some (.ref 7), some (.int y1), some (.int y2), o3, o4] [.int (c53 s)] _ _
  refine l0 hi_145_65 ?_
  by_cases cn4 : (c53 s) ≠ 68
  · refine l13t hi_145_67 (decide_eq_true cn4) ?_
    refine l0 hi_145_74 ?_
    refine am_L.mono (lc145_75 hr h2 ) ?_
    rintro o S1 ⟨s1, w1, q0, q1, A_, K_, q2, q3⟩
    exact ⟨s1, w1, (show c145_58 rc s y1 y2 = c145_75 rc s y1 y2 0 from by unfold c145_58; rw [if_pos cn4]).trans q0, q1, A_, K_, cX.trans cX.rfl q2, q3⟩
  · refine l13f hi_145_67 (decide_eq_false cn4) ?_
    refine l0 hi_145_70 ?_
    refine l18 hi_145_71 ?_
    refine am_L.mono (lc145_75 hr h2 ) ?_
    rintro o S1 ⟨s1, w1, q0, q1, A_, K_, q2, q3⟩
    exact ⟨s1, w1, (show c145_58 rc s y1 y2 = c145_75 rc s y1 y2 1 from by unfold c145_58; rw [if_neg cn4]).trans q0, q1, A_, K_, cX.trans cX.rfl q2, q3⟩
noncomputable def c145_51 (rc : cRC) (s : cS) (y1 : Int32) (y3 : Int32) (z0 : Int32) : Option (cS × Option Int32) := rc 145023 s 0 y1 z0 (y3 + 1) 0 0 0
theorem lc145_51 {sc : Nat × (Nat → Int32)} {N d : Nat} {A : Nat → Nat} {K : Nat} {S : am_S} {rc : cRC} {s : cS} {y1 : Int32} {y3 : Int32} {z0 : Int32} {o2 : Option Value} {o4 : Option Value} (hr : RCH sc rc (N + 1)) (hS : CM A K S s) : am_L (am_PP sc) N d 145 51 [some (.ref 7), some (.int y1), o2, some (.int y3), o4] [.int z0] S (fun o S1 => ∃ s1 w, c145_51 rc s y1 y3 z0 = some (s1, w) ∧ o = cow w ∧ CX A K S1 s1) := by
  refine l3 (ls' := [some (.ref 7), some (.int y1), some (.int z0), some (.int y3), o4]) hi_145_51 (Nat.le_of_ble_eq_true rfl) rfl ?_
  refine l5 (v := y3) (ls' := [some (.ref 7), some (.int y1), some (.int z0), some (.int (y3 + 1)), o4]) hi_145_52 rfl rfl ?_
  refine l18 hi_145_55 ?_
  refine am_L.mono (hr.h145023 (N' := N) (o4 := o4) (Nat.lt_succ_self _) hS) ?_
  rintro o S1 ⟨s1, w1, q0, q1, A_, K_, q2, q3⟩
  exact ⟨s1, w1, (show c145_51 rc s y1 y3 z0 = rc 145023 s 0 y1 z0 (y3 + 1) 0 0 0 from rfl).trans q0, q1, A_, K_, cX.trans cX.rfl q2, q3⟩
noncomputable def c145_47 (rc : cRC) (s : cS) (y1 : Int32) (y3 : Int32) : Option (cS × Option Int32) := rbd (some (c110 s)) (fun _ w4 => c145_51 rc ((c110 s).1) y1 y3 w4)
theorem lc145_47 {sc : Nat × (Nat → Int32)} {N d : Nat} {A : Nat → Nat} {K : Nat} {S : am_S} {rc : cRC} {s : cS} {y1 : Int32} {y3 : Int32} {o2 : Option Value} {o4 : Option Value} (hr : RCH sc rc (N + 1)) (hS : CM A K S s) : am_L (am_PP sc) N d 145 47 [some (.ref 7), some (.int y1), o2, some (.int y3), o4] [] S (fun o S1 => ∃ s1 w, c145_47 rc s y1 y3 = some (s1, w) ∧ o = cow w ∧ CX A K S1 s1) := by
  refine l2 (v := 7) hi_145_47 rfl ?_
  refine l32 (as := [.ref 7]) (la := [some (.ref 7), none]) (rest := []) hi_145_48 (am_hd0 (M := 145) (by decide) 48) rfl rfl rfl (fun N' d' hN_ => lc110 (N := N') (d := d') hS ) ?_ ?_
  · rintro v3 S1 ⟨ev, h2⟩
    obtain ⟨w4, e5, rfl⟩ := cov_some ev
    show am_L _ _ _ _ _ [some (.ref 7), some (.int y1), o2, some (.int y3), o4] [.int w4] _ _
    refine am_L.mono (lc145_51 hr h2 ) ?_
    rintro o S1 ⟨s1, w1, q0, q1, A_, K_, q2, q3⟩
    exact ⟨s1, w1, (show c145_47 rc s y1 y3 = c145_51 rc ((c110 s).1) y1 y3 w4 from by unfold c145_47; rw [rbd_th e5]).trans q0, q1, A_, K_, cX.trans cX.rfl q2, q3⟩
  · rintro S1 ⟨q1, q2⟩
    have hn := cov_none q1
    exact ⟨_, none, (by unfold c145_47; rw [rbd_thn hn]), rfl, A, K, cX.rfl, q2⟩
noncomputable def c145_23 (rc : cRC) (s : cS) (y1 : Int32) (y2 : Int32) (y3 : Int32) : Option (cS × Option Int32) := if (c53 s) ≠ 70 then c145_58 rc s y1 y2 else if 16384 < y3 then c145_58 rc s y1 y2 else c145_47 rc ((c100 s y2).1) y1 y3
theorem lc145_23 {sc : Nat × (Nat → Int32)} {N d : Nat} {A : Nat → Nat} {K : Nat} {S : am_S} {rc : cRC} {s : cS} {y1 : Int32} {y2 : Int32} {y3 : Int32} {o4 : Option Value} (hr : RCH sc rc N) (hS : CM A K S s) : am_L (am_PP sc) N d 145 23 [some (.ref 7), some (.int y1), some (.int y2), some (.int y3), o4] [] S (fun o S1 => ∃ s1 w, c145_23 rc s y1 y2 y3 = some (s1, w) ∧ o = cow w ∧ CX A K S1 s1) := by
  cases N with
  | zero => exact l_zero
  | succ N =>
    refine l2d (v := 7) hi_145_23 rfl ?_
    refine l20s (v := .ref 2) hS cs_7 hi_145_24 rfl ?_
    refine l32 (as := [.ref 2]) (la := [some (.ref 2)]) (rest := []) hi_145_27 (am_hd0 (M := 145) (by decide) 27) rfl rfl rfl (fun N' d' _ => lc53 (N := N') (d := d') hS ) ?_ (fun _ q => nomatch q.1)
    rintro v3 S1 ⟨ev3, h2⟩
    cases ev3
    show am_L _ _ _ _ _ [some (.ref 7), some (.int y1), some (.int y2), some (.int y3), o4] [.int (c53 s)] _ _
    refine l0 hi_145_30 ?_
    by_cases cn4 : (c53 s) ≠ 70
    · refine l13t hi_145_32 (decide_eq_true cn4) ?_
      refine am_L.mono (lc145_58 (hr.less (Nat.le_succ _)) h2 ) ?_
      rintro o S1 ⟨s1, w1, q0, q1, A_, K_, q2, q3⟩
      exact ⟨s1, w1, (show c145_23 rc s y1 y2 y3 = c145_58 rc s y1 y2 from by unfold c145_23; rw [if_pos cn4]).trans q0, q1, A_, K_, cX.trans cX.rfl q2, q3⟩
    · refine l13f hi_145_32 (decide_eq_false cn4) ?_
      refine l1 (v := y3) hi_145_35 rfl ?_
      refine l0 hi_145_36 ?_
      by_cases cn5 : 16384 < y3
      · refine l13t hi_145_39 (decide_eq_true cn5) ?_
        refine am_L.mono (lc145_58 (hr.less (Nat.le_succ _)) h2 ) ?_
        rintro o S1 ⟨s1, w1, q0, q1, A_, K_, q2, q3⟩
        exact ⟨s1, w1, (show c145_23 rc s y1 y2 y3 = c145_58 rc s y1 y2 from by unfold c145_23; rw [if_neg cn4]; rw [if_pos cn5]).trans q0, q1, A_, K_, cX.trans cX.rfl q2, q3⟩
      · refine l13f hi_145_39 (decide_eq_false cn5) ?_
        refine l2 (v := 7) hi_145_42 rfl ?_
        refine l1 (v := y2) hi_145_43 rfl ?_
        refine l32 (as := [.ref 7, .int y2]) (la := [some (.ref 7), some (.int y2)]) (rest := []) hi_145_44 (am_hd0 (M := 145) (by decide) 44) rfl rfl rfl (fun N' d' _ => lc100 (N := N') (d := d') h2 ) ?_ (fun _ q => nomatch q.1)
        rintro v8 S6 ⟨ev8, h7⟩
        cases ev8
        show am_L _ _ _ _ _ [some (.ref 7), some (.int y1), some (.int y2), some (.int y3), o4] [] _ _
        refine am_L.mono (lc145_47 hr h7 ) ?_
        rintro o S1 ⟨s1, w1, q0, q1, A_, K_, q2, q3⟩
        exact ⟨s1, w1, (show c145_23 rc s y1 y2 y3 = c145_47 rc ((c100 s y2).1) y1 y3 from by unfold c145_23; rw [if_neg cn4]; rw [if_neg cn5]).trans q0, q1, A_, K_, cX.trans cX.rfl q2, q3⟩
noncomputable def c145_20 (rc : cRC) (s : cS) (y1 : Int32) (z0 : Int32) : Option (cS × Option Int32) := c145_23 rc s y1 z0 0
theorem lc145_20 {sc : Nat × (Nat → Int32)} {N d : Nat} {A : Nat → Nat} {K : Nat} {S : am_S} {rc : cRC} {s : cS} {y1 : Int32} {z0 : Int32} {o2 : Option Value} {o3 : Option Value} {o4 : Option Value} (hr : RCH sc rc N) (hS : CM A K S s) : am_L (am_PP sc) N d 145 20 [some (.ref 7), some (.int y1), o2, o3, o4] [.int z0] S (fun o S1 => ∃ s1 w, c145_20 rc s y1 z0 = some (s1, w) ∧ o = cow w ∧ CX A K S1 s1) := by
  refine l3 (ls' := [some (.ref 7), some (.int y1), some (.int z0), o3, o4]) hi_145_20 (Nat.le_of_ble_eq_true rfl) rfl ?_
  refine l0 hi_145_21 ?_
  refine l3 (ls' := [some (.ref 7), some (.int y1), some (.int z0), some (.int 0), o4]) hi_145_22 (Nat.le_of_ble_eq_true rfl) rfl ?_
  refine am_L.mono (lc145_23 (o4 := o4) hr hS) ?_
  rintro o S1 ⟨s1, w1, q0, q1, A_, K_, q2, q3⟩
  exact ⟨s1, w1, (show c145_20 rc s y1 z0 = c145_23 rc s y1 z0 0 from rfl).trans q0, q1, A_, K_, cX.trans cX.rfl q2, q3⟩
noncomputable def c145_15 (rc : cRC) (s : cS) (y1 : Int32) (z0 : Int32) : Option (cS × Option Int32) := rbd (some (c62 s)) (fun _ w4 => c145_20 rc ((c62 s).1) y1 w4)
theorem lc145_15 {sc : Nat × (Nat → Int32)} {N d : Nat} {A : Nat → Nat} {K : Nat} {S : am_S} {rc : cRC} {s : cS} {y1 : Int32} {z0 : Int32} {o2 : Option Value} {o3 : Option Value} {o4 : Option Value} (hr : RCH sc rc N) (hS : CM A K S s) : am_L (am_PP sc) N d 145 15 [some (.ref 7), some (.int y1), o2, o3, o4] [.int z0] S (fun o S1 => ∃ s1 w, c145_15 rc s y1 z0 = some (s1, w) ∧ o = cow w ∧ CX A K S1 s1) := by
  refine l6i hi_145_15 ?_
  refine l2 (v := 7) hi_145_16 rfl ?_
  refine l32 (as := [.ref 7]) (la := [some (.ref 7)]) (rest := []) hi_145_17 (am_hd0 (M := 145) (by decide) 17) rfl rfl rfl (fun N' d' hN_ => lc62 (N := N') (d := d') hS ) ?_ ?_
  · rintro v3 S1 ⟨ev, h2⟩
    obtain ⟨w4, e5, rfl⟩ := cov_some ev
    show am_L _ _ _ _ _ [some (.ref 7), some (.int y1), o2, o3, o4] [.int w4] _ _
    refine am_L.mono (lc145_20 hr h2 ) ?_
    rintro o S1 ⟨s1, w1, q0, q1, A_, K_, q2, q3⟩
    exact ⟨s1, w1, (show c145_15 rc s y1 z0 = c145_20 rc ((c62 s).1) y1 w4 from by unfold c145_15; rw [rbd_th e5]).trans q0, q1, A_, K_, cX.trans cX.rfl q2, q3⟩
  · rintro S1 ⟨q1, q2⟩
    have hn := cov_none q1
    exact ⟨_, none, (by unfold c145_15; rw [rbd_thn hn]), rfl, A, K, cX.rfl, q2⟩
noncomputable def c145 (rc : cRC) (s : cS) : Option (cS × Option Int32) := rbd (some (c55 s)) (fun _ w7 => c145_15 rc ((c55 s).1) (c63 s) w7)
theorem lc145 {sc : Nat × (Nat → Int32)} {N d : Nat} {A : Nat → Nat} {K : Nat} {S : am_S} {rc : cRC} {s : cS} (hr : RCH sc rc N) (hS : CM A K S s) : am_L (am_PP sc) N d 145 0 [some (.ref 7), none, none, none, none] [] S (fun o S1 => ∃ s1 w, c145 rc s = some (s1, w) ∧ o = cow w ∧ CX A K S1 s1) := by
  refine l2 (v := 7) hi_145_0 rfl ?_
  refine l20s (v := .ref 2) hS cs_7 hi_145_1 rfl ?_
  refine l32 (as := [.ref 2]) (la := [some (.ref 2)]) (rest := []) hi_145_4 (am_hd0 (M := 145) (by decide) 4) rfl rfl rfl (fun N' d' _ => lc63 (N := N') (d := d') hS ) ?_ (fun _ q => nomatch q.1)
  rintro v3 S1 ⟨ev3, h2⟩
  cases ev3
  show am_L _ _ _ _ _ [some (.ref 7), none, none, none, none] [.int (c63 s)] _ _
  refine l3 (ls' := [some (.ref 7), some (.int (c63 s)), none, none, none]) hi_145_7 (Nat.le_of_ble_eq_true rfl) rfl ?_
  refine l2 (v := 7) hi_145_8 rfl ?_
  refine l20s (v := .ref 2) h2 cs_7 hi_145_9 rfl ?_
  refine l32 (as := [.ref 2]) (la := [some (.ref 2), none]) (rest := []) hi_145_12 (am_hd0 (M := 145) (by decide) 12) rfl rfl rfl (fun N' d' hN_ => lc55 (N := N') (d := d') h2 ) ?_ ?_
  · rintro v6 S4 ⟨ev, h5⟩
    obtain ⟨w7, e8, rfl⟩ := cov_some ev
    show am_L _ _ _ _ _ [some (.ref 7), some (.int (c63 s)), none, none, none] [.int w7] _ _
    refine am_L.mono (lc145_15 hr h5 ) ?_
    rintro o S1 ⟨s1, w1, q0, q1, A_, K_, q2, q3⟩
    exact ⟨s1, w1, (show c145 rc s = c145_15 rc ((c55 s).1) (c63 s) w7 from by unfold c145; rw [rbd_th e8]).trans q0, q1, A_, K_, cX.trans cX.rfl q2, q3⟩
  · rintro S4 ⟨q1, q2⟩
    have hn := cov_none q1
    exact ⟨_, none, (by unfold c145; rw [rbd_thn hn]), rfl, A, K, cX.rfl, q2⟩
def c146_96 (rc : cRC) (s : cS) (y3 : Int32) (y5 : Int32) : Option (cS × Option Int32) := some ((c78 s 29 y5 0 y3).1, some 0)
theorem lc146_96 {sc : Nat × (Nat → Int32)} {N d : Nat} {A : Nat → Nat} {K : Nat} {S : am_S} {rc : cRC} {s : cS} {y3 : Int32} {y5 : Int32} {o1 : Option Value} {o2 : Option Value} {o4 : Option Value} (hr : RCH sc rc N) (hS : CM A K S s) : am_L (am_PP sc) N d 146 96 [some (.ref 7), o1, o2, some (.int y3), o4, some (.int y5)] [] S (fun o S1 => ∃ s1 w, c146_96 rc s y3 y5 = some (s1, w) ∧ o = cow w ∧ CX A K S1 s1) := by
  refine l2 (v := 7) hi_146_96 rfl ?_
  refine l0 hi_146_97 ?_
  refine l1 (v := y5) hi_146_99 rfl ?_
  refine l0 hi_146_101 ?_
  refine l1 (v := y3) hi_146_102 rfl ?_
  refine l32 (as := [.ref 7, .int 29, .int y5, .int 0, .int y3]) (la := [some (.ref 7), some (.int 29), some (.int y5), some (.int 0), some (.int y3)]) (rest := []) hi_146_103 (am_hd0 (M := 146) (by decide) 103) rfl rfl rfl (fun N' d' _ => lc78 (N := N') (d := d') hS ) ?_ (fun _ q => nomatch q.1)
  rintro v3 S1 ⟨ev3, h2⟩
  cases ev3
  show am_L _ _ _ _ _ [some (.ref 7), o1, o2, some (.int y3), o4, some (.int y5)] [.int ((c78 s 29 y5 0 y3).2)] _ _
  refine l6i hi_146_106 ?_
  exact l35 hi_146_107 ⟨(c78 s 29 y5 0 y3).1, some 0, (rfl), rfl, A, K, cX.rfl, h2⟩
def c146_89 (rc : cRC) (s : cS) (y2 : Int32) (y3 : Int32) (y5 : Int32) (z0 : Int32) : Option (cS × Option Int32) := rbd (rc 73 s 0 y2 0 0 0 0 0) (fun s6 w4 => c146_96 rc s6 y3 y5)
theorem lc146_89 {sc : Nat × (Nat → Int32)} {N d : Nat} {A : Nat → Nat} {K : Nat} {S : am_S} {rc : cRC} {s : cS} {y2 : Int32} {y3 : Int32} {y5 : Int32} {z0 : Int32} {o1 : Option Value} {o4 : Option Value} (hr : RCH sc rc N) (hS : CM A K S s) : am_L (am_PP sc) N d 146 89 [some (.ref 7), o1, some (.int y2), some (.int y3), o4, some (.int y5)] [.int z0] S (fun o S1 => ∃ s1 w, c146_89 rc s y2 y3 y5 z0 = some (s1, w) ∧ o = cow w ∧ CX A K S1 s1) := by
  refine l6i hi_146_89 ?_
  refine l2 (v := 7) hi_146_90 rfl ?_
  refine l1 (v := y2) hi_146_91 rfl ?_
  refine l0 hi_146_92 ?_
  refine l32 (as := [.ref 7, .int y2, .int 0]) (la := [some (.ref 7), some (.int y2), some (.int 0), none, none, none]) (rest := []) hi_146_93 (am_hd0 (M := 146) (by decide) 93) rfl rfl rfl (fun N' d' hN_ => hr.h73 (N' := N') (d := d') hN_ hS) ?_ ?_
  · rintro v3 S1 ⟨s6, w_, e5, q1, A7, K8, x9, h2⟩
    obtain ⟨w4, rfl, rfl⟩ := cow_some q1
    show am_L _ _ _ _ _ [some (.ref 7), o1, some (.int y2), some (.int y3), o4, some (.int y5)] [] _ _
    refine am_L.mono (lc146_96 hr h2 ) ?_
    rintro o S1 ⟨s1, w1, q0, q1, A_, K_, q2, q3⟩
    exact ⟨s1, w1, (show c146_89 rc s y2 y3 y5 z0 = c146_96 rc s6 y3 y5 from by unfold c146_89; rw [rbd_s e5]).trans q0, q1, A_, K_, cX.trans (cX.trans cX.rfl x9) q2, q3⟩
  · rintro S1 ⟨s1, w1, q0, q1, A_, K_, q2, q3⟩
    obtain rfl := cow_none q1
    exact ⟨s1, none, (by unfold c146_89; rw [rbd_n q0]), rfl, A_, K_, cX.trans cX.rfl q2, q3⟩
def c146_78 (rc : cRC) (s : cS) (y1 : Int32) (y2 : Int32) (y3 : Int32) (y5 : Int32) (z0 : Int32) : Option (cS × Option Int32) := c146_89 rc ((c78 s 27 y5 1 y1).1) y2 y3 y5 ((c78 s 27 y5 1 y1).2)
theorem lc146_78 {sc : Nat × (Nat → Int32)} {N d : Nat} {A : Nat → Nat} {K : Nat} {S : am_S} {rc : cRC} {s : cS} {y1 : Int32} {y2 : Int32} {y3 : Int32} {y5 : Int32} {z0 : Int32} {o4 : Option Value} (hr : RCH sc rc N) (hS : CM A K S s) : am_L (am_PP sc) N d 146 78 [some (.ref 7), some (.int y1), some (.int y2), some (.int y3), o4, some (.int y5)] [.int z0] S (fun o S1 => ∃ s1 w, c146_78 rc s y1 y2 y3 y5 z0 = some (s1, w) ∧ o = cow w ∧ CX A K S1 s1) := by
  refine l6i hi_146_78 ?_
  refine l2 (v := 7) hi_146_79 rfl ?_
  refine l0 hi_146_80 ?_
  refine l1 (v := y5) hi_146_82 rfl ?_
  refine l0 hi_146_84 ?_
  refine l1 (v := y1) hi_146_85 rfl ?_
  refine l32 (as := [.ref 7, .int 27, .int y5, .int 1, .int y1]) (la := [some (.ref 7), some (.int 27), some (.int y5), some (.int 1), some (.int y1)]) (rest := []) hi_146_86 (am_hd0 (M := 146) (by decide) 86) rfl rfl rfl (fun N' d' _ => lc78 (N := N') (d := d') hS ) ?_ (fun _ q => nomatch q.1)
  rintro v3 S1 ⟨ev3, h2⟩
  cases ev3
  show am_L _ _ _ _ _ [some (.ref 7), some (.int y1), some (.int y2), some (.int y3), o4, some (.int y5)] [.int ((c78 s 27 y5 1 y1).2)] _ _
  refine am_L.mono (lc146_89 hr h2 ) ?_
  rintro o S1 ⟨s1, w1, q0, q1, A_, K_, q2, q3⟩
  exact ⟨s1, w1, (rfl).trans q0, q1, A_, K_, cX.trans cX.rfl q2, q3⟩
def c146_70 (rc : cRC) (s : cS) (y1 : Int32) (y2 : Int32) (y3 : Int32) (y5 : Int32) : Option (cS × Option Int32) := c146_78 rc ((c78 s 1 0 0 0).1) y1 y2 y3 y5 ((c78 s 1 0 0 0).2)
theorem lc146_70 {sc : Nat × (Nat → Int32)} {N d : Nat} {A : Nat → Nat} {K : Nat} {S : am_S} {rc : cRC} {s : cS} {y1 : Int32} {y2 : Int32} {y3 : Int32} {y5 : Int32} {o4 : Option Value} (hr : RCH sc rc N) (hS : CM A K S s) : am_L (am_PP sc) N d 146 70 [some (.ref 7), some (.int y1), some (.int y2), some (.int y3), o4, some (.int y5)] [] S (fun o S1 => ∃ s1 w, c146_70 rc s y1 y2 y3 y5 = some (s1, w) ∧ o = cow w ∧ CX A K S1 s1) := by
  refine l2 (v := 7) hi_146_70 rfl ?_
  refine l0 hi_146_71 ?_
  refine l0 hi_146_72 ?_
  refine l0 hi_146_73 ?_
  refine l0 hi_146_74 ?_
  refine l32 (as := [.ref 7, .int 1, .int 0, .int 0, .int 0]) (la := [some (.ref 7), some (.int 1), some (.int 0), some (.int 0), some (.int 0)]) (rest := []) hi_146_75 (am_hd0 (M := 146) (by decide) 75) rfl rfl rfl (fun N' d' _ => lc78 (N := N') (d := d') hS ) ?_ (fun _ q => nomatch q.1)
  rintro v3 S1 ⟨ev3, h2⟩
  cases ev3
  show am_L _ _ _ _ _ [some (.ref 7), some (.int y1), some (.int y2), some (.int y3), o4, some (.int y5)] [.int ((c78 s 1 0 0 0).2)] _ _
  refine am_L.mono (lc146_78 hr h2 ) ?_
  rintro o S1 ⟨s1, w1, q0, q1, A_, K_, q2, q3⟩
  exact ⟨s1, w1, (rfl).trans q0, q1, A_, K_, cX.trans cX.rfl q2, q3⟩
def c146_48 (rc : cRC) (s : cS) (y1 : Int32) (y2 : Int32) (y3 : Int32) (z0 : Int32) : Option (cS × Option Int32) := c146_70 rc ((c74 s z0 1 y3).1) y1 y2 y3 (c75 s)
theorem lc146_48 {sc : Nat × (Nat → Int32)} {N d : Nat} {A : Nat → Nat} {K : Nat} {S : am_S} {rc : cRC} {s : cS} {y1 : Int32} {y2 : Int32} {y3 : Int32} {z0 : Int32} {o4 : Option Value} {o5 : Option Value} (hr : RCH sc rc N) (hS : CM A K S s) : am_L (am_PP sc) N d 146 48 [some (.ref 7), some (.int y1), some (.int y2), some (.int y3), o4, o5] [.int z0] S (fun o S1 => ∃ s1 w, c146_48 rc s y1 y2 y3 z0 = some (s1, w) ∧ o = cow w ∧ CX A K S1 s1) := by
  refine l3 (ls' := [some (.ref 7), some (.int y1), some (.int y2), some (.int y3), some (.int z0), o5]) hi_146_48 (Nat.le_of_ble_eq_true rfl) rfl ?_
  refine l2 (v := 7) hi_146_50 rfl ?_
  refine l20s (v := .ref 12) hS cs_7 hi_146_51 rfl ?_
  refine l32 (as := [.ref 12]) (la := [some (.ref 12)]) (rest := []) hi_146_54 (am_hd0 (M := 146) (by decide) 54) rfl rfl rfl (fun N' d' _ => lc75 (N := N') (d := d') hS ) ?_ (fun _ q => nomatch q.1)
  rintro v3 S1 ⟨ev3, h2⟩
  cases ev3
  show am_L _ _ _ _ _ [some (.ref 7), some (.int y1), some (.int y2), some (.int y3), some (.int z0), o5] [.int (c75 s)] _ _
  refine l3 (ls' := [some (.ref 7), some (.int y1), some (.int y2), some (.int y3), some (.int z0), some (.int (c75 s))]) hi_146_57 (Nat.le_of_ble_eq_true rfl) rfl ?_
  refine l2 (v := 7) hi_146_59 rfl ?_
  refine l20s (v := .ref 12) h2 cs_7 hi_146_60 rfl ?_
  refine l1 (v := z0) hi_146_63 rfl ?_
  refine l0 hi_146_65 ?_
  refine l1 (v := y3) hi_146_66 rfl ?_
  refine l32 (as := [.ref 12, .int z0, .int 1, .int y3]) (la := [some (.ref 12), some (.int z0), some (.int 1), some (.int y3)]) (rest := []) hi_146_67 (am_hd0 (M := 146) (by decide) 67) rfl rfl rfl (fun N' d' _ => lc74 (N := N') (d := d') h2 ) ?_ (fun _ q => nomatch q.1)
  rintro v6 S4 ⟨ev6, h5⟩
  cases ev6
  show am_L _ _ _ _ _ [some (.ref 7), some (.int y1), some (.int y2), some (.int y3), some (.int z0), some (.int (c75 s))] [] _ _
  refine am_L.mono (lc146_70 hr h5 ) ?_
  rintro o S1 ⟨s1, w1, q0, q1, A_, K_, q2, q3⟩
  exact ⟨s1, w1, (rfl).trans q0, q1, A_, K_, cX.trans cX.rfl q2, q3⟩
def c146_31 (rc : cRC) (s : cS) (y1 : Int32) (y2 : Int32) (z0 : Int32) : Option (cS × Option Int32) := rbd (some (c64 s 1)) (fun _ w7 => c146_48 rc ((c64 s 1).1) y1 y2 (c63 s) w7)
theorem lc146_31 {sc : Nat × (Nat → Int32)} {N d : Nat} {A : Nat → Nat} {K : Nat} {S : am_S} {rc : cRC} {s : cS} {y1 : Int32} {y2 : Int32} {z0 : Int32} {o3 : Option Value} {o4 : Option Value} {o5 : Option Value} (hr : RCH sc rc N) (hS : CM A K S s) : am_L (am_PP sc) N d 146 31 [some (.ref 7), some (.int y1), some (.int y2), o3, o4, o5] [.int z0] S (fun o S1 => ∃ s1 w, c146_31 rc s y1 y2 z0 = some (s1, w) ∧ o = cow w ∧ CX A K S1 s1) := by
  refine l6i hi_146_31 ?_
  refine l2 (v := 7) hi_146_32 rfl ?_
  refine l20s (v := .ref 2) hS cs_7 hi_146_33 rfl ?_
  refine l32 (as := [.ref 2]) (la := [some (.ref 2)]) (rest := []) hi_146_36 (am_hd0 (M := 146) (by decide) 36) rfl rfl rfl (fun N' d' _ => lc63 (N := N') (d := d') hS ) ?_ (fun _ q => nomatch q.1)
  rintro v3 S1 ⟨ev3, h2⟩
  cases ev3
  show am_L _ _ _ _ _ [some (.ref 7), some (.int y1), some (.int y2), o3, o4, o5] [.int (c63 s)] _ _
  refine l3 (ls' := [some (.ref 7), some (.int y1), some (.int y2), some (.int (c63 s)), o4, o5]) hi_146_39 (Nat.le_of_ble_eq_true rfl) rfl ?_
  refine l2 (v := 7) hi_146_40 rfl ?_
  refine l20s (v := .ref 2) h2 cs_7 hi_146_41 rfl ?_
  refine l0 hi_146_44 ?_
  refine l32 (as := [.ref 2, .int 1]) (la := [some (.ref 2), some (.int 1)]) (rest := []) hi_146_45 (am_hd0 (M := 146) (by decide) 45) rfl rfl rfl (fun N' d' hN_ => lc64 (N := N') (d := d') h2 ) ?_ ?_
  · rintro v6 S4 ⟨ev, h5⟩
    obtain ⟨w7, e8, rfl⟩ := cov_some ev
    show am_L _ _ _ _ _ [some (.ref 7), some (.int y1), some (.int y2), some (.int (c63 s)), o4, o5] [.int w7] _ _
    refine am_L.mono (lc146_48 hr h5 ) ?_
    rintro o S1 ⟨s1, w1, q0, q1, A_, K_, q2, q3⟩
    exact ⟨s1, w1, (show c146_31 rc s y1 y2 z0 = c146_48 rc ((c64 s 1).1) y1 y2 (c63 s) w7 from by unfold c146_31; rw [rbd_th e8]).trans q0, q1, A_, K_, cX.trans cX.rfl q2, q3⟩
  · rintro S4 ⟨q1, q2⟩
    have hn := cov_none q1
    exact ⟨_, none, (by unfold c146_31; rw [rbd_thn hn]), rfl, A, K, cX.rfl, q2⟩
def c146_15 (rc : cRC) (s : cS) (y1 : Int32) (z0 : Int32) : Option (cS × Option Int32) := rbd (some (c55 s)) (fun _ w7 => c146_31 rc ((c55 s).1) y1 (c63 s) w7)
theorem lc146_15 {sc : Nat × (Nat → Int32)} {N d : Nat} {A : Nat → Nat} {K : Nat} {S : am_S} {rc : cRC} {s : cS} {y1 : Int32} {z0 : Int32} {o2 : Option Value} {o3 : Option Value} {o4 : Option Value} {o5 : Option Value} (hr : RCH sc rc N) (hS : CM A K S s) : am_L (am_PP sc) N d 146 15 [some (.ref 7), some (.int y1), o2, o3, o4, o5] [.int z0] S (fun o S1 => ∃ s1 w, c146_15 rc s y1 z0 = some (s1, w) ∧ o = cow w ∧ CX A K S1 s1) := by
  refine l6i hi_146_15 ?_
  refine l2 (v := 7) hi_146_16 rfl ?_
  refine l20s (v := .ref 2) hS cs_7 hi_146_17 rfl ?_
  refine l32 (as := [.ref 2]) (la := [some (.ref 2)]) (rest := []) hi_146_20 (am_hd0 (M := 146) (by decide) 20) rfl rfl rfl (fun N' d' _ => lc63 (N := N') (d := d') hS ) ?_ (fun _ q => nomatch q.1)
  rintro v3 S1 ⟨ev3, h2⟩
  cases ev3
  show am_L _ _ _ _ _ [some (.ref 7), some (.int y1), o2, o3, o4, o5] [.int (c63 s)] _ _
  refine l3 (ls' := [some (.ref 7), some (.int y1), some (.int (c63 s)), o3, o4, o5]) hi_146_23 (Nat.le_of_ble_eq_true rfl) rfl ?_
  refine l2 (v := 7) hi_146_24 rfl ?_
  refine l20s (v := .ref 2) h2 cs_7 hi_146_25 rfl ?_
  refine l32 (as := [.ref 2]) (la := [some (.ref 2), none]) (rest := []) hi_146_28 (am_hd0 (M := 146) (by decide) 28) rfl rfl rfl (fun N' d' hN_ => lc55 (N := N') (d := d') h2 ) ?_ ?_
  · rintro v6 S4 ⟨ev, h5⟩
    obtain ⟨w7, e8, rfl⟩ := cov_some ev
    show am_L _ _ _ _ _ [some (.ref 7), some (.int y1), some (.int (c63 s)), o3, o4, o5] [.int w7] _ _
    refine am_L.mono (lc146_31 hr h5 ) ?_
    rintro o S1 ⟨s1, w1, q0, q1, A_, K_, q2, q3⟩
    exact ⟨s1, w1, (show c146_15 rc s y1 z0 = c146_31 rc ((c55 s).1) y1 (c63 s) w7 from by unfold c146_15; rw [rbd_th e8]).trans q0, q1, A_, K_, cX.trans cX.rfl q2, q3⟩
  · rintro S4 ⟨q1, q2⟩
    have hn := cov_none q1
    exact ⟨_, none, (by unfold c146_15; rw [rbd_thn hn]), rfl, A, K, cX.rfl, q2⟩
def c146 (rc : cRC) (s : cS) : Option (cS × Option Int32) := rbd (some (c55 s)) (fun _ w7 => c146_15 rc ((c55 s).1) (c63 s) w7)
theorem lc146 {sc : Nat × (Nat → Int32)} {N d : Nat} {A : Nat → Nat} {K : Nat} {S : am_S} {rc : cRC} {s : cS} (hr : RCH sc rc N) (hS : CM A K S s) : am_L (am_PP sc) N d 146 0 [some (.ref 7), none, none, none, none, none] [] S (fun o S1 => ∃ s1 w, c146 rc s = some (s1, w) ∧ o = cow w ∧ CX A K S1 s1) := by
  refine l2 (v := 7) hi_146_0 rfl ?_
  refine l20s (v := .ref 2) hS cs_7 hi_146_1 rfl ?_
  refine l32 (as := [.ref 2]) (la := [some (.ref 2)]) (rest := []) hi_146_4 (am_hd0 (M := 146) (by decide) 4) rfl rfl rfl (fun N' d' _ => lc63 (N := N') (d := d') hS ) ?_ (fun _ q => nomatch q.1)
  rintro v3 S1 ⟨ev3, h2⟩
  cases ev3
  show am_L _ _ _ _ _ [some (.ref 7), none, none, none, none, none] [.int (c63 s)] _ _
  refine l3 (ls' := [some (.ref 7), some (.int (c63 s)), none, none, none, none]) hi_146_7 (Nat.le_of_ble_eq_true rfl) rfl ?_
  refine l2 (v := 7) hi_146_8 rfl ?_
  refine l20s (v := .ref 2) h2 cs_7 hi_146_9 rfl ?_
  refine l32 (as := [.ref 2]) (la := [some (.ref 2), none]) (rest := []) hi_146_12 (am_hd0 (M := 146) (by decide) 12) rfl rfl rfl (fun N' d' hN_ => lc55 (N := N') (d := d') h2 ) ?_ ?_
  · rintro v6 S4 ⟨ev, h5⟩
    obtain ⟨w7, e8, rfl⟩ := cov_some ev
    show am_L _ _ _ _ _ [some (.ref 7), some (.int (c63 s)), none, none, none, none] [.int w7] _ _
    refine am_L.mono (lc146_15 hr h5 ) ?_
    rintro o S1 ⟨s1, w1, q0, q1, A_, K_, q2, q3⟩
    exact ⟨s1, w1, (show c146 rc s = c146_15 rc ((c55 s).1) (c63 s) w7 from by unfold c146; rw [rbd_th e8]).trans q0, q1, A_, K_, cX.trans cX.rfl q2, q3⟩
  · rintro S4 ⟨q1, q2⟩
    have hn := cov_none q1
    exact ⟨_, none, (by unfold c146; rw [rbd_thn hn]), rfl, A, K, cX.rfl, q2⟩
noncomputable def c147_209 (rc : cRC) (s : cS) (y3 : Int32) (y4 : Int32) : Option (cS × Option Int32) := if y3 < 0 then some (s, some 0) else some ((c78 s 28 y4 0 y3).1, some 0)
theorem lc147_209 {sc : Nat × (Nat → Int32)} {N d : Nat} {A : Nat → Nat} {K : Nat} {S : am_S} {rc : cRC} {s : cS} {y3 : Int32} {y4 : Int32} {o1 : Option Value} {o2 : Option Value} {o5 : Option Value} {o6 : Option Value} {o7 : Option Value} (hr : RCH sc rc N) (hS : CM A K S s) : am_L (am_PP sc) N d 147 209 [some (.ref 7), o1, o2, some (.int y3), some (.int y4), o5, o6, o7] [] S (fun o S1 => ∃ s1 w, c147_209 rc s y3 y4 = some (s1, w) ∧ o = cow w ∧ CX A K S1 s1) := by
  refine l1 (v := y3) hi_147_209 rfl ?_
  by_cases cn1 : y3 < 0
  · refine l12t hi_147_210 (decide_eq_true cn1) ?_
    exact l35 hi_147_224 ⟨s, some 0, (by unfold c147_209; rw [if_pos cn1]), rfl, A, K, cX.rfl, hS⟩
  · refine l12f hi_147_210 (decide_eq_false cn1) ?_
    refine l2 (v := 7) hi_147_213 rfl ?_
    refine l0 hi_147_214 ?_
    refine l1 (v := y4) hi_147_216 rfl ?_
    refine l0 hi_147_218 ?_
    refine l1 (v := y3) hi_147_219 rfl ?_
    refine l32 (as := [.ref 7, .int 28, .int y4, .int 0, .int y3]) (la := [some (.ref 7), some (.int 28), some (.int y4), some (.int 0), some (.int y3)]) (rest := []) hi_147_220 (am_hd0 (M := 147) (by decide) 220) rfl rfl rfl (fun N' d' _ => lc78 (N := N') (d := d') hS ) ?_ (fun _ q => nomatch q.1)
    rintro v4 S2 ⟨ev4, h3⟩
    cases ev4
    show am_L _ _ _ _ _ [some (.ref 7), o1, o2, some (.int y3), some (.int y4), o5, o6, o7] [.int ((c78 s 28 y4 0 y3).2)] _ _
    refine l6i hi_147_223 ?_
    exact l35 hi_147_224 ⟨(c78 s 28 y4 0 y3).1, some 0, (by unfold c147_209; rw [if_neg cn1]), rfl, A, K, cX.rfl, h3⟩
noncomputable def c147_200 (rc : cRC) (s : cS) (y2 : Int32) (y3 : Int32) (y4 : Int32) (z0 : Int32) : Option (cS × Option Int32) := c147_209 rc ((c149 s y2).1) y3 y4
theorem lc147_200 {sc : Nat × (Nat → Int32)} {N d : Nat} {A : Nat → Nat} {K : Nat} {S : am_S} {rc : cRC} {s : cS} {y2 : Int32} {y3 : Int32} {y4 : Int32} {z0 : Int32} {o1 : Option Value} {o5 : Option Value} {o6 : Option Value} {o7 : Option Value} (hr : RCH sc rc N) (hS : CM A K S s) : am_L (am_PP sc) N d 147 200 [some (.ref 7), o1, some (.int y2), some (.int y3), some (.int y4), o5, o6, o7] [.int z0] S (fun o S1 => ∃ s1 w, c147_200 rc s y2 y3 y4 z0 = some (s1, w) ∧ o = cow w ∧ CX A K S1 s1) := by
  refine l6i hi_147_200 ?_
  refine l2 (v := 7) hi_147_201 rfl ?_
  refine l20s (v := .ref 12) hS cs_7 hi_147_202 rfl ?_
  refine l1 (v := y2) hi_147_205 rfl ?_
  refine l32 (as := [.ref 12, .int y2]) (la := [some (.ref 12), some (.int y2), none]) (rest := []) hi_147_206 (am_hd0 (M := 147) (by decide) 206) rfl rfl rfl (fun N' d' _ => lc149 (N := N') (d := d') hS ) ?_ (fun _ q => nomatch q.1)
  rintro v3 S1 ⟨ev3, h2⟩
  cases ev3
  show am_L _ _ _ _ _ [some (.ref 7), o1, some (.int y2), some (.int y3), some (.int y4), o5, o6, o7] [] _ _
  refine am_L.mono (lc147_209 hr h2 ) ?_
  rintro o S1 ⟨s1, w1, q0, q1, A_, K_, q2, q3⟩
  exact ⟨s1, w1, (rfl).trans q0, q1, A_, K_, cX.trans cX.rfl q2, q3⟩
noncomputable def c147_190 (rc : cRC) (s : cS) (y1 : Int32) (y2 : Int32) (y3 : Int32) (y4 : Int32) (y6 : Int32) : Option (cS × Option Int32) := c147_200 rc ((c78 s 27 y2 y6 y1).1) y2 y3 y4 ((c78 s 27 y2 y6 y1).2)
theorem lc147_190 {sc : Nat × (Nat → Int32)} {N d : Nat} {A : Nat → Nat} {K : Nat} {S : am_S} {rc : cRC} {s : cS} {y1 : Int32} {y2 : Int32} {y3 : Int32} {y4 : Int32} {y6 : Int32} {o5 : Option Value} {o7 : Option Value} (hr : RCH sc rc N) (hS : CM A K S s) : am_L (am_PP sc) N d 147 190 [some (.ref 7), some (.int y1), some (.int y2), some (.int y3), some (.int y4), o5, some (.int y6), o7] [] S (fun o S1 => ∃ s1 w, c147_190 rc s y1 y2 y3 y4 y6 = some (s1, w) ∧ o = cow w ∧ CX A K S1 s1) := by
  refine l2 (v := 7) hi_147_190 rfl ?_
  refine l0 hi_147_191 ?_
  refine l1 (v := y2) hi_147_193 rfl ?_
  refine l1 (v := y6) hi_147_194 rfl ?_
  refine l1 (v := y1) hi_147_196 rfl ?_
  refine l32 (as := [.ref 7, .int 27, .int y2, .int y6, .int y1]) (la := [some (.ref 7), some (.int 27), some (.int y2), some (.int y6), some (.int y1)]) (rest := []) hi_147_197 (am_hd0 (M := 147) (by decide) 197) rfl rfl rfl (fun N' d' _ => lc78 (N := N') (d := d') hS ) ?_ (fun _ q => nomatch q.1)
  rintro v3 S1 ⟨ev3, h2⟩
  cases ev3
  show am_L _ _ _ _ _ [some (.ref 7), some (.int y1), some (.int y2), some (.int y3), some (.int y4), o5, some (.int y6), o7] [.int ((c78 s 27 y2 y6 y1).2)] _ _
  refine am_L.mono (lc147_200 hr h2 ) ?_
  rintro o S1 ⟨s1, w1, q0, q1, A_, K_, q2, q3⟩
  exact ⟨s1, w1, (rfl).trans q0, q1, A_, K_, cX.trans cX.rfl q2, q3⟩
noncomputable def c147_182 (rc : cRC) (s : cS) (y1 : Int32) (y2 : Int32) (y3 : Int32) (y4 : Int32) (y6 : Int32) (y7 : Int32) : Option (cS × Option Int32) := c147_190 rc ((c117 s y6 y7).1) y1 y2 y3 y4 y6
theorem lc147_182 {sc : Nat × (Nat → Int32)} {N d : Nat} {A : Nat → Nat} {K : Nat} {S : am_S} {rc : cRC} {s : cS} {y1 : Int32} {y2 : Int32} {y3 : Int32} {y4 : Int32} {y6 : Int32} {y7 : Int32} {o5 : Option Value} (hr : RCH sc rc N) (hS : CM A K S s) : am_L (am_PP sc) N d 147 182 [some (.ref 7), some (.int y1), some (.int y2), some (.int y3), some (.int y4), o5, some (.int y6), some (.int y7)] [] S (fun o S1 => ∃ s1 w, c147_182 rc s y1 y2 y3 y4 y6 y7 = some (s1, w) ∧ o = cow w ∧ CX A K S1 s1) := by
  refine l2 (v := 7) hi_147_182 rfl ?_
  refine l1 (v := y6) hi_147_183 rfl ?_
  refine l1 (v := y7) hi_147_185 rfl ?_
  refine l32 (as := [.ref 7, .int y6, .int y7]) (la := [some (.ref 7), some (.int y6), some (.int y7), none]) (rest := []) hi_147_187 (am_hd0 (M := 147) (by decide) 187) rfl rfl rfl (fun N' d' _ => lc117 (N := N') (d := d') hS ) ?_ (fun _ q => nomatch q.1)
  rintro v3 S1 ⟨ev3, h2⟩
  cases ev3
  show am_L _ _ _ _ _ [some (.ref 7), some (.int y1), some (.int y2), some (.int y3), some (.int y4), o5, some (.int y6), some (.int y7)] [] _ _
  refine am_L.mono (lc147_190 hr h2 ) ?_
  rintro o S1 ⟨s1, w1, q0, q1, A_, K_, q2, q3⟩
  exact ⟨s1, w1, (rfl).trans q0, q1, A_, K_, cX.trans cX.rfl q2, q3⟩
noncomputable def c147_180 (rc : cRC) (s : cS) (y1 : Int32) (y2 : Int32) (y3 : Int32) (y4 : Int32) (y6 : Int32) (z0 : Int32) : Option (cS × Option Int32) := c147_182 rc s y1 y2 y3 y4 y6 z0
theorem lc147_180 {sc : Nat × (Nat → Int32)} {N d : Nat} {A : Nat → Nat} {K : Nat} {S : am_S} {rc : cRC} {s : cS} {y1 : Int32} {y2 : Int32} {y3 : Int32} {y4 : Int32} {y6 : Int32} {z0 : Int32} {o5 : Option Value} {o7 : Option Value} (hr : RCH sc rc N) (hS : CM A K S s) : am_L (am_PP sc) N d 147 180 [some (.ref 7), some (.int y1), some (.int y2), some (.int y3), some (.int y4), o5, some (.int y6), o7] [.int z0] S (fun o S1 => ∃ s1 w, c147_180 rc s y1 y2 y3 y4 y6 z0 = some (s1, w) ∧ o = cow w ∧ CX A K S1 s1) := by
  refine l3 (ls' := [some (.ref 7), some (.int y1), some (.int y2), some (.int y3), some (.int y4), o5, some (.int y6), some (.int z0)]) hi_147_180 (Nat.le_of_ble_eq_true rfl) rfl ?_
  refine am_L.mono (lc147_182 hr hS ) ?_
  rintro o S1 ⟨s1, w1, q0, q1, A_, K_, q2, q3⟩
  exact ⟨s1, w1, (rfl).trans q0, q1, A_, K_, cX.trans cX.rfl q2, q3⟩
noncomputable def c147_175 (rc : cRC) (s : cS) (y1 : Int32) (y2 : Int32) (y3 : Int32) (y4 : Int32) (y6 : Int32) (z0 : Int32) : Option (cS × Option Int32) := rbd (rc 112 s 0 0 0 0 0 0 0) (fun s6 w4 => c147_180 rc s6 y1 y2 y3 y4 y6 w4)
theorem lc147_175 {sc : Nat × (Nat → Int32)} {N d : Nat} {A : Nat → Nat} {K : Nat} {S : am_S} {rc : cRC} {s : cS} {y1 : Int32} {y2 : Int32} {y3 : Int32} {y4 : Int32} {y6 : Int32} {z0 : Int32} {o5 : Option Value} {o7 : Option Value} (hr : RCH sc rc N) (hS : CM A K S s) : am_L (am_PP sc) N d 147 175 [some (.ref 7), some (.int y1), some (.int y2), some (.int y3), some (.int y4), o5, some (.int y6), o7] [.int z0] S (fun o S1 => ∃ s1 w, c147_175 rc s y1 y2 y3 y4 y6 z0 = some (s1, w) ∧ o = cow w ∧ CX A K S1 s1) := by
  refine l6i hi_147_175 ?_
  refine l2 (v := 7) hi_147_176 rfl ?_
  refine l32 (as := [.ref 7]) (la := [some (.ref 7), none, none, none]) (rest := []) hi_147_177 (am_hd0 (M := 147) (by decide) 177) rfl rfl rfl (fun N' d' hN_ => hr.h112 (N' := N') (d := d') hN_ hS) ?_ ?_
  · rintro v3 S1 ⟨s6, w_, e5, q1, A7, K8, x9, h2⟩
    obtain ⟨w4, rfl, rfl⟩ := cov_some q1
    show am_L _ _ _ _ _ [some (.ref 7), some (.int y1), some (.int y2), some (.int y3), some (.int y4), o5, some (.int y6), o7] [.int w4] _ _
    refine am_L.mono (lc147_180 hr h2 ) ?_
    rintro o S1 ⟨s1, w1, q0, q1, A_, K_, q2, q3⟩
    exact ⟨s1, w1, (show c147_175 rc s y1 y2 y3 y4 y6 z0 = c147_180 rc s6 y1 y2 y3 y4 y6 w4 from by unfold c147_175; rw [rbd_s e5]).trans q0, q1, A_, K_, cX.trans (cX.trans cX.rfl x9) q2, q3⟩
  · rintro S1 ⟨s1, w1, q0, q1, A_, K_, q2, q3⟩
    obtain rfl := cov_none q1
    exact ⟨s1, none, (by unfold c147_175; rw [rbd_n q0]), rfl, A_, K_, cX.trans cX.rfl q2, q3⟩
noncomputable def c147_142 (rc : cRC) (s : cS) (y1 : Int32) (y2 : Int32) (y3 : Int32) (y4 : Int32) : Option (cS × Option Int32) := if (c53 s) ≠ 59 then c147_182 rc s y1 y2 y3 y4 ((c75 s) - y2) 0 else rbd (some (c55 s)) (fun _ w11 => c147_175 rc ((c55 s).1) y1 y2 y3 y4 ((c75 s) - y2) w11)
theorem lc147_142 {sc : Nat × (Nat → Int32)} {N d : Nat} {A : Nat → Nat} {K : Nat} {S : am_S} {rc : cRC} {s : cS} {y1 : Int32} {y2 : Int32} {y3 : Int32} {y4 : Int32} {o5 : Option Value} {o6 : Option Value} {o7 : Option Value} (hr : RCH sc rc N) (hS : CM A K S s) : am_L (am_PP sc) N d 147 142 [some (.ref 7), some (.int y1), some (.int y2), some (.int y3), some (.int y4), o5, o6, o7] [] S (fun o S1 => ∃ s1 w, c147_142 rc s y1 y2 y3 y4 = some (s1, w) ∧ o = cow w ∧ CX A K S1 s1) := by
  refine l2 (v := 7) hi_147_142 rfl ?_
  refine l20s (v := .ref 12) hS cs_7 hi_147_143 rfl ?_
  refine l32 (as := [.ref 12]) (la := [some (.ref 12)]) (rest := []) hi_147_146 (am_hd0 (M := 147) (by decide) 146) rfl rfl rfl (fun N' d' _ => lc75 (N := N') (d := d') hS ) ?_ (fun _ q => nomatch q.1)
  rintro v3 S1 ⟨ev3, h2⟩
  cases ev3
  show am_L _ _ _ _ _ [some (.ref 7), some (.int y1), some (.int y2), some (.int y3), some (.int y4), o5, o6, o7] [.int (c75 s)] _ _
  refine l1 (v := y2) hi_147_149 rfl ?_
  refine l10 hi_147_150 ?_
  show am_L _ _ _ _ _ [some (.ref 7), some (.int y1), some (.int y2), some (.int y3), some (.int y4), o5, o6, o7] [.int ((c75 s) - y2)] _ _
  refine l3 (ls' := [some (.ref 7), some (.int y1), some (.int y2), some (.int y3), some (.int y4), o5, some (.int ((c75 s) - y2)), o7]) hi_147_151 (Nat.le_of_ble_eq_true rfl) rfl ?_
  refine l0 hi_147_153 ?_
  refine l3 (ls' := [some (.ref 7), some (.int y1), some (.int y2), some (.int y3), some (.int y4), o5, some (.int ((c75 s) - y2)), some (.int 0)]) hi_147_154 (Nat.le_of_ble_eq_true rfl) rfl ?_
  refine l2 (v := 7) hi_147_156 rfl ?_
  refine l20s (v := .ref 2) h2 cs_7 hi_147_157 rfl ?_
  refine l32 (as := [.ref 2]) (la := [some (.ref 2)]) (rest := []) hi_147_160 (am_hd0 (M := 147) (by decide) 160) rfl rfl rfl (fun N' d' _ => lc53 (N := N') (d := d') h2 ) ?_ (fun _ q => nomatch q.1)
  rintro v6 S4 ⟨ev6, h5⟩
  cases ev6
  show am_L _ _ _ _ _ [some (.ref 7), some (.int y1), some (.int y2), some (.int y3), some (.int y4), o5, some (.int ((c75 s) - y2)), some (.int 0)] [.int (c53 s)] _ _
  refine l0 hi_147_163 ?_
  by_cases cn7 : (c53 s) ≠ 59
  · refine l13t hi_147_165 (decide_eq_true cn7) ?_
    refine am_L.mono (lc147_182 hr h5 ) ?_
    rintro o S1 ⟨s1, w1, q0, q1, A_, K_, q2, q3⟩
    exact ⟨s1, w1, (show c147_142 rc s y1 y2 y3 y4 = c147_182 rc s y1 y2 y3 y4 ((c75 s) - y2) 0 from by unfold c147_142; rw [if_pos cn7]).trans q0, q1, A_, K_, cX.trans cX.rfl q2, q3⟩
  · refine l13f hi_147_165 (decide_eq_false cn7) ?_
    refine l2 (v := 7) hi_147_168 rfl ?_
    refine l20s (v := .ref 2) h5 cs_7 hi_147_169 rfl ?_
    refine l32 (as := [.ref 2]) (la := [some (.ref 2), none]) (rest := []) hi_147_172 (am_hd0 (M := 147) (by decide) 172) rfl rfl rfl (fun N' d' hN_ => lc55 (N := N') (d := d') h5 ) ?_ ?_
    · rintro v10 S8 ⟨ev, h9⟩
      obtain ⟨w11, e12, rfl⟩ := cov_some ev
      show am_L _ _ _ _ _ [some (.ref 7), some (.int y1), some (.int y2), some (.int y3), some (.int y4), o5, some (.int ((c75 s) - y2)), some (.int 0)] [.int w11] _ _
      refine am_L.mono (lc147_175 hr h9 ) ?_
      rintro o S1 ⟨s1, w1, q0, q1, A_, K_, q2, q3⟩
      exact ⟨s1, w1, (show c147_142 rc s y1 y2 y3 y4 = c147_175 rc ((c55 s).1) y1 y2 y3 y4 ((c75 s) - y2) w11 from by unfold c147_142; rw [if_neg cn7]; rw [rbd_th e12]).trans q0, q1, A_, K_, cX.trans cX.rfl q2, q3⟩
    · rintro S8 ⟨q1, q2⟩
      have hn := cov_none q1
      exact ⟨_, none, (by unfold c147_142; rw [if_neg cn7]; rw [rbd_thn hn]), rfl, A, K, cX.rfl, q2⟩
noncomputable def c147_134 (rc : cRC) (s : cS) (y1 : Int32) (y2 : Int32) (y3 : Int32) (y4 : Int32) (y6 : Int32) (z0 : Int32) : Option (cS × Option Int32) := rc 147027 s 0 y1 y2 y3 y4 z0 (y6 + 1)
theorem lc147_134 {sc : Nat × (Nat → Int32)} {N d : Nat} {A : Nat → Nat} {K : Nat} {S : am_S} {rc : cRC} {s : cS} {y1 : Int32} {y2 : Int32} {y3 : Int32} {y4 : Int32} {y6 : Int32} {z0 : Int32} {o5 : Option Value} {o7 : Option Value} (hr : RCH sc rc (N + 1)) (hS : CM A K S s) : am_L (am_PP sc) N d 147 134 [some (.ref 7), some (.int y1), some (.int y2), some (.int y3), some (.int y4), o5, some (.int y6), o7] [.int z0] S (fun o S1 => ∃ s1 w, c147_134 rc s y1 y2 y3 y4 y6 z0 = some (s1, w) ∧ o = cow w ∧ CX A K S1 s1) := by
  refine l3 (ls' := [some (.ref 7), some (.int y1), some (.int y2), some (.int y3), some (.int y4), some (.int z0), some (.int y6), o7]) hi_147_134 (Nat.le_of_ble_eq_true rfl) rfl ?_
  refine l5 (v := y6) (ls' := [some (.ref 7), some (.int y1), some (.int y2), some (.int y3), some (.int y4), some (.int z0), some (.int (y6 + 1)), o7]) hi_147_136 rfl rfl ?_
  refine l18 hi_147_139 ?_
  refine am_L.mono (hr.h147027 (N' := N) (o7 := o7) (Nat.lt_succ_self _) hS) ?_
  rintro o S1 ⟨s1, w1, q0, q1, A_, K_, q2, q3⟩
  exact ⟨s1, w1, (show c147_134 rc s y1 y2 y3 y4 y6 z0 = rc 147027 s 0 y1 y2 y3 y4 z0 (y6 + 1) from rfl).trans q0, q1, A_, K_, cX.trans cX.rfl q2, q3⟩
noncomputable def c147_117 (rc : cRC) (s : cS) (y1 : Int32) (y2 : Int32) (y3 : Int32) (y4 : Int32) (y6 : Int32) : Option (cS × Option Int32) := if (c53 s) ≠ 69 then c147_134 rc s y1 y2 y3 y4 y6 0 else c147_134 rc s y1 y2 y3 y4 y6 1
theorem lc147_117 {sc : Nat × (Nat → Int32)} {N d : Nat} {A : Nat → Nat} {K : Nat} {S : am_S} {rc : cRC} {s : cS} {y1 : Int32} {y2 : Int32} {y3 : Int32} {y4 : Int32} {y6 : Int32} {o5 : Option Value} {o7 : Option Value} (hr : RCH sc rc (N + 1)) (hS : CM A K S s) : am_L (am_PP sc) N d 147 117 [some (.ref 7), some (.int y1), some (.int y2), some (.int y3), some (.int y4), o5, some (.int y6), o7] [] S (fun o S1 => ∃ s1 w, c147_117 rc s y1 y2 y3 y4 y6 = some (s1, w) ∧ o = cow w ∧ CX A K S1 s1) := by
  refine l2 (v := 7) hi_147_117 rfl ?_
  refine l20s (v := .ref 2) hS cs_7 hi_147_118 rfl ?_
  refine l32 (as := [.ref 2]) (la := [some (.ref 2)]) (rest := []) hi_147_121 (am_hd0 (M := 147) (by decide) 121) rfl rfl rfl (fun N' d' _ => lc53 (N := N') (d := d') hS ) ?_ (fun _ q => nomatch q.1)
  rintro v3 S1 ⟨ev3, h2⟩
  cases ev3
  show am_L _ _ _ _ _ [some (.ref 7), some (.int y1), some (.int y2), some (.int y3), some (.int y4), o5, some (.int y6), o7] [.int (c53 s)] _ _
  refine l0 hi_147_124 ?_
  by_cases cn4 : (c53 s) ≠ 69
  · refine l13t hi_147_126 (decide_eq_true cn4) ?_
    refine l0 hi_147_133 ?_
    refine am_L.mono (lc147_134 hr h2 ) ?_
    rintro o S1 ⟨s1, w1, q0, q1, A_, K_, q2, q3⟩
    exact ⟨s1, w1, (show c147_117 rc s y1 y2 y3 y4 y6 = c147_134 rc s y1 y2 y3 y4 y6 0 from by unfold c147_117; rw [if_pos cn4]).trans q0, q1, A_, K_, cX.trans cX.rfl q2, q3⟩
  · refine l13f hi_147_126 (decide_eq_false cn4) ?_
    refine l0 hi_147_129 ?_
    refine l18 hi_147_130 ?_
    refine am_L.mono (lc147_134 hr h2 ) ?_
    rintro o S1 ⟨s1, w1, q0, q1, A_, K_, q2, q3⟩
    exact ⟨s1, w1, (show c147_117 rc s y1 y2 y3 y4 y6 = c147_134 rc s y1 y2 y3 y4 y6 1 from by unfold c147_117; rw [if_neg cn4]).trans q0, q1, A_, K_, cX.trans cX.rfl q2, q3⟩
noncomputable def c147_100 (rc : cRC) (s : cS) (y1 : Int32) (y2 : Int32) (y3 : Int32) (y4 : Int32) (y6 : Int32) (y7 : Int32) (z0 : Int32) : Option (cS × Option Int32) := if z0 = 0 then c147_117 rc s y1 y2 y3 y4 y6 else c147_117 rc s y1 y2 y7 ((c75 s) - 1) y6
theorem lc147_100 {sc : Nat × (Nat → Int32)} {N d : Nat} {A : Nat → Nat} {K : Nat} {S : am_S} {rc : cRC} {s : cS} {y1 : Int32} {y2 : Int32} {y3 : Int32} {y4 : Int32} {y6 : Int32} {y7 : Int32} {z0 : Int32} {o5 : Option Value} (hr : RCH sc rc (N + 1)) (hS : CM A K S s) : am_L (am_PP sc) N d 147 100 [some (.ref 7), some (.int y1), some (.int y2), some (.int y3), some (.int y4), o5, some (.int y6), some (.int y7)] [.int z0] S (fun o S1 => ∃ s1 w, c147_100 rc s y1 y2 y3 y4 y6 y7 z0 = some (s1, w) ∧ o = cow w ∧ CX A K S1 s1) := by
  by_cases cn1 : z0 = 0
  · refine l12t hi_147_100 (decide_eq_true cn1) ?_
    refine am_L.mono (lc147_117 hr hS ) ?_
    rintro o S1 ⟨s1, w1, q0, q1, A_, K_, q2, q3⟩
    exact ⟨s1, w1, (show c147_100 rc s y1 y2 y3 y4 y6 y7 z0 = c147_117 rc s y1 y2 y3 y4 y6 from by unfold c147_100; rw [if_pos cn1]).trans q0, q1, A_, K_, cX.trans cX.rfl q2, q3⟩
  · refine l12f hi_147_100 (decide_eq_false cn1) ?_
    refine l1 (v := y7) hi_147_103 rfl ?_
    refine l3 (ls' := [some (.ref 7), some (.int y1), some (.int y2), some (.int y7), some (.int y4), o5, some (.int y6), some (.int y7)]) hi_147_105 (Nat.le_of_ble_eq_true rfl) rfl ?_
    refine l2 (v := 7) hi_147_106 rfl ?_
    refine l20s (v := .ref 12) hS cs_7 hi_147_107 rfl ?_
    refine l32 (as := [.ref 12]) (la := [some (.ref 12)]) (rest := []) hi_147_110 (am_hd0 (M := 147) (by decide) 110) rfl rfl rfl (fun N' d' _ => lc75 (N := N') (d := d') hS ) ?_ (fun _ q => nomatch q.1)
    rintro v4 S2 ⟨ev4, h3⟩
    cases ev4
    show am_L _ _ _ _ _ [some (.ref 7), some (.int y1), some (.int y2), some (.int y7), some (.int y4), o5, some (.int y6), some (.int y7)] [.int (c75 s)] _ _
    refine l0 hi_147_113 ?_
    refine l10 hi_147_114 ?_
    show am_L _ _ _ _ _ [some (.ref 7), some (.int y1), some (.int y2), some (.int y7), some (.int y4), o5, some (.int y6), some (.int y7)] [.int ((c75 s) - 1)] _ _
    refine l3 (ls' := [some (.ref 7), some (.int y1), some (.int y2), some (.int y7), some (.int ((c75 s) - 1)), o5, some (.int y6), some (.int y7)]) hi_147_115 (Nat.le_of_ble_eq_true rfl) rfl ?_
    refine am_L.mono (lc147_117 hr h3 ) ?_
    rintro o S1 ⟨s1, w1, q0, q1, A_, K_, q2, q3⟩
    exact ⟨s1, w1, (show c147_100 rc s y1 y2 y3 y4 y6 y7 z0 = c147_117 rc s y1 y2 y7 ((c75 s) - 1) y6 from by unfold c147_100; rw [if_neg cn1]).trans q0, q1, A_, K_, cX.trans cX.rfl q2, q3⟩
noncomputable def c147_97 (rc : cRC) (s : cS) (y1 : Int32) (y2 : Int32) (y3 : Int32) (y4 : Int32) (y6 : Int32) (y7 : Int32) (z0 : Int32) : Option (cS × Option Int32) := rbd (some (c148 s z0)) (fun _ w4 => c147_100 rc ((c148 s z0).1) y1 y2 y3 y4 y6 y7 w4)
theorem lc147_97 {sc : Nat × (Nat → Int32)} {N d : Nat} {A : Nat → Nat} {K : Nat} {S : am_S} {rc : cRC} {s : cS} {y1 : Int32} {y2 : Int32} {y3 : Int32} {y4 : Int32} {y6 : Int32} {y7 : Int32} {z0 : Int32} {o5 : Option Value} (hr : RCH sc rc (N + 1)) (hS : CM A K S s) : am_L (am_PP sc) N d 147 97 [some (.ref 7), some (.int y1), some (.int y2), some (.int y3), some (.int y4), o5, some (.int y6), some (.int y7)] [.int z0, .ref 7] S (fun o S1 => ∃ s1 w, c147_97 rc s y1 y2 y3 y4 y6 y7 z0 = some (s1, w) ∧ o = cow w ∧ CX A K S1 s1) := by
  refine l32 (as := [.ref 7, .int z0]) (la := [some (.ref 7), some (.int z0), none, none, none]) (rest := []) hi_147_97 (am_hd0 (M := 147) (by decide) 97) rfl rfl rfl (fun N' d' hN_ => lc148 (N := N') (d := d') hS ) ?_ ?_
  · rintro v3 S1 ⟨ev, h2⟩
    obtain ⟨w4, e5, rfl⟩ := cov_some ev
    show am_L _ _ _ _ _ [some (.ref 7), some (.int y1), some (.int y2), some (.int y3), some (.int y4), o5, some (.int y6), some (.int y7)] [.int w4] _ _
    refine am_L.mono (lc147_100 hr h2 ) ?_
    rintro o S1 ⟨s1, w1, q0, q1, A_, K_, q2, q3⟩
    exact ⟨s1, w1, (show c147_97 rc s y1 y2 y3 y4 y6 y7 z0 = c147_100 rc ((c148 s z0).1) y1 y2 y3 y4 y6 y7 w4 from by unfold c147_97; rw [rbd_th e5]).trans q0, q1, A_, K_, cX.trans cX.rfl q2, q3⟩
  · rintro S1 ⟨q1, q2⟩
    have hn := cov_none q1
    exact ⟨_, none, (by unfold c147_97; rw [rbd_thn hn]), rfl, A, K, cX.rfl, q2⟩
noncomputable def c147_75 (rc : cRC) (s : cS) (y1 : Int32) (y2 : Int32) (y3 : Int32) (y4 : Int32) (y6 : Int32) (y7 : Int32) : Option (cS × Option Int32) := if (c53 s) ≠ 57 then c147_117 rc s y1 y2 y3 y4 y6 else if y3 < 0 then c147_97 rc s y1 y2 y3 y4 y6 y7 0 else c147_97 rc s y1 y2 y3 y4 y6 y7 1
theorem lc147_75 {sc : Nat × (Nat → Int32)} {N d : Nat} {A : Nat → Nat} {K : Nat} {S : am_S} {rc : cRC} {s : cS} {y1 : Int32} {y2 : Int32} {y3 : Int32} {y4 : Int32} {y6 : Int32} {y7 : Int32} {o5 : Option Value} (hr : RCH sc rc (N + 1)) (hS : CM A K S s) : am_L (am_PP sc) N d 147 75 [some (.ref 7), some (.int y1), some (.int y2), some (.int y3), some (.int y4), o5, some (.int y6), some (.int y7)] [] S (fun o S1 => ∃ s1 w, c147_75 rc s y1 y2 y3 y4 y6 y7 = some (s1, w) ∧ o = cow w ∧ CX A K S1 s1) := by
  refine l2 (v := 7) hi_147_75 rfl ?_
  refine l20s (v := .ref 2) hS cs_7 hi_147_76 rfl ?_
  refine l32 (as := [.ref 2]) (la := [some (.ref 2)]) (rest := []) hi_147_79 (am_hd0 (M := 147) (by decide) 79) rfl rfl rfl (fun N' d' _ => lc53 (N := N') (d := d') hS ) ?_ (fun _ q => nomatch q.1)
  rintro v3 S1 ⟨ev3, h2⟩
  cases ev3
  show am_L _ _ _ _ _ [some (.ref 7), some (.int y1), some (.int y2), some (.int y3), some (.int y4), o5, some (.int y6), some (.int y7)] [.int (c53 s)] _ _
  refine l0 hi_147_82 ?_
  by_cases cn4 : (c53 s) ≠ 57
  · refine l13t hi_147_84 (decide_eq_true cn4) ?_
    refine am_L.mono (lc147_117 hr h2 ) ?_
    rintro o S1 ⟨s1, w1, q0, q1, A_, K_, q2, q3⟩
    exact ⟨s1, w1, (show c147_75 rc s y1 y2 y3 y4 y6 y7 = c147_117 rc s y1 y2 y3 y4 y6 from by unfold c147_75; rw [if_pos cn4]).trans q0, q1, A_, K_, cX.trans cX.rfl q2, q3⟩
  · refine l13f hi_147_84 (decide_eq_false cn4) ?_
    refine l2 (v := 7) hi_147_87 rfl ?_
    refine l1 (v := y3) hi_147_88 rfl ?_
    by_cases cn5 : y3 < 0
    · refine l12t hi_147_89 (decide_eq_true cn5) ?_
      refine l0 hi_147_96 ?_
      refine am_L.mono (lc147_97 hr h2 ) ?_
      rintro o S1 ⟨s1, w1, q0, q1, A_, K_, q2, q3⟩
      exact ⟨s1, w1, (show c147_75 rc s y1 y2 y3 y4 y6 y7 = c147_97 rc s y1 y2 y3 y4 y6 y7 0 from by unfold c147_75; rw [if_neg cn4]; rw [if_pos cn5]).trans q0, q1, A_, K_, cX.trans cX.rfl q2, q3⟩
    · refine l12f hi_147_89 (decide_eq_false cn5) ?_
      refine l0 hi_147_92 ?_
      refine l18 hi_147_93 ?_
      refine am_L.mono (lc147_97 hr h2 ) ?_
      rintro o S1 ⟨s1, w1, q0, q1, A_, K_, q2, q3⟩
      exact ⟨s1, w1, (show c147_75 rc s y1 y2 y3 y4 y6 y7 = c147_97 rc s y1 y2 y3 y4 y6 y7 1 from by unfold c147_75; rw [if_neg cn4]; rw [if_neg cn5]).trans q0, q1, A_, K_, cX.trans cX.rfl q2, q3⟩
noncomputable def c147_69 (rc : cRC) (s : cS) (y1 : Int32) (y2 : Int32) (y3 : Int32) (y4 : Int32) (y6 : Int32) (y7 : Int32) (z0 : Int32) : Option (cS × Option Int32) := c147_75 rc ((c74 s z0 0 y7).1) y1 y2 y3 y4 y6 y7
theorem lc147_69 {sc : Nat × (Nat → Int32)} {N d : Nat} {A : Nat → Nat} {K : Nat} {S : am_S} {rc : cRC} {s : cS} {y1 : Int32} {y2 : Int32} {y3 : Int32} {y4 : Int32} {y6 : Int32} {y7 : Int32} {z0 : Int32} {o5 : Option Value} (hr : RCH sc rc (N + 1)) (hS : CM A K S s) : am_L (am_PP sc) N d 147 69 [some (.ref 7), some (.int y1), some (.int y2), some (.int y3), some (.int y4), o5, some (.int y6), some (.int y7)] [.int z0, .ref 12] S (fun o S1 => ∃ s1 w, c147_69 rc s y1 y2 y3 y4 y6 y7 z0 = some (s1, w) ∧ o = cow w ∧ CX A K S1 s1) := by
  refine l0 hi_147_69 ?_
  refine l1 (v := y7) hi_147_70 rfl ?_
  refine l32 (as := [.ref 12, .int z0, .int 0, .int y7]) (la := [some (.ref 12), some (.int z0), some (.int 0), some (.int y7)]) (rest := []) hi_147_72 (am_hd0 (M := 147) (by decide) 72) rfl rfl rfl (fun N' d' _ => lc74 (N := N') (d := d') hS ) ?_ (fun _ q => nomatch q.1)
  rintro v3 S1 ⟨ev3, h2⟩
  cases ev3
  show am_L _ _ _ _ _ [some (.ref 7), some (.int y1), some (.int y2), some (.int y3), some (.int y4), o5, some (.int y6), some (.int y7)] [] _ _
  refine am_L.mono (lc147_75 hr h2 ) ?_
  rintro o S1 ⟨s1, w1, q0, q1, A_, K_, q2, q3⟩
  exact ⟨s1, w1, (rfl).trans q0, q1, A_, K_, cX.trans cX.rfl q2, q3⟩
noncomputable def c147_47 (rc : cRC) (s : cS) (y1 : Int32) (y2 : Int32) (y3 : Int32) (y4 : Int32) (y6 : Int32) (z0 : Int32) : Option (cS × Option Int32) := rbd (some (c64 s 1)) (fun _ w7 => c147_69 rc ((c64 s 1).1) y1 y2 y3 y4 y6 (c63 s) w7)
theorem lc147_47 {sc : Nat × (Nat → Int32)} {N d : Nat} {A : Nat → Nat} {K : Nat} {S : am_S} {rc : cRC} {s : cS} {y1 : Int32} {y2 : Int32} {y3 : Int32} {y4 : Int32} {y6 : Int32} {z0 : Int32} {o5 : Option Value} {o7 : Option Value} (hr : RCH sc rc (N + 1)) (hS : CM A K S s) : am_L (am_PP sc) N d 147 47 [some (.ref 7), some (.int y1), some (.int y2), some (.int y3), some (.int y4), o5, some (.int y6), o7] [.int z0] S (fun o S1 => ∃ s1 w, c147_47 rc s y1 y2 y3 y4 y6 z0 = some (s1, w) ∧ o = cow w ∧ CX A K S1 s1) := by
  refine l6i hi_147_47 ?_
  refine l2 (v := 7) hi_147_48 rfl ?_
  refine l20s (v := .ref 2) hS cs_7 hi_147_49 rfl ?_
  refine l32 (as := [.ref 2]) (la := [some (.ref 2)]) (rest := []) hi_147_52 (am_hd0 (M := 147) (by decide) 52) rfl rfl rfl (fun N' d' _ => lc63 (N := N') (d := d') hS ) ?_ (fun _ q => nomatch q.1)
  rintro v3 S1 ⟨ev3, h2⟩
  cases ev3
  show am_L _ _ _ _ _ [some (.ref 7), some (.int y1), some (.int y2), some (.int y3), some (.int y4), o5, some (.int y6), o7] [.int (c63 s)] _ _
  refine l3 (ls' := [some (.ref 7), some (.int y1), some (.int y2), some (.int y3), some (.int y4), o5, some (.int y6), some (.int (c63 s))]) hi_147_55 (Nat.le_of_ble_eq_true rfl) rfl ?_
  refine l2 (v := 7) hi_147_57 rfl ?_
  refine l20s (v := .ref 12) h2 cs_7 hi_147_58 rfl ?_
  refine l2 (v := 7) hi_147_61 rfl ?_
  refine l20s (v := .ref 2) h2 cs_7 hi_147_62 rfl ?_
  refine l0 hi_147_65 ?_
  refine l32 (as := [.ref 2, .int 1]) (la := [some (.ref 2), some (.int 1)]) (rest := [.ref 12]) hi_147_66 (am_hd0 (M := 147) (by decide) 66) rfl rfl rfl (fun N' d' hN_ => lc64 (N := N') (d := d') h2 ) ?_ ?_
  · rintro v6 S4 ⟨ev, h5⟩
    obtain ⟨w7, e8, rfl⟩ := cov_some ev
    show am_L _ _ _ _ _ [some (.ref 7), some (.int y1), some (.int y2), some (.int y3), some (.int y4), o5, some (.int y6), some (.int (c63 s))] [.int w7, .ref 12] _ _
    refine am_L.mono (lc147_69 hr h5 ) ?_
    rintro o S1 ⟨s1, w1, q0, q1, A_, K_, q2, q3⟩
    exact ⟨s1, w1, (show c147_47 rc s y1 y2 y3 y4 y6 z0 = c147_69 rc ((c64 s 1).1) y1 y2 y3 y4 y6 (c63 s) w7 from by unfold c147_47; rw [rbd_th e8]).trans q0, q1, A_, K_, cX.trans cX.rfl q2, q3⟩
  · rintro S4 ⟨q1, q2⟩
    have hn := cov_none q1
    exact ⟨_, none, (by unfold c147_47; rw [rbd_thn hn]), rfl, A, K, cX.rfl, q2⟩
noncomputable def c147_27 (rc : cRC) (s : cS) (y1 : Int32) (y2 : Int32) (y3 : Int32) (y4 : Int32) (y5 : Int32) (y6 : Int32) : Option (cS × Option Int32) := if y5 = 0 then c147_142 rc s y1 y2 y3 y4 else if 16384 < y6 then c147_142 rc s y1 y2 y3 y4 else rbd (some (c55 s)) (fun _ w6 => c147_47 rc ((c55 s).1) y1 y2 y3 y4 y6 w6)
theorem lc147_27 {sc : Nat × (Nat → Int32)} {N d : Nat} {A : Nat → Nat} {K : Nat} {S : am_S} {rc : cRC} {s : cS} {y1 : Int32} {y2 : Int32} {y3 : Int32} {y4 : Int32} {y5 : Int32} {y6 : Int32} {o7 : Option Value} (hr : RCH sc rc N) (hS : CM A K S s) : am_L (am_PP sc) N d 147 27 [some (.ref 7), some (.int y1), some (.int y2), some (.int y3), some (.int y4), some (.int y5), some (.int y6), o7] [] S (fun o S1 => ∃ s1 w, c147_27 rc s y1 y2 y3 y4 y5 y6 = some (s1, w) ∧ o = cow w ∧ CX A K S1 s1) := by
  cases N with
  | zero => exact l_zero
  | succ N =>
    refine l1d (v := y5) hi_147_27 rfl ?_
    by_cases cn1 : y5 = 0
    · refine l12t hi_147_29 (decide_eq_true cn1) ?_
      refine am_L.mono (lc147_142 (hr.less (Nat.le_succ _)) hS ) ?_
      rintro o S1 ⟨s1, w1, q0, q1, A_, K_, q2, q3⟩
      exact ⟨s1, w1, (show c147_27 rc s y1 y2 y3 y4 y5 y6 = c147_142 rc s y1 y2 y3 y4 from by unfold c147_27; rw [if_pos cn1]).trans q0, q1, A_, K_, cX.trans cX.rfl q2, q3⟩
    · refine l12f hi_147_29 (decide_eq_false cn1) ?_
      refine l1 (v := y6) hi_147_32 rfl ?_
      refine l0 hi_147_34 ?_
      by_cases cn2 : 16384 < y6
      · refine l13t hi_147_37 (decide_eq_true cn2) ?_
        refine am_L.mono (lc147_142 (hr.less (Nat.le_succ _)) hS ) ?_
        rintro o S1 ⟨s1, w1, q0, q1, A_, K_, q2, q3⟩
        exact ⟨s1, w1, (show c147_27 rc s y1 y2 y3 y4 y5 y6 = c147_142 rc s y1 y2 y3 y4 from by unfold c147_27; rw [if_neg cn1]; rw [if_pos cn2]).trans q0, q1, A_, K_, cX.trans cX.rfl q2, q3⟩
      · refine l13f hi_147_37 (decide_eq_false cn2) ?_
        refine l2 (v := 7) hi_147_40 rfl ?_
        refine l20s (v := .ref 2) hS cs_7 hi_147_41 rfl ?_
        refine l32 (as := [.ref 2]) (la := [some (.ref 2), none]) (rest := []) hi_147_44 (am_hd0 (M := 147) (by decide) 44) rfl rfl rfl (fun N' d' hN_ => lc55 (N := N') (d := d') hS ) ?_ ?_
        · rintro v5 S3 ⟨ev, h4⟩
          obtain ⟨w6, e7, rfl⟩ := cov_some ev
          show am_L _ _ _ _ _ [some (.ref 7), some (.int y1), some (.int y2), some (.int y3), some (.int y4), some (.int y5), some (.int y6), o7] [.int w6] _ _
          refine am_L.mono (lc147_47 hr h4 ) ?_
          rintro o S1 ⟨s1, w1, q0, q1, A_, K_, q2, q3⟩
          exact ⟨s1, w1, (show c147_27 rc s y1 y2 y3 y4 y5 y6 = c147_47 rc ((c55 s).1) y1 y2 y3 y4 y6 w6 from by unfold c147_27; rw [if_neg cn1]; rw [if_neg cn2]; rw [rbd_th e7]).trans q0, q1, A_, K_, cX.trans cX.rfl q2, q3⟩
        · rintro S3 ⟨q1, q2⟩
          have hn := cov_none q1
          exact ⟨_, none, (by unfold c147_27; rw [if_neg cn1]; rw [if_neg cn2]; rw [rbd_thn hn]), rfl, A, K, cX.rfl, q2⟩
noncomputable def c147 (rc : cRC) (s : cS) : Option (cS × Option Int32) := c147_27 rc s (c63 s) (c75 s) (-1) 0 1 0
theorem lc147 {sc : Nat × (Nat → Int32)} {N d : Nat} {A : Nat → Nat} {K : Nat} {S : am_S} {rc : cRC} {s : cS} (hr : RCH sc rc N) (hS : CM A K S s) : am_L (am_PP sc) N d 147 0 [some (.ref 7), none, none, none, none, none, none, none] [] S (fun o S1 => ∃ s1 w, c147 rc s = some (s1, w) ∧ o = cow w ∧ CX A K S1 s1) := by
  refine l2 (v := 7) hi_147_0 rfl ?_
  refine l20s (v := .ref 2) hS cs_7 hi_147_1 rfl ?_
  refine l32 (as := [.ref 2]) (la := [some (.ref 2)]) (rest := []) hi_147_4 (am_hd0 (M := 147) (by decide) 4) rfl rfl rfl (fun N' d' _ => lc63 (N := N') (d := d') hS ) ?_ (fun _ q => nomatch q.1)
  rintro v3 S1 ⟨ev3, h2⟩
  cases ev3
  show am_L _ _ _ _ _ [some (.ref 7), none, none, none, none, none, none, none] [.int (c63 s)] _ _
  refine l3 (ls' := [some (.ref 7), some (.int (c63 s)), none, none, none, none, none, none]) hi_147_7 (Nat.le_of_ble_eq_true rfl) rfl ?_
  refine l2 (v := 7) hi_147_8 rfl ?_
  refine l20s (v := .ref 12) h2 cs_7 hi_147_9 rfl ?_
  refine l32 (as := [.ref 12]) (la := [some (.ref 12)]) (rest := []) hi_147_12 (am_hd0 (M := 147) (by decide) 12) rfl rfl rfl (fun N' d' _ => lc75 (N := N') (d := d') h2 ) ?_ (fun _ q => nomatch q.1)
  rintro v6 S4 ⟨ev6, h5⟩
  cases ev6
  show am_L _ _ _ _ _ [some (.ref 7), some (.int (c63 s)), none, none, none, none, none, none] [.int (c75 s)] _ _
  refine l3 (ls' := [some (.ref 7), some (.int (c63 s)), some (.int (c75 s)), none, none, none, none, none]) hi_147_15 (Nat.le_of_ble_eq_true rfl) rfl ?_
  refine l0 hi_147_16 ?_
  refine l3 (ls' := [some (.ref 7), some (.int (c63 s)), some (.int (c75 s)), some (.int (-1)), none, none, none, none]) hi_147_17 (Nat.le_of_ble_eq_true rfl) rfl ?_
  refine l0 hi_147_18 ?_
  refine l3 (ls' := [some (.ref 7), some (.int (c63 s)), some (.int (c75 s)), some (.int (-1)), some (.int 0), none, none, none]) hi_147_19 (Nat.le_of_ble_eq_true rfl) rfl ?_
  refine l0 hi_147_21 ?_
  refine l3 (ls' := [some (.ref 7), some (.int (c63 s)), some (.int (c75 s)), some (.int (-1)), some (.int 0), some (.int 1), none, none]) hi_147_22 (Nat.le_of_ble_eq_true rfl) rfl ?_
  refine l0 hi_147_24 ?_
  refine l3 (ls' := [some (.ref 7), some (.int (c63 s)), some (.int (c75 s)), some (.int (-1)), some (.int 0), some (.int 1), some (.int 0), none]) hi_147_25 (Nat.le_of_ble_eq_true rfl) rfl ?_
  refine am_L.mono (lc147_27 (o7 := none) hr h5) ?_
  rintro o S1 ⟨s1, w1, q0, q1, A_, K_, q2, q3⟩
  exact ⟨s1, w1, (show c147 rc s = c147_27 rc s (c63 s) (c75 s) (-1) 0 1 0 from rfl).trans q0, q1, A_, K_, cX.trans cX.rfl q2, q3⟩
noncomputable def c150_157 (rc : cRC) (s : cS) : Option (cS × Option Int32) := if (c53 s) ≠ 67 then some (s, some 0) else rbd (some (c55 s)) (fun _ w8 => some ((c55 s).1, some 0))
theorem lc150_157 {sc : Nat × (Nat → Int32)} {N d : Nat} {A : Nat → Nat} {K : Nat} {S : am_S} {rc : cRC} {s : cS} {o1 : Option Value} {o2 : Option Value} {o3 : Option Value} (hr : RCH sc rc N) (hS : CM A K S s) : am_L (am_PP sc) N d 150 157 [some (.ref 7), o1, o2, o3] [] S (fun o S1 => ∃ s1 w, c150_157 rc s = some (s1, w) ∧ o = cow w ∧ CX A K S1 s1) := by
  refine l2 (v := 7) hi_150_157 rfl ?_
  refine l20s (v := .ref 2) hS cs_7 hi_150_158 rfl ?_
  refine l32 (as := [.ref 2]) (la := [some (.ref 2)]) (rest := []) hi_150_161 (am_hd0 (M := 150) (by decide) 161) rfl rfl rfl (fun N' d' _ => lc53 (N := N') (d := d') hS ) ?_ (fun _ q => nomatch q.1)
  rintro v3 S1 ⟨ev3, h2⟩
  cases ev3
  show am_L _ _ _ _ _ [some (.ref 7), o1, o2, o3] [.int (c53 s)] _ _
  refine l0 hi_150_164 ?_
  by_cases cn4 : (c53 s) ≠ 67
  · refine l13t hi_150_166 (decide_eq_true cn4) ?_
    exact l35 hi_150_177 ⟨s, some 0, (by unfold c150_157; rw [if_pos cn4]), rfl, A, K, cX.rfl, h2⟩
  · refine l13f hi_150_166 (decide_eq_false cn4) ?_
    refine l2 (v := 7) hi_150_169 rfl ?_
    refine l20s (v := .ref 2) h2 cs_7 hi_150_170 rfl ?_
    refine l32 (as := [.ref 2]) (la := [some (.ref 2), none]) (rest := []) hi_150_173 (am_hd0 (M := 150) (by decide) 173) rfl rfl rfl (fun N' d' hN_ => lc55 (N := N') (d := d') h2 ) ?_ ?_
    · rintro v7 S5 ⟨ev, h6⟩
      obtain ⟨w8, e9, rfl⟩ := cov_some ev
      show am_L _ _ _ _ _ [some (.ref 7), o1, o2, o3] [.int w8] _ _
      refine l6i hi_150_176 ?_
      exact l35 hi_150_177 ⟨(c55 s).1, some 0, (by unfold c150_157; rw [if_neg cn4]; rw [rbd_th e9]), rfl, A, K, cX.rfl, h6⟩
    · rintro S5 ⟨q1, q2⟩
      have hn := cov_none q1
      exact ⟨_, none, (by unfold c150_157; rw [if_neg cn4]; rw [rbd_thn hn]), rfl, A, K, cX.rfl, q2⟩
noncomputable def c150_156 (rc : cRC) (s : cS) (z0 : Int32) : Option (cS × Option Int32) := c150_157 rc s
theorem lc150_156 {sc : Nat × (Nat → Int32)} {N d : Nat} {A : Nat → Nat} {K : Nat} {S : am_S} {rc : cRC} {s : cS} {z0 : Int32} {o1 : Option Value} {o2 : Option Value} {o3 : Option Value} (hr : RCH sc rc N) (hS : CM A K S s) : am_L (am_PP sc) N d 150 156 [some (.ref 7), o1, o2, o3] [.int z0] S (fun o S1 => ∃ s1 w, c150_156 rc s z0 = some (s1, w) ∧ o = cow w ∧ CX A K S1 s1) := by
  refine l6i hi_150_156 ?_
  refine am_L.mono (lc150_157 hr hS ) ?_
  rintro o S1 ⟨s1, w1, q0, q1, A_, K_, q2, q3⟩
  exact ⟨s1, w1, (rfl).trans q0, q1, A_, K_, cX.trans cX.rfl q2, q3⟩
noncomputable def c150_143 (rc : cRC) (s : cS) (z0 : Int32) : Option (cS × Option Int32) := c150_157 rc s
theorem lc150_143 {sc : Nat × (Nat → Int32)} {N d : Nat} {A : Nat → Nat} {K : Nat} {S : am_S} {rc : cRC} {s : cS} {z0 : Int32} {o1 : Option Value} {o2 : Option Value} {o3 : Option Value} (hr : RCH sc rc N) (hS : CM A K S s) : am_L (am_PP sc) N d 150 143 [some (.ref 7), o1, o2, o3] [.int z0] S (fun o S1 => ∃ s1 w, c150_143 rc s z0 = some (s1, w) ∧ o = cow w ∧ CX A K S1 s1) := by
  refine l6i hi_150_143 ?_
  refine l18 hi_150_144 ?_
  refine am_L.mono (lc150_157 hr hS ) ?_
  rintro o S1 ⟨s1, w1, q0, q1, A_, K_, q2, q3⟩
  exact ⟨s1, w1, (rfl).trans q0, q1, A_, K_, cX.trans cX.rfl q2, q3⟩
noncomputable def c150_132 (rc : cRC) (s : cS) (y1 : Int32) (y2 : Int32) : Option (cS × Option Int32) := c150_143 rc ((c78 s 45 (y2 - 1) 1 y1).1) ((c78 s 45 (y2 - 1) 1 y1).2)
theorem lc150_132 {sc : Nat × (Nat → Int32)} {N d : Nat} {A : Nat → Nat} {K : Nat} {S : am_S} {rc : cRC} {s : cS} {y1 : Int32} {y2 : Int32} {o3 : Option Value} (hr : RCH sc rc N) (hS : CM A K S s) : am_L (am_PP sc) N d 150 132 [some (.ref 7), some (.int y1), some (.int y2), o3] [] S (fun o S1 => ∃ s1 w, c150_132 rc s y1 y2 = some (s1, w) ∧ o = cow w ∧ CX A K S1 s1) := by
  refine l2 (v := 7) hi_150_132 rfl ?_
  refine l0 hi_150_133 ?_
  refine l1 (v := y2) hi_150_135 rfl ?_
  refine l0 hi_150_136 ?_
  refine l10 hi_150_137 ?_
  show am_L _ _ _ _ _ [some (.ref 7), some (.int y1), some (.int y2), o3] [.int (y2 - 1), .int 45, .ref 7] _ _
  refine l0 hi_150_138 ?_
  refine l1 (v := y1) hi_150_139 rfl ?_
  refine l32 (as := [.ref 7, .int 45, .int (y2 - 1), .int 1, .int y1]) (la := [some (.ref 7), some (.int 45), some (.int (y2 - 1)), some (.int 1), some (.int y1)]) (rest := []) hi_150_140 (am_hd0 (M := 150) (by decide) 140) rfl rfl rfl (fun N' d' _ => lc78 (N := N') (d := d') hS ) ?_ (fun _ q => nomatch q.1)
  rintro v3 S1 ⟨ev3, h2⟩
  cases ev3
  show am_L _ _ _ _ _ [some (.ref 7), some (.int y1), some (.int y2), o3] [.int ((c78 s 45 (y2 - 1) 1 y1).2)] _ _
  refine am_L.mono (lc150_143 hr h2 ) ?_
  rintro o S1 ⟨s1, w1, q0, q1, A_, K_, q2, q3⟩
  exact ⟨s1, w1, (rfl).trans q0, q1, A_, K_, cX.trans cX.rfl q2, q3⟩
noncomputable def c150_124 (rc : cRC) (s : cS) (y1 : Int32) (y2 : Int32) (y3 : Int32) : Option (cS × Option Int32) := if y3 = 0 then c150_156 rc ((c78 s 45 y2 0 y1).1) ((c78 s 45 y2 0 y1).2) else c150_132 rc ((c96 s).1) y1 y2
theorem lc150_124 {sc : Nat × (Nat → Int32)} {N d : Nat} {A : Nat → Nat} {K : Nat} {S : am_S} {rc : cRC} {s : cS} {y1 : Int32} {y2 : Int32} {y3 : Int32} (hr : RCH sc rc N) (hS : CM A K S s) : am_L (am_PP sc) N d 150 124 [some (.ref 7), some (.int y1), some (.int y2), some (.int y3)] [] S (fun o S1 => ∃ s1 w, c150_124 rc s y1 y2 y3 = some (s1, w) ∧ o = cow w ∧ CX A K S1 s1) := by
  refine l1 (v := y3) hi_150_124 rfl ?_
  by_cases cn1 : y3 = 0
  · refine l12t hi_150_125 (decide_eq_true cn1) ?_
    refine l2 (v := 7) hi_150_147 rfl ?_
    refine l0 hi_150_148 ?_
    refine l1 (v := y2) hi_150_150 rfl ?_
    refine l0 hi_150_151 ?_
    refine l1 (v := y1) hi_150_152 rfl ?_
    refine l32 (as := [.ref 7, .int 45, .int y2, .int 0, .int y1]) (la := [some (.ref 7), some (.int 45), some (.int y2), some (.int 0), some (.int y1)]) (rest := []) hi_150_153 (am_hd0 (M := 150) (by decide) 153) rfl rfl rfl (fun N' d' _ => lc78 (N := N') (d := d') hS ) ?_ (fun _ q => nomatch q.1)
    rintro v4 S2 ⟨ev4, h3⟩
    cases ev4
    show am_L _ _ _ _ _ [some (.ref 7), some (.int y1), some (.int y2), some (.int y3)] [.int ((c78 s 45 y2 0 y1).2)] _ _
    refine am_L.mono (lc150_156 hr h3 ) ?_
    rintro o S1 ⟨s1, w1, q0, q1, A_, K_, q2, q3⟩
    exact ⟨s1, w1, (show c150_124 rc s y1 y2 y3 = c150_156 rc ((c78 s 45 y2 0 y1).1) ((c78 s 45 y2 0 y1).2) from by unfold c150_124; rw [if_pos cn1]).trans q0, q1, A_, K_, cX.trans cX.rfl q2, q3⟩
  · refine l12f hi_150_125 (decide_eq_false cn1) ?_
    refine l2 (v := 7) hi_150_128 rfl ?_
    refine l32 (as := [.ref 7]) (la := [some (.ref 7)]) (rest := []) hi_150_129 (am_hd0 (M := 150) (by decide) 129) rfl rfl rfl (fun N' d' _ => lc96 (N := N') (d := d') hS ) ?_ (fun _ q => nomatch q.1)
    rintro v7 S5 ⟨ev7, h6⟩
    cases ev7
    show am_L _ _ _ _ _ [some (.ref 7), some (.int y1), some (.int y2), some (.int y3)] [] _ _
    refine am_L.mono (lc150_132 hr h6 ) ?_
    rintro o S1 ⟨s1, w1, q0, q1, A_, K_, q2, q3⟩
    exact ⟨s1, w1, (show c150_124 rc s y1 y2 y3 = c150_132 rc ((c96 s).1) y1 y2 from by unfold c150_124; rw [if_neg cn1]).trans q0, q1, A_, K_, cX.trans cX.rfl q2, q3⟩
noncomputable def c150_121 (rc : cRC) (s : cS) : Option (cS × Option Int32) := c150_157 rc s
theorem lc150_121 {sc : Nat × (Nat → Int32)} {N d : Nat} {A : Nat → Nat} {K : Nat} {S : am_S} {rc : cRC} {s : cS} {o1 : Option Value} {o2 : Option Value} {o3 : Option Value} (hr : RCH sc rc N) (hS : CM A K S s) : am_L (am_PP sc) N d 150 121 [some (.ref 7), o1, o2, o3] [] S (fun o S1 => ∃ s1 w, c150_121 rc s = some (s1, w) ∧ o = cow w ∧ CX A K S1 s1) := by
  refine l18 hi_150_121 ?_
  refine am_L.mono (lc150_157 hr hS ) ?_
  rintro o S1 ⟨s1, w1, q0, q1, A_, K_, q2, q3⟩
  exact ⟨s1, w1, (rfl).trans q0, q1, A_, K_, cX.trans cX.rfl q2, q3⟩
noncomputable def c150_99 (rc : cRC) (s : cS) : Option (cS × Option Int32) := c150_121 rc (ts s (.i s.now) ((c98 s) - 1) 0 46)
theorem lc150_99 {sc : Nat × (Nat → Int32)} {N d : Nat} {A : Nat → Nat} {K : Nat} {S : am_S} {rc : cRC} {s : cS} {o1 : Option Value} {o2 : Option Value} {o3 : Option Value} (hr : RCH sc rc N) (hS : CM A K S s) : am_L (am_PP sc) N d 150 99 [some (.ref 7), o1, o2, o3] [] S (fun o S1 => ∃ s1 w, c150_99 rc s = some (s1, w) ∧ o = cow w ∧ CX A K S1 s1) := by
  refine l2 (v := 7) hi_150_99 rfl ?_
  refine l20s (v := .ref 12) hS cs_7 hi_150_100 rfl ?_
  refine l32 (as := [.ref 12]) (la := [some (.ref 12)]) (rest := []) hi_150_103 (am_hd0 (M := 150) (by decide) 103) rfl rfl rfl (fun N' d' _ => lc79 (N := N') (d := d') hS) ?_ (fun _ q => nomatch q.1)
  rintro v3 S1 ⟨ev3, h2⟩
  cases ev3
  show am_L _ _ _ _ _ [some (.ref 7), o1, o2, o3] [.ref (A s.now)] _ _
  refine l20b (v := .ref (cTa A (.i s.now))) h2 (show s.now ≤ K from CM.nl (s := s) hS) hi_150_106 rfl ?_
  refine l2 (v := 7) hi_150_109 rfl ?_
  refine l32 (as := [.ref 7]) (la := [some (.ref 7)]) (rest := [.ref (cTa A (.i s.now))]) hi_150_110 (am_hd0 (M := 150) (by decide) 110) rfl rfl rfl (fun N' d' _ => lc98 (N := N') (d := d') h2 ) ?_ (fun _ q => nomatch q.1)
  rintro v6 S4 ⟨ev6, h5⟩
  cases ev6
  show am_L _ _ _ _ _ [some (.ref 7), o1, o2, o3] [.int (c98 s), .ref (cTa A (.i s.now))] _ _
  refine l0 hi_150_113 ?_
  refine l10 hi_150_114 ?_
  show am_L _ _ _ _ _ [some (.ref 7), o1, o2, o3] [.int ((c98 s) - 1), .ref (cTa A (.i s.now))] _ _
  refine l0 hi_150_115 ?_
  refine l0 hi_150_116 ?_
  refine l32 (as := [.ref (cTa A (.i s.now)), .int ((c98 s) - 1), .int 0, .int 46]) (la := [some (.ref (cTa A (.i s.now))), some (.int ((c98 s) - 1)), some (.int 0), some (.int 46)]) (rest := []) hi_150_118 (am_hd0 (M := 150) (by decide) 118) rfl rfl rfl (fun N' d' _ => lc86 (N := N') (d := d') (t := (.i s.now)) h5 (show cTl _ (.i s.now) from (show s.now ≤ K from CM.nl (s := s) hS))) ?_ (fun _ q => nomatch q.1)
  rintro v9 S7 ⟨ev9, h8⟩
  cases ev9
  show am_L _ _ _ _ _ [some (.ref 7), o1, o2, o3] [] _ _
  refine am_L.mono (lc150_121 hr h8 ) ?_
  rintro o S1 ⟨s1, w1, q0, q1, A_, K_, q2, q3⟩
  exact ⟨s1, w1, (rfl).trans q0, q1, A_, K_, cX.trans cX.rfl q2, q3⟩
noncomputable def c150_64 (rc : cRC) (s : cS) (y1 : Int32) (y2 : Int32) (z0 : Int32) : Option (cS × Option Int32) := if z0 = 0 then c150_124 rc s y1 y2 z0 else if y2 ≠ 1 then c150_124 rc s y1 y2 z0 else if (c97 s) ≠ 13 then c150_124 rc s y1 y2 z0 else if (c151 s) ≠ 0 then c150_124 rc s y1 y2 z0 else c150_99 rc ((c99 s 1 0).1)
theorem lc150_64 {sc : Nat × (Nat → Int32)} {N d : Nat} {A : Nat → Nat} {K : Nat} {S : am_S} {rc : cRC} {s : cS} {y1 : Int32} {y2 : Int32} {z0 : Int32} {o3 : Option Value} (hr : RCH sc rc N) (hS : CM A K S s) : am_L (am_PP sc) N d 150 64 [some (.ref 7), some (.int y1), some (.int y2), o3] [.int z0] S (fun o S1 => ∃ s1 w, c150_64 rc s y1 y2 z0 = some (s1, w) ∧ o = cow w ∧ CX A K S1 s1) := by
  refine l3 (ls' := [some (.ref 7), some (.int y1), some (.int y2), some (.int z0)]) hi_150_64 (Nat.le_of_ble_eq_true rfl) rfl ?_
  refine l1 (v := z0) hi_150_65 rfl ?_
  by_cases cn1 : z0 = 0
  · refine l12t hi_150_66 (decide_eq_true cn1) ?_
    refine am_L.mono (lc150_124 hr hS ) ?_
    rintro o S1 ⟨s1, w1, q0, q1, A_, K_, q2, q3⟩
    exact ⟨s1, w1, (show c150_64 rc s y1 y2 z0 = c150_124 rc s y1 y2 z0 from by unfold c150_64; rw [if_pos cn1]).trans q0, q1, A_, K_, cX.trans cX.rfl q2, q3⟩
  · refine l12f hi_150_66 (decide_eq_false cn1) ?_
    refine l1 (v := y2) hi_150_69 rfl ?_
    refine l0 hi_150_70 ?_
    by_cases cn2 : y2 ≠ 1
    · refine l13t hi_150_71 (decide_eq_true cn2) ?_
      refine am_L.mono (lc150_124 hr hS ) ?_
      rintro o S1 ⟨s1, w1, q0, q1, A_, K_, q2, q3⟩
      exact ⟨s1, w1, (show c150_64 rc s y1 y2 z0 = c150_124 rc s y1 y2 z0 from by unfold c150_64; rw [if_neg cn1]; rw [if_pos cn2]).trans q0, q1, A_, K_, cX.trans cX.rfl q2, q3⟩
    · refine l13f hi_150_71 (decide_eq_false cn2) ?_
      refine l2 (v := 7) hi_150_74 rfl ?_
      refine l32 (as := [.ref 7]) (la := [some (.ref 7)]) (rest := []) hi_150_75 (am_hd0 (M := 150) (by decide) 75) rfl rfl rfl (fun N' d' _ => lc97 (N := N') (d := d') hS ) ?_ (fun _ q => nomatch q.1)
      rintro v5 S3 ⟨ev5, h4⟩
      cases ev5
      show am_L _ _ _ _ _ [some (.ref 7), some (.int y1), some (.int y2), some (.int z0)] [.int (c97 s)] _ _
      refine l0 hi_150_78 ?_
      by_cases cn6 : (c97 s) ≠ 13
      · refine l13t hi_150_80 (decide_eq_true cn6) ?_
        refine am_L.mono (lc150_124 hr h4 ) ?_
        rintro o S1 ⟨s1, w1, q0, q1, A_, K_, q2, q3⟩
        exact ⟨s1, w1, (show c150_64 rc s y1 y2 z0 = c150_124 rc s y1 y2 z0 from by unfold c150_64; rw [if_neg cn1]; rw [if_neg cn2]; rw [if_pos cn6]).trans q0, q1, A_, K_, cX.trans cX.rfl q2, q3⟩
      · refine l13f hi_150_80 (decide_eq_false cn6) ?_
        refine l2 (v := 7) hi_150_83 rfl ?_
        refine l20s (v := .ref 12) h4 cs_7 hi_150_84 rfl ?_
        refine l32 (as := [.ref 12]) (la := [some (.ref 12), none]) (rest := []) hi_150_87 (am_hd0 (M := 150) (by decide) 87) rfl rfl rfl (fun N' d' _ => lc151 (N := N') (d := d') h4 ) ?_ (fun _ q => nomatch q.1)
        rintro v9 S7 ⟨ev9, h8⟩
        cases ev9
        show am_L _ _ _ _ _ [some (.ref 7), some (.int y1), some (.int y2), some (.int z0)] [.int (c151 s)] _ _
        by_cases cn10 : (c151 s) ≠ 0
        · refine l12t hi_150_90 (decide_eq_true cn10) ?_
          refine am_L.mono (lc150_124 hr h8 ) ?_
          rintro o S1 ⟨s1, w1, q0, q1, A_, K_, q2, q3⟩
          exact ⟨s1, w1, (show c150_64 rc s y1 y2 z0 = c150_124 rc s y1 y2 z0 from by unfold c150_64; rw [if_neg cn1]; rw [if_neg cn2]; rw [if_neg cn6]; rw [if_pos cn10]).trans q0, q1, A_, K_, cX.trans cX.rfl q2, q3⟩
        · refine l12f hi_150_90 (decide_eq_false cn10) ?_
          refine l2 (v := 7) hi_150_93 rfl ?_
          refine l0 hi_150_94 ?_
          refine l0 hi_150_95 ?_
          refine l32 (as := [.ref 7, .int 1, .int 0]) (la := [some (.ref 7), some (.int 1), some (.int 0), none]) (rest := []) hi_150_96 (am_hd0 (M := 150) (by decide) 96) rfl rfl rfl (fun N' d' _ => lc99 (N := N') (d := d') h8 ) ?_ (fun _ q => nomatch q.1)
          rintro v13 S11 ⟨ev13, h12⟩
          cases ev13
          show am_L _ _ _ _ _ [some (.ref 7), some (.int y1), some (.int y2), some (.int z0)] [] _ _
          refine am_L.mono (lc150_99 hr h12 ) ?_
          rintro o S1 ⟨s1, w1, q0, q1, A_, K_, q2, q3⟩
          exact ⟨s1, w1, (show c150_64 rc s y1 y2 z0 = c150_99 rc ((c99 s 1 0).1) from by unfold c150_64; rw [if_neg cn1]; rw [if_neg cn2]; rw [if_neg cn6]; rw [if_neg cn10]).trans q0, q1, A_, K_, cX.trans cX.rfl q2, q3⟩
noncomputable def c150_63 (rc : cRC) (s : cS) (y1 : Int32) (y2 : Int32) : Option (cS × Option Int32) := c150_64 rc s y1 y2 0
theorem lc150_63 {sc : Nat × (Nat → Int32)} {N d : Nat} {A : Nat → Nat} {K : Nat} {S : am_S} {rc : cRC} {s : cS} {y1 : Int32} {y2 : Int32} {o3 : Option Value} (hr : RCH sc rc N) (hS : CM A K S s) : am_L (am_PP sc) N d 150 63 [some (.ref 7), some (.int y1), some (.int y2), o3] [] S (fun o S1 => ∃ s1 w, c150_63 rc s y1 y2 = some (s1, w) ∧ o = cow w ∧ CX A K S1 s1) := by
  refine l0 hi_150_63 ?_
  refine am_L.mono (lc150_64 hr hS ) ?_
  rintro o S1 ⟨s1, w1, q0, q1, A_, K_, q2, q3⟩
  exact ⟨s1, w1, (rfl).trans q0, q1, A_, K_, cX.trans cX.rfl q2, q3⟩
noncomputable def c150_48 (rc : cRC) (s : cS) (y1 : Int32) (y2 : Int32) : Option (cS × Option Int32) := if y2 ≤ 0 then c150_63 rc s y1 y2 else if (s.f 7 5) = 0 then c150_63 rc s y1 y2 else c150_64 rc s y1 y2 1
theorem lc150_48 {sc : Nat × (Nat → Int32)} {N d : Nat} {A : Nat → Nat} {K : Nat} {S : am_S} {rc : cRC} {s : cS} {y1 : Int32} {y2 : Int32} {o3 : Option Value} (hr : RCH sc rc N) (hS : CM A K S s) : am_L (am_PP sc) N d 150 48 [some (.ref 7), some (.int y1), some (.int y2), o3] [] S (fun o S1 => ∃ s1 w, c150_48 rc s y1 y2 = some (s1, w) ∧ o = cow w ∧ CX A K S1 s1) := by
  refine l1 (v := y2) hi_150_48 rfl ?_
  by_cases cn1 : y2 ≤ 0
  · refine l12t hi_150_49 (decide_eq_true cn1) ?_
    refine am_L.mono (lc150_63 hr hS ) ?_
    rintro o S1 ⟨s1, w1, q0, q1, A_, K_, q2, q3⟩
    exact ⟨s1, w1, (show c150_48 rc s y1 y2 = c150_63 rc s y1 y2 from by unfold c150_48; rw [if_pos cn1]).trans q0, q1, A_, K_, cX.trans cX.rfl q2, q3⟩
  · refine l12f hi_150_49 (decide_eq_false cn1) ?_
    refine l2 (v := 7) hi_150_52 rfl ?_
    refine l20s (v := .int (s.f 7 5)) hS cs_7 hi_150_53 rfl ?_
    by_cases cn2 : (s.f 7 5) = 0
    · refine l12t hi_150_56 (decide_eq_true cn2) ?_
      refine am_L.mono (lc150_63 hr hS ) ?_
      rintro o S1 ⟨s1, w1, q0, q1, A_, K_, q2, q3⟩
      exact ⟨s1, w1, (show c150_48 rc s y1 y2 = c150_63 rc s y1 y2 from by unfold c150_48; rw [if_neg cn1]; rw [if_pos cn2]).trans q0, q1, A_, K_, cX.trans cX.rfl q2, q3⟩
    · refine l12f hi_150_56 (decide_eq_false cn2) ?_
      refine l0 hi_150_59 ?_
      refine l18 hi_150_60 ?_
      refine am_L.mono (lc150_64 hr hS ) ?_
      rintro o S1 ⟨s1, w1, q0, q1, A_, K_, q2, q3⟩
      exact ⟨s1, w1, (show c150_48 rc s y1 y2 = c150_64 rc s y1 y2 1 from by unfold c150_48; rw [if_neg cn1]; rw [if_neg cn2]).trans q0, q1, A_, K_, cX.trans cX.rfl q2, q3⟩
noncomputable def c150_47 (rc : cRC) (s : cS) (y1 : Int32) (z0 : Int32) : Option (cS × Option Int32) := c150_48 rc s y1 z0
theorem lc150_47 {sc : Nat × (Nat → Int32)} {N d : Nat} {A : Nat → Nat} {K : Nat} {S : am_S} {rc : cRC} {s : cS} {y1 : Int32} {z0 : Int32} {o2 : Option Value} {o3 : Option Value} (hr : RCH sc rc N) (hS : CM A K S s) : am_L (am_PP sc) N d 150 47 [some (.ref 7), some (.int y1), o2, o3] [.int z0] S (fun o S1 => ∃ s1 w, c150_47 rc s y1 z0 = some (s1, w) ∧ o = cow w ∧ CX A K S1 s1) := by
  refine l3 (ls' := [some (.ref 7), some (.int y1), some (.int z0), o3]) hi_150_47 (Nat.le_of_ble_eq_true rfl) rfl ?_
  refine am_L.mono (lc150_48 hr hS ) ?_
  rintro o S1 ⟨s1, w1, q0, q1, A_, K_, q2, q3⟩
  exact ⟨s1, w1, (rfl).trans q0, q1, A_, K_, cX.trans cX.rfl q2, q3⟩
noncomputable def c150_15 (rc : cRC) (s : cS) (y1 : Int32) (z0 : Int32) : Option (cS × Option Int32) := if (c53 s) = 67 then c150_48 rc s y1 0 else if (c121 s (c53 s)) ≠ 0 then c150_48 rc s y1 0 else rbd (rc 112 s 0 0 0 0 0 0 0) (fun s17 w15 => c150_47 rc s17 y1 w15)
theorem lc150_15 {sc : Nat × (Nat → Int32)} {N d : Nat} {A : Nat → Nat} {K : Nat} {S : am_S} {rc : cRC} {s : cS} {y1 : Int32} {z0 : Int32} {o2 : Option Value} {o3 : Option Value} (hr : RCH sc rc N) (hS : CM A K S s) : am_L (am_PP sc) N d 150 15 [some (.ref 7), some (.int y1), o2, o3] [.int z0] S (fun o S1 => ∃ s1 w, c150_15 rc s y1 z0 = some (s1, w) ∧ o = cow w ∧ CX A K S1 s1) := by
  refine l6i hi_150_15 ?_
  refine l0 hi_150_16 ?_
  refine l3 (ls' := [some (.ref 7), some (.int y1), some (.int 0), o3]) hi_150_17 (Nat.le_of_ble_eq_true rfl) rfl ?_
  refine l2 (v := 7) hi_150_18 rfl ?_
  refine l20s (v := .ref 2) hS cs_7 hi_150_19 rfl ?_
  refine l32 (as := [.ref 2]) (la := [some (.ref 2)]) (rest := []) hi_150_22 (am_hd0 (M := 150) (by decide) 22) rfl rfl rfl (fun N' d' _ => lc53 (N := N') (d := d') hS ) ?_ (fun _ q => nomatch q.1)
  rintro v3 S1 ⟨ev3, h2⟩
  cases ev3
  show am_L _ _ _ _ _ [some (.ref 7), some (.int y1), some (.int 0), o3] [.int (c53 s)] _ _
  refine l0 hi_150_25 ?_
  by_cases cn4 : (c53 s) = 67
  · refine l13t hi_150_27 (decide_eq_true cn4) ?_
    refine am_L.mono (lc150_48 hr h2 ) ?_
    rintro o S1 ⟨s1, w1, q0, q1, A_, K_, q2, q3⟩
    exact ⟨s1, w1, (show c150_15 rc s y1 z0 = c150_48 rc s y1 0 from by unfold c150_15; rw [if_pos cn4]).trans q0, q1, A_, K_, cX.trans cX.rfl q2, q3⟩
  · refine l13f hi_150_27 (decide_eq_false cn4) ?_
    refine l2 (v := 7) hi_150_30 rfl ?_
    refine l20s (v := .ref 2) h2 cs_7 hi_150_31 rfl ?_
    refine l32 (as := [.ref 2]) (la := [some (.ref 2)]) (rest := []) hi_150_34 (am_hd0 (M := 150) (by decide) 34) rfl rfl rfl (fun N' d' _ => lc53 (N := N') (d := d') h2 ) ?_ (fun _ q => nomatch q.1)
    rintro v7 S5 ⟨ev7, h6⟩
    cases ev7
    show am_L _ _ _ _ _ [some (.ref 7), some (.int y1), some (.int 0), o3] [.int (c53 s)] _ _
    refine l32 (as := [.int (c53 s)]) (la := [some (.int (c53 s))]) (rest := []) hi_150_37 (am_hd0 (M := 150) (by decide) 37) rfl rfl rfl (fun N' d' _ => lc121 (N := N') (d := d') h6 ) ?_ (fun _ q => nomatch q.1)
    rintro v10 S8 ⟨ev10, h9⟩
    cases ev10
    show am_L _ _ _ _ _ [some (.ref 7), some (.int y1), some (.int 0), o3] [.int (c121 s (c53 s))] _ _
    by_cases cn11 : (c121 s (c53 s)) ≠ 0
    · refine l12t hi_150_40 (decide_eq_true cn11) ?_
      refine am_L.mono (lc150_48 hr h9 ) ?_
      rintro o S1 ⟨s1, w1, q0, q1, A_, K_, q2, q3⟩
      exact ⟨s1, w1, (show c150_15 rc s y1 z0 = c150_48 rc s y1 0 from by unfold c150_15; rw [if_neg cn4]; rw [if_pos cn11]).trans q0, q1, A_, K_, cX.trans cX.rfl q2, q3⟩
    · refine l12f hi_150_40 (decide_eq_false cn11) ?_
      refine l2 (v := 7) hi_150_43 rfl ?_
      refine l32 (as := [.ref 7]) (la := [some (.ref 7), none, none, none]) (rest := []) hi_150_44 (am_hd0 (M := 150) (by decide) 44) rfl rfl rfl (fun N' d' hN_ => hr.h112 (N' := N') (d := d') hN_ h9) ?_ ?_
      · rintro v14 S12 ⟨s17, w_, e16, q1, A18, K19, x20, h13⟩
        obtain ⟨w15, rfl, rfl⟩ := cov_some q1
        show am_L _ _ _ _ _ [some (.ref 7), some (.int y1), some (.int 0), o3] [.int w15] _ _
        refine am_L.mono (lc150_47 hr h13 ) ?_
        rintro o S1 ⟨s1, w1, q0, q1, A_, K_, q2, q3⟩
        exact ⟨s1, w1, (show c150_15 rc s y1 z0 = c150_47 rc s17 y1 w15 from by unfold c150_15; rw [if_neg cn4]; rw [if_neg cn11]; rw [rbd_s e16]).trans q0, q1, A_, K_, cX.trans (cX.trans cX.rfl x20) q2, q3⟩
      · rintro S12 ⟨s1, w1, q0, q1, A_, K_, q2, q3⟩
        obtain rfl := cov_none q1
        exact ⟨s1, none, (by unfold c150_15; rw [if_neg cn4]; rw [if_neg cn11]; rw [rbd_n q0]), rfl, A_, K_, cX.trans cX.rfl q2, q3⟩
noncomputable def c150 (rc : cRC) (s : cS) : Option (cS × Option Int32) := rbd (some (c55 s)) (fun _ w7 => c150_15 rc ((c55 s).1) (c63 s) w7)
theorem lc150 {sc : Nat × (Nat → Int32)} {N d : Nat} {A : Nat → Nat} {K : Nat} {S : am_S} {rc : cRC} {s : cS} (hr : RCH sc rc N) (hS : CM A K S s) : am_L (am_PP sc) N d 150 0 [some (.ref 7), none, none, none] [] S (fun o S1 => ∃ s1 w, c150 rc s = some (s1, w) ∧ o = cow w ∧ CX A K S1 s1) := by
  refine l2 (v := 7) hi_150_0 rfl ?_
  refine l20s (v := .ref 2) hS cs_7 hi_150_1 rfl ?_
  refine l32 (as := [.ref 2]) (la := [some (.ref 2)]) (rest := []) hi_150_4 (am_hd0 (M := 150) (by decide) 4) rfl rfl rfl (fun N' d' _ => lc63 (N := N') (d := d') hS ) ?_ (fun _ q => nomatch q.1)
  rintro v3 S1 ⟨ev3, h2⟩
  cases ev3
  show am_L _ _ _ _ _ [some (.ref 7), none, none, none] [.int (c63 s)] _ _
  refine l3 (ls' := [some (.ref 7), some (.int (c63 s)), none, none]) hi_150_7 (Nat.le_of_ble_eq_true rfl) rfl ?_
  refine l2 (v := 7) hi_150_8 rfl ?_
  refine l20s (v := .ref 2) h2 cs_7 hi_150_9 rfl ?_
  refine l32 (as := [.ref 2]) (la := [some (.ref 2), none]) (rest := []) hi_150_12 (am_hd0 (M := 150) (by decide) 12) rfl rfl rfl (fun N' d' hN_ => lc55 (N := N') (d := d') h2 ) ?_ ?_
  · rintro v6 S4 ⟨ev, h5⟩
    obtain ⟨w7, e8, rfl⟩ := cov_some ev
    show am_L _ _ _ _ _ [some (.ref 7), some (.int (c63 s)), none, none] [.int w7] _ _
    refine am_L.mono (lc150_15 hr h5 ) ?_
    rintro o S1 ⟨s1, w1, q0, q1, A_, K_, q2, q3⟩
    exact ⟨s1, w1, (show c150 rc s = c150_15 rc ((c55 s).1) (c63 s) w7 from by unfold c150; rw [rbd_th e8]).trans q0, q1, A_, K_, cX.trans cX.rfl q2, q3⟩
  · rintro S4 ⟨q1, q2⟩
    have hn := cov_none q1
    exact ⟨_, none, (by unfold c150; rw [rbd_thn hn]), rfl, A, K, cX.rfl, q2⟩
noncomputable def c52_308 (rc : cRC) (s : cS) (y1 : Int32) : Option (cS × Option Int32) := rc 52002 s 0 (y1 + 1) 0 0 0 0 0
theorem lc52_308 {sc : Nat × (Nat → Int32)} {N d : Nat} {A : Nat → Nat} {K : Nat} {S : am_S} {rc : cRC} {s : cS} {y1 : Int32} (hr : RCH sc rc (N + 1)) (hS : CM A K S s) : am_L (am_PP sc) N d 52 308 [some (.ref 7), some (.int y1)] [] S (fun o S1 => ∃ s1 w, c52_308 rc s y1 = some (s1, w) ∧ o = cow w ∧ CX A K S1 s1) := by
  refine l5 (v := y1) (ls' := [some (.ref 7), some (.int (y1 + 1))]) hi_52_308 rfl rfl ?_
  refine l18 hi_52_311 ?_
  refine am_L.mono (hr.h52002 (N' := N)  (Nat.lt_succ_self _) hS) ?_
  rintro o S1 ⟨s1, w1, q0, q1, A_, K_, q2, q3⟩
  exact ⟨s1, w1, (show c52_308 rc s y1 = rc 52002 s 0 (y1 + 1) 0 0 0 0 0 from rfl).trans q0, q1, A_, K_, cX.trans cX.rfl q2, q3⟩
noncomputable def c52_155 (rc : cRC) (s : cS) (y1 : Int32) : Option (cS × Option Int32) := c52_308 rc s y1
theorem lc52_155 {sc : Nat × (Nat → Int32)} {N d : Nat} {A : Nat → Nat} {K : Nat} {S : am_S} {rc : cRC} {s : cS} {y1 : Int32} (hr : RCH sc rc (N + 1)) (hS : CM A K S s) : am_L (am_PP sc) N d 52 155 [some (.ref 7), some (.int y1)] [] S (fun o S1 => ∃ s1 w, c52_155 rc s y1 = some (s1, w) ∧ o = cow w ∧ CX A K S1 s1) := by
  refine l18 hi_52_155 ?_
  refine am_L.mono (lc52_308 hr hS ) ?_
  rintro o S1 ⟨s1, w1, q0, q1, A_, K_, q2, q3⟩
  exact ⟨s1, w1, (rfl).trans q0, q1, A_, K_, cX.trans cX.rfl q2, q3⟩
noncomputable def c52_169 (rc : cRC) (s : cS) (y1 : Int32) : Option (cS × Option Int32) := c52_308 rc s y1
theorem lc52_169 {sc : Nat × (Nat → Int32)} {N d : Nat} {A : Nat → Nat} {K : Nat} {S : am_S} {rc : cRC} {s : cS} {y1 : Int32} (hr : RCH sc rc (N + 1)) (hS : CM A K S s) : am_L (am_PP sc) N d 52 169 [some (.ref 7), some (.int y1)] [] S (fun o S1 => ∃ s1 w, c52_169 rc s y1 = some (s1, w) ∧ o = cow w ∧ CX A K S1 s1) := by
  refine l18 hi_52_169 ?_
  refine am_L.mono (lc52_308 hr hS ) ?_
  rintro o S1 ⟨s1, w1, q0, q1, A_, K_, q2, q3⟩
  exact ⟨s1, w1, (rfl).trans q0, q1, A_, K_, cX.trans cX.rfl q2, q3⟩
noncomputable def c52_200 (rc : cRC) (s : cS) (y1 : Int32) (z0 : Int32) : Option (cS × Option Int32) := c52_308 rc s y1
theorem lc52_200 {sc : Nat × (Nat → Int32)} {N d : Nat} {A : Nat → Nat} {K : Nat} {S : am_S} {rc : cRC} {s : cS} {y1 : Int32} {z0 : Int32} (hr : RCH sc rc (N + 1)) (hS : CM A K S s) : am_L (am_PP sc) N d 52 200 [some (.ref 7), some (.int y1)] [.int z0] S (fun o S1 => ∃ s1 w, c52_200 rc s y1 z0 = some (s1, w) ∧ o = cow w ∧ CX A K S1 s1) := by
  refine l6i hi_52_200 ?_
  refine l18 hi_52_201 ?_
  refine am_L.mono (lc52_308 hr hS ) ?_
  rintro o S1 ⟨s1, w1, q0, q1, A_, K_, q2, q3⟩
  exact ⟨s1, w1, (rfl).trans q0, q1, A_, K_, cX.trans cX.rfl q2, q3⟩
noncomputable def c52_191 (rc : cRC) (s : cS) (y1 : Int32) : Option (cS × Option Int32) := rbd (some (c64 s 15)) (fun _ w4 => c52_200 rc ((c64 s 15).1) y1 w4)
theorem lc52_191 {sc : Nat × (Nat → Int32)} {N d : Nat} {A : Nat → Nat} {K : Nat} {S : am_S} {rc : cRC} {s : cS} {y1 : Int32} (hr : RCH sc rc (N + 1)) (hS : CM A K S s) : am_L (am_PP sc) N d 52 191 [some (.ref 7), some (.int y1)] [] S (fun o S1 => ∃ s1 w, c52_191 rc s y1 = some (s1, w) ∧ o = cow w ∧ CX A K S1 s1) := by
  refine l2 (v := 7) hi_52_191 rfl ?_
  refine l20s (v := .ref 2) hS cs_7 hi_52_192 rfl ?_
  refine l0 hi_52_195 ?_
  refine l32 (as := [.ref 2, .int 15]) (la := [some (.ref 2), some (.int 15)]) (rest := []) hi_52_197 (am_hd0 (M := 52) (by decide) 197) rfl rfl rfl (fun N' d' hN_ => lc64 (N := N') (d := d') hS ) ?_ ?_
  · rintro v3 S1 ⟨ev, h2⟩
    obtain ⟨w4, e5, rfl⟩ := cov_some ev
    show am_L _ _ _ _ _ [some (.ref 7), some (.int y1)] [.int w4] _ _
    refine am_L.mono (lc52_200 hr h2 ) ?_
    rintro o S1 ⟨s1, w1, q0, q1, A_, K_, q2, q3⟩
    exact ⟨s1, w1, (show c52_191 rc s y1 = c52_200 rc ((c64 s 15).1) y1 w4 from by unfold c52_191; rw [rbd_th e5]).trans q0, q1, A_, K_, cX.trans cX.rfl q2, q3⟩
  · rintro S1 ⟨q1, q2⟩
    have hn := cov_none q1
    exact ⟨_, none, (by unfold c52_191; rw [rbd_thn hn]), rfl, A, K, cX.rfl, q2⟩
noncomputable def c52_186 (rc : cRC) (s : cS) (y1 : Int32) (z0 : Int32) : Option (cS × Option Int32) := rbd (rc 128 s 0 0 0 0 0 0 0) (fun s6 w4 => c52_191 rc s6 y1)
theorem lc52_186 {sc : Nat × (Nat → Int32)} {N d : Nat} {A : Nat → Nat} {K : Nat} {S : am_S} {rc : cRC} {s : cS} {y1 : Int32} {z0 : Int32} (hr : RCH sc rc (N + 1)) (hS : CM A K S s) : am_L (am_PP sc) N d 52 186 [some (.ref 7), some (.int y1)] [.int z0] S (fun o S1 => ∃ s1 w, c52_186 rc s y1 z0 = some (s1, w) ∧ o = cow w ∧ CX A K S1 s1) := by
  refine l6i hi_52_186 ?_
  refine l2 (v := 7) hi_52_187 rfl ?_
  refine l32 (as := [.ref 7]) (la := [some (.ref 7)]) (rest := []) hi_52_188 (am_hd0 (M := 52) (by decide) 188) rfl rfl rfl (fun N' d' hN_ => hr.h128 (N' := N') (d := d') (Nat.lt_succ_of_lt hN_) hS) ?_ ?_
  · rintro v3 S1 ⟨s6, w_, e5, q1, A7, K8, x9, h2⟩
    obtain ⟨w4, rfl, rfl⟩ := cow_some q1
    show am_L _ _ _ _ _ [some (.ref 7), some (.int y1)] [] _ _
    refine am_L.mono (lc52_191 hr h2 ) ?_
    rintro o S1 ⟨s1, w1, q0, q1, A_, K_, q2, q3⟩
    exact ⟨s1, w1, (show c52_186 rc s y1 z0 = c52_191 rc s6 y1 from by unfold c52_186; rw [rbd_s e5]).trans q0, q1, A_, K_, cX.trans (cX.trans cX.rfl x9) q2, q3⟩
  · rintro S1 ⟨s1, w1, q0, q1, A_, K_, q2, q3⟩
    obtain rfl := cow_none q1
    exact ⟨s1, none, (by unfold c52_186; rw [rbd_n q0]), rfl, A_, K_, cX.trans cX.rfl q2, q3⟩
noncomputable def c52_257 (rc : cRC) (s : cS) (y1 : Int32) : Option (cS × Option Int32) := c52_308 rc s y1
theorem lc52_257 {sc : Nat × (Nat → Int32)} {N d : Nat} {A : Nat → Nat} {K : Nat} {S : am_S} {rc : cRC} {s : cS} {y1 : Int32} (hr : RCH sc rc (N + 1)) (hS : CM A K S s) : am_L (am_PP sc) N d 52 257 [some (.ref 7), some (.int y1)] [] S (fun o S1 => ∃ s1 w, c52_257 rc s y1 = some (s1, w) ∧ o = cow w ∧ CX A K S1 s1) := by
  refine l18 hi_52_257 ?_
  refine am_L.mono (lc52_308 hr hS ) ?_
  rintro o S1 ⟨s1, w1, q0, q1, A_, K_, q2, q3⟩
  exact ⟨s1, w1, (rfl).trans q0, q1, A_, K_, cX.trans cX.rfl q2, q3⟩
noncomputable def c52_250 (rc : cRC) (s : cS) (y1 : Int32) : Option (cS × Option Int32) := c52_308 rc s y1
theorem lc52_250 {sc : Nat × (Nat → Int32)} {N d : Nat} {A : Nat → Nat} {K : Nat} {S : am_S} {rc : cRC} {s : cS} {y1 : Int32} (hr : RCH sc rc (N + 1)) (hS : CM A K S s) : am_L (am_PP sc) N d 52 250 [some (.ref 7), some (.int y1)] [] S (fun o S1 => ∃ s1 w, c52_250 rc s y1 = some (s1, w) ∧ o = cow w ∧ CX A K S1 s1) := by
  refine l18 hi_52_250 ?_
  refine am_L.mono (lc52_308 hr hS ) ?_
  rintro o S1 ⟨s1, w1, q0, q1, A_, K_, q2, q3⟩
  exact ⟨s1, w1, (rfl).trans q0, q1, A_, K_, cX.trans cX.rfl q2, q3⟩
noncomputable def c52_264 (rc : cRC) (s : cS) (y1 : Int32) : Option (cS × Option Int32) := c52_308 rc s y1
theorem lc52_264 {sc : Nat × (Nat → Int32)} {N d : Nat} {A : Nat → Nat} {K : Nat} {S : am_S} {rc : cRC} {s : cS} {y1 : Int32} (hr : RCH sc rc (N + 1)) (hS : CM A K S s) : am_L (am_PP sc) N d 52 264 [some (.ref 7), some (.int y1)] [] S (fun o S1 => ∃ s1 w, c52_264 rc s y1 = some (s1, w) ∧ o = cow w ∧ CX A K S1 s1) := by
  refine l18 hi_52_264 ?_
  refine am_L.mono (lc52_308 hr hS ) ?_
  rintro o S1 ⟨s1, w1, q0, q1, A_, K_, q2, q3⟩
  exact ⟨s1, w1, (rfl).trans q0, q1, A_, K_, cX.trans cX.rfl q2, q3⟩
noncomputable def c52_176 (rc : cRC) (s : cS) (y1 : Int32) : Option (cS × Option Int32) := c52_308 rc s y1
theorem lc52_176 {sc : Nat × (Nat → Int32)} {N d : Nat} {A : Nat → Nat} {K : Nat} {S : am_S} {rc : cRC} {s : cS} {y1 : Int32} (hr : RCH sc rc (N + 1)) (hS : CM A K S s) : am_L (am_PP sc) N d 52 176 [some (.ref 7), some (.int y1)] [] S (fun o S1 => ∃ s1 w, c52_176 rc s y1 = some (s1, w) ∧ o = cow w ∧ CX A K S1 s1) := by
  refine l18 hi_52_176 ?_
  refine am_L.mono (lc52_308 hr hS ) ?_
  rintro o S1 ⟨s1, w1, q0, q1, A_, K_, q2, q3⟩
  exact ⟨s1, w1, (rfl).trans q0, q1, A_, K_, cX.trans cX.rfl q2, q3⟩
noncomputable def c52_222 (rc : cRC) (s : cS) (y1 : Int32) : Option (cS × Option Int32) := c52_308 rc s y1
theorem lc52_222 {sc : Nat × (Nat → Int32)} {N d : Nat} {A : Nat → Nat} {K : Nat} {S : am_S} {rc : cRC} {s : cS} {y1 : Int32} (hr : RCH sc rc (N + 1)) (hS : CM A K S s) : am_L (am_PP sc) N d 52 222 [some (.ref 7), some (.int y1)] [] S (fun o S1 => ∃ s1 w, c52_222 rc s y1 = some (s1, w) ∧ o = cow w ∧ CX A K S1 s1) := by
  refine l18 hi_52_222 ?_
  refine am_L.mono (lc52_308 hr hS ) ?_
  rintro o S1 ⟨s1, w1, q0, q1, A_, K_, q2, q3⟩
  exact ⟨s1, w1, (rfl).trans q0, q1, A_, K_, cX.trans cX.rfl q2, q3⟩
noncomputable def c52_299 (rc : cRC) (s : cS) (y1 : Int32) : Option (cS × Option Int32) := c52_308 rc s y1
theorem lc52_299 {sc : Nat × (Nat → Int32)} {N d : Nat} {A : Nat → Nat} {K : Nat} {S : am_S} {rc : cRC} {s : cS} {y1 : Int32} (hr : RCH sc rc (N + 1)) (hS : CM A K S s) : am_L (am_PP sc) N d 52 299 [some (.ref 7), some (.int y1)] [] S (fun o S1 => ∃ s1 w, c52_299 rc s y1 = some (s1, w) ∧ o = cow w ∧ CX A K S1 s1) := by
  refine l18 hi_52_299 ?_
  refine am_L.mono (lc52_308 hr hS ) ?_
  rintro o S1 ⟨s1, w1, q0, q1, A_, K_, q2, q3⟩
  exact ⟨s1, w1, (rfl).trans q0, q1, A_, K_, cX.trans cX.rfl q2, q3⟩
noncomputable def c52_292 (rc : cRC) (s : cS) (y1 : Int32) : Option (cS × Option Int32) := c52_308 rc s y1
theorem lc52_292 {sc : Nat × (Nat → Int32)} {N d : Nat} {A : Nat → Nat} {K : Nat} {S : am_S} {rc : cRC} {s : cS} {y1 : Int32} (hr : RCH sc rc (N + 1)) (hS : CM A K S s) : am_L (am_PP sc) N d 52 292 [some (.ref 7), some (.int y1)] [] S (fun o S1 => ∃ s1 w, c52_292 rc s y1 = some (s1, w) ∧ o = cow w ∧ CX A K S1 s1) := by
  refine l18 hi_52_292 ?_
  refine am_L.mono (lc52_308 hr hS ) ?_
  rintro o S1 ⟨s1, w1, q0, q1, A_, K_, q2, q3⟩
  exact ⟨s1, w1, (rfl).trans q0, q1, A_, K_, cX.trans cX.rfl q2, q3⟩
noncomputable def c52_215 (rc : cRC) (s : cS) (y1 : Int32) : Option (cS × Option Int32) := c52_308 rc s y1
theorem lc52_215 {sc : Nat × (Nat → Int32)} {N d : Nat} {A : Nat → Nat} {K : Nat} {S : am_S} {rc : cRC} {s : cS} {y1 : Int32} (hr : RCH sc rc (N + 1)) (hS : CM A K S s) : am_L (am_PP sc) N d 52 215 [some (.ref 7), some (.int y1)] [] S (fun o S1 => ∃ s1 w, c52_215 rc s y1 = some (s1, w) ∧ o = cow w ∧ CX A K S1 s1) := by
  refine l18 hi_52_215 ?_
  refine am_L.mono (lc52_308 hr hS ) ?_
  rintro o S1 ⟨s1, w1, q0, q1, A_, K_, q2, q3⟩
  exact ⟨s1, w1, (rfl).trans q0, q1, A_, K_, cX.trans cX.rfl q2, q3⟩
noncomputable def c52_208 (rc : cRC) (s : cS) (y1 : Int32) : Option (cS × Option Int32) := c52_308 rc s y1
theorem lc52_208 {sc : Nat × (Nat → Int32)} {N d : Nat} {A : Nat → Nat} {K : Nat} {S : am_S} {rc : cRC} {s : cS} {y1 : Int32} (hr : RCH sc rc (N + 1)) (hS : CM A K S s) : am_L (am_PP sc) N d 52 208 [some (.ref 7), some (.int y1)] [] S (fun o S1 => ∃ s1 w, c52_208 rc s y1 = some (s1, w) ∧ o = cow w ∧ CX A K S1 s1) := by
  refine l18 hi_52_208 ?_
  refine am_L.mono (lc52_308 hr hS ) ?_
  rintro o S1 ⟨s1, w1, q0, q1, A_, K_, q2, q3⟩
  exact ⟨s1, w1, (rfl).trans q0, q1, A_, K_, cX.trans cX.rfl q2, q3⟩
noncomputable def c52_162 (rc : cRC) (s : cS) (y1 : Int32) : Option (cS × Option Int32) := c52_308 rc s y1
theorem lc52_162 {sc : Nat × (Nat → Int32)} {N d : Nat} {A : Nat → Nat} {K : Nat} {S : am_S} {rc : cRC} {s : cS} {y1 : Int32} (hr : RCH sc rc (N + 1)) (hS : CM A K S s) : am_L (am_PP sc) N d 52 162 [some (.ref 7), some (.int y1)] [] S (fun o S1 => ∃ s1 w, c52_162 rc s y1 = some (s1, w) ∧ o = cow w ∧ CX A K S1 s1) := by
  refine l18 hi_52_162 ?_
  refine am_L.mono (lc52_308 hr hS ) ?_
  rintro o S1 ⟨s1, w1, q0, q1, A_, K_, q2, q3⟩
  exact ⟨s1, w1, (rfl).trans q0, q1, A_, K_, cX.trans cX.rfl q2, q3⟩
noncomputable def c52_147 (rc : cRC) (s : cS) (y1 : Int32) (z0 : Int32) : Option (cS × Option Int32) := c52_308 rc s y1
theorem lc52_147 {sc : Nat × (Nat → Int32)} {N d : Nat} {A : Nat → Nat} {K : Nat} {S : am_S} {rc : cRC} {s : cS} {y1 : Int32} {z0 : Int32} (hr : RCH sc rc (N + 1)) (hS : CM A K S s) : am_L (am_PP sc) N d 52 147 [some (.ref 7), some (.int y1)] [.int z0] S (fun o S1 => ∃ s1 w, c52_147 rc s y1 z0 = some (s1, w) ∧ o = cow w ∧ CX A K S1 s1) := by
  refine l6i hi_52_147 ?_
  refine l18 hi_52_148 ?_
  refine am_L.mono (lc52_308 hr hS ) ?_
  rintro o S1 ⟨s1, w1, q0, q1, A_, K_, q2, q3⟩
  exact ⟨s1, w1, (rfl).trans q0, q1, A_, K_, cX.trans cX.rfl q2, q3⟩
noncomputable def c52_2 (rc : cRC) (s : cS) (y1 : Int32) : Option (cS × Option Int32) := if 16384 < y1 then some (s, some 0) else if (c53 s) = 1 then (rbd (rc 59 s 0 0 0 0 0 0 0) (fun s11 w9 => c52_155 rc s11 y1)) else if (c53 s) = 11 then (rbd (some (c123 s)) (fun _ w19 => c52_169 rc ((c123 s).1) y1)) else if (c53 s) = 12 then (rbd (some (c55 s)) (fun _ w26 => c52_186 rc ((c55 s).1) y1 w26)) else if (c53 s) = 17 then (if (c93 s ((c63 s) + 2)) ≠ 59 then rbd (rc 144 s 0 0 0 0 0 0 0) (fun s42 w40 => c52_257 rc s42 y1) else rbd (rc 138 s 0 0 0 0 0 0 0) (fun s51 w49 => c52_250 rc s51 y1)) else if (c53 s) = 18 then (rbd (rc 145 s 0 0 0 0 0 0 0) (fun s61 w59 => c52_264 rc s61 y1)) else if (c53 s) = 19 then (rbd (some (c126 s)) (fun _ w69 => c52_176 rc ((c126 s).1) y1)) else if (c53 s) = 20 then (rbd (rc 134 s 0 0 0 0 0 0 0) (fun s78 w76 => c52_222 rc s78 y1)) else if (c53 s) = 22 then (if (c93 s ((c63 s) + 1)) ≠ 18 then rbd (rc 147 s 0 0 0 0 0 0 0) (fun s95 w93 => c52_299 rc s95 y1) else rbd (rc 146 s 0 0 0 0 0 0 0) (fun s104 w102 => c52_292 rc s104 y1)) else if (c53 s) = 26 then (rbd (rc 133 s 0 0 0 0 0 0 0) (fun s114 w112 => c52_215 rc s114 y1)) else if (c53 s) = 27 then (rbd (rc 150 s 0 0 0 0 0 0 0) (fun s124 w122 => some (s124, some 0))) else if (c53 s) = 31 then (rbd (rc 130 s 0 0 0 0 0 0 0) (fun s134 w132 => c52_208 rc s134 y1)) else if (c53 s) = 60 then (rbd (rc 59 s 0 0 0 0 0 0 0) (fun s144 w142 => c52_155 rc s144 y1)) else if (c53 s) = 66 then (rbd (some (c119 s)) (fun _ w152 => c52_162 rc ((c119 s).1) y1)) else if (c53 s) = 67 then (rbd (some (c55 s)) (fun _ w159 => c52_147 rc ((c55 s).1) y1 w159)) else some (s, some 0)
theorem lc52_2 {sc : Nat × (Nat → Int32)} {N d : Nat} {A : Nat → Nat} {K : Nat} {S : am_S} {rc : cRC} {s : cS} {y1 : Int32} (hr : RCH sc rc N) (hS : CM A K S s) : am_L (am_PP sc) N d 52 2 [some (.ref 7), some (.int y1)] [] S (fun o S1 => ∃ s1 w, c52_2 rc s y1 = some (s1, w) ∧ o = cow w ∧ CX A K S1 s1) := by
  cases N with
  | zero => exact l_zero
  | succ N =>
    refine l1d (v := y1) hi_52_2 rfl ?_
    refine l0 hi_52_3 ?_
    by_cases cn1 : 16384 < y1
    · refine l13t hi_52_6 (decide_eq_true cn1) ?_
      exact l35 hi_52_314 ⟨s, some 0, (by unfold c52_2; rw [if_pos cn1]), rfl, A, K, cX.rfl, hS⟩
    · refine l13f hi_52_6 (decide_eq_false cn1) ?_
      refine l2 (v := 7) hi_52_9 rfl ?_
      refine l20s (v := .ref 2) hS cs_7 hi_52_10 rfl ?_
      refine l32 (as := [.ref 2]) (la := [some (.ref 2)]) (rest := []) hi_52_13 (am_hd0 (M := 52) (by decide) 13) rfl rfl rfl (fun N' d' _ => lc53 (N := N') (d := d') hS ) ?_ (fun _ q => nomatch q.1)
      rintro v4 S2 ⟨ev4, h3⟩
      cases ev4
      show am_L _ _ _ _ _ [some (.ref 7), some (.int y1)] [.int (c53 s)] _ _
      by_cases cn5 : (c53 s) = 1
      · refine l19 (t := 151) hi_52_16 (by rw [cn5]; decide) ?_
        refine l2 (v := 7) hi_52_151 rfl ?_
        refine l32 (as := [.ref 7]) (la := [some (.ref 7), none, none, none]) (rest := []) hi_52_152 (am_hd0 (M := 52) (by decide) 152) rfl rfl rfl (fun N' d' hN_ => hr.h59 (N' := N') (d := d') (Nat.lt_succ_of_lt hN_) h3) ?_ ?_
        · rintro v8 S6 ⟨s11, w_, e10, q1, A12, K13, x14, h7⟩
          obtain ⟨w9, rfl, rfl⟩ := cow_some q1
          show am_L _ _ _ _ _ [some (.ref 7), some (.int y1)] [] _ _
          refine am_L.mono (lc52_155 hr h7 ) ?_
          rintro o S1 ⟨s1, w1, q0, q1, A_, K_, q2, q3⟩
          exact ⟨s1, w1, (show c52_2 rc s y1 = c52_155 rc s11 y1 from by unfold c52_2; rw [if_neg cn1]; rw [if_pos cn5]; rw [rbd_s e10]).trans q0, q1, A_, K_, cX.trans (cX.trans cX.rfl x14) q2, q3⟩
        · rintro S6 ⟨s1, w1, q0, q1, A_, K_, q2, q3⟩
          obtain rfl := cow_none q1
          exact ⟨s1, none, (by unfold c52_2; rw [if_neg cn1]; rw [if_pos cn5]; rw [rbd_n q0]), rfl, A_, K_, cX.trans cX.rfl q2, q3⟩
      by_cases cn15 : (c53 s) = 11
      · refine l19 (t := 165) hi_52_16 (by rw [cn15]; decide) ?_
        refine l2 (v := 7) hi_52_165 rfl ?_
        refine l32 (as := [.ref 7]) (la := [some (.ref 7), none, none]) (rest := []) hi_52_166 (am_hd0 (M := 52) (by decide) 166) rfl rfl rfl (fun N' d' hN_ => lc123 (N := N') (d := d') h3 ) ?_ ?_
        · rintro v18 S16 ⟨ev, h17⟩
          obtain ⟨w19, e20, rfl⟩ := cow_some ev
          show am_L _ _ _ _ _ [some (.ref 7), some (.int y1)] [] _ _
          refine am_L.mono (lc52_169 hr h17 ) ?_
          rintro o S1 ⟨s1, w1, q0, q1, A_, K_, q2, q3⟩
          exact ⟨s1, w1, (show c52_2 rc s y1 = c52_169 rc ((c123 s).1) y1 from by unfold c52_2; rw [if_neg cn1]; rw [if_neg cn5]; rw [if_pos cn15]; rw [rbd_th e20]).trans q0, q1, A_, K_, cX.trans cX.rfl q2, q3⟩
        · rintro S16 ⟨q1, q2⟩
          have hn := cow_none q1
          exact ⟨_, none, (by unfold c52_2; rw [if_neg cn1]; rw [if_neg cn5]; rw [if_pos cn15]; rw [rbd_thn hn]), rfl, A, K, cX.rfl, q2⟩
      by_cases cn22 : (c53 s) = 12
      · refine l19 (t := 179) hi_52_16 (by rw [cn22]; decide) ?_
        refine l2 (v := 7) hi_52_179 rfl ?_
        refine l20s (v := .ref 2) h3 cs_7 hi_52_180 rfl ?_
        refine l32 (as := [.ref 2]) (la := [some (.ref 2), none]) (rest := []) hi_52_183 (am_hd0 (M := 52) (by decide) 183) rfl rfl rfl (fun N' d' hN_ => lc55 (N := N') (d := d') h3 ) ?_ ?_
        · rintro v25 S23 ⟨ev, h24⟩
          obtain ⟨w26, e27, rfl⟩ := cov_some ev
          show am_L _ _ _ _ _ [some (.ref 7), some (.int y1)] [.int w26] _ _
          refine am_L.mono (lc52_186 hr h24 ) ?_
          rintro o S1 ⟨s1, w1, q0, q1, A_, K_, q2, q3⟩
          exact ⟨s1, w1, (show c52_2 rc s y1 = c52_186 rc ((c55 s).1) y1 w26 from by unfold c52_2; rw [if_neg cn1]; rw [if_neg cn5]; rw [if_neg cn15]; rw [if_pos cn22]; rw [rbd_th e27]).trans q0, q1, A_, K_, cX.trans cX.rfl q2, q3⟩
        · rintro S23 ⟨q1, q2⟩
          have hn := cov_none q1
          exact ⟨_, none, (by unfold c52_2; rw [if_neg cn1]; rw [if_neg cn5]; rw [if_neg cn15]; rw [if_pos cn22]; rw [rbd_thn hn]), rfl, A, K, cX.rfl, q2⟩
      by_cases cn29 : (c53 s) = 17
      · refine l19 (t := 225) hi_52_16 (by rw [cn29]; decide) ?_
        refine l2 (v := 7) hi_52_225 rfl ?_
        refine l20s (v := .ref 2) h3 cs_7 hi_52_226 rfl ?_
        refine l2 (v := 7) hi_52_229 rfl ?_
        refine l20s (v := .ref 2) h3 cs_7 hi_52_230 rfl ?_
        refine l32 (as := [.ref 2]) (la := [some (.ref 2)]) (rest := [.ref 2]) hi_52_233 (am_hd0 (M := 52) (by decide) 233) rfl rfl rfl (fun N' d' _ => lc63 (N := N') (d := d') h3 ) ?_ (fun _ q => nomatch q.1)
        rintro v32 S30 ⟨ev32, h31⟩
        cases ev32
        show am_L _ _ _ _ _ [some (.ref 7), some (.int y1)] [.int (c63 s), .ref 2] _ _
        refine l0 hi_52_236 ?_
        refine l10 hi_52_237 ?_
        show am_L _ _ _ _ _ [some (.ref 7), some (.int y1)] [.int ((c63 s) + 2), .ref 2] _ _
        refine l32 (as := [.ref 2, .int ((c63 s) + 2)]) (la := [some (.ref 2), some (.int ((c63 s) + 2))]) (rest := []) hi_52_238 (am_hd0 (M := 52) (by decide) 238) rfl rfl rfl (fun N' d' _ => lc93 (N := N') (d := d') h31 ) ?_ (fun _ q => nomatch q.1)
        rintro v35 S33 ⟨ev35, h34⟩
        cases ev35
        show am_L _ _ _ _ _ [some (.ref 7), some (.int y1)] [.int (c93 s ((c63 s) + 2))] _ _
        refine l0 hi_52_241 ?_
        by_cases cn36 : (c93 s ((c63 s) + 2)) ≠ 59
        · refine l13t hi_52_243 (decide_eq_true cn36) ?_
          refine l2 (v := 7) hi_52_253 rfl ?_
          refine l32 (as := [.ref 7]) (la := [some (.ref 7), none, none, none, none, none, none, none]) (rest := []) hi_52_254 (am_hd0 (M := 52) (by decide) 254) rfl rfl rfl (fun N' d' hN_ => hr.h144 (N' := N') (d := d') (Nat.lt_succ_of_lt hN_) h34) ?_ ?_
          · rintro v39 S37 ⟨s42, w_, e41, q1, A43, K44, x45, h38⟩
            obtain ⟨w40, rfl, rfl⟩ := cow_some q1
            show am_L _ _ _ _ _ [some (.ref 7), some (.int y1)] [] _ _
            refine am_L.mono (lc52_257 hr h38 ) ?_
            rintro o S1 ⟨s1, w1, q0, q1, A_, K_, q2, q3⟩
            exact ⟨s1, w1, (show c52_2 rc s y1 = c52_257 rc s42 y1 from by unfold c52_2; rw [if_neg cn1]; rw [if_neg cn5]; rw [if_neg cn15]; rw [if_neg cn22]; rw [if_pos cn29]; rw [if_pos cn36]; rw [rbd_s e41]).trans q0, q1, A_, K_, cX.trans (cX.trans cX.rfl x45) q2, q3⟩
          · rintro S37 ⟨s1, w1, q0, q1, A_, K_, q2, q3⟩
            obtain rfl := cow_none q1
            exact ⟨s1, none, (by unfold c52_2; rw [if_neg cn1]; rw [if_neg cn5]; rw [if_neg cn15]; rw [if_neg cn22]; rw [if_pos cn29]; rw [if_pos cn36]; rw [rbd_n q0]), rfl, A_, K_, cX.trans cX.rfl q2, q3⟩
        · refine l13f hi_52_243 (decide_eq_false cn36) ?_
          refine l2 (v := 7) hi_52_246 rfl ?_
          refine l32 (as := [.ref 7]) (la := [some (.ref 7), none, none, none, none, none]) (rest := []) hi_52_247 (am_hd0 (M := 52) (by decide) 247) rfl rfl rfl (fun N' d' hN_ => hr.h138 (N' := N') (d := d') (Nat.lt_succ_of_lt hN_) h34) ?_ ?_
          · rintro v48 S46 ⟨s51, w_, e50, q1, A52, K53, x54, h47⟩
            obtain ⟨w49, rfl, rfl⟩ := cow_some q1
            show am_L _ _ _ _ _ [some (.ref 7), some (.int y1)] [] _ _
            refine am_L.mono (lc52_250 hr h47 ) ?_
            rintro o S1 ⟨s1, w1, q0, q1, A_, K_, q2, q3⟩
            exact ⟨s1, w1, (show c52_2 rc s y1 = c52_250 rc s51 y1 from by unfold c52_2; rw [if_neg cn1]; rw [if_neg cn5]; rw [if_neg cn15]; rw [if_neg cn22]; rw [if_pos cn29]; rw [if_neg cn36]; rw [rbd_s e50]).trans q0, q1, A_, K_, cX.trans (cX.trans cX.rfl x54) q2, q3⟩
          · rintro S46 ⟨s1, w1, q0, q1, A_, K_, q2, q3⟩
            obtain rfl := cow_none q1
            exact ⟨s1, none, (by unfold c52_2; rw [if_neg cn1]; rw [if_neg cn5]; rw [if_neg cn15]; rw [if_neg cn22]; rw [if_pos cn29]; rw [if_neg cn36]; rw [rbd_n q0]), rfl, A_, K_, cX.trans cX.rfl q2, q3⟩
      by_cases cn55 : (c53 s) = 18
      · refine l19 (t := 260) hi_52_16 (by rw [cn55]; decide) ?_
        refine l2 (v := 7) hi_52_260 rfl ?_
        refine l32 (as := [.ref 7]) (la := [some (.ref 7), none, none, none, none]) (rest := []) hi_52_261 (am_hd0 (M := 52) (by decide) 261) rfl rfl rfl (fun N' d' hN_ => hr.h145 (N' := N') (d := d') (Nat.lt_succ_of_lt hN_) h3) ?_ ?_
        · rintro v58 S56 ⟨s61, w_, e60, q1, A62, K63, x64, h57⟩
          obtain ⟨w59, rfl, rfl⟩ := cow_some q1
          show am_L _ _ _ _ _ [some (.ref 7), some (.int y1)] [] _ _
          refine am_L.mono (lc52_264 hr h57 ) ?_
          rintro o S1 ⟨s1, w1, q0, q1, A_, K_, q2, q3⟩
          exact ⟨s1, w1, (show c52_2 rc s y1 = c52_264 rc s61 y1 from by unfold c52_2; rw [if_neg cn1]; rw [if_neg cn5]; rw [if_neg cn15]; rw [if_neg cn22]; rw [if_neg cn29]; rw [if_pos cn55]; rw [rbd_s e60]).trans q0, q1, A_, K_, cX.trans (cX.trans cX.rfl x64) q2, q3⟩
        · rintro S56 ⟨s1, w1, q0, q1, A_, K_, q2, q3⟩
          obtain rfl := cow_none q1
          exact ⟨s1, none, (by unfold c52_2; rw [if_neg cn1]; rw [if_neg cn5]; rw [if_neg cn15]; rw [if_neg cn22]; rw [if_neg cn29]; rw [if_pos cn55]; rw [rbd_n q0]), rfl, A_, K_, cX.trans cX.rfl q2, q3⟩
      by_cases cn65 : (c53 s) = 19
      · refine l19 (t := 172) hi_52_16 (by rw [cn65]; decide) ?_
        refine l2 (v := 7) hi_52_172 rfl ?_
        refine l32 (as := [.ref 7]) (la := [some (.ref 7), none, none, none]) (rest := []) hi_52_173 (am_hd0 (M := 52) (by decide) 173) rfl rfl rfl (fun N' d' hN_ => lc126 (N := N') (d := d') h3 ) ?_ ?_
        · rintro v68 S66 ⟨ev, h67⟩
          obtain ⟨w69, e70, rfl⟩ := cow_some ev
          show am_L _ _ _ _ _ [some (.ref 7), some (.int y1)] [] _ _
          refine am_L.mono (lc52_176 hr h67 ) ?_
          rintro o S1 ⟨s1, w1, q0, q1, A_, K_, q2, q3⟩
          exact ⟨s1, w1, (show c52_2 rc s y1 = c52_176 rc ((c126 s).1) y1 from by unfold c52_2; rw [if_neg cn1]; rw [if_neg cn5]; rw [if_neg cn15]; rw [if_neg cn22]; rw [if_neg cn29]; rw [if_neg cn55]; rw [if_pos cn65]; rw [rbd_th e70]).trans q0, q1, A_, K_, cX.trans cX.rfl q2, q3⟩
        · rintro S66 ⟨q1, q2⟩
          have hn := cow_none q1
          exact ⟨_, none, (by unfold c52_2; rw [if_neg cn1]; rw [if_neg cn5]; rw [if_neg cn15]; rw [if_neg cn22]; rw [if_neg cn29]; rw [if_neg cn55]; rw [if_pos cn65]; rw [rbd_thn hn]), rfl, A, K, cX.rfl, q2⟩
      by_cases cn72 : (c53 s) = 20
      · refine l19 (t := 218) hi_52_16 (by rw [cn72]; decide) ?_
        refine l2 (v := 7) hi_52_218 rfl ?_
        refine l32 (as := [.ref 7]) (la := [some (.ref 7), none, none, none]) (rest := []) hi_52_219 (am_hd0 (M := 52) (by decide) 219) rfl rfl rfl (fun N' d' hN_ => hr.h134 (N' := N') (d := d') (Nat.lt_succ_of_lt hN_) h3) ?_ ?_
        · rintro v75 S73 ⟨s78, w_, e77, q1, A79, K80, x81, h74⟩
          obtain ⟨w76, rfl, rfl⟩ := cow_some q1
          show am_L _ _ _ _ _ [some (.ref 7), some (.int y1)] [] _ _
          refine am_L.mono (lc52_222 hr h74 ) ?_
          rintro o S1 ⟨s1, w1, q0, q1, A_, K_, q2, q3⟩
          exact ⟨s1, w1, (show c52_2 rc s y1 = c52_222 rc s78 y1 from by unfold c52_2; rw [if_neg cn1]; rw [if_neg cn5]; rw [if_neg cn15]; rw [if_neg cn22]; rw [if_neg cn29]; rw [if_neg cn55]; rw [if_neg cn65]; rw [if_pos cn72]; rw [rbd_s e77]).trans q0, q1, A_, K_, cX.trans (cX.trans cX.rfl x81) q2, q3⟩
        · rintro S73 ⟨s1, w1, q0, q1, A_, K_, q2, q3⟩
          obtain rfl := cow_none q1
          exact ⟨s1, none, (by unfold c52_2; rw [if_neg cn1]; rw [if_neg cn5]; rw [if_neg cn15]; rw [if_neg cn22]; rw [if_neg cn29]; rw [if_neg cn55]; rw [if_neg cn65]; rw [if_pos cn72]; rw [rbd_n q0]), rfl, A_, K_, cX.trans cX.rfl q2, q3⟩
      by_cases cn82 : (c53 s) = 22
      · refine l19 (t := 267) hi_52_16 (by rw [cn82]; decide) ?_
        refine l2 (v := 7) hi_52_267 rfl ?_
        refine l20s (v := .ref 2) h3 cs_7 hi_52_268 rfl ?_
        refine l2 (v := 7) hi_52_271 rfl ?_
        refine l20s (v := .ref 2) h3 cs_7 hi_52_272 rfl ?_
        refine l32 (as := [.ref 2]) (la := [some (.ref 2)]) (rest := [.ref 2]) hi_52_275 (am_hd0 (M := 52) (by decide) 275) rfl rfl rfl (fun N' d' _ => lc63 (N := N') (d := d') h3 ) ?_ (fun _ q => nomatch q.1)
        rintro v85 S83 ⟨ev85, h84⟩
        cases ev85
        show am_L _ _ _ _ _ [some (.ref 7), some (.int y1)] [.int (c63 s), .ref 2] _ _
        refine l0 hi_52_278 ?_
        refine l10 hi_52_279 ?_
        show am_L _ _ _ _ _ [some (.ref 7), some (.int y1)] [.int ((c63 s) + 1), .ref 2] _ _
        refine l32 (as := [.ref 2, .int ((c63 s) + 1)]) (la := [some (.ref 2), some (.int ((c63 s) + 1))]) (rest := []) hi_52_280 (am_hd0 (M := 52) (by decide) 280) rfl rfl rfl (fun N' d' _ => lc93 (N := N') (d := d') h84 ) ?_ (fun _ q => nomatch q.1)
        rintro v88 S86 ⟨ev88, h87⟩
        cases ev88
        show am_L _ _ _ _ _ [some (.ref 7), some (.int y1)] [.int (c93 s ((c63 s) + 1))] _ _
        refine l0 hi_52_283 ?_
        by_cases cn89 : (c93 s ((c63 s) + 1)) ≠ 18
        · refine l13t hi_52_285 (decide_eq_true cn89) ?_
          refine l2 (v := 7) hi_52_295 rfl ?_
          refine l32 (as := [.ref 7]) (la := [some (.ref 7), none, none, none, none, none, none, none]) (rest := []) hi_52_296 (am_hd0 (M := 52) (by decide) 296) rfl rfl rfl (fun N' d' hN_ => hr.h147 (N' := N') (d := d') (Nat.lt_succ_of_lt hN_) h87) ?_ ?_
          · rintro v92 S90 ⟨s95, w_, e94, q1, A96, K97, x98, h91⟩
            obtain ⟨w93, rfl, rfl⟩ := cow_some q1
            show am_L _ _ _ _ _ [some (.ref 7), some (.int y1)] [] _ _
            refine am_L.mono (lc52_299 hr h91 ) ?_
            rintro o S1 ⟨s1, w1, q0, q1, A_, K_, q2, q3⟩
            exact ⟨s1, w1, (show c52_2 rc s y1 = c52_299 rc s95 y1 from by unfold c52_2; rw [if_neg cn1]; rw [if_neg cn5]; rw [if_neg cn15]; rw [if_neg cn22]; rw [if_neg cn29]; rw [if_neg cn55]; rw [if_neg cn65]; rw [if_neg cn72]; rw [if_pos cn82]; rw [if_pos cn89]; rw [rbd_s e94]).trans q0, q1, A_, K_, cX.trans (cX.trans cX.rfl x98) q2, q3⟩
          · rintro S90 ⟨s1, w1, q0, q1, A_, K_, q2, q3⟩
            obtain rfl := cow_none q1
            exact ⟨s1, none, (by unfold c52_2; rw [if_neg cn1]; rw [if_neg cn5]; rw [if_neg cn15]; rw [if_neg cn22]; rw [if_neg cn29]; rw [if_neg cn55]; rw [if_neg cn65]; rw [if_neg cn72]; rw [if_pos cn82]; rw [if_pos cn89]; rw [rbd_n q0]), rfl, A_, K_, cX.trans cX.rfl q2, q3⟩
        · refine l13f hi_52_285 (decide_eq_false cn89) ?_
          refine l2 (v := 7) hi_52_288 rfl ?_
          refine l32 (as := [.ref 7]) (la := [some (.ref 7), none, none, none, none, none]) (rest := []) hi_52_289 (am_hd0 (M := 52) (by decide) 289) rfl rfl rfl (fun N' d' hN_ => hr.h146 (N' := N') (d := d') (Nat.lt_succ_of_lt hN_) h87) ?_ ?_
          · rintro v101 S99 ⟨s104, w_, e103, q1, A105, K106, x107, h100⟩
            obtain ⟨w102, rfl, rfl⟩ := cow_some q1
            show am_L _ _ _ _ _ [some (.ref 7), some (.int y1)] [] _ _
            refine am_L.mono (lc52_292 hr h100 ) ?_
            rintro o S1 ⟨s1, w1, q0, q1, A_, K_, q2, q3⟩
            exact ⟨s1, w1, (show c52_2 rc s y1 = c52_292 rc s104 y1 from by unfold c52_2; rw [if_neg cn1]; rw [if_neg cn5]; rw [if_neg cn15]; rw [if_neg cn22]; rw [if_neg cn29]; rw [if_neg cn55]; rw [if_neg cn65]; rw [if_neg cn72]; rw [if_pos cn82]; rw [if_neg cn89]; rw [rbd_s e103]).trans q0, q1, A_, K_, cX.trans (cX.trans cX.rfl x107) q2, q3⟩
          · rintro S99 ⟨s1, w1, q0, q1, A_, K_, q2, q3⟩
            obtain rfl := cow_none q1
            exact ⟨s1, none, (by unfold c52_2; rw [if_neg cn1]; rw [if_neg cn5]; rw [if_neg cn15]; rw [if_neg cn22]; rw [if_neg cn29]; rw [if_neg cn55]; rw [if_neg cn65]; rw [if_neg cn72]; rw [if_pos cn82]; rw [if_neg cn89]; rw [rbd_n q0]), rfl, A_, K_, cX.trans cX.rfl q2, q3⟩
      by_cases cn108 : (c53 s) = 26
      · refine l19 (t := 211) hi_52_16 (by rw [cn108]; decide) ?_
        refine l2 (v := 7) hi_52_211 rfl ?_
        refine l32 (as := [.ref 7]) (la := [some (.ref 7), none, none]) (rest := []) hi_52_212 (am_hd0 (M := 52) (by decide) 212) rfl rfl rfl (fun N' d' hN_ => hr.h133 (N' := N') (d := d') (Nat.lt_succ_of_lt hN_) h3) ?_ ?_
        · rintro v111 S109 ⟨s114, w_, e113, q1, A115, K116, x117, h110⟩
          obtain ⟨w112, rfl, rfl⟩ := cow_some q1
          show am_L _ _ _ _ _ [some (.ref 7), some (.int y1)] [] _ _
          refine am_L.mono (lc52_215 hr h110 ) ?_
          rintro o S1 ⟨s1, w1, q0, q1, A_, K_, q2, q3⟩
          exact ⟨s1, w1, (show c52_2 rc s y1 = c52_215 rc s114 y1 from by unfold c52_2; rw [if_neg cn1]; rw [if_neg cn5]; rw [if_neg cn15]; rw [if_neg cn22]; rw [if_neg cn29]; rw [if_neg cn55]; rw [if_neg cn65]; rw [if_neg cn72]; rw [if_neg cn82]; rw [if_pos cn108]; rw [rbd_s e113]).trans q0, q1, A_, K_, cX.trans (cX.trans cX.rfl x117) q2, q3⟩
        · rintro S109 ⟨s1, w1, q0, q1, A_, K_, q2, q3⟩
          obtain rfl := cow_none q1
          exact ⟨s1, none, (by unfold c52_2; rw [if_neg cn1]; rw [if_neg cn5]; rw [if_neg cn15]; rw [if_neg cn22]; rw [if_neg cn29]; rw [if_neg cn55]; rw [if_neg cn65]; rw [if_neg cn72]; rw [if_neg cn82]; rw [if_pos cn108]; rw [rbd_n q0]), rfl, A_, K_, cX.trans cX.rfl q2, q3⟩
      by_cases cn118 : (c53 s) = 27
      · refine l19 (t := 302) hi_52_16 (by rw [cn118]; decide) ?_
        refine l2 (v := 7) hi_52_302 rfl ?_
        refine l32 (as := [.ref 7]) (la := [some (.ref 7), none, none, none]) (rest := []) hi_52_303 (am_hd0 (M := 52) (by decide) 303) rfl rfl rfl (fun N' d' hN_ => hr.h150 (N' := N') (d := d') (Nat.lt_succ_of_lt hN_) h3) ?_ ?_
        · rintro v121 S119 ⟨s124, w_, e123, q1, A125, K126, x127, h120⟩
          obtain ⟨w122, rfl, rfl⟩ := cow_some q1
          show am_L _ _ _ _ _ [some (.ref 7), some (.int y1)] [] _ _
          exact l35 hi_52_306 ⟨s124, some 0, (by unfold c52_2; rw [if_neg cn1]; rw [if_neg cn5]; rw [if_neg cn15]; rw [if_neg cn22]; rw [if_neg cn29]; rw [if_neg cn55]; rw [if_neg cn65]; rw [if_neg cn72]; rw [if_neg cn82]; rw [if_neg cn108]; rw [if_pos cn118]; rw [rbd_s e123]), rfl, A125, K126, (cX.trans cX.rfl x127), h120⟩
        · rintro S119 ⟨s1, w1, q0, q1, A_, K_, q2, q3⟩
          obtain rfl := cow_none q1
          exact ⟨s1, none, (by unfold c52_2; rw [if_neg cn1]; rw [if_neg cn5]; rw [if_neg cn15]; rw [if_neg cn22]; rw [if_neg cn29]; rw [if_neg cn55]; rw [if_neg cn65]; rw [if_neg cn72]; rw [if_neg cn82]; rw [if_neg cn108]; rw [if_pos cn118]; rw [rbd_n q0]), rfl, A_, K_, cX.trans cX.rfl q2, q3⟩
      by_cases cn128 : (c53 s) = 31
      · refine l19 (t := 204) hi_52_16 (by rw [cn128]; decide) ?_
        refine l2 (v := 7) hi_52_204 rfl ?_
        refine l32 (as := [.ref 7]) (la := [some (.ref 7), none, none]) (rest := []) hi_52_205 (am_hd0 (M := 52) (by decide) 205) rfl rfl rfl (fun N' d' hN_ => hr.h130 (N' := N') (d := d') (Nat.lt_succ_of_lt hN_) h3) ?_ ?_
        · rintro v131 S129 ⟨s134, w_, e133, q1, A135, K136, x137, h130⟩
          obtain ⟨w132, rfl, rfl⟩ := cow_some q1
          show am_L _ _ _ _ _ [some (.ref 7), some (.int y1)] [] _ _
          refine am_L.mono (lc52_208 hr h130 ) ?_
          rintro o S1 ⟨s1, w1, q0, q1, A_, K_, q2, q3⟩
          exact ⟨s1, w1, (show c52_2 rc s y1 = c52_208 rc s134 y1 from by unfold c52_2; rw [if_neg cn1]; rw [if_neg cn5]; rw [if_neg cn15]; rw [if_neg cn22]; rw [if_neg cn29]; rw [if_neg cn55]; rw [if_neg cn65]; rw [if_neg cn72]; rw [if_neg cn82]; rw [if_neg cn108]; rw [if_neg cn118]; rw [if_pos cn128]; rw [rbd_s e133]).trans q0, q1, A_, K_, cX.trans (cX.trans cX.rfl x137) q2, q3⟩
        · rintro S129 ⟨s1, w1, q0, q1, A_, K_, q2, q3⟩
          obtain rfl := cow_none q1
          exact ⟨s1, none, (by unfold c52_2; rw [if_neg cn1]; rw [if_neg cn5]; rw [if_neg cn15]; rw [if_neg cn22]; rw [if_neg cn29]; rw [if_neg cn55]; rw [if_neg cn65]; rw [if_neg cn72]; rw [if_neg cn82]; rw [if_neg cn108]; rw [if_neg cn118]; rw [if_pos cn128]; rw [rbd_n q0]), rfl, A_, K_, cX.trans cX.rfl q2, q3⟩
      by_cases cn138 : (c53 s) = 60
      · refine l19 (t := 151) hi_52_16 (by rw [cn138]; decide) ?_
        refine l2 (v := 7) hi_52_151 rfl ?_
        refine l32 (as := [.ref 7]) (la := [some (.ref 7), none, none, none]) (rest := []) hi_52_152 (am_hd0 (M := 52) (by decide) 152) rfl rfl rfl (fun N' d' hN_ => hr.h59 (N' := N') (d := d') (Nat.lt_succ_of_lt hN_) h3) ?_ ?_
        · rintro v141 S139 ⟨s144, w_, e143, q1, A145, K146, x147, h140⟩
          obtain ⟨w142, rfl, rfl⟩ := cow_some q1
          show am_L _ _ _ _ _ [some (.ref 7), some (.int y1)] [] _ _
          refine am_L.mono (lc52_155 hr h140 ) ?_
          rintro o S1 ⟨s1, w1, q0, q1, A_, K_, q2, q3⟩
          exact ⟨s1, w1, (show c52_2 rc s y1 = c52_155 rc s144 y1 from by unfold c52_2; rw [if_neg cn1]; rw [if_neg cn5]; rw [if_neg cn15]; rw [if_neg cn22]; rw [if_neg cn29]; rw [if_neg cn55]; rw [if_neg cn65]; rw [if_neg cn72]; rw [if_neg cn82]; rw [if_neg cn108]; rw [if_neg cn118]; rw [if_neg cn128]; rw [if_pos cn138]; rw [rbd_s e143]).trans q0, q1, A_, K_, cX.trans (cX.trans cX.rfl x147) q2, q3⟩
        · rintro S139 ⟨s1, w1, q0, q1, A_, K_, q2, q3⟩
          obtain rfl := cow_none q1
          exact ⟨s1, none, (by unfold c52_2; rw [if_neg cn1]; rw [if_neg cn5]; rw [if_neg cn15]; rw [if_neg cn22]; rw [if_neg cn29]; rw [if_neg cn55]; rw [if_neg cn65]; rw [if_neg cn72]; rw [if_neg cn82]; rw [if_neg cn108]; rw [if_neg cn118]; rw [if_neg cn128]; rw [if_pos cn138]; rw [rbd_n q0]), rfl, A_, K_, cX.trans cX.rfl q2, q3⟩
      by_cases cn148 : (c53 s) = 66
      · refine l19 (t := 158) hi_52_16 (by rw [cn148]; decide) ?_
        refine l2 (v := 7) hi_52_158 rfl ?_
        refine l32 (as := [.ref 7]) (la := [some (.ref 7), none, none]) (rest := []) hi_52_159 (am_hd0 (M := 52) (by decide) 159) rfl rfl rfl (fun N' d' hN_ => lc119 (N := N') (d := d') h3 ) ?_ ?_
        · rintro v151 S149 ⟨ev, h150⟩
          obtain ⟨w152, e153, rfl⟩ := cow_some ev
          show am_L _ _ _ _ _ [some (.ref 7), some (.int y1)] [] _ _
          refine am_L.mono (lc52_162 hr h150 ) ?_
          rintro o S1 ⟨s1, w1, q0, q1, A_, K_, q2, q3⟩
          exact ⟨s1, w1, (show c52_2 rc s y1 = c52_162 rc ((c119 s).1) y1 from by unfold c52_2; rw [if_neg cn1]; rw [if_neg cn5]; rw [if_neg cn15]; rw [if_neg cn22]; rw [if_neg cn29]; rw [if_neg cn55]; rw [if_neg cn65]; rw [if_neg cn72]; rw [if_neg cn82]; rw [if_neg cn108]; rw [if_neg cn118]; rw [if_neg cn128]; rw [if_neg cn138]; rw [if_pos cn148]; rw [rbd_th e153]).trans q0, q1, A_, K_, cX.trans cX.rfl q2, q3⟩
        · rintro S149 ⟨q1, q2⟩
          have hn := cow_none q1
          exact ⟨_, none, (by unfold c52_2; rw [if_neg cn1]; rw [if_neg cn5]; rw [if_neg cn15]; rw [if_neg cn22]; rw [if_neg cn29]; rw [if_neg cn55]; rw [if_neg cn65]; rw [if_neg cn72]; rw [if_neg cn82]; rw [if_neg cn108]; rw [if_neg cn118]; rw [if_neg cn128]; rw [if_neg cn138]; rw [if_pos cn148]; rw [rbd_thn hn]), rfl, A, K, cX.rfl, q2⟩
      by_cases cn155 : (c53 s) = 67
      · refine l19 (t := 140) hi_52_16 (by rw [cn155]; decide) ?_
        refine l2 (v := 7) hi_52_140 rfl ?_
        refine l20s (v := .ref 2) h3 cs_7 hi_52_141 rfl ?_
        refine l32 (as := [.ref 2]) (la := [some (.ref 2), none]) (rest := []) hi_52_144 (am_hd0 (M := 52) (by decide) 144) rfl rfl rfl (fun N' d' hN_ => lc55 (N := N') (d := d') h3 ) ?_ ?_
        · rintro v158 S156 ⟨ev, h157⟩
          obtain ⟨w159, e160, rfl⟩ := cov_some ev
          show am_L _ _ _ _ _ [some (.ref 7), some (.int y1)] [.int w159] _ _
          refine am_L.mono (lc52_147 hr h157 ) ?_
          rintro o S1 ⟨s1, w1, q0, q1, A_, K_, q2, q3⟩
          exact ⟨s1, w1, (show c52_2 rc s y1 = c52_147 rc ((c55 s).1) y1 w159 from by unfold c52_2; rw [if_neg cn1]; rw [if_neg cn5]; rw [if_neg cn15]; rw [if_neg cn22]; rw [if_neg cn29]; rw [if_neg cn55]; rw [if_neg cn65]; rw [if_neg cn72]; rw [if_neg cn82]; rw [if_neg cn108]; rw [if_neg cn118]; rw [if_neg cn128]; rw [if_neg cn138]; rw [if_neg cn148]; rw [if_pos cn155]; rw [rbd_th e160]).trans q0, q1, A_, K_, cX.trans cX.rfl q2, q3⟩
        · rintro S156 ⟨q1, q2⟩
          have hn := cov_none q1
          exact ⟨_, none, (by unfold c52_2; rw [if_neg cn1]; rw [if_neg cn5]; rw [if_neg cn15]; rw [if_neg cn22]; rw [if_neg cn29]; rw [if_neg cn55]; rw [if_neg cn65]; rw [if_neg cn72]; rw [if_neg cn82]; rw [if_neg cn108]; rw [if_neg cn118]; rw [if_neg cn128]; rw [if_neg cn138]; rw [if_neg cn148]; rw [if_pos cn155]; rw [rbd_thn hn]), rfl, A, K, cX.rfl, q2⟩
      refine l19 (t := 307) hi_52_16 (sw_not (ks := [1, 11, 12, 17, 18, 19, 20, 22, 26, 27, 31, 60, 66, 67]) (by decide) (by intro k hk; simp only [List.mem_cons, List.not_mem_nil, or_false] at hk; rcases hk with rfl | rfl | rfl | rfl | rfl | rfl | rfl | rfl | rfl | rfl | rfl | rfl | rfl | rfl <;> first | exact cn5 | exact cn15 | exact cn22 | exact cn29 | exact cn55 | exact cn65 | exact cn72 | exact cn82 | exact cn108 | exact cn118 | exact cn128 | exact cn138 | exact cn148 | exact cn155)) ?_
      exact l35 hi_52_307 ⟨s, some 0, (by unfold c52_2; rw [if_neg cn1]; rw [if_neg cn5]; rw [if_neg cn15]; rw [if_neg cn22]; rw [if_neg cn29]; rw [if_neg cn55]; rw [if_neg cn65]; rw [if_neg cn72]; rw [if_neg cn82]; rw [if_neg cn108]; rw [if_neg cn118]; rw [if_neg cn128]; rw [if_neg cn138]; rw [if_neg cn148]; rw [if_neg cn155]), rfl, A, K, cX.rfl, h3⟩
noncomputable def c52 (rc : cRC) (s : cS) : Option (cS × Option Int32) := c52_2 rc s 0
theorem lc52 {sc : Nat × (Nat → Int32)} {N d : Nat} {A : Nat → Nat} {K : Nat} {S : am_S} {rc : cRC} {s : cS} (hr : RCH sc rc N) (hS : CM A K S s) : am_L (am_PP sc) N d 52 0 [some (.ref 7), none] [] S (fun o S1 => ∃ s1 w, c52 rc s = some (s1, w) ∧ o = cow w ∧ CX A K S1 s1) := by
  refine l0 hi_52_0 ?_
  refine l3 (ls' := [some (.ref 7), some (.int 0)]) hi_52_1 (Nat.le_of_ble_eq_true rfl) rfl ?_
  refine am_L.mono (lc52_2  hr hS) ?_
  rintro o S1 ⟨s1, w1, q0, q1, A_, K_, q2, q3⟩
  exact ⟨s1, w1, (show c52 rc s = c52_2 rc s 0 from rfl).trans q0, q1, A_, K_, cX.trans cX.rfl q2, q3⟩
