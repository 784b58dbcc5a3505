/-! THE CLASS: what each method does (printed by wip/p5/cw_run.py) -/
set_option maxRecDepth 4096
def c135_21 (rc : cRC) (s : cS) (z0 : Int32) : Option (cS × Option Int32) := some ((c78 s 35 0 0 0).1, some ((c78 s 35 0 0 0).2))
theorem lc135_21 {sc : Nat × (Nat → Int32)} {N d : Nat} {A : Nat → Nat} {K : Nat} {S : am_S} {rc : cRC} {s : cS} {z0 : Int32} (hr : RCH sc rc N) (hS : CM A K S s) : am_L (am_PP sc) N d 135 21 [some (.ref 7)] [.int z0] S (fun o S1 => ∃ s1 w, c135_21 rc s z0 = some (s1, w) ∧ o = cov w ∧ CX A K S1 s1) := by
  refine l6i hi_135_21 ?_
  refine l2 (v := 7) hi_135_22 rfl ?_
  refine l0 hi_135_23 ?_
  refine l0 hi_135_25 ?_
  refine l0 hi_135_26 ?_
  refine l0 hi_135_27 ?_
  refine l32 (as := [.ref 7, .int 35, .int 0, .int 0, .int 0]) (la := [some (.ref 7), some (.int 35), some (.int 0), some (.int 0), some (.int 0)]) (rest := []) hi_135_28 (am_hd0 (M := 135) (by decide) 28) rfl rfl rfl (fun N' d' _ => lc78 (N := N') (d := d') hS ) ?_ (fun _ q => nomatch q.1)
  rintro v3 S1 ⟨ev3, h2⟩
  cases ev3
  show am_L _ _ _ _ _ [some (.ref 7)] [.int ((c78 s 35 0 0 0).2)] _ _
  exact l33 hi_135_31 ⟨(c78 s 35 0 0 0).1, some ((c78 s 35 0 0 0).2), (rfl), rfl, A, K, cX.rfl, h2⟩
def c135_12 (rc : cRC) (s : cS) : Option (cS × Option Int32) := rbd (some (c64 s 28)) (fun _ w4 => c135_21 rc ((c64 s 28).1) w4)
theorem lc135_12 {sc : Nat × (Nat → Int32)} {N d : Nat} {A : Nat → Nat} {K : Nat} {S : am_S} {rc : cRC} {s : cS} (hr : RCH sc rc N) (hS : CM A K S s) : am_L (am_PP sc) N d 135 12 [some (.ref 7)] [] S (fun o S1 => ∃ s1 w, c135_12 rc s = some (s1, w) ∧ o = cov w ∧ CX A K S1 s1) := by
  refine l2 (v := 7) hi_135_12 rfl ?_
  refine l20s (v := .ref 2) hS cs_7 hi_135_13 rfl ?_
  refine l0 hi_135_16 ?_
  refine l32 (as := [.ref 2, .int 28]) (la := [some (.ref 2), some (.int 28)]) (rest := []) hi_135_18 (am_hd0 (M := 135) (by decide) 18) rfl rfl rfl (fun N' d' hN_ => lc64 (N := N') (d := d') hS ) ?_ ?_
  · rintro v3 S1 ⟨ev, h2⟩
    obtain ⟨w4, e5, rfl⟩ := cov_some ev
    show am_L _ _ _ _ _ [some (.ref 7)] [.int w4] _ _
    refine am_L.mono (lc135_21 hr h2 ) ?_
    rintro o S1 ⟨s1, w1, q0, q1, A_, K_, q2, q3⟩
    exact ⟨s1, w1, (show c135_12 rc s = c135_21 rc ((c64 s 28).1) w4 from by unfold c135_12; rw [rbd_th e5]).trans q0, q1, A_, K_, cX.trans cX.rfl q2, q3⟩
  · rintro S1 ⟨q1, q2⟩
    have hn := cov_none q1
    exact ⟨_, none, (by unfold c135_12; rw [rbd_thn hn]), rfl, A, K, cX.rfl, q2⟩
def c135_7 (rc : cRC) (s : cS) (z0 : Int32) : Option (cS × Option Int32) := rbd (rc 70 s 0 0 0 0 0 0 0) (fun s6 w4 => c135_12 rc s6)
theorem lc135_7 {sc : Nat × (Nat → Int32)} {N d : Nat} {A : Nat → Nat} {K : Nat} {S : am_S} {rc : cRC} {s : cS} {z0 : Int32} (hr : RCH sc rc N) (hS : CM A K S s) : am_L (am_PP sc) N d 135 7 [some (.ref 7)] [.int z0] S (fun o S1 => ∃ s1 w, c135_7 rc s z0 = some (s1, w) ∧ o = cov w ∧ CX A K S1 s1) := by
  refine l6i hi_135_7 ?_
  refine l2 (v := 7) hi_135_8 rfl ?_
  refine l32 (as := [.ref 7]) (la := [some (.ref 7), none, none, none, none, none]) (rest := []) hi_135_9 (am_hd0 (M := 135) (by decide) 9) rfl rfl rfl (fun N' d' hN_ => hr.h70 (N' := N') (d := d') hN_ hS) ?_ ?_
  · rintro v3 S1 ⟨s6, w_, e5, q1, A7, K8, x9, h2⟩
    obtain ⟨w4, rfl, rfl⟩ := cow_some q1
    show am_L _ _ _ _ _ [some (.ref 7)] [] _ _
    refine am_L.mono (lc135_12 hr h2 ) ?_
    rintro o S1 ⟨s1, w1, q0, q1, A_, K_, q2, q3⟩
    exact ⟨s1, w1, (show c135_7 rc s z0 = c135_12 rc s6 from by unfold c135_7; rw [rbd_s e5]).trans q0, q1, A_, K_, cX.trans (cX.trans cX.rfl x9) q2, q3⟩
  · rintro S1 ⟨s1, w1, q0, q1, A_, K_, q2, q3⟩
    obtain rfl := cow_none q1
    exact ⟨s1, none, (by unfold c135_7; rw [rbd_n q0]), rfl, A_, K_, cX.trans cX.rfl q2, q3⟩
def c135 (rc : cRC) (s : cS) : Option (cS × Option Int32) := rbd (some (c55 s)) (fun _ w4 => c135_7 rc ((c55 s).1) w4)
theorem lc135 {sc : Nat × (Nat → Int32)} {N d : Nat} {A : Nat → Nat} {K : Nat} {S : am_S} {rc : cRC} {s : cS} (hr : RCH sc rc N) (hS : CM A K S s) : am_L (am_PP sc) N d 135 0 [some (.ref 7)] [] S (fun o S1 => ∃ s1 w, c135 rc s = some (s1, w) ∧ o = cov w ∧ CX A K S1 s1) := by
  refine l2 (v := 7) hi_135_0 rfl ?_
  refine l20s (v := .ref 2) hS cs_7 hi_135_1 rfl ?_
  refine l32 (as := [.ref 2]) (la := [some (.ref 2), none]) (rest := []) hi_135_4 (am_hd0 (M := 135) (by decide) 4) rfl rfl rfl (fun N' d' hN_ => lc55 (N := N') (d := d') hS ) ?_ ?_
  · rintro v3 S1 ⟨ev, h2⟩
    obtain ⟨w4, e5, rfl⟩ := cov_some ev
    show am_L _ _ _ _ _ [some (.ref 7)] [.int w4] _ _
    refine am_L.mono (lc135_7 hr h2 ) ?_
    rintro o S1 ⟨s1, w1, q0, q1, A_, K_, q2, q3⟩
    exact ⟨s1, w1, (show c135 rc s = c135_7 rc ((c55 s).1) w4 from by unfold c135; rw [rbd_th e5]).trans q0, q1, A_, K_, cX.trans cX.rfl q2, q3⟩
  · rintro S1 ⟨q1, q2⟩
    have hn := cov_none q1
    exact ⟨_, none, (by unfold c135; rw [rbd_thn hn]), rfl, A, K, cX.rfl, q2⟩
noncomputable def c134_109 (rc : cRC) (s : cS) (y1 : Int32) : Option (cS × Option Int32) := some ((c137 s y1).1, some 0)
theorem lc134_109 {sc : Nat × (Nat → Int32)} {N d : Nat} {A : Nat → Nat} {K : Nat} {S : am_S} {rc : cRC} {s : cS} {y1 : Int32} {o2 : Option Value} {o3 : Option Value} (hr : RCH sc rc N) (hS : CM A K S s) : am_L (am_PP sc) N d 134 109 [some (.ref 7), some (.int y1), o2, o3] [] S (fun o S1 => ∃ s1 w, c134_109 rc s y1 = some (s1, w) ∧ o = cow w ∧ CX A K S1 s1) := by
  refine l2 (v := 7) hi_134_109 rfl ?_
  refine l1 (v := y1) hi_134_110 rfl ?_
  refine l32 (as := [.ref 7, .int y1]) (la := [some (.ref 7), some (.int y1), none, none, none]) (rest := []) hi_134_111 (am_hd0 (M := 134) (by decide) 111) rfl rfl rfl (fun N' d' _ => lc137 (N := N') (d := d') hS ) ?_ (fun _ q => nomatch q.1)
  rintro v3 S1 ⟨ev3, h2⟩
  cases ev3
  show am_L _ _ _ _ _ [some (.ref 7), some (.int y1), o2, o3] [] _ _
  exact l35 hi_134_114 ⟨(c137 s y1).1, some 0, (rfl), rfl, A, K, cX.rfl, h2⟩
noncomputable def c134_96 (rc : cRC) (s : cS) (y1 : Int32) (y2 : Int32) (z0 : Int32) : Option (cS × Option Int32) := c134_109 rc ((c109 s s.now y2 1).1) y1
theorem lc134_96 {sc : Nat × (Nat → Int32)} {N d : Nat} {A : Nat → Nat} {K : Nat} {S : am_S} {rc : cRC} {s : cS} {y1 : Int32} {y2 : Int32} {z0 : Int32} {o3 : Option Value} (hr : RCH sc rc N) (hS : CM A K S s) : am_L (am_PP sc) N d 134 96 [some (.ref 7), some (.int y1), some (.int y2), o3] [.int z0] S (fun o S1 => ∃ s1 w, c134_96 rc s y1 y2 z0 = some (s1, w) ∧ o = cow w ∧ CX A K S1 s1) := by
  refine l6i hi_134_96 ?_
  refine l2 (v := 7) hi_134_97 rfl ?_
  refine l20s (v := .ref 12) hS cs_7 hi_134_98 rfl ?_
  refine l32 (as := [.ref 12]) (la := [some (.ref 12)]) (rest := []) hi_134_101 (am_hd0 (M := 134) (by decide) 101) rfl rfl rfl (fun N' d' _ => lc79 (N := N') (d := d') hS) ?_ (fun _ q => nomatch q.1)
  rintro v3 S1 ⟨ev3, h2⟩
  cases ev3
  show am_L _ _ _ _ _ [some (.ref 7), some (.int y1), some (.int y2), o3] [.ref (A s.now)] _ _
  refine l1 (v := y2) hi_134_104 rfl ?_
  refine l0 hi_134_105 ?_
  refine l32 (as := [.ref (A s.now), .int y2, .int 1]) (la := [some (.ref (A s.now)), some (.int y2), some (.int 1)]) (rest := []) hi_134_106 (am_hd0 (M := 134) (by decide) 106) rfl rfl rfl (fun N' d' _ => lc109 (N := N') (d := d') h2 (show s.now ≤ K from CM.nl (s := s) hS)) ?_ (fun _ q => nomatch q.1)
  rintro v6 S4 ⟨ev6, h5⟩
  cases ev6
  show am_L _ _ _ _ _ [some (.ref 7), some (.int y1), some (.int y2), o3] [] _ _
  refine am_L.mono (lc134_109 hr h5 ) ?_
  rintro o S1 ⟨s1, w1, q0, q1, A_, K_, q2, q3⟩
  exact ⟨s1, w1, (rfl).trans q0, q1, A_, K_, cX.trans cX.rfl q2, q3⟩
noncomputable def c134_87 (rc : cRC) (s : cS) (y1 : Int32) (y2 : Int32) : Option (cS × Option Int32) := rbd (some (c64 s 15)) (fun _ w4 => c134_96 rc ((c64 s 15).1) y1 y2 w4)
theorem lc134_87 {sc : Nat × (Nat → Int32)} {N d : Nat} {A : Nat → Nat} {K : Nat} {S : am_S} {rc : cRC} {s : cS} {y1 : Int32} {y2 : Int32} {o3 : Option Value} (hr : RCH sc rc N) (hS : CM A K S s) : am_L (am_PP sc) N d 134 87 [some (.ref 7), some (.int y1), some (.int y2), o3] [] S (fun o S1 => ∃ s1 w, c134_87 rc s y1 y2 = some (s1, w) ∧ o = cow w ∧ CX A K S1 s1) := by
  refine l2 (v := 7) hi_134_87 rfl ?_
  refine l20s (v := .ref 2) hS cs_7 hi_134_88 rfl ?_
  refine l0 hi_134_91 ?_
  refine l32 (as := [.ref 2, .int 15]) (la := [some (.ref 2), some (.int 15)]) (rest := []) hi_134_93 (am_hd0 (M := 134) (by decide) 93) rfl rfl rfl (fun N' d' hN_ => lc64 (N := N') (d := d') hS ) ?_ ?_
  · rintro v3 S1 ⟨ev, h2⟩
    obtain ⟨w4, e5, rfl⟩ := cov_some ev
    show am_L _ _ _ _ _ [some (.ref 7), some (.int y1), some (.int y2), o3] [.int w4] _ _
    refine am_L.mono (lc134_96 hr h2 ) ?_
    rintro o S1 ⟨s1, w1, q0, q1, A_, K_, q2, q3⟩
    exact ⟨s1, w1, (show c134_87 rc s y1 y2 = c134_96 rc ((c64 s 15).1) y1 y2 w4 from by unfold c134_87; rw [rbd_th e5]).trans q0, q1, A_, K_, cX.trans cX.rfl q2, q3⟩
  · rintro S1 ⟨q1, q2⟩
    have hn := cov_none q1
    exact ⟨_, none, (by unfold c134_87; rw [rbd_thn hn]), rfl, A, K, cX.rfl, q2⟩
noncomputable def c134_82 (rc : cRC) (s : cS) (y1 : Int32) (y2 : Int32) (z0 : Int32) : Option (cS × Option Int32) := rbd (rc 128 s 0 0 0 0 0 0 0) (fun s6 w4 => c134_87 rc s6 y1 y2)
theorem lc134_82 {sc : Nat × (Nat → Int32)} {N d : Nat} {A : Nat → Nat} {K : Nat} {S : am_S} {rc : cRC} {s : cS} {y1 : Int32} {y2 : Int32} {z0 : Int32} {o3 : Option Value} (hr : RCH sc rc N) (hS : CM A K S s) : am_L (am_PP sc) N d 134 82 [some (.ref 7), some (.int y1), some (.int y2), o3] [.int z0] S (fun o S1 => ∃ s1 w, c134_82 rc s y1 y2 z0 = some (s1, w) ∧ o = cow w ∧ CX A K S1 s1) := by
  refine l6i hi_134_82 ?_
  refine l2 (v := 7) hi_134_83 rfl ?_
  refine l32 (as := [.ref 7]) (la := [some (.ref 7)]) (rest := []) hi_134_84 (am_hd0 (M := 134) (by decide) 84) rfl rfl rfl (fun N' d' hN_ => hr.h128 (N' := N') (d := d') hN_ hS) ?_ ?_
  · rintro v3 S1 ⟨s6, w_, e5, q1, A7, K8, x9, h2⟩
    obtain ⟨w4, rfl, rfl⟩ := cow_some q1
    show am_L _ _ _ _ _ [some (.ref 7), some (.int y1), some (.int y2), o3] [] _ _
    refine am_L.mono (lc134_87 hr h2 ) ?_
    rintro o S1 ⟨s1, w1, q0, q1, A_, K_, q2, q3⟩
    exact ⟨s1, w1, (show c134_82 rc s y1 y2 z0 = c134_87 rc s6 y1 y2 from by unfold c134_82; rw [rbd_s e5]).trans q0, q1, A_, K_, cX.trans (cX.trans cX.rfl x9) q2, q3⟩
  · rintro S1 ⟨s1, w1, q0, q1, A_, K_, q2, q3⟩
    obtain rfl := cow_none q1
    exact ⟨s1, none, (by unfold c134_82; rw [rbd_n q0]), rfl, A_, K_, cX.trans cX.rfl q2, q3⟩
noncomputable def c134_72 (rc : cRC) (s : cS) (z0 : Int32) : Option (cS × Option Int32) := rbd (some (c55 s)) (fun _ w4 => c134_82 rc ((c55 s).1) z0 (-1) w4)
theorem lc134_72 {sc : Nat × (Nat → Int32)} {N d : Nat} {A : Nat → Nat} {K : Nat} {S : am_S} {rc : cRC} {s : cS} {z0 : Int32} {o1 : Option Value} {o2 : Option Value} {o3 : Option Value} (hr : RCH sc rc N) (hS : CM A K S s) : am_L (am_PP sc) N d 134 72 [some (.ref 7), o1, o2, o3] [.int z0] S (fun o S1 => ∃ s1 w, c134_72 rc s z0 = some (s1, w) ∧ o = cow w ∧ CX A K S1 s1) := by
  refine l3 (ls' := [some (.ref 7), some (.int z0), o2, o3]) hi_134_72 (Nat.le_of_ble_eq_true rfl) rfl ?_
  refine l0 hi_134_73 ?_
  refine l3 (ls' := [some (.ref 7), some (.int z0), some (.int (-1)), o3]) hi_134_74 (Nat.le_of_ble_eq_true rfl) rfl ?_
  refine l2 (v := 7) hi_134_75 rfl ?_
  refine l20s (v := .ref 2) hS cs_7 hi_134_76 rfl ?_
  refine l32 (as := [.ref 2]) (la := [some (.ref 2), none]) (rest := []) hi_134_79 (am_hd0 (M := 134) (by decide) 79) rfl rfl rfl (fun N' d' hN_ => lc55 (N := N') (d := d') hS ) ?_ ?_
  · rintro v3 S1 ⟨ev, h2⟩
    obtain ⟨w4, e5, rfl⟩ := cov_some ev
    show am_L _ _ _ _ _ [some (.ref 7), some (.int z0), some (.int (-1)), o3] [.int w4] _ _
    refine am_L.mono (lc134_82 hr h2 ) ?_
    rintro o S1 ⟨s1, w1, q0, q1, A_, K_, q2, q3⟩
    exact ⟨s1, w1, (show c134_72 rc s z0 = c134_82 rc ((c55 s).1) z0 (-1) w4 from by unfold c134_72; rw [rbd_th e5]).trans q0, q1, A_, K_, cX.trans cX.rfl q2, q3⟩
  · rintro S1 ⟨q1, q2⟩
    have hn := cov_none q1
    exact ⟨_, none, (by unfold c134_72; rw [rbd_thn hn]), rfl, A, K, cX.rfl, q2⟩
noncomputable def c134_54 (rc : cRC) (s : cS) (y1 : Int32) (y2 : Int32) : Option (cS × Option Int32) := if (c53 s) ≠ 13 then c134_87 rc s y1 y2 else c134_72 rc ((c136 s y2 y1).1) ((c136 s y2 y1).2)
theorem lc134_54 {sc : Nat × (Nat → Int32)} {N d : Nat} {A : Nat → Nat} {K : Nat} {S : am_S} {rc : cRC} {s : cS} {y1 : Int32} {y2 : Int32} {o3 : Option Value} (hr : RCH sc rc N) (hS : CM A K S s) : am_L (am_PP sc) N d 134 54 [some (.ref 7), some (.int y1), some (.int y2), o3] [] S (fun o S1 => ∃ s1 w, c134_54 rc s y1 y2 = some (s1, w) ∧ o = cow w ∧ CX A K S1 s1) := by
  refine l2 (v := 7) hi_134_54 rfl ?_
  refine l20s (v := .ref 2) hS cs_7 hi_134_55 rfl ?_
  refine l32 (as := [.ref 2]) (la := [some (.ref 2)]) (rest := []) hi_134_58 (am_hd0 (M := 134) (by decide) 58) rfl rfl rfl (fun N' d' _ => lc53 (N := N') (d := d') hS ) ?_ (fun _ q => nomatch q.1)
  rintro v3 S1 ⟨ev3, h2⟩
  cases ev3
  show am_L _ _ _ _ _ [some (.ref 7), some (.int y1), some (.int y2), o3] [.int (c53 s)] _ _
  refine l0 hi_134_61 ?_
  by_cases cn4 : (c53 s) ≠ 13
  · refine l13t hi_134_63 (decide_eq_true cn4) ?_
    refine am_L.mono (lc134_87 hr h2 ) ?_
    rintro o S1 ⟨s1, w1, q0, q1, A_, K_, q2, q3⟩
    exact ⟨s1, w1, (show c134_54 rc s y1 y2 = c134_87 rc s y1 y2 from by unfold c134_54; rw [if_pos cn4]).trans q0, q1, A_, K_, cX.trans cX.rfl q2, q3⟩
  · refine l13f hi_134_63 (decide_eq_false cn4) ?_
    refine l2 (v := 7) hi_134_66 rfl ?_
    refine l1 (v := y2) hi_134_67 rfl ?_
    refine l1 (v := y1) hi_134_68 rfl ?_
    refine l32 (as := [.ref 7, .int y2, .int y1]) (la := [some (.ref 7), some (.int y2), some (.int y1), none]) (rest := []) hi_134_69 (am_hd0 (M := 134) (by decide) 69) rfl rfl rfl (fun N' d' _ => lc136 (N := N') (d := d') h2 ) ?_ (fun _ q => nomatch q.1)
    rintro v7 S5 ⟨ev7, h6⟩
    cases ev7
    show am_L _ _ _ _ _ [some (.ref 7), some (.int y1), some (.int y2), o3] [.int ((c136 s y2 y1).2)] _ _
    refine am_L.mono (lc134_72 hr h6 ) ?_
    rintro o S1 ⟨s1, w1, q0, q1, A_, K_, q2, q3⟩
    exact ⟨s1, w1, (show c134_54 rc s y1 y2 = c134_72 rc ((c136 s y2 y1).1) ((c136 s y2 y1).2) from by unfold c134_54; rw [if_neg cn4]).trans q0, q1, A_, K_, cX.trans cX.rfl q2, q3⟩
noncomputable def c134_48 (rc : cRC) (s : cS) (y1 : Int32) (y2 : Int32) (y3 : Int32) : Option (cS × Option Int32) := rc 134013 s 0 y1 y2 (y3 + 1) 0 0 0
theorem lc134_48 {sc : Nat × (Nat → Int32)} {N d : Nat} {A : Nat → Nat} {K : Nat} {S : am_S} {rc : cRC} {s : cS} {y1 : Int32} {y2 : Int32} {y3 : Int32} (hr : RCH sc rc (N + 1)) (hS : CM A K S s) : am_L (am_PP sc) N d 134 48 [some (.ref 7), some (.int y1), some (.int y2), some (.int y3)] [] S (fun o S1 => ∃ s1 w, c134_48 rc s y1 y2 y3 = some (s1, w) ∧ o = cow w ∧ CX A K S1 s1) := by
  refine l5 (v := y3) (ls' := [some (.ref 7), some (.int y1), some (.int y2), some (.int (y3 + 1))]) hi_134_48 rfl rfl ?_
  refine l18 hi_134_51 ?_
  refine am_L.mono (hr.h134013 (N' := N)  (Nat.lt_succ_self _) hS) ?_
  rintro o S1 ⟨s1, w1, q0, q1, A_, K_, q2, q3⟩
  exact ⟨s1, w1, (show c134_48 rc s y1 y2 y3 = rc 134013 s 0 y1 y2 (y3 + 1) 0 0 0 from rfl).trans q0, q1, A_, K_, cX.trans cX.rfl q2, q3⟩
noncomputable def c134_43 (rc : cRC) (s : cS) (y1 : Int32) (y3 : Int32) (z0 : Int32) : Option (cS × Option Int32) := rbd (rc 128 s 0 0 0 0 0 0 0) (fun s6 w4 => c134_48 rc s6 y1 z0 y3)
theorem lc134_43 {sc : Nat × (Nat → Int32)} {N d : Nat} {A : Nat → Nat} {K : Nat} {S : am_S} {rc : cRC} {s : cS} {y1 : Int32} {y3 : Int32} {z0 : Int32} {o2 : Option Value} (hr : RCH sc rc (N + 1)) (hS : CM A K S s) : am_L (am_PP sc) N d 134 43 [some (.ref 7), some (.int y1), o2, some (.int y3)] [.int z0] S (fun o S1 => ∃ s1 w, c134_43 rc s y1 y3 z0 = some (s1, w) ∧ o = cow w ∧ CX A K S1 s1) := by
  refine l3 (ls' := [some (.ref 7), some (.int y1), some (.int z0), some (.int y3)]) hi_134_43 (Nat.le_of_ble_eq_true rfl) rfl ?_
  refine l2 (v := 7) hi_134_44 rfl ?_
  refine l32 (as := [.ref 7]) (la := [some (.ref 7)]) (rest := []) hi_134_45 (am_hd0 (M := 134) (by decide) 45) rfl rfl rfl (fun N' d' hN_ => hr.h128 (N' := N') (d := d') (Nat.lt_succ_of_lt hN_) hS) ?_ ?_
  · rintro v3 S1 ⟨s6, w_, e5, q1, A7, K8, x9, h2⟩
    obtain ⟨w4, rfl, rfl⟩ := cow_some q1
    show am_L _ _ _ _ _ [some (.ref 7), some (.int y1), some (.int z0), some (.int y3)] [] _ _
    refine am_L.mono (lc134_48 hr h2 ) ?_
    rintro o S1 ⟨s1, w1, q0, q1, A_, K_, q2, q3⟩
    exact ⟨s1, w1, (show c134_43 rc s y1 y3 z0 = c134_48 rc s6 y1 z0 y3 from by unfold c134_43; rw [rbd_s e5]).trans q0, q1, A_, K_, cX.trans (cX.trans cX.rfl x9) q2, q3⟩
  · rintro S1 ⟨s1, w1, q0, q1, A_, K_, q2, q3⟩
    obtain rfl := cow_none q1
    exact ⟨s1, none, (by unfold c134_43; rw [rbd_n q0]), rfl, A_, K_, cX.trans cX.rfl q2, q3⟩
noncomputable def c134_38 (rc : cRC) (s : cS) (y3 : Int32) (z0 : Int32) : Option (cS × Option Int32) := rbd (rc 135 s 0 0 0 0 0 0 0) (fun s6 w4 => c134_43 rc s6 z0 y3 w4)
theorem lc134_38 {sc : Nat × (Nat → Int32)} {N d : Nat} {A : Nat → Nat} {K : Nat} {S : am_S} {rc : cRC} {s : cS} {y3 : Int32} {z0 : Int32} {o1 : Option Value} {o2 : Option Value} (hr : RCH sc rc (N + 1)) (hS : CM A K S s) : am_L (am_PP sc) N d 134 38 [some (.ref 7), o1, o2, some (.int y3)] [.int z0] S (fun o S1 => ∃ s1 w, c134_38 rc s y3 z0 = some (s1, w) ∧ o = cow w ∧ CX A K S1 s1) := by
  refine l3 (ls' := [some (.ref 7), some (.int z0), o2, some (.int y3)]) hi_134_38 (Nat.le_of_ble_eq_true rfl) rfl ?_
  refine l2 (v := 7) hi_134_39 rfl ?_
  refine l32 (as := [.ref 7]) (la := [some (.ref 7)]) (rest := []) hi_134_40 (am_hd0 (M := 134) (by decide) 40) rfl rfl rfl (fun N' d' hN_ => hr.h135 (N' := N') (d := d') (Nat.lt_succ_of_lt hN_) hS) ?_ ?_
  · rintro v3 S1 ⟨s6, w_, e5, q1, A7, K8, x9, h2⟩
    obtain ⟨w4, rfl, rfl⟩ := cov_some q1
    show am_L _ _ _ _ _ [some (.ref 7), some (.int z0), o2, some (.int y3)] [.int w4] _ _
    refine am_L.mono (lc134_43 hr h2 ) ?_
    rintro o S1 ⟨s1, w1, q0, q1, A_, K_, q2, q3⟩
    exact ⟨s1, w1, (show c134_38 rc s y3 z0 = c134_43 rc s6 z0 y3 w4 from by unfold c134_38; rw [rbd_s e5]).trans q0, q1, A_, K_, cX.trans (cX.trans cX.rfl x9) q2, q3⟩
  · rintro S1 ⟨s1, w1, q0, q1, A_, K_, q2, q3⟩
    obtain rfl := cov_none q1
    exact ⟨s1, none, (by unfold c134_38; rw [rbd_n q0]), rfl, A_, K_, cX.trans cX.rfl q2, q3⟩
noncomputable def c134_13 (rc : cRC) (s : cS) (y1 : Int32) (y2 : Int32) (y3 : Int32) : Option (cS × Option Int32) := if (c53 s) ≠ 14 then c134_54 rc s y1 y2 else if 16384 < y3 then c134_54 rc s y1 y2 else c134_38 rc ((c136 s y2 y1).1) y3 ((c136 s y2 y1).2)
theorem lc134_13 {sc : Nat × (Nat → Int32)} {N d : Nat} {A : Nat → Nat} {K : Nat} {S : am_S} {rc : cRC} {s : cS} {y1 : Int32} {y2 : Int32} {y3 : Int32} (hr : RCH sc rc N) (hS : CM A K S s) : am_L (am_PP sc) N d 134 13 [some (.ref 7), some (.int y1), some (.int y2), some (.int y3)] [] S (fun o S1 => ∃ s1 w, c134_13 rc s y1 y2 y3 = some (s1, w) ∧ o = cow w ∧ CX A K S1 s1) := by
  cases N with
  | zero => exact l_zero
  | succ N =>
    refine l2d (v := 7) hi_134_13 rfl ?_
    refine l20s (v := .ref 2) hS cs_7 hi_134_14 rfl ?_
    refine l32 (as := [.ref 2]) (la := [some (.ref 2)]) (rest := []) hi_134_17 (am_hd0 (M := 134) (by decide) 17) rfl rfl rfl (fun N' d' _ => lc53 (N := N') (d := d') hS ) ?_ (fun _ q => nomatch q.1)
    rintro v3 S1 ⟨ev3, h2⟩
    cases ev3
    show am_L _ _ _ _ _ [some (.ref 7), some (.int y1), some (.int y2), some (.int y3)] [.int (c53 s)] _ _
    refine l0 hi_134_20 ?_
    by_cases cn4 : (c53 s) ≠ 14
    · refine l13t hi_134_22 (decide_eq_true cn4) ?_
      refine am_L.mono (lc134_54 (hr.less (Nat.le_succ _)) h2 ) ?_
      rintro o S1 ⟨s1, w1, q0, q1, A_, K_, q2, q3⟩
      exact ⟨s1, w1, (show c134_13 rc s y1 y2 y3 = c134_54 rc s y1 y2 from by unfold c134_13; rw [if_pos cn4]).trans q0, q1, A_, K_, cX.trans cX.rfl q2, q3⟩
    · refine l13f hi_134_22 (decide_eq_false cn4) ?_
      refine l1 (v := y3) hi_134_25 rfl ?_
      refine l0 hi_134_26 ?_
      by_cases cn5 : 16384 < y3
      · refine l13t hi_134_29 (decide_eq_true cn5) ?_
        refine am_L.mono (lc134_54 (hr.less (Nat.le_succ _)) h2 ) ?_
        rintro o S1 ⟨s1, w1, q0, q1, A_, K_, q2, q3⟩
        exact ⟨s1, w1, (show c134_13 rc s y1 y2 y3 = c134_54 rc s y1 y2 from by unfold c134_13; rw [if_neg cn4]; rw [if_pos cn5]).trans q0, q1, A_, K_, cX.trans cX.rfl q2, q3⟩
      · refine l13f hi_134_29 (decide_eq_false cn5) ?_
        refine l2 (v := 7) hi_134_32 rfl ?_
        refine l1 (v := y2) hi_134_33 rfl ?_
        refine l1 (v := y1) hi_134_34 rfl ?_
        refine l32 (as := [.ref 7, .int y2, .int y1]) (la := [some (.ref 7), some (.int y2), some (.int y1), none]) (rest := []) hi_134_35 (am_hd0 (M := 134) (by decide) 35) rfl rfl rfl (fun N' d' _ => lc136 (N := N') (d := d') h2 ) ?_ (fun _ q => nomatch q.1)
        rintro v8 S6 ⟨ev8, h7⟩
        cases ev8
        show am_L _ _ _ _ _ [some (.ref 7), some (.int y1), some (.int y2), some (.int y3)] [.int ((c136 s y2 y1).2)] _ _
        refine am_L.mono (lc134_38 hr h7 ) ?_
        rintro o S1 ⟨s1, w1, q0, q1, A_, K_, q2, q3⟩
        exact ⟨s1, w1, (show c134_13 rc s y1 y2 y3 = c134_38 rc ((c136 s y2 y1).1) y3 ((c136 s y2 y1).2) from by unfold c134_13; rw [if_neg cn4]; rw [if_neg cn5]).trans q0, q1, A_, K_, cX.trans cX.rfl q2, q3⟩
noncomputable def c134_11 (rc : cRC) (s : cS) (y1 : Int32) (y2 : Int32) : Option (cS × Option Int32) := c134_13 rc s y1 y2 0
theorem lc134_11 {sc : Nat × (Nat → Int32)} {N d : Nat} {A : Nat → Nat} {K : Nat} {S : am_S} {rc : cRC} {s : cS} {y1 : Int32} {y2 : Int32} {o3 : Option Value} (hr : RCH sc rc N) (hS : CM A K S s) : am_L (am_PP sc) N d 134 11 [some (.ref 7), some (.int y1), some (.int y2), o3] [] S (fun o S1 => ∃ s1 w, c134_11 rc s y1 y2 = some (s1, w) ∧ o = cow w ∧ CX A K S1 s1) := by
  refine l0 hi_134_11 ?_
  refine l3 (ls' := [some (.ref 7), some (.int y1), some (.int y2), some (.int 0)]) hi_134_12 (Nat.le_of_ble_eq_true rfl) rfl ?_
  refine am_L.mono (lc134_13  hr hS) ?_
  rintro o S1 ⟨s1, w1, q0, q1, A_, K_, q2, q3⟩
  exact ⟨s1, w1, (show c134_11 rc s y1 y2 = c134_13 rc s y1 y2 0 from rfl).trans q0, q1, A_, K_, cX.trans cX.rfl q2, q3⟩
noncomputable def c134_6 (rc : cRC) (s : cS) (y1 : Int32) (z0 : Int32) : Option (cS × Option Int32) := rbd (rc 128 s 0 0 0 0 0 0 0) (fun s6 w4 => c134_11 rc s6 y1 z0)
theorem lc134_6 {sc : Nat × (Nat → Int32)} {N d : Nat} {A : Nat → Nat} {K : Nat} {S : am_S} {rc : cRC} {s : cS} {y1 : Int32} {z0 : Int32} {o2 : Option Value} {o3 : Option Value} (hr : RCH sc rc N) (hS : CM A K S s) : am_L (am_PP sc) N d 134 6 [some (.ref 7), some (.int y1), o2, o3] [.int z0] S (fun o S1 => ∃ s1 w, c134_6 rc s y1 z0 = some (s1, w) ∧ o = cow w ∧ CX A K S1 s1) := by
  refine l3 (ls' := [some (.ref 7), some (.int y1), some (.int z0), o3]) hi_134_6 (Nat.le_of_ble_eq_true rfl) rfl ?_
  refine l2 (v := 7) hi_134_7 rfl ?_
  refine l32 (as := [.ref 7]) (la := [some (.ref 7)]) (rest := []) hi_134_8 (am_hd0 (M := 134) (by decide) 8) rfl rfl rfl (fun N' d' hN_ => hr.h128 (N' := N') (d := d') hN_ hS) ?_ ?_
  · rintro v3 S1 ⟨s6, w_, e5, q1, A7, K8, x9, h2⟩
    obtain ⟨w4, rfl, rfl⟩ := cow_some q1
    show am_L _ _ _ _ _ [some (.ref 7), some (.int y1), some (.int z0), o3] [] _ _
    refine am_L.mono (lc134_11 hr h2 ) ?_
    rintro o S1 ⟨s1, w1, q0, q1, A_, K_, q2, q3⟩
    exact ⟨s1, w1, (show c134_6 rc s y1 z0 = c134_11 rc s6 y1 z0 from by unfold c134_6; rw [rbd_s e5]).trans q0, q1, A_, K_, cX.trans (cX.trans cX.rfl x9) q2, q3⟩
  · rintro S1 ⟨s1, w1, q0, q1, A_, K_, q2, q3⟩
    obtain rfl := cow_none q1
    exact ⟨s1, none, (by unfold c134_6; rw [rbd_n q0]), rfl, A_, K_, cX.trans cX.rfl q2, q3⟩
noncomputable def c134 (rc : cRC) (s : cS) : Option (cS × Option Int32) := rbd (rc 135 s 0 0 0 0 0 0 0) (fun s6 w4 => c134_6 rc s6 (-1) w4)
theorem lc134 {sc : Nat × (Nat → Int32)} {N d : Nat} {A : Nat → Nat} {K : Nat} {S : am_S} {rc : cRC} {s : cS} (hr : RCH sc rc N) (hS : CM A K S s) : am_L (am_PP sc) N d 134 0 [some (.ref 7), none, none, none] [] S (fun o S1 => ∃ s1 w, c134 rc s = some (s1, w) ∧ o = cow w ∧ CX A K S1 s1) := by
  refine l0 hi_134_0 ?_
  refine l3 (ls' := [some (.ref 7), some (.int (-1)), none, none]) hi_134_1 (Nat.le_of_ble_eq_true rfl) rfl ?_
  refine l2 (v := 7) hi_134_2 rfl ?_
  refine l32 (as := [.ref 7]) (la := [some (.ref 7)]) (rest := []) hi_134_3 (am_hd0 (M := 134) (by decide) 3) rfl rfl rfl (fun N' d' hN_ => hr.h135 (N' := N') (d := d') hN_ hS) ?_ ?_
  · rintro v3 S1 ⟨s6, w_, e5, q1, A7, K8, x9, h2⟩
    obtain ⟨w4, rfl, rfl⟩ := cov_some q1
    show am_L _ _ _ _ _ [some (.ref 7), some (.int (-1)), none, none] [.int w4] _ _
    refine am_L.mono (lc134_6 hr h2 ) ?_
    rintro o S1 ⟨s1, w1, q0, q1, A_, K_, q2, q3⟩
    exact ⟨s1, w1, (show c134 rc s = c134_6 rc s6 (-1) w4 from by unfold c134; rw [rbd_s e5]).trans q0, q1, A_, K_, cX.trans (cX.trans cX.rfl x9) q2, q3⟩
  · rintro S1 ⟨s1, w1, q0, q1, A_, K_, q2, q3⟩
    obtain rfl := cov_none q1
    exact ⟨s1, none, (by unfold c134; rw [rbd_n q0]), rfl, A_, K_, cX.trans cX.rfl q2, q3⟩
def c139_37 (rc : cRC) (s : cS) (z0 : Int32) : Option (cS × Option Int32) := rbd (rc 70 s 0 0 0 0 0 0 0) (fun s6 w4 => some (s6, some 0))
theorem lc139_37 {sc : Nat × (Nat → Int32)} {N d : Nat} {A : Nat → Nat} {K : Nat} {S : am_S} {rc : cRC} {s : cS} {z0 : Int32} (hr : RCH sc rc N) (hS : CM A K S s) : am_L (am_PP sc) N d 139 37 [some (.ref 7)] [.int z0] S (fun o S1 => ∃ s1 w, c139_37 rc s z0 = some (s1, w) ∧ o = cow w ∧ CX A K S1 s1) := by
  refine l6i hi_139_37 ?_
  refine l2 (v := 7) hi_139_38 rfl ?_
  refine l32 (as := [.ref 7]) (la := [some (.ref 7), none, none, none, none, none]) (rest := []) hi_139_39 (am_hd0 (M := 139) (by decide) 39) rfl rfl rfl (fun N' d' hN_ => hr.h70 (N' := N') (d := d') hN_ hS) ?_ ?_
  · rintro v3 S1 ⟨s6, w_, e5, q1, A7, K8, x9, h2⟩
    obtain ⟨w4, rfl, rfl⟩ := cow_some q1
    show am_L _ _ _ _ _ [some (.ref 7)] [] _ _
    refine l18 hi_139_42 ?_
    exact l35 hi_139_55 ⟨s6, some 0, (by unfold c139_37; rw [rbd_s e5]), rfl, A7, K8, (cX.trans cX.rfl x9), h2⟩
  · rintro S1 ⟨s1, w1, q0, q1, A_, K_, q2, q3⟩
    obtain rfl := cow_none q1
    exact ⟨s1, none, (by unfold c139_37; rw [rbd_n q0]), rfl, A_, K_, cX.trans cX.rfl q2, q3⟩
def c139_18 (rc : cRC) (s : cS) : Option (cS × Option Int32) := if (c53 s) ≠ 69 then some ((c78 s 4 (-4) 0 0).1, some 0) else rbd (some (c55 s)) (fun _ w11 => c139_37 rc ((c55 s).1) w11)
theorem lc139_18 {sc : Nat × (Nat → Int32)} {N d : Nat} {A : Nat → Nat} {K : Nat} {S : am_S} {rc : cRC} {s : cS} (hr : RCH sc rc N) (hS : CM A K S s) : am_L (am_PP sc) N d 139 18 [some (.ref 7)] [] S (fun o S1 => ∃ s1 w, c139_18 rc s = some (s1, w) ∧ o = cow w ∧ CX A K S1 s1) := by
  refine l2 (v := 7) hi_139_18 rfl ?_
  refine l20s (v := .ref 2) hS cs_7 hi_139_19 rfl ?_
  refine l32 (as := [.ref 2]) (la := [some (.ref 2)]) (rest := []) hi_139_22 (am_hd0 (M := 139) (by decide) 22) rfl rfl rfl (fun N' d' _ => lc53 (N := N') (d := d') hS ) ?_ (fun _ q => nomatch q.1)
  rintro v3 S1 ⟨ev3, h2⟩
  cases ev3
  show am_L _ _ _ _ _ [some (.ref 7)] [.int (c53 s)] _ _
  refine l0 hi_139_25 ?_
  by_cases cn4 : (c53 s) ≠ 69
  · refine l13t hi_139_27 (decide_eq_true cn4) ?_
    refine l2 (v := 7) hi_139_45 rfl ?_
    refine l0 hi_139_46 ?_
    refine l0 hi_139_47 ?_
    refine l0 hi_139_49 ?_
    refine l0 hi_139_50 ?_
    refine l32 (as := [.ref 7, .int 4, .int (-4), .int 0, .int 0]) (la := [some (.ref 7), some (.int 4), some (.int (-4)), some (.int 0), some (.int 0)]) (rest := []) hi_139_51 (am_hd0 (M := 139) (by decide) 51) rfl rfl rfl (fun N' d' _ => lc78 (N := N') (d := d') h2 ) ?_ (fun _ q => nomatch q.1)
    rintro v7 S5 ⟨ev7, h6⟩
    cases ev7
    show am_L _ _ _ _ _ [some (.ref 7)] [.int ((c78 s 4 (-4) 0 0).2)] _ _
    refine l6i hi_139_54 ?_
    exact l35 hi_139_55 ⟨(c78 s 4 (-4) 0 0).1, some 0, (by unfold c139_18; rw [if_pos cn4]), rfl, A, K, cX.rfl, h6⟩
  · refine l13f hi_139_27 (decide_eq_false cn4) ?_
    refine l2 (v := 7) hi_139_30 rfl ?_
    refine l20s (v := .ref 2) h2 cs_7 hi_139_31 rfl ?_
    refine l32 (as := [.ref 2]) (la := [some (.ref 2), none]) (rest := []) hi_139_34 (am_hd0 (M := 139) (by decide) 34) rfl rfl rfl (fun N' d' hN_ => lc55 (N := N') (d := d') h2 ) ?_ ?_
    · rintro v10 S8 ⟨ev, h9⟩
      obtain ⟨w11, e12, rfl⟩ := cov_some ev
      show am_L _ _ _ _ _ [some (.ref 7)] [.int w11] _ _
      refine am_L.mono (lc139_37 hr h9 ) ?_
      rintro o S1 ⟨s1, w1, q0, q1, A_, K_, q2, q3⟩
      exact ⟨s1, w1, (show c139_18 rc s = c139_37 rc ((c55 s).1) w11 from by unfold c139_18; rw [if_neg cn4]; rw [rbd_th e12]).trans q0, q1, A_, K_, cX.trans cX.rfl q2, q3⟩
    · rintro S8 ⟨q1, q2⟩
      have hn := cov_none q1
      exact ⟨_, none, (by unfold c139_18; rw [if_neg cn4]; rw [rbd_thn hn]), rfl, A, K, cX.rfl, q2⟩
def c139_13 (rc : cRC) (s : cS) (z0 : Int32) : Option (cS × Option Int32) := rbd (rc 70 s 0 0 0 0 0 0 0) (fun s6 w4 => c139_18 rc s6)
theorem lc139_13 {sc : Nat × (Nat → Int32)} {N d : Nat} {A : Nat → Nat} {K : Nat} {S : am_S} {rc : cRC} {s : cS} {z0 : Int32} (hr : RCH sc rc N) (hS : CM A K S s) : am_L (am_PP sc) N d 139 13 [some (.ref 7)] [.int z0] S (fun o S1 => ∃ s1 w, c139_13 rc s z0 = some (s1, w) ∧ o = cow w ∧ CX A K S1 s1) := by
  refine l6i hi_139_13 ?_
  refine l2 (v := 7) hi_139_14 rfl ?_
  refine l32 (as := [.ref 7]) (la := [some (.ref 7), none, none, none, none, none]) (rest := []) hi_139_15 (am_hd0 (M := 139) (by decide) 15) rfl rfl rfl (fun N' d' hN_ => hr.h70 (N' := N') (d := d') hN_ hS) ?_ ?_
  · rintro v3 S1 ⟨s6, w_, e5, q1, A7, K8, x9, h2⟩
    obtain ⟨w4, rfl, rfl⟩ := cow_some q1
    show am_L _ _ _ _ _ [some (.ref 7)] [] _ _
    refine am_L.mono (lc139_18 hr h2 ) ?_
    rintro o S1 ⟨s1, w1, q0, q1, A_, K_, q2, q3⟩
    exact ⟨s1, w1, (show c139_13 rc s z0 = c139_18 rc s6 from by unfold c139_13; rw [rbd_s e5]).trans q0, q1, A_, K_, cX.trans (cX.trans cX.rfl x9) q2, q3⟩
  · rintro S1 ⟨s1, w1, q0, q1, A_, K_, q2, q3⟩
    obtain rfl := cow_none q1
    exact ⟨s1, none, (by unfold c139_13; rw [rbd_n q0]), rfl, A_, K_, cX.trans cX.rfl q2, q3⟩
def c139_4 (rc : cRC) (s : cS) : Option (cS × Option Int32) := rbd (some (c64 s 69)) (fun _ w4 => c139_13 rc ((c64 s 69).1) w4)
theorem lc139_4 {sc : Nat × (Nat → Int32)} {N d : Nat} {A : Nat → Nat} {K : Nat} {S : am_S} {rc : cRC} {s : cS} (hr : RCH sc rc N) (hS : CM A K S s) : am_L (am_PP sc) N d 139 4 [some (.ref 7)] [] S (fun o S1 => ∃ s1 w, c139_4 rc s = some (s1, w) ∧ o = cow w ∧ CX A K S1 s1) := by
  refine l2 (v := 7) hi_139_4 rfl ?_
  refine l20s (v := .ref 2) hS cs_7 hi_139_5 rfl ?_
  refine l0 hi_139_8 ?_
  refine l32 (as := [.ref 2, .int 69]) (la := [some (.ref 2), some (.int 69)]) (rest := []) hi_139_10 (am_hd0 (M := 139) (by decide) 10) rfl rfl rfl (fun N' d' hN_ => lc64 (N := N') (d := d') hS ) ?_ ?_
  · rintro v3 S1 ⟨ev, h2⟩
    obtain ⟨w4, e5, rfl⟩ := cov_some ev
    show am_L _ _ _ _ _ [some (.ref 7)] [.int w4] _ _
    refine am_L.mono (lc139_13 hr h2 ) ?_
    rintro o S1 ⟨s1, w1, q0, q1, A_, K_, q2, q3⟩
    exact ⟨s1, w1, (show c139_4 rc s = c139_13 rc ((c64 s 69).1) w4 from by unfold c139_4; rw [rbd_th e5]).trans q0, q1, A_, K_, cX.trans cX.rfl q2, q3⟩
  · rintro S1 ⟨q1, q2⟩
    have hn := cov_none q1
    exact ⟨_, none, (by unfold c139_4; rw [rbd_thn hn]), rfl, A, K, cX.rfl, q2⟩
def c139 (rc : cRC) (s : cS) : Option (cS × Option Int32) := rbd (rc 70 s 0 0 0 0 0 0 0) (fun s6 w4 => c139_4 rc s6)
theorem lc139 {sc : Nat × (Nat → Int32)} {N d : Nat} {A : Nat → Nat} {K : Nat} {S : am_S} {rc : cRC} {s : cS} (hr : RCH sc rc N) (hS : CM A K S s) : am_L (am_PP sc) N d 139 0 [some (.ref 7)] [] S (fun o S1 => ∃ s1 w, c139 rc s = some (s1, w) ∧ o = cow w ∧ CX A K S1 s1) := by
  refine l2 (v := 7) hi_139_0 rfl ?_
  refine l32 (as := [.ref 7]) (la := [some (.ref 7), none, none, none, none, none]) (rest := []) hi_139_1 (am_hd0 (M := 139) (by decide) 1) rfl rfl rfl (fun N' d' hN_ => hr.h70 (N' := N') (d := d') hN_ hS) ?_ ?_
  · rintro v3 S1 ⟨s6, w_, e5, q1, A7, K8, x9, h2⟩
    obtain ⟨w4, rfl, rfl⟩ := cow_some q1
    show am_L _ _ _ _ _ [some (.ref 7)] [] _ _
    refine am_L.mono (lc139_4 hr h2 ) ?_
    rintro o S1 ⟨s1, w1, q0, q1, A_, K_, q2, q3⟩
    exact ⟨s1, w1, (show c139 rc s = c139_4 rc s6 from by unfold c139; rw [rbd_s e5]).trans q0, q1, A_, K_, cX.trans (cX.trans cX.rfl x9) q2, q3⟩
  · rintro S1 ⟨s1, w1, q0, q1, A_, K_, q2, q3⟩
    obtain rfl := cow_none q1
    exact ⟨s1, none, (by unfold c139; rw [rbd_n q0]), rfl, A_, K_, cX.trans cX.rfl q2, q3⟩
def c142b9 (y1 : Int32) (y2 : Int32) (t : cS × Int32) : Nat × (cS × Int32) := if y2 ≤ t.2 then (1, (t.1, t.2)) else if 16384 < t.2 then (1, (t.1, t.2)) else (0, ((c74 t.1 (c104 t.1 (y1 + (2 * t.2))) 1 (y1 + (2 * t.2))).1, t.2 + 1))
theorem lb142_9 {sc : Nat × (Nat → Int32)} {d : Nat} {A : Nat → Nat} {K : Nat} {y1 : Int32} {y2 : Int32} {Q : Option (Option Value) → am_S → Prop} : ∀ (N : Nat) (S : am_S) (o4 : Option Value) (t : cS × Int32), CM A K S t.1 → (∀ m S1 (p4 : Option Value), (kwh (c142b9 y1 y2) m t).1 = 1 → CM A K S1 (kwh (c142b9 y1 y2) m t).2.1 → am_L (am_PP sc) N d 142 53 [some (.ref 7), some (.int y1), some (.int y2), some (.int ((kwh (c142b9 y1 y2) m t).2.2)), p4] [] S1 Q) → am_L (am_PP sc) N d 142 9 [some (.ref 7), some (.int y1), some (.int y2), some (.int t.2), o4] [] S Q := by
  intro N
  induction N with
  | zero => intros; exact l_zero
  | succ N ih =>
    intro S o4 t hS kx53
    refine l1d (v := t.2) hi_142_9 rfl ?_
    refine l1 (v := y2) hi_142_10 rfl ?_
    by_cases cn1 : y2 ≤ t.2
    · refine l13t hi_142_11 (decide_eq_true cn1) ?_
      have e0 : (c142b9 y1 y2) t = (1, (t.1, t.2)) := by unfold c142b9; rw [if_pos cn1]
      have e1 : kwh (c142b9 y1 y2) 1 t = (1, (t.1, t.2)) := by rw [kwh_out (by rw [e0]; exact Nat.succ_ne_zero _), e0]
      have q := kx53 1 _ o4 (by rw [e1]) (by rw [e1]; exact hS)
      try rw [e1] at q
      exact q.less (Nat.le_succ N)
    · refine l13f hi_142_11 (decide_eq_false cn1) ?_
      refine l1 (v := t.2) hi_142_14 rfl ?_
      refine l0 hi_142_15 ?_
      by_cases cn2 : 16384 < t.2
      · refine l13t hi_142_18 (decide_eq_true cn2) ?_
        have e0 : (c142b9 y1 y2) t = (1, (t.1, t.2)) := by unfold c142b9; rw [if_neg cn1]; rw [if_pos cn2]
        have e1 : kwh (c142b9 y1 y2) 1 t = (1, (t.1, t.2)) := by rw [kwh_out (by rw [e0]; exact Nat.succ_ne_zero _), e0]
        have q := kx53 1 _ o4 (by rw [e1]) (by rw [e1]; exact hS)
        try rw [e1] at q
        exact q.less (Nat.le_succ N)
      · refine l13f hi_142_18 (decide_eq_false cn2) ?_
        refine l1 (v := y1) hi_142_21 rfl ?_
        refine l0 hi_142_22 ?_
        refine l1 (v := t.2) hi_142_23 rfl ?_
        refine l10 hi_142_24 ?_
        show am_L _ _ _ _ _ [some (.ref 7), some (.int y1), some (.int y2), some (.int t.2), o4] [.int (2 * t.2), .int y1] _ _
        refine l10 hi_142_25 ?_
        show am_L _ _ _ _ _ [some (.ref 7), some (.int y1), some (.int y2), some (.int t.2), o4] [.int (y1 + (2 * t.2))] _ _
        refine l3 (ls' := [some (.ref 7), some (.int y1), some (.int y2), some (.int t.2), some (.int (y1 + (2 * t.2)))]) hi_142_26 (Nat.le_of_ble_eq_true rfl) rfl ?_
        refine l2 (v := 7) hi_142_28 rfl ?_
        refine l20s (v := .ref 12) hS cs_7 hi_142_29 rfl ?_
        refine l2 (v := 7) hi_142_32 rfl ?_
        refine l20s (v := .ref 2) hS cs_7 hi_142_33 rfl ?_
        refine l1 (v := y1 + (2 * t.2)) hi_142_36 rfl ?_
        refine l32 (as := [.ref 2, .int (y1 + (2 * t.2))]) (la := [some (.ref 2), some (.int (y1 + (2 * t.2)))]) (rest := [.ref 12]) hi_142_38 (am_hd0 (M := 142) (by decide) 38) rfl rfl rfl (fun N' d' _ => lc104 (N := N') (d := d') hS ) ?_ (fun _ q => nomatch q.1)
        rintro v5 S3 ⟨ev5, h4⟩
        cases ev5
        show am_L _ _ _ _ _ [some (.ref 7), some (.int y1), some (.int y2), some (.int t.2), some (.int (y1 + (2 * t.2)))] [.int (c104 t.1 (y1 + (2 * t.2))), .ref 12] _ _
        refine l0 hi_142_41 ?_
        refine l1 (v := y1 + (2 * t.2)) hi_142_42 rfl ?_
        refine l32 (as := [.ref 12, .int (c104 t.1 (y1 + (2 * t.2))), .int 1, .int (y1 + (2 * t.2))]) (la := [some (.ref 12), some (.int (c104 t.1 (y1 + (2 * t.2)))), some (.int 1), some (.int (y1 + (2 * t.2)))]) (rest := []) hi_142_44 (am_hd0 (M := 142) (by decide) 44) rfl rfl rfl (fun N' d' _ => lc74 (N := N') (d := d') h4 ) ?_ (fun _ q => nomatch q.1)
        rintro v8 S6 ⟨ev8, h7⟩
        cases ev8
        show am_L _ _ _ _ _ [some (.ref 7), some (.int y1), some (.int y2), some (.int t.2), some (.int (y1 + (2 * t.2)))] [] _ _
        refine l5 (v := t.2) (ls' := [some (.ref 7), some (.int y1), some (.int y2), some (.int (t.2 + 1)), some (.int (y1 + (2 * t.2)))]) hi_142_47 rfl rfl ?_
        refine l18 hi_142_50 ?_
        have e0 : (c142b9 y1 y2) t = (0, ((c74 t.1 (c104 t.1 (y1 + (2 * t.2))) 1 (y1 + (2 * t.2))).1, t.2 + 1)) := by unfold c142b9; rw [if_neg cn1]; rw [if_neg cn2]
        have e1 : ∀ m, kwh (c142b9 y1 y2) (m + 1) t = kwh (c142b9 y1 y2) m ((c74 t.1 (c104 t.1 (y1 + (2 * t.2))) 1 (y1 + (2 * t.2))).1, t.2 + 1) := fun m => by rw [kwh_go (by rw [e0]), e0]
        exact ih _ (some (.int (y1 + (2 * t.2)))) ((c74 t.1 (c104 t.1 (y1 + (2 * t.2))) 1 (y1 + (2 * t.2))).1, t.2 + 1) h7 (fun m S1 p4 hm h1 => by have q := kx53 (m + 1) S1 p4 (by rw [e1]; exact hm) (by rw [e1]; exact h1); (try rw [e1] at q); exact q.less (Nat.le_succ N))
noncomputable def c142_82 (rc : cRC) (s : cS) (z0 : Int32) : Option (cS × Option Int32) := some ((c81 s).1, some 0)
theorem lc142_82 {sc : Nat × (Nat → Int32)} {N d : Nat} {A : Nat → Nat} {K : Nat} {S : am_S} {rc : cRC} {s : cS} {z0 : Int32} {o1 : Option Value} {o2 : Option Value} {o3 : Option Value} {o4 : Option Value} (hr : RCH sc rc N) (hS : CM A K S s) : am_L (am_PP sc) N d 142 82 [some (.ref 7), o1, o2, o3, o4] [.int z0] S (fun o S1 => ∃ s1 w, c142_82 rc s z0 = some (s1, w) ∧ o = cow w ∧ CX A K S1 s1) := by
  refine l6i hi_142_82 ?_
  refine l2 (v := 7) hi_142_83 rfl ?_
  refine l20s (v := .ref 12) hS cs_7 hi_142_84 rfl ?_
  refine l32 (as := [.ref 12]) (la := [some (.ref 12), none]) (rest := []) hi_142_87 (am_hd0 (M := 142) (by decide) 87) rfl rfl rfl (fun N' d' _ => lc81 (N := N') (d := d') hS ) ?_ (fun _ q => nomatch q.1)
  rintro v3 S1 ⟨ev3, h2⟩
  cases ev3
  show am_L _ _ _ _ _ [some (.ref 7), o1, o2, o3, o4] [] _ _
  exact l35 hi_142_90 ⟨(c81 s).1, some 0, (rfl), rfl, A, K, cX.rfl, h2⟩
noncomputable def c142_66 (rc : cRC) (s : cS) (z0 : Int32) : Option (cS × Option Int32) := c142_82 rc ((c78 s 33 (c82 s) 0 0).1) ((c78 s 33 (c82 s) 0 0).2)
theorem lc142_66 {sc : Nat × (Nat → Int32)} {N d : Nat} {A : Nat → Nat} {K : Nat} {S : am_S} {rc : cRC} {s : cS} {z0 : Int32} {o1 : Option Value} {o2 : Option Value} {o3 : Option Value} {o4 : Option Value} (hr : RCH sc rc N) (hS : CM A K S s) : am_L (am_PP sc) N d 142 66 [some (.ref 7), o1, o2, o3, o4] [.int z0] S (fun o S1 => ∃ s1 w, c142_66 rc s z0 = some (s1, w) ∧ o = cow w ∧ CX A K S1 s1) := by
  refine l6i hi_142_66 ?_
  refine l2 (v := 7) hi_142_67 rfl ?_
  refine l0 hi_142_68 ?_
  refine l2 (v := 7) hi_142_70 rfl ?_
  refine l20s (v := .ref 12) hS cs_7 hi_142_71 rfl ?_
  refine l32 (as := [.ref 12]) (la := [some (.ref 12)]) (rest := [.int 33, .ref 7]) hi_142_74 (am_hd0 (M := 142) (by decide) 74) rfl rfl rfl (fun N' d' _ => lc82 (N := N') (d := d') hS ) ?_ (fun _ q => nomatch q.1)
  rintro v3 S1 ⟨ev3, h2⟩
  cases ev3
  show am_L _ _ _ _ _ [some (.ref 7), o1, o2, o3, o4] [.int (c82 s), .int 33, .ref 7] _ _
  refine l0 hi_142_77 ?_
  refine l0 hi_142_78 ?_
  refine l32 (as := [.ref 7, .int 33, .int (c82 s), .int 0, .int 0]) (la := [some (.ref 7), some (.int 33), some (.int (c82 s)), some (.int 0), some (.int 0)]) (rest := []) hi_142_79 (am_hd0 (M := 142) (by decide) 79) rfl rfl rfl (fun N' d' _ => lc78 (N := N') (d := d') h2 ) ?_ (fun _ q => nomatch q.1)
  rintro v6 S4 ⟨ev6, h5⟩
  cases ev6
  show am_L _ _ _ _ _ [some (.ref 7), o1, o2, o3, o4] [.int ((c78 s 33 (c82 s) 0 0).2)] _ _
  refine am_L.mono (lc142_82 hr h5 ) ?_
  rintro o S1 ⟨s1, w1, q0, q1, A_, K_, q2, q3⟩
  exact ⟨s1, w1, (rfl).trans q0, q1, A_, K_, cX.trans cX.rfl q2, q3⟩
noncomputable def c142_57 (rc : cRC) (s : cS) : Option (cS × Option Int32) := rbd (some (c64 s 15)) (fun _ w4 => c142_66 rc ((c64 s 15).1) w4)
theorem lc142_57 {sc : Nat × (Nat → Int32)} {N d : Nat} {A : Nat → Nat} {K : Nat} {S : am_S} {rc : cRC} {s : cS} {o1 : Option Value} {o2 : Option Value} {o3 : Option Value} {o4 : Option Value} (hr : RCH sc rc N) (hS : CM A K S s) : am_L (am_PP sc) N d 142 57 [some (.ref 7), o1, o2, o3, o4] [] S (fun o S1 => ∃ s1 w, c142_57 rc s = some (s1, w) ∧ o = cow w ∧ CX A K S1 s1) := by
  refine l2 (v := 7) hi_142_57 rfl ?_
  refine l20s (v := .ref 2) hS cs_7 hi_142_58 rfl ?_
  refine l0 hi_142_61 ?_
  refine l32 (as := [.ref 2, .int 15]) (la := [some (.ref 2), some (.int 15)]) (rest := []) hi_142_63 (am_hd0 (M := 142) (by decide) 63) rfl rfl rfl (fun N' d' hN_ => lc64 (N := N') (d := d') hS ) ?_ ?_
  · rintro v3 S1 ⟨ev, h2⟩
    obtain ⟨w4, e5, rfl⟩ := cov_some ev
    show am_L _ _ _ _ _ [some (.ref 7), o1, o2, o3, o4] [.int w4] _ _
    refine am_L.mono (lc142_66 hr h2 ) ?_
    rintro o S1 ⟨s1, w1, q0, q1, A_, K_, q2, q3⟩
    exact ⟨s1, w1, (show c142_57 rc s = c142_66 rc ((c64 s 15).1) w4 from by unfold c142_57; rw [rbd_th e5]).trans q0, q1, A_, K_, cX.trans cX.rfl q2, q3⟩
  · rintro S1 ⟨q1, q2⟩
    have hn := cov_none q1
    exact ⟨_, none, (by unfold c142_57; rw [rbd_thn hn]), rfl, A, K, cX.rfl, q2⟩
noncomputable def c142_53 (rc : cRC) (s : cS) : Option (cS × Option Int32) := rbd (rc 52 s 0 0 0 0 0 0 0) (fun s6 w4 => c142_57 rc s6)
theorem lc142_53 {sc : Nat × (Nat → Int32)} {N d : Nat} {A : Nat → Nat} {K : Nat} {S : am_S} {rc : cRC} {s : cS} {o1 : Option Value} {o2 : Option Value} {o3 : Option Value} {o4 : Option Value} (hr : RCH sc rc N) (hS : CM A K S s) : am_L (am_PP sc) N d 142 53 [some (.ref 7), o1, o2, o3, o4] [] S (fun o S1 => ∃ s1 w, c142_53 rc s = some (s1, w) ∧ o = cow w ∧ CX A K S1 s1) := by
  refine l2 (v := 7) hi_142_53 rfl ?_
  refine l32 (as := [.ref 7]) (la := [some (.ref 7), none]) (rest := []) hi_142_54 (am_hd0 (M := 142) (by decide) 54) rfl rfl rfl (fun N' d' hN_ => hr.h52 (N' := N') (d := d') hN_ hS) ?_ ?_
  · rintro v3 S1 ⟨s6, w_, e5, q1, A7, K8, x9, h2⟩
    obtain ⟨w4, rfl, rfl⟩ := cow_some q1
    show am_L _ _ _ _ _ [some (.ref 7), o1, o2, o3, o4] [] _ _
    refine am_L.mono (lc142_57 hr h2 ) ?_
    rintro o S1 ⟨s1, w1, q0, q1, A_, K_, q2, q3⟩
    exact ⟨s1, w1, (show c142_53 rc s = c142_57 rc s6 from by unfold c142_53; rw [rbd_s e5]).trans q0, q1, A_, K_, cX.trans (cX.trans cX.rfl x9) q2, q3⟩
  · rintro S1 ⟨s1, w1, q0, q1, A_, K_, q2, q3⟩
    obtain rfl := cow_none q1
    exact ⟨s1, none, (by unfold c142_53; rw [rbd_n q0]), rfl, A_, K_, cX.trans cX.rfl q2, q3⟩
noncomputable def c142_7 (rc : cRC) (s : cS) (y1 : Int32) (y2 : Int32) : Option (cS × Option Int32) := c142_53 rc ((kfin (c142b9 y1 y2) (s, 0)).2.1)
theorem lc142_7 {sc : Nat × (Nat → Int32)} {N d : Nat} {A : Nat → Nat} {K : Nat} {S : am_S} {rc : cRC} {s : cS} {y1 : Int32} {y2 : Int32} {o3 : Option Value} {o4 : Option Value} (hr : RCH sc rc N) (hS : CM A K S s) : am_L (am_PP sc) N d 142 7 [some (.ref 7), some (.int y1), some (.int y2), o3, o4] [] S (fun o S1 => ∃ s1 w, c142_7 rc s y1 y2 = some (s1, w) ∧ o = cow w ∧ CX A K S1 s1) := by
  refine l0 hi_142_7 ?_
  refine l3 (ls' := [some (.ref 7), some (.int y1), some (.int y2), some (.int 0), o4]) hi_142_8 (Nat.le_of_ble_eq_true rfl) rfl ?_
  refine lb142_9  N _ o4 (s, 0) hS ?_
  · intro m1 S2 p6 hm3 h4
    have hf5 : kfin (c142b9 y1 y2) (s, 0) = kwh (c142b9 y1 y2) m1 (s, 0) := kfin_eq (by rw [hm3]; decide)
    rw [← hf5] at hm3 h4
    try rw [← hf5]
    refine am_L.mono (lc142_53 hr h4 ) ?_
    rintro o S1 ⟨s1, w1, q0, q1, A_, K_, q2, q3⟩
    exact ⟨s1, w1, (rfl).trans q0, q1, A_, K_, cX.trans cX.rfl q2, q3⟩
noncomputable def c142 (rc : cRC) (s : cS) (x1 : Int32) (x2 : Int32) : Option (cS × Option Int32) := c142_7 rc ((c51 s).1) x1 x2
theorem lc142 {sc : Nat × (Nat → Int32)} {N d : Nat} {A : Nat → Nat} {K : Nat} {S : am_S} {rc : cRC} {s : cS} {x1 : Int32} {x2 : Int32} (hr : RCH sc rc N) (hS : CM A K S s) : am_L (am_PP sc) N d 142 0 [some (.ref 7), some (.int x1), some (.int x2), none, none] [] S (fun o S1 => ∃ s1 w, c142 rc s x1 x2 = some (s1, w) ∧ o = cow w ∧ CX A K S1 s1) := by
  refine l2 (v := 7) hi_142_0 rfl ?_
  refine l20s (v := .ref 12) hS cs_7 hi_142_1 rfl ?_
  refine l32 (as := [.ref 12]) (la := [some (.ref 12)]) (rest := []) hi_142_4 (am_hd0 (M := 142) (by decide) 4) rfl rfl rfl (fun N' d' _ => lc51 (N := N') (d := d') hS ) ?_ (fun _ q => nomatch q.1)
  rintro v3 S1 ⟨ev3, h2⟩
  cases ev3
  show am_L _ _ _ _ _ [some (.ref 7), some (.int x1), some (.int x2), none, none] [] _ _
  refine am_L.mono (lc142_7 hr h2 ) ?_
  rintro o S1 ⟨s1, w1, q0, q1, A_, K_, q2, q3⟩
  exact ⟨s1, w1, (rfl).trans q0, q1, A_, K_, cX.trans cX.rfl q2, q3⟩
noncomputable def c138_131 (rc : cRC) (s : cS) (y3 : Int32) : Option (cS × Option Int32) := some ((c78 s 41 y3 0 0).1, some 0)
theorem lc138_131 {sc : Nat × (Nat → Int32)} {N d : Nat} {A : Nat → Nat} {K : Nat} {S : am_S} {rc : cRC} {s : cS} {y3 : Int32} {o1 : Option Value} {o2 : Option Value} {o4 : Option Value} {o5 : Option Value} (hr : RCH sc rc N) (hS : CM A K S s) : am_L (am_PP sc) N d 138 131 [some (.ref 7), o1, o2, some (.int y3), o4, o5] [] S (fun o S1 => ∃ s1 w, c138_131 rc s y3 = some (s1, w) ∧ o = cow w ∧ CX A K S1 s1) := by
  refine l2 (v := 7) hi_138_131 rfl ?_
  refine l0 hi_138_132 ?_
  refine l1 (v := y3) hi_138_134 rfl ?_
  refine l0 hi_138_135 ?_
  refine l0 hi_138_136 ?_
  refine l32 (as := [.ref 7, .int 41, .int y3, .int 0, .int 0]) (la := [some (.ref 7), some (.int 41), some (.int y3), some (.int 0), some (.int 0)]) (rest := []) hi_138_137 (am_hd0 (M := 138) (by decide) 137) rfl rfl rfl (fun N' d' _ => lc78 (N := N') (d := d') hS ) ?_ (fun _ q => nomatch q.1)
  rintro v3 S1 ⟨ev3, h2⟩
  cases ev3
  show am_L _ _ _ _ _ [some (.ref 7), o1, o2, some (.int y3), o4, o5] [.int ((c78 s 41 y3 0 0).2)] _ _
  refine l6i hi_138_140 ?_
  exact l35 hi_138_141 ⟨(c78 s 41 y3 0 0).1, some 0, (rfl), rfl, A, K, cX.rfl, h2⟩
noncomputable def c138_127 (rc : cRC) (s : cS) (y3 : Int32) : Option (cS × Option Int32) := c138_131 rc ((c143 s).1) y3
theorem lc138_127 {sc : Nat × (Nat → Int32)} {N d : Nat} {A : Nat → Nat} {K : Nat} {S : am_S} {rc : cRC} {s : cS} {y3 : Int32} {o1 : Option Value} {o2 : Option Value} {o4 : Option Value} {o5 : Option Value} (hr : RCH sc rc N) (hS : CM A K S s) : am_L (am_PP sc) N d 138 127 [some (.ref 7), o1, o2, some (.int y3), o4, o5] [] S (fun o S1 => ∃ s1 w, c138_127 rc s y3 = some (s1, w) ∧ o = cow w ∧ CX A K S1 s1) := by
  refine l2 (v := 7) hi_138_127 rfl ?_
  refine l32 (as := [.ref 7]) (la := [some (.ref 7)]) (rest := []) hi_138_128 (am_hd0 (M := 138) (by decide) 128) rfl rfl rfl (fun N' d' _ => lc143 (N := N') (d := d') hS ) ?_ (fun _ q => nomatch q.1)
  rintro v3 S1 ⟨ev3, h2⟩
  cases ev3
  show am_L _ _ _ _ _ [some (.ref 7), o1, o2, some (.int y3), o4, o5] [] _ _
  refine am_L.mono (lc138_131 hr h2 ) ?_
  rintro o S1 ⟨s1, w1, q0, q1, A_, K_, q2, q3⟩
  exact ⟨s1, w1, (rfl).trans q0, q1, A_, K_, cX.trans cX.rfl q2, q3⟩
noncomputable def c138_113 (rc : cRC) (s : cS) (y3 : Int32) (y4 : Int32) (z0 : Int32) : Option (cS × Option Int32) := c138_127 rc ((c109 s s.now y4 2).1) y3
theorem lc138_113 {sc : Nat × (Nat → Int32)} {N d : Nat} {A : Nat → Nat} {K : Nat} {S : am_S} {rc : cRC} {s : cS} {y3 : Int32} {y4 : Int32} {z0 : Int32} {o1 : Option Value} {o2 : Option Value} {o5 : Option Value} (hr : RCH sc rc N) (hS : CM A K S s) : am_L (am_PP sc) N d 138 113 [some (.ref 7), o1, o2, some (.int y3), some (.int y4), o5] [.int z0] S (fun o S1 => ∃ s1 w, c138_113 rc s y3 y4 z0 = some (s1, w) ∧ o = cow w ∧ CX A K S1 s1) := by
  refine l6i hi_138_113 ?_
  refine l2 (v := 7) hi_138_114 rfl ?_
  refine l20s (v := .ref 12) hS cs_7 hi_138_115 rfl ?_
  refine l32 (as := [.ref 12]) (la := [some (.ref 12)]) (rest := []) hi_138_118 (am_hd0 (M := 138) (by decide) 118) rfl rfl rfl (fun N' d' _ => lc79 (N := N') (d := d') hS) ?_ (fun _ q => nomatch q.1)
  rintro v3 S1 ⟨ev3, h2⟩
  cases ev3
  show am_L _ _ _ _ _ [some (.ref 7), o1, o2, some (.int y3), some (.int y4), o5] [.ref (A s.now)] _ _
  refine l1 (v := y4) hi_138_121 rfl ?_
  refine l0 hi_138_123 ?_
  refine l32 (as := [.ref (A s.now), .int y4, .int 2]) (la := [some (.ref (A s.now)), some (.int y4), some (.int 2)]) (rest := []) hi_138_124 (am_hd0 (M := 138) (by decide) 124) rfl rfl rfl (fun N' d' _ => lc109 (N := N') (d := d') h2 (show s.now ≤ K from CM.nl (s := s) hS)) ?_ (fun _ q => nomatch q.1)
  rintro v6 S4 ⟨ev6, h5⟩
  cases ev6
  show am_L _ _ _ _ _ [some (.ref 7), o1, o2, some (.int y3), some (.int y4), o5] [] _ _
  refine am_L.mono (lc138_127 hr h5 ) ?_
  rintro o S1 ⟨s1, w1, q0, q1, A_, K_, q2, q3⟩
  exact ⟨s1, w1, (rfl).trans q0, q1, A_, K_, cX.trans cX.rfl q2, q3⟩
noncomputable def c138_103 (rc : cRC) (s : cS) (y3 : Int32) (y4 : Int32) (y5 : Int32) : Option (cS × Option Int32) := c138_113 rc ((c78 s 40 y3 y5 0).1) y3 y4 ((c78 s 40 y3 y5 0).2)
theorem lc138_103 {sc : Nat × (Nat → Int32)} {N d : Nat} {A : Nat → Nat} {K : Nat} {S : am_S} {rc : cRC} {s : cS} {y3 : Int32} {y4 : Int32} {y5 : Int32} {o1 : Option Value} {o2 : Option Value} (hr : RCH sc rc N) (hS : CM A K S s) : am_L (am_PP sc) N d 138 103 [some (.ref 7), o1, o2, some (.int y3), some (.int y4), some (.int y5)] [] S (fun o S1 => ∃ s1 w, c138_103 rc s y3 y4 y5 = some (s1, w) ∧ o = cow w ∧ CX A K S1 s1) := by
  refine l2 (v := 7) hi_138_103 rfl ?_
  refine l0 hi_138_104 ?_
  refine l1 (v := y3) hi_138_106 rfl ?_
  refine l1 (v := y5) hi_138_107 rfl ?_
  refine l0 hi_138_109 ?_
  refine l32 (as := [.ref 7, .int 40, .int y3, .int y5, .int 0]) (la := [some (.ref 7), some (.int 40), some (.int y3), some (.int y5), some (.int 0)]) (rest := []) hi_138_110 (am_hd0 (M := 138) (by decide) 110) rfl rfl rfl (fun N' d' _ => lc78 (N := N') (d := d') hS ) ?_ (fun _ q => nomatch q.1)
  rintro v3 S1 ⟨ev3, h2⟩
  cases ev3
  show am_L _ _ _ _ _ [some (.ref 7), o1, o2, some (.int y3), some (.int y4), some (.int y5)] [.int ((c78 s 40 y3 y5 0).2)] _ _
  refine am_L.mono (lc138_113 hr h2 ) ?_
  rintro o S1 ⟨s1, w1, q0, q1, A_, K_, q2, q3⟩
  exact ⟨s1, w1, (rfl).trans q0, q1, A_, K_, cX.trans cX.rfl q2, q3⟩
noncomputable def c138_96 (rc : cRC) (s : cS) (y2 : Int32) (y3 : Int32) (y4 : Int32) (y5 : Int32) (z0 : Int32) : Option (cS × Option Int32) := rbd (rc 142 s 0 y2 1 0 0 0 0) (fun s6 w4 => c138_103 rc s6 y3 y4 y5)
theorem lc138_96 {sc : Nat × (Nat → Int32)} {N d : Nat} {A : Nat → Nat} {K : Nat} {S : am_S} {rc : cRC} {s : cS} {y2 : Int32} {y3 : Int32} {y4 : Int32} {y5 : Int32} {z0 : Int32} {o1 : Option Value} (hr : RCH sc rc N) (hS : CM A K S s) : am_L (am_PP sc) N d 138 96 [some (.ref 7), o1, some (.int y2), some (.int y3), some (.int y4), some (.int y5)] [.int z0] S (fun o S1 => ∃ s1 w, c138_96 rc s y2 y3 y4 y5 z0 = some (s1, w) ∧ o = cow w ∧ CX A K S1 s1) := by
  refine l6i hi_138_96 ?_
  refine l2 (v := 7) hi_138_97 rfl ?_
  refine l1 (v := y2) hi_138_98 rfl ?_
  refine l0 hi_138_99 ?_
  refine l32 (as := [.ref 7, .int y2, .int 1]) (la := [some (.ref 7), some (.int y2), some (.int 1), none, none]) (rest := []) hi_138_100 (am_hd0 (M := 138) (by decide) 100) rfl rfl rfl (fun N' d' hN_ => hr.h142 (N' := N') (d := d') hN_ hS) ?_ ?_
  · rintro v3 S1 ⟨s6, w_, e5, q1, A7, K8, x9, h2⟩
    obtain ⟨w4, rfl, rfl⟩ := cow_some q1
    show am_L _ _ _ _ _ [some (.ref 7), o1, some (.int y2), some (.int y3), some (.int y4), some (.int y5)] [] _ _
    refine am_L.mono (lc138_103 hr h2 ) ?_
    rintro o S1 ⟨s1, w1, q0, q1, A_, K_, q2, q3⟩
    exact ⟨s1, w1, (show c138_96 rc s y2 y3 y4 y5 z0 = c138_103 rc s6 y3 y4 y5 from by unfold c138_96; rw [rbd_s e5]).trans q0, q1, A_, K_, cX.trans (cX.trans cX.rfl x9) q2, q3⟩
  · rintro S1 ⟨s1, w1, q0, q1, A_, K_, q2, q3⟩
    obtain rfl := cow_none q1
    exact ⟨s1, none, (by unfold c138_96; rw [rbd_n q0]), rfl, A_, K_, cX.trans cX.rfl q2, q3⟩
noncomputable def c138_85 (rc : cRC) (s : cS) (y2 : Int32) (y3 : Int32) (y4 : Int32) (z0 : Int32) : Option (cS × Option Int32) := c138_96 rc ((c78 s 39 y3 0 0).1) y2 y3 y4 z0 ((c78 s 39 y3 0 0).2)
theorem lc138_85 {sc : Nat × (Nat → Int32)} {N d : Nat} {A : Nat → Nat} {K : Nat} {S : am_S} {rc : cRC} {s : cS} {y2 : Int32} {y3 : Int32} {y4 : Int32} {z0 : Int32} {o1 : Option Value} {o5 : Option Value} (hr : RCH sc rc N) (hS : CM A K S s) : am_L (am_PP sc) N d 138 85 [some (.ref 7), o1, some (.int y2), some (.int y3), some (.int y4), o5] [.int z0] S (fun o S1 => ∃ s1 w, c138_85 rc s y2 y3 y4 z0 = some (s1, w) ∧ o = cow w ∧ CX A K S1 s1) := by
  refine l3 (ls' := [some (.ref 7), o1, some (.int y2), some (.int y3), some (.int y4), some (.int z0)]) hi_138_85 (Nat.le_of_ble_eq_true rfl) rfl ?_
  refine l2 (v := 7) hi_138_87 rfl ?_
  refine l0 hi_138_88 ?_
  refine l1 (v := y3) hi_138_90 rfl ?_
  refine l0 hi_138_91 ?_
  refine l0 hi_138_92 ?_
  refine l32 (as := [.ref 7, .int 39, .int y3, .int 0, .int 0]) (la := [some (.ref 7), some (.int 39), some (.int y3), some (.int 0), some (.int 0)]) (rest := []) hi_138_93 (am_hd0 (M := 138) (by decide) 93) rfl rfl rfl (fun N' d' _ => lc78 (N := N') (d := d') hS ) ?_ (fun _ q => nomatch q.1)
  rintro v3 S1 ⟨ev3, h2⟩
  cases ev3
  show am_L _ _ _ _ _ [some (.ref 7), o1, some (.int y2), some (.int y3), some (.int y4), some (.int z0)] [.int ((c78 s 39 y3 0 0).2)] _ _
  refine am_L.mono (lc138_96 hr h2 ) ?_
  rintro o S1 ⟨s1, w1, q0, q1, A_, K_, q2, q3⟩
  exact ⟨s1, w1, (rfl).trans q0, q1, A_, K_, cX.trans cX.rfl q2, q3⟩
noncomputable def c138_74 (rc : cRC) (s : cS) (y1 : Int32) (y2 : Int32) (y3 : Int32) (z0 : Int32) : Option (cS × Option Int32) := c138_85 rc ((c78 s 34 0 0 y1).1) y2 y3 z0 ((c78 s 34 0 0 y1).2)
theorem lc138_74 {sc : Nat × (Nat → Int32)} {N d : Nat} {A : Nat → Nat} {K : Nat} {S : am_S} {rc : cRC} {s : cS} {y1 : Int32} {y2 : Int32} {y3 : Int32} {z0 : Int32} {o4 : Option Value} {o5 : Option Value} (hr : RCH sc rc N) (hS : CM A K S s) : am_L (am_PP sc) N d 138 74 [some (.ref 7), some (.int y1), some (.int y2), some (.int y3), o4, o5] [.int z0] S (fun o S1 => ∃ s1 w, c138_74 rc s y1 y2 y3 z0 = some (s1, w) ∧ o = cow w ∧ CX A K S1 s1) := by
  refine l3 (ls' := [some (.ref 7), some (.int y1), some (.int y2), some (.int y3), some (.int z0), o5]) hi_138_74 (Nat.le_of_ble_eq_true rfl) rfl ?_
  refine l2 (v := 7) hi_138_76 rfl ?_
  refine l0 hi_138_77 ?_
  refine l0 hi_138_79 ?_
  refine l0 hi_138_80 ?_
  refine l1 (v := y1) hi_138_81 rfl ?_
  refine l32 (as := [.ref 7, .int 34, .int 0, .int 0, .int y1]) (la := [some (.ref 7), some (.int 34), some (.int 0), some (.int 0), some (.int y1)]) (rest := []) hi_138_82 (am_hd0 (M := 138) (by decide) 82) rfl rfl rfl (fun N' d' _ => lc78 (N := N') (d := d') hS ) ?_ (fun _ q => nomatch q.1)
  rintro v3 S1 ⟨ev3, h2⟩
  cases ev3
  show am_L _ _ _ _ _ [some (.ref 7), some (.int y1), some (.int y2), some (.int y3), some (.int z0), o5] [.int ((c78 s 34 0 0 y1).2)] _ _
  refine am_L.mono (lc138_85 hr h2 ) ?_
  rintro o S1 ⟨s1, w1, q0, q1, A_, K_, q2, q3⟩
  exact ⟨s1, w1, (rfl).trans q0, q1, A_, K_, cX.trans cX.rfl q2, q3⟩
noncomputable def c138_64 (rc : cRC) (s : cS) (y1 : Int32) (y2 : Int32) (z0 : Int32) : Option (cS × Option Int32) := c138_74 rc ((c78 s 38 z0 0 y1).1) y1 y2 z0 ((c78 s 38 z0 0 y1).2)
theorem lc138_64 {sc : Nat × (Nat → Int32)} {N d : Nat} {A : Nat → Nat} {K : Nat} {S : am_S} {rc : cRC} {s : cS} {y1 : Int32} {y2 : Int32} {z0 : Int32} {o3 : Option Value} {o4 : Option Value} {o5 : Option Value} (hr : RCH sc rc N) (hS : CM A K S s) : am_L (am_PP sc) N d 138 64 [some (.ref 7), some (.int y1), some (.int y2), o3, o4, o5] [.int z0] S (fun o S1 => ∃ s1 w, c138_64 rc s y1 y2 z0 = some (s1, w) ∧ o = cow w ∧ CX A K S1 s1) := by
  refine l3 (ls' := [some (.ref 7), some (.int y1), some (.int y2), some (.int z0), o4, o5]) hi_138_64 (Nat.le_of_ble_eq_true rfl) rfl ?_
  refine l2 (v := 7) hi_138_65 rfl ?_
  refine l0 hi_138_66 ?_
  refine l1 (v := z0) hi_138_68 rfl ?_
  refine l0 hi_138_69 ?_
  refine l1 (v := y1) hi_138_70 rfl ?_
  refine l32 (as := [.ref 7, .int 38, .int z0, .int 0, .int y1]) (la := [some (.ref 7), some (.int 38), some (.int z0), some (.int 0), some (.int y1)]) (rest := []) hi_138_71 (am_hd0 (M := 138) (by decide) 71) rfl rfl rfl (fun N' d' _ => lc78 (N := N') (d := d') hS ) ?_ (fun _ q => nomatch q.1)
  rintro v3 S1 ⟨ev3, h2⟩
  cases ev3
  show am_L _ _ _ _ _ [some (.ref 7), some (.int y1), some (.int y2), some (.int z0), o4, o5] [.int ((c78 s 38 z0 0 y1).2)] _ _
  refine am_L.mono (lc138_74 hr h2 ) ?_
  rintro o S1 ⟨s1, w1, q0, q1, A_, K_, q2, q3⟩
  exact ⟨s1, w1, (rfl).trans q0, q1, A_, K_, cX.trans cX.rfl q2, q3⟩
noncomputable def c138_56 (rc : cRC) (s : cS) (y1 : Int32) (y2 : Int32) (z0 : Int32) : Option (cS × Option Int32) := c138_64 rc ((c140 s 3 0 y1).1) y1 y2 ((c140 s 3 0 y1).2)
theorem lc138_56 {sc : Nat × (Nat → Int32)} {N d : Nat} {A : Nat → Nat} {K : Nat} {S : am_S} {rc : cRC} {s : cS} {y1 : Int32} {y2 : Int32} {z0 : Int32} {o3 : Option Value} {o4 : Option Value} {o5 : Option Value} (hr : RCH sc rc N) (hS : CM A K S s) : am_L (am_PP sc) N d 138 56 [some (.ref 7), some (.int y1), some (.int y2), o3, o4, o5] [.int z0] S (fun o S1 => ∃ s1 w, c138_56 rc s y1 y2 z0 = some (s1, w) ∧ o = cow w ∧ CX A K S1 s1) := by
  refine l6i hi_138_56 ?_
  refine l2 (v := 7) hi_138_57 rfl ?_
  refine l0 hi_138_58 ?_
  refine l0 hi_138_59 ?_
  refine l1 (v := y1) hi_138_60 rfl ?_
  refine l32 (as := [.ref 7, .int 3, .int 0, .int y1]) (la := [some (.ref 7), some (.int 3), some (.int 0), some (.int y1), none, none]) (rest := []) hi_138_61 (am_hd0 (M := 138) (by decide) 61) rfl rfl rfl (fun N' d' _ => lc140 (N := N') (d := d') hS ) ?_ (fun _ q => nomatch q.1)
  rintro v3 S1 ⟨ev3, h2⟩
  cases ev3
  show am_L _ _ _ _ _ [some (.ref 7), some (.int y1), some (.int y2), o3, o4, o5] [.int ((c140 s 3 0 y1).2)] _ _
  refine am_L.mono (lc138_64 hr h2 ) ?_
  rintro o S1 ⟨s1, w1, q0, q1, A_, K_, q2, q3⟩
  exact ⟨s1, w1, (rfl).trans q0, q1, A_, K_, cX.trans cX.rfl q2, q3⟩
noncomputable def c138_47 (rc : cRC) (s : cS) (y1 : Int32) (y2 : Int32) : Option (cS × Option Int32) := rbd (some (c64 s 12)) (fun _ w4 => c138_56 rc ((c64 s 12).1) y1 y2 w4)
theorem lc138_47 {sc : Nat × (Nat → Int32)} {N d : Nat} {A : Nat → Nat} {K : Nat} {S : am_S} {rc : cRC} {s : cS} {y1 : Int32} {y2 : Int32} {o3 : Option Value} {o4 : Option Value} {o5 : Option Value} (hr : RCH sc rc N) (hS : CM A K S s) : am_L (am_PP sc) N d 138 47 [some (.ref 7), some (.int y1), some (.int y2), o3, o4, o5] [] S (fun o S1 => ∃ s1 w, c138_47 rc s y1 y2 = some (s1, w) ∧ o = cow w ∧ CX A K S1 s1) := by
  refine l2 (v := 7) hi_138_47 rfl ?_
  refine l20s (v := .ref 2) hS cs_7 hi_138_48 rfl ?_
  refine l0 hi_138_51 ?_
  refine l32 (as := [.ref 2, .int 12]) (la := [some (.ref 2), some (.int 12)]) (rest := []) hi_138_53 (am_hd0 (M := 138) (by decide) 53) rfl rfl rfl (fun N' d' hN_ => lc64 (N := N') (d := d') hS ) ?_ ?_
  · rintro v3 S1 ⟨ev, h2⟩
    obtain ⟨w4, e5, rfl⟩ := cov_some ev
    show am_L _ _ _ _ _ [some (.ref 7), some (.int y1), some (.int y2), o3, o4, o5] [.int w4] _ _
    refine am_L.mono (lc138_56 hr h2 ) ?_
    rintro o S1 ⟨s1, w1, q0, q1, A_, K_, q2, q3⟩
    exact ⟨s1, w1, (show c138_47 rc s y1 y2 = c138_56 rc ((c64 s 12).1) y1 y2 w4 from by unfold c138_47; rw [rbd_th e5]).trans q0, q1, A_, K_, cX.trans cX.rfl q2, q3⟩
  · rintro S1 ⟨q1, q2⟩
    have hn := cov_none q1
    exact ⟨_, none, (by unfold c138_47; rw [rbd_thn hn]), rfl, A, K, cX.rfl, q2⟩
noncomputable def c138_42 (rc : cRC) (s : cS) (y1 : Int32) (y2 : Int32) (z0 : Int32) : Option (cS × Option Int32) := rbd (rc 139 s 0 0 0 0 0 0 0) (fun s6 w4 => c138_47 rc s6 y1 y2)
theorem lc138_42 {sc : Nat × (Nat → Int32)} {N d : Nat} {A : Nat → Nat} {K : Nat} {S : am_S} {rc : cRC} {s : cS} {y1 : Int32} {y2 : Int32} {z0 : Int32} {o3 : Option Value} {o4 : Option Value} {o5 : Option Value} (hr : RCH sc rc N) (hS : CM A K S s) : am_L (am_PP sc) N d 138 42 [some (.ref 7), some (.int y1), some (.int y2), o3, o4, o5] [.int z0] S (fun o S1 => ∃ s1 w, c138_42 rc s y1 y2 z0 = some (s1, w) ∧ o = cow w ∧ CX A K S1 s1) := by
  refine l6i hi_138_42 ?_
  refine l2 (v := 7) hi_138_43 rfl ?_
  refine l32 (as := [.ref 7]) (la := [some (.ref 7)]) (rest := []) hi_138_44 (am_hd0 (M := 138) (by decide) 44) rfl rfl rfl (fun N' d' hN_ => hr.h139 (N' := N') (d := d') hN_ hS) ?_ ?_
  · rintro v3 S1 ⟨s6, w_, e5, q1, A7, K8, x9, h2⟩
    obtain ⟨w4, rfl, rfl⟩ := cow_some q1
    show am_L _ _ _ _ _ [some (.ref 7), some (.int y1), some (.int y2), o3, o4, o5] [] _ _
    refine am_L.mono (lc138_47 hr h2 ) ?_
    rintro o S1 ⟨s1, w1, q0, q1, A_, K_, q2, q3⟩
    exact ⟨s1, w1, (show c138_42 rc s y1 y2 z0 = c138_47 rc s6 y1 y2 from by unfold c138_42; rw [rbd_s e5]).trans q0, q1, A_, K_, cX.trans (cX.trans cX.rfl x9) q2, q3⟩
  · rintro S1 ⟨s1, w1, q0, q1, A_, K_, q2, q3⟩
    obtain rfl := cow_none q1
    exact ⟨s1, none, (by unfold c138_42; rw [rbd_n q0]), rfl, A_, K_, cX.trans cX.rfl q2, q3⟩
noncomputable def c138_32 (rc : cRC) (s : cS) (y1 : Int32) (y2 : Int32) (z0 : Int32) : Option (cS × Option Int32) := rbd (some (c64 s 59)) (fun _ w4 => c138_42 rc ((c64 s 59).1) y1 y2 w4)
theorem lc138_32 {sc : Nat × (Nat → Int32)} {N d : Nat} {A : Nat → Nat} {K : Nat} {S : am_S} {rc : cRC} {s : cS} {y1 : Int32} {y2 : Int32} {z0 : Int32} {o3 : Option Value} {o4 : Option Value} {o5 : Option Value} (hr : RCH sc rc N) (hS : CM A K S s) : am_L (am_PP sc) N d 138 32 [some (.ref 7), some (.int y1), some (.int y2), o3, o4, o5] [.int z0] S (fun o S1 => ∃ s1 w, c138_32 rc s y1 y2 z0 = some (s1, w) ∧ o = cow w ∧ CX A K S1 s1) := by
  refine l6i hi_138_32 ?_
  refine l2 (v := 7) hi_138_33 rfl ?_
  refine l20s (v := .ref 2) hS cs_7 hi_138_34 rfl ?_
  refine l0 hi_138_37 ?_
  refine l32 (as := [.ref 2, .int 59]) (la := [some (.ref 2), some (.int 59)]) (rest := []) hi_138_39 (am_hd0 (M := 138) (by decide) 39) rfl rfl rfl (fun N' d' hN_ => lc64 (N := N') (d := d') hS ) ?_ ?_
  · rintro v3 S1 ⟨ev, h2⟩
    obtain ⟨w4, e5, rfl⟩ := cov_some ev
    show am_L _ _ _ _ _ [some (.ref 7), some (.int y1), some (.int y2), o3, o4, o5] [.int w4] _ _
    refine am_L.mono (lc138_42 hr h2 ) ?_
    rintro o S1 ⟨s1, w1, q0, q1, A_, K_, q2, q3⟩
    exact ⟨s1, w1, (show c138_32 rc s y1 y2 z0 = c138_42 rc ((c64 s 59).1) y1 y2 w4 from by unfold c138_32; rw [rbd_th e5]).trans q0, q1, A_, K_, cX.trans cX.rfl q2, q3⟩
  · rintro S1 ⟨q1, q2⟩
    have hn := cov_none q1
    exact ⟨_, none, (by unfold c138_32; rw [rbd_thn hn]), rfl, A, K, cX.rfl, q2⟩
noncomputable def c138_15 (rc : cRC) (s : cS) (y1 : Int32) (z0 : Int32) : Option (cS × Option Int32) := rbd (some (c64 s 1)) (fun _ w7 => c138_32 rc ((c64 s 1).1) y1 (c63 s) w7)
theorem lc138_15 {sc : Nat × (Nat → Int32)} {N d : Nat} {A : Nat → Nat} {K : Nat} {S : am_S} {rc : cRC} {s : cS} {y1 : Int32} {z0 : Int32} {o2 : Option Value} {o3 : Option Value} {o4 : Option Value} {o5 : Option Value} (hr : RCH sc rc N) (hS : CM A K S s) : am_L (am_PP sc) N d 138 15 [some (.ref 7), some (.int y1), o2, o3, o4, o5] [.int z0] S (fun o S1 => ∃ s1 w, c138_15 rc s y1 z0 = some (s1, w) ∧ o = cow w ∧ CX A K S1 s1) := by
  refine l6i hi_138_15 ?_
  refine l2 (v := 7) hi_138_16 rfl ?_
  refine l20s (v := .ref 2) hS cs_7 hi_138_17 rfl ?_
  refine l32 (as := [.ref 2]) (la := [some (.ref 2)]) (rest := []) hi_138_20 (am_hd0 (M := 138) (by decide) 20) rfl rfl rfl (fun N' d' _ => lc63 (N := N') (d := d') hS ) ?_ (fun _ q => nomatch q.1)
  rintro v3 S1 ⟨ev3, h2⟩
  cases ev3
  show am_L _ _ _ _ _ [some (.ref 7), some (.int y1), o2, o3, o4, o5] [.int (c63 s)] _ _
  refine l3 (ls' := [some (.ref 7), some (.int y1), some (.int (c63 s)), o3, o4, o5]) hi_138_23 (Nat.le_of_ble_eq_true rfl) rfl ?_
  refine l2 (v := 7) hi_138_24 rfl ?_
  refine l20s (v := .ref 2) h2 cs_7 hi_138_25 rfl ?_
  refine l0 hi_138_28 ?_
  refine l32 (as := [.ref 2, .int 1]) (la := [some (.ref 2), some (.int 1)]) (rest := []) hi_138_29 (am_hd0 (M := 138) (by decide) 29) rfl rfl rfl (fun N' d' hN_ => lc64 (N := N') (d := d') h2 ) ?_ ?_
  · rintro v6 S4 ⟨ev, h5⟩
    obtain ⟨w7, e8, rfl⟩ := cov_some ev
    show am_L _ _ _ _ _ [some (.ref 7), some (.int y1), some (.int (c63 s)), o3, o4, o5] [.int w7] _ _
    refine am_L.mono (lc138_32 hr h5 ) ?_
    rintro o S1 ⟨s1, w1, q0, q1, A_, K_, q2, q3⟩
    exact ⟨s1, w1, (show c138_15 rc s y1 z0 = c138_32 rc ((c64 s 1).1) y1 (c63 s) w7 from by unfold c138_15; rw [rbd_th e8]).trans q0, q1, A_, K_, cX.trans cX.rfl q2, q3⟩
  · rintro S4 ⟨q1, q2⟩
    have hn := cov_none q1
    exact ⟨_, none, (by unfold c138_15; rw [rbd_thn hn]), rfl, A, K, cX.rfl, q2⟩
noncomputable def c138 (rc : cRC) (s : cS) : Option (cS × Option Int32) := rbd (some (c55 s)) (fun _ w7 => c138_15 rc ((c55 s).1) (c63 s) w7)
theorem lc138 {sc : Nat × (Nat → Int32)} {N d : Nat} {A : Nat → Nat} {K : Nat} {S : am_S} {rc : cRC} {s : cS} (hr : RCH sc rc N) (hS : CM A K S s) : am_L (am_PP sc) N d 138 0 [some (.ref 7), none, none, none, none, none] [] S (fun o S1 => ∃ s1 w, c138 rc s = some (s1, w) ∧ o = cow w ∧ CX A K S1 s1) := by
  refine l2 (v := 7) hi_138_0 rfl ?_
  refine l20s (v := .ref 2) hS cs_7 hi_138_1 rfl ?_
  refine l32 (as := [.ref 2]) (la := [some (.ref 2)]) (rest := []) hi_138_4 (am_hd0 (M := 138) (by decide) 4) rfl rfl rfl (fun N' d' _ => lc63 (N := N') (d := d') hS ) ?_ (fun _ q => nomatch q.1)
  rintro v3 S1 ⟨ev3, h2⟩
  cases ev3
  show am_L _ _ _ _ _ [some (.ref 7), none, none, none, none, none] [.int (c63 s)] _ _
  refine l3 (ls' := [some (.ref 7), some (.int (c63 s)), none, none, none, none]) hi_138_7 (Nat.le_of_ble_eq_true rfl) rfl ?_
  refine l2 (v := 7) hi_138_8 rfl ?_
  refine l20s (v := .ref 2) h2 cs_7 hi_138_9 rfl ?_
  refine l32 (as := [.ref 2]) (la := [some (.ref 2), none]) (rest := []) hi_138_12 (am_hd0 (M := 138) (by decide) 12) rfl rfl rfl (fun N' d' hN_ => lc55 (N := N') (d := d') h2 ) ?_ ?_
  · rintro v6 S4 ⟨ev, h5⟩
    obtain ⟨w7, e8, rfl⟩ := cov_some ev
    show am_L _ _ _ _ _ [some (.ref 7), some (.int (c63 s)), none, none, none, none] [.int w7] _ _
    refine am_L.mono (lc138_15 hr h5 ) ?_
    rintro o S1 ⟨s1, w1, q0, q1, A_, K_, q2, q3⟩
    exact ⟨s1, w1, (show c138 rc s = c138_15 rc ((c55 s).1) (c63 s) w7 from by unfold c138; rw [rbd_th e8]).trans q0, q1, A_, K_, cX.trans cX.rfl q2, q3⟩
  · rintro S4 ⟨q1, q2⟩
    have hn := cov_none q1
    exact ⟨_, none, (by unfold c138; rw [rbd_thn hn]), rfl, A, K, cX.rfl, q2⟩
noncomputable def c144_224 (rc : cRC) (s : cS) (y5 : Int32) : Option (cS × Option Int32) := some ((c78 s 41 y5 0 0).1, some 0)
theorem lc144_224 {sc : Nat × (Nat → Int32)} {N d : Nat} {A : Nat → Nat} {K : Nat} {S : am_S} {rc : cRC} {s : cS} {y5 : Int32} {o1 : Option Value} {o2 : Option Value} {o3 : Option Value} {o4 : Option Value} {o6 : Option Value} {o7 : Option Value} (hr : RCH sc rc N) (hS : CM A K S s) : am_L (am_PP sc) N d 144 224 [some (.ref 7), o1, o2, o3, o4, some (.int y5), o6, o7] [] S (fun o S1 => ∃ s1 w, c144_224 rc s y5 = some (s1, w) ∧ o = cow w ∧ CX A K S1 s1) := by
  refine l2 (v := 7) hi_144_224 rfl ?_
  refine l0 hi_144_225 ?_
  refine l1 (v := y5) hi_144_227 rfl ?_
  refine l0 hi_144_229 ?_
  refine l0 hi_144_230 ?_
  refine l32 (as := [.ref 7, .int 41, .int y5, .int 0, .int 0]) (la := [some (.ref 7), some (.int 41), some (.int y5), some (.int 0), some (.int 0)]) (rest := []) hi_144_231 (am_hd0 (M := 144) (by decide) 231) rfl rfl rfl (fun N' d' _ => lc78 (N := N') (d := d') hS ) ?_ (fun _ q => nomatch q.1)
  rintro v3 S1 ⟨ev3, h2⟩
  cases ev3
  show am_L _ _ _ _ _ [some (.ref 7), o1, o2, o3, o4, some (.int y5), o6, o7] [.int ((c78 s 41 y5 0 0).2)] _ _
  refine l6i hi_144_234 ?_
  exact l35 hi_144_235 ⟨(c78 s 41 y5 0 0).1, some 0, (rfl), rfl, A, K, cX.rfl, h2⟩
noncomputable def c144_219 (rc : cRC) (s : cS) (y5 : Int32) (z0 : Int32) : Option (cS × Option Int32) := c144_224 rc ((c143 s).1) y5
theorem lc144_219 {sc : Nat × (Nat → Int32)} {N d : Nat} {A : Nat → Nat} {K : Nat} {S : am_S} {rc : cRC} {s : cS} {y5 : Int32} {z0 : Int32} {o1 : Option Value} {o2 : Option Value} {o3 : Option Value} {o4 : Option Value} {o6 : Option Value} {o7 : Option Value} (hr : RCH sc rc N) (hS : CM A K S s) : am_L (am_PP sc) N d 144 219 [some (.ref 7), o1, o2, o3, o4, some (.int y5), o6, o7] [.int z0] S (fun o S1 => ∃ s1 w, c144_219 rc s y5 z0 = some (s1, w) ∧ o = cow w ∧ CX A K S1 s1) := by
  refine l6i hi_144_219 ?_
  refine l2 (v := 7) hi_144_220 rfl ?_
  refine l32 (as := [.ref 7]) (la := [some (.ref 7)]) (rest := []) hi_144_221 (am_hd0 (M := 144) (by decide) 221) rfl rfl rfl (fun N' d' _ => lc143 (N := N') (d := d') hS ) ?_ (fun _ q => nomatch q.1)
  rintro v3 S1 ⟨ev3, h2⟩
  cases ev3
  show am_L _ _ _ _ _ [some (.ref 7), o1, o2, o3, o4, some (.int y5), o6, o7] [] _ _
  refine am_L.mono (lc144_224 hr h2 ) ?_
  rintro o S1 ⟨s1, w1, q0, q1, A_, K_, q2, q3⟩
  exact ⟨s1, w1, (rfl).trans q0, q1, A_, K_, cX.trans cX.rfl q2, q3⟩
noncomputable def c144_207 (rc : cRC) (s : cS) (y5 : Int32) : Option (cS × Option Int32) := c144_219 rc ((c78 s 33 (y5 + 4) 0 0).1) y5 ((c78 s 33 (y5 + 4) 0 0).2)
theorem lc144_207 {sc : Nat × (Nat → Int32)} {N d : Nat} {A : Nat → Nat} {K : Nat} {S : am_S} {rc : cRC} {s : cS} {y5 : Int32} {o1 : Option Value} {o2 : Option Value} {o3 : Option Value} {o4 : Option Value} {o6 : Option Value} {o7 : Option Value} (hr : RCH sc rc N) (hS : CM A K S s) : am_L (am_PP sc) N d 144 207 [some (.ref 7), o1, o2, o3, o4, some (.int y5), o6, o7] [] S (fun o S1 => ∃ s1 w, c144_207 rc s y5 = some (s1, w) ∧ o = cow w ∧ CX A K S1 s1) := by
  refine l2 (v := 7) hi_144_207 rfl ?_
  refine l0 hi_144_208 ?_
  refine l1 (v := y5) hi_144_210 rfl ?_
  refine l0 hi_144_212 ?_
  refine l10 hi_144_213 ?_
  show am_L _ _ _ _ _ [some (.ref 7), o1, o2, o3, o4, some (.int y5), o6, o7] [.int (y5 + 4), .int 33, .ref 7] _ _
  refine l0 hi_144_214 ?_
  refine l0 hi_144_215 ?_
  refine l32 (as := [.ref 7, .int 33, .int (y5 + 4), .int 0, .int 0]) (la := [some (.ref 7), some (.int 33), some (.int (y5 + 4)), some (.int 0), some (.int 0)]) (rest := []) hi_144_216 (am_hd0 (M := 144) (by decide) 216) rfl rfl rfl (fun N' d' _ => lc78 (N := N') (d := d') hS ) ?_ (fun _ q => nomatch q.1)
  rintro v3 S1 ⟨ev3, h2⟩
  cases ev3
  show am_L _ _ _ _ _ [some (.ref 7), o1, o2, o3, o4, some (.int y5), o6, o7] [.int ((c78 s 33 (y5 + 4) 0 0).2)] _ _
  refine am_L.mono (lc144_219 hr h2 ) ?_
  rintro o S1 ⟨s1, w1, q0, q1, A_, K_, q2, q3⟩
  exact ⟨s1, w1, (rfl).trans q0, q1, A_, K_, cX.trans cX.rfl q2, q3⟩
noncomputable def c144_193 (rc : cRC) (s : cS) (y5 : Int32) (y7 : Int32) (z0 : Int32) : Option (cS × Option Int32) := c144_207 rc ((c109 s s.now y7 2).1) y5
theorem lc144_193 {sc : Nat × (Nat → Int32)} {N d : Nat} {A : Nat → Nat} {K : Nat} {S : am_S} {rc : cRC} {s : cS} {y5 : Int32} {y7 : Int32} {z0 : Int32} {o1 : Option Value} {o2 : Option Value} {o3 : Option Value} {o4 : Option Value} {o6 : Option Value} (hr : RCH sc rc N) (hS : CM A K S s) : am_L (am_PP sc) N d 144 193 [some (.ref 7), o1, o2, o3, o4, some (.int y5), o6, some (.int y7)] [.int z0] S (fun o S1 => ∃ s1 w, c144_193 rc s y5 y7 z0 = some (s1, w) ∧ o = cow w ∧ CX A K S1 s1) := by
  refine l6i hi_144_193 ?_
  refine l2 (v := 7) hi_144_194 rfl ?_
  refine l20s (v := .ref 12) hS cs_7 hi_144_195 rfl ?_
  refine l32 (as := [.ref 12]) (la := [some (.ref 12)]) (rest := []) hi_144_198 (am_hd0 (M := 144) (by decide) 198) rfl rfl rfl (fun N' d' _ => lc79 (N := N') (d := d') hS) ?_ (fun _ q => nomatch q.1)
  rintro v3 S1 ⟨ev3, h2⟩
  cases ev3
  show am_L _ _ _ _ _ [some (.ref 7), o1, o2, o3, o4, some (.int y5), o6, some (.int y7)] [.ref (A s.now)] _ _
  refine l1 (v := y7) hi_144_201 rfl ?_
  refine l0 hi_144_203 ?_
  refine l32 (as := [.ref (A s.now), .int y7, .int 2]) (la := [some (.ref (A s.now)), some (.int y7), some (.int 2)]) (rest := []) hi_144_204 (am_hd0 (M := 144) (by decide) 204) rfl rfl rfl (fun N' d' _ => lc109 (N := N') (d := d') h2 (show s.now ≤ K from CM.nl (s := s) hS)) ?_ (fun _ q => nomatch q.1)
  rintro v6 S4 ⟨ev6, h5⟩
  cases ev6
  show am_L _ _ _ _ _ [some (.ref 7), o1, o2, o3, o4, some (.int y5), o6, some (.int y7)] [] _ _
  refine am_L.mono (lc144_207 hr h5 ) ?_
  rintro o S1 ⟨s1, w1, q0, q1, A_, K_, q2, q3⟩
  exact ⟨s1, w1, (rfl).trans q0, q1, A_, K_, cX.trans cX.rfl q2, q3⟩
noncomputable def c144_183 (rc : cRC) (s : cS) (y5 : Int32) (y6 : Int32) (y7 : Int32) : Option (cS × Option Int32) := c144_193 rc ((c78 s 36 y6 0 0).1) y5 y7 ((c78 s 36 y6 0 0).2)
theorem lc144_183 {sc : Nat × (Nat → Int32)} {N d : Nat} {A : Nat → Nat} {K : Nat} {S : am_S} {rc : cRC} {s : cS} {y5 : Int32} {y6 : Int32} {y7 : Int32} {o1 : Option Value} {o2 : Option Value} {o3 : Option Value} {o4 : Option Value} (hr : RCH sc rc N) (hS : CM A K S s) : am_L (am_PP sc) N d 144 183 [some (.ref 7), o1, o2, o3, o4, some (.int y5), some (.int y6), some (.int y7)] [] S (fun o S1 => ∃ s1 w, c144_183 rc s y5 y6 y7 = some (s1, w) ∧ o = cow w ∧ CX A K S1 s1) := by
  refine l2 (v := 7) hi_144_183 rfl ?_
  refine l0 hi_144_184 ?_
  refine l1 (v := y6) hi_144_186 rfl ?_
  refine l0 hi_144_188 ?_
  refine l0 hi_144_189 ?_
  refine l32 (as := [.ref 7, .int 36, .int y6, .int 0, .int 0]) (la := [some (.ref 7), some (.int 36), some (.int y6), some (.int 0), some (.int 0)]) (rest := []) hi_144_190 (am_hd0 (M := 144) (by decide) 190) rfl rfl rfl (fun N' d' _ => lc78 (N := N') (d := d') hS ) ?_ (fun _ q => nomatch q.1)
  rintro v3 S1 ⟨ev3, h2⟩
  cases ev3
  show am_L _ _ _ _ _ [some (.ref 7), o1, o2, o3, o4, some (.int y5), some (.int y6), some (.int y7)] [.int ((c78 s 36 y6 0 0).2)] _ _
  refine am_L.mono (lc144_193 hr h2 ) ?_
  rintro o S1 ⟨s1, w1, q0, q1, A_, K_, q2, q3⟩
  exact ⟨s1, w1, (rfl).trans q0, q1, A_, K_, cX.trans cX.rfl q2, q3⟩
noncomputable def c144_175 (rc : cRC) (s : cS) (y2 : Int32) (y3 : Int32) (y5 : Int32) (y6 : Int32) (z0 : Int32) : Option (cS × Option Int32) := rbd (rc 142 s 0 y2 y3 0 0 0 0) (fun s6 w4 => c144_183 rc s6 y5 y6 z0)
theorem lc144_175 {sc : Nat × (Nat → Int32)} {N d : Nat} {A : Nat → Nat} {K : Nat} {S : am_S} {rc : cRC} {s : cS} {y2 : Int32} {y3 : Int32} {y5 : Int32} {y6 : Int32} {z0 : Int32} {o1 : Option Value} {o4 : Option Value} {o7 : Option Value} (hr : RCH sc rc N) (hS : CM A K S s) : am_L (am_PP sc) N d 144 175 [some (.ref 7), o1, some (.int y2), some (.int y3), o4, some (.int y5), some (.int y6), o7] [.int z0] S (fun o S1 => ∃ s1 w, c144_175 rc s y2 y3 y5 y6 z0 = some (s1, w) ∧ o = cow w ∧ CX A K S1 s1) := by
  refine l3 (ls' := [some (.ref 7), o1, some (.int y2), some (.int y3), o4, some (.int y5), some (.int y6), some (.int z0)]) hi_144_175 (Nat.le_of_ble_eq_true rfl) rfl ?_
  refine l2 (v := 7) hi_144_177 rfl ?_
  refine l1 (v := y2) hi_144_178 rfl ?_
  refine l1 (v := y3) hi_144_179 rfl ?_
  refine l32 (as := [.ref 7, .int y2, .int y3]) (la := [some (.ref 7), some (.int y2), some (.int y3), none, none]) (rest := []) hi_144_180 (am_hd0 (M := 144) (by decide) 180) rfl rfl rfl (fun N' d' hN_ => hr.h142 (N' := N') (d := d') hN_ hS) ?_ ?_
  · rintro v3 S1 ⟨s6, w_, e5, q1, A7, K8, x9, h2⟩
    obtain ⟨w4, rfl, rfl⟩ := cow_some q1
    show am_L _ _ _ _ _ [some (.ref 7), o1, some (.int y2), some (.int y3), o4, some (.int y5), some (.int y6), some (.int z0)] [] _ _
    refine am_L.mono (lc144_183 hr h2 ) ?_
    rintro o S1 ⟨s1, w1, q0, q1, A_, K_, q2, q3⟩
    exact ⟨s1, w1, (show c144_175 rc s y2 y3 y5 y6 z0 = c144_183 rc s6 y5 y6 z0 from by unfold c144_175; rw [rbd_s e5]).trans q0, q1, A_, K_, cX.trans (cX.trans cX.rfl x9) q2, q3⟩
  · rintro S1 ⟨s1, w1, q0, q1, A_, K_, q2, q3⟩
    obtain rfl := cow_none q1
    exact ⟨s1, none, (by unfold c144_175; rw [rbd_n q0]), rfl, A_, K_, cX.trans cX.rfl q2, q3⟩
noncomputable def c144_164 (rc : cRC) (s : cS) (y2 : Int32) (y3 : Int32) (y5 : Int32) (y6 : Int32) (z0 : Int32) : Option (cS × Option Int32) := c144_175 rc ((c78 s 44 y5 0 0).1) y2 y3 y5 y6 ((c78 s 44 y5 0 0).2)
theorem lc144_164 {sc : Nat × (Nat → Int32)} {N d : Nat} {A : Nat → Nat} {K : Nat} {S : am_S} {rc : cRC} {s : cS} {y2 : Int32} {y3 : Int32} {y5 : Int32} {y6 : Int32} {z0 : Int32} {o1 : Option Value} {o4 : Option Value} {o7 : Option Value} (hr : RCH sc rc N) (hS : CM A K S s) : am_L (am_PP sc) N d 144 164 [some (.ref 7), o1, some (.int y2), some (.int y3), o4, some (.int y5), some (.int y6), o7] [.int z0] S (fun o S1 => ∃ s1 w, c144_164 rc s y2 y3 y5 y6 z0 = some (s1, w) ∧ o = cow w ∧ CX A K S1 s1) := by
  refine l6i hi_144_164 ?_
  refine l2 (v := 7) hi_144_165 rfl ?_
  refine l0 hi_144_166 ?_
  refine l1 (v := y5) hi_144_168 rfl ?_
  refine l0 hi_144_170 ?_
  refine l0 hi_144_171 ?_
  refine l32 (as := [.ref 7, .int 44, .int y5, .int 0, .int 0]) (la := [some (.ref 7), some (.int 44), some (.int y5), some (.int 0), some (.int 0)]) (rest := []) hi_144_172 (am_hd0 (M := 144) (by decide) 172) rfl rfl rfl (fun N' d' _ => lc78 (N := N') (d := d') hS ) ?_ (fun _ q => nomatch q.1)
  rintro v3 S1 ⟨ev3, h2⟩
  cases ev3
  show am_L _ _ _ _ _ [some (.ref 7), o1, some (.int y2), some (.int y3), o4, some (.int y5), some (.int y6), o7] [.int ((c78 s 44 y5 0 0).2)] _ _
  refine am_L.mono (lc144_175 hr h2 ) ?_
  rintro o S1 ⟨s1, w1, q0, q1, A_, K_, q2, q3⟩
  exact ⟨s1, w1, (rfl).trans q0, q1, A_, K_, cX.trans cX.rfl q2, q3⟩
noncomputable def c144_151 (rc : cRC) (s : cS) (y2 : Int32) (y3 : Int32) (y4 : Int32) (y5 : Int32) (z0 : Int32) : Option (cS × Option Int32) := c144_164 rc ((c78 s 43 y5 y3 y4).1) y2 y3 y5 z0 ((c78 s 43 y5 y3 y4).2)
theorem lc144_151 {sc : Nat × (Nat → Int32)} {N d : Nat} {A : Nat → Nat} {K : Nat} {S : am_S} {rc : cRC} {s : cS} {y2 : Int32} {y3 : Int32} {y4 : Int32} {y5 : Int32} {z0 : Int32} {o1 : Option Value} {o6 : Option Value} {o7 : Option Value} (hr : RCH sc rc N) (hS : CM A K S s) : am_L (am_PP sc) N d 144 151 [some (.ref 7), o1, some (.int y2), some (.int y3), some (.int y4), some (.int y5), o6, o7] [.int z0] S (fun o S1 => ∃ s1 w, c144_151 rc s y2 y3 y4 y5 z0 = some (s1, w) ∧ o = cow w ∧ CX A K S1 s1) := by
  refine l3 (ls' := [some (.ref 7), o1, some (.int y2), some (.int y3), some (.int y4), some (.int y5), some (.int z0), o7]) hi_144_151 (Nat.le_of_ble_eq_true rfl) rfl ?_
  refine l2 (v := 7) hi_144_153 rfl ?_
  refine l0 hi_144_154 ?_
  refine l1 (v := y5) hi_144_156 rfl ?_
  refine l1 (v := y3) hi_144_158 rfl ?_
  refine l1 (v := y4) hi_144_159 rfl ?_
  refine l32 (as := [.ref 7, .int 43, .int y5, .int y3, .int y4]) (la := [some (.ref 7), some (.int 43), some (.int y5), some (.int y3), some (.int y4)]) (rest := []) hi_144_161 (am_hd0 (M := 144) (by decide) 161) rfl rfl rfl (fun N' d' _ => lc78 (N := N') (d := d') hS ) ?_ (fun _ q => nomatch q.1)
  rintro v3 S1 ⟨ev3, h2⟩
  cases ev3
  show am_L _ _ _ _ _ [some (.ref 7), o1, some (.int y2), some (.int y3), some (.int y4), some (.int y5), some (.int z0), o7] [.int ((c78 s 43 y5 y3 y4).2)] _ _
  refine am_L.mono (lc144_164 hr h2 ) ?_
  rintro o S1 ⟨s1, w1, q0, q1, A_, K_, q2, q3⟩
  exact ⟨s1, w1, (rfl).trans q0, q1, A_, K_, cX.trans cX.rfl q2, q3⟩
noncomputable def c144_141 (rc : cRC) (s : cS) (y1 : Int32) (y2 : Int32) (y3 : Int32) (y4 : Int32) (y5 : Int32) (z0 : Int32) : Option (cS × Option Int32) := c144_151 rc ((c78 s 34 0 0 y1).1) y2 y3 y4 y5 ((c78 s 34 0 0 y1).2)
theorem lc144_141 {sc : Nat × (Nat → Int32)} {N d : Nat} {A : Nat → Nat} {K : Nat} {S : am_S} {rc : cRC} {s : cS} {y1 : Int32} {y2 : Int32} {y3 : Int32} {y4 : Int32} {y5 : Int32} {z0 : Int32} {o6 : Option Value} {o7 : Option Value} (hr : RCH sc rc N) (hS : CM A K S s) : am_L (am_PP sc) N d 144 141 [some (.ref 7), some (.int y1), some (.int y2), some (.int y3), some (.int y4), some (.int y5), o6, o7] [.int z0] S (fun o S1 => ∃ s1 w, c144_141 rc s y1 y2 y3 y4 y5 z0 = some (s1, w) ∧ o = cow w ∧ CX A K S1 s1) := by
  refine l6i hi_144_141 ?_
  refine l2 (v := 7) hi_144_142 rfl ?_
  refine l0 hi_144_143 ?_
  refine l0 hi_144_145 ?_
  refine l0 hi_144_146 ?_
  refine l1 (v := y1) hi_144_147 rfl ?_
  refine l32 (as := [.ref 7, .int 34, .int 0, .int 0, .int y1]) (la := [some (.ref 7), some (.int 34), some (.int 0), some (.int 0), some (.int y1)]) (rest := []) hi_144_148 (am_hd0 (M := 144) (by decide) 148) rfl rfl rfl (fun N' d' _ => lc78 (N := N') (d := d') hS ) ?_ (fun _ q => nomatch q.1)
  rintro v3 S1 ⟨ev3, h2⟩
  cases ev3
  show am_L _ _ _ _ _ [some (.ref 7), some (.int y1), some (.int y2), some (.int y3), some (.int y4), some (.int y5), o6, o7] [.int ((c78 s 34 0 0 y1).2)] _ _
  refine am_L.mono (lc144_151 hr h2 ) ?_
  rintro o S1 ⟨s1, w1, q0, q1, A_, K_, q2, q3⟩
  exact ⟨s1, w1, (rfl).trans q0, q1, A_, K_, cX.trans cX.rfl q2, q3⟩
noncomputable def c144_129 (rc : cRC) (s : cS) (y1 : Int32) (y2 : Int32) (y3 : Int32) (y4 : Int32) (z0 : Int32) : Option (cS × Option Int32) := c144_141 rc ((c78 s 42 z0 0 y1).1) y1 y2 y3 y4 z0 ((c78 s 42 z0 0 y1).2)
theorem lc144_129 {sc : Nat × (Nat → Int32)} {N d : Nat} {A : Nat → Nat} {K : Nat} {S : am_S} {rc : cRC} {s : cS} {y1 : Int32} {y2 : Int32} {y3 : Int32} {y4 : Int32} {z0 : Int32} {o5 : Option Value} {o6 : Option Value} {o7 : Option Value} (hr : RCH sc rc N) (hS : CM A K S s) : am_L (am_PP sc) N d 144 129 [some (.ref 7), some (.int y1), some (.int y2), some (.int y3), some (.int y4), o5, o6, o7] [.int z0] S (fun o S1 => ∃ s1 w, c144_129 rc s y1 y2 y3 y4 z0 = some (s1, w) ∧ o = cow w ∧ CX A K S1 s1) := by
  refine l3 (ls' := [some (.ref 7), some (.int y1), some (.int y2), some (.int y3), some (.int y4), some (.int z0), o6, o7]) hi_144_129 (Nat.le_of_ble_eq_true rfl) rfl ?_
  refine l2 (v := 7) hi_144_131 rfl ?_
  refine l0 hi_144_132 ?_
  refine l1 (v := z0) hi_144_134 rfl ?_
  refine l0 hi_144_136 ?_
  refine l1 (v := y1) hi_144_137 rfl ?_
  refine l32 (as := [.ref 7, .int 42, .int z0, .int 0, .int y1]) (la := [some (.ref 7), some (.int 42), some (.int z0), some (.int 0), some (.int y1)]) (rest := []) hi_144_138 (am_hd0 (M := 144) (by decide) 138) rfl rfl rfl (fun N' d' _ => lc78 (N := N') (d := d') hS ) ?_ (fun _ q => nomatch q.1)
  rintro v3 S1 ⟨ev3, h2⟩
  cases ev3
  show am_L _ _ _ _ _ [some (.ref 7), some (.int y1), some (.int y2), some (.int y3), some (.int y4), some (.int z0), o6, o7] [.int ((c78 s 42 z0 0 y1).2)] _ _
  refine am_L.mono (lc144_141 hr h2 ) ?_
  rintro o S1 ⟨s1, w1, q0, q1, A_, K_, q2, q3⟩
  exact ⟨s1, w1, (rfl).trans q0, q1, A_, K_, cX.trans cX.rfl q2, q3⟩
noncomputable def c144_121 (rc : cRC) (s : cS) (y1 : Int32) (y2 : Int32) (y3 : Int32) (y4 : Int32) (z0 : Int32) : Option (cS × Option Int32) := c144_129 rc ((c140 s 4 4 y1).1) y1 y2 y3 y4 ((c140 s 4 4 y1).2)
theorem lc144_121 {sc : Nat × (Nat → Int32)} {N d : Nat} {A : Nat → Nat} {K : Nat} {S : am_S} {rc : cRC} {s : cS} {y1 : Int32} {y2 : Int32} {y3 : Int32} {y4 : Int32} {z0 : Int32} {o5 : Option Value} {o6 : Option Value} {o7 : Option Value} (hr : RCH sc rc N) (hS : CM A K S s) : am_L (am_PP sc) N d 144 121 [some (.ref 7), some (.int y1), some (.int y2), some (.int y3), some (.int y4), o5, o6, o7] [.int z0] S (fun o S1 => ∃ s1 w, c144_121 rc s y1 y2 y3 y4 z0 = some (s1, w) ∧ o = cow w ∧ CX A K S1 s1) := by
  refine l6i hi_144_121 ?_
  refine l2 (v := 7) hi_144_122 rfl ?_
  refine l0 hi_144_123 ?_
  refine l0 hi_144_124 ?_
  refine l1 (v := y1) hi_144_125 rfl ?_
  refine l32 (as := [.ref 7, .int 4, .int 4, .int y1]) (la := [some (.ref 7), some (.int 4), some (.int 4), some (.int y1), none, none]) (rest := []) hi_144_126 (am_hd0 (M := 144) (by decide) 126) rfl rfl rfl (fun N' d' _ => lc140 (N := N') (d := d') hS ) ?_ (fun _ q => nomatch q.1)
  rintro v3 S1 ⟨ev3, h2⟩
  cases ev3
  show am_L _ _ _ _ _ [some (.ref 7), some (.int y1), some (.int y2), some (.int y3), some (.int y4), o5, o6, o7] [.int ((c140 s 4 4 y1).2)] _ _
  refine am_L.mono (lc144_129 hr h2 ) ?_
  rintro o S1 ⟨s1, w1, q0, q1, A_, K_, q2, q3⟩
  exact ⟨s1, w1, (rfl).trans q0, q1, A_, K_, cX.trans cX.rfl q2, q3⟩
noncomputable def c144_112 (rc : cRC) (s : cS) (y1 : Int32) (y2 : Int32) (y3 : Int32) (y4 : Int32) : Option (cS × Option Int32) := rbd (some (c64 s 12)) (fun _ w4 => c144_121 rc ((c64 s 12).1) y1 y2 y3 y4 w4)
theorem lc144_112 {sc : Nat × (Nat → Int32)} {N d : Nat} {A : Nat → Nat} {K : Nat} {S : am_S} {rc : cRC} {s : cS} {y1 : Int32} {y2 : Int32} {y3 : Int32} {y4 : Int32} {o5 : Option Value} {o6 : Option Value} {o7 : Option Value} (hr : RCH sc rc N) (hS : CM A K S s) : am_L (am_PP sc) N d 144 112 [some (.ref 7), some (.int y1), some (.int y2), some (.int y3), some (.int y4), o5, o6, o7] [] S (fun o S1 => ∃ s1 w, c144_112 rc s y1 y2 y3 y4 = some (s1, w) ∧ o = cow w ∧ CX A K S1 s1) := by
  refine l2 (v := 7) hi_144_112 rfl ?_
  refine l20s (v := .ref 2) hS cs_7 hi_144_113 rfl ?_
  refine l0 hi_144_116 ?_
  refine l32 (as := [.ref 2, .int 12]) (la := [some (.ref 2), some (.int 12)]) (rest := []) hi_144_118 (am_hd0 (M := 144) (by decide) 118) rfl rfl rfl (fun N' d' hN_ => lc64 (N := N') (d := d') hS ) ?_ ?_
  · rintro v3 S1 ⟨ev, h2⟩
    obtain ⟨w4, e5, rfl⟩ := cov_some ev
    show am_L _ _ _ _ _ [some (.ref 7), some (.int y1), some (.int y2), some (.int y3), some (.int y4), o5, o6, o7] [.int w4] _ _
    refine am_L.mono (lc144_121 hr h2 ) ?_
    rintro o S1 ⟨s1, w1, q0, q1, A_, K_, q2, q3⟩
    exact ⟨s1, w1, (show c144_112 rc s y1 y2 y3 y4 = c144_121 rc ((c64 s 12).1) y1 y2 y3 y4 w4 from by unfold c144_112; rw [rbd_th e5]).trans q0, q1, A_, K_, cX.trans cX.rfl q2, q3⟩
  · rintro S1 ⟨q1, q2⟩
    have hn := cov_none q1
    exact ⟨_, none, (by unfold c144_112; rw [rbd_thn hn]), rfl, A, K, cX.rfl, q2⟩
noncomputable def c144_109 (rc : cRC) (s : cS) (y1 : Int32) (y2 : Int32) (y3 : Int32) (y4 : Int32) (z0 : Int32) (z1 : Int32) : Option (cS × Option Int32) := c144_112 rc ((c117 s z1 z0).1) y1 y2 y3 y4
theorem lc144_109 {sc : Nat × (Nat → Int32)} {N d : Nat} {A : Nat → Nat} {K : Nat} {S : am_S} {rc : cRC} {s : cS} {y1 : Int32} {y2 : Int32} {y3 : Int32} {y4 : Int32} {z0 : Int32} {z1 : Int32} {o5 : Option Value} {o6 : Option Value} {o7 : Option Value} (hr : RCH sc rc N) (hS : CM A K S s) : am_L (am_PP sc) N d 144 109 [some (.ref 7), some (.int y1), some (.int y2), some (.int y3), some (.int y4), o5, o6, o7] [.int z0, .int z1, .ref 7] S (fun o S1 => ∃ s1 w, c144_109 rc s y1 y2 y3 y4 z0 z1 = some (s1, w) ∧ o = cow w ∧ CX A K S1 s1) := by
  refine l32 (as := [.ref 7, .int z1, .int z0]) (la := [some (.ref 7), some (.int z1), some (.int z0), none]) (rest := []) hi_144_109 (am_hd0 (M := 144) (by decide) 109) rfl rfl rfl (fun N' d' _ => lc117 (N := N') (d := d') hS ) ?_ (fun _ q => nomatch q.1)
  rintro v3 S1 ⟨ev3, h2⟩
  cases ev3
  show am_L _ _ _ _ _ [some (.ref 7), some (.int y1), some (.int y2), some (.int y3), some (.int y4), o5, o6, o7] [] _ _
  refine am_L.mono (lc144_112 hr h2 ) ?_
  rintro o S1 ⟨s1, w1, q0, q1, A_, K_, q2, q3⟩
  exact ⟨s1, w1, (rfl).trans q0, q1, A_, K_, cX.trans cX.rfl q2, q3⟩
noncomputable def c144_102 (rc : cRC) (s : cS) (y1 : Int32) (y2 : Int32) (y3 : Int32) (y4 : Int32) (z0 : Int32) : Option (cS × Option Int32) := rbd (rc 112 s 0 0 0 0 0 0 0) (fun s6 w4 => c144_109 rc s6 y1 y2 y3 y4 w4 4)
theorem lc144_102 {sc : Nat × (Nat → Int32)} {N d : Nat} {A : Nat → Nat} {K : Nat} {S : am_S} {rc : cRC} {s : cS} {y1 : Int32} {y2 : Int32} {y3 : Int32} {y4 : Int32} {z0 : Int32} {o5 : Option Value} {o6 : Option Value} {o7 : Option Value} (hr : RCH sc rc N) (hS : CM A K S s) : am_L (am_PP sc) N d 144 102 [some (.ref 7), some (.int y1), some (.int y2), some (.int y3), some (.int y4), o5, o6, o7] [.int z0] S (fun o S1 => ∃ s1 w, c144_102 rc s y1 y2 y3 y4 z0 = some (s1, w) ∧ o = cow w ∧ CX A K S1 s1) := by
  refine l6i hi_144_102 ?_
  refine l2 (v := 7) hi_144_103 rfl ?_
  refine l0 hi_144_104 ?_
  refine l2 (v := 7) hi_144_105 rfl ?_
  refine l32 (as := [.ref 7]) (la := [some (.ref 7), none, none, none]) (rest := [.int 4, .ref 7]) hi_144_106 (am_hd0 (M := 144) (by decide) 106) rfl rfl rfl (fun N' d' hN_ => hr.h112 (N' := N') (d := d') hN_ hS) ?_ ?_
  · rintro v3 S1 ⟨s6, w_, e5, q1, A7, K8, x9, h2⟩
    obtain ⟨w4, rfl, rfl⟩ := cov_some q1
    show am_L _ _ _ _ _ [some (.ref 7), some (.int y1), some (.int y2), some (.int y3), some (.int y4), o5, o6, o7] [.int w4, .int 4, .ref 7] _ _
    refine am_L.mono (lc144_109 hr h2 ) ?_
    rintro o S1 ⟨s1, w1, q0, q1, A_, K_, q2, q3⟩
    exact ⟨s1, w1, (show c144_102 rc s y1 y2 y3 y4 z0 = c144_109 rc s6 y1 y2 y3 y4 w4 4 from by unfold c144_102; rw [rbd_s e5]).trans q0, q1, A_, K_, cX.trans (cX.trans cX.rfl x9) q2, q3⟩
  · rintro S1 ⟨s1, w1, q0, q1, A_, K_, q2, q3⟩
    obtain rfl := cov_none q1
    exact ⟨s1, none, (by unfold c144_102; rw [rbd_n q0]), rfl, A_, K_, cX.trans cX.rfl q2, q3⟩
noncomputable def c144_84 (rc : cRC) (s : cS) (y1 : Int32) (y2 : Int32) (y3 : Int32) : Option (cS × Option Int32) := rbd (some (c64 s 21)) (fun _ w7 => c144_102 rc ((c64 s 21).1) y1 y2 y3 (c63 s) w7)
theorem lc144_84 {sc : Nat × (Nat → Int32)} {N d : Nat} {A : Nat → Nat} {K : Nat} {S : am_S} {rc : cRC} {s : cS} {y1 : Int32} {y2 : Int32} {y3 : Int32} {o4 : Option Value} {o5 : Option Value} {o6 : Option Value} {o7 : Option Value} (hr : RCH sc rc N) (hS : CM A K S s) : am_L (am_PP sc) N d 144 84 [some (.ref 7), some (.int y1), some (.int y2), some (.int y3), o4, o5, o6, o7] [] S (fun o S1 => ∃ s1 w, c144_84 rc s y1 y2 y3 = some (s1, w) ∧ o = cow w ∧ CX A K S1 s1) := by
  refine l2 (v := 7) hi_144_84 rfl ?_
  refine l20s (v := .ref 2) hS cs_7 hi_144_85 rfl ?_
  refine l32 (as := [.ref 2]) (la := [some (.ref 2)]) (rest := []) hi_144_88 (am_hd0 (M := 144) (by decide) 88) rfl rfl rfl (fun N' d' _ => lc63 (N := N') (d := d') hS ) ?_ (fun _ q => nomatch q.1)
  rintro v3 S1 ⟨ev3, h2⟩
  cases ev3
  show am_L _ _ _ _ _ [some (.ref 7), some (.int y1), some (.int y2), some (.int y3), o4, o5, o6, o7] [.int (c63 s)] _ _
  refine l3 (ls' := [some (.ref 7), some (.int y1), some (.int y2), some (.int y3), some (.int (c63 s)), o5, o6, o7]) hi_144_91 (Nat.le_of_ble_eq_true rfl) rfl ?_
  refine l2 (v := 7) hi_144_93 rfl ?_
  refine l20s (v := .ref 2) h2 cs_7 hi_144_94 rfl ?_
  refine l0 hi_144_97 ?_
  refine l32 (as := [.ref 2, .int 21]) (la := [some (.ref 2), some (.int 21)]) (rest := []) hi_144_99 (am_hd0 (M := 144) (by decide) 99) rfl rfl rfl (fun N' d' hN_ => lc64 (N := N') (d := d') h2 ) ?_ ?_
  · rintro v6 S4 ⟨ev, h5⟩
    obtain ⟨w7, e8, rfl⟩ := cov_some ev
    show am_L _ _ _ _ _ [some (.ref 7), some (.int y1), some (.int y2), some (.int y3), some (.int (c63 s)), o5, o6, o7] [.int w7] _ _
    refine am_L.mono (lc144_102 hr h5 ) ?_
    rintro o S1 ⟨s1, w1, q0, q1, A_, K_, q2, q3⟩
    exact ⟨s1, w1, (show c144_84 rc s y1 y2 y3 = c144_102 rc ((c64 s 21).1) y1 y2 y3 (c63 s) w7 from by unfold c144_84; rw [rbd_th e8]).trans q0, q1, A_, K_, cX.trans cX.rfl q2, q3⟩
  · rintro S4 ⟨q1, q2⟩
    have hn := cov_none q1
    exact ⟨_, none, (by unfold c144_84; rw [rbd_thn hn]), rfl, A, K, cX.rfl, q2⟩
noncomputable def c144_74 (rc : cRC) (s : cS) (y1 : Int32) (y2 : Int32) (y3 : Int32) (y4 : Int32) (z0 : Int32) : Option (cS × Option Int32) := rc 144038 s 0 y1 y2 (y3 + 1) (y4 + 1) 0 0
theorem lc144_74 {sc : Nat × (Nat → Int32)} {N d : Nat} {A : Nat → Nat} {K : Nat} {S : am_S} {rc : cRC} {s : cS} {y1 : Int32} {y2 : Int32} {y3 : Int32} {y4 : Int32} {z0 : Int32} {o5 : Option Value} {o6 : Option Value} {o7 : Option Value} (hr : RCH sc rc (N + 1)) (hS : CM A K S s) : am_L (am_PP sc) N d 144 74 [some (.ref 7), some (.int y1), some (.int y2), some (.int y3), some (.int y4), o5, o6, o7] [.int z0] S (fun o S1 => ∃ s1 w, c144_74 rc s y1 y2 y3 y4 z0 = some (s1, w) ∧ o = cow w ∧ CX A K S1 s1) := by
  refine l6i hi_144_74 ?_
  refine l5 (v := y3) (ls' := [some (.ref 7), some (.int y1), some (.int y2), some (.int (y3 + 1)), some (.int y4), o5, o6, o7]) hi_144_75 rfl rfl ?_
  refine l5 (v := y4) (ls' := [some (.ref 7), some (.int y1), some (.int y2), some (.int (y3 + 1)), some (.int (y4 + 1)), o5, o6, o7]) hi_144_78 rfl rfl ?_
  refine l18 hi_144_81 ?_
  refine am_L.mono (hr.h144038 (N' := N) (o5 := o5) (o6 := o6) (o7 := o7) (Nat.lt_succ_self _) hS) ?_
  rintro o S1 ⟨s1, w1, q0, q1, A_, K_, q2, q3⟩
  exact ⟨s1, w1, (show c144_74 rc s y1 y2 y3 y4 z0 = rc 144038 s 0 y1 y2 (y3 + 1) (y4 + 1) 0 0 from rfl).trans q0, q1, A_, K_, cX.trans cX.rfl q2, q3⟩
noncomputable def c144_65 (rc : cRC) (s : cS) (y1 : Int32) (y2 : Int32) (y3 : Int32) (y4 : Int32) (z0 : Int32) : Option (cS × Option Int32) := rbd (some (c64 s 1)) (fun _ w4 => c144_74 rc ((c64 s 1).1) y1 y2 y3 y4 w4)
theorem lc144_65 {sc : Nat × (Nat → Int32)} {N d : Nat} {A : Nat → Nat} {K : Nat} {S : am_S} {rc : cRC} {s : cS} {y1 : Int32} {y2 : Int32} {y3 : Int32} {y4 : Int32} {z0 : Int32} {o5 : Option Value} {o6 : Option Value} {o7 : Option Value} (hr : RCH sc rc (N + 1)) (hS : CM A K S s) : am_L (am_PP sc) N d 144 65 [some (.ref 7), some (.int y1), some (.int y2), some (.int y3), some (.int y4), o5, o6, o7] [.int z0] S (fun o S1 => ∃ s1 w, c144_65 rc s y1 y2 y3 y4 z0 = some (s1, w) ∧ o = cow w ∧ CX A K S1 s1) := by
  refine l6i hi_144_65 ?_
  refine l2 (v := 7) hi_144_66 rfl ?_
  refine l20s (v := .ref 2) hS cs_7 hi_144_67 rfl ?_
  refine l0 hi_144_70 ?_
  refine l32 (as := [.ref 2, .int 1]) (la := [some (.ref 2), some (.int 1)]) (rest := []) hi_144_71 (am_hd0 (M := 144) (by decide) 71) rfl rfl rfl (fun N' d' hN_ => lc64 (N := N') (d := d') hS ) ?_ ?_
  · rintro v3 S1 ⟨ev, h2⟩
    obtain ⟨w4, e5, rfl⟩ := cov_some ev
    show am_L _ _ _ _ _ [some (.ref 7), some (.int y1), some (.int y2), some (.int y3), some (.int y4), o5, o6, o7] [.int w4] _ _
    refine am_L.mono (lc144_74 hr h2 ) ?_
    rintro o S1 ⟨s1, w1, q0, q1, A_, K_, q2, q3⟩
    exact ⟨s1, w1, (show c144_65 rc s y1 y2 y3 y4 z0 = c144_74 rc ((c64 s 1).1) y1 y2 y3 y4 w4 from by unfold c144_65; rw [rbd_th e5]).trans q0, q1, A_, K_, cX.trans cX.rfl q2, q3⟩
  · rintro S1 ⟨q1, q2⟩
    have hn := cov_none q1
    exact ⟨_, none, (by unfold c144_65; rw [rbd_thn hn]), rfl, A, K, cX.rfl, q2⟩
noncomputable def c144_38 (rc : cRC) (s : cS) (y1 : Int32) (y2 : Int32) (y3 : Int32) (y4 : Int32) : Option (cS × Option Int32) := if (c53 s) ≠ 69 then c144_84 rc s y1 y2 y3 else if 16384 < y4 then c144_84 rc s y1 y2 y3 else rbd (some (c55 s)) (fun _ w9 => c144_65 rc ((c55 s).1) y1 y2 y3 y4 w9)
theorem lc144_38 {sc : Nat × (Nat → Int32)} {N d : Nat} {A : Nat → Nat} {K : Nat} {S : am_S} {rc : cRC} {s : cS} {y1 : Int32} {y2 : Int32} {y3 : Int32} {y4 : Int32} {o5 : Option Value} {o6 : Option Value} {o7 : Option Value} (hr : RCH sc rc N) (hS : CM A K S s) : am_L (am_PP sc) N d 144 38 [some (.ref 7), some (.int y1), some (.int y2), some (.int y3), some (.int y4), o5, o6, o7] [] S (fun o S1 => ∃ s1 w, c144_38 rc s y1 y2 y3 y4 = some (s1, w) ∧ o = cow w ∧ CX A K S1 s1) := by
  cases N with
  | zero => exact l_zero
  | succ N =>
    refine l2d (v := 7) hi_144_38 rfl ?_
    refine l20s (v := .ref 2) hS cs_7 hi_144_39 rfl ?_
    refine l32 (as := [.ref 2]) (la := [some (.ref 2)]) (rest := []) hi_144_42 (am_hd0 (M := 144) (by decide) 42) rfl rfl rfl (fun N' d' _ => lc53 (N := N') (d := d') hS ) ?_ (fun _ q => nomatch q.1)
    rintro v3 S1 ⟨ev3, h2⟩
    cases ev3
    show am_L _ _ _ _ _ [some (.ref 7), some (.int y1), some (.int y2), some (.int y3), some (.int y4), o5, o6, o7] [.int (c53 s)] _ _
    refine l0 hi_144_45 ?_
    by_cases cn4 : (c53 s) ≠ 69
    · refine l13t hi_144_47 (decide_eq_true cn4) ?_
      refine am_L.mono (lc144_84 (hr.less (Nat.le_succ _)) h2 ) ?_
      rintro o S1 ⟨s1, w1, q0, q1, A_, K_, q2, q3⟩
      exact ⟨s1, w1, (show c144_38 rc s y1 y2 y3 y4 = c144_84 rc s y1 y2 y3 from by unfold c144_38; rw [if_pos cn4]).trans q0, q1, A_, K_, cX.trans cX.rfl q2, q3⟩
    · refine l13f hi_144_47 (decide_eq_false cn4) ?_
      refine l1 (v := y4) hi_144_50 rfl ?_
      refine l0 hi_144_52 ?_
      by_cases cn5 : 16384 < y4
      · refine l13t hi_144_55 (decide_eq_true cn5) ?_
        refine am_L.mono (lc144_84 (hr.less (Nat.le_succ _)) h2 ) ?_
        rintro o S1 ⟨s1, w1, q0, q1, A_, K_, q2, q3⟩
        exact ⟨s1, w1, (show c144_38 rc s y1 y2 y3 y4 = c144_84 rc s y1 y2 y3 from by unfold c144_38; rw [if_neg cn4]; rw [if_pos cn5]).trans q0, q1, A_, K_, cX.trans cX.rfl q2, q3⟩
      · refine l13f hi_144_55 (decide_eq_false cn5) ?_
        refine l2 (v := 7) hi_144_58 rfl ?_
        refine l20s (v := .ref 2) h2 cs_7 hi_144_59 rfl ?_
        refine l32 (as := [.ref 2]) (la := [some (.ref 2), none]) (rest := []) hi_144_62 (am_hd0 (M := 144) (by decide) 62) rfl rfl rfl (fun N' d' hN_ => lc55 (N := N') (d := d') h2 ) ?_ ?_
        · rintro v8 S6 ⟨ev, h7⟩
          obtain ⟨w9, e10, rfl⟩ := cov_some ev
          show am_L _ _ _ _ _ [some (.ref 7), some (.int y1), some (.int y2), some (.int y3), some (.int y4), o5, o6, o7] [.int w9] _ _
          refine am_L.mono (lc144_65 hr h7 ) ?_
          rintro o S1 ⟨s1, w1, q0, q1, A_, K_, q2, q3⟩
          exact ⟨s1, w1, (show c144_38 rc s y1 y2 y3 y4 = c144_65 rc ((c55 s).1) y1 y2 y3 y4 w9 from by unfold c144_38; rw [if_neg cn4]; rw [if_neg cn5]; rw [rbd_th e10]).trans q0, q1, A_, K_, cX.trans cX.rfl q2, q3⟩
        · rintro S6 ⟨q1, q2⟩
          have hn := cov_none q1
          exact ⟨_, none, (by unfold c144_38; rw [if_neg cn4]; rw [if_neg cn5]; rw [rbd_thn hn]), rfl, A, K, cX.rfl, q2⟩
noncomputable def c144_34 (rc : cRC) (s : cS) (y1 : Int32) (y2 : Int32) (y3 : Int32) (z0 : Int32) : Option (cS × Option Int32) := c144_38 rc s y1 y2 y3 0
theorem lc144_34 {sc : Nat × (Nat → Int32)} {N d : Nat} {A : Nat → Nat} {K : Nat} {S : am_S} {rc : cRC} {s : cS} {y1 : Int32} {y2 : Int32} {y3 : Int32} {z0 : Int32} {o4 : Option Value} {o5 : Option Value} {o6 : Option Value} {o7 : Option Value} (hr : RCH sc rc N) (hS : CM A K S s) : am_L (am_PP sc) N d 144 34 [some (.ref 7), some (.int y1), some (.int y2), some (.int y3), o4, o5, o6, o7] [.int z0] S (fun o S1 => ∃ s1 w, c144_34 rc s y1 y2 y3 z0 = some (s1, w) ∧ o = cow w ∧ CX A K S1 s1) := by
  refine l6i hi_144_34 ?_
  refine l0 hi_144_35 ?_
  refine l3 (ls' := [some (.ref 7), some (.int y1), some (.int y2), some (.int y3), some (.int 0), o5, o6, o7]) hi_144_36 (Nat.le_of_ble_eq_true rfl) rfl ?_
  refine am_L.mono (lc144_38 (o5 := o5) (o6 := o6) (o7 := o7) hr hS) ?_
  rintro o S1 ⟨s1, w1, q0, q1, A_, K_, q2, q3⟩
  exact ⟨s1, w1, (show c144_34 rc s y1 y2 y3 z0 = c144_38 rc s y1 y2 y3 0 from rfl).trans q0, q1, A_, K_, cX.trans cX.rfl q2, q3⟩
noncomputable def c144_15 (rc : cRC) (s : cS) (y1 : Int32) (z0 : Int32) : Option (cS × Option Int32) := rbd (some (c64 s 1)) (fun _ w7 => c144_34 rc ((c64 s 1).1) y1 (c63 s) 1 w7)
theorem lc144_15 {sc : Nat × (Nat → Int32)} {N d : Nat} {A : Nat → Nat} {K : Nat} {S : am_S} {rc : cRC} {s : cS} {y1 : Int32} {z0 : Int32} {o2 : Option Value} {o3 : Option Value} {o4 : Option Value} {o5 : Option Value} {o6 : Option Value} {o7 : Option Value} (hr : RCH sc rc N) (hS : CM A K S s) : am_L (am_PP sc) N d 144 15 [some (.ref 7), some (.int y1), o2, o3, o4, o5, o6, o7] [.int z0] S (fun o S1 => ∃ s1 w, c144_15 rc s y1 z0 = some (s1, w) ∧ o = cow w ∧ CX A K S1 s1) := by
  refine l6i hi_144_15 ?_
  refine l2 (v := 7) hi_144_16 rfl ?_
  refine l20s (v := .ref 2) hS cs_7 hi_144_17 rfl ?_
  refine l32 (as := [.ref 2]) (la := [some (.ref 2)]) (rest := []) hi_144_20 (am_hd0 (M := 144) (by decide) 20) rfl rfl rfl (fun N' d' _ => lc63 (N := N') (d := d') hS ) ?_ (fun _ q => nomatch q.1)
  rintro v3 S1 ⟨ev3, h2⟩
  cases ev3
  show am_L _ _ _ _ _ [some (.ref 7), some (.int y1), o2, o3, o4, o5, o6, o7] [.int (c63 s)] _ _
  refine l3 (ls' := [some (.ref 7), some (.int y1), some (.int (c63 s)), o3, o4, o5, o6, o7]) hi_144_23 (Nat.le_of_ble_eq_true rfl) rfl ?_
  refine l0 hi_144_24 ?_
  refine l3 (ls' := [some (.ref 7), some (.int y1), some (.int (c63 s)), some (.int 1), o4, o5, o6, o7]) hi_144_25 (Nat.le_of_ble_eq_true rfl) rfl ?_
  refine l2 (v := 7) hi_144_26 rfl ?_
  refine l20s (v := .ref 2) h2 cs_7 hi_144_27 rfl ?_
  refine l0 hi_144_30 ?_
  refine l32 (as := [.ref 2, .int 1]) (la := [some (.ref 2), some (.int 1)]) (rest := []) hi_144_31 (am_hd0 (M := 144) (by decide) 31) rfl rfl rfl (fun N' d' hN_ => lc64 (N := N') (d := d') h2 ) ?_ ?_
  · rintro v6 S4 ⟨ev, h5⟩
    obtain ⟨w7, e8, rfl⟩ := cov_some ev
    show am_L _ _ _ _ _ [some (.ref 7), some (.int y1), some (.int (c63 s)), some (.int 1), o4, o5, o6, o7] [.int w7] _ _
    refine am_L.mono (lc144_34 hr h5 ) ?_
    rintro o S1 ⟨s1, w1, q0, q1, A_, K_, q2, q3⟩
    exact ⟨s1, w1, (show c144_15 rc s y1 z0 = c144_34 rc ((c64 s 1).1) y1 (c63 s) 1 w7 from by unfold c144_15; rw [rbd_th e8]).trans q0, q1, A_, K_, cX.trans cX.rfl q2, q3⟩
  · rintro S4 ⟨q1, q2⟩
    have hn := cov_none q1
    exact ⟨_, none, (by unfold c144_15; rw [rbd_thn hn]), rfl, A, K, cX.rfl, q2⟩
noncomputable def c144 (rc : cRC) (s : cS) : Option (cS × Option Int32) := rbd (some (c55 s)) (fun _ w7 => c144_15 rc ((c55 s).1) (c63 s) w7)
theorem lc144 {sc : Nat × (Nat → Int32)} {N d : Nat} {A : Nat → Nat} {K : Nat} {S : am_S} {rc : cRC} {s : cS} (hr : RCH sc rc N) (hS : CM A K S s) : am_L (am_PP sc) N d 144 0 [some (.ref 7), none, none, none, none, none, none, none] [] S (fun o S1 => ∃ s1 w, c144 rc s = some (s1, w) ∧ o = cow w ∧ CX A K S1 s1) := by
  refine l2 (v := 7) hi_144_0 rfl ?_
  refine l20s (v := .ref 2) hS cs_7 hi_144_1 rfl ?_
  refine l32 (as := [.ref 2]) (la := [some (.ref 2)]) (rest := []) hi_144_4 (am_hd0 (M := 144) (by decide) 4) rfl rfl rfl (fun N' d' _ => lc63 (N := N') (d := d') hS ) ?_ (fun _ q => nomatch q.1)
  rintro v3 S1 ⟨ev3, h2⟩
  cases ev3
  show am_L _ _ _ _ _ [some (.ref 7), none, none, none, none, none, none, none] [.int (c63 s)] _ _
  refine l3 (ls' := [some (.ref 7), some (.int (c63 s)), none, none, none, none, none, none]) hi_144_7 (Nat.le_of_ble_eq_true rfl) rfl ?_
  refine l2 (v := 7) hi_144_8 rfl ?_
  refine l20s (v := .ref 2) h2 cs_7 hi_144_9 rfl ?_
  refine l32 (as := [.ref 2]) (la := [some (.ref 2), none]) (rest := []) hi_144_12 (am_hd0 (M := 144) (by decide) 12) rfl rfl rfl (fun N' d' hN_ => lc55 (N := N') (d := d') h2 ) ?_ ?_
  · rintro v6 S4 ⟨ev, h5⟩
    obtain ⟨w7, e8, rfl⟩ := cov_some ev
    show am_L _ _ _ _ _ [some (.ref 7), some (.int (c63 s)), none, none, none, none, none, none] [.int w7] _ _
    refine am_L.mono (lc144_15 hr h5 ) ?_
    rintro o S1 ⟨s1, w1, q0, q1, A_, K_, q2, q3⟩
    exact ⟨s1, w1, (show c144 rc s = c144_15 rc ((c55 s).1) (c63 s) w7 from by unfold c144; rw [rbd_th e8]).trans q0, q1, A_, K_, cX.trans cX.rfl q2, q3⟩
  · rintro S4 ⟨q1, q2⟩
    have hn := cov_none q1
    exact ⟨_, none, (by unfold c144; rw [rbd_thn hn]), rfl, A, K, cX.rfl, q2⟩
