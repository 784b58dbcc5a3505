/-! THE CLASS: what each method does (printed by wip/p5/cw_run.py) -/
set_option maxRecDepth 4096
noncomputable def c61_30 (rc : cRC) (s : cS) : Option (cS × Option Int32) := rbd (some (c64 s 61)) (fun _ w4 => some ((c64 s 61).1, some 0))
theorem lc61_30 {sc : Nat × (Nat → Int32)} {N d : Nat} {A : Nat → Nat} {K : Nat} {S : am_S} {rc : cRC} {s : cS} (hr : RCH sc rc N) (hS : CM A K S s) : am_L (am_PP sc) N d 61 30 [some (.ref 7)] [] S (fun o S1 => ∃ s1 w, c61_30 rc s = some (s1, w) ∧ o = cov w ∧ CX A K S1 s1) := by
  refine l2 (v := 7) hi_61_30 rfl ?_
  refine l20s (v := .ref 2) hS cs_7 hi_61_31 rfl ?_
  refine l0 hi_61_34 ?_
  refine l32 (as := [.ref 2, .int 61]) (la := [some (.ref 2), some (.int 61)]) (rest := []) hi_61_36 (am_hd0 (M := 61) (by decide) 36) rfl rfl rfl (fun N' d' hN_ => lc64 (N := N') (d := d') hS ) ?_ ?_
  · rintro v3 S1 ⟨ev, h2⟩
    obtain ⟨w4, e5, rfl⟩ := cov_some ev
    show am_L _ _ _ _ _ [some (.ref 7)] [.int w4] _ _
    refine l6i hi_61_39 ?_
    refine l0 hi_61_40 ?_
    exact l33 hi_61_41 ⟨(c64 s 61).1, some 0, (by unfold c61_30; rw [rbd_th e5]), rfl, A, K, cX.rfl, h2⟩
  · rintro S1 ⟨q1, q2⟩
    have hn := cov_none q1
    exact ⟨_, none, (by unfold c61_30; rw [rbd_thn hn]), rfl, A, K, cX.rfl, q2⟩
noncomputable def c61_25 (rc : cRC) (s : cS) (z0 : Int32) : Option (cS × Option Int32) := rbd (rc 70 s 0 0 0 0 0 0 0) (fun s6 w4 => c61_30 rc s6)
theorem lc61_25 {sc : Nat × (Nat → Int32)} {N d : Nat} {A : Nat → Nat} {K : Nat} {S : am_S} {rc : cRC} {s : cS} {z0 : Int32} (hr : RCH sc rc N) (hS : CM A K S s) : am_L (am_PP sc) N d 61 25 [some (.ref 7)] [.int z0] S (fun o S1 => ∃ s1 w, c61_25 rc s z0 = some (s1, w) ∧ o = cov w ∧ CX A K S1 s1) := by
  refine l6i hi_61_25 ?_
  refine l2 (v := 7) hi_61_26 rfl ?_
  refine l32 (as := [.ref 7]) (la := [some (.ref 7), none, none, none, none, none]) (rest := []) hi_61_27 (am_hd0 (M := 61) (by decide) 27) rfl rfl rfl (fun N' d' hN_ => hr.h70 (N' := N') (d := d') hN_ hS) ?_ ?_
  · rintro v3 S1 ⟨s6, w_, e5, q1, A7, K8, x9, h2⟩
    obtain ⟨w4, rfl, rfl⟩ := cow_some q1
    show am_L _ _ _ _ _ [some (.ref 7)] [] _ _
    refine am_L.mono (lc61_30 hr h2 ) ?_
    rintro o S1 ⟨s1, w1, q0, q1, A_, K_, q2, q3⟩
    exact ⟨s1, w1, (show c61_25 rc s z0 = c61_30 rc s6 from by unfold c61_25; rw [rbd_s e5]).trans q0, q1, A_, K_, cX.trans (cX.trans cX.rfl x9) q2, q3⟩
  · rintro S1 ⟨s1, w1, q0, q1, A_, K_, q2, q3⟩
    obtain rfl := cow_none q1
    exact ⟨s1, none, (by unfold c61_25; rw [rbd_n q0]), rfl, A_, K_, cX.trans cX.rfl q2, q3⟩
noncomputable def c61 (rc : cRC) (s : cS) : Option (cS × Option Int32) := if (c53 s) ≠ 1 then rbd (some (c64 s 60)) (fun _ w8 => c61_25 rc ((c64 s 60).1) w8) else rbd (some (c62 s)) (fun _ w14 => some ((c62 s).1, some w14))
theorem lc61 {sc : Nat × (Nat → Int32)} {N d : Nat} {A : Nat → Nat} {K : Nat} {S : am_S} {rc : cRC} {s : cS} (hr : RCH sc rc N) (hS : CM A K S s) : am_L (am_PP sc) N d 61 0 [some (.ref 7)] [] S (fun o S1 => ∃ s1 w, c61 rc s = some (s1, w) ∧ o = cov w ∧ CX A K S1 s1) := by
  refine l2 (v := 7) hi_61_0 rfl ?_
  refine l20s (v := .ref 2) hS cs_7 hi_61_1 rfl ?_
  refine l32 (as := [.ref 2]) (la := [some (.ref 2)]) (rest := []) hi_61_4 (am_hd0 (M := 61) (by decide) 4) rfl rfl rfl (fun N' d' _ => lc53 (N := N') (d := d') hS ) ?_ (fun _ q => nomatch q.1)
  rintro v3 S1 ⟨ev3, h2⟩
  cases ev3
  show am_L _ _ _ _ _ [some (.ref 7)] [.int (c53 s)] _ _
  refine l0 hi_61_7 ?_
  by_cases cn4 : (c53 s) ≠ 1
  · refine l13t hi_61_8 (decide_eq_true cn4) ?_
    refine l2 (v := 7) hi_61_16 rfl ?_
    refine l20s (v := .ref 2) h2 cs_7 hi_61_17 rfl ?_
    refine l0 hi_61_20 ?_
    refine l32 (as := [.ref 2, .int 60]) (la := [some (.ref 2), some (.int 60)]) (rest := []) hi_61_22 (am_hd0 (M := 61) (by decide) 22) rfl rfl rfl (fun N' d' hN_ => lc64 (N := N') (d := d') h2 ) ?_ ?_
    · rintro v7 S5 ⟨ev, h6⟩
      obtain ⟨w8, e9, rfl⟩ := cov_some ev
      show am_L _ _ _ _ _ [some (.ref 7)] [.int w8] _ _
      refine am_L.mono (lc61_25 hr h6 ) ?_
      rintro o S1 ⟨s1, w1, q0, q1, A_, K_, q2, q3⟩
      exact ⟨s1, w1, (show c61 rc s = c61_25 rc ((c64 s 60).1) w8 from by unfold c61; rw [if_pos cn4]; rw [rbd_th e9]).trans q0, q1, A_, K_, cX.trans cX.rfl q2, q3⟩
    · rintro S5 ⟨q1, q2⟩
      have hn := cov_none q1
      exact ⟨_, none, (by unfold c61; rw [if_pos cn4]; rw [rbd_thn hn]), rfl, A, K, cX.rfl, q2⟩
  · refine l13f hi_61_8 (decide_eq_false cn4) ?_
    refine l2 (v := 7) hi_61_11 rfl ?_
    refine l32 (as := [.ref 7]) (la := [some (.ref 7)]) (rest := []) hi_61_12 (am_hd0 (M := 61) (by decide) 12) rfl rfl rfl (fun N' d' hN_ => lc62 (N := N') (d := d') h2 ) ?_ ?_
    · rintro v13 S11 ⟨ev, h12⟩
      obtain ⟨w14, e15, rfl⟩ := cov_some ev
      show am_L _ _ _ _ _ [some (.ref 7)] [.int w14] _ _
      exact l33 hi_61_15 ⟨(c62 s).1, some w14, (by unfold c61; rw [if_neg cn4]; rw [rbd_th e15]), rfl, A, K, cX.rfl, h12⟩
    · rintro S11 ⟨q1, q2⟩
      have hn := cov_none q1
      exact ⟨_, none, (by unfold c61; rw [if_neg cn4]; rw [rbd_thn hn]), rfl, A, K, cX.rfl, q2⟩
def c112_54 (rc : cRC) (s : cS) (y1 : Int32) (y2 : Int32) (y3 : Int32) : Option (cS × Option Int32) := rc 112006 s 0 y1 y2 (y3 + 1) 0 0 0
theorem lc112_54 {sc : Nat × (Nat → Int32)} {N d : Nat} {A : Nat → Nat} {K : Nat} {S : am_S} {rc : cRC} {s : cS} {y1 : Int32} {y2 : Int32} {y3 : Int32} (hr : RCH sc rc (N + 1)) (hS : CM A K S s) : am_L (am_PP sc) N d 112 54 [some (.ref 7), some (.int y1), some (.int y2), some (.int y3)] [] S (fun o S1 => ∃ s1 w, c112_54 rc s y1 y2 y3 = some (s1, w) ∧ o = cov w ∧ CX A K S1 s1) := by
  refine l5 (v := y3) (ls' := [some (.ref 7), some (.int y1), some (.int y2), some (.int (y3 + 1))]) hi_112_54 rfl rfl ?_
  refine l18 hi_112_57 ?_
  refine am_L.mono (hr.h112006 (N' := N)  (Nat.lt_succ_self _) hS) ?_
  rintro o S1 ⟨s1, w1, q0, q1, A_, K_, q2, q3⟩
  exact ⟨s1, w1, (show c112_54 rc s y1 y2 y3 = rc 112006 s 0 y1 y2 (y3 + 1) 0 0 0 from rfl).trans q0, q1, A_, K_, cX.trans cX.rfl q2, q3⟩
def c112_53 (rc : cRC) (s : cS) (y1 : Int32) (y2 : Int32) (y3 : Int32) (z0 : Int32) : Option (cS × Option Int32) := c112_54 rc s y1 y2 y3
theorem lc112_53 {sc : Nat × (Nat → Int32)} {N d : Nat} {A : Nat → Nat} {K : Nat} {S : am_S} {rc : cRC} {s : cS} {y1 : Int32} {y2 : Int32} {y3 : Int32} {z0 : Int32} (hr : RCH sc rc (N + 1)) (hS : CM A K S s) : am_L (am_PP sc) N d 112 53 [some (.ref 7), some (.int y1), some (.int y2), some (.int y3)] [.int z0] S (fun o S1 => ∃ s1 w, c112_53 rc s y1 y2 y3 z0 = some (s1, w) ∧ o = cov w ∧ CX A K S1 s1) := by
  refine l6i hi_112_53 ?_
  refine am_L.mono (lc112_54 hr hS ) ?_
  rintro o S1 ⟨s1, w1, q0, q1, A_, K_, q2, q3⟩
  exact ⟨s1, w1, (rfl).trans q0, q1, A_, K_, cX.trans cX.rfl q2, q3⟩
def c112_41 (rc : cRC) (s : cS) (y1 : Int32) (y3 : Int32) (z0 : Int32) : Option (cS × Option Int32) := if z0 = 0 then c112_54 rc s y1 z0 y3 else rbd (some (c55 s)) (fun _ w5 => c112_53 rc ((c55 s).1) y1 z0 y3 w5)
theorem lc112_41 {sc : Nat × (Nat → Int32)} {N d : Nat} {A : Nat → Nat} {K : Nat} {S : am_S} {rc : cRC} {s : cS} {y1 : Int32} {y3 : Int32} {z0 : Int32} {o2 : Option Value} (hr : RCH sc rc (N + 1)) (hS : CM A K S s) : am_L (am_PP sc) N d 112 41 [some (.ref 7), some (.int y1), o2, some (.int y3)] [.int z0] S (fun o S1 => ∃ s1 w, c112_41 rc s y1 y3 z0 = some (s1, w) ∧ o = cov w ∧ CX A K S1 s1) := by
  refine l3 (ls' := [some (.ref 7), some (.int y1), some (.int z0), some (.int y3)]) hi_112_41 (Nat.le_of_ble_eq_true rfl) rfl ?_
  refine l1 (v := z0) hi_112_42 rfl ?_
  by_cases cn1 : z0 = 0
  · refine l12t hi_112_43 (decide_eq_true cn1) ?_
    refine am_L.mono (lc112_54 hr hS ) ?_
    rintro o S1 ⟨s1, w1, q0, q1, A_, K_, q2, q3⟩
    exact ⟨s1, w1, (show c112_41 rc s y1 y3 z0 = c112_54 rc s y1 z0 y3 from by unfold c112_41; rw [if_pos cn1]).trans q0, q1, A_, K_, cX.trans cX.rfl q2, q3⟩
  · refine l12f hi_112_43 (decide_eq_false cn1) ?_
    refine l2 (v := 7) hi_112_46 rfl ?_
    refine l20s (v := .ref 2) hS cs_7 hi_112_47 rfl ?_
    refine l32 (as := [.ref 2]) (la := [some (.ref 2), none]) (rest := []) hi_112_50 (am_hd0 (M := 112) (by decide) 50) rfl rfl rfl (fun N' d' hN_ => lc55 (N := N') (d := d') hS ) ?_ ?_
    · rintro v4 S2 ⟨ev, h3⟩
      obtain ⟨w5, e6, rfl⟩ := cov_some ev
      show am_L _ _ _ _ _ [some (.ref 7), some (.int y1), some (.int z0), some (.int y3)] [.int w5] _ _
      refine am_L.mono (lc112_53 hr h3 ) ?_
      rintro o S1 ⟨s1, w1, q0, q1, A_, K_, q2, q3⟩
      exact ⟨s1, w1, (show c112_41 rc s y1 y3 z0 = c112_53 rc ((c55 s).1) y1 z0 y3 w5 from by unfold c112_41; rw [if_neg cn1]; rw [rbd_th e6]).trans q0, q1, A_, K_, cX.trans cX.rfl q2, q3⟩
    · rintro S2 ⟨q1, q2⟩
      have hn := cov_none q1
      exact ⟨_, none, (by unfold c112_41; rw [if_neg cn1]; rw [rbd_thn hn]), rfl, A, K, cX.rfl, q2⟩
def c112_21 (rc : cRC) (s : cS) (y1 : Int32) (y3 : Int32) : Option (cS × Option Int32) := if (c53 s) ≠ 69 then c112_41 rc s (y1 + 1) y3 0 else c112_41 rc s (y1 + 1) y3 1
theorem lc112_21 {sc : Nat × (Nat → Int32)} {N d : Nat} {A : Nat → Nat} {K : Nat} {S : am_S} {rc : cRC} {s : cS} {y1 : Int32} {y3 : Int32} {o2 : Option Value} (hr : RCH sc rc (N + 1)) (hS : CM A K S s) : am_L (am_PP sc) N d 112 21 [some (.ref 7), some (.int y1), o2, some (.int y3)] [] S (fun o S1 => ∃ s1 w, c112_21 rc s y1 y3 = some (s1, w) ∧ o = cov w ∧ CX A K S1 s1) := by
  refine l5 (v := y1) (ls' := [some (.ref 7), some (.int (y1 + 1)), o2, some (.int y3)]) hi_112_21 rfl rfl ?_
  refine l2 (v := 7) hi_112_24 rfl ?_
  refine l20s (v := .ref 2) hS cs_7 hi_112_25 rfl ?_
  refine l32 (as := [.ref 2]) (la := [some (.ref 2)]) (rest := []) hi_112_28 (am_hd0 (M := 112) (by decide) 28) rfl rfl rfl (fun N' d' _ => lc53 (N := N') (d := d') hS ) ?_ (fun _ q => nomatch q.1)
  rintro v3 S1 ⟨ev3, h2⟩
  cases ev3
  show am_L _ _ _ _ _ [some (.ref 7), some (.int (y1 + 1)), o2, some (.int y3)] [.int (c53 s)] _ _
  refine l0 hi_112_31 ?_
  by_cases cn4 : (c53 s) ≠ 69
  · refine l13t hi_112_33 (decide_eq_true cn4) ?_
    refine l0 hi_112_40 ?_
    refine am_L.mono (lc112_41 hr h2 ) ?_
    rintro o S1 ⟨s1, w1, q0, q1, A_, K_, q2, q3⟩
    exact ⟨s1, w1, (show c112_21 rc s y1 y3 = c112_41 rc s (y1 + 1) y3 0 from by unfold c112_21; rw [if_pos cn4]).trans q0, q1, A_, K_, cX.trans cX.rfl q2, q3⟩
  · refine l13f hi_112_33 (decide_eq_false cn4) ?_
    refine l0 hi_112_36 ?_
    refine l18 hi_112_37 ?_
    refine am_L.mono (lc112_41 hr h2 ) ?_
    rintro o S1 ⟨s1, w1, q0, q1, A_, K_, q2, q3⟩
    exact ⟨s1, w1, (show c112_21 rc s y1 y3 = c112_41 rc s (y1 + 1) y3 1 from by unfold c112_21; rw [if_neg cn4]).trans q0, q1, A_, K_, cX.trans cX.rfl q2, q3⟩
def c112_6 (rc : cRC) (s : cS) (y1 : Int32) (y2 : Int32) (y3 : Int32) : Option (cS × Option Int32) := if y2 = 0 then some (s, some y1) else if 16384 < y3 then some (s, some y1) else rbd (rc 70 s 0 0 0 0 0 0 0) (fun s8 w6 => c112_21 rc s8 y1 y3)
theorem lc112_6 {sc : Nat × (Nat → Int32)} {N d : Nat} {A : Nat → Nat} {K : Nat} {S : am_S} {rc : cRC} {s : cS} {y1 : Int32} {y2 : Int32} {y3 : Int32} (hr : RCH sc rc N) (hS : CM A K S s) : am_L (am_PP sc) N d 112 6 [some (.ref 7), some (.int y1), some (.int y2), some (.int y3)] [] S (fun o S1 => ∃ s1 w, c112_6 rc s y1 y2 y3 = some (s1, w) ∧ o = cov w ∧ CX A K S1 s1) := by
  cases N with
  | zero => exact l_zero
  | succ N =>
    refine l1d (v := y2) hi_112_6 rfl ?_
    by_cases cn1 : y2 = 0
    · refine l12t hi_112_7 (decide_eq_true cn1) ?_
      refine l1 (v := y1) hi_112_60 rfl ?_
      exact l33 hi_112_61 ⟨s, some y1, (by unfold c112_6; rw [if_pos cn1]), rfl, A, K, cX.rfl, hS⟩
    · refine l12f hi_112_7 (decide_eq_false cn1) ?_
      refine l1 (v := y3) hi_112_10 rfl ?_
      refine l0 hi_112_11 ?_
      by_cases cn2 : 16384 < y3
      · refine l13t hi_112_14 (decide_eq_true cn2) ?_
        refine l1 (v := y1) hi_112_60 rfl ?_
        exact l33 hi_112_61 ⟨s, some y1, (by unfold c112_6; rw [if_neg cn1]; rw [if_pos cn2]), rfl, A, K, cX.rfl, hS⟩
      · refine l13f hi_112_14 (decide_eq_false cn2) ?_
        refine l2 (v := 7) hi_112_17 rfl ?_
        refine l32 (as := [.ref 7]) (la := [some (.ref 7), none, none, none, none, none]) (rest := []) hi_112_18 (am_hd0 (M := 112) (by decide) 18) rfl rfl rfl (fun N' d' hN_ => hr.h70 (N' := N') (d := d') (Nat.lt_succ_of_lt hN_) hS) ?_ ?_
        · rintro v5 S3 ⟨s8, w_, e7, q1, A9, K10, x11, h4⟩
          obtain ⟨w6, rfl, rfl⟩ := cow_some q1
          show am_L _ _ _ _ _ [some (.ref 7), some (.int y1), some (.int y2), some (.int y3)] [] _ _
          refine am_L.mono (lc112_21 hr h4 ) ?_
          rintro o S1 ⟨s1, w1, q0, q1, A_, K_, q2, q3⟩
          exact ⟨s1, w1, (show c112_6 rc s y1 y2 y3 = c112_21 rc s8 y1 y3 from by unfold c112_6; rw [if_neg cn1]; rw [if_neg cn2]; rw [rbd_s e7]).trans q0, q1, A_, K_, cX.trans (cX.trans cX.rfl x11) q2, q3⟩
        · rintro S3 ⟨s1, w1, q0, q1, A_, K_, q2, q3⟩
          obtain rfl := cow_none q1
          exact ⟨s1, none, (by unfold c112_6; rw [if_neg cn1]; rw [if_neg cn2]; rw [rbd_n q0]), rfl, A_, K_, cX.trans cX.rfl q2, q3⟩
def c112 (rc : cRC) (s : cS) : Option (cS × Option Int32) := c112_6 rc s 0 1 0
theorem lc112 {sc : Nat × (Nat → Int32)} {N d : Nat} {A : Nat → Nat} {K : Nat} {S : am_S} {rc : cRC} {s : cS} (hr : RCH sc rc N) (hS : CM A K S s) : am_L (am_PP sc) N d 112 0 [some (.ref 7), none, none, none] [] S (fun o S1 => ∃ s1 w, c112 rc s = some (s1, w) ∧ o = cov w ∧ CX A K S1 s1) := by
  refine l0 hi_112_0 ?_
  refine l3 (ls' := [some (.ref 7), some (.int 0), none, none]) hi_112_1 (Nat.le_of_ble_eq_true rfl) rfl ?_
  refine l0 hi_112_2 ?_
  refine l3 (ls' := [some (.ref 7), some (.int 0), some (.int 1), none]) hi_112_3 (Nat.le_of_ble_eq_true rfl) rfl ?_
  refine l0 hi_112_4 ?_
  refine l3 (ls' := [some (.ref 7), some (.int 0), some (.int 1), some (.int 0)]) hi_112_5 (Nat.le_of_ble_eq_true rfl) rfl ?_
  refine am_L.mono (lc112_6  hr hS) ?_
  rintro o S1 ⟨s1, w1, q0, q1, A_, K_, q2, q3⟩
  exact ⟨s1, w1, (show c112 rc s = c112_6 rc s 0 1 0 from rfl).trans q0, q1, A_, K_, cX.trans cX.rfl q2, q3⟩
def c111_124 (rc : cRC) (s : cS) (y1 : Int32) (y2 : Int32) (y3 : Int32) (y4 : Int32) : Option (cS × Option Int32) := some ((c78 s 13 ((y1 + y3) - y4) (y4 + 2) y2).1, some 0)
theorem lc111_124 {sc : Nat × (Nat → Int32)} {N d : Nat} {A : Nat → Nat} {K : Nat} {S : am_S} {rc : cRC} {s : cS} {y1 : Int32} {y2 : Int32} {y3 : Int32} {y4 : Int32} (hr : RCH sc rc N) (hS : CM A K S s) : am_L (am_PP sc) N d 111 124 [some (.ref 7), some (.int y1), some (.int y2), some (.int y3), some (.int y4)] [] S (fun o S1 => ∃ s1 w, c111_124 rc s y1 y2 y3 y4 = some (s1, w) ∧ o = cow w ∧ CX A K S1 s1) := by
  refine l2 (v := 7) hi_111_124 rfl ?_
  refine l0 hi_111_125 ?_
  refine l1 (v := y1) hi_111_127 rfl ?_
  refine l1 (v := y3) hi_111_128 rfl ?_
  refine l10 hi_111_129 ?_
  show am_L _ _ _ _ _ [some (.ref 7), some (.int y1), some (.int y2), some (.int y3), some (.int y4)] [.int (y1 + y3), .int 13, .ref 7] _ _
  refine l1 (v := y4) hi_111_130 rfl ?_
  refine l10 hi_111_132 ?_
  show am_L _ _ _ _ _ [some (.ref 7), some (.int y1), some (.int y2), some (.int y3), some (.int y4)] [.int ((y1 + y3) - y4), .int 13, .ref 7] _ _
  refine l1 (v := y4) hi_111_133 rfl ?_
  refine l0 hi_111_135 ?_
  refine l10 hi_111_136 ?_
  show am_L _ _ _ _ _ [some (.ref 7), some (.int y1), some (.int y2), some (.int y3), some (.int y4)] [.int (y4 + 2), .int ((y1 + y3) - y4), .int 13, .ref 7] _ _
  refine l1 (v := y2) hi_111_137 rfl ?_
  refine l32 (as := [.ref 7, .int 13, .int ((y1 + y3) - y4), .int (y4 + 2), .int y2]) (la := [some (.ref 7), some (.int 13), some (.int ((y1 + y3) - y4)), some (.int (y4 + 2)), some (.int y2)]) (rest := []) hi_111_138 (am_hd0 (M := 111) (by decide) 138) rfl rfl rfl (fun N' d' _ => lc78 (N := N') (d := d') hS ) ?_ (fun _ q => nomatch q.1)
  rintro v3 S1 ⟨ev3, h2⟩
  cases ev3
  show am_L _ _ _ _ _ [some (.ref 7), some (.int y1), some (.int y2), some (.int y3), some (.int y4)] [.int ((c78 s 13 ((y1 + y3) - y4) (y4 + 2) y2).2)] _ _
  refine l6i hi_111_141 ?_
  exact l35 hi_111_142 ⟨(c78 s 13 ((y1 + y3) - y4) (y4 + 2) y2).1, some 0, (rfl), rfl, A, K, cX.rfl, h2⟩
def c111_114 (rc : cRC) (s : cS) (y1 : Int32) (y2 : Int32) (y3 : Int32) (y4 : Int32) : Option (cS × Option Int32) := if y4 ≠ 1 then c111_124 rc s y1 y2 y3 y4 else c111_124 rc ((c96 s).1) y1 y2 y3 y4
theorem lc111_114 {sc : Nat × (Nat → Int32)} {N d : Nat} {A : Nat → Nat} {K : Nat} {S : am_S} {rc : cRC} {s : cS} {y1 : Int32} {y2 : Int32} {y3 : Int32} {y4 : Int32} (hr : RCH sc rc N) (hS : CM A K S s) : am_L (am_PP sc) N d 111 114 [some (.ref 7), some (.int y1), some (.int y2), some (.int y3), some (.int y4)] [] S (fun o S1 => ∃ s1 w, c111_114 rc s y1 y2 y3 y4 = some (s1, w) ∧ o = cow w ∧ CX A K S1 s1) := by
  refine l1 (v := y4) hi_111_114 rfl ?_
  refine l0 hi_111_116 ?_
  by_cases cn1 : y4 ≠ 1
  · refine l13t hi_111_117 (decide_eq_true cn1) ?_
    refine am_L.mono (lc111_124 hr hS ) ?_
    rintro o S1 ⟨s1, w1, q0, q1, A_, K_, q2, q3⟩
    exact ⟨s1, w1, (show c111_114 rc s y1 y2 y3 y4 = c111_124 rc s y1 y2 y3 y4 from by unfold c111_114; rw [if_pos cn1]).trans q0, q1, A_, K_, cX.trans cX.rfl q2, q3⟩
  · refine l13f hi_111_117 (decide_eq_false cn1) ?_
    refine l2 (v := 7) hi_111_120 rfl ?_
    refine l32 (as := [.ref 7]) (la := [some (.ref 7)]) (rest := []) hi_111_121 (am_hd0 (M := 111) (by decide) 121) rfl rfl rfl (fun N' d' _ => lc96 (N := N') (d := d') hS ) ?_ (fun _ q => nomatch q.1)
    rintro v4 S2 ⟨ev4, h3⟩
    cases ev4
    show am_L _ _ _ _ _ [some (.ref 7), some (.int y1), some (.int y2), some (.int y3), some (.int y4)] [] _ _
    refine am_L.mono (lc111_124 hr h3 ) ?_
    rintro o S1 ⟨s1, w1, q0, q1, A_, K_, q2, q3⟩
    exact ⟨s1, w1, (show c111_114 rc s y1 y2 y3 y4 = c111_124 rc ((c96 s).1) y1 y2 y3 y4 from by unfold c111_114; rw [if_neg cn1]).trans q0, q1, A_, K_, cX.trans cX.rfl q2, q3⟩
def c111_113 (rc : cRC) (s : cS) (y1 : Int32) (y2 : Int32) (y3 : Int32) (y4 : Int32) (z0 : Int32) : Option (cS × Option Int32) := c111_114 rc s y1 y2 y3 y4
theorem lc111_113 {sc : Nat × (Nat → Int32)} {N d : Nat} {A : Nat → Nat} {K : Nat} {S : am_S} {rc : cRC} {s : cS} {y1 : Int32} {y2 : Int32} {y3 : Int32} {y4 : Int32} {z0 : Int32} (hr : RCH sc rc N) (hS : CM A K S s) : am_L (am_PP sc) N d 111 113 [some (.ref 7), some (.int y1), some (.int y2), some (.int y3), some (.int y4)] [.int z0] S (fun o S1 => ∃ s1 w, c111_113 rc s y1 y2 y3 y4 z0 = some (s1, w) ∧ o = cow w ∧ CX A K S1 s1) := by
  refine l6i hi_111_113 ?_
  refine am_L.mono (lc111_114 hr hS ) ?_
  rintro o S1 ⟨s1, w1, q0, q1, A_, K_, q2, q3⟩
  exact ⟨s1, w1, (rfl).trans q0, q1, A_, K_, cX.trans cX.rfl q2, q3⟩
def c111_104 (rc : cRC) (s : cS) (y1 : Int32) (y2 : Int32) (y3 : Int32) (y4 : Int32) : Option (cS × Option Int32) := rbd (some (c64 s 61)) (fun _ w4 => c111_113 rc ((c64 s 61).1) y1 y2 y3 y4 w4)
theorem lc111_104 {sc : Nat × (Nat → Int32)} {N d : Nat} {A : Nat → Nat} {K : Nat} {S : am_S} {rc : cRC} {s : cS} {y1 : Int32} {y2 : Int32} {y3 : Int32} {y4 : Int32} (hr : RCH sc rc N) (hS : CM A K S s) : am_L (am_PP sc) N d 111 104 [some (.ref 7), some (.int y1), some (.int y2), some (.int y3), some (.int y4)] [] S (fun o S1 => ∃ s1 w, c111_104 rc s y1 y2 y3 y4 = some (s1, w) ∧ o = cow w ∧ CX A K S1 s1) := by
  refine l2 (v := 7) hi_111_104 rfl ?_
  refine l20s (v := .ref 2) hS cs_7 hi_111_105 rfl ?_
  refine l0 hi_111_108 ?_
  refine l32 (as := [.ref 2, .int 61]) (la := [some (.ref 2), some (.int 61)]) (rest := []) hi_111_110 (am_hd0 (M := 111) (by decide) 110) rfl rfl rfl (fun N' d' hN_ => lc64 (N := N') (d := d') hS ) ?_ ?_
  · rintro v3 S1 ⟨ev, h2⟩
    obtain ⟨w4, e5, rfl⟩ := cov_some ev
    show am_L _ _ _ _ _ [some (.ref 7), some (.int y1), some (.int y2), some (.int y3), some (.int y4)] [.int w4] _ _
    refine am_L.mono (lc111_113 hr h2 ) ?_
    rintro o S1 ⟨s1, w1, q0, q1, A_, K_, q2, q3⟩
    exact ⟨s1, w1, (show c111_104 rc s y1 y2 y3 y4 = c111_113 rc ((c64 s 61).1) y1 y2 y3 y4 w4 from by unfold c111_104; rw [rbd_th e5]).trans q0, q1, A_, K_, cX.trans cX.rfl q2, q3⟩
  · rintro S1 ⟨q1, q2⟩
    have hn := cov_none q1
    exact ⟨_, none, (by unfold c111_104; rw [rbd_thn hn]), rfl, A, K, cX.rfl, q2⟩
def c111_102 (rc : cRC) (s : cS) (y1 : Int32) (y2 : Int32) (y3 : Int32) (z0 : Int32) : Option (cS × Option Int32) := c111_104 rc s y1 y2 y3 z0
theorem lc111_102 {sc : Nat × (Nat → Int32)} {N d : Nat} {A : Nat → Nat} {K : Nat} {S : am_S} {rc : cRC} {s : cS} {y1 : Int32} {y2 : Int32} {y3 : Int32} {z0 : Int32} {o4 : Option Value} (hr : RCH sc rc N) (hS : CM A K S s) : am_L (am_PP sc) N d 111 102 [some (.ref 7), some (.int y1), some (.int y2), some (.int y3), o4] [.int z0] S (fun o S1 => ∃ s1 w, c111_102 rc s y1 y2 y3 z0 = some (s1, w) ∧ o = cow w ∧ CX A K S1 s1) := by
  refine l3 (ls' := [some (.ref 7), some (.int y1), some (.int y2), some (.int y3), some (.int z0)]) hi_111_102 (Nat.le_of_ble_eq_true rfl) rfl ?_
  refine am_L.mono (lc111_104 hr hS ) ?_
  rintro o S1 ⟨s1, w1, q0, q1, A_, K_, q2, q3⟩
  exact ⟨s1, w1, (rfl).trans q0, q1, A_, K_, cX.trans cX.rfl q2, q3⟩
def c111_89 (rc : cRC) (s : cS) (y1 : Int32) (y2 : Int32) (z0 : Int32) : Option (cS × Option Int32) := if (s.f 7 5) = 0 then c111_102 rc s y1 y2 z0 0 else c111_102 rc s y1 y2 z0 1
theorem lc111_89 {sc : Nat × (Nat → Int32)} {N d : Nat} {A : Nat → Nat} {K : Nat} {S : am_S} {rc : cRC} {s : cS} {y1 : Int32} {y2 : Int32} {z0 : Int32} {o3 : Option Value} {o4 : Option Value} (hr : RCH sc rc N) (hS : CM A K S s) : am_L (am_PP sc) N d 111 89 [some (.ref 7), some (.int y1), some (.int y2), o3, o4] [.int z0] S (fun o S1 => ∃ s1 w, c111_89 rc s y1 y2 z0 = some (s1, w) ∧ o = cow w ∧ CX A K S1 s1) := by
  refine l3 (ls' := [some (.ref 7), some (.int y1), some (.int y2), some (.int z0), o4]) hi_111_89 (Nat.le_of_ble_eq_true rfl) rfl ?_
  refine l2 (v := 7) hi_111_90 rfl ?_
  refine l20s (v := .int (s.f 7 5)) hS cs_7 hi_111_91 rfl ?_
  by_cases cn1 : (s.f 7 5) = 0
  · refine l12t hi_111_94 (decide_eq_true cn1) ?_
    refine l0 hi_111_101 ?_
    refine am_L.mono (lc111_102 hr hS ) ?_
    rintro o S1 ⟨s1, w1, q0, q1, A_, K_, q2, q3⟩
    exact ⟨s1, w1, (show c111_89 rc s y1 y2 z0 = c111_102 rc s y1 y2 z0 0 from by unfold c111_89; rw [if_pos cn1]).trans q0, q1, A_, K_, cX.trans cX.rfl q2, q3⟩
  · refine l12f hi_111_94 (decide_eq_false cn1) ?_
    refine l0 hi_111_97 ?_
    refine l18 hi_111_98 ?_
    refine am_L.mono (lc111_102 hr hS ) ?_
    rintro o S1 ⟨s1, w1, q0, q1, A_, K_, q2, q3⟩
    exact ⟨s1, w1, (show c111_89 rc s y1 y2 z0 = c111_102 rc s y1 y2 z0 1 from by unfold c111_89; rw [if_neg cn1]).trans q0, q1, A_, K_, cX.trans cX.rfl q2, q3⟩
def c111_70 (rc : cRC) (s : cS) (y1 : Int32) (y2 : Int32) (y4 : Int32) (z0 : Int32) : Option (cS × Option Int32) := if (c53 s) = 61 then c111_104 rc s y1 y2 0 y4 else rbd (rc 112 s 0 0 0 0 0 0 0) (fun s10 w8 => c111_89 rc s10 y1 y2 w8)
theorem lc111_70 {sc : Nat × (Nat → Int32)} {N d : Nat} {A : Nat → Nat} {K : Nat} {S : am_S} {rc : cRC} {s : cS} {y1 : Int32} {y2 : Int32} {y4 : Int32} {z0 : Int32} {o3 : Option Value} (hr : RCH sc rc N) (hS : CM A K S s) : am_L (am_PP sc) N d 111 70 [some (.ref 7), some (.int y1), some (.int y2), o3, some (.int y4)] [.int z0] S (fun o S1 => ∃ s1 w, c111_70 rc s y1 y2 y4 z0 = some (s1, w) ∧ o = cow w ∧ CX A K S1 s1) := by
  refine l6i hi_111_70 ?_
  refine l0 hi_111_71 ?_
  refine l3 (ls' := [some (.ref 7), some (.int y1), some (.int y2), some (.int 0), some (.int y4)]) hi_111_72 (Nat.le_of_ble_eq_true rfl) rfl ?_
  refine l2 (v := 7) hi_111_73 rfl ?_
  refine l20s (v := .ref 2) hS cs_7 hi_111_74 rfl ?_
  refine l32 (as := [.ref 2]) (la := [some (.ref 2)]) (rest := []) hi_111_77 (am_hd0 (M := 111) (by decide) 77) rfl rfl rfl (fun N' d' _ => lc53 (N := N') (d := d') hS ) ?_ (fun _ q => nomatch q.1)
  rintro v3 S1 ⟨ev3, h2⟩
  cases ev3
  show am_L _ _ _ _ _ [some (.ref 7), some (.int y1), some (.int y2), some (.int 0), some (.int y4)] [.int (c53 s)] _ _
  refine l0 hi_111_80 ?_
  by_cases cn4 : (c53 s) = 61
  · refine l13t hi_111_82 (decide_eq_true cn4) ?_
    refine am_L.mono (lc111_104 hr h2 ) ?_
    rintro o S1 ⟨s1, w1, q0, q1, A_, K_, q2, q3⟩
    exact ⟨s1, w1, (show c111_70 rc s y1 y2 y4 z0 = c111_104 rc s y1 y2 0 y4 from by unfold c111_70; rw [if_pos cn4]).trans q0, q1, A_, K_, cX.trans cX.rfl q2, q3⟩
  · refine l13f hi_111_82 (decide_eq_false cn4) ?_
    refine l2 (v := 7) hi_111_85 rfl ?_
    refine l32 (as := [.ref 7]) (la := [some (.ref 7), none, none, none]) (rest := []) hi_111_86 (am_hd0 (M := 111) (by decide) 86) rfl rfl rfl (fun N' d' hN_ => hr.h112 (N' := N') (d := d') hN_ h2) ?_ ?_
    · rintro v7 S5 ⟨s10, w_, e9, q1, A11, K12, x13, h6⟩
      obtain ⟨w8, rfl, rfl⟩ := cov_some q1
      show am_L _ _ _ _ _ [some (.ref 7), some (.int y1), some (.int y2), some (.int 0), some (.int y4)] [.int w8] _ _
      refine am_L.mono (lc111_89 hr h6 ) ?_
      rintro o S1 ⟨s1, w1, q0, q1, A_, K_, q2, q3⟩
      exact ⟨s1, w1, (show c111_70 rc s y1 y2 y4 z0 = c111_89 rc s10 y1 y2 w8 from by unfold c111_70; rw [if_neg cn4]; rw [rbd_s e9]).trans q0, q1, A_, K_, cX.trans (cX.trans cX.rfl x13) q2, q3⟩
    · rintro S5 ⟨s1, w1, q0, q1, A_, K_, q2, q3⟩
      obtain rfl := cov_none q1
      exact ⟨s1, none, (by unfold c111_70; rw [if_neg cn4]; rw [rbd_n q0]), rfl, A_, K_, cX.trans cX.rfl q2, q3⟩
def c111_58 (rc : cRC) (s : cS) (y1 : Int32) (y2 : Int32) (y3 : Int32) (y4 : Int32) : Option (cS × Option Int32) := c111_114 rc s y1 y2 y3 y4
theorem lc111_58 {sc : Nat × (Nat → Int32)} {N d : Nat} {A : Nat → Nat} {K : Nat} {S : am_S} {rc : cRC} {s : cS} {y1 : Int32} {y2 : Int32} {y3 : Int32} {y4 : Int32} (hr : RCH sc rc N) (hS : CM A K S s) : am_L (am_PP sc) N d 111 58 [some (.ref 7), some (.int y1), some (.int y2), some (.int y3), some (.int y4)] [] S (fun o S1 => ∃ s1 w, c111_58 rc s y1 y2 y3 y4 = some (s1, w) ∧ o = cow w ∧ CX A K S1 s1) := by
  refine l18 hi_111_58 ?_
  refine am_L.mono (lc111_114 hr hS ) ?_
  rintro o S1 ⟨s1, w1, q0, q1, A_, K_, q2, q3⟩
  exact ⟨s1, w1, (rfl).trans q0, q1, A_, K_, cX.trans cX.rfl q2, q3⟩
def c111_38 (rc : cRC) (s : cS) (y1 : Int32) (y2 : Int32) (y3 : Int32) (y4 : Int32) (z0 : Int32) : Option (cS × Option Int32) := c111_114 rc s y1 y2 y3 y4
theorem lc111_38 {sc : Nat × (Nat → Int32)} {N d : Nat} {A : Nat → Nat} {K : Nat} {S : am_S} {rc : cRC} {s : cS} {y1 : Int32} {y2 : Int32} {y3 : Int32} {y4 : Int32} {z0 : Int32} (hr : RCH sc rc N) (hS : CM A K S s) : am_L (am_PP sc) N d 111 38 [some (.ref 7), some (.int y1), some (.int y2), some (.int y3), some (.int y4)] [.int z0] S (fun o S1 => ∃ s1 w, c111_38 rc s y1 y2 y3 y4 z0 = some (s1, w) ∧ o = cow w ∧ CX A K S1 s1) := by
  refine l6i hi_111_38 ?_
  refine l18 hi_111_39 ?_
  refine am_L.mono (lc111_114 hr hS ) ?_
  rintro o S1 ⟨s1, w1, q0, q1, A_, K_, q2, q3⟩
  exact ⟨s1, w1, (rfl).trans q0, q1, A_, K_, cX.trans cX.rfl q2, q3⟩
def c111_33 (rc : cRC) (s : cS) (y1 : Int32) (y2 : Int32) (y3 : Int32) (y4 : Int32) (z0 : Int32) (z1 : Int32) : Option (cS × Option Int32) := c111_38 rc ((c78 s z1 z0 0 0).1) y1 y2 y3 y4 ((c78 s z1 z0 0 0).2)
theorem lc111_33 {sc : Nat × (Nat → Int32)} {N d : Nat} {A : Nat → Nat} {K : Nat} {S : am_S} {rc : cRC} {s : cS} {y1 : Int32} {y2 : Int32} {y3 : Int32} {y4 : Int32} {z0 : Int32} {z1 : Int32} (hr : RCH sc rc N) (hS : CM A K S s) : am_L (am_PP sc) N d 111 33 [some (.ref 7), some (.int y1), some (.int y2), some (.int y3), some (.int y4)] [.int z0, .int z1, .ref 7] S (fun o S1 => ∃ s1 w, c111_33 rc s y1 y2 y3 y4 z0 z1 = some (s1, w) ∧ o = cow w ∧ CX A K S1 s1) := by
  refine l0 hi_111_33 ?_
  refine l0 hi_111_34 ?_
  refine l32 (as := [.ref 7, .int z1, .int z0, .int 0, .int 0]) (la := [some (.ref 7), some (.int z1), some (.int z0), some (.int 0), some (.int 0)]) (rest := []) hi_111_35 (am_hd0 (M := 111) (by decide) 35) rfl rfl rfl (fun N' d' _ => lc78 (N := N') (d := d') hS ) ?_ (fun _ q => nomatch q.1)
  rintro v3 S1 ⟨ev3, h2⟩
  cases ev3
  show am_L _ _ _ _ _ [some (.ref 7), some (.int y1), some (.int y2), some (.int y3), some (.int y4)] [.int ((c78 s z1 z0 0 0).2)] _ _
  refine am_L.mono (lc111_38 hr h2 ) ?_
  rintro o S1 ⟨s1, w1, q0, q1, A_, K_, q2, q3⟩
  exact ⟨s1, w1, (rfl).trans q0, q1, A_, K_, cX.trans cX.rfl q2, q3⟩
def c111 (rc : cRC) (s : cS) (x1 : Int32) : Option (cS × Option Int32) := if (c53 s) ≠ 3 then if (c53 s) ≠ 62 then rbd (some (c64 s 60)) (fun _ w15 => c111_70 rc ((c64 s 60).1) x1 (c63 s) 0 w15) else rbd (rc 91 s 0 0 0 0 0 0 0) (fun s23 w21 => c111_58 rc s23 x1 (c63 s) 1 0) else rbd (some (c55 s)) (fun _ w30 => c111_33 rc ((c55 s).1) x1 (c63 s) 1 0 w30 5)
theorem lc111 {sc : Nat × (Nat → Int32)} {N d : Nat} {A : Nat → Nat} {K : Nat} {S : am_S} {rc : cRC} {s : cS} {x1 : Int32} (hr : RCH sc rc N) (hS : CM A K S s) : am_L (am_PP sc) N d 111 0 [some (.ref 7), some (.int x1), none, none, none] [] S (fun o S1 => ∃ s1 w, c111 rc s x1 = some (s1, w) ∧ o = cow w ∧ CX A K S1 s1) := by
  refine l2 (v := 7) hi_111_0 rfl ?_
  refine l20s (v := .ref 2) hS cs_7 hi_111_1 rfl ?_
  refine l32 (as := [.ref 2]) (la := [some (.ref 2)]) (rest := []) hi_111_4 (am_hd0 (M := 111) (by decide) 4) rfl rfl rfl (fun N' d' _ => lc63 (N := N') (d := d') hS ) ?_ (fun _ q => nomatch q.1)
  rintro v3 S1 ⟨ev3, h2⟩
  cases ev3
  show am_L _ _ _ _ _ [some (.ref 7), some (.int x1), none, none, none] [.int (c63 s)] _ _
  refine l3 (ls' := [some (.ref 7), some (.int x1), some (.int (c63 s)), none, none]) hi_111_7 (Nat.le_of_ble_eq_true rfl) rfl ?_
  refine l0 hi_111_8 ?_
  refine l3 (ls' := [some (.ref 7), some (.int x1), some (.int (c63 s)), some (.int 1), none]) hi_111_9 (Nat.le_of_ble_eq_true rfl) rfl ?_
  refine l0 hi_111_10 ?_
  refine l3 (ls' := [some (.ref 7), some (.int x1), some (.int (c63 s)), some (.int 1), some (.int 0)]) hi_111_11 (Nat.le_of_ble_eq_true rfl) rfl ?_
  refine l2 (v := 7) hi_111_13 rfl ?_
  refine l20s (v := .ref 2) h2 cs_7 hi_111_14 rfl ?_
  refine l32 (as := [.ref 2]) (la := [some (.ref 2)]) (rest := []) hi_111_17 (am_hd0 (M := 111) (by decide) 17) rfl rfl rfl (fun N' d' _ => lc53 (N := N') (d := d') h2 ) ?_ (fun _ q => nomatch q.1)
  rintro v6 S4 ⟨ev6, h5⟩
  cases ev6
  show am_L _ _ _ _ _ [some (.ref 7), some (.int x1), some (.int (c63 s)), some (.int 1), some (.int 0)] [.int (c53 s)] _ _
  refine l0 hi_111_20 ?_
  by_cases cn7 : (c53 s) ≠ 3
  · refine l13t hi_111_21 (decide_eq_true cn7) ?_
    refine l2 (v := 7) hi_111_42 rfl ?_
    refine l20s (v := .ref 2) h5 cs_7 hi_111_43 rfl ?_
    refine l32 (as := [.ref 2]) (la := [some (.ref 2)]) (rest := []) hi_111_46 (am_hd0 (M := 111) (by decide) 46) rfl rfl rfl (fun N' d' _ => lc53 (N := N') (d := d') h5 ) ?_ (fun _ q => nomatch q.1)
    rintro v10 S8 ⟨ev10, h9⟩
    cases ev10
    show am_L _ _ _ _ _ [some (.ref 7), some (.int x1), some (.int (c63 s)), some (.int 1), some (.int 0)] [.int (c53 s)] _ _
    refine l0 hi_111_49 ?_
    by_cases cn11 : (c53 s) ≠ 62
    · refine l13t hi_111_51 (decide_eq_true cn11) ?_
      refine l2 (v := 7) hi_111_61 rfl ?_
      refine l20s (v := .ref 2) h9 cs_7 hi_111_62 rfl ?_
      refine l0 hi_111_65 ?_
      refine l32 (as := [.ref 2, .int 60]) (la := [some (.ref 2), some (.int 60)]) (rest := []) hi_111_67 (am_hd0 (M := 111) (by decide) 67) rfl rfl rfl (fun N' d' hN_ => lc64 (N := N') (d := d') h9 ) ?_ ?_
      · rintro v14 S12 ⟨ev, h13⟩
        obtain ⟨w15, e16, rfl⟩ := cov_some ev
        show am_L _ _ _ _ _ [some (.ref 7), some (.int x1), some (.int (c63 s)), some (.int 1), some (.int 0)] [.int w15] _ _
        refine am_L.mono (lc111_70 hr h13 ) ?_
        rintro o S1 ⟨s1, w1, q0, q1, A_, K_, q2, q3⟩
        exact ⟨s1, w1, (show c111 rc s x1 = c111_70 rc ((c64 s 60).1) x1 (c63 s) 0 w15 from by unfold c111; rw [if_pos cn7]; rw [if_pos cn11]; rw [rbd_th e16]).trans q0, q1, A_, K_, cX.trans cX.rfl q2, q3⟩
      · rintro S12 ⟨q1, q2⟩
        have hn := cov_none q1
        exact ⟨_, none, (by unfold c111; rw [if_pos cn7]; rw [if_pos cn11]; rw [rbd_thn hn]), rfl, A, K, cX.rfl, q2⟩
    · refine l13f hi_111_51 (decide_eq_false cn11) ?_
      refine l2 (v := 7) hi_111_54 rfl ?_
      refine l32 (as := [.ref 7]) (la := [some (.ref 7), none, none, none]) (rest := []) hi_111_55 (am_hd0 (M := 111) (by decide) 55) rfl rfl rfl (fun N' d' hN_ => hr.h91 (N' := N') (d := d') hN_ h9) ?_ ?_
      · rintro v20 S18 ⟨s23, w_, e22, q1, A24, K25, x26, h19⟩
        obtain ⟨w21, rfl, rfl⟩ := cow_some q1
        show am_L _ _ _ _ _ [some (.ref 7), some (.int x1), some (.int (c63 s)), some (.int 1), some (.int 0)] [] _ _
        refine am_L.mono (lc111_58 hr h19 ) ?_
        rintro o S1 ⟨s1, w1, q0, q1, A_, K_, q2, q3⟩
        exact ⟨s1, w1, (show c111 rc s x1 = c111_58 rc s23 x1 (c63 s) 1 0 from by unfold c111; rw [if_pos cn7]; rw [if_neg cn11]; rw [rbd_s e22]).trans q0, q1, A_, K_, cX.trans (cX.trans cX.rfl x26) q2, q3⟩
      · rintro S18 ⟨s1, w1, q0, q1, A_, K_, q2, q3⟩
        obtain rfl := cow_none q1
        exact ⟨s1, none, (by unfold c111; rw [if_pos cn7]; rw [if_neg cn11]; rw [rbd_n q0]), rfl, A_, K_, cX.trans cX.rfl q2, q3⟩
  · refine l13f hi_111_21 (decide_eq_false cn7) ?_
    refine l2 (v := 7) hi_111_24 rfl ?_
    refine l0 hi_111_25 ?_
    refine l2 (v := 7) hi_111_26 rfl ?_
    refine l20s (v := .ref 2) h5 cs_7 hi_111_27 rfl ?_
    refine l32 (as := [.ref 2]) (la := [some (.ref 2), none]) (rest := [.int 5, .ref 7]) hi_111_30 (am_hd0 (M := 111) (by decide) 30) rfl rfl rfl (fun N' d' hN_ => lc55 (N := N') (d := d') h5 ) ?_ ?_
    · rintro v29 S27 ⟨ev, h28⟩
      obtain ⟨w30, e31, rfl⟩ := cov_some ev
      show am_L _ _ _ _ _ [some (.ref 7), some (.int x1), some (.int (c63 s)), some (.int 1), some (.int 0)] [.int w30, .int 5, .ref 7] _ _
      refine am_L.mono (lc111_33 hr h28 ) ?_
      rintro o S1 ⟨s1, w1, q0, q1, A_, K_, q2, q3⟩
      exact ⟨s1, w1, (show c111 rc s x1 = c111_33 rc ((c55 s).1) x1 (c63 s) 1 0 w30 5 from by unfold c111; rw [if_neg cn7]; rw [rbd_th e31]).trans q0, q1, A_, K_, cX.trans cX.rfl q2, q3⟩
    · rintro S27 ⟨q1, q2⟩
      have hn := cov_none q1
      exact ⟨_, none, (by unfold c111; rw [if_neg cn7]; rw [rbd_thn hn]), rfl, A, K, cX.rfl, q2⟩
def c60_195 (rc : cRC) (s : cS) (y1 : Int32) (y2 : Int32) : Option (cS × Option Int32) := rc 60007 s 0 y1 (y2 + 1) 0 0 0 0
theorem lc60_195 {sc : Nat × (Nat → Int32)} {N d : Nat} {A : Nat → Nat} {K : Nat} {S : am_S} {rc : cRC} {s : cS} {y1 : Int32} {y2 : Int32} {o3 : Option Value} (hr : RCH sc rc (N + 1)) (hS : CM A K S s) : am_L (am_PP sc) N d 60 195 [some (.ref 7), some (.int y1), some (.int y2), o3] [] S (fun o S1 => ∃ s1 w, c60_195 rc s y1 y2 = some (s1, w) ∧ o = cov w ∧ CX A K S1 s1) := by
  refine l5 (v := y2) (ls' := [some (.ref 7), some (.int y1), some (.int (y2 + 1)), o3]) hi_60_195 rfl rfl ?_
  refine l18 hi_60_198 ?_
  refine am_L.mono (hr.h60007 (N' := N) (o3 := o3) (Nat.lt_succ_self _) hS) ?_
  rintro o S1 ⟨s1, w1, q0, q1, A_, K_, q2, q3⟩
  exact ⟨s1, w1, (show c60_195 rc s y1 y2 = rc 60007 s 0 y1 (y2 + 1) 0 0 0 0 from rfl).trans q0, q1, A_, K_, cX.trans cX.rfl q2, q3⟩
def c60_188 (rc : cRC) (s : cS) (y2 : Int32) : Option (cS × Option Int32) := c60_195 rc s 4 y2
theorem lc60_188 {sc : Nat × (Nat → Int32)} {N d : Nat} {A : Nat → Nat} {K : Nat} {S : am_S} {rc : cRC} {s : cS} {y2 : Int32} {o1 : Option Value} {o3 : Option Value} (hr : RCH sc rc (N + 1)) (hS : CM A K S s) : am_L (am_PP sc) N d 60 188 [some (.ref 7), o1, some (.int y2), o3] [] S (fun o S1 => ∃ s1 w, c60_188 rc s y2 = some (s1, w) ∧ o = cov w ∧ CX A K S1 s1) := by
  refine l0 hi_60_188 ?_
  refine l3 (ls' := [some (.ref 7), some (.int 4), some (.int y2), o3]) hi_60_189 (Nat.le_of_ble_eq_true rfl) rfl ?_
  refine l18 hi_60_190 ?_
  refine am_L.mono (lc60_195 hr hS ) ?_
  rintro o S1 ⟨s1, w1, q0, q1, A_, K_, q2, q3⟩
  exact ⟨s1, w1, (rfl).trans q0, q1, A_, K_, cX.trans cX.rfl q2, q3⟩
def c60_183 (rc : cRC) (s : cS) (y2 : Int32) : Option (cS × Option Int32) := rbd (rc 111 s 0 0 0 0 0 0 0) (fun s6 w4 => c60_188 rc s6 y2)
theorem lc60_183 {sc : Nat × (Nat → Int32)} {N d : Nat} {A : Nat → Nat} {K : Nat} {S : am_S} {rc : cRC} {s : cS} {y2 : Int32} {o1 : Option Value} {o3 : Option Value} (hr : RCH sc rc (N + 1)) (hS : CM A K S s) : am_L (am_PP sc) N d 60 183 [some (.ref 7), o1, some (.int y2), o3] [] S (fun o S1 => ∃ s1 w, c60_183 rc s y2 = some (s1, w) ∧ o = cov w ∧ CX A K S1 s1) := by
  refine l2 (v := 7) hi_60_183 rfl ?_
  refine l0 hi_60_184 ?_
  refine l32 (as := [.ref 7, .int 0]) (la := [some (.ref 7), some (.int 0), none, none, none]) (rest := []) hi_60_185 (am_hd0 (M := 60) (by decide) 185) rfl rfl rfl (fun N' d' hN_ => hr.h111 (N' := N') (d := d') (Nat.lt_succ_of_lt hN_) hS) ?_ ?_
  · rintro v3 S1 ⟨s6, w_, e5, q1, A7, K8, x9, h2⟩
    obtain ⟨w4, rfl, rfl⟩ := cow_some q1
    show am_L _ _ _ _ _ [some (.ref 7), o1, some (.int y2), o3] [] _ _
    refine am_L.mono (lc60_188 hr h2 ) ?_
    rintro o S1 ⟨s1, w1, q0, q1, A_, K_, q2, q3⟩
    exact ⟨s1, w1, (show c60_183 rc s y2 = c60_188 rc s6 y2 from by unfold c60_183; rw [rbd_s e5]).trans q0, q1, A_, K_, cX.trans (cX.trans cX.rfl x9) q2, q3⟩
  · rintro S1 ⟨s1, w1, q0, q1, A_, K_, q2, q3⟩
    obtain rfl := cow_none q1
    exact ⟨s1, none, (by unfold c60_183; rw [rbd_n q0]), rfl, A_, K_, cX.trans cX.rfl q2, q3⟩
def c60_127 (rc : cRC) (s : cS) (y2 : Int32) (y3 : Int32) (z0 : Int32) : Option (cS × Option Int32) := c60_195 rc (nf s 7 6 y3) 3 y2
theorem lc60_127 {sc : Nat × (Nat → Int32)} {N d : Nat} {A : Nat → Nat} {K : Nat} {S : am_S} {rc : cRC} {s : cS} {y2 : Int32} {y3 : Int32} {z0 : Int32} {o1 : Option Value} (hr : RCH sc rc (N + 1)) (hS : CM A K S s) : am_L (am_PP sc) N d 60 127 [some (.ref 7), o1, some (.int y2), some (.int y3)] [.int z0] S (fun o S1 => ∃ s1 w, c60_127 rc s y2 y3 z0 = some (s1, w) ∧ o = cov w ∧ CX A K S1 s1) := by
  refine l6i hi_60_127 ?_
  refine l2 (v := 7) hi_60_128 rfl ?_
  refine l1 (v := y3) hi_60_129 rfl ?_
  refine l21s hS cs_7 hi_60_130 (fun _ _ => rfl) fun S1 h2 => ?_
  refine l0 hi_60_133 ?_
  refine l3 (ls' := [some (.ref 7), some (.int 3), some (.int y2), some (.int y3)]) hi_60_134 (Nat.le_of_ble_eq_true rfl) rfl ?_
  refine l18 hi_60_135 ?_
  refine am_L.mono (lc60_195 hr h2 ) ?_
  rintro o S1 ⟨s1, w1, q0, q1, A_, K_, q2, q3⟩
  exact ⟨s1, w1, (rfl).trans q0, q1, A_, K_, cX.trans cX.rfl q2, q3⟩
def c60_118 (rc : cRC) (s : cS) (y2 : Int32) (y3 : Int32) : Option (cS × Option Int32) := rbd (some (c64 s 65)) (fun _ w4 => c60_127 rc ((c64 s 65).1) y2 y3 w4)
theorem lc60_118 {sc : Nat × (Nat → Int32)} {N d : Nat} {A : Nat → Nat} {K : Nat} {S : am_S} {rc : cRC} {s : cS} {y2 : Int32} {y3 : Int32} {o1 : Option Value} (hr : RCH sc rc (N + 1)) (hS : CM A K S s) : am_L (am_PP sc) N d 60 118 [some (.ref 7), o1, some (.int y2), some (.int y3)] [] S (fun o S1 => ∃ s1 w, c60_118 rc s y2 y3 = some (s1, w) ∧ o = cov w ∧ CX A K S1 s1) := by
  refine l2 (v := 7) hi_60_118 rfl ?_
  refine l20s (v := .ref 2) hS cs_7 hi_60_119 rfl ?_
  refine l0 hi_60_122 ?_
  refine l32 (as := [.ref 2, .int 65]) (la := [some (.ref 2), some (.int 65)]) (rest := []) hi_60_124 (am_hd0 (M := 60) (by decide) 124) rfl rfl rfl (fun N' d' hN_ => lc64 (N := N') (d := d') hS ) ?_ ?_
  · rintro v3 S1 ⟨ev, h2⟩
    obtain ⟨w4, e5, rfl⟩ := cov_some ev
    show am_L _ _ _ _ _ [some (.ref 7), o1, some (.int y2), some (.int y3)] [.int w4] _ _
    refine am_L.mono (lc60_127 hr h2 ) ?_
    rintro o S1 ⟨s1, w1, q0, q1, A_, K_, q2, q3⟩
    exact ⟨s1, w1, (show c60_118 rc s y2 y3 = c60_127 rc ((c64 s 65).1) y2 y3 w4 from by unfold c60_118; rw [rbd_th e5]).trans q0, q1, A_, K_, cX.trans cX.rfl q2, q3⟩
  · rintro S1 ⟨q1, q2⟩
    have hn := cov_none q1
    exact ⟨_, none, (by unfold c60_118; rw [rbd_thn hn]), rfl, A, K, cX.rfl, q2⟩
def c60_113 (rc : cRC) (s : cS) (y2 : Int32) (y3 : Int32) (z0 : Int32) : Option (cS × Option Int32) := rbd (rc 70 s 0 0 0 0 0 0 0) (fun s6 w4 => c60_118 rc s6 y2 y3)
theorem lc60_113 {sc : Nat × (Nat → Int32)} {N d : Nat} {A : Nat → Nat} {K : Nat} {S : am_S} {rc : cRC} {s : cS} {y2 : Int32} {y3 : Int32} {z0 : Int32} {o1 : Option Value} (hr : RCH sc rc (N + 1)) (hS : CM A K S s) : am_L (am_PP sc) N d 60 113 [some (.ref 7), o1, some (.int y2), some (.int y3)] [.int z0] S (fun o S1 => ∃ s1 w, c60_113 rc s y2 y3 z0 = some (s1, w) ∧ o = cov w ∧ CX A K S1 s1) := by
  refine l6i hi_60_113 ?_
  refine l2 (v := 7) hi_60_114 rfl ?_
  refine l32 (as := [.ref 7]) (la := [some (.ref 7), none, none, none, none, none]) (rest := []) hi_60_115 (am_hd0 (M := 60) (by decide) 115) rfl rfl rfl (fun N' d' hN_ => hr.h70 (N' := N') (d := d') (Nat.lt_succ_of_lt hN_) hS) ?_ ?_
  · rintro v3 S1 ⟨s6, w_, e5, q1, A7, K8, x9, h2⟩
    obtain ⟨w4, rfl, rfl⟩ := cow_some q1
    show am_L _ _ _ _ _ [some (.ref 7), o1, some (.int y2), some (.int y3)] [] _ _
    refine am_L.mono (lc60_118 hr h2 ) ?_
    rintro o S1 ⟨s1, w1, q0, q1, A_, K_, q2, q3⟩
    exact ⟨s1, w1, (show c60_113 rc s y2 y3 z0 = c60_118 rc s6 y2 y3 from by unfold c60_113; rw [rbd_s e5]).trans q0, q1, A_, K_, cX.trans (cX.trans cX.rfl x9) q2, q3⟩
  · rintro S1 ⟨s1, w1, q0, q1, A_, K_, q2, q3⟩
    obtain rfl := cow_none q1
    exact ⟨s1, none, (by unfold c60_113; rw [rbd_n q0]), rfl, A_, K_, cX.trans cX.rfl q2, q3⟩
def c60_106 (rc : cRC) (s : cS) (y2 : Int32) (y3 : Int32) : Option (cS × Option Int32) := rbd (some (c55 s)) (fun _ w4 => c60_113 rc ((c55 s).1) y2 y3 w4)
theorem lc60_106 {sc : Nat × (Nat → Int32)} {N d : Nat} {A : Nat → Nat} {K : Nat} {S : am_S} {rc : cRC} {s : cS} {y2 : Int32} {y3 : Int32} {o1 : Option Value} (hr : RCH sc rc (N + 1)) (hS : CM A K S s) : am_L (am_PP sc) N d 60 106 [some (.ref 7), o1, some (.int y2), some (.int y3)] [] S (fun o S1 => ∃ s1 w, c60_106 rc s y2 y3 = some (s1, w) ∧ o = cov w ∧ CX A K S1 s1) := by
  refine l2 (v := 7) hi_60_106 rfl ?_
  refine l20s (v := .ref 2) hS cs_7 hi_60_107 rfl ?_
  refine l32 (as := [.ref 2]) (la := [some (.ref 2), none]) (rest := []) hi_60_110 (am_hd0 (M := 60) (by decide) 110) rfl rfl rfl (fun N' d' hN_ => lc55 (N := N') (d := d') hS ) ?_ ?_
  · rintro v3 S1 ⟨ev, h2⟩
    obtain ⟨w4, e5, rfl⟩ := cov_some ev
    show am_L _ _ _ _ _ [some (.ref 7), o1, some (.int y2), some (.int y3)] [.int w4] _ _
    refine am_L.mono (lc60_113 hr h2 ) ?_
    rintro o S1 ⟨s1, w1, q0, q1, A_, K_, q2, q3⟩
    exact ⟨s1, w1, (show c60_106 rc s y2 y3 = c60_113 rc ((c55 s).1) y2 y3 w4 from by unfold c60_106; rw [rbd_th e5]).trans q0, q1, A_, K_, cX.trans cX.rfl q2, q3⟩
  · rintro S1 ⟨q1, q2⟩
    have hn := cov_none q1
    exact ⟨_, none, (by unfold c60_106; rw [rbd_thn hn]), rfl, A, K, cX.rfl, q2⟩
def c60_173 (rc : cRC) (s : cS) (y2 : Int32) : Option (cS × Option Int32) := c60_195 rc s 4 y2
theorem lc60_173 {sc : Nat × (Nat → Int32)} {N d : Nat} {A : Nat → Nat} {K : Nat} {S : am_S} {rc : cRC} {s : cS} {y2 : Int32} {o1 : Option Value} {o3 : Option Value} (hr : RCH sc rc (N + 1)) (hS : CM A K S s) : am_L (am_PP sc) N d 60 173 [some (.ref 7), o1, some (.int y2), o3] [] S (fun o S1 => ∃ s1 w, c60_173 rc s y2 = some (s1, w) ∧ o = cov w ∧ CX A K S1 s1) := by
  refine l0 hi_60_173 ?_
  refine l3 (ls' := [some (.ref 7), some (.int 4), some (.int y2), o3]) hi_60_174 (Nat.le_of_ble_eq_true rfl) rfl ?_
  refine l18 hi_60_175 ?_
  refine am_L.mono (lc60_195 hr hS ) ?_
  rintro o S1 ⟨s1, w1, q0, q1, A_, K_, q2, q3⟩
  exact ⟨s1, w1, (rfl).trans q0, q1, A_, K_, cX.trans cX.rfl q2, q3⟩
def c60_167 (rc : cRC) (s : cS) (y2 : Int32) (z0 : Int32) : Option (cS × Option Int32) := rbd (rc 111 s 0 1 0 0 0 0 0) (fun s6 w4 => c60_173 rc s6 y2)
theorem lc60_167 {sc : Nat × (Nat → Int32)} {N d : Nat} {A : Nat → Nat} {K : Nat} {S : am_S} {rc : cRC} {s : cS} {y2 : Int32} {z0 : Int32} {o1 : Option Value} {o3 : Option Value} (hr : RCH sc rc (N + 1)) (hS : CM A K S s) : am_L (am_PP sc) N d 60 167 [some (.ref 7), o1, some (.int y2), o3] [.int z0] S (fun o S1 => ∃ s1 w, c60_167 rc s y2 z0 = some (s1, w) ∧ o = cov w ∧ CX A K S1 s1) := by
  refine l6i hi_60_167 ?_
  refine l2 (v := 7) hi_60_168 rfl ?_
  refine l0 hi_60_169 ?_
  refine l32 (as := [.ref 7, .int 1]) (la := [some (.ref 7), some (.int 1), none, none, none]) (rest := []) hi_60_170 (am_hd0 (M := 60) (by decide) 170) rfl rfl rfl (fun N' d' hN_ => hr.h111 (N' := N') (d := d') (Nat.lt_succ_of_lt hN_) hS) ?_ ?_
  · rintro v3 S1 ⟨s6, w_, e5, q1, A7, K8, x9, h2⟩
    obtain ⟨w4, rfl, rfl⟩ := cow_some q1
    show am_L _ _ _ _ _ [some (.ref 7), o1, some (.int y2), o3] [] _ _
    refine am_L.mono (lc60_173 hr h2 ) ?_
    rintro o S1 ⟨s1, w1, q0, q1, A_, K_, q2, q3⟩
    exact ⟨s1, w1, (show c60_167 rc s y2 z0 = c60_173 rc s6 y2 from by unfold c60_167; rw [rbd_s e5]).trans q0, q1, A_, K_, cX.trans (cX.trans cX.rfl x9) q2, q3⟩
  · rintro S1 ⟨s1, w1, q0, q1, A_, K_, q2, q3⟩
    obtain rfl := cow_none q1
    exact ⟨s1, none, (by unfold c60_167; rw [rbd_n q0]), rfl, A_, K_, cX.trans cX.rfl q2, q3⟩
def c60_162 (rc : cRC) (s : cS) (y2 : Int32) (y3 : Int32) (z0 : Int32) (z1 : Int32) : Option (cS × Option Int32) := c60_167 rc ((c78 s z1 z0 0 y3).1) y2 ((c78 s z1 z0 0 y3).2)
theorem lc60_162 {sc : Nat × (Nat → Int32)} {N d : Nat} {A : Nat → Nat} {K : Nat} {S : am_S} {rc : cRC} {s : cS} {y2 : Int32} {y3 : Int32} {z0 : Int32} {z1 : Int32} {o1 : Option Value} (hr : RCH sc rc (N + 1)) (hS : CM A K S s) : am_L (am_PP sc) N d 60 162 [some (.ref 7), o1, some (.int y2), some (.int y3)] [.int z0, .int z1, .ref 7] S (fun o S1 => ∃ s1 w, c60_162 rc s y2 y3 z0 z1 = some (s1, w) ∧ o = cov w ∧ CX A K S1 s1) := by
  refine l0 hi_60_162 ?_
  refine l1 (v := y3) hi_60_163 rfl ?_
  refine l32 (as := [.ref 7, .int z1, .int z0, .int 0, .int y3]) (la := [some (.ref 7), some (.int z1), some (.int z0), some (.int 0), some (.int y3)]) (rest := []) hi_60_164 (am_hd0 (M := 60) (by decide) 164) rfl rfl rfl (fun N' d' _ => lc78 (N := N') (d := d') hS ) ?_ (fun _ q => nomatch q.1)
  rintro v3 S1 ⟨ev3, h2⟩
  cases ev3
  show am_L _ _ _ _ _ [some (.ref 7), o1, some (.int y2), some (.int y3)] [.int ((c78 s z1 z0 0 y3).2)] _ _
  refine am_L.mono (lc60_167 hr h2 ) ?_
  rintro o S1 ⟨s1, w1, q0, q1, A_, K_, q2, q3⟩
  exact ⟨s1, w1, (rfl).trans q0, q1, A_, K_, cX.trans cX.rfl q2, q3⟩
def c60_150 (rc : cRC) (s : cS) (y2 : Int32) (y3 : Int32) (z0 : Int32) : Option (cS × Option Int32) := rbd (some (c64 s 1)) (fun _ w4 => c60_162 rc ((c64 s 1).1) y2 y3 w4 14)
theorem lc60_150 {sc : Nat × (Nat → Int32)} {N d : Nat} {A : Nat → Nat} {K : Nat} {S : am_S} {rc : cRC} {s : cS} {y2 : Int32} {y3 : Int32} {z0 : Int32} {o1 : Option Value} (hr : RCH sc rc (N + 1)) (hS : CM A K S s) : am_L (am_PP sc) N d 60 150 [some (.ref 7), o1, some (.int y2), some (.int y3)] [.int z0] S (fun o S1 => ∃ s1 w, c60_150 rc s y2 y3 z0 = some (s1, w) ∧ o = cov w ∧ CX A K S1 s1) := by
  refine l6i hi_60_150 ?_
  refine l2 (v := 7) hi_60_151 rfl ?_
  refine l0 hi_60_152 ?_
  refine l2 (v := 7) hi_60_154 rfl ?_
  refine l20s (v := .ref 2) hS cs_7 hi_60_155 rfl ?_
  refine l0 hi_60_158 ?_
  refine l32 (as := [.ref 2, .int 1]) (la := [some (.ref 2), some (.int 1)]) (rest := [.int 14, .ref 7]) hi_60_159 (am_hd0 (M := 60) (by decide) 159) rfl rfl rfl (fun N' d' hN_ => lc64 (N := N') (d := d') hS ) ?_ ?_
  · rintro v3 S1 ⟨ev, h2⟩
    obtain ⟨w4, e5, rfl⟩ := cov_some ev
    show am_L _ _ _ _ _ [some (.ref 7), o1, some (.int y2), some (.int y3)] [.int w4, .int 14, .ref 7] _ _
    refine am_L.mono (lc60_162 hr h2 ) ?_
    rintro o S1 ⟨s1, w1, q0, q1, A_, K_, q2, q3⟩
    exact ⟨s1, w1, (show c60_150 rc s y2 y3 z0 = c60_162 rc ((c64 s 1).1) y2 y3 w4 14 from by unfold c60_150; rw [rbd_th e5]).trans q0, q1, A_, K_, cX.trans cX.rfl q2, q3⟩
  · rintro S1 ⟨q1, q2⟩
    have hn := cov_none q1
    exact ⟨_, none, (by unfold c60_150; rw [rbd_thn hn]), rfl, A, K, cX.rfl, q2⟩
def c60_143 (rc : cRC) (s : cS) (y2 : Int32) (y3 : Int32) : Option (cS × Option Int32) := rbd (some (c55 s)) (fun _ w4 => c60_150 rc ((c55 s).1) y2 y3 w4)
theorem lc60_143 {sc : Nat × (Nat → Int32)} {N d : Nat} {A : Nat → Nat} {K : Nat} {S : am_S} {rc : cRC} {s : cS} {y2 : Int32} {y3 : Int32} {o1 : Option Value} (hr : RCH sc rc (N + 1)) (hS : CM A K S s) : am_L (am_PP sc) N d 60 143 [some (.ref 7), o1, some (.int y2), some (.int y3)] [] S (fun o S1 => ∃ s1 w, c60_143 rc s y2 y3 = some (s1, w) ∧ o = cov w ∧ CX A K S1 s1) := by
  refine l2 (v := 7) hi_60_143 rfl ?_
  refine l20s (v := .ref 2) hS cs_7 hi_60_144 rfl ?_
  refine l32 (as := [.ref 2]) (la := [some (.ref 2), none]) (rest := []) hi_60_147 (am_hd0 (M := 60) (by decide) 147) rfl rfl rfl (fun N' d' hN_ => lc55 (N := N') (d := d') hS ) ?_ ?_
  · rintro v3 S1 ⟨ev, h2⟩
    obtain ⟨w4, e5, rfl⟩ := cov_some ev
    show am_L _ _ _ _ _ [some (.ref 7), o1, some (.int y2), some (.int y3)] [.int w4] _ _
    refine am_L.mono (lc60_150 hr h2 ) ?_
    rintro o S1 ⟨s1, w1, q0, q1, A_, K_, q2, q3⟩
    exact ⟨s1, w1, (show c60_143 rc s y2 y3 = c60_150 rc ((c55 s).1) y2 y3 w4 from by unfold c60_143; rw [rbd_th e5]).trans q0, q1, A_, K_, cX.trans cX.rfl q2, q3⟩
  · rintro S1 ⟨q1, q2⟩
    have hn := cov_none q1
    exact ⟨_, none, (by unfold c60_143; rw [rbd_thn hn]), rfl, A, K, cX.rfl, q2⟩
def c60_97 (rc : cRC) (s : cS) (y2 : Int32) (z0 : Int32) : Option (cS × Option Int32) := c60_195 rc s z0 y2
theorem lc60_97 {sc : Nat × (Nat → Int32)} {N d : Nat} {A : Nat → Nat} {K : Nat} {S : am_S} {rc : cRC} {s : cS} {y2 : Int32} {z0 : Int32} {o1 : Option Value} {o3 : Option Value} (hr : RCH sc rc (N + 1)) (hS : CM A K S s) : am_L (am_PP sc) N d 60 97 [some (.ref 7), o1, some (.int y2), o3] [.int z0] S (fun o S1 => ∃ s1 w, c60_97 rc s y2 z0 = some (s1, w) ∧ o = cov w ∧ CX A K S1 s1) := by
  refine l3 (ls' := [some (.ref 7), some (.int z0), some (.int y2), o3]) hi_60_97 (Nat.le_of_ble_eq_true rfl) rfl ?_
  refine l18 hi_60_98 ?_
  refine am_L.mono (lc60_195 hr hS ) ?_
  rintro o S1 ⟨s1, w1, q0, q1, A_, K_, q2, q3⟩
  exact ⟨s1, w1, (rfl).trans q0, q1, A_, K_, cX.trans cX.rfl q2, q3⟩
def c60_93 (rc : cRC) (s : cS) (y2 : Int32) : Option (cS × Option Int32) := rbd (some (c110 s)) (fun _ w4 => c60_97 rc ((c110 s).1) y2 w4)
theorem lc60_93 {sc : Nat × (Nat → Int32)} {N d : Nat} {A : Nat → Nat} {K : Nat} {S : am_S} {rc : cRC} {s : cS} {y2 : Int32} {o1 : Option Value} {o3 : Option Value} (hr : RCH sc rc (N + 1)) (hS : CM A K S s) : am_L (am_PP sc) N d 60 93 [some (.ref 7), o1, some (.int y2), o3] [] S (fun o S1 => ∃ s1 w, c60_93 rc s y2 = some (s1, w) ∧ o = cov w ∧ CX A K S1 s1) := by
  refine l2 (v := 7) hi_60_93 rfl ?_
  refine l32 (as := [.ref 7]) (la := [some (.ref 7), none]) (rest := []) hi_60_94 (am_hd0 (M := 60) (by decide) 94) rfl rfl rfl (fun N' d' hN_ => lc110 (N := N') (d := d') hS ) ?_ ?_
  · rintro v3 S1 ⟨ev, h2⟩
    obtain ⟨w4, e5, rfl⟩ := cov_some ev
    show am_L _ _ _ _ _ [some (.ref 7), o1, some (.int y2), o3] [.int w4] _ _
    refine am_L.mono (lc60_97 hr h2 ) ?_
    rintro o S1 ⟨s1, w1, q0, q1, A_, K_, q2, q3⟩
    exact ⟨s1, w1, (show c60_93 rc s y2 = c60_97 rc ((c110 s).1) y2 w4 from by unfold c60_93; rw [rbd_th e5]).trans q0, q1, A_, K_, cX.trans cX.rfl q2, q3⟩
  · rintro S1 ⟨q1, q2⟩
    have hn := cov_none q1
    exact ⟨_, none, (by unfold c60_93; rw [rbd_thn hn]), rfl, A, K, cX.rfl, q2⟩
def c60_7 (rc : cRC) (s : cS) (y1 : Int32) (y2 : Int32) : Option (cS × Option Int32) := if 16384 < y2 then some (s, some y1) else if (c53 s) = 3 then (c60_183 rc ((c100 s y1).1) y2) else if (c53 s) = 60 then (c60_183 rc ((c100 s y1).1) y2) else if (c53 s) = 62 then (c60_183 rc ((c100 s y1).1) y2) else if (c53 s) = 64 then (c60_106 rc ((c100 s y1).1) y2 (c63 s)) else if (c53 s) = 68 then (c60_143 rc ((c100 s y1).1) y2 (c63 s)) else if (c53 s) = 70 then (c60_93 rc ((c100 s y1).1) y2) else some (s, some y1)
theorem lc60_7 {sc : Nat × (Nat → Int32)} {N d : Nat} {A : Nat → Nat} {K : Nat} {S : am_S} {rc : cRC} {s : cS} {y1 : Int32} {y2 : Int32} {o3 : Option Value} (hr : RCH sc rc N) (hS : CM A K S s) : am_L (am_PP sc) N d 60 7 [some (.ref 7), some (.int y1), some (.int y2), o3] [] S (fun o S1 => ∃ s1 w, c60_7 rc s y1 y2 = some (s1, w) ∧ o = cov w ∧ CX A K S1 s1) := by
  cases N with
  | zero => exact l_zero
  | succ N =>
    refine l1d (v := y2) hi_60_7 rfl ?_
    refine l0 hi_60_8 ?_
    by_cases cn1 : 16384 < y2
    · refine l13t hi_60_11 (decide_eq_true cn1) ?_
      refine l1 (v := y1) hi_60_201 rfl ?_
      exact l33 hi_60_202 ⟨s, some y1, (by unfold c60_7; rw [if_pos cn1]), rfl, A, K, cX.rfl, hS⟩
    · refine l13f hi_60_11 (decide_eq_false cn1) ?_
      refine l2 (v := 7) hi_60_14 rfl ?_
      refine l20s (v := .ref 2) hS cs_7 hi_60_15 rfl ?_
      refine l32 (as := [.ref 2]) (la := [some (.ref 2)]) (rest := []) hi_60_18 (am_hd0 (M := 60) (by decide) 18) rfl rfl rfl (fun N' d' _ => lc63 (N := N') (d := d') hS ) ?_ (fun _ q => nomatch q.1)
      rintro v4 S2 ⟨ev4, h3⟩
      cases ev4
      show am_L _ _ _ _ _ [some (.ref 7), some (.int y1), some (.int y2), o3] [.int (c63 s)] _ _
      refine l3 (ls' := [some (.ref 7), some (.int y1), some (.int y2), some (.int (c63 s))]) hi_60_21 (Nat.le_of_ble_eq_true rfl) rfl ?_
      refine l2 (v := 7) hi_60_22 rfl ?_
      refine l20s (v := .ref 2) h3 cs_7 hi_60_23 rfl ?_
      refine l32 (as := [.ref 2]) (la := [some (.ref 2)]) (rest := []) hi_60_26 (am_hd0 (M := 60) (by decide) 26) rfl rfl rfl (fun N' d' _ => lc53 (N := N') (d := d') h3 ) ?_ (fun _ q => nomatch q.1)
      rintro v7 S5 ⟨ev7, h6⟩
      cases ev7
      show am_L _ _ _ _ _ [some (.ref 7), some (.int y1), some (.int y2), some (.int (c63 s))] [.int (c53 s)] _ _
      by_cases cn8 : (c53 s) = 3
      · refine l19 (t := 178) hi_60_29 (by rw [cn8]; decide) ?_
        refine l2 (v := 7) hi_60_178 rfl ?_
        refine l1 (v := y1) hi_60_179 rfl ?_
        refine l32 (as := [.ref 7, .int y1]) (la := [some (.ref 7), some (.int y1)]) (rest := []) hi_60_180 (am_hd0 (M := 60) (by decide) 180) rfl rfl rfl (fun N' d' _ => lc100 (N := N') (d := d') h6 ) ?_ (fun _ q => nomatch q.1)
        rintro v11 S9 ⟨ev11, h10⟩
        cases ev11
        show am_L _ _ _ _ _ [some (.ref 7), some (.int y1), some (.int y2), some (.int (c63 s))] [] _ _
        refine am_L.mono (lc60_183 hr h10 ) ?_
        rintro o S1 ⟨s1, w1, q0, q1, A_, K_, q2, q3⟩
        exact ⟨s1, w1, (show c60_7 rc s y1 y2 = c60_183 rc ((c100 s y1).1) y2 from by unfold c60_7; rw [if_neg cn1]; rw [if_pos cn8]).trans q0, q1, A_, K_, cX.trans cX.rfl q2, q3⟩
      by_cases cn12 : (c53 s) = 60
      · refine l19 (t := 178) hi_60_29 (by rw [cn12]; decide) ?_
        refine l2 (v := 7) hi_60_178 rfl ?_
        refine l1 (v := y1) hi_60_179 rfl ?_
        refine l32 (as := [.ref 7, .int y1]) (la := [some (.ref 7), some (.int y1)]) (rest := []) hi_60_180 (am_hd0 (M := 60) (by decide) 180) rfl rfl rfl (fun N' d' _ => lc100 (N := N') (d := d') h6 ) ?_ (fun _ q => nomatch q.1)
        rintro v15 S13 ⟨ev15, h14⟩
        cases ev15
        show am_L _ _ _ _ _ [some (.ref 7), some (.int y1), some (.int y2), some (.int (c63 s))] [] _ _
        refine am_L.mono (lc60_183 hr h14 ) ?_
        rintro o S1 ⟨s1, w1, q0, q1, A_, K_, q2, q3⟩
        exact ⟨s1, w1, (show c60_7 rc s y1 y2 = c60_183 rc ((c100 s y1).1) y2 from by unfold c60_7; rw [if_neg cn1]; rw [if_neg cn8]; rw [if_pos cn12]).trans q0, q1, A_, K_, cX.trans cX.rfl q2, q3⟩
      by_cases cn16 : (c53 s) = 62
      · refine l19 (t := 178) hi_60_29 (by rw [cn16]; decide) ?_
        refine l2 (v := 7) hi_60_178 rfl ?_
        refine l1 (v := y1) hi_60_179 rfl ?_
        refine l32 (as := [.ref 7, .int y1]) (la := [some (.ref 7), some (.int y1)]) (rest := []) hi_60_180 (am_hd0 (M := 60) (by decide) 180) rfl rfl rfl (fun N' d' _ => lc100 (N := N') (d := d') h6 ) ?_ (fun _ q => nomatch q.1)
        rintro v19 S17 ⟨ev19, h18⟩
        cases ev19
        show am_L _ _ _ _ _ [some (.ref 7), some (.int y1), some (.int y2), some (.int (c63 s))] [] _ _
        refine am_L.mono (lc60_183 hr h18 ) ?_
        rintro o S1 ⟨s1, w1, q0, q1, A_, K_, q2, q3⟩
        exact ⟨s1, w1, (show c60_7 rc s y1 y2 = c60_183 rc ((c100 s y1).1) y2 from by unfold c60_7; rw [if_neg cn1]; rw [if_neg cn8]; rw [if_neg cn12]; rw [if_pos cn16]).trans q0, q1, A_, K_, cX.trans cX.rfl q2, q3⟩
      by_cases cn20 : (c53 s) = 64
      · refine l19 (t := 101) hi_60_29 (by rw [cn20]; decide) ?_
        refine l2 (v := 7) hi_60_101 rfl ?_
        refine l1 (v := y1) hi_60_102 rfl ?_
        refine l32 (as := [.ref 7, .int y1]) (la := [some (.ref 7), some (.int y1)]) (rest := []) hi_60_103 (am_hd0 (M := 60) (by decide) 103) rfl rfl rfl (fun N' d' _ => lc100 (N := N') (d := d') h6 ) ?_ (fun _ q => nomatch q.1)
        rintro v23 S21 ⟨ev23, h22⟩
        cases ev23
        show am_L _ _ _ _ _ [some (.ref 7), some (.int y1), some (.int y2), some (.int (c63 s))] [] _ _
        refine am_L.mono (lc60_106 hr h22 ) ?_
        rintro o S1 ⟨s1, w1, q0, q1, A_, K_, q2, q3⟩
        exact ⟨s1, w1, (show c60_7 rc s y1 y2 = c60_106 rc ((c100 s y1).1) y2 (c63 s) from by unfold c60_7; rw [if_neg cn1]; rw [if_neg cn8]; rw [if_neg cn12]; rw [if_neg cn16]; rw [if_pos cn20]).trans q0, q1, A_, K_, cX.trans cX.rfl q2, q3⟩
      by_cases cn24 : (c53 s) = 68
      · refine l19 (t := 138) hi_60_29 (by rw [cn24]; decide) ?_
        refine l2 (v := 7) hi_60_138 rfl ?_
        refine l1 (v := y1) hi_60_139 rfl ?_
        refine l32 (as := [.ref 7, .int y1]) (la := [some (.ref 7), some (.int y1)]) (rest := []) hi_60_140 (am_hd0 (M := 60) (by decide) 140) rfl rfl rfl (fun N' d' _ => lc100 (N := N') (d := d') h6 ) ?_ (fun _ q => nomatch q.1)
        rintro v27 S25 ⟨ev27, h26⟩
        cases ev27
        show am_L _ _ _ _ _ [some (.ref 7), some (.int y1), some (.int y2), some (.int (c63 s))] [] _ _
        refine am_L.mono (lc60_143 hr h26 ) ?_
        rintro o S1 ⟨s1, w1, q0, q1, A_, K_, q2, q3⟩
        exact ⟨s1, w1, (show c60_7 rc s y1 y2 = c60_143 rc ((c100 s y1).1) y2 (c63 s) from by unfold c60_7; rw [if_neg cn1]; rw [if_neg cn8]; rw [if_neg cn12]; rw [if_neg cn16]; rw [if_neg cn20]; rw [if_pos cn24]).trans q0, q1, A_, K_, cX.trans cX.rfl q2, q3⟩
      by_cases cn28 : (c53 s) = 70
      · refine l19 (t := 88) hi_60_29 (by rw [cn28]; decide) ?_
        refine l2 (v := 7) hi_60_88 rfl ?_
        refine l1 (v := y1) hi_60_89 rfl ?_
        refine l32 (as := [.ref 7, .int y1]) (la := [some (.ref 7), some (.int y1)]) (rest := []) hi_60_90 (am_hd0 (M := 60) (by decide) 90) rfl rfl rfl (fun N' d' _ => lc100 (N := N') (d := d') h6 ) ?_ (fun _ q => nomatch q.1)
        rintro v31 S29 ⟨ev31, h30⟩
        cases ev31
        show am_L _ _ _ _ _ [some (.ref 7), some (.int y1), some (.int y2), some (.int (c63 s))] [] _ _
        refine am_L.mono (lc60_93 hr h30 ) ?_
        rintro o S1 ⟨s1, w1, q0, q1, A_, K_, q2, q3⟩
        exact ⟨s1, w1, (show c60_7 rc s y1 y2 = c60_93 rc ((c100 s y1).1) y2 from by unfold c60_7; rw [if_neg cn1]; rw [if_neg cn8]; rw [if_neg cn12]; rw [if_neg cn16]; rw [if_neg cn20]; rw [if_neg cn24]; rw [if_pos cn28]).trans q0, q1, A_, K_, cX.trans cX.rfl q2, q3⟩
      refine l19 (t := 193) hi_60_29 (sw_not (ks := [3, 60, 62, 64, 68, 70]) (by decide) (by intro k hk; simp only [List.mem_cons, List.not_mem_nil, or_false] at hk; rcases hk with rfl | rfl | rfl | rfl | rfl | rfl <;> first | exact cn8 | exact cn12 | exact cn16 | exact cn20 | exact cn24 | exact cn28)) ?_
      refine l1 (v := y1) hi_60_193 rfl ?_
      exact l33 hi_60_194 ⟨s, some y1, (by unfold c60_7; rw [if_neg cn1]; rw [if_neg cn8]; rw [if_neg cn12]; rw [if_neg cn16]; rw [if_neg cn20]; rw [if_neg cn24]; rw [if_neg cn28]), rfl, A, K, cX.rfl, h6⟩
def c60_4 (rc : cRC) (s : cS) (z0 : Int32) : Option (cS × Option Int32) := c60_7 rc s z0 0
theorem lc60_4 {sc : Nat × (Nat → Int32)} {N d : Nat} {A : Nat → Nat} {K : Nat} {S : am_S} {rc : cRC} {s : cS} {z0 : Int32} {o1 : Option Value} {o2 : Option Value} {o3 : Option Value} (hr : RCH sc rc N) (hS : CM A K S s) : am_L (am_PP sc) N d 60 4 [some (.ref 7), o1, o2, o3] [.int z0] S (fun o S1 => ∃ s1 w, c60_4 rc s z0 = some (s1, w) ∧ o = cov w ∧ CX A K S1 s1) := by
  refine l3 (ls' := [some (.ref 7), some (.int z0), o2, o3]) hi_60_4 (Nat.le_of_ble_eq_true rfl) rfl ?_
  refine l0 hi_60_5 ?_
  refine l3 (ls' := [some (.ref 7), some (.int z0), some (.int 0), o3]) hi_60_6 (Nat.le_of_ble_eq_true rfl) rfl ?_
  refine am_L.mono (lc60_7 (o3 := o3) hr hS) ?_
  rintro o S1 ⟨s1, w1, q0, q1, A_, K_, q2, q3⟩
  exact ⟨s1, w1, (show c60_4 rc s z0 = c60_7 rc s z0 0 from rfl).trans q0, q1, A_, K_, cX.trans cX.rfl q2, q3⟩
def c60 (rc : cRC) (s : cS) : Option (cS × Option Int32) := rbd (rc 61 s 0 0 0 0 0 0 0) (fun s6 w4 => c60_4 rc s6 w4)
theorem lc60 {sc : Nat × (Nat → Int32)} {N d : Nat} {A : Nat → Nat} {K : Nat} {S : am_S} {rc : cRC} {s : cS} (hr : RCH sc rc N) (hS : CM A K S s) : am_L (am_PP sc) N d 60 0 [some (.ref 7), none, none, none] [] S (fun o S1 => ∃ s1 w, c60 rc s = some (s1, w) ∧ o = cov w ∧ CX A K S1 s1) := by
  refine l2 (v := 7) hi_60_0 rfl ?_
  refine l32 (as := [.ref 7]) (la := [some (.ref 7)]) (rest := []) hi_60_1 (am_hd0 (M := 60) (by decide) 1) rfl rfl rfl (fun N' d' hN_ => hr.h61 (N' := N') (d := d') hN_ hS) ?_ ?_
  · rintro v3 S1 ⟨s6, w_, e5, q1, A7, K8, x9, h2⟩
    obtain ⟨w4, rfl, rfl⟩ := cov_some q1
    show am_L _ _ _ _ _ [some (.ref 7), none, none, none] [.int w4] _ _
    refine am_L.mono (lc60_4 hr h2 ) ?_
    rintro o S1 ⟨s1, w1, q0, q1, A_, K_, q2, q3⟩
    exact ⟨s1, w1, (show c60 rc s = c60_4 rc s6 w4 from by unfold c60; rw [rbd_s e5]).trans q0, q1, A_, K_, cX.trans (cX.trans cX.rfl x9) q2, q3⟩
  · rintro S1 ⟨s1, w1, q0, q1, A_, K_, q2, q3⟩
    obtain rfl := cov_none q1
    exact ⟨s1, none, (by unfold c60; rw [rbd_n q0]), rfl, A_, K_, cX.trans cX.rfl q2, q3⟩
noncomputable def c59_100 (rc : cRC) (s : cS) (y2 : Int32) : Option (cS × Option Int32) := some ((c118 s y2).1, some 0)
theorem lc59_100 {sc : Nat × (Nat → Int32)} {N d : Nat} {A : Nat → Nat} {K : Nat} {S : am_S} {rc : cRC} {s : cS} {y2 : Int32} {o1 : Option Value} {o3 : Option Value} (hr : RCH sc rc N) (hS : CM A K S s) : am_L (am_PP sc) N d 59 100 [some (.ref 7), o1, some (.int y2), o3] [] S (fun o S1 => ∃ s1 w, c59_100 rc s y2 = some (s1, w) ∧ o = cow w ∧ CX A K S1 s1) := by
  refine l2 (v := 7) hi_59_100 rfl ?_
  refine l1 (v := y2) hi_59_101 rfl ?_
  refine l32 (as := [.ref 7, .int y2]) (la := [some (.ref 7), some (.int y2), none, none, none]) (rest := []) hi_59_102 (am_hd0 (M := 59) (by decide) 102) rfl rfl rfl (fun N' d' _ => lc118 (N := N') (d := d') hS ) ?_ (fun _ q => nomatch q.1)
  rintro v3 S1 ⟨ev3, h2⟩
  cases ev3
  show am_L _ _ _ _ _ [some (.ref 7), o1, some (.int y2), o3] [] _ _
  exact l35 hi_59_105 ⟨(c118 s y2).1, some 0, (rfl), rfl, A, K, cX.rfl, h2⟩
noncomputable def c59_97 (rc : cRC) (s : cS) (y2 : Int32) (z0 : Int32) (z1 : Int32) : Option (cS × Option Int32) := c59_100 rc ((c117 s z1 z0).1) y2
theorem lc59_97 {sc : Nat × (Nat → Int32)} {N d : Nat} {A : Nat → Nat} {K : Nat} {S : am_S} {rc : cRC} {s : cS} {y2 : Int32} {z0 : Int32} {z1 : Int32} {o1 : Option Value} {o3 : Option Value} (hr : RCH sc rc N) (hS : CM A K S s) : am_L (am_PP sc) N d 59 97 [some (.ref 7), o1, some (.int y2), o3] [.int z0, .int z1, .ref 7] S (fun o S1 => ∃ s1 w, c59_97 rc s y2 z0 z1 = some (s1, w) ∧ o = cow w ∧ CX A K S1 s1) := by
  refine l32 (as := [.ref 7, .int z1, .int z0]) (la := [some (.ref 7), some (.int z1), some (.int z0), none]) (rest := []) hi_59_97 (am_hd0 (M := 59) (by decide) 97) rfl rfl rfl (fun N' d' _ => lc117 (N := N') (d := d') hS ) ?_ (fun _ q => nomatch q.1)
  rintro v3 S1 ⟨ev3, h2⟩
  cases ev3
  show am_L _ _ _ _ _ [some (.ref 7), o1, some (.int y2), o3] [] _ _
  refine am_L.mono (lc59_100 hr h2 ) ?_
  rintro o S1 ⟨s1, w1, q0, q1, A_, K_, q2, q3⟩
  exact ⟨s1, w1, (rfl).trans q0, q1, A_, K_, cX.trans cX.rfl q2, q3⟩
noncomputable def c59_82 (rc : cRC) (s : cS) (y2 : Int32) (z0 : Int32) : Option (cS × Option Int32) := rbd (rc 112 s 0 0 0 0 0 0 0) (fun s9 w7 => c59_97 rc s9 y2 w7 ((s.r (.s 10)) - y2))
theorem lc59_82 {sc : Nat × (Nat → Int32)} {N d : Nat} {A : Nat → Nat} {K : Nat} {S : am_S} {rc : cRC} {s : cS} {y2 : Int32} {z0 : Int32} {o1 : Option Value} {o3 : Option Value} (hr : RCH sc rc N) (hS : CM A K S s) : am_L (am_PP sc) N d 59 82 [some (.ref 7), o1, some (.int y2), o3] [.int z0] S (fun o S1 => ∃ s1 w, c59_82 rc s y2 z0 = some (s1, w) ∧ o = cow w ∧ CX A K S1 s1) := by
  refine l6i hi_59_82 ?_
  refine l2 (v := 7) hi_59_83 rfl ?_
  refine l2 (v := 7) hi_59_84 rfl ?_
  refine l20s (v := .ref 10) hS cs_7 hi_59_85 rfl ?_
  refine l32 (as := [.ref 10]) (la := [some (.ref 10)]) (rest := [.ref 7]) hi_59_88 (am_hd0 (M := 59) (by decide) 88) rfl rfl rfl (fun N' d' _ => lc36 (N := N') (d := d') (t := (.s 10)) hS ct_10) ?_ (fun _ q => nomatch q.1)
  rintro v3 S1 ⟨ev3, h2⟩
  cases ev3
  show am_L _ _ _ _ _ [some (.ref 7), o1, some (.int y2), o3] [.int (s.r (.s 10)), .ref 7] _ _
  refine l1 (v := y2) hi_59_91 rfl ?_
  refine l10 hi_59_92 ?_
  show am_L _ _ _ _ _ [some (.ref 7), o1, some (.int y2), o3] [.int ((s.r (.s 10)) - y2), .ref 7] _ _
  refine l2 (v := 7) hi_59_93 rfl ?_
  refine l32 (as := [.ref 7]) (la := [some (.ref 7), none, none, none]) (rest := [.int ((s.r (.s 10)) - y2), .ref 7]) hi_59_94 (am_hd0 (M := 59) (by decide) 94) rfl rfl rfl (fun N' d' hN_ => hr.h112 (N' := N') (d := d') hN_ h2) ?_ ?_
  · rintro v6 S4 ⟨s9, w_, e8, q1, A10, K11, x12, h5⟩
    obtain ⟨w7, rfl, rfl⟩ := cov_some q1
    show am_L _ _ _ _ _ [some (.ref 7), o1, some (.int y2), o3] [.int w7, .int ((s.r (.s 10)) - y2), .ref 7] _ _
    refine am_L.mono (lc59_97 hr h5 ) ?_
    rintro o S1 ⟨s1, w1, q0, q1, A_, K_, q2, q3⟩
    exact ⟨s1, w1, (show c59_82 rc s y2 z0 = c59_97 rc s9 y2 w7 ((s.r (.s 10)) - y2) from by unfold c59_82; rw [rbd_s e8]).trans q0, q1, A_, K_, cX.trans (cX.trans cX.rfl x12) q2, q3⟩
  · rintro S4 ⟨s1, w1, q0, q1, A_, K_, q2, q3⟩
    obtain rfl := cov_none q1
    exact ⟨s1, none, (by unfold c59_82; rw [rbd_n q0]), rfl, A_, K_, cX.trans cX.rfl q2, q3⟩
noncomputable def c59_73 (rc : cRC) (s : cS) (y2 : Int32) : Option (cS × Option Int32) := rbd (some (c64 s 59)) (fun _ w4 => c59_82 rc ((c64 s 59).1) y2 w4)
theorem lc59_73 {sc : Nat × (Nat → Int32)} {N d : Nat} {A : Nat → Nat} {K : Nat} {S : am_S} {rc : cRC} {s : cS} {y2 : Int32} {o1 : Option Value} {o3 : Option Value} (hr : RCH sc rc N) (hS : CM A K S s) : am_L (am_PP sc) N d 59 73 [some (.ref 7), o1, some (.int y2), o3] [] S (fun o S1 => ∃ s1 w, c59_73 rc s y2 = some (s1, w) ∧ o = cow w ∧ CX A K S1 s1) := by
  refine l2 (v := 7) hi_59_73 rfl ?_
  refine l20s (v := .ref 2) hS cs_7 hi_59_74 rfl ?_
  refine l0 hi_59_77 ?_
  refine l32 (as := [.ref 2, .int 59]) (la := [some (.ref 2), some (.int 59)]) (rest := []) hi_59_79 (am_hd0 (M := 59) (by decide) 79) rfl rfl rfl (fun N' d' hN_ => lc64 (N := N') (d := d') hS ) ?_ ?_
  · rintro v3 S1 ⟨ev, h2⟩
    obtain ⟨w4, e5, rfl⟩ := cov_some ev
    show am_L _ _ _ _ _ [some (.ref 7), o1, some (.int y2), o3] [.int w4] _ _
    refine am_L.mono (lc59_82 hr h2 ) ?_
    rintro o S1 ⟨s1, w1, q0, q1, A_, K_, q2, q3⟩
    exact ⟨s1, w1, (show c59_73 rc s y2 = c59_82 rc ((c64 s 59).1) y2 w4 from by unfold c59_73; rw [rbd_th e5]).trans q0, q1, A_, K_, cX.trans cX.rfl q2, q3⟩
  · rintro S1 ⟨q1, q2⟩
    have hn := cov_none q1
    exact ⟨_, none, (by unfold c59_73; rw [rbd_thn hn]), rfl, A, K, cX.rfl, q2⟩
noncomputable def c59_67 (rc : cRC) (s : cS) (y2 : Int32) (y3 : Int32) : Option (cS × Option Int32) := rc 59032 s 0 y2 (y3 + 1) 0 0 0 0
theorem lc59_67 {sc : Nat × (Nat → Int32)} {N d : Nat} {A : Nat → Nat} {K : Nat} {S : am_S} {rc : cRC} {s : cS} {y2 : Int32} {y3 : Int32} {o1 : Option Value} (hr : RCH sc rc (N + 1)) (hS : CM A K S s) : am_L (am_PP sc) N d 59 67 [some (.ref 7), o1, some (.int y2), some (.int y3)] [] S (fun o S1 => ∃ s1 w, c59_67 rc s y2 y3 = some (s1, w) ∧ o = cow w ∧ CX A K S1 s1) := by
  refine l5 (v := y3) (ls' := [some (.ref 7), o1, some (.int y2), some (.int (y3 + 1))]) hi_59_67 rfl rfl ?_
  refine l18 hi_59_70 ?_
  refine am_L.mono (hr.h59032 (N' := N) (o1 := o1) (Nat.lt_succ_self _) hS) ?_
  rintro o S1 ⟨s1, w1, q0, q1, A_, K_, q2, q3⟩
  exact ⟨s1, w1, (show c59_67 rc s y2 y3 = rc 59032 s 0 y2 (y3 + 1) 0 0 0 0 from rfl).trans q0, q1, A_, K_, cX.trans cX.rfl q2, q3⟩
noncomputable def c59_64 (rc : cRC) (s : cS) (y2 : Int32) (y3 : Int32) (z0 : Int32) : Option (cS × Option Int32) := rbd (some (c113 s z0)) (fun _ w4 => c59_67 rc ((c113 s z0).1) y2 y3)
theorem lc59_64 {sc : Nat × (Nat → Int32)} {N d : Nat} {A : Nat → Nat} {K : Nat} {S : am_S} {rc : cRC} {s : cS} {y2 : Int32} {y3 : Int32} {z0 : Int32} {o1 : Option Value} (hr : RCH sc rc (N + 1)) (hS : CM A K S s) : am_L (am_PP sc) N d 59 64 [some (.ref 7), o1, some (.int y2), some (.int y3)] [.int z0, .ref 7] S (fun o S1 => ∃ s1 w, c59_64 rc s y2 y3 z0 = some (s1, w) ∧ o = cow w ∧ CX A K S1 s1) := by
  refine l32 (as := [.ref 7, .int z0]) (la := [some (.ref 7), some (.int z0)]) (rest := []) hi_59_64 (am_hd0 (M := 59) (by decide) 64) rfl rfl rfl (fun N' d' hN_ => lc113 (N := N') (d := d') hS ) ?_ ?_
  · rintro v3 S1 ⟨ev, h2⟩
    obtain ⟨w4, e5, rfl⟩ := cow_some ev
    show am_L _ _ _ _ _ [some (.ref 7), o1, some (.int y2), some (.int y3)] [] _ _
    refine am_L.mono (lc59_67 hr h2 ) ?_
    rintro o S1 ⟨s1, w1, q0, q1, A_, K_, q2, q3⟩
    exact ⟨s1, w1, (show c59_64 rc s y2 y3 z0 = c59_67 rc ((c113 s z0).1) y2 y3 from by unfold c59_64; rw [rbd_th e5]).trans q0, q1, A_, K_, cX.trans cX.rfl q2, q3⟩
  · rintro S1 ⟨q1, q2⟩
    have hn := cow_none q1
    exact ⟨_, none, (by unfold c59_64; rw [rbd_thn hn]), rfl, A, K, cX.rfl, q2⟩
noncomputable def c59_58 (rc : cRC) (s : cS) (y2 : Int32) (y3 : Int32) (z0 : Int32) : Option (cS × Option Int32) := rbd (rc 60 s 0 0 0 0 0 0 0) (fun s6 w4 => c59_64 rc s6 y2 y3 w4)
theorem lc59_58 {sc : Nat × (Nat → Int32)} {N d : Nat} {A : Nat → Nat} {K : Nat} {S : am_S} {rc : cRC} {s : cS} {y2 : Int32} {y3 : Int32} {z0 : Int32} {o1 : Option Value} (hr : RCH sc rc (N + 1)) (hS : CM A K S s) : am_L (am_PP sc) N d 59 58 [some (.ref 7), o1, some (.int y2), some (.int y3)] [.int z0] S (fun o S1 => ∃ s1 w, c59_58 rc s y2 y3 z0 = some (s1, w) ∧ o = cow w ∧ CX A K S1 s1) := by
  refine l6i hi_59_58 ?_
  refine l2 (v := 7) hi_59_59 rfl ?_
  refine l2 (v := 7) hi_59_60 rfl ?_
  refine l32 (as := [.ref 7]) (la := [some (.ref 7), none, none, none]) (rest := [.ref 7]) hi_59_61 (am_hd0 (M := 59) (by decide) 61) rfl rfl rfl (fun N' d' hN_ => hr.h60 (N' := N') (d := d') (Nat.lt_succ_of_lt hN_) hS) ?_ ?_
  · rintro v3 S1 ⟨s6, w_, e5, q1, A7, K8, x9, h2⟩
    obtain ⟨w4, rfl, rfl⟩ := cov_some q1
    show am_L _ _ _ _ _ [some (.ref 7), o1, some (.int y2), some (.int y3)] [.int w4, .ref 7] _ _
    refine am_L.mono (lc59_64 hr h2 ) ?_
    rintro o S1 ⟨s1, w1, q0, q1, A_, K_, q2, q3⟩
    exact ⟨s1, w1, (show c59_58 rc s y2 y3 z0 = c59_64 rc s6 y2 y3 w4 from by unfold c59_58; rw [rbd_s e5]).trans q0, q1, A_, K_, cX.trans (cX.trans cX.rfl x9) q2, q3⟩
  · rintro S1 ⟨s1, w1, q0, q1, A_, K_, q2, q3⟩
    obtain rfl := cov_none q1
    exact ⟨s1, none, (by unfold c59_58; rw [rbd_n q0]), rfl, A_, K_, cX.trans cX.rfl q2, q3⟩
noncomputable def c59_32 (rc : cRC) (s : cS) (y2 : Int32) (y3 : Int32) : Option (cS × Option Int32) := if (c53 s) ≠ 69 then c59_73 rc s y2 else if 16384 < y3 then c59_73 rc s y2 else rbd (some (c55 s)) (fun _ w9 => c59_58 rc ((c55 s).1) y2 y3 w9)
theorem lc59_32 {sc : Nat × (Nat → Int32)} {N d : Nat} {A : Nat → Nat} {K : Nat} {S : am_S} {rc : cRC} {s : cS} {y2 : Int32} {y3 : Int32} {o1 : Option Value} (hr : RCH sc rc N) (hS : CM A K S s) : am_L (am_PP sc) N d 59 32 [some (.ref 7), o1, some (.int y2), some (.int y3)] [] S (fun o S1 => ∃ s1 w, c59_32 rc s y2 y3 = some (s1, w) ∧ o = cow w ∧ CX A K S1 s1) := by
  cases N with
  | zero => exact l_zero
  | succ N =>
    refine l2d (v := 7) hi_59_32 rfl ?_
    refine l20s (v := .ref 2) hS cs_7 hi_59_33 rfl ?_
    refine l32 (as := [.ref 2]) (la := [some (.ref 2)]) (rest := []) hi_59_36 (am_hd0 (M := 59) (by decide) 36) rfl rfl rfl (fun N' d' _ => lc53 (N := N') (d := d') hS ) ?_ (fun _ q => nomatch q.1)
    rintro v3 S1 ⟨ev3, h2⟩
    cases ev3
    show am_L _ _ _ _ _ [some (.ref 7), o1, some (.int y2), some (.int y3)] [.int (c53 s)] _ _
    refine l0 hi_59_39 ?_
    by_cases cn4 : (c53 s) ≠ 69
    · refine l13t hi_59_41 (decide_eq_true cn4) ?_
      refine am_L.mono (lc59_73 (hr.less (Nat.le_succ _)) h2 ) ?_
      rintro o S1 ⟨s1, w1, q0, q1, A_, K_, q2, q3⟩
      exact ⟨s1, w1, (show c59_32 rc s y2 y3 = c59_73 rc s y2 from by unfold c59_32; rw [if_pos cn4]).trans q0, q1, A_, K_, cX.trans cX.rfl q2, q3⟩
    · refine l13f hi_59_41 (decide_eq_false cn4) ?_
      refine l1 (v := y3) hi_59_44 rfl ?_
      refine l0 hi_59_45 ?_
      by_cases cn5 : 16384 < y3
      · refine l13t hi_59_48 (decide_eq_true cn5) ?_
        refine am_L.mono (lc59_73 (hr.less (Nat.le_succ _)) h2 ) ?_
        rintro o S1 ⟨s1, w1, q0, q1, A_, K_, q2, q3⟩
        exact ⟨s1, w1, (show c59_32 rc s y2 y3 = c59_73 rc s y2 from by unfold c59_32; rw [if_neg cn4]; rw [if_pos cn5]).trans q0, q1, A_, K_, cX.trans cX.rfl q2, q3⟩
      · refine l13f hi_59_48 (decide_eq_false cn5) ?_
        refine l2 (v := 7) hi_59_51 rfl ?_
        refine l20s (v := .ref 2) h2 cs_7 hi_59_52 rfl ?_
        refine l32 (as := [.ref 2]) (la := [some (.ref 2), none]) (rest := []) hi_59_55 (am_hd0 (M := 59) (by decide) 55) rfl rfl rfl (fun N' d' hN_ => lc55 (N := N') (d := d') h2 ) ?_ ?_
        · rintro v8 S6 ⟨ev, h7⟩
          obtain ⟨w9, e10, rfl⟩ := cov_some ev
          show am_L _ _ _ _ _ [some (.ref 7), o1, some (.int y2), some (.int y3)] [.int w9] _ _
          refine am_L.mono (lc59_58 hr h7 ) ?_
          rintro o S1 ⟨s1, w1, q0, q1, A_, K_, q2, q3⟩
          exact ⟨s1, w1, (show c59_32 rc s y2 y3 = c59_58 rc ((c55 s).1) y2 y3 w9 from by unfold c59_32; rw [if_neg cn4]; rw [if_neg cn5]; rw [rbd_th e10]).trans q0, q1, A_, K_, cX.trans cX.rfl q2, q3⟩
        · rintro S6 ⟨q1, q2⟩
          have hn := cov_none q1
          exact ⟨_, none, (by unfold c59_32; rw [if_neg cn4]; rw [if_neg cn5]; rw [rbd_thn hn]), rfl, A, K, cX.rfl, q2⟩
noncomputable def c59_30 (rc : cRC) (s : cS) (y2 : Int32) : Option (cS × Option Int32) := c59_32 rc s y2 0
theorem lc59_30 {sc : Nat × (Nat → Int32)} {N d : Nat} {A : Nat → Nat} {K : Nat} {S : am_S} {rc : cRC} {s : cS} {y2 : Int32} {o1 : Option Value} {o3 : Option Value} (hr : RCH sc rc N) (hS : CM A K S s) : am_L (am_PP sc) N d 59 30 [some (.ref 7), o1, some (.int y2), o3] [] S (fun o S1 => ∃ s1 w, c59_30 rc s y2 = some (s1, w) ∧ o = cow w ∧ CX A K S1 s1) := by
  refine l0 hi_59_30 ?_
  refine l3 (ls' := [some (.ref 7), o1, some (.int y2), some (.int 0)]) hi_59_31 (Nat.le_of_ble_eq_true rfl) rfl ?_
  refine am_L.mono (lc59_32 (o1 := o1) hr hS) ?_
  rintro o S1 ⟨s1, w1, q0, q1, A_, K_, q2, q3⟩
  exact ⟨s1, w1, (show c59_30 rc s y2 = c59_32 rc s y2 0 from rfl).trans q0, q1, A_, K_, cX.trans cX.rfl q2, q3⟩
noncomputable def c59_4 (rc : cRC) (s : cS) (z0 : Int32) : Option (cS × Option Int32) := if z0 ≠ 4 then rbd (some (c113 s z0)) (fun _ w8 => c59_30 rc ((c113 s z0).1) (s.r (.s 10))) else some ((c99 s 1 0).1, some 0)
theorem lc59_4 {sc : Nat × (Nat → Int32)} {N d : Nat} {A : Nat → Nat} {K : Nat} {S : am_S} {rc : cRC} {s : cS} {z0 : Int32} {o1 : Option Value} {o2 : Option Value} {o3 : Option Value} (hr : RCH sc rc N) (hS : CM A K S s) : am_L (am_PP sc) N d 59 4 [some (.ref 7), o1, o2, o3] [.int z0] S (fun o S1 => ∃ s1 w, c59_4 rc s z0 = some (s1, w) ∧ o = cow w ∧ CX A K S1 s1) := by
  refine l3 (ls' := [some (.ref 7), some (.int z0), o2, o3]) hi_59_4 (Nat.le_of_ble_eq_true rfl) rfl ?_
  refine l1 (v := z0) hi_59_5 rfl ?_
  refine l0 hi_59_6 ?_
  by_cases cn1 : z0 ≠ 4
  · refine l13t hi_59_7 (decide_eq_true cn1) ?_
    refine l2 (v := 7) hi_59_17 rfl ?_
    refine l20s (v := .ref 10) hS cs_7 hi_59_18 rfl ?_
    refine l32 (as := [.ref 10]) (la := [some (.ref 10)]) (rest := []) hi_59_21 (am_hd0 (M := 59) (by decide) 21) rfl rfl rfl (fun N' d' _ => lc36 (N := N') (d := d') (t := (.s 10)) hS ct_10) ?_ (fun _ q => nomatch q.1)
    rintro v4 S2 ⟨ev4, h3⟩
    cases ev4
    show am_L _ _ _ _ _ [some (.ref 7), some (.int z0), o2, o3] [.int (s.r (.s 10))] _ _
    refine l3 (ls' := [some (.ref 7), some (.int z0), some (.int (s.r (.s 10))), o3]) hi_59_24 (Nat.le_of_ble_eq_true rfl) rfl ?_
    refine l2 (v := 7) hi_59_25 rfl ?_
    refine l1 (v := z0) hi_59_26 rfl ?_
    refine l32 (as := [.ref 7, .int z0]) (la := [some (.ref 7), some (.int z0)]) (rest := []) hi_59_27 (am_hd0 (M := 59) (by decide) 27) rfl rfl rfl (fun N' d' hN_ => lc113 (N := N') (d := d') h3 ) ?_ ?_
    · rintro v7 S5 ⟨ev, h6⟩
      obtain ⟨w8, e9, rfl⟩ := cow_some ev
      show am_L _ _ _ _ _ [some (.ref 7), some (.int z0), some (.int (s.r (.s 10))), o3] [] _ _
      refine am_L.mono (lc59_30 hr h6 ) ?_
      rintro o S1 ⟨s1, w1, q0, q1, A_, K_, q2, q3⟩
      exact ⟨s1, w1, (show c59_4 rc s z0 = c59_30 rc ((c113 s z0).1) (s.r (.s 10)) from by unfold c59_4; rw [if_pos cn1]; rw [rbd_th e9]).trans q0, q1, A_, K_, cX.trans cX.rfl q2, q3⟩
    · rintro S5 ⟨q1, q2⟩
      have hn := cow_none q1
      exact ⟨_, none, (by unfold c59_4; rw [if_pos cn1]; rw [rbd_thn hn]), rfl, A, K, cX.rfl, q2⟩
  · refine l13f hi_59_7 (decide_eq_false cn1) ?_
    refine l2 (v := 7) hi_59_10 rfl ?_
    refine l0 hi_59_11 ?_
    refine l0 hi_59_12 ?_
    refine l32 (as := [.ref 7, .int 1, .int 0]) (la := [some (.ref 7), some (.int 1), some (.int 0), none]) (rest := []) hi_59_13 (am_hd0 (M := 59) (by decide) 13) rfl rfl rfl (fun N' d' _ => lc99 (N := N') (d := d') hS ) ?_ (fun _ q => nomatch q.1)
    rintro v13 S11 ⟨ev13, h12⟩
    cases ev13
    show am_L _ _ _ _ _ [some (.ref 7), some (.int z0), o2, o3] [] _ _
    exact l35 hi_59_16 ⟨(c99 s 1 0).1, some 0, (by unfold c59_4; rw [if_neg cn1]), rfl, A, K, cX.rfl, h12⟩
noncomputable def c59 (rc : cRC) (s : cS) : Option (cS × Option Int32) := rbd (rc 60 s 0 0 0 0 0 0 0) (fun s6 w4 => c59_4 rc s6 w4)
theorem lc59 {sc : Nat × (Nat → Int32)} {N d : Nat} {A : Nat → Nat} {K : Nat} {S : am_S} {rc : cRC} {s : cS} (hr : RCH sc rc N) (hS : CM A K S s) : am_L (am_PP sc) N d 59 0 [some (.ref 7), none, none, none] [] S (fun o S1 => ∃ s1 w, c59 rc s = some (s1, w) ∧ o = cow w ∧ CX A K S1 s1) := by
  refine l2 (v := 7) hi_59_0 rfl ?_
  refine l32 (as := [.ref 7]) (la := [some (.ref 7), none, none, none]) (rest := []) hi_59_1 (am_hd0 (M := 59) (by decide) 1) rfl rfl rfl (fun N' d' hN_ => hr.h60 (N' := N') (d := d') hN_ hS) ?_ ?_
  · rintro v3 S1 ⟨s6, w_, e5, q1, A7, K8, x9, h2⟩
    obtain ⟨w4, rfl, rfl⟩ := cov_some q1
    show am_L _ _ _ _ _ [some (.ref 7), none, none, none] [.int w4] _ _
    refine am_L.mono (lc59_4 hr h2 ) ?_
    rintro o S1 ⟨s1, w1, q0, q1, A_, K_, q2, q3⟩
    exact ⟨s1, w1, (show c59 rc s = c59_4 rc s6 w4 from by unfold c59; rw [rbd_s e5]).trans q0, q1, A_, K_, cX.trans (cX.trans cX.rfl x9) q2, q3⟩
  · rintro S1 ⟨s1, w1, q0, q1, A_, K_, q2, q3⟩
    obtain rfl := cov_none q1
    exact ⟨s1, none, (by unfold c59; rw [rbd_n q0]), rfl, A_, K_, cX.trans cX.rfl q2, q3⟩
noncomputable def c128_36 (rc : cRC) (s : cS) (z0 : Int32) : Option (cS × Option Int32) := some ((c81 s).1, some 0)
theorem lc128_36 {sc : Nat × (Nat → Int32)} {N d : Nat} {A : Nat → Nat} {K : Nat} {S : am_S} {rc : cRC} {s : cS} {z0 : Int32} (hr : RCH sc rc N) (hS : CM A K S s) : am_L (am_PP sc) N d 128 36 [some (.ref 7)] [.int z0] S (fun o S1 => ∃ s1 w, c128_36 rc s z0 = some (s1, w) ∧ o = cow w ∧ CX A K S1 s1) := by
  refine l6i hi_128_36 ?_
  refine l2 (v := 7) hi_128_37 rfl ?_
  refine l20s (v := .ref 12) hS cs_7 hi_128_38 rfl ?_
  refine l32 (as := [.ref 12]) (la := [some (.ref 12), none]) (rest := []) hi_128_41 (am_hd0 (M := 128) (by decide) 41) rfl rfl rfl (fun N' d' _ => lc81 (N := N') (d := d') hS ) ?_ (fun _ q => nomatch q.1)
  rintro v3 S1 ⟨ev3, h2⟩
  cases ev3
  show am_L _ _ _ _ _ [some (.ref 7)] [] _ _
  exact l35 hi_128_44 ⟨(c81 s).1, some 0, (rfl), rfl, A, K, cX.rfl, h2⟩
noncomputable def c128_11 (rc : cRC) (s : cS) : Option (cS × Option Int32) := if (c129 s) = 0 then some ((c81 s).1, some 0) else c128_36 rc ((c78 s 33 (c82 s) 0 0).1) ((c78 s 33 (c82 s) 0 0).2)
theorem lc128_11 {sc : Nat × (Nat → Int32)} {N d : Nat} {A : Nat → Nat} {K : Nat} {S : am_S} {rc : cRC} {s : cS} (hr : RCH sc rc N) (hS : CM A K S s) : am_L (am_PP sc) N d 128 11 [some (.ref 7)] [] S (fun o S1 => ∃ s1 w, c128_11 rc s = some (s1, w) ∧ o = cow w ∧ CX A K S1 s1) := by
  refine l2 (v := 7) hi_128_11 rfl ?_
  refine l20s (v := .ref 12) hS cs_7 hi_128_12 rfl ?_
  refine l32 (as := [.ref 12]) (la := [some (.ref 12)]) (rest := []) hi_128_15 (am_hd0 (M := 128) (by decide) 15) rfl rfl rfl (fun N' d' _ => lc129 (N := N') (d := d') hS ) ?_ (fun _ q => nomatch q.1)
  rintro v3 S1 ⟨ev3, h2⟩
  cases ev3
  show am_L _ _ _ _ _ [some (.ref 7)] [.int (c129 s)] _ _
  by_cases cn4 : (c129 s) = 0
  · refine l12t hi_128_18 (decide_eq_true cn4) ?_
    refine l2 (v := 7) hi_128_37 rfl ?_
    refine l20s (v := .ref 12) h2 cs_7 hi_128_38 rfl ?_
    refine l32 (as := [.ref 12]) (la := [some (.ref 12), none]) (rest := []) hi_128_41 (am_hd0 (M := 128) (by decide) 41) rfl rfl rfl (fun N' d' _ => lc81 (N := N') (d := d') h2 ) ?_ (fun _ q => nomatch q.1)
    rintro v7 S5 ⟨ev7, h6⟩
    cases ev7
    show am_L _ _ _ _ _ [some (.ref 7)] [] _ _
    exact l35 hi_128_44 ⟨(c81 s).1, some 0, (by unfold c128_11; rw [if_pos cn4]), rfl, A, K, cX.rfl, h6⟩
  · refine l12f hi_128_18 (decide_eq_false cn4) ?_
    refine l2 (v := 7) hi_128_21 rfl ?_
    refine l0 hi_128_22 ?_
    refine l2 (v := 7) hi_128_24 rfl ?_
    refine l20s (v := .ref 12) h2 cs_7 hi_128_25 rfl ?_
    refine l32 (as := [.ref 12]) (la := [some (.ref 12)]) (rest := [.int 33, .ref 7]) hi_128_28 (am_hd0 (M := 128) (by decide) 28) rfl rfl rfl (fun N' d' _ => lc82 (N := N') (d := d') h2 ) ?_ (fun _ q => nomatch q.1)
    rintro v10 S8 ⟨ev10, h9⟩
    cases ev10
    show am_L _ _ _ _ _ [some (.ref 7)] [.int (c82 s), .int 33, .ref 7] _ _
    refine l0 hi_128_31 ?_
    refine l0 hi_128_32 ?_
    refine l32 (as := [.ref 7, .int 33, .int (c82 s), .int 0, .int 0]) (la := [some (.ref 7), some (.int 33), some (.int (c82 s)), some (.int 0), some (.int 0)]) (rest := []) hi_128_33 (am_hd0 (M := 128) (by decide) 33) rfl rfl rfl (fun N' d' _ => lc78 (N := N') (d := d') h9 ) ?_ (fun _ q => nomatch q.1)
    rintro v13 S11 ⟨ev13, h12⟩
    cases ev13
    show am_L _ _ _ _ _ [some (.ref 7)] [.int ((c78 s 33 (c82 s) 0 0).2)] _ _
    refine am_L.mono (lc128_36 hr h12 ) ?_
    rintro o S1 ⟨s1, w1, q0, q1, A_, K_, q2, q3⟩
    exact ⟨s1, w1, (show c128_11 rc s = c128_36 rc ((c78 s 33 (c82 s) 0 0).1) ((c78 s 33 (c82 s) 0 0).2) from by unfold c128_11; rw [if_neg cn4]).trans q0, q1, A_, K_, cX.trans cX.rfl q2, q3⟩
noncomputable def c128_7 (rc : cRC) (s : cS) : Option (cS × Option Int32) := rbd (rc 52 s 0 0 0 0 0 0 0) (fun s6 w4 => c128_11 rc s6)
theorem lc128_7 {sc : Nat × (Nat → Int32)} {N d : Nat} {A : Nat → Nat} {K : Nat} {S : am_S} {rc : cRC} {s : cS} (hr : RCH sc rc N) (hS : CM A K S s) : am_L (am_PP sc) N d 128 7 [some (.ref 7)] [] S (fun o S1 => ∃ s1 w, c128_7 rc s = some (s1, w) ∧ o = cow w ∧ CX A K S1 s1) := by
  refine l2 (v := 7) hi_128_7 rfl ?_
  refine l32 (as := [.ref 7]) (la := [some (.ref 7), none]) (rest := []) hi_128_8 (am_hd0 (M := 128) (by decide) 8) rfl rfl rfl (fun N' d' hN_ => hr.h52 (N' := N') (d := d') hN_ hS) ?_ ?_
  · rintro v3 S1 ⟨s6, w_, e5, q1, A7, K8, x9, h2⟩
    obtain ⟨w4, rfl, rfl⟩ := cow_some q1
    show am_L _ _ _ _ _ [some (.ref 7)] [] _ _
    refine am_L.mono (lc128_11 hr h2 ) ?_
    rintro o S1 ⟨s1, w1, q0, q1, A_, K_, q2, q3⟩
    exact ⟨s1, w1, (show c128_7 rc s = c128_11 rc s6 from by unfold c128_7; rw [rbd_s e5]).trans q0, q1, A_, K_, cX.trans (cX.trans cX.rfl x9) q2, q3⟩
  · rintro S1 ⟨s1, w1, q0, q1, A_, K_, q2, q3⟩
    obtain rfl := cow_none q1
    exact ⟨s1, none, (by unfold c128_7; rw [rbd_n q0]), rfl, A_, K_, cX.trans cX.rfl q2, q3⟩
noncomputable def c128 (rc : cRC) (s : cS) : Option (cS × Option Int32) := c128_7 rc ((c51 s).1)
theorem lc128 {sc : Nat × (Nat → Int32)} {N d : Nat} {A : Nat → Nat} {K : Nat} {S : am_S} {rc : cRC} {s : cS} (hr : RCH sc rc N) (hS : CM A K S s) : am_L (am_PP sc) N d 128 0 [some (.ref 7)] [] S (fun o S1 => ∃ s1 w, c128 rc s = some (s1, w) ∧ o = cow w ∧ CX A K S1 s1) := by
  refine l2 (v := 7) hi_128_0 rfl ?_
  refine l20s (v := .ref 12) hS cs_7 hi_128_1 rfl ?_
  refine l32 (as := [.ref 12]) (la := [some (.ref 12)]) (rest := []) hi_128_4 (am_hd0 (M := 128) (by decide) 4) rfl rfl rfl (fun N' d' _ => lc51 (N := N') (d := d') hS ) ?_ (fun _ q => nomatch q.1)
  rintro v3 S1 ⟨ev3, h2⟩
  cases ev3
  show am_L _ _ _ _ _ [some (.ref 7)] [] _ _
  refine am_L.mono (lc128_7 hr h2 ) ?_
  rintro o S1 ⟨s1, w1, q0, q1, A_, K_, q2, q3⟩
  exact ⟨s1, w1, (rfl).trans q0, q1, A_, K_, cX.trans cX.rfl q2, q3⟩
noncomputable def c130_106 (rc : cRC) (s : cS) : Option (cS × Option Int32) := some ((c132 s s.now).1, some 0)
theorem lc130_106 {sc : Nat × (Nat → Int32)} {N d : Nat} {A : Nat → Nat} {K : Nat} {S : am_S} {rc : cRC} {s : cS} {o1 : Option Value} {o2 : Option Value} (hr : RCH sc rc N) (hS : CM A K S s) : am_L (am_PP sc) N d 130 106 [some (.ref 7), o1, o2] [] S (fun o S1 => ∃ s1 w, c130_106 rc s = some (s1, w) ∧ o = cow w ∧ CX A K S1 s1) := by
  refine l2 (v := 7) hi_130_106 rfl ?_
  refine l20s (v := .ref 12) hS cs_7 hi_130_107 rfl ?_
  refine l20s (v := .ref 23) hS cs_12 hi_130_110 rfl ?_
  refine l2 (v := 7) hi_130_113 rfl ?_
  refine l20s (v := .ref 12) hS cs_7 hi_130_114 rfl ?_
  refine l32 (as := [.ref 12]) (la := [some (.ref 12)]) (rest := [.ref 23]) hi_130_117 (am_hd0 (M := 130) (by decide) 117) rfl rfl rfl (fun N' d' _ => lc79 (N := N') (d := d') hS) ?_ (fun _ q => nomatch q.1)
  rintro v3 S1 ⟨ev3, h2⟩
  cases ev3
  show am_L _ _ _ _ _ [some (.ref 7), o1, o2] [.ref (A s.now), .ref 23] _ _
  refine l32 (as := [.ref 23, .ref (A s.now)]) (la := [some (.ref 23), some (.ref (A s.now)), none, none]) (rest := []) hi_130_120 (am_hd0 (M := 130) (by decide) 120) rfl rfl rfl (fun N' d' _ => lc132 (N := N') (d := d') h2 (show s.now ≤ K from CM.nl (s := s) hS)) ?_ (fun _ q => nomatch q.1)
  rintro v6 S4 ⟨ev6, h5⟩
  cases ev6
  show am_L _ _ _ _ _ [some (.ref 7), o1, o2] [] _ _
  exact l35 hi_130_123 ⟨(c132 s s.now).1, some 0, (rfl), rfl, A, K, cX.rfl, h5⟩
noncomputable def c130_93 (rc : cRC) (s : cS) (y2 : Int32) (z0 : Int32) : Option (cS × Option Int32) := c130_106 rc ((c109 s s.now y2 1).1)
theorem lc130_93 {sc : Nat × (Nat → Int32)} {N d : Nat} {A : Nat → Nat} {K : Nat} {S : am_S} {rc : cRC} {s : cS} {y2 : Int32} {z0 : Int32} {o1 : Option Value} (hr : RCH sc rc N) (hS : CM A K S s) : am_L (am_PP sc) N d 130 93 [some (.ref 7), o1, some (.int y2)] [.int z0] S (fun o S1 => ∃ s1 w, c130_93 rc s y2 z0 = some (s1, w) ∧ o = cow w ∧ CX A K S1 s1) := by
  refine l6i hi_130_93 ?_
  refine l2 (v := 7) hi_130_94 rfl ?_
  refine l20s (v := .ref 12) hS cs_7 hi_130_95 rfl ?_
  refine l32 (as := [.ref 12]) (la := [some (.ref 12)]) (rest := []) hi_130_98 (am_hd0 (M := 130) (by decide) 98) rfl rfl rfl (fun N' d' _ => lc79 (N := N') (d := d') hS) ?_ (fun _ q => nomatch q.1)
  rintro v3 S1 ⟨ev3, h2⟩
  cases ev3
  show am_L _ _ _ _ _ [some (.ref 7), o1, some (.int y2)] [.ref (A s.now)] _ _
  refine l1 (v := y2) hi_130_101 rfl ?_
  refine l0 hi_130_102 ?_
  refine l32 (as := [.ref (A s.now), .int y2, .int 1]) (la := [some (.ref (A s.now)), some (.int y2), some (.int 1)]) (rest := []) hi_130_103 (am_hd0 (M := 130) (by decide) 103) rfl rfl rfl (fun N' d' _ => lc109 (N := N') (d := d') h2 (show s.now ≤ K from CM.nl (s := s) hS)) ?_ (fun _ q => nomatch q.1)
  rintro v6 S4 ⟨ev6, h5⟩
  cases ev6
  show am_L _ _ _ _ _ [some (.ref 7), o1, some (.int y2)] [] _ _
  refine am_L.mono (lc130_106 hr h5 ) ?_
  rintro o S1 ⟨s1, w1, q0, q1, A_, K_, q2, q3⟩
  exact ⟨s1, w1, (rfl).trans q0, q1, A_, K_, cX.trans cX.rfl q2, q3⟩
noncomputable def c130_83 (rc : cRC) (s : cS) (y1 : Int32) (y2 : Int32) (z0 : Int32) : Option (cS × Option Int32) := c130_93 rc ((c78 s 36 y1 0 0).1) y2 ((c78 s 36 y1 0 0).2)
theorem lc130_83 {sc : Nat × (Nat → Int32)} {N d : Nat} {A : Nat → Nat} {K : Nat} {S : am_S} {rc : cRC} {s : cS} {y1 : Int32} {y2 : Int32} {z0 : Int32} (hr : RCH sc rc N) (hS : CM A K S s) : am_L (am_PP sc) N d 130 83 [some (.ref 7), some (.int y1), some (.int y2)] [.int z0] S (fun o S1 => ∃ s1 w, c130_83 rc s y1 y2 z0 = some (s1, w) ∧ o = cow w ∧ CX A K S1 s1) := by
  refine l6i hi_130_83 ?_
  refine l2 (v := 7) hi_130_84 rfl ?_
  refine l0 hi_130_85 ?_
  refine l1 (v := y1) hi_130_87 rfl ?_
  refine l0 hi_130_88 ?_
  refine l0 hi_130_89 ?_
  refine l32 (as := [.ref 7, .int 36, .int y1, .int 0, .int 0]) (la := [some (.ref 7), some (.int 36), some (.int y1), some (.int 0), some (.int 0)]) (rest := []) hi_130_90 (am_hd0 (M := 130) (by decide) 90) rfl rfl rfl (fun N' d' _ => lc78 (N := N') (d := d') hS ) ?_ (fun _ q => nomatch q.1)
  rintro v3 S1 ⟨ev3, h2⟩
  cases ev3
  show am_L _ _ _ _ _ [some (.ref 7), some (.int y1), some (.int y2)] [.int ((c78 s 36 y1 0 0).2)] _ _
  refine am_L.mono (lc130_93 hr h2 ) ?_
  rintro o S1 ⟨s1, w1, q0, q1, A_, K_, q2, q3⟩
  exact ⟨s1, w1, (rfl).trans q0, q1, A_, K_, cX.trans cX.rfl q2, q3⟩
noncomputable def c130_74 (rc : cRC) (s : cS) (y1 : Int32) (y2 : Int32) : Option (cS × Option Int32) := rbd (some (c64 s 15)) (fun _ w4 => c130_83 rc ((c64 s 15).1) y1 y2 w4)
theorem lc130_74 {sc : Nat × (Nat → Int32)} {N d : Nat} {A : Nat → Nat} {K : Nat} {S : am_S} {rc : cRC} {s : cS} {y1 : Int32} {y2 : Int32} (hr : RCH sc rc N) (hS : CM A K S s) : am_L (am_PP sc) N d 130 74 [some (.ref 7), some (.int y1), some (.int y2)] [] S (fun o S1 => ∃ s1 w, c130_74 rc s y1 y2 = some (s1, w) ∧ o = cow w ∧ CX A K S1 s1) := by
  refine l2 (v := 7) hi_130_74 rfl ?_
  refine l20s (v := .ref 2) hS cs_7 hi_130_75 rfl ?_
  refine l0 hi_130_78 ?_
  refine l32 (as := [.ref 2, .int 15]) (la := [some (.ref 2), some (.int 15)]) (rest := []) hi_130_80 (am_hd0 (M := 130) (by decide) 80) rfl rfl rfl (fun N' d' hN_ => lc64 (N := N') (d := d') hS ) ?_ ?_
  · rintro v3 S1 ⟨ev, h2⟩
    obtain ⟨w4, e5, rfl⟩ := cov_some ev
    show am_L _ _ _ _ _ [some (.ref 7), some (.int y1), some (.int y2)] [.int w4] _ _
    refine am_L.mono (lc130_83 hr h2 ) ?_
    rintro o S1 ⟨s1, w1, q0, q1, A_, K_, q2, q3⟩
    exact ⟨s1, w1, (show c130_74 rc s y1 y2 = c130_83 rc ((c64 s 15).1) y1 y2 w4 from by unfold c130_74; rw [rbd_th e5]).trans q0, q1, A_, K_, cX.trans cX.rfl q2, q3⟩
  · rintro S1 ⟨q1, q2⟩
    have hn := cov_none q1
    exact ⟨_, none, (by unfold c130_74; rw [rbd_thn hn]), rfl, A, K, cX.rfl, q2⟩
noncomputable def c130_70 (rc : cRC) (s : cS) (y1 : Int32) (y2 : Int32) : Option (cS × Option Int32) := rbd (rc 128 s 0 0 0 0 0 0 0) (fun s6 w4 => c130_74 rc s6 y1 y2)
theorem lc130_70 {sc : Nat × (Nat → Int32)} {N d : Nat} {A : Nat → Nat} {K : Nat} {S : am_S} {rc : cRC} {s : cS} {y1 : Int32} {y2 : Int32} (hr : RCH sc rc N) (hS : CM A K S s) : am_L (am_PP sc) N d 130 70 [some (.ref 7), some (.int y1), some (.int y2)] [] S (fun o S1 => ∃ s1 w, c130_70 rc s y1 y2 = some (s1, w) ∧ o = cow w ∧ CX A K S1 s1) := by
  refine l2 (v := 7) hi_130_70 rfl ?_
  refine l32 (as := [.ref 7]) (la := [some (.ref 7)]) (rest := []) hi_130_71 (am_hd0 (M := 130) (by decide) 71) rfl rfl rfl (fun N' d' hN_ => hr.h128 (N' := N') (d := d') hN_ hS) ?_ ?_
  · rintro v3 S1 ⟨s6, w_, e5, q1, A7, K8, x9, h2⟩
    obtain ⟨w4, rfl, rfl⟩ := cow_some q1
    show am_L _ _ _ _ _ [some (.ref 7), some (.int y1), some (.int y2)] [] _ _
    refine am_L.mono (lc130_74 hr h2 ) ?_
    rintro o S1 ⟨s1, w1, q0, q1, A_, K_, q2, q3⟩
    exact ⟨s1, w1, (show c130_70 rc s y1 y2 = c130_74 rc s6 y1 y2 from by unfold c130_70; rw [rbd_s e5]).trans q0, q1, A_, K_, cX.trans (cX.trans cX.rfl x9) q2, q3⟩
  · rintro S1 ⟨s1, w1, q0, q1, A_, K_, q2, q3⟩
    obtain rfl := cow_none q1
    exact ⟨s1, none, (by unfold c130_70; rw [rbd_n q0]), rfl, A_, K_, cX.trans cX.rfl q2, q3⟩
noncomputable def c130_52 (rc : cRC) (s : cS) (y1 : Int32) (y2 : Int32) (z0 : Int32) : Option (cS × Option Int32) := c130_70 rc ((c131 s (c75 s)).1) y1 y2
theorem lc130_52 {sc : Nat × (Nat → Int32)} {N d : Nat} {A : Nat → Nat} {K : Nat} {S : am_S} {rc : cRC} {s : cS} {y1 : Int32} {y2 : Int32} {z0 : Int32} (hr : RCH sc rc N) (hS : CM A K S s) : am_L (am_PP sc) N d 130 52 [some (.ref 7), some (.int y1), some (.int y2)] [.int z0] S (fun o S1 => ∃ s1 w, c130_52 rc s y1 y2 z0 = some (s1, w) ∧ o = cow w ∧ CX A K S1 s1) := by
  refine l6i hi_130_52 ?_
  refine l2 (v := 7) hi_130_53 rfl ?_
  refine l20s (v := .ref 12) hS cs_7 hi_130_54 rfl ?_
  refine l20s (v := .ref 23) hS cs_12 hi_130_57 rfl ?_
  refine l2 (v := 7) hi_130_60 rfl ?_
  refine l20s (v := .ref 12) hS cs_7 hi_130_61 rfl ?_
  refine l32 (as := [.ref 12]) (la := [some (.ref 12)]) (rest := [.ref 23]) hi_130_64 (am_hd0 (M := 130) (by decide) 64) rfl rfl rfl (fun N' d' _ => lc75 (N := N') (d := d') hS ) ?_ (fun _ q => nomatch q.1)
  rintro v3 S1 ⟨ev3, h2⟩
  cases ev3
  show am_L _ _ _ _ _ [some (.ref 7), some (.int y1), some (.int y2)] [.int (c75 s), .ref 23] _ _
  refine l32 (as := [.ref 23, .int (c75 s)]) (la := [some (.ref 23), some (.int (c75 s))]) (rest := []) hi_130_67 (am_hd0 (M := 130) (by decide) 67) rfl rfl rfl (fun N' d' _ => lc131 (N := N') (d := d') h2 ) ?_ (fun _ q => nomatch q.1)
  rintro v6 S4 ⟨ev6, h5⟩
  cases ev6
  show am_L _ _ _ _ _ [some (.ref 7), some (.int y1), some (.int y2)] [] _ _
  refine am_L.mono (lc130_70 hr h5 ) ?_
  rintro o S1 ⟨s1, w1, q0, q1, A_, K_, q2, q3⟩
  exact ⟨s1, w1, (rfl).trans q0, q1, A_, K_, cX.trans cX.rfl q2, q3⟩
noncomputable def c130_42 (rc : cRC) (s : cS) (y1 : Int32) (z0 : Int32) : Option (cS × Option Int32) := rbd (some (c64 s 12)) (fun _ w4 => c130_52 rc ((c64 s 12).1) y1 z0 w4)
theorem lc130_42 {sc : Nat × (Nat → Int32)} {N d : Nat} {A : Nat → Nat} {K : Nat} {S : am_S} {rc : cRC} {s : cS} {y1 : Int32} {z0 : Int32} {o2 : Option Value} (hr : RCH sc rc N) (hS : CM A K S s) : am_L (am_PP sc) N d 130 42 [some (.ref 7), some (.int y1), o2] [.int z0] S (fun o S1 => ∃ s1 w, c130_42 rc s y1 z0 = some (s1, w) ∧ o = cow w ∧ CX A K S1 s1) := by
  refine l3 (ls' := [some (.ref 7), some (.int y1), some (.int z0)]) hi_130_42 (Nat.le_of_ble_eq_true rfl) rfl ?_
  refine l2 (v := 7) hi_130_43 rfl ?_
  refine l20s (v := .ref 2) hS cs_7 hi_130_44 rfl ?_
  refine l0 hi_130_47 ?_
  refine l32 (as := [.ref 2, .int 12]) (la := [some (.ref 2), some (.int 12)]) (rest := []) hi_130_49 (am_hd0 (M := 130) (by decide) 49) rfl rfl rfl (fun N' d' hN_ => lc64 (N := N') (d := d') hS ) ?_ ?_
  · rintro v3 S1 ⟨ev, h2⟩
    obtain ⟨w4, e5, rfl⟩ := cov_some ev
    show am_L _ _ _ _ _ [some (.ref 7), some (.int y1), some (.int z0)] [.int w4] _ _
    refine am_L.mono (lc130_52 hr h2 ) ?_
    rintro o S1 ⟨s1, w1, q0, q1, A_, K_, q2, q3⟩
    exact ⟨s1, w1, (show c130_42 rc s y1 z0 = c130_52 rc ((c64 s 12).1) y1 z0 w4 from by unfold c130_42; rw [rbd_th e5]).trans q0, q1, A_, K_, cX.trans cX.rfl q2, q3⟩
  · rintro S1 ⟨q1, q2⟩
    have hn := cov_none q1
    exact ⟨_, none, (by unfold c130_42; rw [rbd_thn hn]), rfl, A, K, cX.rfl, q2⟩
noncomputable def c130_33 (rc : cRC) (s : cS) (y1 : Int32) : Option (cS × Option Int32) := c130_42 rc ((c78 s 35 0 0 0).1) y1 ((c78 s 35 0 0 0).2)
theorem lc130_33 {sc : Nat × (Nat → Int32)} {N d : Nat} {A : Nat → Nat} {K : Nat} {S : am_S} {rc : cRC} {s : cS} {y1 : Int32} {o2 : Option Value} (hr : RCH sc rc N) (hS : CM A K S s) : am_L (am_PP sc) N d 130 33 [some (.ref 7), some (.int y1), o2] [] S (fun o S1 => ∃ s1 w, c130_33 rc s y1 = some (s1, w) ∧ o = cow w ∧ CX A K S1 s1) := by
  refine l2 (v := 7) hi_130_33 rfl ?_
  refine l0 hi_130_34 ?_
  refine l0 hi_130_36 ?_
  refine l0 hi_130_37 ?_
  refine l0 hi_130_38 ?_
  refine l32 (as := [.ref 7, .int 35, .int 0, .int 0, .int 0]) (la := [some (.ref 7), some (.int 35), some (.int 0), some (.int 0), some (.int 0)]) (rest := []) hi_130_39 (am_hd0 (M := 130) (by decide) 39) rfl rfl rfl (fun N' d' _ => lc78 (N := N') (d := d') hS ) ?_ (fun _ q => nomatch q.1)
  rintro v3 S1 ⟨ev3, h2⟩
  cases ev3
  show am_L _ _ _ _ _ [some (.ref 7), some (.int y1), o2] [.int ((c78 s 35 0 0 0).2)] _ _
  refine am_L.mono (lc130_42 hr h2 ) ?_
  rintro o S1 ⟨s1, w1, q0, q1, A_, K_, q2, q3⟩
  exact ⟨s1, w1, (rfl).trans q0, q1, A_, K_, cX.trans cX.rfl q2, q3⟩
noncomputable def c130_28 (rc : cRC) (s : cS) (y1 : Int32) (z0 : Int32) : Option (cS × Option Int32) := rbd (rc 70 s 0 0 0 0 0 0 0) (fun s6 w4 => c130_33 rc s6 y1)
theorem lc130_28 {sc : Nat × (Nat → Int32)} {N d : Nat} {A : Nat → Nat} {K : Nat} {S : am_S} {rc : cRC} {s : cS} {y1 : Int32} {z0 : Int32} {o2 : Option Value} (hr : RCH sc rc N) (hS : CM A K S s) : am_L (am_PP sc) N d 130 28 [some (.ref 7), some (.int y1), o2] [.int z0] S (fun o S1 => ∃ s1 w, c130_28 rc s y1 z0 = some (s1, w) ∧ o = cow w ∧ CX A K S1 s1) := by
  refine l6i hi_130_28 ?_
  refine l2 (v := 7) hi_130_29 rfl ?_
  refine l32 (as := [.ref 7]) (la := [some (.ref 7), none, none, none, none, none]) (rest := []) hi_130_30 (am_hd0 (M := 130) (by decide) 30) rfl rfl rfl (fun N' d' hN_ => hr.h70 (N' := N') (d := d') hN_ hS) ?_ ?_
  · rintro v3 S1 ⟨s6, w_, e5, q1, A7, K8, x9, h2⟩
    obtain ⟨w4, rfl, rfl⟩ := cow_some q1
    show am_L _ _ _ _ _ [some (.ref 7), some (.int y1), o2] [] _ _
    refine am_L.mono (lc130_33 hr h2 ) ?_
    rintro o S1 ⟨s1, w1, q0, q1, A_, K_, q2, q3⟩
    exact ⟨s1, w1, (show c130_28 rc s y1 z0 = c130_33 rc s6 y1 from by unfold c130_28; rw [rbd_s e5]).trans q0, q1, A_, K_, cX.trans (cX.trans cX.rfl x9) q2, q3⟩
  · rintro S1 ⟨s1, w1, q0, q1, A_, K_, q2, q3⟩
    obtain rfl := cow_none q1
    exact ⟨s1, none, (by unfold c130_28; rw [rbd_n q0]), rfl, A_, K_, cX.trans cX.rfl q2, q3⟩
noncomputable def c130_20 (rc : cRC) (s : cS) (y1 : Int32) (z0 : Int32) : Option (cS × Option Int32) := rbd (some (c55 s)) (fun _ w4 => c130_28 rc ((c55 s).1) y1 w4)
theorem lc130_20 {sc : Nat × (Nat → Int32)} {N d : Nat} {A : Nat → Nat} {K : Nat} {S : am_S} {rc : cRC} {s : cS} {y1 : Int32} {z0 : Int32} {o2 : Option Value} (hr : RCH sc rc N) (hS : CM A K S s) : am_L (am_PP sc) N d 130 20 [some (.ref 7), some (.int y1), o2] [.int z0] S (fun o S1 => ∃ s1 w, c130_20 rc s y1 z0 = some (s1, w) ∧ o = cow w ∧ CX A K S1 s1) := by
  refine l6i hi_130_20 ?_
  refine l2 (v := 7) hi_130_21 rfl ?_
  refine l20s (v := .ref 2) hS cs_7 hi_130_22 rfl ?_
  refine l32 (as := [.ref 2]) (la := [some (.ref 2), none]) (rest := []) hi_130_25 (am_hd0 (M := 130) (by decide) 25) rfl rfl rfl (fun N' d' hN_ => lc55 (N := N') (d := d') hS ) ?_ ?_
  · rintro v3 S1 ⟨ev, h2⟩
    obtain ⟨w4, e5, rfl⟩ := cov_some ev
    show am_L _ _ _ _ _ [some (.ref 7), some (.int y1), o2] [.int w4] _ _
    refine am_L.mono (lc130_28 hr h2 ) ?_
    rintro o S1 ⟨s1, w1, q0, q1, A_, K_, q2, q3⟩
    exact ⟨s1, w1, (show c130_20 rc s y1 z0 = c130_28 rc ((c55 s).1) y1 w4 from by unfold c130_20; rw [rbd_th e5]).trans q0, q1, A_, K_, cX.trans cX.rfl q2, q3⟩
  · rintro S1 ⟨q1, q2⟩
    have hn := cov_none q1
    exact ⟨_, none, (by unfold c130_20; rw [rbd_thn hn]), rfl, A, K, cX.rfl, q2⟩
noncomputable def c130 (rc : cRC) (s : cS) : Option (cS × Option Int32) := c130_20 rc ((c78 s 34 0 0 (c63 s)).1) (c98 s) ((c78 s 34 0 0 (c63 s)).2)
theorem lc130 {sc : Nat × (Nat → Int32)} {N d : Nat} {A : Nat → Nat} {K : Nat} {S : am_S} {rc : cRC} {s : cS} (hr : RCH sc rc N) (hS : CM A K S s) : am_L (am_PP sc) N d 130 0 [some (.ref 7), none, none] [] S (fun o S1 => ∃ s1 w, c130 rc s = some (s1, w) ∧ o = cow w ∧ CX A K S1 s1) := by
  refine l2 (v := 7) hi_130_0 rfl ?_
  refine l32 (as := [.ref 7]) (la := [some (.ref 7)]) (rest := []) hi_130_1 (am_hd0 (M := 130) (by decide) 1) rfl rfl rfl (fun N' d' _ => lc98 (N := N') (d := d') hS ) ?_ (fun _ q => nomatch q.1)
  rintro v3 S1 ⟨ev3, h2⟩
  cases ev3
  show am_L _ _ _ _ _ [some (.ref 7), none, none] [.int (c98 s)] _ _
  refine l3 (ls' := [some (.ref 7), some (.int (c98 s)), none]) hi_130_4 (Nat.le_of_ble_eq_true rfl) rfl ?_
  refine l2 (v := 7) hi_130_5 rfl ?_
  refine l0 hi_130_6 ?_
  refine l0 hi_130_8 ?_
  refine l0 hi_130_9 ?_
  refine l2 (v := 7) hi_130_10 rfl ?_
  refine l20s (v := .ref 2) h2 cs_7 hi_130_11 rfl ?_
  refine l32 (as := [.ref 2]) (la := [some (.ref 2)]) (rest := [.int 0, .int 0, .int 34, .ref 7]) hi_130_14 (am_hd0 (M := 130) (by decide) 14) rfl rfl rfl (fun N' d' _ => lc63 (N := N') (d := d') h2 ) ?_ (fun _ q => nomatch q.1)
  rintro v6 S4 ⟨ev6, h5⟩
  cases ev6
  show am_L _ _ _ _ _ [some (.ref 7), some (.int (c98 s)), none] [.int (c63 s), .int 0, .int 0, .int 34, .ref 7] _ _
  refine l32 (as := [.ref 7, .int 34, .int 0, .int 0, .int (c63 s)]) (la := [some (.ref 7), some (.int 34), some (.int 0), some (.int 0), some (.int (c63 s))]) (rest := []) hi_130_17 (am_hd0 (M := 130) (by decide) 17) rfl rfl rfl (fun N' d' _ => lc78 (N := N') (d := d') h5 ) ?_ (fun _ q => nomatch q.1)
  rintro v9 S7 ⟨ev9, h8⟩
  cases ev9
  show am_L _ _ _ _ _ [some (.ref 7), some (.int (c98 s)), none] [.int ((c78 s 34 0 0 (c63 s)).2)] _ _
  refine am_L.mono (lc130_20 hr h8 ) ?_
  rintro o S1 ⟨s1, w1, q0, q1, A_, K_, q2, q3⟩
  exact ⟨s1, w1, (rfl).trans q0, q1, A_, K_, cX.trans cX.rfl q2, q3⟩
noncomputable def c133_165 (rc : cRC) (s : cS) : Option (cS × Option Int32) := some ((c132 s s.now).1, some 0)
theorem lc133_165 {sc : Nat × (Nat → Int32)} {N d : Nat} {A : Nat → Nat} {K : Nat} {S : am_S} {rc : cRC} {s : cS} {o1 : Option Value} {o2 : Option Value} (hr : RCH sc rc N) (hS : CM A K S s) : am_L (am_PP sc) N d 133 165 [some (.ref 7), o1, o2] [] S (fun o S1 => ∃ s1 w, c133_165 rc s = some (s1, w) ∧ o = cow w ∧ CX A K S1 s1) := by
  refine l2 (v := 7) hi_133_165 rfl ?_
  refine l20s (v := .ref 12) hS cs_7 hi_133_166 rfl ?_
  refine l20s (v := .ref 23) hS cs_12 hi_133_169 rfl ?_
  refine l2 (v := 7) hi_133_172 rfl ?_
  refine l20s (v := .ref 12) hS cs_7 hi_133_173 rfl ?_
  refine l32 (as := [.ref 12]) (la := [some (.ref 12)]) (rest := [.ref 23]) hi_133_176 (am_hd0 (M := 133) (by decide) 176) rfl rfl rfl (fun N' d' _ => lc79 (N := N') (d := d') hS) ?_ (fun _ q => nomatch q.1)
  rintro v3 S1 ⟨ev3, h2⟩
  cases ev3
  show am_L _ _ _ _ _ [some (.ref 7), o1, o2] [.ref (A s.now), .ref 23] _ _
  refine l32 (as := [.ref 23, .ref (A s.now)]) (la := [some (.ref 23), some (.ref (A s.now)), none, none]) (rest := []) hi_133_179 (am_hd0 (M := 133) (by decide) 179) rfl rfl rfl (fun N' d' _ => lc132 (N := N') (d := d') h2 (show s.now ≤ K from CM.nl (s := s) hS)) ?_ (fun _ q => nomatch q.1)
  rintro v6 S4 ⟨ev6, h5⟩
  cases ev6
  show am_L _ _ _ _ _ [some (.ref 7), o1, o2] [] _ _
  exact l35 hi_133_182 ⟨(c132 s s.now).1, some 0, (rfl), rfl, A, K, cX.rfl, h5⟩
noncomputable def c133_158 (rc : cRC) (s : cS) : Option (cS × Option Int32) := c133_165 rc ((c81 s).1)
theorem lc133_158 {sc : Nat × (Nat → Int32)} {N d : Nat} {A : Nat → Nat} {K : Nat} {S : am_S} {rc : cRC} {s : cS} {o1 : Option Value} {o2 : Option Value} (hr : RCH sc rc N) (hS : CM A K S s) : am_L (am_PP sc) N d 133 158 [some (.ref 7), o1, o2] [] S (fun o S1 => ∃ s1 w, c133_158 rc s = some (s1, w) ∧ o = cow w ∧ CX A K S1 s1) := by
  refine l2 (v := 7) hi_133_158 rfl ?_
  refine l20s (v := .ref 12) hS cs_7 hi_133_159 rfl ?_
  refine l32 (as := [.ref 12]) (la := [some (.ref 12), none]) (rest := []) hi_133_162 (am_hd0 (M := 133) (by decide) 162) rfl rfl rfl (fun N' d' _ => lc81 (N := N') (d := d') hS ) ?_ (fun _ q => nomatch q.1)
  rintro v3 S1 ⟨ev3, h2⟩
  cases ev3
  show am_L _ _ _ _ _ [some (.ref 7), o1, o2] [] _ _
  refine am_L.mono (lc133_165 hr h2 ) ?_
  rintro o S1 ⟨s1, w1, q0, q1, A_, K_, q2, q3⟩
  exact ⟨s1, w1, (rfl).trans q0, q1, A_, K_, cX.trans cX.rfl q2, q3⟩
noncomputable def c133_157 (rc : cRC) (s : cS) (z0 : Int32) : Option (cS × Option Int32) := c133_158 rc s
theorem lc133_157 {sc : Nat × (Nat → Int32)} {N d : Nat} {A : Nat → Nat} {K : Nat} {S : am_S} {rc : cRC} {s : cS} {z0 : Int32} {o1 : Option Value} {o2 : Option Value} (hr : RCH sc rc N) (hS : CM A K S s) : am_L (am_PP sc) N d 133 157 [some (.ref 7), o1, o2] [.int z0] S (fun o S1 => ∃ s1 w, c133_157 rc s z0 = some (s1, w) ∧ o = cow w ∧ CX A K S1 s1) := by
  refine l6i hi_133_157 ?_
  refine am_L.mono (lc133_158 hr hS ) ?_
  rintro o S1 ⟨s1, w1, q0, q1, A_, K_, q2, q3⟩
  exact ⟨s1, w1, (rfl).trans q0, q1, A_, K_, cX.trans cX.rfl q2, q3⟩
noncomputable def c133_144 (rc : cRC) (s : cS) (z0 : Int32) : Option (cS × Option Int32) := c133_158 rc s
theorem lc133_144 {sc : Nat × (Nat → Int32)} {N d : Nat} {A : Nat → Nat} {K : Nat} {S : am_S} {rc : cRC} {s : cS} {z0 : Int32} {o1 : Option Value} {o2 : Option Value} (hr : RCH sc rc N) (hS : CM A K S s) : am_L (am_PP sc) N d 133 144 [some (.ref 7), o1, o2] [.int z0] S (fun o S1 => ∃ s1 w, c133_144 rc s z0 = some (s1, w) ∧ o = cow w ∧ CX A K S1 s1) := by
  refine l6i hi_133_144 ?_
  refine l18 hi_133_145 ?_
  refine am_L.mono (lc133_158 hr hS ) ?_
  rintro o S1 ⟨s1, w1, q0, q1, A_, K_, q2, q3⟩
  exact ⟨s1, w1, (rfl).trans q0, q1, A_, K_, cX.trans cX.rfl q2, q3⟩
noncomputable def c133_129 (rc : cRC) (s : cS) : Option (cS × Option Int32) := c133_144 rc ((c78 s 33 (c82 s) 0 0).1) ((c78 s 33 (c82 s) 0 0).2)
theorem lc133_129 {sc : Nat × (Nat → Int32)} {N d : Nat} {A : Nat → Nat} {K : Nat} {S : am_S} {rc : cRC} {s : cS} {o1 : Option Value} {o2 : Option Value} (hr : RCH sc rc N) (hS : CM A K S s) : am_L (am_PP sc) N d 133 129 [some (.ref 7), o1, o2] [] S (fun o S1 => ∃ s1 w, c133_129 rc s = some (s1, w) ∧ o = cow w ∧ CX A K S1 s1) := by
  refine l2 (v := 7) hi_133_129 rfl ?_
  refine l0 hi_133_130 ?_
  refine l2 (v := 7) hi_133_132 rfl ?_
  refine l20s (v := .ref 12) hS cs_7 hi_133_133 rfl ?_
  refine l32 (as := [.ref 12]) (la := [some (.ref 12)]) (rest := [.int 33, .ref 7]) hi_133_136 (am_hd0 (M := 133) (by decide) 136) rfl rfl rfl (fun N' d' _ => lc82 (N := N') (d := d') hS ) ?_ (fun _ q => nomatch q.1)
  rintro v3 S1 ⟨ev3, h2⟩
  cases ev3
  show am_L _ _ _ _ _ [some (.ref 7), o1, o2] [.int (c82 s), .int 33, .ref 7] _ _
  refine l0 hi_133_139 ?_
  refine l0 hi_133_140 ?_
  refine l32 (as := [.ref 7, .int 33, .int (c82 s), .int 0, .int 0]) (la := [some (.ref 7), some (.int 33), some (.int (c82 s)), some (.int 0), some (.int 0)]) (rest := []) hi_133_141 (am_hd0 (M := 133) (by decide) 141) rfl rfl rfl (fun N' d' _ => lc78 (N := N') (d := d') h2 ) ?_ (fun _ q => nomatch q.1)
  rintro v6 S4 ⟨ev6, h5⟩
  cases ev6
  show am_L _ _ _ _ _ [some (.ref 7), o1, o2] [.int ((c78 s 33 (c82 s) 0 0).2)] _ _
  refine am_L.mono (lc133_144 hr h5 ) ?_
  rintro o S1 ⟨s1, w1, q0, q1, A_, K_, q2, q3⟩
  exact ⟨s1, w1, (rfl).trans q0, q1, A_, K_, cX.trans cX.rfl q2, q3⟩
noncomputable def c133_116 (rc : cRC) (s : cS) (y2 : Int32) (z0 : Int32) : Option (cS × Option Int32) := c133_129 rc ((c109 s s.now y2 1).1)
theorem lc133_116 {sc : Nat × (Nat → Int32)} {N d : Nat} {A : Nat → Nat} {K : Nat} {S : am_S} {rc : cRC} {s : cS} {y2 : Int32} {z0 : Int32} {o1 : Option Value} (hr : RCH sc rc N) (hS : CM A K S s) : am_L (am_PP sc) N d 133 116 [some (.ref 7), o1, some (.int y2)] [.int z0] S (fun o S1 => ∃ s1 w, c133_116 rc s y2 z0 = some (s1, w) ∧ o = cow w ∧ CX A K S1 s1) := by
  refine l6i hi_133_116 ?_
  refine l2 (v := 7) hi_133_117 rfl ?_
  refine l20s (v := .ref 12) hS cs_7 hi_133_118 rfl ?_
  refine l32 (as := [.ref 12]) (la := [some (.ref 12)]) (rest := []) hi_133_121 (am_hd0 (M := 133) (by decide) 121) rfl rfl rfl (fun N' d' _ => lc79 (N := N') (d := d') hS) ?_ (fun _ q => nomatch q.1)
  rintro v3 S1 ⟨ev3, h2⟩
  cases ev3
  show am_L _ _ _ _ _ [some (.ref 7), o1, some (.int y2)] [.ref (A s.now)] _ _
  refine l1 (v := y2) hi_133_124 rfl ?_
  refine l0 hi_133_125 ?_
  refine l32 (as := [.ref (A s.now), .int y2, .int 1]) (la := [some (.ref (A s.now)), some (.int y2), some (.int 1)]) (rest := []) hi_133_126 (am_hd0 (M := 133) (by decide) 126) rfl rfl rfl (fun N' d' _ => lc109 (N := N') (d := d') h2 (show s.now ≤ K from CM.nl (s := s) hS)) ?_ (fun _ q => nomatch q.1)
  rintro v6 S4 ⟨ev6, h5⟩
  cases ev6
  show am_L _ _ _ _ _ [some (.ref 7), o1, some (.int y2)] [] _ _
  refine am_L.mono (lc133_129 hr h5 ) ?_
  rintro o S1 ⟨s1, w1, q0, q1, A_, K_, q2, q3⟩
  exact ⟨s1, w1, (rfl).trans q0, q1, A_, K_, cX.trans cX.rfl q2, q3⟩
noncomputable def c133_106 (rc : cRC) (s : cS) (y1 : Int32) (y2 : Int32) (z0 : Int32) : Option (cS × Option Int32) := c133_116 rc ((c78 s 36 y1 0 0).1) y2 ((c78 s 36 y1 0 0).2)
theorem lc133_106 {sc : Nat × (Nat → Int32)} {N d : Nat} {A : Nat → Nat} {K : Nat} {S : am_S} {rc : cRC} {s : cS} {y1 : Int32} {y2 : Int32} {z0 : Int32} (hr : RCH sc rc N) (hS : CM A K S s) : am_L (am_PP sc) N d 133 106 [some (.ref 7), some (.int y1), some (.int y2)] [.int z0] S (fun o S1 => ∃ s1 w, c133_106 rc s y1 y2 z0 = some (s1, w) ∧ o = cow w ∧ CX A K S1 s1) := by
  refine l6i hi_133_106 ?_
  refine l2 (v := 7) hi_133_107 rfl ?_
  refine l0 hi_133_108 ?_
  refine l1 (v := y1) hi_133_110 rfl ?_
  refine l0 hi_133_111 ?_
  refine l0 hi_133_112 ?_
  refine l32 (as := [.ref 7, .int 36, .int y1, .int 0, .int 0]) (la := [some (.ref 7), some (.int 36), some (.int y1), some (.int 0), some (.int 0)]) (rest := []) hi_133_113 (am_hd0 (M := 133) (by decide) 113) rfl rfl rfl (fun N' d' _ => lc78 (N := N') (d := d') hS ) ?_ (fun _ q => nomatch q.1)
  rintro v3 S1 ⟨ev3, h2⟩
  cases ev3
  show am_L _ _ _ _ _ [some (.ref 7), some (.int y1), some (.int y2)] [.int ((c78 s 36 y1 0 0).2)] _ _
  refine am_L.mono (lc133_116 hr h2 ) ?_
  rintro o S1 ⟨s1, w1, q0, q1, A_, K_, q2, q3⟩
  exact ⟨s1, w1, (rfl).trans q0, q1, A_, K_, cX.trans cX.rfl q2, q3⟩
noncomputable def c133_90 (rc : cRC) (s : cS) (y1 : Int32) (z0 : Int32) : Option (cS × Option Int32) := c133_106 rc ((c78 s 33 (c82 s) 0 0).1) y1 z0 ((c78 s 33 (c82 s) 0 0).2)
theorem lc133_90 {sc : Nat × (Nat → Int32)} {N d : Nat} {A : Nat → Nat} {K : Nat} {S : am_S} {rc : cRC} {s : cS} {y1 : Int32} {z0 : Int32} {o2 : Option Value} (hr : RCH sc rc N) (hS : CM A K S s) : am_L (am_PP sc) N d 133 90 [some (.ref 7), some (.int y1), o2] [.int z0] S (fun o S1 => ∃ s1 w, c133_90 rc s y1 z0 = some (s1, w) ∧ o = cow w ∧ CX A K S1 s1) := by
  refine l3 (ls' := [some (.ref 7), some (.int y1), some (.int z0)]) hi_133_90 (Nat.le_of_ble_eq_true rfl) rfl ?_
  refine l2 (v := 7) hi_133_91 rfl ?_
  refine l0 hi_133_92 ?_
  refine l2 (v := 7) hi_133_94 rfl ?_
  refine l20s (v := .ref 12) hS cs_7 hi_133_95 rfl ?_
  refine l32 (as := [.ref 12]) (la := [some (.ref 12)]) (rest := [.int 33, .ref 7]) hi_133_98 (am_hd0 (M := 133) (by decide) 98) rfl rfl rfl (fun N' d' _ => lc82 (N := N') (d := d') hS ) ?_ (fun _ q => nomatch q.1)
  rintro v3 S1 ⟨ev3, h2⟩
  cases ev3
  show am_L _ _ _ _ _ [some (.ref 7), some (.int y1), some (.int z0)] [.int (c82 s), .int 33, .ref 7] _ _
  refine l0 hi_133_101 ?_
  refine l0 hi_133_102 ?_
  refine l32 (as := [.ref 7, .int 33, .int (c82 s), .int 0, .int 0]) (la := [some (.ref 7), some (.int 33), some (.int (c82 s)), some (.int 0), some (.int 0)]) (rest := []) hi_133_103 (am_hd0 (M := 133) (by decide) 103) rfl rfl rfl (fun N' d' _ => lc78 (N := N') (d := d') h2 ) ?_ (fun _ q => nomatch q.1)
  rintro v6 S4 ⟨ev6, h5⟩
  cases ev6
  show am_L _ _ _ _ _ [some (.ref 7), some (.int y1), some (.int z0)] [.int ((c78 s 33 (c82 s) 0 0).2)] _ _
  refine am_L.mono (lc133_106 hr h5 ) ?_
  rintro o S1 ⟨s1, w1, q0, q1, A_, K_, q2, q3⟩
  exact ⟨s1, w1, (rfl).trans q0, q1, A_, K_, cX.trans cX.rfl q2, q3⟩
noncomputable def c133_71 (rc : cRC) (s : cS) (y1 : Int32) : Option (cS × Option Int32) := if (c129 s) = 0 then c133_157 rc ((c78 s 35 y1 0 0).1) ((c78 s 35 y1 0 0).2) else c133_90 rc ((c78 s 37 0 0 0).1) y1 ((c78 s 37 0 0 0).2)
theorem lc133_71 {sc : Nat × (Nat → Int32)} {N d : Nat} {A : Nat → Nat} {K : Nat} {S : am_S} {rc : cRC} {s : cS} {y1 : Int32} {o2 : Option Value} (hr : RCH sc rc N) (hS : CM A K S s) : am_L (am_PP sc) N d 133 71 [some (.ref 7), some (.int y1), o2] [] S (fun o S1 => ∃ s1 w, c133_71 rc s y1 = some (s1, w) ∧ o = cow w ∧ CX A K S1 s1) := by
  refine l2 (v := 7) hi_133_71 rfl ?_
  refine l20s (v := .ref 12) hS cs_7 hi_133_72 rfl ?_
  refine l32 (as := [.ref 12]) (la := [some (.ref 12)]) (rest := []) hi_133_75 (am_hd0 (M := 133) (by decide) 75) rfl rfl rfl (fun N' d' _ => lc129 (N := N') (d := d') hS ) ?_ (fun _ q => nomatch q.1)
  rintro v3 S1 ⟨ev3, h2⟩
  cases ev3
  show am_L _ _ _ _ _ [some (.ref 7), some (.int y1), o2] [.int (c129 s)] _ _
  by_cases cn4 : (c129 s) = 0
  · refine l12t hi_133_78 (decide_eq_true cn4) ?_
    refine l2 (v := 7) hi_133_148 rfl ?_
    refine l0 hi_133_149 ?_
    refine l1 (v := y1) hi_133_151 rfl ?_
    refine l0 hi_133_152 ?_
    refine l0 hi_133_153 ?_
    refine l32 (as := [.ref 7, .int 35, .int y1, .int 0, .int 0]) (la := [some (.ref 7), some (.int 35), some (.int y1), some (.int 0), some (.int 0)]) (rest := []) hi_133_154 (am_hd0 (M := 133) (by decide) 154) rfl rfl rfl (fun N' d' _ => lc78 (N := N') (d := d') h2 ) ?_ (fun _ q => nomatch q.1)
    rintro v7 S5 ⟨ev7, h6⟩
    cases ev7
    show am_L _ _ _ _ _ [some (.ref 7), some (.int y1), o2] [.int ((c78 s 35 y1 0 0).2)] _ _
    refine am_L.mono (lc133_157 hr h6 ) ?_
    rintro o S1 ⟨s1, w1, q0, q1, A_, K_, q2, q3⟩
    exact ⟨s1, w1, (show c133_71 rc s y1 = c133_157 rc ((c78 s 35 y1 0 0).1) ((c78 s 35 y1 0 0).2) from by unfold c133_71; rw [if_pos cn4]).trans q0, q1, A_, K_, cX.trans cX.rfl q2, q3⟩
  · refine l12f hi_133_78 (decide_eq_false cn4) ?_
    refine l2 (v := 7) hi_133_81 rfl ?_
    refine l0 hi_133_82 ?_
    refine l0 hi_133_84 ?_
    refine l0 hi_133_85 ?_
    refine l0 hi_133_86 ?_
    refine l32 (as := [.ref 7, .int 37, .int 0, .int 0, .int 0]) (la := [some (.ref 7), some (.int 37), some (.int 0), some (.int 0), some (.int 0)]) (rest := []) hi_133_87 (am_hd0 (M := 133) (by decide) 87) rfl rfl rfl (fun N' d' _ => lc78 (N := N') (d := d') h2 ) ?_ (fun _ q => nomatch q.1)
    rintro v10 S8 ⟨ev10, h9⟩
    cases ev10
    show am_L _ _ _ _ _ [some (.ref 7), some (.int y1), o2] [.int ((c78 s 37 0 0 0).2)] _ _
    refine am_L.mono (lc133_90 hr h9 ) ?_
    rintro o S1 ⟨s1, w1, q0, q1, A_, K_, q2, q3⟩
    exact ⟨s1, w1, (show c133_71 rc s y1 = c133_90 rc ((c78 s 37 0 0 0).1) y1 ((c78 s 37 0 0 0).2) from by unfold c133_71; rw [if_neg cn4]).trans q0, q1, A_, K_, cX.trans cX.rfl q2, q3⟩
noncomputable def c133_66 (rc : cRC) (s : cS) (y1 : Int32) (z0 : Int32) : Option (cS × Option Int32) := rbd (rc 70 s 0 0 0 0 0 0 0) (fun s6 w4 => c133_71 rc s6 y1)
theorem lc133_66 {sc : Nat × (Nat → Int32)} {N d : Nat} {A : Nat → Nat} {K : Nat} {S : am_S} {rc : cRC} {s : cS} {y1 : Int32} {z0 : Int32} {o2 : Option Value} (hr : RCH sc rc N) (hS : CM A K S s) : am_L (am_PP sc) N d 133 66 [some (.ref 7), some (.int y1), o2] [.int z0] S (fun o S1 => ∃ s1 w, c133_66 rc s y1 z0 = some (s1, w) ∧ o = cow w ∧ CX A K S1 s1) := by
  refine l6i hi_133_66 ?_
  refine l2 (v := 7) hi_133_67 rfl ?_
  refine l32 (as := [.ref 7]) (la := [some (.ref 7), none, none, none, none, none]) (rest := []) hi_133_68 (am_hd0 (M := 133) (by decide) 68) rfl rfl rfl (fun N' d' hN_ => hr.h70 (N' := N') (d := d') hN_ hS) ?_ ?_
  · rintro v3 S1 ⟨s6, w_, e5, q1, A7, K8, x9, h2⟩
    obtain ⟨w4, rfl, rfl⟩ := cow_some q1
    show am_L _ _ _ _ _ [some (.ref 7), some (.int y1), o2] [] _ _
    refine am_L.mono (lc133_71 hr h2 ) ?_
    rintro o S1 ⟨s1, w1, q0, q1, A_, K_, q2, q3⟩
    exact ⟨s1, w1, (show c133_66 rc s y1 z0 = c133_71 rc s6 y1 from by unfold c133_66; rw [rbd_s e5]).trans q0, q1, A_, K_, cX.trans (cX.trans cX.rfl x9) q2, q3⟩
  · rintro S1 ⟨s1, w1, q0, q1, A_, K_, q2, q3⟩
    obtain rfl := cow_none q1
    exact ⟨s1, none, (by unfold c133_66; rw [rbd_n q0]), rfl, A_, K_, cX.trans cX.rfl q2, q3⟩
noncomputable def c133_57 (rc : cRC) (s : cS) (y1 : Int32) : Option (cS × Option Int32) := rbd (some (c64 s 30)) (fun _ w4 => c133_66 rc ((c64 s 30).1) y1 w4)
theorem lc133_57 {sc : Nat × (Nat → Int32)} {N d : Nat} {A : Nat → Nat} {K : Nat} {S : am_S} {rc : cRC} {s : cS} {y1 : Int32} {o2 : Option Value} (hr : RCH sc rc N) (hS : CM A K S s) : am_L (am_PP sc) N d 133 57 [some (.ref 7), some (.int y1), o2] [] S (fun o S1 => ∃ s1 w, c133_57 rc s y1 = some (s1, w) ∧ o = cow w ∧ CX A K S1 s1) := by
  refine l2 (v := 7) hi_133_57 rfl ?_
  refine l20s (v := .ref 2) hS cs_7 hi_133_58 rfl ?_
  refine l0 hi_133_61 ?_
  refine l32 (as := [.ref 2, .int 30]) (la := [some (.ref 2), some (.int 30)]) (rest := []) hi_133_63 (am_hd0 (M := 133) (by decide) 63) rfl rfl rfl (fun N' d' hN_ => lc64 (N := N') (d := d') hS ) ?_ ?_
  · rintro v3 S1 ⟨ev, h2⟩
    obtain ⟨w4, e5, rfl⟩ := cov_some ev
    show am_L _ _ _ _ _ [some (.ref 7), some (.int y1), o2] [.int w4] _ _
    refine am_L.mono (lc133_66 hr h2 ) ?_
    rintro o S1 ⟨s1, w1, q0, q1, A_, K_, q2, q3⟩
    exact ⟨s1, w1, (show c133_57 rc s y1 = c133_66 rc ((c64 s 30).1) y1 w4 from by unfold c133_57; rw [rbd_th e5]).trans q0, q1, A_, K_, cX.trans cX.rfl q2, q3⟩
  · rintro S1 ⟨q1, q2⟩
    have hn := cov_none q1
    exact ⟨_, none, (by unfold c133_57; rw [rbd_thn hn]), rfl, A, K, cX.rfl, q2⟩
noncomputable def c133_53 (rc : cRC) (s : cS) (y1 : Int32) : Option (cS × Option Int32) := rbd (rc 52 s 0 0 0 0 0 0 0) (fun s6 w4 => c133_57 rc s6 y1)
theorem lc133_53 {sc : Nat × (Nat → Int32)} {N d : Nat} {A : Nat → Nat} {K : Nat} {S : am_S} {rc : cRC} {s : cS} {y1 : Int32} {o2 : Option Value} (hr : RCH sc rc N) (hS : CM A K S s) : am_L (am_PP sc) N d 133 53 [some (.ref 7), some (.int y1), o2] [] S (fun o S1 => ∃ s1 w, c133_53 rc s y1 = some (s1, w) ∧ o = cow w ∧ CX A K S1 s1) := by
  refine l2 (v := 7) hi_133_53 rfl ?_
  refine l32 (as := [.ref 7]) (la := [some (.ref 7), none]) (rest := []) hi_133_54 (am_hd0 (M := 133) (by decide) 54) rfl rfl rfl (fun N' d' hN_ => hr.h52 (N' := N') (d := d') hN_ hS) ?_ ?_
  · rintro v3 S1 ⟨s6, w_, e5, q1, A7, K8, x9, h2⟩
    obtain ⟨w4, rfl, rfl⟩ := cow_some q1
    show am_L _ _ _ _ _ [some (.ref 7), some (.int y1), o2] [] _ _
    refine am_L.mono (lc133_57 hr h2 ) ?_
    rintro o S1 ⟨s1, w1, q0, q1, A_, K_, q2, q3⟩
    exact ⟨s1, w1, (show c133_53 rc s y1 = c133_57 rc s6 y1 from by unfold c133_53; rw [rbd_s e5]).trans q0, q1, A_, K_, cX.trans (cX.trans cX.rfl x9) q2, q3⟩
  · rintro S1 ⟨s1, w1, q0, q1, A_, K_, q2, q3⟩
    obtain rfl := cow_none q1
    exact ⟨s1, none, (by unfold c133_53; rw [rbd_n q0]), rfl, A_, K_, cX.trans cX.rfl q2, q3⟩
noncomputable def c133_46 (rc : cRC) (s : cS) (y1 : Int32) : Option (cS × Option Int32) := c133_53 rc ((c51 s).1) y1
theorem lc133_46 {sc : Nat × (Nat → Int32)} {N d : Nat} {A : Nat → Nat} {K : Nat} {S : am_S} {rc : cRC} {s : cS} {y1 : Int32} {o2 : Option Value} (hr : RCH sc rc N) (hS : CM A K S s) : am_L (am_PP sc) N d 133 46 [some (.ref 7), some (.int y1), o2] [] S (fun o S1 => ∃ s1 w, c133_46 rc s y1 = some (s1, w) ∧ o = cow w ∧ CX A K S1 s1) := by
  refine l2 (v := 7) hi_133_46 rfl ?_
  refine l20s (v := .ref 12) hS cs_7 hi_133_47 rfl ?_
  refine l32 (as := [.ref 12]) (la := [some (.ref 12)]) (rest := []) hi_133_50 (am_hd0 (M := 133) (by decide) 50) rfl rfl rfl (fun N' d' _ => lc51 (N := N') (d := d') hS ) ?_ (fun _ q => nomatch q.1)
  rintro v3 S1 ⟨ev3, h2⟩
  cases ev3
  show am_L _ _ _ _ _ [some (.ref 7), some (.int y1), o2] [] _ _
  refine am_L.mono (lc133_53 hr h2 ) ?_
  rintro o S1 ⟨s1, w1, q0, q1, A_, K_, q2, q3⟩
  exact ⟨s1, w1, (rfl).trans q0, q1, A_, K_, cX.trans cX.rfl q2, q3⟩
noncomputable def c133_28 (rc : cRC) (s : cS) (y1 : Int32) (z0 : Int32) : Option (cS × Option Int32) := c133_46 rc ((c131 s (c75 s)).1) y1
theorem lc133_28 {sc : Nat × (Nat → Int32)} {N d : Nat} {A : Nat → Nat} {K : Nat} {S : am_S} {rc : cRC} {s : cS} {y1 : Int32} {z0 : Int32} {o2 : Option Value} (hr : RCH sc rc N) (hS : CM A K S s) : am_L (am_PP sc) N d 133 28 [some (.ref 7), some (.int y1), o2] [.int z0] S (fun o S1 => ∃ s1 w, c133_28 rc s y1 z0 = some (s1, w) ∧ o = cow w ∧ CX A K S1 s1) := by
  refine l6i hi_133_28 ?_
  refine l2 (v := 7) hi_133_29 rfl ?_
  refine l20s (v := .ref 12) hS cs_7 hi_133_30 rfl ?_
  refine l20s (v := .ref 23) hS cs_12 hi_133_33 rfl ?_
  refine l2 (v := 7) hi_133_36 rfl ?_
  refine l20s (v := .ref 12) hS cs_7 hi_133_37 rfl ?_
  refine l32 (as := [.ref 12]) (la := [some (.ref 12)]) (rest := [.ref 23]) hi_133_40 (am_hd0 (M := 133) (by decide) 40) rfl rfl rfl (fun N' d' _ => lc75 (N := N') (d := d') hS ) ?_ (fun _ q => nomatch q.1)
  rintro v3 S1 ⟨ev3, h2⟩
  cases ev3
  show am_L _ _ _ _ _ [some (.ref 7), some (.int y1), o2] [.int (c75 s), .ref 23] _ _
  refine l32 (as := [.ref 23, .int (c75 s)]) (la := [some (.ref 23), some (.int (c75 s))]) (rest := []) hi_133_43 (am_hd0 (M := 133) (by decide) 43) rfl rfl rfl (fun N' d' _ => lc131 (N := N') (d := d') h2 ) ?_ (fun _ q => nomatch q.1)
  rintro v6 S4 ⟨ev6, h5⟩
  cases ev6
  show am_L _ _ _ _ _ [some (.ref 7), some (.int y1), o2] [] _ _
  refine am_L.mono (lc133_46 hr h5 ) ?_
  rintro o S1 ⟨s1, w1, q0, q1, A_, K_, q2, q3⟩
  exact ⟨s1, w1, (rfl).trans q0, q1, A_, K_, cX.trans cX.rfl q2, q3⟩
noncomputable def c133_20 (rc : cRC) (s : cS) (y1 : Int32) (z0 : Int32) : Option (cS × Option Int32) := rbd (some (c55 s)) (fun _ w4 => c133_28 rc ((c55 s).1) y1 w4)
theorem lc133_20 {sc : Nat × (Nat → Int32)} {N d : Nat} {A : Nat → Nat} {K : Nat} {S : am_S} {rc : cRC} {s : cS} {y1 : Int32} {z0 : Int32} {o2 : Option Value} (hr : RCH sc rc N) (hS : CM A K S s) : am_L (am_PP sc) N d 133 20 [some (.ref 7), some (.int y1), o2] [.int z0] S (fun o S1 => ∃ s1 w, c133_20 rc s y1 z0 = some (s1, w) ∧ o = cow w ∧ CX A K S1 s1) := by
  refine l6i hi_133_20 ?_
  refine l2 (v := 7) hi_133_21 rfl ?_
  refine l20s (v := .ref 2) hS cs_7 hi_133_22 rfl ?_
  refine l32 (as := [.ref 2]) (la := [some (.ref 2), none]) (rest := []) hi_133_25 (am_hd0 (M := 133) (by decide) 25) rfl rfl rfl (fun N' d' hN_ => lc55 (N := N') (d := d') hS ) ?_ ?_
  · rintro v3 S1 ⟨ev, h2⟩
    obtain ⟨w4, e5, rfl⟩ := cov_some ev
    show am_L _ _ _ _ _ [some (.ref 7), some (.int y1), o2] [.int w4] _ _
    refine am_L.mono (lc133_28 hr h2 ) ?_
    rintro o S1 ⟨s1, w1, q0, q1, A_, K_, q2, q3⟩
    exact ⟨s1, w1, (show c133_20 rc s y1 z0 = c133_28 rc ((c55 s).1) y1 w4 from by unfold c133_20; rw [rbd_th e5]).trans q0, q1, A_, K_, cX.trans cX.rfl q2, q3⟩
  · rintro S1 ⟨q1, q2⟩
    have hn := cov_none q1
    exact ⟨_, none, (by unfold c133_20; rw [rbd_thn hn]), rfl, A, K, cX.rfl, q2⟩
noncomputable def c133 (rc : cRC) (s : cS) : Option (cS × Option Int32) := c133_20 rc ((c78 s 34 0 0 (c63 s)).1) (c98 s) ((c78 s 34 0 0 (c63 s)).2)
theorem lc133 {sc : Nat × (Nat → Int32)} {N d : Nat} {A : Nat → Nat} {K : Nat} {S : am_S} {rc : cRC} {s : cS} (hr : RCH sc rc N) (hS : CM A K S s) : am_L (am_PP sc) N d 133 0 [some (.ref 7), none, none] [] S (fun o S1 => ∃ s1 w, c133 rc s = some (s1, w) ∧ o = cow w ∧ CX A K S1 s1) := by
  refine l2 (v := 7) hi_133_0 rfl ?_
  refine l32 (as := [.ref 7]) (la := [some (.ref 7)]) (rest := []) hi_133_1 (am_hd0 (M := 133) (by decide) 1) rfl rfl rfl (fun N' d' _ => lc98 (N := N') (d := d') hS ) ?_ (fun _ q => nomatch q.1)
  rintro v3 S1 ⟨ev3, h2⟩
  cases ev3
  show am_L _ _ _ _ _ [some (.ref 7), none, none] [.int (c98 s)] _ _
  refine l3 (ls' := [some (.ref 7), some (.int (c98 s)), none]) hi_133_4 (Nat.le_of_ble_eq_true rfl) rfl ?_
  refine l2 (v := 7) hi_133_5 rfl ?_
  refine l0 hi_133_6 ?_
  refine l0 hi_133_8 ?_
  refine l0 hi_133_9 ?_
  refine l2 (v := 7) hi_133_10 rfl ?_
  refine l20s (v := .ref 2) h2 cs_7 hi_133_11 rfl ?_
  refine l32 (as := [.ref 2]) (la := [some (.ref 2)]) (rest := [.int 0, .int 0, .int 34, .ref 7]) hi_133_14 (am_hd0 (M := 133) (by decide) 14) rfl rfl rfl (fun N' d' _ => lc63 (N := N') (d := d') h2 ) ?_ (fun _ q => nomatch q.1)
  rintro v6 S4 ⟨ev6, h5⟩
  cases ev6
  show am_L _ _ _ _ _ [some (.ref 7), some (.int (c98 s)), none] [.int (c63 s), .int 0, .int 0, .int 34, .ref 7] _ _
  refine l32 (as := [.ref 7, .int 34, .int 0, .int 0, .int (c63 s)]) (la := [some (.ref 7), some (.int 34), some (.int 0), some (.int 0), some (.int (c63 s))]) (rest := []) hi_133_17 (am_hd0 (M := 133) (by decide) 17) rfl rfl rfl (fun N' d' _ => lc78 (N := N') (d := d') h5 ) ?_ (fun _ q => nomatch q.1)
  rintro v9 S7 ⟨ev9, h8⟩
  cases ev9
  show am_L _ _ _ _ _ [some (.ref 7), some (.int (c98 s)), none] [.int ((c78 s 34 0 0 (c63 s)).2)] _ _
  refine am_L.mono (lc133_20 hr h8 ) ?_
  rintro o S1 ⟨s1, w1, q0, q1, A_, K_, q2, q3⟩
  exact ⟨s1, w1, (rfl).trans q0, q1, A_, K_, cX.trans cX.rfl q2, q3⟩
