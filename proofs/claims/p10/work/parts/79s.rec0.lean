/-! THE CLASS: what each method does (printed by wip/p5/cw_run.py) -/
set_option maxRecDepth 4096
def c71_54 (rc : cRC) (s : cS) (y1 : Int32) (z0 : Int32) : Option (cS × Option Int32) := rc 71002 s 0 (y1 + 1) 0 0 0 0 0
theorem lc71_54 {sc : Nat × (Nat → Int32)} {N d : Nat} {A : Nat → Nat} {K : Nat} {S : am_S} {rc : cRC} {s : cS} {y1 : Int32} {z0 : Int32} (hr : RCH sc rc (N + 1)) (hS : CM A K S s) : am_L (am_PP sc) N d 71 54 [some (.ref 7), some (.int y1)] [.int z0] S (fun o S1 => ∃ s1 w, c71_54 rc s y1 z0 = some (s1, w) ∧ o = cow w ∧ CX A K S1 s1) := by
  refine l6i hi_71_54 ?_
  refine l5 (v := y1) (ls' := [some (.ref 7), some (.int (y1 + 1))]) hi_71_55 rfl rfl ?_
  refine l18 hi_71_58 ?_
  refine am_L.mono (hr.h71002 (N' := N)  (Nat.lt_succ_self _) hS) ?_
  rintro o S1 ⟨s1, w1, q0, q1, A_, K_, q2, q3⟩
  exact ⟨s1, w1, (show c71_54 rc s y1 z0 = rc 71002 s 0 (y1 + 1) 0 0 0 0 0 from rfl).trans q0, q1, A_, K_, cX.trans cX.rfl q2, q3⟩
def c71_46 (rc : cRC) (s : cS) (y1 : Int32) (z0 : Int32) : Option (cS × Option Int32) := rbd (some (c55 s)) (fun _ w4 => c71_54 rc ((c55 s).1) y1 w4)
theorem lc71_46 {sc : Nat × (Nat → Int32)} {N d : Nat} {A : Nat → Nat} {K : Nat} {S : am_S} {rc : cRC} {s : cS} {y1 : Int32} {z0 : Int32} (hr : RCH sc rc (N + 1)) (hS : CM A K S s) : am_L (am_PP sc) N d 71 46 [some (.ref 7), some (.int y1)] [.int z0] S (fun o S1 => ∃ s1 w, c71_46 rc s y1 z0 = some (s1, w) ∧ o = cow w ∧ CX A K S1 s1) := by
  refine l6i hi_71_46 ?_
  refine l2 (v := 7) hi_71_47 rfl ?_
  refine l20s (v := .ref 2) hS cs_7 hi_71_48 rfl ?_
  refine l32 (as := [.ref 2]) (la := [some (.ref 2), none]) (rest := []) hi_71_51 (am_hd0 (M := 71) (by decide) 51) rfl rfl rfl (fun N' d' hN_ => lc55 (N := N') (d := d') hS ) ?_ ?_
  · rintro v3 S1 ⟨ev, h2⟩
    obtain ⟨w4, e5, rfl⟩ := cov_some ev
    show am_L _ _ _ _ _ [some (.ref 7), some (.int y1)] [.int w4] _ _
    refine am_L.mono (lc71_54 hr h2 ) ?_
    rintro o S1 ⟨s1, w1, q0, q1, A_, K_, q2, q3⟩
    exact ⟨s1, w1, (show c71_46 rc s y1 z0 = c71_54 rc ((c55 s).1) y1 w4 from by unfold c71_46; rw [rbd_th e5]).trans q0, q1, A_, K_, cX.trans cX.rfl q2, q3⟩
  · rintro S1 ⟨q1, q2⟩
    have hn := cov_none q1
    exact ⟨_, none, (by unfold c71_46; rw [rbd_thn hn]), rfl, A, K, cX.rfl, q2⟩
def c71_2 (rc : cRC) (s : cS) (y1 : Int32) : Option (cS × Option Int32) := if (c72 s (c53 s)) = 0 then some (s, some 0) else if 16384 < y1 then some (s, some 0) else c71_46 rc ((tad s (.s 8) 11 (c53 s) (c63 s) 0).1) y1 ((tad s (.s 8) 11 (c53 s) (c63 s) 0).2)
theorem lc71_2 {sc : Nat × (Nat → Int32)} {N d : Nat} {A : Nat → Nat} {K : Nat} {S : am_S} {rc : cRC} {s : cS} {y1 : Int32} (hr : RCH sc rc N) (hS : CM A K S s) : am_L (am_PP sc) N d 71 2 [some (.ref 7), some (.int y1)] [] S (fun o S1 => ∃ s1 w, c71_2 rc s y1 = some (s1, w) ∧ o = cow w ∧ CX A K S1 s1) := by
  cases N with
  | zero => exact l_zero
  | succ N =>
    refine l2d (v := 7) hi_71_2 rfl ?_
    refine l20s (v := .ref 2) hS cs_7 hi_71_3 rfl ?_
    refine l32 (as := [.ref 2]) (la := [some (.ref 2)]) (rest := []) hi_71_6 (am_hd0 (M := 71) (by decide) 6) rfl rfl rfl (fun N' d' _ => lc53 (N := N') (d := d') hS ) ?_ (fun _ q => nomatch q.1)
    rintro v3 S1 ⟨ev3, h2⟩
    cases ev3
    show am_L _ _ _ _ _ [some (.ref 7), some (.int y1)] [.int (c53 s)] _ _
    refine l32 (as := [.int (c53 s)]) (la := [some (.int (c53 s))]) (rest := []) hi_71_9 (am_hd0 (M := 71) (by decide) 9) rfl rfl rfl (fun N' d' _ => lc72 (N := N') (d := d') h2 ) ?_ (fun _ q => nomatch q.1)
    rintro v6 S4 ⟨ev6, h5⟩
    cases ev6
    show am_L _ _ _ _ _ [some (.ref 7), some (.int y1)] [.int (c72 s (c53 s))] _ _
    by_cases cn7 : (c72 s (c53 s)) = 0
    · refine l12t hi_71_12 (decide_eq_true cn7) ?_
      exact l35 hi_71_61 ⟨s, some 0, (by unfold c71_2; rw [if_pos cn7]), rfl, A, K, cX.rfl, h5⟩
    · refine l12f hi_71_12 (decide_eq_false cn7) ?_
      refine l1 (v := y1) hi_71_15 rfl ?_
      refine l0 hi_71_16 ?_
      by_cases cn8 : 16384 < y1
      · refine l13t hi_71_19 (decide_eq_true cn8) ?_
        exact l35 hi_71_61 ⟨s, some 0, (by unfold c71_2; rw [if_neg cn7]; rw [if_pos cn8]), rfl, A, K, cX.rfl, h5⟩
      · refine l13f hi_71_19 (decide_eq_false cn8) ?_
        refine l2 (v := 7) hi_71_22 rfl ?_
        refine l20s (v := .ref 8) h5 cs_7 hi_71_23 rfl ?_
        refine l0 hi_71_26 ?_
        refine l2 (v := 7) hi_71_28 rfl ?_
        refine l20s (v := .ref 2) h5 cs_7 hi_71_29 rfl ?_
        refine l32 (as := [.ref 2]) (la := [some (.ref 2)]) (rest := [.int 11, .ref 8]) hi_71_32 (am_hd0 (M := 71) (by decide) 32) rfl rfl rfl (fun N' d' _ => lc53 (N := N') (d := d') h5 ) ?_ (fun _ q => nomatch q.1)
        rintro v11 S9 ⟨ev11, h10⟩
        cases ev11
        show am_L _ _ _ _ _ [some (.ref 7), some (.int y1)] [.int (c53 s), .int 11, .ref 8] _ _
        refine l2 (v := 7) hi_71_35 rfl ?_
        refine l20s (v := .ref 2) h10 cs_7 hi_71_36 rfl ?_
        refine l32 (as := [.ref 2]) (la := [some (.ref 2)]) (rest := [.int (c53 s), .int 11, .ref 8]) hi_71_39 (am_hd0 (M := 71) (by decide) 39) rfl rfl rfl (fun N' d' _ => lc63 (N := N') (d := d') h10 ) ?_ (fun _ q => nomatch q.1)
        rintro v14 S12 ⟨ev14, h13⟩
        cases ev14
        show am_L _ _ _ _ _ [some (.ref 7), some (.int y1)] [.int (c63 s), .int (c53 s), .int 11, .ref 8] _ _
        refine l0 hi_71_42 ?_
        refine l32 (as := [.ref 8, .int 11, .int (c53 s), .int (c63 s), .int 0]) (la := [some (.ref 8), some (.int 11), some (.int (c53 s)), some (.int (c63 s)), some (.int 0), none]) (rest := []) hi_71_43 (am_hd0 (M := 71) (by decide) 43) rfl rfl rfl (fun N' d' _ => lc31 (N := N') (d := d') (t := (.s 8)) h13 ct_8) ?_ (fun _ q => nomatch q.1)
        rintro v17 S15 ⟨ev17, h16⟩
        cases ev17
        show am_L _ _ _ _ _ [some (.ref 7), some (.int y1)] [.int ((tad s (.s 8) 11 (c53 s) (c63 s) 0).2)] _ _
        refine am_L.mono (lc71_46 hr h16 ) ?_
        rintro o S1 ⟨s1, w1, q0, q1, A_, K_, q2, q3⟩
        exact ⟨s1, w1, (show c71_2 rc s y1 = c71_46 rc ((tad s (.s 8) 11 (c53 s) (c63 s) 0).1) y1 ((tad s (.s 8) 11 (c53 s) (c63 s) 0).2) from by unfold c71_2; rw [if_neg cn7]; rw [if_neg cn8]).trans q0, q1, A_, K_, cX.trans cX.rfl q2, q3⟩
def c71 (rc : cRC) (s : cS) : Option (cS × Option Int32) := c71_2 rc s 0
theorem lc71 {sc : Nat × (Nat → Int32)} {N d : Nat} {A : Nat → Nat} {K : Nat} {S : am_S} {rc : cRC} {s : cS} (hr : RCH sc rc N) (hS : CM A K S s) : am_L (am_PP sc) N d 71 0 [some (.ref 7), none] [] S (fun o S1 => ∃ s1 w, c71 rc s = some (s1, w) ∧ o = cow w ∧ CX A K S1 s1) := by
  refine l0 hi_71_0 ?_
  refine l3 (ls' := [some (.ref 7), some (.int 0)]) hi_71_1 (Nat.le_of_ble_eq_true rfl) rfl ?_
  refine am_L.mono (lc71_2  hr hS) ?_
  rintro o S1 ⟨s1, w1, q0, q1, A_, K_, q2, q3⟩
  exact ⟨s1, w1, (show c71 rc s = c71_2 rc s 0 from rfl).trans q0, q1, A_, K_, cX.trans cX.rfl q2, q3⟩
def c77_124 (rc : cRC) (s : cS) (y1 : Nat) : Option (cS × Option Int32) := some (nb s y1 4 (c75 s), some 0)
theorem lc77_124 {sc : Nat × (Nat → Int32)} {N d : Nat} {A : Nat → Nat} {K : Nat} {S : am_S} {rc : cRC} {s : cS} {y1 : Nat} {o2 : Option Value} {o3 : Option Value} {o4 : Option Value} (hr : RCH sc rc N) (hS : CM A K S s) (hy1 : y1 ≤ K) : am_L (am_PP sc) N d 77 124 [some (.ref 7), some (.ref (A y1)), o2, o3, o4] [] S (fun o S1 => ∃ s1 w, c77_124 rc s y1 = some (s1, w) ∧ o = cow w ∧ CX A K S1 s1) := by
  refine l2 (v := (A y1)) hi_77_124 rfl ?_
  refine l2 (v := 7) hi_77_125 rfl ?_
  refine l20s (v := .ref 12) hS cs_7 hi_77_126 rfl ?_
  refine l32 (as := [.ref 12]) (la := [some (.ref 12)]) (rest := [.ref (A y1)]) hi_77_129 (am_hd0 (M := 77) (by decide) 129) rfl rfl rfl (fun N' d' _ => lc75 (N := N') (d := d') hS ) ?_ (fun _ q => nomatch q.1)
  rintro v3 S1 ⟨ev3, h2⟩
  cases ev3
  show am_L _ _ _ _ _ [some (.ref 7), some (.ref (A y1)), o2, o3, o4] [.int (c75 s), .ref (A y1)] _ _
  refine l21b h2 hy1 hi_77_132 (fun _ _ => rfl) fun S4 h5 => ?_
  exact l35 hi_77_135 ⟨nb s y1 4 (c75 s), some 0, (rfl), rfl, A, K, cX.rfl, h5⟩
def c77_118 (rc : cRC) (s : cS) (y1 : Nat) (y2 : Int32) (y3 : Int32) : Option (cS × Option Int32) := rc 77020 s y1 y2 (y3 + 1) 0 0 0 0
theorem lc77_118 {sc : Nat × (Nat → Int32)} {N d : Nat} {A : Nat → Nat} {K : Nat} {S : am_S} {rc : cRC} {s : cS} {y1 : Nat} {y2 : Int32} {y3 : Int32} {o4 : Option Value} (hr : RCH sc rc (N + 1)) (hS : CM A K S s) (hy1 : y1 ≤ K) : am_L (am_PP sc) N d 77 118 [some (.ref 7), some (.ref (A y1)), some (.int y2), some (.int y3), o4] [] S (fun o S1 => ∃ s1 w, c77_118 rc s y1 y2 y3 = some (s1, w) ∧ o = cow w ∧ CX A K S1 s1) := by
  refine l5 (v := y3) (ls' := [some (.ref 7), some (.ref (A y1)), some (.int y2), some (.int (y3 + 1)), o4]) hi_77_118 rfl rfl ?_
  refine l18 hi_77_121 ?_
  refine am_L.mono (hr.h77020 (N' := N) (o4 := o4) (Nat.lt_succ_self _) hS hy1) ?_
  rintro o S1 ⟨s1, w1, q0, q1, A_, K_, q2, q3⟩
  exact ⟨s1, w1, (show c77_118 rc s y1 y2 y3 = rc 77020 s y1 y2 (y3 + 1) 0 0 0 0 from rfl).trans q0, q1, A_, K_, cX.trans cX.rfl q2, q3⟩
def c77_117 (rc : cRC) (s : cS) (y1 : Nat) (y2 : Int32) (y3 : Int32) (z0 : Int32) : Option (cS × Option Int32) := c77_118 rc s y1 y2 y3
theorem lc77_117 {sc : Nat × (Nat → Int32)} {N d : Nat} {A : Nat → Nat} {K : Nat} {S : am_S} {rc : cRC} {s : cS} {y1 : Nat} {y2 : Int32} {y3 : Int32} {z0 : Int32} {o4 : Option Value} (hr : RCH sc rc (N + 1)) (hS : CM A K S s) (hy1 : y1 ≤ K) : am_L (am_PP sc) N d 77 117 [some (.ref 7), some (.ref (A y1)), some (.int y2), some (.int y3), o4] [.int z0] S (fun o S1 => ∃ s1 w, c77_117 rc s y1 y2 y3 z0 = some (s1, w) ∧ o = cow w ∧ CX A K S1 s1) := by
  refine l6i hi_77_117 ?_
  refine am_L.mono (lc77_118 hr hS hy1) ?_
  rintro o S1 ⟨s1, w1, q0, q1, A_, K_, q2, q3⟩
  exact ⟨s1, w1, (rfl).trans q0, q1, A_, K_, cX.trans cX.rfl q2, q3⟩
def c77_106 (rc : cRC) (s : cS) (y1 : Nat) (y2 : Int32) (y3 : Int32) : Option (cS × Option Int32) := if y2 = 0 then c77_118 rc s y1 y2 y3 else rbd (some (c55 s)) (fun _ w5 => c77_117 rc ((c55 s).1) y1 y2 y3 w5)
theorem lc77_106 {sc : Nat × (Nat → Int32)} {N d : Nat} {A : Nat → Nat} {K : Nat} {S : am_S} {rc : cRC} {s : cS} {y1 : Nat} {y2 : Int32} {y3 : Int32} {o4 : Option Value} (hr : RCH sc rc (N + 1)) (hS : CM A K S s) (hy1 : y1 ≤ K) : am_L (am_PP sc) N d 77 106 [some (.ref 7), some (.ref (A y1)), some (.int y2), some (.int y3), o4] [] S (fun o S1 => ∃ s1 w, c77_106 rc s y1 y2 y3 = some (s1, w) ∧ o = cow w ∧ CX A K S1 s1) := by
  refine l1 (v := y2) hi_77_106 rfl ?_
  by_cases cn1 : y2 = 0
  · refine l12t hi_77_107 (decide_eq_true cn1) ?_
    refine am_L.mono (lc77_118 hr hS hy1) ?_
    rintro o S1 ⟨s1, w1, q0, q1, A_, K_, q2, q3⟩
    exact ⟨s1, w1, (show c77_106 rc s y1 y2 y3 = c77_118 rc s y1 y2 y3 from by unfold c77_106; rw [if_pos cn1]).trans q0, q1, A_, K_, cX.trans cX.rfl q2, q3⟩
  · refine l12f hi_77_107 (decide_eq_false cn1) ?_
    refine l2 (v := 7) hi_77_110 rfl ?_
    refine l20s (v := .ref 2) hS cs_7 hi_77_111 rfl ?_
    refine l32 (as := [.ref 2]) (la := [some (.ref 2), none]) (rest := []) hi_77_114 (am_hd0 (M := 77) (by decide) 114) rfl rfl rfl (fun N' d' hN_ => lc55 (N := N') (d := d') hS ) ?_ ?_
    · rintro v4 S2 ⟨ev, h3⟩
      obtain ⟨w5, e6, rfl⟩ := cov_some ev
      show am_L _ _ _ _ _ [some (.ref 7), some (.ref (A y1)), some (.int y2), some (.int y3), o4] [.int w5] _ _
      refine am_L.mono (lc77_117 hr h3 hy1) ?_
      rintro o S1 ⟨s1, w1, q0, q1, A_, K_, q2, q3⟩
      exact ⟨s1, w1, (show c77_106 rc s y1 y2 y3 = c77_117 rc ((c55 s).1) y1 y2 y3 w5 from by unfold c77_106; rw [if_neg cn1]; rw [rbd_th e6]).trans q0, q1, A_, K_, cX.trans cX.rfl q2, q3⟩
    · rintro S2 ⟨q1, q2⟩
      have hn := cov_none q1
      exact ⟨_, none, (by unfold c77_106; rw [if_neg cn1]; rw [rbd_thn hn]), rfl, A, K, cX.rfl, q2⟩
def c77_105 (rc : cRC) (s : cS) (y1 : Nat) (y3 : Int32) (z0 : Int32) : Option (cS × Option Int32) := c77_106 rc s y1 z0 y3
theorem lc77_105 {sc : Nat × (Nat → Int32)} {N d : Nat} {A : Nat → Nat} {K : Nat} {S : am_S} {rc : cRC} {s : cS} {y1 : Nat} {y3 : Int32} {z0 : Int32} {o2 : Option Value} {o4 : Option Value} (hr : RCH sc rc (N + 1)) (hS : CM A K S s) (hy1 : y1 ≤ K) : am_L (am_PP sc) N d 77 105 [some (.ref 7), some (.ref (A y1)), o2, some (.int y3), o4] [.int z0] S (fun o S1 => ∃ s1 w, c77_105 rc s y1 y3 z0 = some (s1, w) ∧ o = cow w ∧ CX A K S1 s1) := by
  refine l3 (ls' := [some (.ref 7), some (.ref (A y1)), some (.int z0), some (.int y3), o4]) hi_77_105 (Nat.le_of_ble_eq_true rfl) rfl ?_
  refine am_L.mono (lc77_106 hr hS hy1) ?_
  rintro o S1 ⟨s1, w1, q0, q1, A_, K_, q2, q3⟩
  exact ⟨s1, w1, (rfl).trans q0, q1, A_, K_, cX.trans cX.rfl q2, q3⟩
def c77_88 (rc : cRC) (s : cS) (y1 : Nat) (y3 : Int32) : Option (cS × Option Int32) := if (c53 s) ≠ 69 then c77_105 rc s y1 y3 0 else c77_105 rc s y1 y3 1
theorem lc77_88 {sc : Nat × (Nat → Int32)} {N d : Nat} {A : Nat → Nat} {K : Nat} {S : am_S} {rc : cRC} {s : cS} {y1 : Nat} {y3 : Int32} {o2 : Option Value} {o4 : Option Value} (hr : RCH sc rc (N + 1)) (hS : CM A K S s) (hy1 : y1 ≤ K) : am_L (am_PP sc) N d 77 88 [some (.ref 7), some (.ref (A y1)), o2, some (.int y3), o4] [] S (fun o S1 => ∃ s1 w, c77_88 rc s y1 y3 = some (s1, w) ∧ o = cow w ∧ CX A K S1 s1) := by
  refine l2 (v := 7) hi_77_88 rfl ?_
  refine l20s (v := .ref 2) hS cs_7 hi_77_89 rfl ?_
  refine l32 (as := [.ref 2]) (la := [some (.ref 2)]) (rest := []) hi_77_92 (am_hd0 (M := 77) (by decide) 92) rfl rfl rfl (fun N' d' _ => lc53 (N := N') (d := d') hS ) ?_ (fun _ q => nomatch q.1)
  rintro v3 S1 ⟨ev3, h2⟩
  cases ev3
  show am_L _ _ _ _ _ [some (.ref 7), some (.ref (A y1)), o2, some (.int y3), o4] [.int (c53 s)] _ _
  refine l0 hi_77_95 ?_
  by_cases cn4 : (c53 s) ≠ 69
  · refine l13t hi_77_97 (decide_eq_true cn4) ?_
    refine l0 hi_77_104 ?_
    refine am_L.mono (lc77_105 hr h2 hy1) ?_
    rintro o S1 ⟨s1, w1, q0, q1, A_, K_, q2, q3⟩
    exact ⟨s1, w1, (show c77_88 rc s y1 y3 = c77_105 rc s y1 y3 0 from by unfold c77_88; rw [if_pos cn4]).trans q0, q1, A_, K_, cX.trans cX.rfl q2, q3⟩
  · refine l13f hi_77_97 (decide_eq_false cn4) ?_
    refine l0 hi_77_100 ?_
    refine l18 hi_77_101 ?_
    refine am_L.mono (lc77_105 hr h2 hy1) ?_
    rintro o S1 ⟨s1, w1, q0, q1, A_, K_, q2, q3⟩
    exact ⟨s1, w1, (show c77_88 rc s y1 y3 = c77_105 rc s y1 y3 1 from by unfold c77_88; rw [if_neg cn4]).trans q0, q1, A_, K_, cX.trans cX.rfl q2, q3⟩
def c77_82 (rc : cRC) (s : cS) (y1 : Nat) (y3 : Int32) (y4 : Int32) (z0 : Int32) : Option (cS × Option Int32) := c77_88 rc ((c74 s z0 1 y4).1) y1 y3
theorem lc77_82 {sc : Nat × (Nat → Int32)} {N d : Nat} {A : Nat → Nat} {K : Nat} {S : am_S} {rc : cRC} {s : cS} {y1 : Nat} {y3 : Int32} {y4 : Int32} {z0 : Int32} {o2 : Option Value} (hr : RCH sc rc (N + 1)) (hS : CM A K S s) (hy1 : y1 ≤ K) : am_L (am_PP sc) N d 77 82 [some (.ref 7), some (.ref (A y1)), o2, some (.int y3), some (.int y4)] [.int z0, .ref 12] S (fun o S1 => ∃ s1 w, c77_82 rc s y1 y3 y4 z0 = some (s1, w) ∧ o = cow w ∧ CX A K S1 s1) := by
  refine l0 hi_77_82 ?_
  refine l1 (v := y4) hi_77_83 rfl ?_
  refine l32 (as := [.ref 12, .int z0, .int 1, .int y4]) (la := [some (.ref 12), some (.int z0), some (.int 1), some (.int y4)]) (rest := []) hi_77_85 (am_hd0 (M := 77) (by decide) 85) rfl rfl rfl (fun N' d' _ => lc74 (N := N') (d := d') hS ) ?_ (fun _ q => nomatch q.1)
  rintro v3 S1 ⟨ev3, h2⟩
  cases ev3
  show am_L _ _ _ _ _ [some (.ref 7), some (.ref (A y1)), o2, some (.int y3), some (.int y4)] [] _ _
  refine am_L.mono (lc77_88 hr h2 hy1) ?_
  rintro o S1 ⟨s1, w1, q0, q1, A_, K_, q2, q3⟩
  exact ⟨s1, w1, (rfl).trans q0, q1, A_, K_, cX.trans cX.rfl q2, q3⟩
def c77_52 (rc : cRC) (s : cS) (y1 : Nat) (y2 : Int32) (y3 : Int32) (z0 : Int32) : Option (cS × Option Int32) := c77_106 rc (nb s y1 5 1) y1 y2 y3
theorem lc77_52 {sc : Nat × (Nat → Int32)} {N d : Nat} {A : Nat → Nat} {K : Nat} {S : am_S} {rc : cRC} {s : cS} {y1 : Nat} {y2 : Int32} {y3 : Int32} {z0 : Int32} {o4 : Option Value} (hr : RCH sc rc (N + 1)) (hS : CM A K S s) (hy1 : y1 ≤ K) : am_L (am_PP sc) N d 77 52 [some (.ref 7), some (.ref (A y1)), some (.int y2), some (.int y3), o4] [.int z0] S (fun o S1 => ∃ s1 w, c77_52 rc s y1 y2 y3 z0 = some (s1, w) ∧ o = cow w ∧ CX A K S1 s1) := by
  refine l6i hi_77_52 ?_
  refine l2 (v := (A y1)) hi_77_53 rfl ?_
  refine l0 hi_77_54 ?_
  refine l21b hS hy1 hi_77_55 (fun _ _ => rfl) fun S1 h2 => ?_
  refine l18 hi_77_58 ?_
  refine am_L.mono (lc77_106 hr h2 hy1) ?_
  rintro o S1 ⟨s1, w1, q0, q1, A_, K_, q2, q3⟩
  exact ⟨s1, w1, (rfl).trans q0, q1, A_, K_, cX.trans cX.rfl q2, q3⟩
def c77_20 (rc : cRC) (s : cS) (y1 : Nat) (y2 : Int32) (y3 : Int32) : Option (cS × Option Int32) := if y2 = 0 then c77_124 rc s y1 else if 16384 < y3 then c77_124 rc s y1 else if (c53 s) ≠ 72 then rbd (some (c64 s 1)) (fun _ w13 => c77_82 rc ((c64 s 1).1) y1 y3 (c63 s) w13) else rbd (some (c55 s)) (fun _ w19 => c77_52 rc ((c55 s).1) y1 0 y3 w19)
theorem lc77_20 {sc : Nat × (Nat → Int32)} {N d : Nat} {A : Nat → Nat} {K : Nat} {S : am_S} {rc : cRC} {s : cS} {y1 : Nat} {y2 : Int32} {y3 : Int32} {o4 : Option Value} (hr : RCH sc rc N) (hS : CM A K S s) (hy1 : y1 ≤ K) : am_L (am_PP sc) N d 77 20 [some (.ref 7), some (.ref (A y1)), some (.int y2), some (.int y3), o4] [] S (fun o S1 => ∃ s1 w, c77_20 rc s y1 y2 y3 = some (s1, w) ∧ o = cow w ∧ CX A K S1 s1) := by
  cases N with
  | zero => exact l_zero
  | succ N =>
    refine l1d (v := y2) hi_77_20 rfl ?_
    by_cases cn1 : y2 = 0
    · refine l12t hi_77_21 (decide_eq_true cn1) ?_
      refine am_L.mono (lc77_124 (hr.less (Nat.le_succ _)) hS hy1) ?_
      rintro o S1 ⟨s1, w1, q0, q1, A_, K_, q2, q3⟩
      exact ⟨s1, w1, (show c77_20 rc s y1 y2 y3 = c77_124 rc s y1 from by unfold c77_20; rw [if_pos cn1]).trans q0, q1, A_, K_, cX.trans cX.rfl q2, q3⟩
    · refine l12f hi_77_21 (decide_eq_false cn1) ?_
      refine l1 (v := y3) hi_77_24 rfl ?_
      refine l0 hi_77_25 ?_
      by_cases cn2 : 16384 < y3
      · refine l13t hi_77_28 (decide_eq_true cn2) ?_
        refine am_L.mono (lc77_124 (hr.less (Nat.le_succ _)) hS hy1) ?_
        rintro o S1 ⟨s1, w1, q0, q1, A_, K_, q2, q3⟩
        exact ⟨s1, w1, (show c77_20 rc s y1 y2 y3 = c77_124 rc s y1 from by unfold c77_20; rw [if_neg cn1]; rw [if_pos cn2]).trans q0, q1, A_, K_, cX.trans cX.rfl q2, q3⟩
      · refine l13f hi_77_28 (decide_eq_false cn2) ?_
        refine l0 hi_77_31 ?_
        refine l3 (ls' := [some (.ref 7), some (.ref (A y1)), some (.int 0), some (.int y3), o4]) hi_77_32 (Nat.le_of_ble_eq_true rfl) rfl ?_
        refine l2 (v := 7) hi_77_33 rfl ?_
        refine l20s (v := .ref 2) hS cs_7 hi_77_34 rfl ?_
        refine l32 (as := [.ref 2]) (la := [some (.ref 2)]) (rest := []) hi_77_37 (am_hd0 (M := 77) (by decide) 37) rfl rfl rfl (fun N' d' _ => lc53 (N := N') (d := d') hS ) ?_ (fun _ q => nomatch q.1)
        rintro v5 S3 ⟨ev5, h4⟩
        cases ev5
        show am_L _ _ _ _ _ [some (.ref 7), some (.ref (A y1)), some (.int 0), some (.int y3), o4] [.int (c53 s)] _ _
        refine l0 hi_77_40 ?_
        by_cases cn6 : (c53 s) ≠ 72
        · refine l13t hi_77_42 (decide_eq_true cn6) ?_
          refine l2 (v := 7) hi_77_61 rfl ?_
          refine l20s (v := .ref 2) h4 cs_7 hi_77_62 rfl ?_
          refine l32 (as := [.ref 2]) (la := [some (.ref 2)]) (rest := []) hi_77_65 (am_hd0 (M := 77) (by decide) 65) rfl rfl rfl (fun N' d' _ => lc63 (N := N') (d := d') h4 ) ?_ (fun _ q => nomatch q.1)
          rintro v9 S7 ⟨ev9, h8⟩
          cases ev9
          show am_L _ _ _ _ _ [some (.ref 7), some (.ref (A y1)), some (.int 0), some (.int y3), o4] [.int (c63 s)] _ _
          refine l3 (ls' := [some (.ref 7), some (.ref (A y1)), some (.int 0), some (.int y3), some (.int (c63 s))]) hi_77_68 (Nat.le_of_ble_eq_true rfl) rfl ?_
          refine l2 (v := 7) hi_77_70 rfl ?_
          refine l20s (v := .ref 12) h8 cs_7 hi_77_71 rfl ?_
          refine l2 (v := 7) hi_77_74 rfl ?_
          refine l20s (v := .ref 2) h8 cs_7 hi_77_75 rfl ?_
          refine l0 hi_77_78 ?_
          refine l32 (as := [.ref 2, .int 1]) (la := [some (.ref 2), some (.int 1)]) (rest := [.ref 12]) hi_77_79 (am_hd0 (M := 77) (by decide) 79) rfl rfl rfl (fun N' d' hN_ => lc64 (N := N') (d := d') h8 ) ?_ ?_
          · rintro v12 S10 ⟨ev, h11⟩
            obtain ⟨w13, e14, rfl⟩ := cov_some ev
            show am_L _ _ _ _ _ [some (.ref 7), some (.ref (A y1)), some (.int 0), some (.int y3), some (.int (c63 s))] [.int w13, .ref 12] _ _
            refine am_L.mono (lc77_82 hr h11 hy1) ?_
            rintro o S1 ⟨s1, w1, q0, q1, A_, K_, q2, q3⟩
            exact ⟨s1, w1, (show c77_20 rc s y1 y2 y3 = c77_82 rc ((c64 s 1).1) y1 y3 (c63 s) w13 from by unfold c77_20; rw [if_neg cn1]; rw [if_neg cn2]; rw [if_pos cn6]; rw [rbd_th e14]).trans q0, q1, A_, K_, cX.trans cX.rfl q2, q3⟩
          · rintro S10 ⟨q1, q2⟩
            have hn := cov_none q1
            exact ⟨_, none, (by unfold c77_20; rw [if_neg cn1]; rw [if_neg cn2]; rw [if_pos cn6]; rw [rbd_thn hn]), rfl, A, K, cX.rfl, q2⟩
        · refine l13f hi_77_42 (decide_eq_false cn6) ?_
          refine l2 (v := 7) hi_77_45 rfl ?_
          refine l20s (v := .ref 2) h4 cs_7 hi_77_46 rfl ?_
          refine l32 (as := [.ref 2]) (la := [some (.ref 2), none]) (rest := []) hi_77_49 (am_hd0 (M := 77) (by decide) 49) rfl rfl rfl (fun N' d' hN_ => lc55 (N := N') (d := d') h4 ) ?_ ?_
          · rintro v18 S16 ⟨ev, h17⟩
            obtain ⟨w19, e20, rfl⟩ := cov_some ev
            show am_L _ _ _ _ _ [some (.ref 7), some (.ref (A y1)), some (.int 0), some (.int y3), o4] [.int w19] _ _
            refine am_L.mono (lc77_52 hr h17 hy1) ?_
            rintro o S1 ⟨s1, w1, q0, q1, A_, K_, q2, q3⟩
            exact ⟨s1, w1, (show c77_20 rc s y1 y2 y3 = c77_52 rc ((c55 s).1) y1 0 y3 w19 from by unfold c77_20; rw [if_neg cn1]; rw [if_neg cn2]; rw [if_neg cn6]; rw [rbd_th e20]).trans q0, q1, A_, K_, cX.trans cX.rfl q2, q3⟩
          · rintro S16 ⟨q1, q2⟩
            have hn := cov_none q1
            exact ⟨_, none, (by unfold c77_20; rw [if_neg cn1]; rw [if_neg cn2]; rw [if_neg cn6]; rw [rbd_thn hn]), rfl, A, K, cX.rfl, q2⟩
def c77_17 (rc : cRC) (s : cS) (y1 : Nat) (z0 : Int32) : Option (cS × Option Int32) := c77_20 rc s y1 z0 0
theorem lc77_17 {sc : Nat × (Nat → Int32)} {N d : Nat} {A : Nat → Nat} {K : Nat} {S : am_S} {rc : cRC} {s : cS} {y1 : Nat} {z0 : Int32} {o2 : Option Value} {o3 : Option Value} {o4 : Option Value} (hr : RCH sc rc N) (hS : CM A K S s) (hy1 : y1 ≤ K) : am_L (am_PP sc) N d 77 17 [some (.ref 7), some (.ref (A y1)), o2, o3, o4] [.int z0] S (fun o S1 => ∃ s1 w, c77_17 rc s y1 z0 = some (s1, w) ∧ o = cow w ∧ CX A K S1 s1) := by
  refine l3 (ls' := [some (.ref 7), some (.ref (A y1)), some (.int z0), o3, o4]) hi_77_17 (Nat.le_of_ble_eq_true rfl) rfl ?_
  refine l0 hi_77_18 ?_
  refine l3 (ls' := [some (.ref 7), some (.ref (A y1)), some (.int z0), some (.int 0), o4]) hi_77_19 (Nat.le_of_ble_eq_true rfl) rfl ?_
  refine am_L.mono (lc77_20 (o4 := o4) hr hS hy1) ?_
  rintro o S1 ⟨s1, w1, q0, q1, A_, K_, q2, q3⟩
  exact ⟨s1, w1, (show c77_17 rc s y1 z0 = c77_20 rc s y1 z0 0 from rfl).trans q0, q1, A_, K_, cX.trans cX.rfl q2, q3⟩
def c77 (rc : cRC) (s : cS) (x1 : Nat) : Option (cS × Option Int32) := if (c53 s) = 61 then c77_17 rc s x1 0 else c77_17 rc s x1 1
theorem lc77 {sc : Nat × (Nat → Int32)} {N d : Nat} {A : Nat → Nat} {K : Nat} {S : am_S} {rc : cRC} {s : cS} {x1 : Nat} (hr : RCH sc rc N) (hS : CM A K S s) (hx1 : x1 ≤ K) : am_L (am_PP sc) N d 77 0 [some (.ref 7), some (.ref (A x1)), none, none, none] [] S (fun o S1 => ∃ s1 w, c77 rc s x1 = some (s1, w) ∧ o = cow w ∧ CX A K S1 s1) := by
  refine l2 (v := 7) hi_77_0 rfl ?_
  refine l20s (v := .ref 2) hS cs_7 hi_77_1 rfl ?_
  refine l32 (as := [.ref 2]) (la := [some (.ref 2)]) (rest := []) hi_77_4 (am_hd0 (M := 77) (by decide) 4) rfl rfl rfl (fun N' d' _ => lc53 (N := N') (d := d') hS ) ?_ (fun _ q => nomatch q.1)
  rintro v3 S1 ⟨ev3, h2⟩
  cases ev3
  show am_L _ _ _ _ _ [some (.ref 7), some (.ref (A x1)), none, none, none] [.int (c53 s)] _ _
  refine l0 hi_77_7 ?_
  by_cases cn4 : (c53 s) = 61
  · refine l13t hi_77_9 (decide_eq_true cn4) ?_
    refine l0 hi_77_16 ?_
    refine am_L.mono (lc77_17 hr h2 hx1) ?_
    rintro o S1 ⟨s1, w1, q0, q1, A_, K_, q2, q3⟩
    exact ⟨s1, w1, (show c77 rc s x1 = c77_17 rc s x1 0 from by unfold c77; rw [if_pos cn4]).trans q0, q1, A_, K_, cX.trans cX.rfl q2, q3⟩
  · refine l13f hi_77_9 (decide_eq_false cn4) ?_
    refine l0 hi_77_12 ?_
    refine l18 hi_77_13 ?_
    refine am_L.mono (lc77_17 hr h2 hx1) ?_
    rintro o S1 ⟨s1, w1, q0, q1, A_, K_, q2, q3⟩
    exact ⟨s1, w1, (show c77 rc s x1 = c77_17 rc s x1 1 from by unfold c77; rw [if_neg cn4]).trans q0, q1, A_, K_, cX.trans cX.rfl q2, q3⟩
noncomputable def c73_110 (rc : cRC) (s : cS) (y1 : Int32) (y4 : Nat) : Option (cS × Option Int32) := some ((c78 s 7 (s.b y4 2) 0 y1).1, some 0)
theorem lc73_110 {sc : Nat × (Nat → Int32)} {N d : Nat} {A : Nat → Nat} {K : Nat} {S : am_S} {rc : cRC} {s : cS} {y1 : Int32} {y4 : Nat} {o2 : Option Value} {o3 : Option Value} {o5 : Option Value} (hr : RCH sc rc N) (hS : CM A K S s) (hy4 : y4 ≤ K) : am_L (am_PP sc) N d 73 110 [some (.ref 7), some (.int y1), o2, o3, some (.ref (A y4)), o5] [] S (fun o S1 => ∃ s1 w, c73_110 rc s y1 y4 = some (s1, w) ∧ o = cow w ∧ CX A K S1 s1) := by
  refine l2 (v := 7) hi_73_110 rfl ?_
  refine l0 hi_73_111 ?_
  refine l2 (v := (A y4)) hi_73_113 rfl ?_
  refine l20b (v := .int (s.b y4 2)) hS hy4 hi_73_115 rfl ?_
  refine l0 hi_73_118 ?_
  refine l1 (v := y1) hi_73_119 rfl ?_
  refine l32 (as := [.ref 7, .int 7, .int (s.b y4 2), .int 0, .int y1]) (la := [some (.ref 7), some (.int 7), some (.int (s.b y4 2)), some (.int 0), some (.int y1)]) (rest := []) hi_73_120 (am_hd0 (M := 73) (by decide) 120) rfl rfl rfl (fun N' d' _ => lc78 (N := N') (d := d') hS ) ?_ (fun _ q => nomatch q.1)
  rintro v3 S1 ⟨ev3, h2⟩
  cases ev3
  show am_L _ _ _ _ _ [some (.ref 7), some (.int y1), o2, o3, some (.ref (A y4)), o5] [.int ((c78 s 7 (s.b y4 2) 0 y1).2)] _ _
  refine l6i hi_73_123 ?_
  exact l35 hi_73_124 ⟨(c78 s 7 (s.b y4 2) 0 y1).1, some 0, (rfl), rfl, A, K, cX.rfl, h2⟩
noncomputable def c73_91 (rc : cRC) (s : cS) (y1 : Int32) (y3 : Int32) (y4 : Nat) (y5 : Int32) (z0 : Int32) : Option (cS × Option Int32) := c73_110 rc ((c80 (nb s y4 6 ((y5 - y3) + 1))).1) y1 y4
theorem lc73_91 {sc : Nat × (Nat → Int32)} {N d : Nat} {A : Nat → Nat} {K : Nat} {S : am_S} {rc : cRC} {s : cS} {y1 : Int32} {y3 : Int32} {y4 : Nat} {y5 : Int32} {z0 : Int32} {o2 : Option Value} (hr : RCH sc rc N) (hS : CM A K S s) (hy4 : y4 ≤ K) : am_L (am_PP sc) N d 73 91 [some (.ref 7), some (.int y1), o2, some (.int y3), some (.ref (A y4)), some (.int y5)] [.int z0] S (fun o S1 => ∃ s1 w, c73_91 rc s y1 y3 y4 y5 z0 = some (s1, w) ∧ o = cow w ∧ CX A K S1 s1) := by
  refine l6i hi_73_91 ?_
  refine l2 (v := (A y4)) hi_73_92 rfl ?_
  refine l1 (v := y5) hi_73_94 rfl ?_
  refine l1 (v := y3) hi_73_96 rfl ?_
  refine l10 hi_73_97 ?_
  show am_L _ _ _ _ _ [some (.ref 7), some (.int y1), o2, some (.int y3), some (.ref (A y4)), some (.int y5)] [.int (y5 - y3), .ref (A y4)] _ _
  refine l0 hi_73_98 ?_
  refine l10 hi_73_99 ?_
  show am_L _ _ _ _ _ [some (.ref 7), some (.int y1), o2, some (.int y3), some (.ref (A y4)), some (.int y5)] [.int ((y5 - y3) + 1), .ref (A y4)] _ _
  refine l21b hS hy4 hi_73_100 (fun _ _ => rfl) fun S1 h2 => ?_
  refine l2 (v := 7) hi_73_103 rfl ?_
  refine l20s (v := .ref 12) h2 cs_7 hi_73_104 rfl ?_
  refine l32 (as := [.ref 12]) (la := [some (.ref 12)]) (rest := []) hi_73_107 (am_hd0 (M := 73) (by decide) 107) rfl rfl rfl (fun N' d' _ => lc80 (N := N') (d := d') h2 ) ?_ (fun _ q => nomatch q.1)
  rintro v5 S3 ⟨ev5, h4⟩
  cases ev5
  show am_L _ _ _ _ _ [some (.ref 7), some (.int y1), o2, some (.int y3), some (.ref (A y4)), some (.int y5)] [] _ _
  refine am_L.mono (lc73_110 hr h4 hy4) ?_
  rintro o S1 ⟨s1, w1, q0, q1, A_, K_, q2, q3⟩
  exact ⟨s1, w1, (rfl).trans q0, q1, A_, K_, cX.trans cX.rfl q2, q3⟩
noncomputable def c73_80 (rc : cRC) (s : cS) (y1 : Int32) (y3 : Int32) (y4 : Nat) (y5 : Int32) (z0 : Int32) : Option (cS × Option Int32) := c73_91 rc ((c78 s 45 0 0 y5).1) y1 y3 y4 y5 ((c78 s 45 0 0 y5).2)
theorem lc73_80 {sc : Nat × (Nat → Int32)} {N d : Nat} {A : Nat → Nat} {K : Nat} {S : am_S} {rc : cRC} {s : cS} {y1 : Int32} {y3 : Int32} {y4 : Nat} {y5 : Int32} {z0 : Int32} {o2 : Option Value} (hr : RCH sc rc N) (hS : CM A K S s) (hy4 : y4 ≤ K) : am_L (am_PP sc) N d 73 80 [some (.ref 7), some (.int y1), o2, some (.int y3), some (.ref (A y4)), some (.int y5)] [.int z0] S (fun o S1 => ∃ s1 w, c73_80 rc s y1 y3 y4 y5 z0 = some (s1, w) ∧ o = cow w ∧ CX A K S1 s1) := by
  refine l6i hi_73_80 ?_
  refine l2 (v := 7) hi_73_81 rfl ?_
  refine l0 hi_73_82 ?_
  refine l0 hi_73_84 ?_
  refine l0 hi_73_85 ?_
  refine l1 (v := y5) hi_73_86 rfl ?_
  refine l32 (as := [.ref 7, .int 45, .int 0, .int 0, .int y5]) (la := [some (.ref 7), some (.int 45), some (.int 0), some (.int 0), some (.int y5)]) (rest := []) hi_73_88 (am_hd0 (M := 73) (by decide) 88) rfl rfl rfl (fun N' d' _ => lc78 (N := N') (d := d') hS ) ?_ (fun _ q => nomatch q.1)
  rintro v3 S1 ⟨ev3, h2⟩
  cases ev3
  show am_L _ _ _ _ _ [some (.ref 7), some (.int y1), o2, some (.int y3), some (.ref (A y4)), some (.int y5)] [.int ((c78 s 45 0 0 y5).2)] _ _
  refine am_L.mono (lc73_91 hr h2 hy4) ?_
  rintro o S1 ⟨s1, w1, q0, q1, A_, K_, q2, q3⟩
  exact ⟨s1, w1, (rfl).trans q0, q1, A_, K_, cX.trans cX.rfl q2, q3⟩
noncomputable def c73_62 (rc : cRC) (s : cS) (y1 : Int32) (y3 : Int32) (y4 : Nat) : Option (cS × Option Int32) := rbd (some (c64 s 15)) (fun _ w7 => c73_80 rc ((c64 s 15).1) y1 y3 y4 (c63 s) w7)
theorem lc73_62 {sc : Nat × (Nat → Int32)} {N d : Nat} {A : Nat → Nat} {K : Nat} {S : am_S} {rc : cRC} {s : cS} {y1 : Int32} {y3 : Int32} {y4 : Nat} {o2 : Option Value} {o5 : Option Value} (hr : RCH sc rc N) (hS : CM A K S s) (hy4 : y4 ≤ K) : am_L (am_PP sc) N d 73 62 [some (.ref 7), some (.int y1), o2, some (.int y3), some (.ref (A y4)), o5] [] S (fun o S1 => ∃ s1 w, c73_62 rc s y1 y3 y4 = some (s1, w) ∧ o = cow w ∧ CX A K S1 s1) := by
  refine l2 (v := 7) hi_73_62 rfl ?_
  refine l20s (v := .ref 2) hS cs_7 hi_73_63 rfl ?_
  refine l32 (as := [.ref 2]) (la := [some (.ref 2)]) (rest := []) hi_73_66 (am_hd0 (M := 73) (by decide) 66) rfl rfl rfl (fun N' d' _ => lc63 (N := N') (d := d') hS ) ?_ (fun _ q => nomatch q.1)
  rintro v3 S1 ⟨ev3, h2⟩
  cases ev3
  show am_L _ _ _ _ _ [some (.ref 7), some (.int y1), o2, some (.int y3), some (.ref (A y4)), o5] [.int (c63 s)] _ _
  refine l3 (ls' := [some (.ref 7), some (.int y1), o2, some (.int y3), some (.ref (A y4)), some (.int (c63 s))]) hi_73_69 (Nat.le_of_ble_eq_true rfl) rfl ?_
  refine l2 (v := 7) hi_73_71 rfl ?_
  refine l20s (v := .ref 2) h2 cs_7 hi_73_72 rfl ?_
  refine l0 hi_73_75 ?_
  refine l32 (as := [.ref 2, .int 15]) (la := [some (.ref 2), some (.int 15)]) (rest := []) hi_73_77 (am_hd0 (M := 73) (by decide) 77) rfl rfl rfl (fun N' d' hN_ => lc64 (N := N') (d := d') h2 ) ?_ ?_
  · rintro v6 S4 ⟨ev, h5⟩
    obtain ⟨w7, e8, rfl⟩ := cov_some ev
    show am_L _ _ _ _ _ [some (.ref 7), some (.int y1), o2, some (.int y3), some (.ref (A y4)), some (.int (c63 s))] [.int w7] _ _
    refine am_L.mono (lc73_80 hr h5 hy4) ?_
    rintro o S1 ⟨s1, w1, q0, q1, A_, K_, q2, q3⟩
    exact ⟨s1, w1, (show c73_62 rc s y1 y3 y4 = c73_80 rc ((c64 s 15).1) y1 y3 y4 (c63 s) w7 from by unfold c73_62; rw [rbd_th e8]).trans q0, q1, A_, K_, cX.trans cX.rfl q2, q3⟩
  · rintro S4 ⟨q1, q2⟩
    have hn := cov_none q1
    exact ⟨_, none, (by unfold c73_62; rw [rbd_thn hn]), rfl, A, K, cX.rfl, q2⟩
noncomputable def c73_57 (rc : cRC) (s : cS) (y1 : Int32) (y3 : Int32) (y4 : Nat) (z0 : Int32) : Option (cS × Option Int32) := rbd (rc 52 s 0 0 0 0 0 0 0) (fun s6 w4 => c73_62 rc s6 y1 y3 y4)
theorem lc73_57 {sc : Nat × (Nat → Int32)} {N d : Nat} {A : Nat → Nat} {K : Nat} {S : am_S} {rc : cRC} {s : cS} {y1 : Int32} {y3 : Int32} {y4 : Nat} {z0 : Int32} {o2 : Option Value} {o5 : Option Value} (hr : RCH sc rc N) (hS : CM A K S s) (hy4 : y4 ≤ K) : am_L (am_PP sc) N d 73 57 [some (.ref 7), some (.int y1), o2, some (.int y3), some (.ref (A y4)), o5] [.int z0] S (fun o S1 => ∃ s1 w, c73_57 rc s y1 y3 y4 z0 = some (s1, w) ∧ o = cow w ∧ CX A K S1 s1) := by
  refine l6i hi_73_57 ?_
  refine l2 (v := 7) hi_73_58 rfl ?_
  refine l32 (as := [.ref 7]) (la := [some (.ref 7), none]) (rest := []) hi_73_59 (am_hd0 (M := 73) (by decide) 59) rfl rfl rfl (fun N' d' hN_ => hr.h52 (N' := N') (d := d') hN_ hS) ?_ ?_
  · rintro v3 S1 ⟨s6, w_, e5, q1, A7, K8, x9, h2⟩
    obtain ⟨w4, rfl, rfl⟩ := cow_some q1
    rw [← x9.2 y4 hy4]
    show am_L _ _ _ _ _ [some (.ref 7), some (.int y1), o2, some (.int y3), some (.ref (A7 y4)), o5] [] _ _
    refine am_L.mono (lc73_62 hr h2 (Nat.le_trans hy4 x9.1)) ?_
    rintro o S1 ⟨s1, w1, q0, q1, A_, K_, q2, q3⟩
    exact ⟨s1, w1, (show c73_57 rc s y1 y3 y4 z0 = c73_62 rc s6 y1 y3 y4 from by unfold c73_57; rw [rbd_s e5]).trans q0, q1, A_, K_, cX.trans (cX.trans cX.rfl x9) q2, q3⟩
  · rintro S1 ⟨s1, w1, q0, q1, A_, K_, q2, q3⟩
    obtain rfl := cow_none q1
    exact ⟨s1, none, (by unfold c73_57; rw [rbd_n q0]), rfl, A_, K_, cX.trans cX.rfl q2, q3⟩
noncomputable def c73_48 (rc : cRC) (s : cS) (y1 : Int32) (y3 : Int32) (y4 : Nat) : Option (cS × Option Int32) := rbd (some (c64 s 61)) (fun _ w4 => c73_57 rc ((c64 s 61).1) y1 y3 y4 w4)
theorem lc73_48 {sc : Nat × (Nat → Int32)} {N d : Nat} {A : Nat → Nat} {K : Nat} {S : am_S} {rc : cRC} {s : cS} {y1 : Int32} {y3 : Int32} {y4 : Nat} {o2 : Option Value} {o5 : Option Value} (hr : RCH sc rc N) (hS : CM A K S s) (hy4 : y4 ≤ K) : am_L (am_PP sc) N d 73 48 [some (.ref 7), some (.int y1), o2, some (.int y3), some (.ref (A y4)), o5] [] S (fun o S1 => ∃ s1 w, c73_48 rc s y1 y3 y4 = some (s1, w) ∧ o = cow w ∧ CX A K S1 s1) := by
  refine l2 (v := 7) hi_73_48 rfl ?_
  refine l20s (v := .ref 2) hS cs_7 hi_73_49 rfl ?_
  refine l0 hi_73_52 ?_
  refine l32 (as := [.ref 2, .int 61]) (la := [some (.ref 2), some (.int 61)]) (rest := []) hi_73_54 (am_hd0 (M := 73) (by decide) 54) rfl rfl rfl (fun N' d' hN_ => lc64 (N := N') (d := d') hS ) ?_ ?_
  · rintro v3 S1 ⟨ev, h2⟩
    obtain ⟨w4, e5, rfl⟩ := cov_some ev
    show am_L _ _ _ _ _ [some (.ref 7), some (.int y1), o2, some (.int y3), some (.ref (A y4)), o5] [.int w4] _ _
    refine am_L.mono (lc73_57 hr h2 hy4) ?_
    rintro o S1 ⟨s1, w1, q0, q1, A_, K_, q2, q3⟩
    exact ⟨s1, w1, (show c73_48 rc s y1 y3 y4 = c73_57 rc ((c64 s 61).1) y1 y3 y4 w4 from by unfold c73_48; rw [rbd_th e5]).trans q0, q1, A_, K_, cX.trans cX.rfl q2, q3⟩
  · rintro S1 ⟨q1, q2⟩
    have hn := cov_none q1
    exact ⟨_, none, (by unfold c73_48; rw [rbd_thn hn]), rfl, A, K, cX.rfl, q2⟩
noncomputable def c73_42 (rc : cRC) (s : cS) (y1 : Int32) (y3 : Int32) (y4 : Nat) : Option (cS × Option Int32) := rbd (rc 77 s y4 0 0 0 0 0 0) (fun s6 w4 => c73_48 rc s6 y1 y3 y4)
theorem lc73_42 {sc : Nat × (Nat → Int32)} {N d : Nat} {A : Nat → Nat} {K : Nat} {S : am_S} {rc : cRC} {s : cS} {y1 : Int32} {y3 : Int32} {y4 : Nat} {o2 : Option Value} {o5 : Option Value} (hr : RCH sc rc N) (hS : CM A K S s) (hy4 : y4 ≤ K) : am_L (am_PP sc) N d 73 42 [some (.ref 7), some (.int y1), o2, some (.int y3), some (.ref (A y4)), o5] [] S (fun o S1 => ∃ s1 w, c73_42 rc s y1 y3 y4 = some (s1, w) ∧ o = cow w ∧ CX A K S1 s1) := by
  refine l2 (v := 7) hi_73_42 rfl ?_
  refine l2 (v := (A y4)) hi_73_43 rfl ?_
  refine l32 (as := [.ref 7, .ref (A y4)]) (la := [some (.ref 7), some (.ref (A y4)), none, none, none]) (rest := []) hi_73_45 (am_hd0 (M := 73) (by decide) 45) rfl rfl rfl (fun N' d' hN_ => hr.h77 (N' := N') (d := d') hN_ hS hy4) ?_ ?_
  · rintro v3 S1 ⟨s6, w_, e5, q1, A7, K8, x9, h2⟩
    obtain ⟨w4, rfl, rfl⟩ := cow_some q1
    rw [← x9.2 y4 hy4]
    show am_L _ _ _ _ _ [some (.ref 7), some (.int y1), o2, some (.int y3), some (.ref (A7 y4)), o5] [] _ _
    refine am_L.mono (lc73_48 hr h2 (Nat.le_trans hy4 x9.1)) ?_
    rintro o S1 ⟨s1, w1, q0, q1, A_, K_, q2, q3⟩
    exact ⟨s1, w1, (show c73_42 rc s y1 y3 y4 = c73_48 rc s6 y1 y3 y4 from by unfold c73_42; rw [rbd_s e5]).trans q0, q1, A_, K_, cX.trans (cX.trans cX.rfl x9) q2, q3⟩
  · rintro S1 ⟨s1, w1, q0, q1, A_, K_, q2, q3⟩
    obtain rfl := cow_none q1
    exact ⟨s1, none, (by unfold c73_42; rw [rbd_n q0]), rfl, A_, K_, cX.trans cX.rfl q2, q3⟩
noncomputable def c73_26 (rc : cRC) (s : cS) (y1 : Int32) (y2 : Int32) (y3 : Int32) (z0 : Nat) : Option (cS × Option Int32) := if y2 = 0 then c73_42 rc s y1 y3 z0 else c73_42 rc ((c74 s (-1) 1 y3).1) y1 y3 z0
theorem lc73_26 {sc : Nat × (Nat → Int32)} {N d : Nat} {A : Nat → Nat} {K : Nat} {S : am_S} {rc : cRC} {s : cS} {y1 : Int32} {y2 : Int32} {y3 : Int32} {z0 : Nat} {o4 : Option Value} {o5 : Option Value} (hr : RCH sc rc N) (hS : CM A K S s) (hz0 : z0 ≤ K) : am_L (am_PP sc) N d 73 26 [some (.ref 7), some (.int y1), some (.int y2), some (.int y3), o4, o5] [.ref (A z0)] S (fun o S1 => ∃ s1 w, c73_26 rc s y1 y2 y3 z0 = some (s1, w) ∧ o = cow w ∧ CX A K S1 s1) := by
  refine l4 (ls' := [some (.ref 7), some (.int y1), some (.int y2), some (.int y3), some (.ref (A z0)), o5]) hi_73_26 (Nat.le_of_ble_eq_true rfl) rfl ?_
  refine l1 (v := y2) hi_73_28 rfl ?_
  by_cases cn1 : y2 = 0
  · refine l12t hi_73_29 (decide_eq_true cn1) ?_
    refine am_L.mono (lc73_42 hr hS hz0) ?_
    rintro o S1 ⟨s1, w1, q0, q1, A_, K_, q2, q3⟩
    exact ⟨s1, w1, (show c73_26 rc s y1 y2 y3 z0 = c73_42 rc s y1 y3 z0 from by unfold c73_26; rw [if_pos cn1]).trans q0, q1, A_, K_, cX.trans cX.rfl q2, q3⟩
  · refine l12f hi_73_29 (decide_eq_false cn1) ?_
    refine l2 (v := 7) hi_73_32 rfl ?_
    refine l20s (v := .ref 12) hS cs_7 hi_73_33 rfl ?_
    refine l0 hi_73_36 ?_
    refine l0 hi_73_37 ?_
    refine l1 (v := y3) hi_73_38 rfl ?_
    refine l32 (as := [.ref 12, .int (-1), .int 1, .int y3]) (la := [some (.ref 12), some (.int (-1)), some (.int 1), some (.int y3)]) (rest := []) hi_73_39 (am_hd0 (M := 73) (by decide) 39) rfl rfl rfl (fun N' d' _ => lc74 (N := N') (d := d') hS ) ?_ (fun _ q => nomatch q.1)
    rintro v4 S2 ⟨ev4, h3⟩
    cases ev4
    show am_L _ _ _ _ _ [some (.ref 7), some (.int y1), some (.int y2), some (.int y3), some (.ref (A z0)), o5] [] _ _
    refine am_L.mono (lc73_42 hr h3 hz0) ?_
    rintro o S1 ⟨s1, w1, q0, q1, A_, K_, q2, q3⟩
    exact ⟨s1, w1, (show c73_26 rc s y1 y2 y3 z0 = c73_42 rc ((c74 s (-1) 1 y3).1) y1 y3 z0 from by unfold c73_26; rw [if_neg cn1]).trans q0, q1, A_, K_, cX.trans cX.rfl q2, q3⟩
noncomputable def c73_17 (rc : cRC) (s : cS) (y1 : Int32) (y2 : Int32) (y3 : Int32) (z0 : Int32) : Option (cS × Option Int32) := c73_26 rc ((c46 s y1).1) y1 y2 y3 ((c46 s y1).2)
theorem lc73_17 {sc : Nat × (Nat → Int32)} {N d : Nat} {A : Nat → Nat} {K : Nat} {S : am_S} {rc : cRC} {s : cS} {y1 : Int32} {y2 : Int32} {y3 : Int32} {z0 : Int32} {o4 : Option Value} {o5 : Option Value} (hr : RCH sc rc N) (hS : CM A K S s) : am_L (am_PP sc) N d 73 17 [some (.ref 7), some (.int y1), some (.int y2), some (.int y3), o4, o5] [.int z0] S (fun o S1 => ∃ s1 w, c73_17 rc s y1 y2 y3 z0 = some (s1, w) ∧ o = cow w ∧ CX A K S1 s1) := by
  refine l6i hi_73_17 ?_
  refine l2 (v := 7) hi_73_18 rfl ?_
  refine l20s (v := .ref 12) hS cs_7 hi_73_19 rfl ?_
  refine l1 (v := y1) hi_73_22 rfl ?_
  refine l32 (as := [.ref 12, .int y1]) (la := [some (.ref 12), some (.int y1), none]) (rest := []) hi_73_23 (am_hd0 (M := 73) (by decide) 23) rfl rfl rfl (fun N' d' _ => lc46 (N := N') (d := d') hS ) ?_ (fun _ q => nomatch q.choose_spec.choose_spec.2.1)
  rintro v3 S1 ⟨A4, K5, x6, ev3, l7, h2⟩
  cases ev3
  show am_L _ _ _ _ _ [some (.ref 7), some (.int y1), some (.int y2), some (.int y3), o4, o5] [.ref (A4 ((c46 s y1).2))] _ _
  refine am_L.mono (lc73_26 hr h2 l7) ?_
  rintro o S1 ⟨s1, w1, q0, q1, A_, K_, q2, q3⟩
  exact ⟨s1, w1, (rfl).trans q0, q1, A_, K_, cX.trans (cX.trans cX.rfl x6) q2, q3⟩
noncomputable def c73 (rc : cRC) (s : cS) (x1 : Int32) (x2 : Int32) : Option (cS × Option Int32) := rbd (some (c64 s 60)) (fun _ w7 => c73_17 rc ((c64 s 60).1) x1 x2 (c63 s) w7)
theorem lc73 {sc : Nat × (Nat → Int32)} {N d : Nat} {A : Nat → Nat} {K : Nat} {S : am_S} {rc : cRC} {s : cS} {x1 : Int32} {x2 : Int32} (hr : RCH sc rc N) (hS : CM A K S s) : am_L (am_PP sc) N d 73 0 [some (.ref 7), some (.int x1), some (.int x2), none, none, none] [] S (fun o S1 => ∃ s1 w, c73 rc s x1 x2 = some (s1, w) ∧ o = cow w ∧ CX A K S1 s1) := by
  refine l2 (v := 7) hi_73_0 rfl ?_
  refine l20s (v := .ref 2) hS cs_7 hi_73_1 rfl ?_
  refine l32 (as := [.ref 2]) (la := [some (.ref 2)]) (rest := []) hi_73_4 (am_hd0 (M := 73) (by decide) 4) rfl rfl rfl (fun N' d' _ => lc63 (N := N') (d := d') hS ) ?_ (fun _ q => nomatch q.1)
  rintro v3 S1 ⟨ev3, h2⟩
  cases ev3
  show am_L _ _ _ _ _ [some (.ref 7), some (.int x1), some (.int x2), none, none, none] [.int (c63 s)] _ _
  refine l3 (ls' := [some (.ref 7), some (.int x1), some (.int x2), some (.int (c63 s)), none, none]) hi_73_7 (Nat.le_of_ble_eq_true rfl) rfl ?_
  refine l2 (v := 7) hi_73_8 rfl ?_
  refine l20s (v := .ref 2) h2 cs_7 hi_73_9 rfl ?_
  refine l0 hi_73_12 ?_
  refine l32 (as := [.ref 2, .int 60]) (la := [some (.ref 2), some (.int 60)]) (rest := []) hi_73_14 (am_hd0 (M := 73) (by decide) 14) rfl rfl rfl (fun N' d' hN_ => lc64 (N := N') (d := d') h2 ) ?_ ?_
  · rintro v6 S4 ⟨ev, h5⟩
    obtain ⟨w7, e8, rfl⟩ := cov_some ev
    show am_L _ _ _ _ _ [some (.ref 7), some (.int x1), some (.int x2), some (.int (c63 s)), none, none] [.int w7] _ _
    refine am_L.mono (lc73_17 hr h5 ) ?_
    rintro o S1 ⟨s1, w1, q0, q1, A_, K_, q2, q3⟩
    exact ⟨s1, w1, (show c73 rc s x1 x2 = c73_17 rc ((c64 s 60).1) x1 x2 (c63 s) w7 from by unfold c73; rw [rbd_th e8]).trans q0, q1, A_, K_, cX.trans cX.rfl q2, q3⟩
  · rintro S4 ⟨q1, q2⟩
    have hn := cov_none q1
    exact ⟨_, none, (by unfold c73; rw [rbd_thn hn]), rfl, A, K, cX.rfl, q2⟩
def c92_174 (rc : cRC) (s : cS) (y1 : Int32) (z0 : Int32) : Option (cS × Option Int32) := some (s, some (y1 + 1))
theorem lc92_174 {sc : Nat × (Nat → Int32)} {N d : Nat} {A : Nat → Nat} {K : Nat} {S : am_S} {rc : cRC} {s : cS} {y1 : Int32} {z0 : Int32} {o2 : Option Value} {o3 : Option Value} (hr : RCH sc rc N) (hS : CM A K S s) : am_L (am_PP sc) N d 92 174 [some (.ref 7), some (.int y1), o2, o3] [.int z0] S (fun o S1 => ∃ s1 w, c92_174 rc s y1 z0 = some (s1, w) ∧ o = cov w ∧ CX A K S1 s1) := by
  refine l6i hi_92_174 ?_
  refine l1 (v := y1) hi_92_175 rfl ?_
  refine l0 hi_92_176 ?_
  refine l10 hi_92_177 ?_
  show am_L _ _ _ _ _ [some (.ref 7), some (.int y1), o2, o3] [.int (y1 + 1)] _ _
  exact l33 hi_92_178 ⟨s, some (y1 + 1), (rfl), rfl, A, K, cX.rfl, hS⟩
def c92_163 (rc : cRC) (s : cS) (y1 : Int32) (y2 : Int32) : Option (cS × Option Int32) := c92_174 rc ((c78 s 23 (y1 + 1) 0 y2).1) y1 ((c78 s 23 (y1 + 1) 0 y2).2)
theorem lc92_163 {sc : Nat × (Nat → Int32)} {N d : Nat} {A : Nat → Nat} {K : Nat} {S : am_S} {rc : cRC} {s : cS} {y1 : Int32} {y2 : Int32} {o3 : Option Value} (hr : RCH sc rc N) (hS : CM A K S s) : am_L (am_PP sc) N d 92 163 [some (.ref 7), some (.int y1), some (.int y2), o3] [] S (fun o S1 => ∃ s1 w, c92_163 rc s y1 y2 = some (s1, w) ∧ o = cov w ∧ CX A K S1 s1) := by
  refine l2 (v := 7) hi_92_163 rfl ?_
  refine l0 hi_92_164 ?_
  refine l1 (v := y1) hi_92_166 rfl ?_
  refine l0 hi_92_167 ?_
  refine l10 hi_92_168 ?_
  show am_L _ _ _ _ _ [some (.ref 7), some (.int y1), some (.int y2), o3] [.int (y1 + 1), .int 23, .ref 7] _ _
  refine l0 hi_92_169 ?_
  refine l1 (v := y2) hi_92_170 rfl ?_
  refine l32 (as := [.ref 7, .int 23, .int (y1 + 1), .int 0, .int y2]) (la := [some (.ref 7), some (.int 23), some (.int (y1 + 1)), some (.int 0), some (.int y2)]) (rest := []) hi_92_171 (am_hd0 (M := 92) (by decide) 171) rfl rfl rfl (fun N' d' _ => lc78 (N := N') (d := d') hS ) ?_ (fun _ q => nomatch q.1)
  rintro v3 S1 ⟨ev3, h2⟩
  cases ev3
  show am_L _ _ _ _ _ [some (.ref 7), some (.int y1), some (.int y2), o3] [.int ((c78 s 23 (y1 + 1) 0 y2).2)] _ _
  refine am_L.mono (lc92_174 hr h2 ) ?_
  rintro o S1 ⟨s1, w1, q0, q1, A_, K_, q2, q3⟩
  exact ⟨s1, w1, (rfl).trans q0, q1, A_, K_, cX.trans cX.rfl q2, q3⟩
def c92_159 (rc : cRC) (s : cS) (y1 : Int32) (z0 : Int32) : Option (cS × Option Int32) := some (s, some (y1 + 1))
theorem lc92_159 {sc : Nat × (Nat → Int32)} {N d : Nat} {A : Nat → Nat} {K : Nat} {S : am_S} {rc : cRC} {s : cS} {y1 : Int32} {z0 : Int32} {o2 : Option Value} {o3 : Option Value} (hr : RCH sc rc N) (hS : CM A K S s) : am_L (am_PP sc) N d 92 159 [some (.ref 7), some (.int y1), o2, o3] [.int z0] S (fun o S1 => ∃ s1 w, c92_159 rc s y1 z0 = some (s1, w) ∧ o = cov w ∧ CX A K S1 s1) := by
  refine l6i hi_92_159 ?_
  refine l18 hi_92_160 ?_
  refine l1 (v := y1) hi_92_175 rfl ?_
  refine l0 hi_92_176 ?_
  refine l10 hi_92_177 ?_
  show am_L _ _ _ _ _ [some (.ref 7), some (.int y1), o2, o3] [.int (y1 + 1)] _ _
  exact l33 hi_92_178 ⟨s, some (y1 + 1), (rfl), rfl, A, K, cX.rfl, hS⟩
def c92_148 (rc : cRC) (s : cS) (y1 : Int32) (y2 : Int32) : Option (cS × Option Int32) := c92_159 rc ((c78 s 24 (y1 + 1) 0 y2).1) y1 ((c78 s 24 (y1 + 1) 0 y2).2)
theorem lc92_148 {sc : Nat × (Nat → Int32)} {N d : Nat} {A : Nat → Nat} {K : Nat} {S : am_S} {rc : cRC} {s : cS} {y1 : Int32} {y2 : Int32} {o3 : Option Value} (hr : RCH sc rc N) (hS : CM A K S s) : am_L (am_PP sc) N d 92 148 [some (.ref 7), some (.int y1), some (.int y2), o3] [] S (fun o S1 => ∃ s1 w, c92_148 rc s y1 y2 = some (s1, w) ∧ o = cov w ∧ CX A K S1 s1) := by
  refine l2 (v := 7) hi_92_148 rfl ?_
  refine l0 hi_92_149 ?_
  refine l1 (v := y1) hi_92_151 rfl ?_
  refine l0 hi_92_152 ?_
  refine l10 hi_92_153 ?_
  show am_L _ _ _ _ _ [some (.ref 7), some (.int y1), some (.int y2), o3] [.int (y1 + 1), .int 24, .ref 7] _ _
  refine l0 hi_92_154 ?_
  refine l1 (v := y2) hi_92_155 rfl ?_
  refine l32 (as := [.ref 7, .int 24, .int (y1 + 1), .int 0, .int y2]) (la := [some (.ref 7), some (.int 24), some (.int (y1 + 1)), some (.int 0), some (.int y2)]) (rest := []) hi_92_156 (am_hd0 (M := 92) (by decide) 156) rfl rfl rfl (fun N' d' _ => lc78 (N := N') (d := d') hS ) ?_ (fun _ q => nomatch q.1)
  rintro v3 S1 ⟨ev3, h2⟩
  cases ev3
  show am_L _ _ _ _ _ [some (.ref 7), some (.int y1), some (.int y2), o3] [.int ((c78 s 24 (y1 + 1) 0 y2).2)] _ _
  refine am_L.mono (lc92_159 hr h2 ) ?_
  rintro o S1 ⟨s1, w1, q0, q1, A_, K_, q2, q3⟩
  exact ⟨s1, w1, (rfl).trans q0, q1, A_, K_, cX.trans cX.rfl q2, q3⟩
def c92_130 (rc : cRC) (s : cS) (y1 : Int32) (y2 : Int32) : Option (cS × Option Int32) := if (s.f 7 5) = 0 then c92_163 rc s y1 y2 else if (c94 s) = 0 then c92_163 rc s y1 y2 else c92_148 rc ((c96 s).1) y1 y2
theorem lc92_130 {sc : Nat × (Nat → Int32)} {N d : Nat} {A : Nat → Nat} {K : Nat} {S : am_S} {rc : cRC} {s : cS} {y1 : Int32} {y2 : Int32} {o3 : Option Value} (hr : RCH sc rc N) (hS : CM A K S s) : am_L (am_PP sc) N d 92 130 [some (.ref 7), some (.int y1), some (.int y2), o3] [] S (fun o S1 => ∃ s1 w, c92_130 rc s y1 y2 = some (s1, w) ∧ o = cov w ∧ CX A K S1 s1) := by
  refine l2 (v := 7) hi_92_130 rfl ?_
  refine l20s (v := .int (s.f 7 5)) hS cs_7 hi_92_131 rfl ?_
  by_cases cn1 : (s.f 7 5) = 0
  · refine l12t hi_92_134 (decide_eq_true cn1) ?_
    refine am_L.mono (lc92_163 hr hS ) ?_
    rintro o S1 ⟨s1, w1, q0, q1, A_, K_, q2, q3⟩
    exact ⟨s1, w1, (show c92_130 rc s y1 y2 = c92_163 rc s y1 y2 from by unfold c92_130; rw [if_pos cn1]).trans q0, q1, A_, K_, cX.trans cX.rfl q2, q3⟩
  · refine l12f hi_92_134 (decide_eq_false cn1) ?_
    refine l2 (v := 7) hi_92_137 rfl ?_
    refine l32 (as := [.ref 7]) (la := [some (.ref 7), none]) (rest := []) hi_92_138 (am_hd0 (M := 92) (by decide) 138) rfl rfl rfl (fun N' d' _ => lc94 (N := N') (d := d') hS ) ?_ (fun _ q => nomatch q.1)
    rintro v4 S2 ⟨ev4, h3⟩
    cases ev4
    show am_L _ _ _ _ _ [some (.ref 7), some (.int y1), some (.int y2), o3] [.int (c94 s)] _ _
    by_cases cn5 : (c94 s) = 0
    · refine l12t hi_92_141 (decide_eq_true cn5) ?_
      refine am_L.mono (lc92_163 hr h3 ) ?_
      rintro o S1 ⟨s1, w1, q0, q1, A_, K_, q2, q3⟩
      exact ⟨s1, w1, (show c92_130 rc s y1 y2 = c92_163 rc s y1 y2 from by unfold c92_130; rw [if_neg cn1]; rw [if_pos cn5]).trans q0, q1, A_, K_, cX.trans cX.rfl q2, q3⟩
    · refine l12f hi_92_141 (decide_eq_false cn5) ?_
      refine l2 (v := 7) hi_92_144 rfl ?_
      refine l32 (as := [.ref 7]) (la := [some (.ref 7)]) (rest := []) hi_92_145 (am_hd0 (M := 92) (by decide) 145) rfl rfl rfl (fun N' d' _ => lc96 (N := N') (d := d') h3 ) ?_ (fun _ q => nomatch q.1)
      rintro v8 S6 ⟨ev8, h7⟩
      cases ev8
      show am_L _ _ _ _ _ [some (.ref 7), some (.int y1), some (.int y2), o3] [] _ _
      refine am_L.mono (lc92_148 hr h7 ) ?_
      rintro o S1 ⟨s1, w1, q0, q1, A_, K_, q2, q3⟩
      exact ⟨s1, w1, (show c92_130 rc s y1 y2 = c92_148 rc ((c96 s).1) y1 y2 from by unfold c92_130; rw [if_neg cn1]; rw [if_neg cn5]).trans q0, q1, A_, K_, cX.trans cX.rfl q2, q3⟩
def c92_126 (rc : cRC) (s : cS) (y1 : Int32) (y2 : Int32) : Option (cS × Option Int32) := rbd (rc 70 s 0 0 0 0 0 0 0) (fun s6 w4 => c92_130 rc s6 y1 y2)
theorem lc92_126 {sc : Nat × (Nat → Int32)} {N d : Nat} {A : Nat → Nat} {K : Nat} {S : am_S} {rc : cRC} {s : cS} {y1 : Int32} {y2 : Int32} {o3 : Option Value} (hr : RCH sc rc N) (hS : CM A K S s) : am_L (am_PP sc) N d 92 126 [some (.ref 7), some (.int y1), some (.int y2), o3] [] S (fun o S1 => ∃ s1 w, c92_126 rc s y1 y2 = some (s1, w) ∧ o = cov w ∧ CX A K S1 s1) := by
  refine l2 (v := 7) hi_92_126 rfl ?_
  refine l32 (as := [.ref 7]) (la := [some (.ref 7), none, none, none, none, none]) (rest := []) hi_92_127 (am_hd0 (M := 92) (by decide) 127) rfl rfl rfl (fun N' d' hN_ => hr.h70 (N' := N') (d := d') hN_ hS) ?_ ?_
  · rintro v3 S1 ⟨s6, w_, e5, q1, A7, K8, x9, h2⟩
    obtain ⟨w4, rfl, rfl⟩ := cow_some q1
    show am_L _ _ _ _ _ [some (.ref 7), some (.int y1), some (.int y2), o3] [] _ _
    refine am_L.mono (lc92_130 hr h2 ) ?_
    rintro o S1 ⟨s1, w1, q0, q1, A_, K_, q2, q3⟩
    exact ⟨s1, w1, (show c92_126 rc s y1 y2 = c92_130 rc s6 y1 y2 from by unfold c92_126; rw [rbd_s e5]).trans q0, q1, A_, K_, cX.trans (cX.trans cX.rfl x9) q2, q3⟩
  · rintro S1 ⟨s1, w1, q0, q1, A_, K_, q2, q3⟩
    obtain rfl := cow_none q1
    exact ⟨s1, none, (by unfold c92_126; rw [rbd_n q0]), rfl, A_, K_, cX.trans cX.rfl q2, q3⟩
def c92_114 (rc : cRC) (s : cS) (y1 : Int32) (y2 : Int32) (y3 : Int32) : Option (cS × Option Int32) := some ((c78 s 22 y3 0 y2).1, some y1)
theorem lc92_114 {sc : Nat × (Nat → Int32)} {N d : Nat} {A : Nat → Nat} {K : Nat} {S : am_S} {rc : cRC} {s : cS} {y1 : Int32} {y2 : Int32} {y3 : Int32} (hr : RCH sc rc N) (hS : CM A K S s) : am_L (am_PP sc) N d 92 114 [some (.ref 7), some (.int y1), some (.int y2), some (.int y3)] [] S (fun o S1 => ∃ s1 w, c92_114 rc s y1 y2 y3 = some (s1, w) ∧ o = cov w ∧ CX A K S1 s1) := by
  refine l2 (v := 7) hi_92_114 rfl ?_
  refine l0 hi_92_115 ?_
  refine l1 (v := y3) hi_92_117 rfl ?_
  refine l0 hi_92_118 ?_
  refine l1 (v := y2) hi_92_119 rfl ?_
  refine l32 (as := [.ref 7, .int 22, .int y3, .int 0, .int y2]) (la := [some (.ref 7), some (.int 22), some (.int y3), some (.int 0), some (.int y2)]) (rest := []) hi_92_120 (am_hd0 (M := 92) (by decide) 120) rfl rfl rfl (fun N' d' _ => lc78 (N := N') (d := d') hS ) ?_ (fun _ q => nomatch q.1)
  rintro v3 S1 ⟨ev3, h2⟩
  cases ev3
  show am_L _ _ _ _ _ [some (.ref 7), some (.int y1), some (.int y2), some (.int y3)] [.int ((c78 s 22 y3 0 y2).2)] _ _
  refine l6i hi_92_123 ?_
  refine l1 (v := y1) hi_92_124 rfl ?_
  exact l33 hi_92_125 ⟨(c78 s 22 y3 0 y2).1, some y1, (rfl), rfl, A, K, cX.rfl, h2⟩
def c92_109 (rc : cRC) (s : cS) (y1 : Int32) (y2 : Int32) (y3 : Int32) (z0 : Int32) : Option (cS × Option Int32) := rbd (rc 70 s 0 0 0 0 0 0 0) (fun s6 w4 => c92_114 rc s6 y1 y2 y3)
theorem lc92_109 {sc : Nat × (Nat → Int32)} {N d : Nat} {A : Nat → Nat} {K : Nat} {S : am_S} {rc : cRC} {s : cS} {y1 : Int32} {y2 : Int32} {y3 : Int32} {z0 : Int32} (hr : RCH sc rc N) (hS : CM A K S s) : am_L (am_PP sc) N d 92 109 [some (.ref 7), some (.int y1), some (.int y2), some (.int y3)] [.int z0] S (fun o S1 => ∃ s1 w, c92_109 rc s y1 y2 y3 z0 = some (s1, w) ∧ o = cov w ∧ CX A K S1 s1) := by
  refine l6i hi_92_109 ?_
  refine l2 (v := 7) hi_92_110 rfl ?_
  refine l32 (as := [.ref 7]) (la := [some (.ref 7), none, none, none, none, none]) (rest := []) hi_92_111 (am_hd0 (M := 92) (by decide) 111) rfl rfl rfl (fun N' d' hN_ => hr.h70 (N' := N') (d := d') hN_ hS) ?_ ?_
  · rintro v3 S1 ⟨s6, w_, e5, q1, A7, K8, x9, h2⟩
    obtain ⟨w4, rfl, rfl⟩ := cow_some q1
    show am_L _ _ _ _ _ [some (.ref 7), some (.int y1), some (.int y2), some (.int y3)] [] _ _
    refine am_L.mono (lc92_114 hr h2 ) ?_
    rintro o S1 ⟨s1, w1, q0, q1, A_, K_, q2, q3⟩
    exact ⟨s1, w1, (show c92_109 rc s y1 y2 y3 z0 = c92_114 rc s6 y1 y2 y3 from by unfold c92_109; rw [rbd_s e5]).trans q0, q1, A_, K_, cX.trans (cX.trans cX.rfl x9) q2, q3⟩
  · rintro S1 ⟨s1, w1, q0, q1, A_, K_, q2, q3⟩
    obtain rfl := cow_none q1
    exact ⟨s1, none, (by unfold c92_109; rw [rbd_n q0]), rfl, A_, K_, cX.trans cX.rfl q2, q3⟩
def c92_101 (rc : cRC) (s : cS) (y1 : Int32) (y2 : Int32) (z0 : Int32) : Option (cS × Option Int32) := rbd (some (c55 s)) (fun _ w4 => c92_109 rc ((c55 s).1) y1 y2 z0 w4)
theorem lc92_101 {sc : Nat × (Nat → Int32)} {N d : Nat} {A : Nat → Nat} {K : Nat} {S : am_S} {rc : cRC} {s : cS} {y1 : Int32} {y2 : Int32} {z0 : Int32} {o3 : Option Value} (hr : RCH sc rc N) (hS : CM A K S s) : am_L (am_PP sc) N d 92 101 [some (.ref 7), some (.int y1), some (.int y2), o3] [.int z0] S (fun o S1 => ∃ s1 w, c92_101 rc s y1 y2 z0 = some (s1, w) ∧ o = cov w ∧ CX A K S1 s1) := by
  refine l3 (ls' := [some (.ref 7), some (.int y1), some (.int y2), some (.int z0)]) hi_92_101 (Nat.le_of_ble_eq_true rfl) rfl ?_
  refine l2 (v := 7) hi_92_102 rfl ?_
  refine l20s (v := .ref 2) hS cs_7 hi_92_103 rfl ?_
  refine l32 (as := [.ref 2]) (la := [some (.ref 2), none]) (rest := []) hi_92_106 (am_hd0 (M := 92) (by decide) 106) rfl rfl rfl (fun N' d' hN_ => lc55 (N := N') (d := d') hS ) ?_ ?_
  · rintro v3 S1 ⟨ev, h2⟩
    obtain ⟨w4, e5, rfl⟩ := cov_some ev
    show am_L _ _ _ _ _ [some (.ref 7), some (.int y1), some (.int y2), some (.int z0)] [.int w4] _ _
    refine am_L.mono (lc92_109 hr h2 ) ?_
    rintro o S1 ⟨s1, w1, q0, q1, A_, K_, q2, q3⟩
    exact ⟨s1, w1, (show c92_101 rc s y1 y2 z0 = c92_109 rc ((c55 s).1) y1 y2 z0 w4 from by unfold c92_101; rw [rbd_th e5]).trans q0, q1, A_, K_, cX.trans cX.rfl q2, q3⟩
  · rintro S1 ⟨q1, q2⟩
    have hn := cov_none q1
    exact ⟨_, none, (by unfold c92_101; rw [rbd_thn hn]), rfl, A, K, cX.rfl, q2⟩
def c92_56 (rc : cRC) (s : cS) (y1 : Int32) (y2 : Int32) : Option (cS × Option Int32) := some ((c78 s 21 0 0 y2).1, some y1)
theorem lc92_56 {sc : Nat × (Nat → Int32)} {N d : Nat} {A : Nat → Nat} {K : Nat} {S : am_S} {rc : cRC} {s : cS} {y1 : Int32} {y2 : Int32} {o3 : Option Value} (hr : RCH sc rc N) (hS : CM A K S s) : am_L (am_PP sc) N d 92 56 [some (.ref 7), some (.int y1), some (.int y2), o3] [] S (fun o S1 => ∃ s1 w, c92_56 rc s y1 y2 = some (s1, w) ∧ o = cov w ∧ CX A K S1 s1) := by
  refine l2 (v := 7) hi_92_56 rfl ?_
  refine l0 hi_92_57 ?_
  refine l0 hi_92_59 ?_
  refine l0 hi_92_60 ?_
  refine l1 (v := y2) hi_92_61 rfl ?_
  refine l32 (as := [.ref 7, .int 21, .int 0, .int 0, .int y2]) (la := [some (.ref 7), some (.int 21), some (.int 0), some (.int 0), some (.int y2)]) (rest := []) hi_92_62 (am_hd0 (M := 92) (by decide) 62) rfl rfl rfl (fun N' d' _ => lc78 (N := N') (d := d') hS ) ?_ (fun _ q => nomatch q.1)
  rintro v3 S1 ⟨ev3, h2⟩
  cases ev3
  show am_L _ _ _ _ _ [some (.ref 7), some (.int y1), some (.int y2), o3] [.int ((c78 s 21 0 0 y2).2)] _ _
  refine l6i hi_92_65 ?_
  refine l1 (v := y1) hi_92_66 rfl ?_
  exact l33 hi_92_67 ⟨(c78 s 21 0 0 y2).1, some y1, (rfl), rfl, A, K, cX.rfl, h2⟩
def c92_51 (rc : cRC) (s : cS) (y1 : Int32) (y2 : Int32) (z0 : Int32) : Option (cS × Option Int32) := rbd (rc 70 s 0 0 0 0 0 0 0) (fun s6 w4 => c92_56 rc s6 y1 y2)
theorem lc92_51 {sc : Nat × (Nat → Int32)} {N d : Nat} {A : Nat → Nat} {K : Nat} {S : am_S} {rc : cRC} {s : cS} {y1 : Int32} {y2 : Int32} {z0 : Int32} {o3 : Option Value} (hr : RCH sc rc N) (hS : CM A K S s) : am_L (am_PP sc) N d 92 51 [some (.ref 7), some (.int y1), some (.int y2), o3] [.int z0] S (fun o S1 => ∃ s1 w, c92_51 rc s y1 y2 z0 = some (s1, w) ∧ o = cov w ∧ CX A K S1 s1) := by
  refine l6i hi_92_51 ?_
  refine l2 (v := 7) hi_92_52 rfl ?_
  refine l32 (as := [.ref 7]) (la := [some (.ref 7), none, none, none, none, none]) (rest := []) hi_92_53 (am_hd0 (M := 92) (by decide) 53) rfl rfl rfl (fun N' d' hN_ => hr.h70 (N' := N') (d := d') hN_ hS) ?_ ?_
  · rintro v3 S1 ⟨s6, w_, e5, q1, A7, K8, x9, h2⟩
    obtain ⟨w4, rfl, rfl⟩ := cow_some q1
    show am_L _ _ _ _ _ [some (.ref 7), some (.int y1), some (.int y2), o3] [] _ _
    refine am_L.mono (lc92_56 hr h2 ) ?_
    rintro o S1 ⟨s1, w1, q0, q1, A_, K_, q2, q3⟩
    exact ⟨s1, w1, (show c92_51 rc s y1 y2 z0 = c92_56 rc s6 y1 y2 from by unfold c92_51; rw [rbd_s e5]).trans q0, q1, A_, K_, cX.trans (cX.trans cX.rfl x9) q2, q3⟩
  · rintro S1 ⟨s1, w1, q0, q1, A_, K_, q2, q3⟩
    obtain rfl := cow_none q1
    exact ⟨s1, none, (by unfold c92_51; rw [rbd_n q0]), rfl, A_, K_, cX.trans cX.rfl q2, q3⟩
def c92_41 (rc : cRC) (s : cS) (y1 : Int32) (y2 : Int32) (z0 : Int32) : Option (cS × Option Int32) := rbd (some (c64 s 59)) (fun _ w4 => c92_51 rc ((c64 s 59).1) y1 y2 w4)
theorem lc92_41 {sc : Nat × (Nat → Int32)} {N d : Nat} {A : Nat → Nat} {K : Nat} {S : am_S} {rc : cRC} {s : cS} {y1 : Int32} {y2 : Int32} {z0 : Int32} {o3 : Option Value} (hr : RCH sc rc N) (hS : CM A K S s) : am_L (am_PP sc) N d 92 41 [some (.ref 7), some (.int y1), some (.int y2), o3] [.int z0] S (fun o S1 => ∃ s1 w, c92_41 rc s y1 y2 z0 = some (s1, w) ∧ o = cov w ∧ CX A K S1 s1) := by
  refine l6i hi_92_41 ?_
  refine l2 (v := 7) hi_92_42 rfl ?_
  refine l20s (v := .ref 2) hS cs_7 hi_92_43 rfl ?_
  refine l0 hi_92_46 ?_
  refine l32 (as := [.ref 2, .int 59]) (la := [some (.ref 2), some (.int 59)]) (rest := []) hi_92_48 (am_hd0 (M := 92) (by decide) 48) rfl rfl rfl (fun N' d' hN_ => lc64 (N := N') (d := d') hS ) ?_ ?_
  · rintro v3 S1 ⟨ev, h2⟩
    obtain ⟨w4, e5, rfl⟩ := cov_some ev
    show am_L _ _ _ _ _ [some (.ref 7), some (.int y1), some (.int y2), o3] [.int w4] _ _
    refine am_L.mono (lc92_51 hr h2 ) ?_
    rintro o S1 ⟨s1, w1, q0, q1, A_, K_, q2, q3⟩
    exact ⟨s1, w1, (show c92_41 rc s y1 y2 z0 = c92_51 rc ((c64 s 59).1) y1 y2 w4 from by unfold c92_41; rw [rbd_th e5]).trans q0, q1, A_, K_, cX.trans cX.rfl q2, q3⟩
  · rintro S1 ⟨q1, q2⟩
    have hn := cov_none q1
    exact ⟨_, none, (by unfold c92_41; rw [rbd_thn hn]), rfl, A, K, cX.rfl, q2⟩
def c92_32 (rc : cRC) (s : cS) (y1 : Int32) (y2 : Int32) : Option (cS × Option Int32) := rbd (some (c64 s 65)) (fun _ w4 => c92_41 rc ((c64 s 65).1) y1 y2 w4)
theorem lc92_32 {sc : Nat × (Nat → Int32)} {N d : Nat} {A : Nat → Nat} {K : Nat} {S : am_S} {rc : cRC} {s : cS} {y1 : Int32} {y2 : Int32} {o3 : Option Value} (hr : RCH sc rc N) (hS : CM A K S s) : am_L (am_PP sc) N d 92 32 [some (.ref 7), some (.int y1), some (.int y2), o3] [] S (fun o S1 => ∃ s1 w, c92_32 rc s y1 y2 = some (s1, w) ∧ o = cov w ∧ CX A K S1 s1) := by
  refine l2 (v := 7) hi_92_32 rfl ?_
  refine l20s (v := .ref 2) hS cs_7 hi_92_33 rfl ?_
  refine l0 hi_92_36 ?_
  refine l32 (as := [.ref 2, .int 65]) (la := [some (.ref 2), some (.int 65)]) (rest := []) hi_92_38 (am_hd0 (M := 92) (by decide) 38) rfl rfl rfl (fun N' d' hN_ => lc64 (N := N') (d := d') hS ) ?_ ?_
  · rintro v3 S1 ⟨ev, h2⟩
    obtain ⟨w4, e5, rfl⟩ := cov_some ev
    show am_L _ _ _ _ _ [some (.ref 7), some (.int y1), some (.int y2), o3] [.int w4] _ _
    refine am_L.mono (lc92_41 hr h2 ) ?_
    rintro o S1 ⟨s1, w1, q0, q1, A_, K_, q2, q3⟩
    exact ⟨s1, w1, (show c92_32 rc s y1 y2 = c92_41 rc ((c64 s 65).1) y1 y2 w4 from by unfold c92_32; rw [rbd_th e5]).trans q0, q1, A_, K_, cX.trans cX.rfl q2, q3⟩
  · rintro S1 ⟨q1, q2⟩
    have hn := cov_none q1
    exact ⟨_, none, (by unfold c92_32; rw [rbd_thn hn]), rfl, A, K, cX.rfl, q2⟩
def c92_27 (rc : cRC) (s : cS) (y1 : Int32) (y2 : Int32) (z0 : Int32) : Option (cS × Option Int32) := rbd (rc 70 s 0 0 0 0 0 0 0) (fun s6 w4 => c92_32 rc s6 y1 y2)
theorem lc92_27 {sc : Nat × (Nat → Int32)} {N d : Nat} {A : Nat → Nat} {K : Nat} {S : am_S} {rc : cRC} {s : cS} {y1 : Int32} {y2 : Int32} {z0 : Int32} {o3 : Option Value} (hr : RCH sc rc N) (hS : CM A K S s) : am_L (am_PP sc) N d 92 27 [some (.ref 7), some (.int y1), some (.int y2), o3] [.int z0] S (fun o S1 => ∃ s1 w, c92_27 rc s y1 y2 z0 = some (s1, w) ∧ o = cov w ∧ CX A K S1 s1) := by
  refine l6i hi_92_27 ?_
  refine l2 (v := 7) hi_92_28 rfl ?_
  refine l32 (as := [.ref 7]) (la := [some (.ref 7), none, none, none, none, none]) (rest := []) hi_92_29 (am_hd0 (M := 92) (by decide) 29) rfl rfl rfl (fun N' d' hN_ => hr.h70 (N' := N') (d := d') hN_ hS) ?_ ?_
  · rintro v3 S1 ⟨s6, w_, e5, q1, A7, K8, x9, h2⟩
    obtain ⟨w4, rfl, rfl⟩ := cow_some q1
    show am_L _ _ _ _ _ [some (.ref 7), some (.int y1), some (.int y2), o3] [] _ _
    refine am_L.mono (lc92_32 hr h2 ) ?_
    rintro o S1 ⟨s1, w1, q0, q1, A_, K_, q2, q3⟩
    exact ⟨s1, w1, (show c92_27 rc s y1 y2 z0 = c92_32 rc s6 y1 y2 from by unfold c92_27; rw [rbd_s e5]).trans q0, q1, A_, K_, cX.trans (cX.trans cX.rfl x9) q2, q3⟩
  · rintro S1 ⟨s1, w1, q0, q1, A_, K_, q2, q3⟩
    obtain rfl := cow_none q1
    exact ⟨s1, none, (by unfold c92_27; rw [rbd_n q0]), rfl, A_, K_, cX.trans cX.rfl q2, q3⟩
def c92 (rc : cRC) (s : cS) (x1 : Int32) : Option (cS × Option Int32) := if (c53 s) ≠ 64 then if (c53 s) ≠ 1 then c92_126 rc s x1 (c63 s) else if (c93 s ((c63 s) + 1)) ≠ 59 then c92_126 rc s x1 (c63 s) else rbd (some (c55 s)) (fun _ w19 => c92_101 rc ((c55 s).1) x1 (c63 s) w19) else rbd (some (c55 s)) (fun _ w25 => c92_27 rc ((c55 s).1) x1 (c63 s) w25)
theorem lc92 {sc : Nat × (Nat → Int32)} {N d : Nat} {A : Nat → Nat} {K : Nat} {S : am_S} {rc : cRC} {s : cS} {x1 : Int32} (hr : RCH sc rc N) (hS : CM A K S s) : am_L (am_PP sc) N d 92 0 [some (.ref 7), some (.int x1), none, none] [] S (fun o S1 => ∃ s1 w, c92 rc s x1 = some (s1, w) ∧ o = cov w ∧ CX A K S1 s1) := by
  refine l2 (v := 7) hi_92_0 rfl ?_
  refine l20s (v := .ref 2) hS cs_7 hi_92_1 rfl ?_
  refine l32 (as := [.ref 2]) (la := [some (.ref 2)]) (rest := []) hi_92_4 (am_hd0 (M := 92) (by decide) 4) rfl rfl rfl (fun N' d' _ => lc63 (N := N') (d := d') hS ) ?_ (fun _ q => nomatch q.1)
  rintro v3 S1 ⟨ev3, h2⟩
  cases ev3
  show am_L _ _ _ _ _ [some (.ref 7), some (.int x1), none, none] [.int (c63 s)] _ _
  refine l3 (ls' := [some (.ref 7), some (.int x1), some (.int (c63 s)), none]) hi_92_7 (Nat.le_of_ble_eq_true rfl) rfl ?_
  refine l2 (v := 7) hi_92_8 rfl ?_
  refine l20s (v := .ref 2) h2 cs_7 hi_92_9 rfl ?_
  refine l32 (as := [.ref 2]) (la := [some (.ref 2)]) (rest := []) hi_92_12 (am_hd0 (M := 92) (by decide) 12) rfl rfl rfl (fun N' d' _ => lc53 (N := N') (d := d') h2 ) ?_ (fun _ q => nomatch q.1)
  rintro v6 S4 ⟨ev6, h5⟩
  cases ev6
  show am_L _ _ _ _ _ [some (.ref 7), some (.int x1), some (.int (c63 s)), none] [.int (c53 s)] _ _
  refine l0 hi_92_15 ?_
  by_cases cn7 : (c53 s) ≠ 64
  · refine l13t hi_92_17 (decide_eq_true cn7) ?_
    refine l2 (v := 7) hi_92_68 rfl ?_
    refine l20s (v := .ref 2) h5 cs_7 hi_92_69 rfl ?_
    refine l32 (as := [.ref 2]) (la := [some (.ref 2)]) (rest := []) hi_92_72 (am_hd0 (M := 92) (by decide) 72) rfl rfl rfl (fun N' d' _ => lc53 (N := N') (d := d') h5 ) ?_ (fun _ q => nomatch q.1)
    rintro v10 S8 ⟨ev10, h9⟩
    cases ev10
    show am_L _ _ _ _ _ [some (.ref 7), some (.int x1), some (.int (c63 s)), none] [.int (c53 s)] _ _
    refine l0 hi_92_75 ?_
    by_cases cn11 : (c53 s) ≠ 1
    · refine l13t hi_92_76 (decide_eq_true cn11) ?_
      refine am_L.mono (lc92_126 hr h9 ) ?_
      rintro o S1 ⟨s1, w1, q0, q1, A_, K_, q2, q3⟩
      exact ⟨s1, w1, (show c92 rc s x1 = c92_126 rc s x1 (c63 s) from by unfold c92; rw [if_pos cn7]; rw [if_pos cn11]).trans q0, q1, A_, K_, cX.trans cX.rfl q2, q3⟩
    · refine l13f hi_92_76 (decide_eq_false cn11) ?_
      refine l2 (v := 7) hi_92_79 rfl ?_
      refine l20s (v := .ref 2) h9 cs_7 hi_92_80 rfl ?_
      refine l1 (v := c63 s) hi_92_83 rfl ?_
      refine l0 hi_92_84 ?_
      refine l10 hi_92_85 ?_
      show am_L _ _ _ _ _ [some (.ref 7), some (.int x1), some (.int (c63 s)), none] [.int ((c63 s) + 1), .ref 2] _ _
      refine l32 (as := [.ref 2, .int ((c63 s) + 1)]) (la := [some (.ref 2), some (.int ((c63 s) + 1))]) (rest := []) hi_92_86 (am_hd0 (M := 92) (by decide) 86) rfl rfl rfl (fun N' d' _ => lc93 (N := N') (d := d') h9 ) ?_ (fun _ q => nomatch q.1)
      rintro v14 S12 ⟨ev14, h13⟩
      cases ev14
      show am_L _ _ _ _ _ [some (.ref 7), some (.int x1), some (.int (c63 s)), none] [.int (c93 s ((c63 s) + 1))] _ _
      refine l0 hi_92_89 ?_
      by_cases cn15 : (c93 s ((c63 s) + 1)) ≠ 59
      · refine l13t hi_92_91 (decide_eq_true cn15) ?_
        refine am_L.mono (lc92_126 hr h13 ) ?_
        rintro o S1 ⟨s1, w1, q0, q1, A_, K_, q2, q3⟩
        exact ⟨s1, w1, (show c92 rc s x1 = c92_126 rc s x1 (c63 s) from by unfold c92; rw [if_pos cn7]; rw [if_neg cn11]; rw [if_pos cn15]).trans q0, q1, A_, K_, cX.trans cX.rfl q2, q3⟩
      · refine l13f hi_92_91 (decide_eq_false cn15) ?_
        refine l2 (v := 7) hi_92_94 rfl ?_
        refine l20s (v := .ref 2) h13 cs_7 hi_92_95 rfl ?_
        refine l32 (as := [.ref 2]) (la := [some (.ref 2), none]) (rest := []) hi_92_98 (am_hd0 (M := 92) (by decide) 98) rfl rfl rfl (fun N' d' hN_ => lc55 (N := N') (d := d') h13 ) ?_ ?_
        · rintro v18 S16 ⟨ev, h17⟩
          obtain ⟨w19, e20, rfl⟩ := cov_some ev
          show am_L _ _ _ _ _ [some (.ref 7), some (.int x1), some (.int (c63 s)), none] [.int w19] _ _
          refine am_L.mono (lc92_101 hr h17 ) ?_
          rintro o S1 ⟨s1, w1, q0, q1, A_, K_, q2, q3⟩
          exact ⟨s1, w1, (show c92 rc s x1 = c92_101 rc ((c55 s).1) x1 (c63 s) w19 from by unfold c92; rw [if_pos cn7]; rw [if_neg cn11]; rw [if_neg cn15]; rw [rbd_th e20]).trans q0, q1, A_, K_, cX.trans cX.rfl q2, q3⟩
        · rintro S16 ⟨q1, q2⟩
          have hn := cov_none q1
          exact ⟨_, none, (by unfold c92; rw [if_pos cn7]; rw [if_neg cn11]; rw [if_neg cn15]; rw [rbd_thn hn]), rfl, A, K, cX.rfl, q2⟩
  · refine l13f hi_92_17 (decide_eq_false cn7) ?_
    refine l2 (v := 7) hi_92_20 rfl ?_
    refine l20s (v := .ref 2) h5 cs_7 hi_92_21 rfl ?_
    refine l32 (as := [.ref 2]) (la := [some (.ref 2), none]) (rest := []) hi_92_24 (am_hd0 (M := 92) (by decide) 24) rfl rfl rfl (fun N' d' hN_ => lc55 (N := N') (d := d') h5 ) ?_ ?_
    · rintro v24 S22 ⟨ev, h23⟩
      obtain ⟨w25, e26, rfl⟩ := cov_some ev
      show am_L _ _ _ _ _ [some (.ref 7), some (.int x1), some (.int (c63 s)), none] [.int w25] _ _
      refine am_L.mono (lc92_27 hr h23 ) ?_
      rintro o S1 ⟨s1, w1, q0, q1, A_, K_, q2, q3⟩
      exact ⟨s1, w1, (show c92 rc s x1 = c92_27 rc ((c55 s).1) x1 (c63 s) w25 from by unfold c92; rw [if_neg cn7]; rw [rbd_th e26]).trans q0, q1, A_, K_, cX.trans cX.rfl q2, q3⟩
    · rintro S22 ⟨q1, q2⟩
      have hn := cov_none q1
      exact ⟨_, none, (by unfold c92; rw [if_neg cn7]; rw [rbd_thn hn]), rfl, A, K, cX.rfl, q2⟩
def c91_90 (rc : cRC) (s : cS) : Option (cS × Option Int32) := rbd (some (c64 s 63)) (fun _ w4 => some ((c64 s 63).1, some 0))
theorem lc91_90 {sc : Nat × (Nat → Int32)} {N d : Nat} {A : Nat → Nat} {K : Nat} {S : am_S} {rc : cRC} {s : cS} {o1 : Option Value} {o2 : Option Value} {o3 : Option Value} (hr : RCH sc rc N) (hS : CM A K S s) : am_L (am_PP sc) N d 91 90 [some (.ref 7), o1, o2, o3] [] S (fun o S1 => ∃ s1 w, c91_90 rc s = some (s1, w) ∧ o = cow w ∧ CX A K S1 s1) := by
  refine l2 (v := 7) hi_91_90 rfl ?_
  refine l20s (v := .ref 2) hS cs_7 hi_91_91 rfl ?_
  refine l0 hi_91_94 ?_
  refine l32 (as := [.ref 2, .int 63]) (la := [some (.ref 2), some (.int 63)]) (rest := []) hi_91_96 (am_hd0 (M := 91) (by decide) 96) rfl rfl rfl (fun N' d' hN_ => lc64 (N := N') (d := d') hS ) ?_ ?_
  · rintro v3 S1 ⟨ev, h2⟩
    obtain ⟨w4, e5, rfl⟩ := cov_some ev
    show am_L _ _ _ _ _ [some (.ref 7), o1, o2, o3] [.int w4] _ _
    refine l6i hi_91_99 ?_
    exact l35 hi_91_100 ⟨(c64 s 63).1, some 0, (by unfold c91_90; rw [rbd_th e5]), rfl, A, K, cX.rfl, h2⟩
  · rintro S1 ⟨q1, q2⟩
    have hn := cov_none q1
    exact ⟨_, none, (by unfold c91_90; rw [rbd_thn hn]), rfl, A, K, cX.rfl, q2⟩
def c91_84 (rc : cRC) (s : cS) (y1 : Int32) (y2 : Int32) (y3 : Int32) : Option (cS × Option Int32) := rc 91032 s 0 y1 y2 (y3 + 1) 0 0 0
theorem lc91_84 {sc : Nat × (Nat → Int32)} {N d : Nat} {A : Nat → Nat} {K : Nat} {S : am_S} {rc : cRC} {s : cS} {y1 : Int32} {y2 : Int32} {y3 : Int32} (hr : RCH sc rc (N + 1)) (hS : CM A K S s) : am_L (am_PP sc) N d 91 84 [some (.ref 7), some (.int y1), some (.int y2), some (.int y3)] [] S (fun o S1 => ∃ s1 w, c91_84 rc s y1 y2 y3 = some (s1, w) ∧ o = cow w ∧ CX A K S1 s1) := by
  refine l5 (v := y3) (ls' := [some (.ref 7), some (.int y1), some (.int y2), some (.int (y3 + 1))]) hi_91_84 rfl rfl ?_
  refine l18 hi_91_87 ?_
  refine am_L.mono (hr.h91032 (N' := N)  (Nat.lt_succ_self _) hS) ?_
  rintro o S1 ⟨s1, w1, q0, q1, A_, K_, q2, q3⟩
  exact ⟨s1, w1, (show c91_84 rc s y1 y2 y3 = rc 91032 s 0 y1 y2 (y3 + 1) 0 0 0 from rfl).trans q0, q1, A_, K_, cX.trans cX.rfl q2, q3⟩
def c91_83 (rc : cRC) (s : cS) (y1 : Int32) (y2 : Int32) (y3 : Int32) (z0 : Int32) : Option (cS × Option Int32) := c91_84 rc s y1 y2 y3
theorem lc91_83 {sc : Nat × (Nat → Int32)} {N d : Nat} {A : Nat → Nat} {K : Nat} {S : am_S} {rc : cRC} {s : cS} {y1 : Int32} {y2 : Int32} {y3 : Int32} {z0 : Int32} (hr : RCH sc rc (N + 1)) (hS : CM A K S s) : am_L (am_PP sc) N d 91 83 [some (.ref 7), some (.int y1), some (.int y2), some (.int y3)] [.int z0] S (fun o S1 => ∃ s1 w, c91_83 rc s y1 y2 y3 z0 = some (s1, w) ∧ o = cow w ∧ CX A K S1 s1) := by
  refine l6i hi_91_83 ?_
  refine am_L.mono (lc91_84 hr hS ) ?_
  rintro o S1 ⟨s1, w1, q0, q1, A_, K_, q2, q3⟩
  exact ⟨s1, w1, (rfl).trans q0, q1, A_, K_, cX.trans cX.rfl q2, q3⟩
def c91_60 (rc : cRC) (s : cS) (y3 : Int32) (z0 : Int32) : Option (cS × Option Int32) := if (c95 s (c53 s)) = 0 then c91_84 rc s z0 (c95 s (c53 s)) y3 else rbd (some (c55 s)) (fun _ w11 => c91_83 rc ((c55 s).1) z0 (c95 s (c53 s)) y3 w11)
theorem lc91_60 {sc : Nat × (Nat → Int32)} {N d : Nat} {A : Nat → Nat} {K : Nat} {S : am_S} {rc : cRC} {s : cS} {y3 : Int32} {z0 : Int32} {o1 : Option Value} {o2 : Option Value} (hr : RCH sc rc (N + 1)) (hS : CM A K S s) : am_L (am_PP sc) N d 91 60 [some (.ref 7), o1, o2, some (.int y3)] [.int z0] S (fun o S1 => ∃ s1 w, c91_60 rc s y3 z0 = some (s1, w) ∧ o = cow w ∧ CX A K S1 s1) := by
  refine l3 (ls' := [some (.ref 7), some (.int z0), o2, some (.int y3)]) hi_91_60 (Nat.le_of_ble_eq_true rfl) rfl ?_
  refine l2 (v := 7) hi_91_61 rfl ?_
  refine l20s (v := .ref 2) hS cs_7 hi_91_62 rfl ?_
  refine l32 (as := [.ref 2]) (la := [some (.ref 2)]) (rest := []) hi_91_65 (am_hd0 (M := 91) (by decide) 65) rfl rfl rfl (fun N' d' _ => lc53 (N := N') (d := d') hS ) ?_ (fun _ q => nomatch q.1)
  rintro v3 S1 ⟨ev3, h2⟩
  cases ev3
  show am_L _ _ _ _ _ [some (.ref 7), some (.int z0), o2, some (.int y3)] [.int (c53 s)] _ _
  refine l32 (as := [.int (c53 s)]) (la := [some (.int (c53 s))]) (rest := []) hi_91_68 (am_hd0 (M := 91) (by decide) 68) rfl rfl rfl (fun N' d' _ => lc95 (N := N') (d := d') h2 ) ?_ (fun _ q => nomatch q.1)
  rintro v6 S4 ⟨ev6, h5⟩
  cases ev6
  show am_L _ _ _ _ _ [some (.ref 7), some (.int z0), o2, some (.int y3)] [.int (c95 s (c53 s))] _ _
  refine l3 (ls' := [some (.ref 7), some (.int z0), some (.int (c95 s (c53 s))), some (.int y3)]) hi_91_71 (Nat.le_of_ble_eq_true rfl) rfl ?_
  refine l1 (v := c95 s (c53 s)) hi_91_72 rfl ?_
  by_cases cn7 : (c95 s (c53 s)) = 0
  · refine l12t hi_91_73 (decide_eq_true cn7) ?_
    refine am_L.mono (lc91_84 hr h5 ) ?_
    rintro o S1 ⟨s1, w1, q0, q1, A_, K_, q2, q3⟩
    exact ⟨s1, w1, (show c91_60 rc s y3 z0 = c91_84 rc s z0 (c95 s (c53 s)) y3 from by unfold c91_60; rw [if_pos cn7]).trans q0, q1, A_, K_, cX.trans cX.rfl q2, q3⟩
  · refine l12f hi_91_73 (decide_eq_false cn7) ?_
    refine l2 (v := 7) hi_91_76 rfl ?_
    refine l20s (v := .ref 2) h5 cs_7 hi_91_77 rfl ?_
    refine l32 (as := [.ref 2]) (la := [some (.ref 2), none]) (rest := []) hi_91_80 (am_hd0 (M := 91) (by decide) 80) rfl rfl rfl (fun N' d' hN_ => lc55 (N := N') (d := d') h5 ) ?_ ?_
    · rintro v10 S8 ⟨ev, h9⟩
      obtain ⟨w11, e12, rfl⟩ := cov_some ev
      show am_L _ _ _ _ _ [some (.ref 7), some (.int z0), some (.int (c95 s (c53 s))), some (.int y3)] [.int w11] _ _
      refine am_L.mono (lc91_83 hr h9 ) ?_
      rintro o S1 ⟨s1, w1, q0, q1, A_, K_, q2, q3⟩
      exact ⟨s1, w1, (show c91_60 rc s y3 z0 = c91_83 rc ((c55 s).1) z0 (c95 s (c53 s)) y3 w11 from by unfold c91_60; rw [if_neg cn7]; rw [rbd_th e12]).trans q0, q1, A_, K_, cX.trans cX.rfl q2, q3⟩
    · rintro S8 ⟨q1, q2⟩
      have hn := cov_none q1
      exact ⟨_, none, (by unfold c91_60; rw [if_neg cn7]; rw [rbd_thn hn]), rfl, A, K, cX.rfl, q2⟩
def c91_32 (rc : cRC) (s : cS) (y1 : Int32) (y2 : Int32) (y3 : Int32) : Option (cS × Option Int32) := if y2 = 0 then c91_90 rc s else if (c53 s) = 63 then c91_90 rc s else if 16384 < y3 then c91_90 rc s else rbd (rc 92 s 0 y1 0 0 0 0 0) (fun s12 w10 => c91_60 rc s12 y3 w10)
theorem lc91_32 {sc : Nat × (Nat → Int32)} {N d : Nat} {A : Nat → Nat} {K : Nat} {S : am_S} {rc : cRC} {s : cS} {y1 : Int32} {y2 : Int32} {y3 : Int32} (hr : RCH sc rc N) (hS : CM A K S s) : am_L (am_PP sc) N d 91 32 [some (.ref 7), some (.int y1), some (.int y2), some (.int y3)] [] S (fun o S1 => ∃ s1 w, c91_32 rc s y1 y2 y3 = some (s1, w) ∧ o = cow w ∧ CX A K S1 s1) := by
  cases N with
  | zero => exact l_zero
  | succ N =>
    refine l1d (v := y2) hi_91_32 rfl ?_
    by_cases cn1 : y2 = 0
    · refine l12t hi_91_33 (decide_eq_true cn1) ?_
      refine am_L.mono (lc91_90 (hr.less (Nat.le_succ _)) hS ) ?_
      rintro o S1 ⟨s1, w1, q0, q1, A_, K_, q2, q3⟩
      exact ⟨s1, w1, (show c91_32 rc s y1 y2 y3 = c91_90 rc s from by unfold c91_32; rw [if_pos cn1]).trans q0, q1, A_, K_, cX.trans cX.rfl q2, q3⟩
    · refine l12f hi_91_33 (decide_eq_false cn1) ?_
      refine l2 (v := 7) hi_91_36 rfl ?_
      refine l20s (v := .ref 2) hS cs_7 hi_91_37 rfl ?_
      refine l32 (as := [.ref 2]) (la := [some (.ref 2)]) (rest := []) hi_91_40 (am_hd0 (M := 91) (by decide) 40) rfl rfl rfl (fun N' d' _ => lc53 (N := N') (d := d') hS ) ?_ (fun _ q => nomatch q.1)
      rintro v4 S2 ⟨ev4, h3⟩
      cases ev4
      show am_L _ _ _ _ _ [some (.ref 7), some (.int y1), some (.int y2), some (.int y3)] [.int (c53 s)] _ _
      refine l0 hi_91_43 ?_
      by_cases cn5 : (c53 s) = 63
      · refine l13t hi_91_45 (decide_eq_true cn5) ?_
        refine am_L.mono (lc91_90 (hr.less (Nat.le_succ _)) h3 ) ?_
        rintro o S1 ⟨s1, w1, q0, q1, A_, K_, q2, q3⟩
        exact ⟨s1, w1, (show c91_32 rc s y1 y2 y3 = c91_90 rc s from by unfold c91_32; rw [if_neg cn1]; rw [if_pos cn5]).trans q0, q1, A_, K_, cX.trans cX.rfl q2, q3⟩
      · refine l13f hi_91_45 (decide_eq_false cn5) ?_
        refine l1 (v := y3) hi_91_48 rfl ?_
        refine l0 hi_91_49 ?_
        by_cases cn6 : 16384 < y3
        · refine l13t hi_91_52 (decide_eq_true cn6) ?_
          refine am_L.mono (lc91_90 (hr.less (Nat.le_succ _)) h3 ) ?_
          rintro o S1 ⟨s1, w1, q0, q1, A_, K_, q2, q3⟩
          exact ⟨s1, w1, (show c91_32 rc s y1 y2 y3 = c91_90 rc s from by unfold c91_32; rw [if_neg cn1]; rw [if_neg cn5]; rw [if_pos cn6]).trans q0, q1, A_, K_, cX.trans cX.rfl q2, q3⟩
        · refine l13f hi_91_52 (decide_eq_false cn6) ?_
          refine l2 (v := 7) hi_91_55 rfl ?_
          refine l1 (v := y1) hi_91_56 rfl ?_
          refine l32 (as := [.ref 7, .int y1]) (la := [some (.ref 7), some (.int y1), none, none]) (rest := []) hi_91_57 (am_hd0 (M := 91) (by decide) 57) rfl rfl rfl (fun N' d' hN_ => hr.h92 (N' := N') (d := d') (Nat.lt_succ_of_lt hN_) h3) ?_ ?_
          · rintro v9 S7 ⟨s12, w_, e11, q1, A13, K14, x15, h8⟩
            obtain ⟨w10, rfl, rfl⟩ := cov_some q1
            show am_L _ _ _ _ _ [some (.ref 7), some (.int y1), some (.int y2), some (.int y3)] [.int w10] _ _
            refine am_L.mono (lc91_60 hr h8 ) ?_
            rintro o S1 ⟨s1, w1, q0, q1, A_, K_, q2, q3⟩
            exact ⟨s1, w1, (show c91_32 rc s y1 y2 y3 = c91_60 rc s12 y3 w10 from by unfold c91_32; rw [if_neg cn1]; rw [if_neg cn5]; rw [if_neg cn6]; rw [rbd_s e11]).trans q0, q1, A_, K_, cX.trans (cX.trans cX.rfl x15) q2, q3⟩
          · rintro S7 ⟨s1, w1, q0, q1, A_, K_, q2, q3⟩
            obtain rfl := cov_none q1
            exact ⟨s1, none, (by unfold c91_32; rw [if_neg cn1]; rw [if_neg cn5]; rw [if_neg cn6]; rw [rbd_n q0]), rfl, A_, K_, cX.trans cX.rfl q2, q3⟩
def c91_25 (rc : cRC) (s : cS) (z0 : Int32) : Option (cS × Option Int32) := c91_32 rc s 0 1 0
theorem lc91_25 {sc : Nat × (Nat → Int32)} {N d : Nat} {A : Nat → Nat} {K : Nat} {S : am_S} {rc : cRC} {s : cS} {z0 : Int32} {o1 : Option Value} {o2 : Option Value} {o3 : Option Value} (hr : RCH sc rc N) (hS : CM A K S s) : am_L (am_PP sc) N d 91 25 [some (.ref 7), o1, o2, o3] [.int z0] S (fun o S1 => ∃ s1 w, c91_25 rc s z0 = some (s1, w) ∧ o = cow w ∧ CX A K S1 s1) := by
  refine l6i hi_91_25 ?_
  refine l0 hi_91_26 ?_
  refine l3 (ls' := [some (.ref 7), some (.int 0), o2, o3]) hi_91_27 (Nat.le_of_ble_eq_true rfl) rfl ?_
  refine l0 hi_91_28 ?_
  refine l3 (ls' := [some (.ref 7), some (.int 0), some (.int 1), o3]) hi_91_29 (Nat.le_of_ble_eq_true rfl) rfl ?_
  refine l0 hi_91_30 ?_
  refine l3 (ls' := [some (.ref 7), some (.int 0), some (.int 1), some (.int 0)]) hi_91_31 (Nat.le_of_ble_eq_true rfl) rfl ?_
  refine am_L.mono (lc91_32  hr hS) ?_
  rintro o S1 ⟨s1, w1, q0, q1, A_, K_, q2, q3⟩
  exact ⟨s1, w1, (show c91_25 rc s z0 = c91_32 rc s 0 1 0 from rfl).trans q0, q1, A_, K_, cX.trans cX.rfl q2, q3⟩
def c91_15 (rc : cRC) (s : cS) (z0 : Int32) : Option (cS × Option Int32) := rbd (some (c64 s 62)) (fun _ w4 => c91_25 rc ((c64 s 62).1) w4)
theorem lc91_15 {sc : Nat × (Nat → Int32)} {N d : Nat} {A : Nat → Nat} {K : Nat} {S : am_S} {rc : cRC} {s : cS} {z0 : Int32} {o1 : Option Value} {o2 : Option Value} {o3 : Option Value} (hr : RCH sc rc N) (hS : CM A K S s) : am_L (am_PP sc) N d 91 15 [some (.ref 7), o1, o2, o3] [.int z0] S (fun o S1 => ∃ s1 w, c91_15 rc s z0 = some (s1, w) ∧ o = cow w ∧ CX A K S1 s1) := by
  refine l6i hi_91_15 ?_
  refine l2 (v := 7) hi_91_16 rfl ?_
  refine l20s (v := .ref 2) hS cs_7 hi_91_17 rfl ?_
  refine l0 hi_91_20 ?_
  refine l32 (as := [.ref 2, .int 62]) (la := [some (.ref 2), some (.int 62)]) (rest := []) hi_91_22 (am_hd0 (M := 91) (by decide) 22) rfl rfl rfl (fun N' d' hN_ => lc64 (N := N') (d := d') hS ) ?_ ?_
  · rintro v3 S1 ⟨ev, h2⟩
    obtain ⟨w4, e5, rfl⟩ := cov_some ev
    show am_L _ _ _ _ _ [some (.ref 7), o1, o2, o3] [.int w4] _ _
    refine am_L.mono (lc91_25 hr h2 ) ?_
    rintro o S1 ⟨s1, w1, q0, q1, A_, K_, q2, q3⟩
    exact ⟨s1, w1, (show c91_15 rc s z0 = c91_25 rc ((c64 s 62).1) w4 from by unfold c91_15; rw [rbd_th e5]).trans q0, q1, A_, K_, cX.trans cX.rfl q2, q3⟩
  · rintro S1 ⟨q1, q2⟩
    have hn := cov_none q1
    exact ⟨_, none, (by unfold c91_15; rw [rbd_thn hn]), rfl, A, K, cX.rfl, q2⟩
def c91 (rc : cRC) (s : cS) : Option (cS × Option Int32) := c91_15 rc ((c78 s 20 0 0 (c63 s)).1) ((c78 s 20 0 0 (c63 s)).2)
theorem lc91 {sc : Nat × (Nat → Int32)} {N d : Nat} {A : Nat → Nat} {K : Nat} {S : am_S} {rc : cRC} {s : cS} (hr : RCH sc rc N) (hS : CM A K S s) : am_L (am_PP sc) N d 91 0 [some (.ref 7), none, none, none] [] S (fun o S1 => ∃ s1 w, c91 rc s = some (s1, w) ∧ o = cow w ∧ CX A K S1 s1) := by
  refine l2 (v := 7) hi_91_0 rfl ?_
  refine l0 hi_91_1 ?_
  refine l0 hi_91_3 ?_
  refine l0 hi_91_4 ?_
  refine l2 (v := 7) hi_91_5 rfl ?_
  refine l20s (v := .ref 2) hS cs_7 hi_91_6 rfl ?_
  refine l32 (as := [.ref 2]) (la := [some (.ref 2)]) (rest := [.int 0, .int 0, .int 20, .ref 7]) hi_91_9 (am_hd0 (M := 91) (by decide) 9) rfl rfl rfl (fun N' d' _ => lc63 (N := N') (d := d') hS ) ?_ (fun _ q => nomatch q.1)
  rintro v3 S1 ⟨ev3, h2⟩
  cases ev3
  show am_L _ _ _ _ _ [some (.ref 7), none, none, none] [.int (c63 s), .int 0, .int 0, .int 20, .ref 7] _ _
  refine l32 (as := [.ref 7, .int 20, .int 0, .int 0, .int (c63 s)]) (la := [some (.ref 7), some (.int 20), some (.int 0), some (.int 0), some (.int (c63 s))]) (rest := []) hi_91_12 (am_hd0 (M := 91) (by decide) 12) rfl rfl rfl (fun N' d' _ => lc78 (N := N') (d := d') h2 ) ?_ (fun _ q => nomatch q.1)
  rintro v6 S4 ⟨ev6, h5⟩
  cases ev6
  show am_L _ _ _ _ _ [some (.ref 7), none, none, none] [.int ((c78 s 20 0 0 (c63 s)).2)] _ _
  refine am_L.mono (lc91_15 hr h5 ) ?_
  rintro o S1 ⟨s1, w1, q0, q1, A_, K_, q2, q3⟩
  exact ⟨s1, w1, (rfl).trans q0, q1, A_, K_, cX.trans cX.rfl q2, q3⟩
noncomputable def c70_187 (rc : cRC) (s : cS) (y2 : Int32) : Option (cS × Option Int32) := some (nf s 7 5 y2, some 0)
theorem lc70_187 {sc : Nat × (Nat → Int32)} {N d : Nat} {A : Nat → Nat} {K : Nat} {S : am_S} {rc : cRC} {s : cS} {y2 : Int32} {o1 : Option Value} {o3 : Option Value} {o4 : Option Value} {o5 : Option Value} (hr : RCH sc rc N) (hS : CM A K S s) : am_L (am_PP sc) N d 70 187 [some (.ref 7), o1, some (.int y2), o3, o4, o5] [] S (fun o S1 => ∃ s1 w, c70_187 rc s y2 = some (s1, w) ∧ o = cow w ∧ CX A K S1 s1) := by
  refine l2 (v := 7) hi_70_187 rfl ?_
  refine l1 (v := y2) hi_70_188 rfl ?_
  refine l21s hS cs_7 hi_70_189 (fun _ _ => rfl) fun S1 h2 => ?_
  exact l35 hi_70_192 ⟨nf s 7 5 y2, some 0, (rfl), rfl, A, K, cX.rfl, h2⟩
noncomputable def c70_181 (rc : cRC) (s : cS) (y1 : Int32) (y2 : Int32) : Option (cS × Option Int32) := c70_187 rc ((c108 s y1 0).1) y2
theorem lc70_181 {sc : Nat × (Nat → Int32)} {N d : Nat} {A : Nat → Nat} {K : Nat} {S : am_S} {rc : cRC} {s : cS} {y1 : Int32} {y2 : Int32} {o3 : Option Value} {o4 : Option Value} {o5 : Option Value} (hr : RCH sc rc N) (hS : CM A K S s) : am_L (am_PP sc) N d 70 181 [some (.ref 7), some (.int y1), some (.int y2), o3, o4, o5] [] S (fun o S1 => ∃ s1 w, c70_181 rc s y1 y2 = some (s1, w) ∧ o = cow w ∧ CX A K S1 s1) := by
  refine l2 (v := 7) hi_70_181 rfl ?_
  refine l1 (v := y1) hi_70_182 rfl ?_
  refine l0 hi_70_183 ?_
  refine l32 (as := [.ref 7, .int y1, .int 0]) (la := [some (.ref 7), some (.int y1), some (.int 0), none, none, none]) (rest := []) hi_70_184 (am_hd0 (M := 70) (by decide) 184) rfl rfl rfl (fun N' d' _ => lc108 (N := N') (d := d') hS ) ?_ (fun _ q => nomatch q.1)
  rintro v3 S1 ⟨ev3, h2⟩
  cases ev3
  show am_L _ _ _ _ _ [some (.ref 7), some (.int y1), some (.int y2), o3, o4, o5] [] _ _
  refine am_L.mono (lc70_187 hr h2 ) ?_
  rintro o S1 ⟨s1, w1, q0, q1, A_, K_, q2, q3⟩
  exact ⟨s1, w1, (rfl).trans q0, q1, A_, K_, cX.trans cX.rfl q2, q3⟩
noncomputable def c70_174 (rc : cRC) (s : cS) (y1 : Int32) (y2 : Int32) (y4 : Int32) (z0 : Int32) : Option (cS × Option Int32) := rc 70015 s 0 y1 y2 z0 (y4 + 1) 0 0
theorem lc70_174 {sc : Nat × (Nat → Int32)} {N d : Nat} {A : Nat → Nat} {K : Nat} {S : am_S} {rc : cRC} {s : cS} {y1 : Int32} {y2 : Int32} {y4 : Int32} {z0 : Int32} {o3 : Option Value} {o5 : Option Value} (hr : RCH sc rc (N + 1)) (hS : CM A K S s) : am_L (am_PP sc) N d 70 174 [some (.ref 7), some (.int y1), some (.int y2), o3, some (.int y4), o5] [.int z0] S (fun o S1 => ∃ s1 w, c70_174 rc s y1 y2 y4 z0 = some (s1, w) ∧ o = cow w ∧ CX A K S1 s1) := by
  refine l3 (ls' := [some (.ref 7), some (.int y1), some (.int y2), some (.int z0), some (.int y4), o5]) hi_70_174 (Nat.le_of_ble_eq_true rfl) rfl ?_
  refine l5 (v := y4) (ls' := [some (.ref 7), some (.int y1), some (.int y2), some (.int z0), some (.int (y4 + 1)), o5]) hi_70_175 rfl rfl ?_
  refine l18 hi_70_178 ?_
  refine am_L.mono (hr.h70015 (N' := N) (o5 := o5) (Nat.lt_succ_self _) hS) ?_
  rintro o S1 ⟨s1, w1, q0, q1, A_, K_, q2, q3⟩
  exact ⟨s1, w1, (show c70_174 rc s y1 y2 y4 z0 = rc 70015 s 0 y1 y2 z0 (y4 + 1) 0 0 from rfl).trans q0, q1, A_, K_, cX.trans cX.rfl q2, q3⟩
noncomputable def c70_168 (rc : cRC) (s : cS) (y1 : Int32) (y4 : Int32) (z0 : Int32) : Option (cS × Option Int32) := rbd (some (c105 s y1)) (fun _ w4 => c70_174 rc ((c105 s y1).1) y1 z0 y4 w4)
theorem lc70_168 {sc : Nat × (Nat → Int32)} {N d : Nat} {A : Nat → Nat} {K : Nat} {S : am_S} {rc : cRC} {s : cS} {y1 : Int32} {y4 : Int32} {z0 : Int32} {o2 : Option Value} {o3 : Option Value} {o5 : Option Value} (hr : RCH sc rc (N + 1)) (hS : CM A K S s) : am_L (am_PP sc) N d 70 168 [some (.ref 7), some (.int y1), o2, o3, some (.int y4), o5] [.int z0] S (fun o S1 => ∃ s1 w, c70_168 rc s y1 y4 z0 = some (s1, w) ∧ o = cow w ∧ CX A K S1 s1) := by
  refine l3 (ls' := [some (.ref 7), some (.int y1), some (.int z0), o3, some (.int y4), o5]) hi_70_168 (Nat.le_of_ble_eq_true rfl) rfl ?_
  refine l2 (v := 7) hi_70_169 rfl ?_
  refine l1 (v := y1) hi_70_170 rfl ?_
  refine l32 (as := [.ref 7, .int y1]) (la := [some (.ref 7), some (.int y1), none, none, none]) (rest := []) hi_70_171 (am_hd0 (M := 70) (by decide) 171) rfl rfl rfl (fun N' d' hN_ => lc105 (N := N') (d := d') hS ) ?_ ?_
  · rintro v3 S1 ⟨ev, h2⟩
    obtain ⟨w4, e5, rfl⟩ := cov_some ev
    show am_L _ _ _ _ _ [some (.ref 7), some (.int y1), some (.int z0), o3, some (.int y4), o5] [.int w4] _ _
    refine am_L.mono (lc70_174 hr h2 ) ?_
    rintro o S1 ⟨s1, w1, q0, q1, A_, K_, q2, q3⟩
    exact ⟨s1, w1, (show c70_168 rc s y1 y4 z0 = c70_174 rc ((c105 s y1).1) y1 z0 y4 w4 from by unfold c70_168; rw [rbd_th e5]).trans q0, q1, A_, K_, cX.trans cX.rfl q2, q3⟩
  · rintro S1 ⟨q1, q2⟩
    have hn := cov_none q1
    exact ⟨_, none, (by unfold c70_168; rw [rbd_thn hn]), rfl, A, K, cX.rfl, q2⟩
noncomputable def c70_167 (rc : cRC) (s : cS) (y1 : Int32) (y4 : Int32) : Option (cS × Option Int32) := c70_168 rc s y1 y4 0
theorem lc70_167 {sc : Nat × (Nat → Int32)} {N d : Nat} {A : Nat → Nat} {K : Nat} {S : am_S} {rc : cRC} {s : cS} {y1 : Int32} {y4 : Int32} {o2 : Option Value} {o3 : Option Value} {o5 : Option Value} (hr : RCH sc rc (N + 1)) (hS : CM A K S s) : am_L (am_PP sc) N d 70 167 [some (.ref 7), some (.int y1), o2, o3, some (.int y4), o5] [] S (fun o S1 => ∃ s1 w, c70_167 rc s y1 y4 = some (s1, w) ∧ o = cow w ∧ CX A K S1 s1) := by
  refine l0 hi_70_167 ?_
  refine am_L.mono (lc70_168 hr hS ) ?_
  rintro o S1 ⟨s1, w1, q0, q1, A_, K_, q2, q3⟩
  exact ⟨s1, w1, (rfl).trans q0, q1, A_, K_, cX.trans cX.rfl q2, q3⟩
noncomputable def c70_148 (rc : cRC) (s : cS) (y1 : Int32) (y2 : Int32) (y4 : Int32) : Option (cS × Option Int32) := if y2 = 0 then c70_167 rc s y1 y4 else if (s.r (.s 8)) ≠ y1 then c70_167 rc s y1 y4 else c70_168 rc s y1 y4 1
theorem lc70_148 {sc : Nat × (Nat → Int32)} {N d : Nat} {A : Nat → Nat} {K : Nat} {S : am_S} {rc : cRC} {s : cS} {y1 : Int32} {y2 : Int32} {y4 : Int32} {o3 : Option Value} {o5 : Option Value} (hr : RCH sc rc (N + 1)) (hS : CM A K S s) : am_L (am_PP sc) N d 70 148 [some (.ref 7), some (.int y1), some (.int y2), o3, some (.int y4), o5] [] S (fun o S1 => ∃ s1 w, c70_148 rc s y1 y2 y4 = some (s1, w) ∧ o = cow w ∧ CX A K S1 s1) := by
  refine l1 (v := y2) hi_70_148 rfl ?_
  by_cases cn1 : y2 = 0
  · refine l12t hi_70_149 (decide_eq_true cn1) ?_
    refine am_L.mono (lc70_167 hr hS ) ?_
    rintro o S1 ⟨s1, w1, q0, q1, A_, K_, q2, q3⟩
    exact ⟨s1, w1, (show c70_148 rc s y1 y2 y4 = c70_167 rc s y1 y4 from by unfold c70_148; rw [if_pos cn1]).trans q0, q1, A_, K_, cX.trans cX.rfl q2, q3⟩
  · refine l12f hi_70_149 (decide_eq_false cn1) ?_
    refine l2 (v := 7) hi_70_152 rfl ?_
    refine l20s (v := .ref 8) hS cs_7 hi_70_153 rfl ?_
    refine l32 (as := [.ref 8]) (la := [some (.ref 8)]) (rest := []) hi_70_156 (am_hd0 (M := 70) (by decide) 156) rfl rfl rfl (fun N' d' _ => lc36 (N := N') (d := d') (t := (.s 8)) hS ct_8) ?_ (fun _ q => nomatch q.1)
    rintro v4 S2 ⟨ev4, h3⟩
    cases ev4
    show am_L _ _ _ _ _ [some (.ref 7), some (.int y1), some (.int y2), o3, some (.int y4), o5] [.int (s.r (.s 8))] _ _
    refine l1 (v := y1) hi_70_159 rfl ?_
    by_cases cn5 : (s.r (.s 8)) ≠ y1
    · refine l13t hi_70_160 (decide_eq_true cn5) ?_
      refine am_L.mono (lc70_167 hr h3 ) ?_
      rintro o S1 ⟨s1, w1, q0, q1, A_, K_, q2, q3⟩
      exact ⟨s1, w1, (show c70_148 rc s y1 y2 y4 = c70_167 rc s y1 y4 from by unfold c70_148; rw [if_neg cn1]; rw [if_pos cn5]).trans q0, q1, A_, K_, cX.trans cX.rfl q2, q3⟩
    · refine l13f hi_70_160 (decide_eq_false cn5) ?_
      refine l0 hi_70_163 ?_
      refine l18 hi_70_164 ?_
      refine am_L.mono (lc70_168 hr h3 ) ?_
      rintro o S1 ⟨s1, w1, q0, q1, A_, K_, q2, q3⟩
      exact ⟨s1, w1, (show c70_148 rc s y1 y2 y4 = c70_168 rc s y1 y4 1 from by unfold c70_148; rw [if_neg cn1]; rw [if_neg cn5]).trans q0, q1, A_, K_, cX.trans cX.rfl q2, q3⟩
noncomputable def c70_139 (rc : cRC) (s : cS) (y1 : Int32) (y4 : Int32) (z0 : Int32) : Option (cS × Option Int32) := c70_148 rc s y1 z0 y4
theorem lc70_139 {sc : Nat × (Nat → Int32)} {N d : Nat} {A : Nat → Nat} {K : Nat} {S : am_S} {rc : cRC} {s : cS} {y1 : Int32} {y4 : Int32} {z0 : Int32} {o2 : Option Value} {o3 : Option Value} {o5 : Option Value} (hr : RCH sc rc (N + 1)) (hS : CM A K S s) : am_L (am_PP sc) N d 70 139 [some (.ref 7), some (.int y1), o2, o3, some (.int y4), o5] [.int z0] S (fun o S1 => ∃ s1 w, c70_139 rc s y1 y4 z0 = some (s1, w) ∧ o = cow w ∧ CX A K S1 s1) := by
  refine l3 (ls' := [some (.ref 7), some (.int y1), some (.int z0), o3, some (.int y4), o5]) hi_70_139 (Nat.le_of_ble_eq_true rfl) rfl ?_
  refine l18 hi_70_140 ?_
  refine am_L.mono (lc70_148 hr hS ) ?_
  rintro o S1 ⟨s1, w1, q0, q1, A_, K_, q2, q3⟩
  exact ⟨s1, w1, (rfl).trans q0, q1, A_, K_, cX.trans cX.rfl q2, q3⟩
noncomputable def c70_128 (rc : cRC) (s : cS) (y1 : Int32) (y4 : Int32) (y5 : Int32) : Option (cS × Option Int32) := if y5 ≠ 4 then c70_139 rc s y1 y4 0 else c70_139 rc s y1 y4 1
theorem lc70_128 {sc : Nat × (Nat → Int32)} {N d : Nat} {A : Nat → Nat} {K : Nat} {S : am_S} {rc : cRC} {s : cS} {y1 : Int32} {y4 : Int32} {y5 : Int32} {o2 : Option Value} {o3 : Option Value} (hr : RCH sc rc (N + 1)) (hS : CM A K S s) : am_L (am_PP sc) N d 70 128 [some (.ref 7), some (.int y1), o2, o3, some (.int y4), some (.int y5)] [] S (fun o S1 => ∃ s1 w, c70_128 rc s y1 y4 y5 = some (s1, w) ∧ o = cow w ∧ CX A K S1 s1) := by
  refine l1 (v := y5) hi_70_128 rfl ?_
  refine l0 hi_70_130 ?_
  by_cases cn1 : y5 ≠ 4
  · refine l13t hi_70_131 (decide_eq_true cn1) ?_
    refine l0 hi_70_138 ?_
    refine am_L.mono (lc70_139 hr hS ) ?_
    rintro o S1 ⟨s1, w1, q0, q1, A_, K_, q2, q3⟩
    exact ⟨s1, w1, (show c70_128 rc s y1 y4 y5 = c70_139 rc s y1 y4 0 from by unfold c70_128; rw [if_pos cn1]).trans q0, q1, A_, K_, cX.trans cX.rfl q2, q3⟩
  · refine l13f hi_70_131 (decide_eq_false cn1) ?_
    refine l0 hi_70_134 ?_
    refine l18 hi_70_135 ?_
    refine am_L.mono (lc70_139 hr hS ) ?_
    rintro o S1 ⟨s1, w1, q0, q1, A_, K_, q2, q3⟩
    exact ⟨s1, w1, (show c70_128 rc s y1 y4 y5 = c70_139 rc s y1 y4 1 from by unfold c70_128; rw [if_neg cn1]).trans q0, q1, A_, K_, cX.trans cX.rfl q2, q3⟩
noncomputable def c70_120 (rc : cRC) (s : cS) (y1 : Int32) (y4 : Int32) (z0 : Int32) : Option (cS × Option Int32) := c70_128 rc ((c100 s z0).1) y1 y4 z0
theorem lc70_120 {sc : Nat × (Nat → Int32)} {N d : Nat} {A : Nat → Nat} {K : Nat} {S : am_S} {rc : cRC} {s : cS} {y1 : Int32} {y4 : Int32} {z0 : Int32} {o2 : Option Value} {o3 : Option Value} {o5 : Option Value} (hr : RCH sc rc (N + 1)) (hS : CM A K S s) : am_L (am_PP sc) N d 70 120 [some (.ref 7), some (.int y1), o2, o3, some (.int y4), o5] [.int z0] S (fun o S1 => ∃ s1 w, c70_120 rc s y1 y4 z0 = some (s1, w) ∧ o = cow w ∧ CX A K S1 s1) := by
  refine l3 (ls' := [some (.ref 7), some (.int y1), o2, o3, some (.int y4), some (.int z0)]) hi_70_120 (Nat.le_of_ble_eq_true rfl) rfl ?_
  refine l2 (v := 7) hi_70_122 rfl ?_
  refine l1 (v := z0) hi_70_123 rfl ?_
  refine l32 (as := [.ref 7, .int z0]) (la := [some (.ref 7), some (.int z0)]) (rest := []) hi_70_125 (am_hd0 (M := 70) (by decide) 125) rfl rfl rfl (fun N' d' _ => lc100 (N := N') (d := d') hS ) ?_ (fun _ q => nomatch q.1)
  rintro v3 S1 ⟨ev3, h2⟩
  cases ev3
  show am_L _ _ _ _ _ [some (.ref 7), some (.int y1), o2, o3, some (.int y4), some (.int z0)] [] _ _
  refine am_L.mono (lc70_128 hr h2 ) ?_
  rintro o S1 ⟨s1, w1, q0, q1, A_, K_, q2, q3⟩
  exact ⟨s1, w1, (rfl).trans q0, q1, A_, K_, cX.trans cX.rfl q2, q3⟩
noncomputable def c70_106 (rc : cRC) (s : cS) (y1 : Int32) (y2 : Int32) (y4 : Int32) : Option (cS × Option Int32) := c70_148 rc s y1 y2 y4
theorem lc70_106 {sc : Nat × (Nat → Int32)} {N d : Nat} {A : Nat → Nat} {K : Nat} {S : am_S} {rc : cRC} {s : cS} {y1 : Int32} {y2 : Int32} {y4 : Int32} {o3 : Option Value} {o5 : Option Value} (hr : RCH sc rc (N + 1)) (hS : CM A K S s) : am_L (am_PP sc) N d 70 106 [some (.ref 7), some (.int y1), some (.int y2), o3, some (.int y4), o5] [] S (fun o S1 => ∃ s1 w, c70_106 rc s y1 y2 y4 = some (s1, w) ∧ o = cow w ∧ CX A K S1 s1) := by
  refine l18 hi_70_106 ?_
  refine am_L.mono (lc70_148 hr hS ) ?_
  rintro o S1 ⟨s1, w1, q0, q1, A_, K_, q2, q3⟩
  exact ⟨s1, w1, (rfl).trans q0, q1, A_, K_, cX.trans cX.rfl q2, q3⟩
noncomputable def c70_91 (rc : cRC) (s : cS) (y1 : Int32) (y2 : Int32) (y4 : Int32) (z0 : Int32) : Option (cS × Option Int32) := rbd (rc 73 s 0 ((c63 s) - 1) 0 0 0 0 0) (fun s9 w7 => c70_106 rc s9 y1 y2 y4)
theorem lc70_91 {sc : Nat × (Nat → Int32)} {N d : Nat} {A : Nat → Nat} {K : Nat} {S : am_S} {rc : cRC} {s : cS} {y1 : Int32} {y2 : Int32} {y4 : Int32} {z0 : Int32} {o3 : Option Value} {o5 : Option Value} (hr : RCH sc rc (N + 1)) (hS : CM A K S s) : am_L (am_PP sc) N d 70 91 [some (.ref 7), some (.int y1), some (.int y2), o3, some (.int y4), o5] [.int z0] S (fun o S1 => ∃ s1 w, c70_91 rc s y1 y2 y4 z0 = some (s1, w) ∧ o = cow w ∧ CX A K S1 s1) := by
  refine l6i hi_70_91 ?_
  refine l2 (v := 7) hi_70_92 rfl ?_
  refine l2 (v := 7) hi_70_93 rfl ?_
  refine l20s (v := .ref 2) hS cs_7 hi_70_94 rfl ?_
  refine l32 (as := [.ref 2]) (la := [some (.ref 2)]) (rest := [.ref 7]) hi_70_97 (am_hd0 (M := 70) (by decide) 97) rfl rfl rfl (fun N' d' _ => lc63 (N := N') (d := d') hS ) ?_ (fun _ q => nomatch q.1)
  rintro v3 S1 ⟨ev3, h2⟩
  cases ev3
  show am_L _ _ _ _ _ [some (.ref 7), some (.int y1), some (.int y2), o3, some (.int y4), o5] [.int (c63 s), .ref 7] _ _
  refine l0 hi_70_100 ?_
  refine l10 hi_70_101 ?_
  show am_L _ _ _ _ _ [some (.ref 7), some (.int y1), some (.int y2), o3, some (.int y4), o5] [.int ((c63 s) - 1), .ref 7] _ _
  refine l0 hi_70_102 ?_
  refine l32 (as := [.ref 7, .int ((c63 s) - 1), .int 0]) (la := [some (.ref 7), some (.int ((c63 s) - 1)), some (.int 0), none, none, none]) (rest := []) hi_70_103 (am_hd0 (M := 70) (by decide) 103) rfl rfl rfl (fun N' d' hN_ => hr.h73 (N' := N') (d := d') (Nat.lt_succ_of_lt hN_) h2) ?_ ?_
  · rintro v6 S4 ⟨s9, w_, e8, q1, A10, K11, x12, h5⟩
    obtain ⟨w7, rfl, rfl⟩ := cow_some q1
    show am_L _ _ _ _ _ [some (.ref 7), some (.int y1), some (.int y2), o3, some (.int y4), o5] [] _ _
    refine am_L.mono (lc70_106 hr h5 ) ?_
    rintro o S1 ⟨s1, w1, q0, q1, A_, K_, q2, q3⟩
    exact ⟨s1, w1, (show c70_91 rc s y1 y2 y4 z0 = c70_106 rc s9 y1 y2 y4 from by unfold c70_91; rw [rbd_s e8]).trans q0, q1, A_, K_, cX.trans (cX.trans cX.rfl x12) q2, q3⟩
  · rintro S4 ⟨s1, w1, q0, q1, A_, K_, q2, q3⟩
    obtain rfl := cow_none q1
    exact ⟨s1, none, (by unfold c70_91; rw [rbd_n q0]), rfl, A_, K_, cX.trans cX.rfl q2, q3⟩
noncomputable def c70_113 (rc : cRC) (s : cS) (y1 : Int32) (y2 : Int32) (y4 : Int32) : Option (cS × Option Int32) := c70_148 rc s y1 y2 y4
theorem lc70_113 {sc : Nat × (Nat → Int32)} {N d : Nat} {A : Nat → Nat} {K : Nat} {S : am_S} {rc : cRC} {s : cS} {y1 : Int32} {y2 : Int32} {y4 : Int32} {o3 : Option Value} {o5 : Option Value} (hr : RCH sc rc (N + 1)) (hS : CM A K S s) : am_L (am_PP sc) N d 70 113 [some (.ref 7), some (.int y1), some (.int y2), o3, some (.int y4), o5] [] S (fun o S1 => ∃ s1 w, c70_113 rc s y1 y2 y4 = some (s1, w) ∧ o = cow w ∧ CX A K S1 s1) := by
  refine l18 hi_70_113 ?_
  refine am_L.mono (lc70_148 hr hS ) ?_
  rintro o S1 ⟨s1, w1, q0, q1, A_, K_, q2, q3⟩
  exact ⟨s1, w1, (rfl).trans q0, q1, A_, K_, cX.trans cX.rfl q2, q3⟩
noncomputable def c70_147 (rc : cRC) (s : cS) (y1 : Int32) (y4 : Int32) (z0 : Int32) : Option (cS × Option Int32) := c70_148 rc s y1 z0 y4
theorem lc70_147 {sc : Nat × (Nat → Int32)} {N d : Nat} {A : Nat → Nat} {K : Nat} {S : am_S} {rc : cRC} {s : cS} {y1 : Int32} {y4 : Int32} {z0 : Int32} {o2 : Option Value} {o3 : Option Value} {o5 : Option Value} (hr : RCH sc rc (N + 1)) (hS : CM A K S s) : am_L (am_PP sc) N d 70 147 [some (.ref 7), some (.int y1), o2, o3, some (.int y4), o5] [.int z0] S (fun o S1 => ∃ s1 w, c70_147 rc s y1 y4 z0 = some (s1, w) ∧ o = cow w ∧ CX A K S1 s1) := by
  refine l3 (ls' := [some (.ref 7), some (.int y1), some (.int z0), o3, some (.int y4), o5]) hi_70_147 (Nat.le_of_ble_eq_true rfl) rfl ?_
  refine am_L.mono (lc70_148 hr hS ) ?_
  rintro o S1 ⟨s1, w1, q0, q1, A_, K_, q2, q3⟩
  exact ⟨s1, w1, (rfl).trans q0, q1, A_, K_, cX.trans cX.rfl q2, q3⟩
noncomputable def c70_31 (rc : cRC) (s : cS) (y1 : Int32) (y4 : Int32) : Option (cS × Option Int32) := if (c53 s) = 1 then (rbd (rc 60 s 0 0 0 0 0 0 0) (fun s10 w8 => c70_120 rc s10 y1 y4 w8)) else if (c53 s) = 18 then (rbd (some (c55 s)) (fun _ w18 => c70_91 rc ((c55 s).1) y1 0 y4 w18)) else if (c53 s) = 60 then (rbd (rc 60 s 0 0 0 0 0 0 0) (fun s27 w25 => c70_120 rc s27 y1 y4 w25)) else if (c53 s) = 62 then (rbd (rc 91 s 0 0 0 0 0 0 0) (fun s37 w35 => c70_113 rc s37 y1 0 y4)) else rbd (some (c103 s)) (fun _ w44 => c70_147 rc ((c103 s).1) y1 y4 w44)
theorem lc70_31 {sc : Nat × (Nat → Int32)} {N d : Nat} {A : Nat → Nat} {K : Nat} {S : am_S} {rc : cRC} {s : cS} {y1 : Int32} {y4 : Int32} {o2 : Option Value} {o3 : Option Value} {o5 : Option Value} (hr : RCH sc rc (N + 1)) (hS : CM A K S s) : am_L (am_PP sc) N d 70 31 [some (.ref 7), some (.int y1), o2, o3, some (.int y4), o5] [] S (fun o S1 => ∃ s1 w, c70_31 rc s y1 y4 = some (s1, w) ∧ o = cow w ∧ CX A K S1 s1) := by
  refine l0 hi_70_31 ?_
  refine l3 (ls' := [some (.ref 7), some (.int y1), o2, o3, some (.int y4), some (.int 0)]) hi_70_32 (Nat.le_of_ble_eq_true rfl) rfl ?_
  refine l0 hi_70_34 ?_
  refine l3 (ls' := [some (.ref 7), some (.int y1), some (.int 0), o3, some (.int y4), some (.int 0)]) hi_70_35 (Nat.le_of_ble_eq_true rfl) rfl ?_
  refine l2 (v := 7) hi_70_36 rfl ?_
  refine l20s (v := .ref 2) hS cs_7 hi_70_37 rfl ?_
  refine l32 (as := [.ref 2]) (la := [some (.ref 2)]) (rest := []) hi_70_40 (am_hd0 (M := 70) (by decide) 40) rfl rfl rfl (fun N' d' _ => lc53 (N := N') (d := d') hS ) ?_ (fun _ q => nomatch q.1)
  rintro v3 S1 ⟨ev3, h2⟩
  cases ev3
  show am_L _ _ _ _ _ [some (.ref 7), some (.int y1), some (.int 0), o3, some (.int y4), some (.int 0)] [.int (c53 s)] _ _
  by_cases cn4 : (c53 s) = 1
  · refine l19 (t := 116) hi_70_43 (by rw [cn4]; decide) ?_
    refine l2 (v := 7) hi_70_116 rfl ?_
    refine l32 (as := [.ref 7]) (la := [some (.ref 7), none, none, none]) (rest := []) hi_70_117 (am_hd0 (M := 70) (by decide) 117) rfl rfl rfl (fun N' d' hN_ => hr.h60 (N' := N') (d := d') (Nat.lt_succ_of_lt hN_) h2) ?_ ?_
    · rintro v7 S5 ⟨s10, w_, e9, q1, A11, K12, x13, h6⟩
      obtain ⟨w8, rfl, rfl⟩ := cov_some q1
      show am_L _ _ _ _ _ [some (.ref 7), some (.int y1), some (.int 0), o3, some (.int y4), some (.int 0)] [.int w8] _ _
      refine am_L.mono (lc70_120 hr h6 ) ?_
      rintro o S1 ⟨s1, w1, q0, q1, A_, K_, q2, q3⟩
      exact ⟨s1, w1, (show c70_31 rc s y1 y4 = c70_120 rc s10 y1 y4 w8 from by unfold c70_31; rw [if_pos cn4]; rw [rbd_s e9]).trans q0, q1, A_, K_, cX.trans (cX.trans cX.rfl x13) q2, q3⟩
    · rintro S5 ⟨s1, w1, q0, q1, A_, K_, q2, q3⟩
      obtain rfl := cov_none q1
      exact ⟨s1, none, (by unfold c70_31; rw [if_pos cn4]; rw [rbd_n q0]), rfl, A_, K_, cX.trans cX.rfl q2, q3⟩
  by_cases cn14 : (c53 s) = 18
  · refine l19 (t := 84) hi_70_43 (by rw [cn14]; decide) ?_
    refine l2 (v := 7) hi_70_84 rfl ?_
    refine l20s (v := .ref 2) h2 cs_7 hi_70_85 rfl ?_
    refine l32 (as := [.ref 2]) (la := [some (.ref 2), none]) (rest := []) hi_70_88 (am_hd0 (M := 70) (by decide) 88) rfl rfl rfl (fun N' d' hN_ => lc55 (N := N') (d := d') h2 ) ?_ ?_
    · rintro v17 S15 ⟨ev, h16⟩
      obtain ⟨w18, e19, rfl⟩ := cov_some ev
      show am_L _ _ _ _ _ [some (.ref 7), some (.int y1), some (.int 0), o3, some (.int y4), some (.int 0)] [.int w18] _ _
      refine am_L.mono (lc70_91 hr h16 ) ?_
      rintro o S1 ⟨s1, w1, q0, q1, A_, K_, q2, q3⟩
      exact ⟨s1, w1, (show c70_31 rc s y1 y4 = c70_91 rc ((c55 s).1) y1 0 y4 w18 from by unfold c70_31; rw [if_neg cn4]; rw [if_pos cn14]; rw [rbd_th e19]).trans q0, q1, A_, K_, cX.trans cX.rfl q2, q3⟩
    · rintro S15 ⟨q1, q2⟩
      have hn := cov_none q1
      exact ⟨_, none, (by unfold c70_31; rw [if_neg cn4]; rw [if_pos cn14]; rw [rbd_thn hn]), rfl, A, K, cX.rfl, q2⟩
  by_cases cn21 : (c53 s) = 60
  · refine l19 (t := 116) hi_70_43 (by rw [cn21]; decide) ?_
    refine l2 (v := 7) hi_70_116 rfl ?_
    refine l32 (as := [.ref 7]) (la := [some (.ref 7), none, none, none]) (rest := []) hi_70_117 (am_hd0 (M := 70) (by decide) 117) rfl rfl rfl (fun N' d' hN_ => hr.h60 (N' := N') (d := d') (Nat.lt_succ_of_lt hN_) h2) ?_ ?_
    · rintro v24 S22 ⟨s27, w_, e26, q1, A28, K29, x30, h23⟩
      obtain ⟨w25, rfl, rfl⟩ := cov_some q1
      show am_L _ _ _ _ _ [some (.ref 7), some (.int y1), some (.int 0), o3, some (.int y4), some (.int 0)] [.int w25] _ _
      refine am_L.mono (lc70_120 hr h23 ) ?_
      rintro o S1 ⟨s1, w1, q0, q1, A_, K_, q2, q3⟩
      exact ⟨s1, w1, (show c70_31 rc s y1 y4 = c70_120 rc s27 y1 y4 w25 from by unfold c70_31; rw [if_neg cn4]; rw [if_neg cn14]; rw [if_pos cn21]; rw [rbd_s e26]).trans q0, q1, A_, K_, cX.trans (cX.trans cX.rfl x30) q2, q3⟩
    · rintro S22 ⟨s1, w1, q0, q1, A_, K_, q2, q3⟩
      obtain rfl := cov_none q1
      exact ⟨s1, none, (by unfold c70_31; rw [if_neg cn4]; rw [if_neg cn14]; rw [if_pos cn21]; rw [rbd_n q0]), rfl, A_, K_, cX.trans cX.rfl q2, q3⟩
  by_cases cn31 : (c53 s) = 62
  · refine l19 (t := 109) hi_70_43 (by rw [cn31]; decide) ?_
    refine l2 (v := 7) hi_70_109 rfl ?_
    refine l32 (as := [.ref 7]) (la := [some (.ref 7), none, none, none]) (rest := []) hi_70_110 (am_hd0 (M := 70) (by decide) 110) rfl rfl rfl (fun N' d' hN_ => hr.h91 (N' := N') (d := d') (Nat.lt_succ_of_lt hN_) h2) ?_ ?_
    · rintro v34 S32 ⟨s37, w_, e36, q1, A38, K39, x40, h33⟩
      obtain ⟨w35, rfl, rfl⟩ := cow_some q1
      show am_L _ _ _ _ _ [some (.ref 7), some (.int y1), some (.int 0), o3, some (.int y4), some (.int 0)] [] _ _
      refine am_L.mono (lc70_113 hr h33 ) ?_
      rintro o S1 ⟨s1, w1, q0, q1, A_, K_, q2, q3⟩
      exact ⟨s1, w1, (show c70_31 rc s y1 y4 = c70_113 rc s37 y1 0 y4 from by unfold c70_31; rw [if_neg cn4]; rw [if_neg cn14]; rw [if_neg cn21]; rw [if_pos cn31]; rw [rbd_s e36]).trans q0, q1, A_, K_, cX.trans (cX.trans cX.rfl x40) q2, q3⟩
    · rintro S32 ⟨s1, w1, q0, q1, A_, K_, q2, q3⟩
      obtain rfl := cow_none q1
      exact ⟨s1, none, (by unfold c70_31; rw [if_neg cn4]; rw [if_neg cn14]; rw [if_neg cn21]; rw [if_pos cn31]; rw [rbd_n q0]), rfl, A_, K_, cX.trans cX.rfl q2, q3⟩
  refine l19 (t := 143) hi_70_43 (sw_not (ks := [1, 18, 60, 62]) (by decide) (by intro k hk; simp only [List.mem_cons, List.not_mem_nil, or_false] at hk; rcases hk with rfl | rfl | rfl | rfl <;> first | exact cn4 | exact cn14 | exact cn21 | exact cn31)) ?_
  refine l2 (v := 7) hi_70_143 rfl ?_
  refine l32 (as := [.ref 7]) (la := [some (.ref 7), none, none]) (rest := []) hi_70_144 (am_hd0 (M := 70) (by decide) 144) rfl rfl rfl (fun N' d' hN_ => lc103 (N := N') (d := d') h2 ) ?_ ?_
  · rintro v43 S41 ⟨ev, h42⟩
    obtain ⟨w44, e45, rfl⟩ := cov_some ev
    show am_L _ _ _ _ _ [some (.ref 7), some (.int y1), some (.int 0), o3, some (.int y4), some (.int 0)] [.int w44] _ _
    refine am_L.mono (lc70_147 hr h42 ) ?_
    rintro o S1 ⟨s1, w1, q0, q1, A_, K_, q2, q3⟩
    exact ⟨s1, w1, (show c70_31 rc s y1 y4 = c70_147 rc ((c103 s).1) y1 y4 w44 from by unfold c70_31; rw [if_neg cn4]; rw [if_neg cn14]; rw [if_neg cn21]; rw [if_neg cn31]; rw [rbd_th e45]).trans q0, q1, A_, K_, cX.trans cX.rfl q2, q3⟩
  · rintro S41 ⟨q1, q2⟩
    have hn := cov_none q1
    exact ⟨_, none, (by unfold c70_31; rw [if_neg cn4]; rw [if_neg cn14]; rw [if_neg cn21]; rw [if_neg cn31]; rw [rbd_thn hn]), rfl, A, K, cX.rfl, q2⟩
noncomputable def c70_15 (rc : cRC) (s : cS) (y1 : Int32) (y2 : Int32) (y3 : Int32) (y4 : Int32) : Option (cS × Option Int32) := if y3 = 0 then c70_181 rc s y1 y2 else if 16384 < y4 then c70_181 rc s y1 y2 else rbd (rc 71 s 0 0 0 0 0 0 0) (fun s8 w6 => c70_31 rc s8 y1 y4)
theorem lc70_15 {sc : Nat × (Nat → Int32)} {N d : Nat} {A : Nat → Nat} {K : Nat} {S : am_S} {rc : cRC} {s : cS} {y1 : Int32} {y2 : Int32} {y3 : Int32} {y4 : Int32} {o5 : Option Value} (hr : RCH sc rc N) (hS : CM A K S s) : am_L (am_PP sc) N d 70 15 [some (.ref 7), some (.int y1), some (.int y2), some (.int y3), some (.int y4), o5] [] S (fun o S1 => ∃ s1 w, c70_15 rc s y1 y2 y3 y4 = some (s1, w) ∧ o = cow w ∧ CX A K S1 s1) := by
  cases N with
  | zero => exact l_zero
  | succ N =>
    refine l1d (v := y3) hi_70_15 rfl ?_
    by_cases cn1 : y3 = 0
    · refine l12t hi_70_16 (decide_eq_true cn1) ?_
      refine am_L.mono (lc70_181 (hr.less (Nat.le_succ _)) hS ) ?_
      rintro o S1 ⟨s1, w1, q0, q1, A_, K_, q2, q3⟩
      exact ⟨s1, w1, (show c70_15 rc s y1 y2 y3 y4 = c70_181 rc s y1 y2 from by unfold c70_15; rw [if_pos cn1]).trans q0, q1, A_, K_, cX.trans cX.rfl q2, q3⟩
    · refine l12f hi_70_16 (decide_eq_false cn1) ?_
      refine l1 (v := y4) hi_70_19 rfl ?_
      refine l0 hi_70_21 ?_
      by_cases cn2 : 16384 < y4
      · refine l13t hi_70_24 (decide_eq_true cn2) ?_
        refine am_L.mono (lc70_181 (hr.less (Nat.le_succ _)) hS ) ?_
        rintro o S1 ⟨s1, w1, q0, q1, A_, K_, q2, q3⟩
        exact ⟨s1, w1, (show c70_15 rc s y1 y2 y3 y4 = c70_181 rc s y1 y2 from by unfold c70_15; rw [if_neg cn1]; rw [if_pos cn2]).trans q0, q1, A_, K_, cX.trans cX.rfl q2, q3⟩
      · refine l13f hi_70_24 (decide_eq_false cn2) ?_
        refine l2 (v := 7) hi_70_27 rfl ?_
        refine l32 (as := [.ref 7]) (la := [some (.ref 7), none]) (rest := []) hi_70_28 (am_hd0 (M := 70) (by decide) 28) rfl rfl rfl (fun N' d' hN_ => hr.h71 (N' := N') (d := d') (Nat.lt_succ_of_lt hN_) hS) ?_ ?_
        · rintro v5 S3 ⟨s8, w_, e7, q1, A9, K10, x11, h4⟩
          obtain ⟨w6, rfl, rfl⟩ := cow_some q1
          show am_L _ _ _ _ _ [some (.ref 7), some (.int y1), some (.int y2), some (.int y3), some (.int y4), o5] [] _ _
          refine am_L.mono (lc70_31 hr h4 ) ?_
          rintro o S1 ⟨s1, w1, q0, q1, A_, K_, q2, q3⟩
          exact ⟨s1, w1, (show c70_15 rc s y1 y2 y3 y4 = c70_31 rc s8 y1 y4 from by unfold c70_15; rw [if_neg cn1]; rw [if_neg cn2]; rw [rbd_s e7]).trans q0, q1, A_, K_, cX.trans (cX.trans cX.rfl x11) q2, q3⟩
        · rintro S3 ⟨s1, w1, q0, q1, A_, K_, q2, q3⟩
          obtain rfl := cow_none q1
          exact ⟨s1, none, (by unfold c70_15; rw [if_neg cn1]; rw [if_neg cn2]; rw [rbd_n q0]), rfl, A_, K_, cX.trans cX.rfl q2, q3⟩
noncomputable def c70 (rc : cRC) (s : cS) : Option (cS × Option Int32) := c70_15 rc s (s.r (.s 8)) 0 1 0
theorem lc70 {sc : Nat × (Nat → Int32)} {N d : Nat} {A : Nat → Nat} {K : Nat} {S : am_S} {rc : cRC} {s : cS} (hr : RCH sc rc N) (hS : CM A K S s) : am_L (am_PP sc) N d 70 0 [some (.ref 7), none, none, none, none, none] [] S (fun o S1 => ∃ s1 w, c70 rc s = some (s1, w) ∧ o = cow w ∧ CX A K S1 s1) := by
  refine l2 (v := 7) hi_70_0 rfl ?_
  refine l20s (v := .ref 8) hS cs_7 hi_70_1 rfl ?_
  refine l32 (as := [.ref 8]) (la := [some (.ref 8)]) (rest := []) hi_70_4 (am_hd0 (M := 70) (by decide) 4) rfl rfl rfl (fun N' d' _ => lc36 (N := N') (d := d') (t := (.s 8)) hS ct_8) ?_ (fun _ q => nomatch q.1)
  rintro v3 S1 ⟨ev3, h2⟩
  cases ev3
  show am_L _ _ _ _ _ [some (.ref 7), none, none, none, none, none] [.int (s.r (.s 8))] _ _
  refine l3 (ls' := [some (.ref 7), some (.int (s.r (.s 8))), none, none, none, none]) hi_70_7 (Nat.le_of_ble_eq_true rfl) rfl ?_
  refine l0 hi_70_8 ?_
  refine l3 (ls' := [some (.ref 7), some (.int (s.r (.s 8))), some (.int 0), none, none, none]) hi_70_9 (Nat.le_of_ble_eq_true rfl) rfl ?_
  refine l0 hi_70_10 ?_
  refine l3 (ls' := [some (.ref 7), some (.int (s.r (.s 8))), some (.int 0), some (.int 1), none, none]) hi_70_11 (Nat.le_of_ble_eq_true rfl) rfl ?_
  refine l0 hi_70_12 ?_
  refine l3 (ls' := [some (.ref 7), some (.int (s.r (.s 8))), some (.int 0), some (.int 1), some (.int 0), none]) hi_70_13 (Nat.le_of_ble_eq_true rfl) rfl ?_
  refine am_L.mono (lc70_15 (o5 := none) hr h2) ?_
  rintro o S1 ⟨s1, w1, q0, q1, A_, K_, q2, q3⟩
  exact ⟨s1, w1, (show c70 rc s = c70_15 rc s (s.r (.s 8)) 0 1 0 from rfl).trans q0, q1, A_, K_, cX.trans cX.rfl q2, q3⟩
