/-! THE CLASS: what each method does (printed by wip/p5/cw_run.py) -/
set_option maxRecDepth 4096
def c46_90 (s : cS) (y2 : Nat) (z0 : Int32) : cS × Nat := ((c51 (nn s y2)).1, y2)
theorem lc46_90 {sc : Nat × (Nat → Int32)} {N d : Nat} {A : Nat → Nat} {K : Nat} {S : am_S} {s : cS} {y2 : Nat} {z0 : Int32} {o1 : Option Value} (hS : CM A K S s) (hy2 : y2 ≤ K) : am_L (am_PP sc) N d 46 90 [some (.ref 12), o1, some (.ref (A y2))] [.int z0] S (fun o S1 => ∃ A' K', cX A K A' K' ∧ o = some (some (.ref (A' (c46_90 s y2 z0).2))) ∧ (c46_90 s y2 z0).2 ≤ K' ∧ CM A' K' S1 (c46_90 s y2 z0).1) := by
  refine l6i hi_46_90 ?_
  refine l2 (v := 12) hi_46_91 rfl ?_
  refine l2 (v := (A y2)) hi_46_92 rfl ?_
  refine l21n hS hy2 hi_46_93 fun S1 h2 => ?_
  refine l2 (v := 12) hi_46_96 rfl ?_
  refine l32 (as := [.ref 12]) (la := [some (.ref 12)]) (rest := []) hi_46_97 (am_hd0 (M := 46) (by decide) 97) rfl rfl rfl (fun N' d' _ => lc51 (N := N') (d := d') h2 ) ?_ (fun _ q => nomatch q.1)
  rintro v5 S3 ⟨ev5, h4⟩
  cases ev5
  show am_L _ _ _ _ _ [some (.ref 12), o1, some (.ref (A y2))] [] _ _
  refine l2 (v := (A y2)) hi_46_100 rfl ?_
  have e_ : c46_90 s y2 z0 = ((c51 (nn s y2)).1, y2) := rfl
  refine l34 hi_46_101 ⟨A, K, cX.rfl, ?_, ?_, ?_⟩
  · rw [e_]
  · rw [e_]; exact hy2
  · rw [e_]; exact h4
def c46_30 (s : cS) (y1 : Int32) (y2 : Nat) (z0 : Int32) (z1 : Nat) : cS × Nat := c46_90 (npush (nb (nb (nb (nb (nb (nb s z1 3 z0) y2 8 y1) y2 9 ((nb (nb s z1 3 z0) y2 8 y1).r (.s 14))) y2 10 (c48 (nb (nb (nb s z1 3 z0) y2 8 y1) y2 9 ((nb (nb s z1 3 z0) y2 8 y1).r (.s 14))))) y2 11 (c49 (nb (nb (nb (nb s z1 3 z0) y2 8 y1) y2 9 ((nb (nb s z1 3 z0) y2 8 y1).r (.s 14))) y2 10 (c48 (nb (nb (nb s z1 3 z0) y2 8 y1) y2 9 ((nb (nb s z1 3 z0) y2 8 y1).r (.s 14))))))) y2 12 (c50 (nb (nb (nb (nb (nb s z1 3 z0) y2 8 y1) y2 9 ((nb (nb s z1 3 z0) y2 8 y1).r (.s 14))) y2 10 (c48 (nb (nb (nb s z1 3 z0) y2 8 y1) y2 9 ((nb (nb s z1 3 z0) y2 8 y1).r (.s 14))))) y2 11 (c49 (nb (nb (nb (nb s z1 3 z0) y2 8 y1) y2 9 ((nb (nb s z1 3 z0) y2 8 y1).r (.s 14))) y2 10 (c48 (nb (nb (nb s z1 3 z0) y2 8 y1) y2 9 ((nb (nb s z1 3 z0) y2 8 y1).r (.s 14))))))))) y2) y2 1
theorem lc46_30 {sc : Nat × (Nat → Int32)} {N d : Nat} {A : Nat → Nat} {K : Nat} {S : am_S} {s : cS} {y1 : Int32} {y2 : Nat} {z0 : Int32} {z1 : Nat} (hS : CM A K S s) (hy2 : y2 ≤ K) (hz1 : z1 ≤ K) : am_L (am_PP sc) N d 46 30 [some (.ref 12), some (.int y1), some (.ref (A y2))] [.int z0, .ref (A z1)] S (fun o S1 => ∃ A' K', cX A K A' K' ∧ o = some (some (.ref (A' (c46_30 s y1 y2 z0 z1).2))) ∧ (c46_30 s y1 y2 z0 z1).2 ≤ K' ∧ CM A' K' S1 (c46_30 s y1 y2 z0 z1).1) := by
  refine l21b hS hz1 hi_46_30 (fun _ _ => rfl) fun S1 h2 => ?_
  refine l2 (v := (A y2)) hi_46_33 rfl ?_
  refine l1 (v := y1) hi_46_34 rfl ?_
  refine l21b h2 hy2 hi_46_35 (fun _ _ => rfl) fun S3 h4 => ?_
  refine l2 (v := (A y2)) hi_46_38 rfl ?_
  refine l2 (v := 12) hi_46_39 rfl ?_
  refine l20s (v := .ref 14) h4 cs_12 hi_46_40 rfl ?_
  refine l32 (as := [.ref 14]) (la := [some (.ref 14)]) (rest := [.ref (A y2)]) hi_46_43 (am_hd0 (M := 46) (by decide) 43) rfl rfl rfl (fun N' d' _ => lc36 (N := N') (d := d') (t := (.s 14)) h4 ct_14) ?_ (fun _ q => nomatch q.1)
  rintro v7 S5 ⟨ev7, h6⟩
  cases ev7
  show am_L _ _ _ _ _ [some (.ref 12), some (.int y1), some (.ref (A y2))] [.int ((nb (nb s z1 3 z0) y2 8 y1).r (.s 14)), .ref (A y2)] _ _
  refine l21b h6 hy2 hi_46_46 (fun _ _ => rfl) fun S8 h9 => ?_
  refine l2 (v := (A y2)) hi_46_49 rfl ?_
  refine l2 (v := 12) hi_46_50 rfl ?_
  refine l20s (v := .ref 23) h9 cs_12 hi_46_51 rfl ?_
  refine l32 (as := [.ref 23]) (la := [some (.ref 23)]) (rest := [.ref (A y2)]) hi_46_54 (am_hd0 (M := 46) (by decide) 54) rfl rfl rfl (fun N' d' _ => lc48 (N := N') (d := d') h9 ) ?_ (fun _ q => nomatch q.1)
  rintro v12 S10 ⟨ev12, h11⟩
  cases ev12
  show am_L _ _ _ _ _ [some (.ref 12), some (.int y1), some (.ref (A y2))] [.int (c48 (nb (nb (nb s z1 3 z0) y2 8 y1) y2 9 ((nb (nb s z1 3 z0) y2 8 y1).r (.s 14)))), .ref (A y2)] _ _
  refine l21b h11 hy2 hi_46_57 (fun _ _ => rfl) fun S13 h14 => ?_
  refine l2 (v := (A y2)) hi_46_60 rfl ?_
  refine l2 (v := 12) hi_46_61 rfl ?_
  refine l20s (v := .ref 23) h14 cs_12 hi_46_62 rfl ?_
  refine l32 (as := [.ref 23]) (la := [some (.ref 23)]) (rest := [.ref (A y2)]) hi_46_65 (am_hd0 (M := 46) (by decide) 65) rfl rfl rfl (fun N' d' _ => lc49 (N := N') (d := d') h14 ) ?_ (fun _ q => nomatch q.1)
  rintro v17 S15 ⟨ev17, h16⟩
  cases ev17
  show am_L _ _ _ _ _ [some (.ref 12), some (.int y1), some (.ref (A y2))] [.int (c49 (nb (nb (nb (nb s z1 3 z0) y2 8 y1) y2 9 ((nb (nb s z1 3 z0) y2 8 y1).r (.s 14))) y2 10 (c48 (nb (nb (nb s z1 3 z0) y2 8 y1) y2 9 ((nb (nb s z1 3 z0) y2 8 y1).r (.s 14)))))), .ref (A y2)] _ _
  refine l21b h16 hy2 hi_46_68 (fun _ _ => rfl) fun S18 h19 => ?_
  refine l2 (v := (A y2)) hi_46_71 rfl ?_
  refine l2 (v := 12) hi_46_72 rfl ?_
  refine l20s (v := .ref 23) h19 cs_12 hi_46_73 rfl ?_
  refine l32 (as := [.ref 23]) (la := [some (.ref 23)]) (rest := [.ref (A y2)]) hi_46_76 (am_hd0 (M := 46) (by decide) 76) rfl rfl rfl (fun N' d' _ => lc50 (N := N') (d := d') h19 ) ?_ (fun _ q => nomatch q.1)
  rintro v22 S20 ⟨ev22, h21⟩
  cases ev22
  show am_L _ _ _ _ _ [some (.ref 12), some (.int y1), some (.ref (A y2))] [.int (c50 (nb (nb (nb (nb (nb s z1 3 z0) y2 8 y1) y2 9 ((nb (nb s z1 3 z0) y2 8 y1).r (.s 14))) y2 10 (c48 (nb (nb (nb s z1 3 z0) y2 8 y1) y2 9 ((nb (nb s z1 3 z0) y2 8 y1).r (.s 14))))) y2 11 (c49 (nb (nb (nb (nb s z1 3 z0) y2 8 y1) y2 9 ((nb (nb s z1 3 z0) y2 8 y1).r (.s 14))) y2 10 (c48 (nb (nb (nb s z1 3 z0) y2 8 y1) y2 9 ((nb (nb s z1 3 z0) y2 8 y1).r (.s 14)))))))), .ref (A y2)] _ _
  refine l21b h21 hy2 hi_46_79 (fun _ _ => rfl) fun S23 h24 => ?_
  refine l2 (v := 12) hi_46_82 rfl ?_
  refine l20s (v := .ref 13) h24 cs_12 hi_46_83 rfl ?_
  refine l2 (v := (A y2)) hi_46_86 rfl ?_
  refine l32 (as := [.ref 13, .ref (A y2)]) (la := [some (.ref 13), some (.ref (A y2))]) (rest := []) hi_46_87 (am_hd0 (M := 46) (by decide) 87) rfl rfl rfl (fun N' d' _ => lc15o (N := N') (d := d') h24 hy2) ?_ (fun _ q => nomatch q.1)
  rintro v27 S25 ⟨ev27, h26⟩
  cases ev27
  show am_L _ _ _ _ _ [some (.ref 12), some (.int y1), some (.ref (A y2))] [.int 1] _ _
  refine am_L.mono (lc46_90 h26 hy2) ?_
  rintro o S1 ⟨A_, K_, q2, q1, ql, q3⟩
  have q : c46_30 s y1 y2 z0 z1 = c46_90 (npush (nb (nb (nb (nb (nb (nb s z1 3 z0) y2 8 y1) y2 9 ((nb (nb s z1 3 z0) y2 8 y1).r (.s 14))) y2 10 (c48 (nb (nb (nb s z1 3 z0) y2 8 y1) y2 9 ((nb (nb s z1 3 z0) y2 8 y1).r (.s 14))))) y2 11 (c49 (nb (nb (nb (nb s z1 3 z0) y2 8 y1) y2 9 ((nb (nb s z1 3 z0) y2 8 y1).r (.s 14))) y2 10 (c48 (nb (nb (nb s z1 3 z0) y2 8 y1) y2 9 ((nb (nb s z1 3 z0) y2 8 y1).r (.s 14))))))) y2 12 (c50 (nb (nb (nb (nb (nb s z1 3 z0) y2 8 y1) y2 9 ((nb (nb s z1 3 z0) y2 8 y1).r (.s 14))) y2 10 (c48 (nb (nb (nb s z1 3 z0) y2 8 y1) y2 9 ((nb (nb s z1 3 z0) y2 8 y1).r (.s 14))))) y2 11 (c49 (nb (nb (nb (nb s z1 3 z0) y2 8 y1) y2 9 ((nb (nb s z1 3 z0) y2 8 y1).r (.s 14))) y2 10 (c48 (nb (nb (nb s z1 3 z0) y2 8 y1) y2 9 ((nb (nb s z1 3 z0) y2 8 y1).r (.s 14))))))))) y2) y2 1 := rfl
  rw [q]; exact ⟨A_, K_, cX.trans cX.rfl q2, q1, ql, q3⟩
def c46_7 (s : cS) (y1 : Int32) (z0 : Nat) : cS × Nat := if (if (s.f 13 1) ≠ 0 then 0 else 1 : Int32) = 0 then c46_30 s y1 z0 (s.b s.now 2) z0 else c46_30 s y1 z0 (-1) z0
theorem lc46_7 {sc : Nat × (Nat → Int32)} {N d : Nat} {A : Nat → Nat} {K : Nat} {S : am_S} {s : cS} {y1 : Int32} {z0 : Nat} {o2 : Option Value} (hS : CM A K S s) (hz0 : z0 ≤ K) : am_L (am_PP sc) N d 46 7 [some (.ref 12), some (.int y1), o2] [.ref (A z0)] S (fun o S1 => ∃ A' K', cX A K A' K' ∧ o = some (some (.ref (A' (c46_7 s y1 z0).2))) ∧ (c46_7 s y1 z0).2 ≤ K' ∧ CM A' K' S1 (c46_7 s y1 z0).1) := by
  refine l4 (ls' := [some (.ref 12), some (.int y1), some (.ref (A z0))]) hi_46_7 (Nat.le_of_ble_eq_true rfl) rfl ?_
  refine l2 (v := (A z0)) hi_46_8 rfl ?_
  refine l2 (v := 12) hi_46_9 rfl ?_
  refine l20s (v := .ref 13) hS cs_12 hi_46_10 rfl ?_
  refine l32 (as := [.ref 13]) (la := [some (.ref 13)]) (rest := [.ref (A z0)]) hi_46_13 (am_hd0 (M := 46) (by decide) 13) rfl rfl rfl (fun N' d' _ => lc47 (N := N') (d := d') hS (Or.inr rfl)) ?_ (fun _ q => nomatch q.1)
  rintro v3 S1 ⟨ev3, h2⟩
  cases ev3
  show am_L _ _ _ _ _ [some (.ref 12), some (.int y1), some (.ref (A z0))] [.int (if (s.f 13 1) ≠ 0 then 0 else 1 : Int32), .ref (A z0)] _ _
  by_cases cn4 : (if (s.f 13 1) ≠ 0 then 0 else 1 : Int32) = 0
  · refine l12t hi_46_16 (decide_eq_true cn4) ?_
    refine l2 (v := 12) hi_46_23 rfl ?_
    refine l20s (v := .ref (A s.now)) h2 cs_12 hi_46_24 rfl ?_
    refine l20b (v := .int (s.b s.now 2)) h2 (show s.now ≤ K from CM.nl (s := s) h2) hi_46_27 rfl ?_
    refine am_L.mono (lc46_30 h2 hz0 hz0) ?_
    rintro o S1 ⟨A_, K_, q2, q1, ql, q3⟩
    have q : c46_7 s y1 z0 = c46_30 s y1 z0 (s.b s.now 2) z0 := by unfold c46_7; rw [if_pos cn4]
    rw [q]; exact ⟨A_, K_, cX.trans cX.rfl q2, q1, ql, q3⟩
  · refine l12f hi_46_16 (decide_eq_false cn4) ?_
    refine l0 hi_46_19 ?_
    refine l18 hi_46_20 ?_
    refine am_L.mono (lc46_30 h2 hz0 hz0) ?_
    rintro o S1 ⟨A_, K_, q2, q1, ql, q3⟩
    have q : c46_7 s y1 z0 = c46_30 s y1 z0 (-1) z0 := by unfold c46_7; rw [if_neg cn4]
    rw [q]; exact ⟨A_, K_, cX.trans cX.rfl q2, q1, ql, q3⟩
def c46 (s : cS) (x1 : Int32) : cS × Nat := c46_7 ((c13 s).1) x1 ((c13 s).2)
theorem lc46 {sc : Nat × (Nat → Int32)} {N d : Nat} {A : Nat → Nat} {K : Nat} {S : am_S} {s : cS} {x1 : Int32} (hS : CM A K S s) : am_L (am_PP sc) N d 46 0 [some (.ref 12), some (.int x1), none] [] S (fun o S1 => ∃ A' K', cX A K A' K' ∧ o = some (some (.ref (A' (c46 s x1).2))) ∧ (c46 s x1).2 ≤ K' ∧ CM A' K' S1 (c46 s x1).1) := by
  refine l2 (v := 12) hi_46_0 rfl ?_
  refine l20s (v := .ref 5) hS cs_12 hi_46_1 rfl ?_
  refine l32 (as := [.ref 5]) (la := [some (.ref 5), none]) (rest := []) hi_46_4 (am_hd0 (M := 46) (by decide) 4) rfl rfl rfl (fun N' d' _ => lc13 (N := N') (d := d') hS ) ?_ (fun _ q => nomatch q.choose_spec.choose_spec.2.1)
  rintro v3 S1 ⟨A4, K5, x6, ev3, l7, h2⟩
  cases ev3
  show am_L _ _ _ _ _ [some (.ref 12), some (.int x1), none] [.ref (A4 ((c13 s).2))] _ _
  refine am_L.mono (lc46_7 h2 l7) ?_
  rintro o S1 ⟨A_, K_, q2, q1, ql, q3⟩
  have q : c46 s x1 = c46_7 ((c13 s).1) x1 ((c13 s).2) := rfl
  rw [q]; exact ⟨A_, K_, cX.trans (cX.trans cX.rfl x6) q2, q1, ql, q3⟩
