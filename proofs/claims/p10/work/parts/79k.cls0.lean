/-! THE CLASS: what each method does (printed by wip/p5/cw_run.py) -/
set_option maxRecDepth 4096
def c29_63 (s : cS) (y0 : Nat) : cS × Int32 := (tct s (.u y0) 0, 0)
theorem lc29_63 {sc : Nat × (Nat → Int32)} {N d : Nat} {A : Nat → Nat} {K : Nat} {S : am_S} {s : cS} {y0 : Nat} {o1 : Option Value} (hS : CM A K S s) (hy0 : y0 ≤ K) : am_L (am_PP sc) N d 29 63 [some (.ref (A y0)), o1] [] S (fun o S1 => o = some none ∧ CM A K S1 (c29_63 s y0).1) := by
  refine l2 (v := (A y0)) hi_29_63 rfl ?_
  refine l20b (v := .ref (cTa A (.u y0))) hS hy0 hi_29_64 rfl ?_
  refine l0 hi_29_67 ?_
  refine l32 (as := [.ref (cTa A (.u y0)), .int 0]) (la := [some (.ref (cTa A (.u y0))), some (.int 0)]) (rest := []) hi_29_68 (am_hd0 (M := 29) (by decide) 68) rfl rfl rfl (fun N' d' _ => lc30 (N := N') (d := d') (t := (.u y0)) hS (show cTl _ (.u y0) from hy0)) ?_ (fun _ q => nomatch q.1)
  rintro v3 S1 ⟨ev3, h2⟩
  cases ev3
  show am_L _ _ _ _ _ [some (.ref (A y0)), o1] [] _ _
  refine l35 hi_29_71 ⟨rfl, ?_⟩
  exact h2
def c29 (s : cS) (x0 : Nat) (x1 : Int32) : cS × Int32 := c29_63 (tct (nb (nb (nb (nb (nb (nb (nb (nb (nb (nb (nb s x0 2 x1) x0 3 (-1)) x0 8 (-1)) x0 4 0) x0 5 0) x0 6 0) x0 7 0) x0 9 0) x0 10 0) x0 11 0) x0 12 0) (.i x0) 0) x0
theorem lc29 {sc : Nat × (Nat → Int32)} {N d : Nat} {A : Nat → Nat} {K : Nat} {S : am_S} {s : cS} {x0 : Nat} {x1 : Int32} (hS : CM A K S s) (hx0 : x0 ≤ K) : am_L (am_PP sc) N d 29 0 [some (.ref (A x0)), some (.int x1)] [] S (fun o S1 => o = some none ∧ CM A K S1 (c29 s x0 x1).1) := by
  refine l2 (v := (A x0)) hi_29_0 rfl ?_
  refine l1 (v := x1) hi_29_1 rfl ?_
  refine l21b hS hx0 hi_29_2 (fun _ _ => rfl) fun S1 h2 => ?_
  refine l2 (v := (A x0)) hi_29_5 rfl ?_
  refine l0 hi_29_6 ?_
  refine l21b h2 hx0 hi_29_7 (fun _ _ => rfl) fun S3 h4 => ?_
  refine l2 (v := (A x0)) hi_29_10 rfl ?_
  refine l0 hi_29_11 ?_
  refine l21b h4 hx0 hi_29_12 (fun _ _ => rfl) fun S5 h6 => ?_
  refine l2 (v := (A x0)) hi_29_15 rfl ?_
  refine l0 hi_29_16 ?_
  refine l21b h6 hx0 hi_29_17 (fun _ _ => rfl) fun S7 h8 => ?_
  refine l2 (v := (A x0)) hi_29_20 rfl ?_
  refine l0 hi_29_21 ?_
  refine l21b h8 hx0 hi_29_22 (fun _ _ => rfl) fun S9 h10 => ?_
  refine l2 (v := (A x0)) hi_29_25 rfl ?_
  refine l0 hi_29_26 ?_
  refine l21b h10 hx0 hi_29_27 (fun _ _ => rfl) fun S11 h12 => ?_
  refine l2 (v := (A x0)) hi_29_30 rfl ?_
  refine l0 hi_29_31 ?_
  refine l21b h12 hx0 hi_29_32 (fun _ _ => rfl) fun S13 h14 => ?_
  refine l2 (v := (A x0)) hi_29_35 rfl ?_
  refine l0 hi_29_36 ?_
  refine l21b h14 hx0 hi_29_37 (fun _ _ => rfl) fun S15 h16 => ?_
  refine l2 (v := (A x0)) hi_29_40 rfl ?_
  refine l0 hi_29_41 ?_
  refine l21b h16 hx0 hi_29_42 (fun _ _ => rfl) fun S17 h18 => ?_
  refine l2 (v := (A x0)) hi_29_45 rfl ?_
  refine l0 hi_29_46 ?_
  refine l21b h18 hx0 hi_29_47 (fun _ _ => rfl) fun S19 h20 => ?_
  refine l2 (v := (A x0)) hi_29_50 rfl ?_
  refine l0 hi_29_51 ?_
  refine l21b h20 hx0 hi_29_52 (fun _ _ => rfl) fun S21 h22 => ?_
  refine l2 (v := (A x0)) hi_29_55 rfl ?_
  refine l20b (v := .ref (cTa A (.i x0))) h22 hx0 hi_29_56 rfl ?_
  refine l0 hi_29_59 ?_
  refine l32 (as := [.ref (cTa A (.i x0)), .int 0]) (la := [some (.ref (cTa A (.i x0))), some (.int 0)]) (rest := []) hi_29_60 (am_hd0 (M := 29) (by decide) 60) rfl rfl rfl (fun N' d' _ => lc30 (N := N') (d := d') (t := (.i x0)) h22 (show cTl _ (.i x0) from hx0)) ?_ (fun _ q => nomatch q.1)
  rintro v25 S23 ⟨ev25, h24⟩
  cases ev25
  show am_L _ _ _ _ _ [some (.ref (A x0)), some (.int x1)] [] _ _
  refine am_L.mono (lc29_63 h24 hx0) ?_
  rintro o S1 ⟨e, h⟩
  have q : c29 s x0 x1 = c29_63 (tct (nb (nb (nb (nb (nb (nb (nb (nb (nb (nb (nb s x0 2 x1) x0 3 (-1)) x0 8 (-1)) x0 4 0) x0 5 0) x0 6 0) x0 7 0) x0 9 0) x0 10 0) x0 11 0) x0 12 0) (.i x0) 0) x0 := rfl
  rw [q]; exact ⟨e, h⟩
def c34_22 (s : cS) (y0 : Int32) : Int32 := if y0 < 40 then 0 else if 72 < y0 then 0 else 1
theorem lc34_22 {sc : Nat × (Nat → Int32)} {N d : Nat} {A : Nat → Nat} {K : Nat} {S : am_S} {s : cS} {y0 : Int32} (hS : CM A K S s) : am_L (am_PP sc) N d 34 22 [some (.int y0)] [] S (fun o S1 => o = some (some (.int (c34_22 s y0))) ∧ CM A K S1 s) := by
  refine l1 (v := y0) hi_34_22 rfl ?_
  refine l0 hi_34_23 ?_
  by_cases cn1 : y0 < 40
  · refine l13t hi_34_25 (decide_eq_true cn1) ?_
    refine l0 hi_34_38 ?_
    refine l36 hi_34_39 fun _ => ⟨?_, ?_⟩
    · unfold c34_22; rw [if_pos cn1]
    · exact hS
  · refine l13f hi_34_25 (decide_eq_false cn1) ?_
    refine l1 (v := y0) hi_34_28 rfl ?_
    refine l0 hi_34_29 ?_
    by_cases cn2 : 72 < y0
    · refine l13t hi_34_31 (decide_eq_true cn2) ?_
      refine l0 hi_34_38 ?_
      refine l36 hi_34_39 fun _ => ⟨?_, ?_⟩
      · unfold c34_22; rw [if_neg cn1]; rw [if_pos cn2]
      · exact hS
    · refine l13f hi_34_31 (decide_eq_false cn2) ?_
      refine l0 hi_34_34 ?_
      refine l18 hi_34_35 ?_
      refine l36 hi_34_39 fun _ => ⟨?_, ?_⟩
      · unfold c34_22; rw [if_neg cn1]; rw [if_neg cn2]
      · exact hS
def c34_10 (s : cS) (y0 : Int32) : Int32 := if y0 < 10 then c34_22 s y0 else if y0 ≤ 31 then 1 else c34_22 s y0
theorem lc34_10 {sc : Nat × (Nat → Int32)} {N d : Nat} {A : Nat → Nat} {K : Nat} {S : am_S} {s : cS} {y0 : Int32} (hS : CM A K S s) : am_L (am_PP sc) N d 34 10 [some (.int y0)] [] S (fun o S1 => o = some (some (.int (c34_10 s y0))) ∧ CM A K S1 s) := by
  refine l1 (v := y0) hi_34_10 rfl ?_
  refine l0 hi_34_11 ?_
  by_cases cn1 : y0 < 10
  · refine l13t hi_34_13 (decide_eq_true cn1) ?_
    refine am_L.mono (lc34_22 hS ) ?_
    rintro o S1 ⟨e, h⟩
    have q : c34_10 s y0 = c34_22 s y0 := by unfold c34_10; rw [if_pos cn1]
    rw [q]; exact ⟨e, h⟩
  · refine l13f hi_34_13 (decide_eq_false cn1) ?_
    refine l1 (v := y0) hi_34_16 rfl ?_
    refine l0 hi_34_17 ?_
    by_cases cn2 : y0 ≤ 31
    · refine l13t hi_34_19 (decide_eq_true cn2) ?_
      refine l0 hi_34_34 ?_
      refine l18 hi_34_35 ?_
      refine l36 hi_34_39 fun _ => ⟨?_, ?_⟩
      · unfold c34_10; rw [if_neg cn1]; rw [if_pos cn2]
      · exact hS
    · refine l13f hi_34_19 (decide_eq_false cn2) ?_
      refine am_L.mono (lc34_22 hS ) ?_
      rintro o S1 ⟨e, h⟩
      have q : c34_10 s y0 = c34_22 s y0 := by unfold c34_10; rw [if_neg cn1]; rw [if_neg cn2]
      rw [q]; exact ⟨e, h⟩
def c34 (s : cS) (x0 : Int32) : Int32 := if x0 < 1 then c34_10 s x0 else if x0 ≤ 3 then 1 else c34_10 s x0
theorem lc34 {sc : Nat × (Nat → Int32)} {N d : Nat} {A : Nat → Nat} {K : Nat} {S : am_S} {s : cS} {x0 : Int32} (hS : CM A K S s) : am_L (am_PP sc) N d 34 0 [some (.int x0)] [] S (fun o S1 => o = some (some (.int (c34 s x0))) ∧ CM A K S1 s) := by
  refine l1 (v := x0) hi_34_0 rfl ?_
  refine l0 hi_34_1 ?_
  by_cases cn1 : x0 < 1
  · refine l13t hi_34_2 (decide_eq_true cn1) ?_
    refine am_L.mono (lc34_10 hS ) ?_
    rintro o S1 ⟨e, h⟩
    have q : c34 s x0 = c34_10 s x0 := by unfold c34; rw [if_pos cn1]
    rw [q]; exact ⟨e, h⟩
  · refine l13f hi_34_2 (decide_eq_false cn1) ?_
    refine l1 (v := x0) hi_34_5 rfl ?_
    refine l0 hi_34_6 ?_
    by_cases cn2 : x0 ≤ 3
    · refine l13t hi_34_7 (decide_eq_true cn2) ?_
      refine l0 hi_34_34 ?_
      refine l18 hi_34_35 ?_
      refine l36 hi_34_39 fun _ => ⟨?_, ?_⟩
      · unfold c34; rw [if_neg cn1]; rw [if_pos cn2]
      · exact hS
    · refine l13f hi_34_7 (decide_eq_false cn2) ?_
      refine am_L.mono (lc34_10 hS ) ?_
      rintro o S1 ⟨e, h⟩
      have q : c34 s x0 = c34_10 s x0 := by unfold c34; rw [if_neg cn1]; rw [if_neg cn2]
      rw [q]; exact ⟨e, h⟩
def c35 (s : cS) : Int32 := s.r (.s 3)
theorem lc35 {sc : Nat × (Nat → Int32)} {N d : Nat} {A : Nat → Nat} {K : Nat} {S : am_S} {s : cS} (hS : CM A K S s) : am_L (am_PP sc) N d 35 0 [some (.ref 2)] [] S (fun o S1 => o = some (some (.int (c35 s))) ∧ CM A K S1 s) := by
  refine l2 (v := 2) hi_35_0 rfl ?_
  refine l20s (v := .ref 3) hS cs_2 hi_35_1 rfl ?_
  refine l32 (as := [.ref 3]) (la := [some (.ref 3)]) (rest := []) hi_35_4 (am_hd0 (M := 35) (by decide) 4) rfl rfl rfl (fun N' d' _ => lc36 (N := N') (d := d') (t := (.s 3)) hS ct_3) ?_ (fun _ q => nomatch q.1)
  rintro v3 S1 ⟨ev3, h2⟩
  cases ev3
  show am_L _ _ _ _ _ [some (.ref 2)] [.int (s.r (.s 3))] _ _
  refine l33 hi_35_7 ⟨?_, ?_⟩
  · rfl
  · exact h2
def c37_11 (s : cS) (z0 : Int32) : cS × Int32 := (s, s.r (.s 3))
theorem lc37_11 {sc : Nat × (Nat → Int32)} {N d : Nat} {A : Nat → Nat} {K : Nat} {S : am_S} {s : cS} {z0 : Int32} {o1 : Option Value} {o2 : Option Value} (hS : CM A K S s) : am_L (am_PP sc) N d 37 11 [some (.ref 2), o1, o2] [.int z0] S (fun o S1 => o = some (some (.int (c37_11 s z0).2)) ∧ CM A K S1 (c37_11 s z0).1) := by
  refine l6i hi_37_11 ?_
  refine l2 (v := 2) hi_37_12 rfl ?_
  refine l20s (v := .ref 3) hS cs_2 hi_37_13 rfl ?_
  refine l32 (as := [.ref 3]) (la := [some (.ref 3)]) (rest := []) hi_37_16 (am_hd0 (M := 37) (by decide) 16) rfl rfl rfl (fun N' d' _ => lc36 (N := N') (d := d') (t := (.s 3)) hS ct_3) ?_ (fun _ q => nomatch q.1)
  rintro v3 S1 ⟨ev3, h2⟩
  cases ev3
  show am_L _ _ _ _ _ [some (.ref 2), o1, o2] [.int (s.r (.s 3))] _ _
  refine l33 hi_37_19 ⟨?_, ?_⟩
  · rfl
  · exact h2
def c37 (s : cS) (x1 : Int32) (x2 : Int32) : cS × Int32 := c37_11 ((tad s (.s 3) x1 x2 0 0).1) ((tad s (.s 3) x1 x2 0 0).2)
theorem lc37 {sc : Nat × (Nat → Int32)} {N d : Nat} {A : Nat → Nat} {K : Nat} {S : am_S} {s : cS} {x1 : Int32} {x2 : Int32} (hS : CM A K S s) : am_L (am_PP sc) N d 37 0 [some (.ref 2), some (.int x1), some (.int x2)] [] S (fun o S1 => o = some (some (.int (c37 s x1 x2).2)) ∧ CM A K S1 (c37 s x1 x2).1) := by
  refine l2 (v := 2) hi_37_0 rfl ?_
  refine l20s (v := .ref 3) hS cs_2 hi_37_1 rfl ?_
  refine l1 (v := x1) hi_37_4 rfl ?_
  refine l1 (v := x2) hi_37_5 rfl ?_
  refine l0 hi_37_6 ?_
  refine l0 hi_37_7 ?_
  refine l32 (as := [.ref 3, .int x1, .int x2, .int 0, .int 0]) (la := [some (.ref 3), some (.int x1), some (.int x2), some (.int 0), some (.int 0), none]) (rest := []) hi_37_8 (am_hd0 (M := 37) (by decide) 8) rfl rfl rfl (fun N' d' _ => lc31 (N := N') (d := d') (t := (.s 3)) hS ct_3) ?_ (fun _ q => nomatch q.1)
  rintro v3 S1 ⟨ev3, h2⟩
  cases ev3
  show am_L _ _ _ _ _ [some (.ref 2), some (.int x1), some (.int x2)] [.int ((tad s (.s 3) x1 x2 0 0).2)] _ _
  refine am_L.mono (lc37_11 h2 ) ?_
  rintro o S1 ⟨e, h⟩
  have q : c37 s x1 x2 = c37_11 ((tad s (.s 3) x1 x2 0 0).1) ((tad s (.s 3) x1 x2 0 0).2) := rfl
  rw [q]; exact ⟨e, h⟩
def c39 (s : cS) : cS × Int32 := (nf (nf s 1 0 0) 1 1 0, 0)
theorem lc39 {sc : Nat × (Nat → Int32)} {N d : Nat} {A : Nat → Nat} {K : Nat} {S : am_S} {s : cS} (hS : CM A K S s) : am_L (am_PP sc) N d 39 0 [some (.ref 1)] [] S (fun o S1 => o = some none ∧ CM A K S1 (c39 s).1) := by
  refine l2 (v := 1) hi_39_0 rfl ?_
  refine l0 hi_39_1 ?_
  refine l21s hS cs_1 hi_39_2 (fun _ _ => rfl) fun S1 h2 => ?_
  refine l2 (v := 1) hi_39_5 rfl ?_
  refine l0 hi_39_6 ?_
  refine l21s h2 cs_1 hi_39_7 (fun _ _ => rfl) fun S3 h4 => ?_
  refine l35 hi_39_10 ⟨rfl, ?_⟩
  exact h4
def c40 (s : cS) : cS × Int32 := (nf s 5 1 0, 0)
theorem lc40 {sc : Nat × (Nat → Int32)} {N d : Nat} {A : Nat → Nat} {K : Nat} {S : am_S} {s : cS} (hS : CM A K S s) : am_L (am_PP sc) N d 40 0 [some (.ref 5)] [] S (fun o S1 => o = some none ∧ CM A K S1 (c40 s).1) := by
  refine l2 (v := 5) hi_40_0 rfl ?_
  refine l0 hi_40_1 ?_
  refine l21s hS cs_5 hi_40_2 (fun _ _ => rfl) fun S1 h2 => ?_
  refine l35 hi_40_5 ⟨rfl, ?_⟩
  exact h2
def c42 (s : cS) : cS × Int32 := (nf (nf s 2 2 0) 2 3 0, 0)
theorem lc42 {sc : Nat × (Nat → Int32)} {N d : Nat} {A : Nat → Nat} {K : Nat} {S : am_S} {s : cS} (hS : CM A K S s) : am_L (am_PP sc) N d 42 0 [some (.ref 2)] [] S (fun o S1 => o = some none ∧ CM A K S1 (c42 s).1) := by
  refine l2 (v := 2) hi_42_0 rfl ?_
  refine l0 hi_42_1 ?_
  refine l21s hS cs_2 hi_42_2 (fun _ _ => rfl) fun S1 h2 => ?_
  refine l2 (v := 2) hi_42_5 rfl ?_
  refine l0 hi_42_6 ?_
  refine l21s h2 cs_2 hi_42_7 (fun _ _ => rfl) fun S3 h4 => ?_
  refine l35 hi_42_10 ⟨rfl, ?_⟩
  exact h4
def c44_24 (s : cS) : cS × Int32 := (tct s (.s 30) 0, 0)
theorem lc44_24 {sc : Nat × (Nat → Int32)} {N d : Nat} {A : Nat → Nat} {K : Nat} {S : am_S} {s : cS} (hS : CM A K S s) : am_L (am_PP sc) N d 44 24 [some (.ref 23)] [] S (fun o S1 => o = some none ∧ CM A K S1 (c44_24 s).1) := by
  refine l2 (v := 23) hi_44_24 rfl ?_
  refine l20s (v := .ref 30) hS cs_23 hi_44_25 rfl ?_
  refine l0 hi_44_28 ?_
  refine l32 (as := [.ref 30, .int 0]) (la := [some (.ref 30), some (.int 0)]) (rest := []) hi_44_29 (am_hd0 (M := 44) (by decide) 29) rfl rfl rfl (fun N' d' _ => lc30 (N := N') (d := d') (t := (.s 30)) hS ct_30) ?_ (fun _ q => nomatch q.1)
  rintro v3 S1 ⟨ev3, h2⟩
  cases ev3
  show am_L _ _ _ _ _ [some (.ref 23)] [] _ _
  refine l35 hi_44_32 ⟨rfl, ?_⟩
  exact h2
def c44_16 (s : cS) : cS × Int32 := c44_24 (tct s (.s 28) 0)
theorem lc44_16 {sc : Nat × (Nat → Int32)} {N d : Nat} {A : Nat → Nat} {K : Nat} {S : am_S} {s : cS} (hS : CM A K S s) : am_L (am_PP sc) N d 44 16 [some (.ref 23)] [] S (fun o S1 => o = some none ∧ CM A K S1 (c44_16 s).1) := by
  refine l2 (v := 23) hi_44_16 rfl ?_
  refine l20s (v := .ref 28) hS cs_23 hi_44_17 rfl ?_
  refine l0 hi_44_20 ?_
  refine l32 (as := [.ref 28, .int 0]) (la := [some (.ref 28), some (.int 0)]) (rest := []) hi_44_21 (am_hd0 (M := 44) (by decide) 21) rfl rfl rfl (fun N' d' _ => lc30 (N := N') (d := d') (t := (.s 28)) hS ct_28) ?_ (fun _ q => nomatch q.1)
  rintro v3 S1 ⟨ev3, h2⟩
  cases ev3
  show am_L _ _ _ _ _ [some (.ref 23)] [] _ _
  refine am_L.mono (lc44_24 h2 ) ?_
  rintro o S1 ⟨e, h⟩
  have q : c44_16 s = c44_24 (tct s (.s 28) 0) := rfl
  rw [q]; exact ⟨e, h⟩
def c44_8 (s : cS) : cS × Int32 := c44_16 (tct s (.s 26) 0)
theorem lc44_8 {sc : Nat × (Nat → Int32)} {N d : Nat} {A : Nat → Nat} {K : Nat} {S : am_S} {s : cS} (hS : CM A K S s) : am_L (am_PP sc) N d 44 8 [some (.ref 23)] [] S (fun o S1 => o = some none ∧ CM A K S1 (c44_8 s).1) := by
  refine l2 (v := 23) hi_44_8 rfl ?_
  refine l20s (v := .ref 26) hS cs_23 hi_44_9 rfl ?_
  refine l0 hi_44_12 ?_
  refine l32 (as := [.ref 26, .int 0]) (la := [some (.ref 26), some (.int 0)]) (rest := []) hi_44_13 (am_hd0 (M := 44) (by decide) 13) rfl rfl rfl (fun N' d' _ => lc30 (N := N') (d := d') (t := (.s 26)) hS ct_26) ?_ (fun _ q => nomatch q.1)
  rintro v3 S1 ⟨ev3, h2⟩
  cases ev3
  show am_L _ _ _ _ _ [some (.ref 23)] [] _ _
  refine am_L.mono (lc44_16 h2 ) ?_
  rintro o S1 ⟨e, h⟩
  have q : c44_8 s = c44_16 (tct s (.s 26) 0) := rfl
  rw [q]; exact ⟨e, h⟩
def c44 (s : cS) : cS × Int32 := c44_8 (tct s (.s 24) 0)
theorem lc44 {sc : Nat × (Nat → Int32)} {N d : Nat} {A : Nat → Nat} {K : Nat} {S : am_S} {s : cS} (hS : CM A K S s) : am_L (am_PP sc) N d 44 0 [some (.ref 23)] [] S (fun o S1 => o = some none ∧ CM A K S1 (c44 s).1) := by
  refine l2 (v := 23) hi_44_0 rfl ?_
  refine l20s (v := .ref 24) hS cs_23 hi_44_1 rfl ?_
  refine l0 hi_44_4 ?_
  refine l32 (as := [.ref 24, .int 0]) (la := [some (.ref 24), some (.int 0)]) (rest := []) hi_44_5 (am_hd0 (M := 44) (by decide) 5) rfl rfl rfl (fun N' d' _ => lc30 (N := N') (d := d') (t := (.s 24)) hS ct_24) ?_ (fun _ q => nomatch q.1)
  rintro v3 S1 ⟨ev3, h2⟩
  cases ev3
  show am_L _ _ _ _ _ [some (.ref 23)] [] _ _
  refine am_L.mono (lc44_8 h2 ) ?_
  rintro o S1 ⟨e, h⟩
  have q : c44 s = c44_8 (tct s (.s 24) 0) := rfl
  rw [q]; exact ⟨e, h⟩
def c43_22 (s : cS) : cS × Int32 := (tct s (.s 16) 0, 0)
theorem lc43_22 {sc : Nat × (Nat → Int32)} {N d : Nat} {A : Nat → Nat} {K : Nat} {S : am_S} {s : cS} (hS : CM A K S s) : am_L (am_PP sc) N d 43 22 [some (.ref 12)] [] S (fun o S1 => o = some none ∧ CM A K S1 (c43_22 s).1) := by
  refine l2 (v := 12) hi_43_22 rfl ?_
  refine l20s (v := .ref 16) hS cs_12 hi_43_23 rfl ?_
  refine l0 hi_43_26 ?_
  refine l32 (as := [.ref 16, .int 0]) (la := [some (.ref 16), some (.int 0)]) (rest := []) hi_43_27 (am_hd0 (M := 43) (by decide) 27) rfl rfl rfl (fun N' d' _ => lc30 (N := N') (d := d') (t := (.s 16)) hS ct_16) ?_ (fun _ q => nomatch q.1)
  rintro v3 S1 ⟨ev3, h2⟩
  cases ev3
  show am_L _ _ _ _ _ [some (.ref 12)] [] _ _
  refine l35 hi_43_30 ⟨rfl, ?_⟩
  exact h2
def c43_14 (s : cS) : cS × Int32 := c43_22 (tct s (.s 14) 0)
theorem lc43_14 {sc : Nat × (Nat → Int32)} {N d : Nat} {A : Nat → Nat} {K : Nat} {S : am_S} {s : cS} (hS : CM A K S s) : am_L (am_PP sc) N d 43 14 [some (.ref 12)] [] S (fun o S1 => o = some none ∧ CM A K S1 (c43_14 s).1) := by
  refine l2 (v := 12) hi_43_14 rfl ?_
  refine l20s (v := .ref 14) hS cs_12 hi_43_15 rfl ?_
  refine l0 hi_43_18 ?_
  refine l32 (as := [.ref 14, .int 0]) (la := [some (.ref 14), some (.int 0)]) (rest := []) hi_43_19 (am_hd0 (M := 43) (by decide) 19) rfl rfl rfl (fun N' d' _ => lc30 (N := N') (d := d') (t := (.s 14)) hS ct_14) ?_ (fun _ q => nomatch q.1)
  rintro v3 S1 ⟨ev3, h2⟩
  cases ev3
  show am_L _ _ _ _ _ [some (.ref 12)] [] _ _
  refine am_L.mono (lc43_22 h2 ) ?_
  rintro o S1 ⟨e, h⟩
  have q : c43_14 s = c43_22 (tct s (.s 14) 0) := rfl
  rw [q]; exact ⟨e, h⟩
def c43_7 (s : cS) : cS × Int32 := c43_14 (nf s 13 1 0)
theorem lc43_7 {sc : Nat × (Nat → Int32)} {N d : Nat} {A : Nat → Nat} {K : Nat} {S : am_S} {s : cS} (hS : CM A K S s) : am_L (am_PP sc) N d 43 7 [some (.ref 12)] [] S (fun o S1 => o = some none ∧ CM A K S1 (c43_7 s).1) := by
  refine l2 (v := 12) hi_43_7 rfl ?_
  refine l20s (v := .ref 13) hS cs_12 hi_43_8 rfl ?_
  refine l32 (as := [.ref 13]) (la := [some (.ref 13), none, none, none]) (rest := []) hi_43_11 (am_hd0 (M := 43) (by decide) 11) rfl rfl rfl (fun N' d' _ => lc45 (N := N') (d := d') hS) ?_ (fun _ q => nomatch q.1)
  rintro v3 S1 ⟨ev3, h2⟩
  cases ev3
  show am_L _ _ _ _ _ [some (.ref 12)] [] _ _
  refine am_L.mono (lc43_14 h2 ) ?_
  rintro o S1 ⟨e, h⟩
  have q : c43_7 s = c43_14 (nf s 13 1 0) := rfl
  rw [q]; exact ⟨e, h⟩
def c43 (s : cS) : cS × Int32 := c43_7 ((c44 s).1)
theorem lc43 {sc : Nat × (Nat → Int32)} {N d : Nat} {A : Nat → Nat} {K : Nat} {S : am_S} {s : cS} (hS : CM A K S s) : am_L (am_PP sc) N d 43 0 [some (.ref 12)] [] S (fun o S1 => o = some none ∧ CM A K S1 (c43 s).1) := by
  refine l2 (v := 12) hi_43_0 rfl ?_
  refine l20s (v := .ref 23) hS cs_12 hi_43_1 rfl ?_
  refine l32 (as := [.ref 23]) (la := [some (.ref 23)]) (rest := []) hi_43_4 (am_hd0 (M := 43) (by decide) 4) rfl rfl rfl (fun N' d' _ => lc44 (N := N') (d := d') hS ) ?_ (fun _ q => nomatch q.1)
  rintro v3 S1 ⟨ev3, h2⟩
  cases ev3
  show am_L _ _ _ _ _ [some (.ref 12)] [] _ _
  refine am_L.mono (lc43_7 h2 ) ?_
  rintro o S1 ⟨e, h⟩
  have q : c43 s = c43_7 ((c44 s).1) := rfl
  rw [q]; exact ⟨e, h⟩
def c48 (s : cS) : Int32 := s.r (.s 24)
theorem lc48 {sc : Nat × (Nat → Int32)} {N d : Nat} {A : Nat → Nat} {K : Nat} {S : am_S} {s : cS} (hS : CM A K S s) : am_L (am_PP sc) N d 48 0 [some (.ref 23)] [] S (fun o S1 => o = some (some (.int (c48 s))) ∧ CM A K S1 s) := by
  refine l2 (v := 23) hi_48_0 rfl ?_
  refine l20s (v := .ref 24) hS cs_23 hi_48_1 rfl ?_
  refine l32 (as := [.ref 24]) (la := [some (.ref 24)]) (rest := []) hi_48_4 (am_hd0 (M := 48) (by decide) 4) rfl rfl rfl (fun N' d' _ => lc36 (N := N') (d := d') (t := (.s 24)) hS ct_24) ?_ (fun _ q => nomatch q.1)
  rintro v3 S1 ⟨ev3, h2⟩
  cases ev3
  show am_L _ _ _ _ _ [some (.ref 23)] [.int (s.r (.s 24))] _ _
  refine l33 hi_48_7 ⟨?_, ?_⟩
  · rfl
  · exact h2
def c49 (s : cS) : Int32 := s.r (.s 26)
theorem lc49 {sc : Nat × (Nat → Int32)} {N d : Nat} {A : Nat → Nat} {K : Nat} {S : am_S} {s : cS} (hS : CM A K S s) : am_L (am_PP sc) N d 49 0 [some (.ref 23)] [] S (fun o S1 => o = some (some (.int (c49 s))) ∧ CM A K S1 s) := by
  refine l2 (v := 23) hi_49_0 rfl ?_
  refine l20s (v := .ref 26) hS cs_23 hi_49_1 rfl ?_
  refine l32 (as := [.ref 26]) (la := [some (.ref 26)]) (rest := []) hi_49_4 (am_hd0 (M := 49) (by decide) 4) rfl rfl rfl (fun N' d' _ => lc36 (N := N') (d := d') (t := (.s 26)) hS ct_26) ?_ (fun _ q => nomatch q.1)
  rintro v3 S1 ⟨ev3, h2⟩
  cases ev3
  show am_L _ _ _ _ _ [some (.ref 23)] [.int (s.r (.s 26))] _ _
  refine l33 hi_49_7 ⟨?_, ?_⟩
  · rfl
  · exact h2
def c50 (s : cS) : Int32 := s.r (.s 28)
theorem lc50 {sc : Nat × (Nat → Int32)} {N d : Nat} {A : Nat → Nat} {K : Nat} {S : am_S} {s : cS} (hS : CM A K S s) : am_L (am_PP sc) N d 50 0 [some (.ref 23)] [] S (fun o S1 => o = some (some (.int (c50 s))) ∧ CM A K S1 s) := by
  refine l2 (v := 23) hi_50_0 rfl ?_
  refine l20s (v := .ref 28) hS cs_23 hi_50_1 rfl ?_
  refine l32 (as := [.ref 28]) (la := [some (.ref 28)]) (rest := []) hi_50_4 (am_hd0 (M := 50) (by decide) 4) rfl rfl rfl (fun N' d' _ => lc36 (N := N') (d := d') (t := (.s 28)) hS ct_28) ?_ (fun _ q => nomatch q.1)
  rintro v3 S1 ⟨ev3, h2⟩
  cases ev3
  show am_L _ _ _ _ _ [some (.ref 23)] [.int (s.r (.s 28))] _ _
  refine l33 hi_50_7 ⟨?_, ?_⟩
  · rfl
  · exact h2
def c51 (s : cS) : cS × Int32 := ((tad s (.s 16) (s.r (.s 14)) (c48 s) (c49 s) 0).1, 0)
theorem lc51 {sc : Nat × (Nat → Int32)} {N d : Nat} {A : Nat → Nat} {K : Nat} {S : am_S} {s : cS} (hS : CM A K S s) : am_L (am_PP sc) N d 51 0 [some (.ref 12)] [] S (fun o S1 => o = some none ∧ CM A K S1 (c51 s).1) := by
  refine l2 (v := 12) hi_51_0 rfl ?_
  refine l20s (v := .ref 16) hS cs_12 hi_51_1 rfl ?_
  refine l2 (v := 12) hi_51_4 rfl ?_
  refine l20s (v := .ref 14) hS cs_12 hi_51_5 rfl ?_
  refine l32 (as := [.ref 14]) (la := [some (.ref 14)]) (rest := [.ref 16]) hi_51_8 (am_hd0 (M := 51) (by decide) 8) rfl rfl rfl (fun N' d' _ => lc36 (N := N') (d := d') (t := (.s 14)) hS ct_14) ?_ (fun _ q => nomatch q.1)
  rintro v3 S1 ⟨ev3, h2⟩
  cases ev3
  show am_L _ _ _ _ _ [some (.ref 12)] [.int (s.r (.s 14)), .ref 16] _ _
  refine l2 (v := 12) hi_51_11 rfl ?_
  refine l20s (v := .ref 23) h2 cs_12 hi_51_12 rfl ?_
  refine l32 (as := [.ref 23]) (la := [some (.ref 23)]) (rest := [.int (s.r (.s 14)), .ref 16]) hi_51_15 (am_hd0 (M := 51) (by decide) 15) rfl rfl rfl (fun N' d' _ => lc48 (N := N') (d := d') h2 ) ?_ (fun _ q => nomatch q.1)
  rintro v6 S4 ⟨ev6, h5⟩
  cases ev6
  show am_L _ _ _ _ _ [some (.ref 12)] [.int (c48 s), .int (s.r (.s 14)), .ref 16] _ _
  refine l2 (v := 12) hi_51_18 rfl ?_
  refine l20s (v := .ref 23) h5 cs_12 hi_51_19 rfl ?_
  refine l32 (as := [.ref 23]) (la := [some (.ref 23)]) (rest := [.int (c48 s), .int (s.r (.s 14)), .ref 16]) hi_51_22 (am_hd0 (M := 51) (by decide) 22) rfl rfl rfl (fun N' d' _ => lc49 (N := N') (d := d') h5 ) ?_ (fun _ q => nomatch q.1)
  rintro v9 S7 ⟨ev9, h8⟩
  cases ev9
  show am_L _ _ _ _ _ [some (.ref 12)] [.int (c49 s), .int (c48 s), .int (s.r (.s 14)), .ref 16] _ _
  refine l0 hi_51_25 ?_
  refine l32 (as := [.ref 16, .int (s.r (.s 14)), .int (c48 s), .int (c49 s), .int 0]) (la := [some (.ref 16), some (.int (s.r (.s 14))), some (.int (c48 s)), some (.int (c49 s)), some (.int 0), none]) (rest := []) hi_51_26 (am_hd0 (M := 51) (by decide) 26) rfl rfl rfl (fun N' d' _ => lc31 (N := N') (d := d') (t := (.s 16)) h8 ct_16) ?_ (fun _ q => nomatch q.1)
  rintro v12 S10 ⟨ev12, h11⟩
  cases ev12
  show am_L _ _ _ _ _ [some (.ref 12)] [.int ((tad s (.s 16) (s.r (.s 14)) (c48 s) (c49 s) 0).2)] _ _
  refine l6i hi_51_29 ?_
  refine l35 hi_51_30 ⟨rfl, ?_⟩
  exact h11
def c53 (s : cS) : Int32 := tg s (.s 3) (s.f 2 2) 0
theorem lc53 {sc : Nat × (Nat → Int32)} {N d : Nat} {A : Nat → Nat} {K : Nat} {S : am_S} {s : cS} (hS : CM A K S s) : am_L (am_PP sc) N d 53 0 [some (.ref 2)] [] S (fun o S1 => o = some (some (.int (c53 s))) ∧ CM A K S1 s) := by
  refine l2 (v := 2) hi_53_0 rfl ?_
  refine l20s (v := .ref 3) hS cs_2 hi_53_1 rfl ?_
  refine l2 (v := 2) hi_53_4 rfl ?_
  refine l20s (v := .int (s.f 2 2)) hS cs_2 hi_53_5 rfl ?_
  refine l0 hi_53_8 ?_
  refine l32 (as := [.ref 3, .int (s.f 2 2), .int 0]) (la := [some (.ref 3), some (.int (s.f 2 2)), some (.int 0)]) (rest := []) hi_53_9 (am_hd0 (M := 53) (by decide) 9) rfl rfl rfl (fun N' d' _ => lc54 (N := N') (d := d') (t := (.s 3)) hS ct_3) ?_ (fun _ q => nomatch q.1)
  rintro v3 S1 ⟨ev3, h2⟩
  cases ev3
  show am_L _ _ _ _ _ [some (.ref 2)] [.int (tg s (.s 3) (s.f 2 2) 0)] _ _
  refine l33 hi_53_12 ⟨?_, ?_⟩
  · rfl
  · exact h2
def c56 (s : cS) (x0 : Int32) : Int32 := if x0 = 61 then 1 else if x0 = 65 then 1 else if x0 = 63 then 1 else if x0 = 15 then 1 else if x0 = 30 then 1 else if x0 = 14 then 1 else if x0 ≠ 13 then 0 else 1
theorem lc56 {sc : Nat × (Nat → Int32)} {N d : Nat} {A : Nat → Nat} {K : Nat} {S : am_S} {s : cS} {x0 : Int32} (hS : CM A K S s) : am_L (am_PP sc) N d 56 0 [some (.int x0)] [] S (fun o S1 => o = some (some (.int (c56 s x0))) ∧ CM A K S1 s) := by
  refine l1 (v := x0) hi_56_0 rfl ?_
  refine l0 hi_56_1 ?_
  by_cases cn1 : x0 = 61
  · refine l13t hi_56_3 (decide_eq_true cn1) ?_
    refine l0 hi_56_42 ?_
    refine l18 hi_56_43 ?_
    refine l36 hi_56_47 fun _ => ⟨?_, ?_⟩
    · unfold c56; rw [if_pos cn1]
    · exact hS
  · refine l13f hi_56_3 (decide_eq_false cn1) ?_
    refine l1 (v := x0) hi_56_6 rfl ?_
    refine l0 hi_56_7 ?_
    by_cases cn2 : x0 = 65
    · refine l13t hi_56_9 (decide_eq_true cn2) ?_
      refine l0 hi_56_42 ?_
      refine l18 hi_56_43 ?_
      refine l36 hi_56_47 fun _ => ⟨?_, ?_⟩
      · unfold c56; rw [if_neg cn1]; rw [if_pos cn2]
      · exact hS
    · refine l13f hi_56_9 (decide_eq_false cn2) ?_
      refine l1 (v := x0) hi_56_12 rfl ?_
      refine l0 hi_56_13 ?_
      by_cases cn3 : x0 = 63
      · refine l13t hi_56_15 (decide_eq_true cn3) ?_
        refine l0 hi_56_42 ?_
        refine l18 hi_56_43 ?_
        refine l36 hi_56_47 fun _ => ⟨?_, ?_⟩
        · unfold c56; rw [if_neg cn1]; rw [if_neg cn2]; rw [if_pos cn3]
        · exact hS
      · refine l13f hi_56_15 (decide_eq_false cn3) ?_
        refine l1 (v := x0) hi_56_18 rfl ?_
        refine l0 hi_56_19 ?_
        by_cases cn4 : x0 = 15
        · refine l13t hi_56_21 (decide_eq_true cn4) ?_
          refine l0 hi_56_42 ?_
          refine l18 hi_56_43 ?_
          refine l36 hi_56_47 fun _ => ⟨?_, ?_⟩
          · unfold c56; rw [if_neg cn1]; rw [if_neg cn2]; rw [if_neg cn3]; rw [if_pos cn4]
          · exact hS
        · refine l13f hi_56_21 (decide_eq_false cn4) ?_
          refine l1 (v := x0) hi_56_24 rfl ?_
          refine l0 hi_56_25 ?_
          by_cases cn5 : x0 = 30
          · refine l13t hi_56_27 (decide_eq_true cn5) ?_
            refine l0 hi_56_42 ?_
            refine l18 hi_56_43 ?_
            refine l36 hi_56_47 fun _ => ⟨?_, ?_⟩
            · unfold c56; rw [if_neg cn1]; rw [if_neg cn2]; rw [if_neg cn3]; rw [if_neg cn4]; rw [if_pos cn5]
            · exact hS
          · refine l13f hi_56_27 (decide_eq_false cn5) ?_
            refine l1 (v := x0) hi_56_30 rfl ?_
            refine l0 hi_56_31 ?_
            by_cases cn6 : x0 = 14
            · refine l13t hi_56_33 (decide_eq_true cn6) ?_
              refine l0 hi_56_42 ?_
              refine l18 hi_56_43 ?_
              refine l36 hi_56_47 fun _ => ⟨?_, ?_⟩
              · unfold c56; rw [if_neg cn1]; rw [if_neg cn2]; rw [if_neg cn3]; rw [if_neg cn4]; rw [if_neg cn5]; rw [if_pos cn6]
              · exact hS
            · refine l13f hi_56_33 (decide_eq_false cn6) ?_
              refine l1 (v := x0) hi_56_36 rfl ?_
              refine l0 hi_56_37 ?_
              by_cases cn7 : x0 ≠ 13
              · refine l13t hi_56_39 (decide_eq_true cn7) ?_
                refine l0 hi_56_46 ?_
                refine l36 hi_56_47 fun _ => ⟨?_, ?_⟩
                · unfold c56; rw [if_neg cn1]; rw [if_neg cn2]; rw [if_neg cn3]; rw [if_neg cn4]; rw [if_neg cn5]; rw [if_neg cn6]; rw [if_pos cn7]
                · exact hS
              · refine l13f hi_56_39 (decide_eq_false cn7) ?_
                refine l0 hi_56_42 ?_
                refine l18 hi_56_43 ?_
                refine l36 hi_56_47 fun _ => ⟨?_, ?_⟩
                · unfold c56; rw [if_neg cn1]; rw [if_neg cn2]; rw [if_neg cn3]; rw [if_neg cn4]; rw [if_neg cn5]; rw [if_neg cn6]; rw [if_neg cn7]
                · exact hS
def c57 (s : cS) (x0 : Int32) : Int32 := if x0 = 60 then 1 else if x0 = 64 then 1 else if x0 = 62 then 1 else if x0 = 12 then 1 else if x0 = 28 then 1 else if x0 = 13 then 1 else if x0 = 26 then 1 else if x0 ≠ 18 then 0 else 1
theorem lc57 {sc : Nat × (Nat → Int32)} {N d : Nat} {A : Nat → Nat} {K : Nat} {S : am_S} {s : cS} {x0 : Int32} (hS : CM A K S s) : am_L (am_PP sc) N d 57 0 [some (.int x0)] [] S (fun o S1 => o = some (some (.int (c57 s x0))) ∧ CM A K S1 s) := by
  refine l1 (v := x0) hi_57_0 rfl ?_
  refine l0 hi_57_1 ?_
  by_cases cn1 : x0 = 60
  · refine l13t hi_57_3 (decide_eq_true cn1) ?_
    refine l0 hi_57_48 ?_
    refine l18 hi_57_49 ?_
    refine l36 hi_57_53 fun _ => ⟨?_, ?_⟩
    · unfold c57; rw [if_pos cn1]
    · exact hS
  · refine l13f hi_57_3 (decide_eq_false cn1) ?_
    refine l1 (v := x0) hi_57_6 rfl ?_
    refine l0 hi_57_7 ?_
    by_cases cn2 : x0 = 64
    · refine l13t hi_57_9 (decide_eq_true cn2) ?_
      refine l0 hi_57_48 ?_
      refine l18 hi_57_49 ?_
      refine l36 hi_57_53 fun _ => ⟨?_, ?_⟩
      · unfold c57; rw [if_neg cn1]; rw [if_pos cn2]
      · exact hS
    · refine l13f hi_57_9 (decide_eq_false cn2) ?_
      refine l1 (v := x0) hi_57_12 rfl ?_
      refine l0 hi_57_13 ?_
      by_cases cn3 : x0 = 62
      · refine l13t hi_57_15 (decide_eq_true cn3) ?_
        refine l0 hi_57_48 ?_
        refine l18 hi_57_49 ?_
        refine l36 hi_57_53 fun _ => ⟨?_, ?_⟩
        · unfold c57; rw [if_neg cn1]; rw [if_neg cn2]; rw [if_pos cn3]
        · exact hS
      · refine l13f hi_57_15 (decide_eq_false cn3) ?_
        refine l1 (v := x0) hi_57_18 rfl ?_
        refine l0 hi_57_19 ?_
        by_cases cn4 : x0 = 12
        · refine l13t hi_57_21 (decide_eq_true cn4) ?_
          refine l0 hi_57_48 ?_
          refine l18 hi_57_49 ?_
          refine l36 hi_57_53 fun _ => ⟨?_, ?_⟩
          · unfold c57; rw [if_neg cn1]; rw [if_neg cn2]; rw [if_neg cn3]; rw [if_pos cn4]
          · exact hS
        · refine l13f hi_57_21 (decide_eq_false cn4) ?_
          refine l1 (v := x0) hi_57_24 rfl ?_
          refine l0 hi_57_25 ?_
          by_cases cn5 : x0 = 28
          · refine l13t hi_57_27 (decide_eq_true cn5) ?_
            refine l0 hi_57_48 ?_
            refine l18 hi_57_49 ?_
            refine l36 hi_57_53 fun _ => ⟨?_, ?_⟩
            · unfold c57; rw [if_neg cn1]; rw [if_neg cn2]; rw [if_neg cn3]; rw [if_neg cn4]; rw [if_pos cn5]
            · exact hS
          · refine l13f hi_57_27 (decide_eq_false cn5) ?_
            refine l1 (v := x0) hi_57_30 rfl ?_
            refine l0 hi_57_31 ?_
            by_cases cn6 : x0 = 13
            · refine l13t hi_57_33 (decide_eq_true cn6) ?_
              refine l0 hi_57_48 ?_
              refine l18 hi_57_49 ?_
              refine l36 hi_57_53 fun _ => ⟨?_, ?_⟩
              · unfold c57; rw [if_neg cn1]; rw [if_neg cn2]; rw [if_neg cn3]; rw [if_neg cn4]; rw [if_neg cn5]; rw [if_pos cn6]
              · exact hS
            · refine l13f hi_57_33 (decide_eq_false cn6) ?_
              refine l1 (v := x0) hi_57_36 rfl ?_
              refine l0 hi_57_37 ?_
              by_cases cn7 : x0 = 26
              · refine l13t hi_57_39 (decide_eq_true cn7) ?_
                refine l0 hi_57_48 ?_
                refine l18 hi_57_49 ?_
                refine l36 hi_57_53 fun _ => ⟨?_, ?_⟩
                · unfold c57; rw [if_neg cn1]; rw [if_neg cn2]; rw [if_neg cn3]; rw [if_neg cn4]; rw [if_neg cn5]; rw [if_neg cn6]; rw [if_pos cn7]
                · exact hS
              · refine l13f hi_57_39 (decide_eq_false cn7) ?_
                refine l1 (v := x0) hi_57_42 rfl ?_
                refine l0 hi_57_43 ?_
                by_cases cn8 : x0 ≠ 18
                · refine l13t hi_57_45 (decide_eq_true cn8) ?_
                  refine l0 hi_57_52 ?_
                  refine l36 hi_57_53 fun _ => ⟨?_, ?_⟩
                  · unfold c57; rw [if_neg cn1]; rw [if_neg cn2]; rw [if_neg cn3]; rw [if_neg cn4]; rw [if_neg cn5]; rw [if_neg cn6]; rw [if_neg cn7]; rw [if_pos cn8]
                  · exact hS
                · refine l13f hi_57_45 (decide_eq_false cn8) ?_
                  refine l0 hi_57_48 ?_
                  refine l18 hi_57_49 ?_
                  refine l36 hi_57_53 fun _ => ⟨?_, ?_⟩
                  · unfold c57; rw [if_neg cn1]; rw [if_neg cn2]; rw [if_neg cn3]; rw [if_neg cn4]; rw [if_neg cn5]; rw [if_neg cn6]; rw [if_neg cn7]; rw [if_neg cn8]
                  · exact hS
def c58 (s : cS) (x1 : Int32) (x2 : Int32) : cS × Option Int32 := (nf (nf s 1 0 x1) 1 1 x2, none)
theorem lc58 {sc : Nat × (Nat → Int32)} {N d : Nat} {A : Nat → Nat} {K : Nat} {S : am_S} {s : cS} {x1 : Int32} {x2 : Int32} (hS : CM A K S s) : am_L (am_PP sc) N d 58 0 [some (.ref 1), some (.int x1), some (.int x2)] [] S (fun o S1 => o = cow (c58 s x1 x2).2 ∧ CM A K S1 (c58 s x1 x2).1) := by
  refine l2 (v := 1) hi_58_0 rfl ?_
  refine l1 (v := x1) hi_58_1 rfl ?_
  refine l21s hS cs_1 hi_58_2 (fun _ _ => rfl) fun S1 h2 => ?_
  refine l2 (v := 1) hi_58_5 rfl ?_
  refine l1 (v := x2) hi_58_6 rfl ?_
  refine l21s h2 cs_1 hi_58_7 (fun _ _ => rfl) fun S3 h4 => ?_
  have e_ : c58 s x1 x2 = (nf (nf s 1 0 x1) 1 1 x2, none) := rfl
  refine l37 hi_58_10 ⟨?_, ?_⟩
  · rw [e_]; rfl
  · rw [e_]; exact h4.thr
def c55_69 (s : cS) : cS × Option Int32 := (nf s 2 2 ((s.f 2 2) + 1), some (tg (nf s 2 2 ((s.f 2 2) + 1)) (.s 3) (((s.f 2 2) + 1) - 1) 1))
theorem lc55_69 {sc : Nat × (Nat → Int32)} {N d : Nat} {A : Nat → Nat} {K : Nat} {S : am_S} {s : cS} {o1 : Option Value} (hS : CM A K S s) : am_L (am_PP sc) N d 55 69 [some (.ref 2), o1] [] S (fun o S1 => o = cov (c55_69 s).2 ∧ CM A K S1 (c55_69 s).1) := by
  refine l2 (v := 2) hi_55_69 rfl ?_
  refine l7 hi_55_70 ?_
  refine l20s (v := .int (s.f 2 2)) hS cs_2 hi_55_71 rfl ?_
  refine l0 hi_55_74 ?_
  refine l10 hi_55_75 ?_
  show am_L _ _ _ _ _ [some (.ref 2), o1] [.int ((s.f 2 2) + 1), .ref 2] _ _
  refine l21s hS cs_2 hi_55_76 (fun _ _ => rfl) fun S1 h2 => ?_
  refine l2 (v := 2) hi_55_79 rfl ?_
  refine l20s (v := .ref 3) h2 cs_2 hi_55_80 rfl ?_
  refine l2 (v := 2) hi_55_83 rfl ?_
  refine l20s (v := .int ((s.f 2 2) + 1)) h2 cs_2 hi_55_84 rfl ?_
  refine l0 hi_55_87 ?_
  refine l10 hi_55_88 ?_
  show am_L _ _ _ _ _ [some (.ref 2), o1] [.int (((s.f 2 2) + 1) - 1), .ref 3] _ _
  refine l0 hi_55_89 ?_
  refine l32 (as := [.ref 3, .int (((s.f 2 2) + 1) - 1), .int 1]) (la := [some (.ref 3), some (.int (((s.f 2 2) + 1) - 1)), some (.int 1)]) (rest := []) hi_55_90 (am_hd0 (M := 55) (by decide) 90) rfl rfl rfl (fun N' d' _ => lc54 (N := N') (d := d') (t := (.s 3)) h2 ct_3) ?_ (fun _ q => nomatch q.1)
  rintro v5 S3 ⟨ev5, h4⟩
  cases ev5
  show am_L _ _ _ _ _ [some (.ref 2), o1] [.int (tg (nf s 2 2 ((s.f 2 2) + 1)) (.s 3) (((s.f 2 2) + 1) - 1) 1)] _ _
  have e_ : c55_69 s = (nf s 2 2 ((s.f 2 2) + 1), some (tg (nf s 2 2 ((s.f 2 2) + 1)) (.s 3) (((s.f 2 2) + 1) - 1) 1)) := rfl
  refine l33 hi_55_93 ⟨?_, ?_⟩
  · rw [e_]; rfl
  · rw [e_]; exact h4
def c55_59 (s : cS) : cS × Option Int32 := c55_69 (nf s 2 3 ((s.f 2 3) + 1))
theorem lc55_59 {sc : Nat × (Nat → Int32)} {N d : Nat} {A : Nat → Nat} {K : Nat} {S : am_S} {s : cS} {o1 : Option Value} (hS : CM A K S s) : am_L (am_PP sc) N d 55 59 [some (.ref 2), o1] [] S (fun o S1 => o = cov (c55_59 s).2 ∧ CM A K S1 (c55_59 s).1) := by
  refine l2 (v := 2) hi_55_59 rfl ?_
  refine l7 hi_55_60 ?_
  refine l20s (v := .int (s.f 2 3)) hS cs_2 hi_55_61 rfl ?_
  refine l0 hi_55_64 ?_
  refine l10 hi_55_65 ?_
  show am_L _ _ _ _ _ [some (.ref 2), o1] [.int ((s.f 2 3) + 1), .ref 2] _ _
  refine l21s hS cs_2 hi_55_66 (fun _ _ => rfl) fun S1 h2 => ?_
  refine am_L.mono (lc55_69 h2 ) ?_
  rintro o S1 ⟨e, h⟩
  have q : c55_59 s = c55_69 (nf s 2 3 ((s.f 2 3) + 1)) := rfl
  rw [q]; exact ⟨e, h⟩
def c55_30 (s : cS) (y1 : Int32) : cS × Option Int32 := if (c57 s y1) = 0 then c55_69 s else if (s.f 2 3) < 48 then c55_59 s else cbd (c58 s 8 (s.f 2 2)) (fun _ w9 => c55_59 ((c58 s 8 (s.f 2 2)).1))
theorem lc55_30 {sc : Nat × (Nat → Int32)} {N d : Nat} {A : Nat → Nat} {K : Nat} {S : am_S} {s : cS} {y1 : Int32} (hS : CM A K S s) : am_L (am_PP sc) N d 55 30 [some (.ref 2), some (.int y1)] [] S (fun o S1 => o = cov (c55_30 s y1).2 ∧ CM A K S1 (c55_30 s y1).1) := by
  refine l1 (v := y1) hi_55_30 rfl ?_
  refine l32 (as := [.int y1]) (la := [some (.int y1)]) (rest := []) hi_55_31 (am_hd0 (M := 55) (by decide) 31) rfl rfl rfl (fun N' d' _ => lc57 (N := N') (d := d') hS ) ?_ (fun _ q => nomatch q.1)
  rintro v3 S1 ⟨ev3, h2⟩
  cases ev3
  show am_L _ _ _ _ _ [some (.ref 2), some (.int y1)] [.int (c57 s y1)] _ _
  by_cases cn4 : (c57 s y1) = 0
  · refine l12t hi_55_34 (decide_eq_true cn4) ?_
    refine am_L.mono (lc55_69 h2 ) ?_
    rintro o S1 ⟨e, h⟩
    have q : c55_30 s y1 = c55_69 s := by unfold c55_30; rw [if_pos cn4]
    rw [q]; exact ⟨e, h⟩
  · refine l12f hi_55_34 (decide_eq_false cn4) ?_
    refine l2 (v := 2) hi_55_37 rfl ?_
    refine l20s (v := .int (s.f 2 3)) h2 cs_2 hi_55_38 rfl ?_
    refine l0 hi_55_41 ?_
    by_cases cn5 : (s.f 2 3) < 48
    · refine l13t hi_55_43 (decide_eq_true cn5) ?_
      refine am_L.mono (lc55_59 h2 ) ?_
      rintro o S1 ⟨e, h⟩
      have q : c55_30 s y1 = c55_59 s := by unfold c55_30; rw [if_neg cn4]; rw [if_pos cn5]
      rw [q]; exact ⟨e, h⟩
    · refine l13f hi_55_43 (decide_eq_false cn5) ?_
      refine l2 (v := 2) hi_55_46 rfl ?_
      refine l20s (v := .ref 1) h2 cs_2 hi_55_47 rfl ?_
      refine l0 hi_55_50 ?_
      refine l2 (v := 2) hi_55_52 rfl ?_
      refine l20s (v := .int (s.f 2 2)) h2 cs_2 hi_55_53 rfl ?_
      refine l32 (as := [.ref 1, .int 8, .int (s.f 2 2)]) (la := [some (.ref 1), some (.int 8), some (.int (s.f 2 2))]) (rest := []) hi_55_56 (am_hd0 (M := 55) (by decide) 56) rfl rfl rfl (fun N' d' hN_ => lc58 (N := N') (d := d') h2 ) ?_ ?_
      · rintro v8 S6 ⟨ev, h7⟩
        obtain ⟨w9, e10, rfl⟩ := cow_some ev
        show am_L _ _ _ _ _ [some (.ref 2), some (.int y1)] [] _ _
        refine am_L.mono (lc55_59 h7 ) ?_
        rintro o S1 ⟨e, h⟩
        have q : c55_30 s y1 = c55_59 ((c58 s 8 (s.f 2 2)).1) := by unfold c55_30; rw [if_neg cn4]; rw [if_neg cn5]; rw [cbd_some e10]
        rw [q]; exact ⟨e, h⟩
      · rintro S6 ⟨q1, q2⟩
        have hn := cow_none q1
        have e_ : c55_30 s y1 = (c58 s 8 (s.f 2 2)) := by unfold c55_30; rw [if_neg cn4]; rw [if_neg cn5]; rw [cbd_none hn]
        rw [e_]
        exact ⟨by rw [hn]; rfl, q2⟩
def c55 (s : cS) : cS × Option Int32 := if (c56 s (tg s (.s 3) (s.f 2 2) 0)) = 0 then c55_30 s (tg s (.s 3) (s.f 2 2) 0) else c55_30 (nf s 2 3 ((s.f 2 3) - 1)) (tg s (.s 3) (s.f 2 2) 0)
theorem lc55 {sc : Nat × (Nat → Int32)} {N d : Nat} {A : Nat → Nat} {K : Nat} {S : am_S} {s : cS} (hS : CM A K S s) : am_L (am_PP sc) N d 55 0 [some (.ref 2), none] [] S (fun o S1 => o = cov (c55 s).2 ∧ CM A K S1 (c55 s).1) := by
  refine l2 (v := 2) hi_55_0 rfl ?_
  refine l20s (v := .ref 3) hS cs_2 hi_55_1 rfl ?_
  refine l2 (v := 2) hi_55_4 rfl ?_
  refine l20s (v := .int (s.f 2 2)) hS cs_2 hi_55_5 rfl ?_
  refine l0 hi_55_8 ?_
  refine l32 (as := [.ref 3, .int (s.f 2 2), .int 0]) (la := [some (.ref 3), some (.int (s.f 2 2)), some (.int 0)]) (rest := []) hi_55_9 (am_hd0 (M := 55) (by decide) 9) rfl rfl rfl (fun N' d' _ => lc54 (N := N') (d := d') (t := (.s 3)) hS ct_3) ?_ (fun _ q => nomatch q.1)
  rintro v3 S1 ⟨ev3, h2⟩
  cases ev3
  show am_L _ _ _ _ _ [some (.ref 2), none] [.int (tg s (.s 3) (s.f 2 2) 0)] _ _
  refine l3 (ls' := [some (.ref 2), some (.int (tg s (.s 3) (s.f 2 2) 0))]) hi_55_12 (Nat.le_of_ble_eq_true rfl) rfl ?_
  refine l1 (v := tg s (.s 3) (s.f 2 2) 0) hi_55_13 rfl ?_
  refine l32 (as := [.int (tg s (.s 3) (s.f 2 2) 0)]) (la := [some (.int (tg s (.s 3) (s.f 2 2) 0))]) (rest := []) hi_55_14 (am_hd0 (M := 55) (by decide) 14) rfl rfl rfl (fun N' d' _ => lc56 (N := N') (d := d') h2 ) ?_ (fun _ q => nomatch q.1)
  rintro v6 S4 ⟨ev6, h5⟩
  cases ev6
  show am_L _ _ _ _ _ [some (.ref 2), some (.int (tg s (.s 3) (s.f 2 2) 0))] [.int (c56 s (tg s (.s 3) (s.f 2 2) 0))] _ _
  by_cases cn7 : (c56 s (tg s (.s 3) (s.f 2 2) 0)) = 0
  · refine l12t hi_55_17 (decide_eq_true cn7) ?_
    refine am_L.mono (lc55_30 h5 ) ?_
    rintro o S1 ⟨e, h⟩
    have q : c55 s = c55_30 s (tg s (.s 3) (s.f 2 2) 0) := by unfold c55; rw [if_pos cn7]
    rw [q]; exact ⟨e, h⟩
  · refine l12f hi_55_17 (decide_eq_false cn7) ?_
    refine l2 (v := 2) hi_55_20 rfl ?_
    refine l7 hi_55_21 ?_
    refine l20s (v := .int (s.f 2 3)) h5 cs_2 hi_55_22 rfl ?_
    refine l0 hi_55_25 ?_
    refine l10 hi_55_26 ?_
    show am_L _ _ _ _ _ [some (.ref 2), some (.int (tg s (.s 3) (s.f 2 2) 0))] [.int ((s.f 2 3) - 1), .ref 2] _ _
    refine l21s h5 cs_2 hi_55_27 (fun _ _ => rfl) fun S8 h9 => ?_
    refine am_L.mono (lc55_30 h9 ) ?_
    rintro o S1 ⟨e, h⟩
    have q : c55 s = c55_30 (nf s 2 3 ((s.f 2 3) - 1)) (tg s (.s 3) (s.f 2 2) 0) := by unfold c55; rw [if_neg cn7]
    rw [q]; exact ⟨e, h⟩
def c63 (s : cS) : Int32 := s.f 2 2
theorem lc63 {sc : Nat × (Nat → Int32)} {N d : Nat} {A : Nat → Nat} {K : Nat} {S : am_S} {s : cS} (hS : CM A K S s) : am_L (am_PP sc) N d 63 0 [some (.ref 2)] [] S (fun o S1 => o = some (some (.int (c63 s))) ∧ CM A K S1 s) := by
  refine l2 (v := 2) hi_63_0 rfl ?_
  refine l20s (v := .int (s.f 2 2)) hS cs_2 hi_63_1 rfl ?_
  refine l33 hi_63_4 ⟨?_, ?_⟩
  · rfl
  · exact hS
def c65 (s : cS) (x1 : Int32) : cS × Option Int32 := if (tg s (.s 3) (s.f 2 2) 0) = x1 then (s, some 0) else cbd (c58 s 7 (s.f 2 2)) (fun _ w8 => ((c58 s 7 (s.f 2 2)).1, some 0))
theorem lc65 {sc : Nat × (Nat → Int32)} {N d : Nat} {A : Nat → Nat} {K : Nat} {S : am_S} {s : cS} {x1 : Int32} (hS : CM A K S s) : am_L (am_PP sc) N d 65 0 [some (.ref 2), some (.int x1)] [] S (fun o S1 => o = cow (c65 s x1).2 ∧ CM A K S1 (c65 s x1).1) := by
  refine l2 (v := 2) hi_65_0 rfl ?_
  refine l20s (v := .ref 3) hS cs_2 hi_65_1 rfl ?_
  refine l2 (v := 2) hi_65_4 rfl ?_
  refine l20s (v := .int (s.f 2 2)) hS cs_2 hi_65_5 rfl ?_
  refine l0 hi_65_8 ?_
  refine l32 (as := [.ref 3, .int (s.f 2 2), .int 0]) (la := [some (.ref 3), some (.int (s.f 2 2)), some (.int 0)]) (rest := []) hi_65_9 (am_hd0 (M := 65) (by decide) 9) rfl rfl rfl (fun N' d' _ => lc54 (N := N') (d := d') (t := (.s 3)) hS ct_3) ?_ (fun _ q => nomatch q.1)
  rintro v3 S1 ⟨ev3, h2⟩
  cases ev3
  show am_L _ _ _ _ _ [some (.ref 2), some (.int x1)] [.int (tg s (.s 3) (s.f 2 2) 0)] _ _
  refine l1 (v := x1) hi_65_12 rfl ?_
  by_cases cn4 : (tg s (.s 3) (s.f 2 2) 0) = x1
  · refine l13t hi_65_13 (decide_eq_true cn4) ?_
    have e_ : c65 s x1 = (s, some 0) := by unfold c65; rw [if_pos cn4]
    refine l35 hi_65_29 ⟨?_, ?_⟩
    · rw [e_]; rfl
    · rw [e_]; exact h2
  · refine l13f hi_65_13 (decide_eq_false cn4) ?_
    refine l2 (v := 2) hi_65_16 rfl ?_
    refine l20s (v := .ref 1) h2 cs_2 hi_65_17 rfl ?_
    refine l0 hi_65_20 ?_
    refine l2 (v := 2) hi_65_22 rfl ?_
    refine l20s (v := .int (s.f 2 2)) h2 cs_2 hi_65_23 rfl ?_
    refine l32 (as := [.ref 1, .int 7, .int (s.f 2 2)]) (la := [some (.ref 1), some (.int 7), some (.int (s.f 2 2))]) (rest := []) hi_65_26 (am_hd0 (M := 65) (by decide) 26) rfl rfl rfl (fun N' d' hN_ => lc58 (N := N') (d := d') h2 ) ?_ ?_
    · rintro v7 S5 ⟨ev, h6⟩
      obtain ⟨w8, e9, rfl⟩ := cow_some ev
      show am_L _ _ _ _ _ [some (.ref 2), some (.int x1)] [] _ _
      have e_ : c65 s x1 = ((c58 s 7 (s.f 2 2)).1, some 0) := by unfold c65; rw [if_neg cn4]; rw [cbd_some e9]
      refine l35 hi_65_29 ⟨?_, ?_⟩
      · rw [e_]; rfl
      · rw [e_]; exact h6
    · rintro S5 ⟨q1, q2⟩
      have hn := cow_none q1
      have e_ : c65 s x1 = (c58 s 7 (s.f 2 2)) := by unfold c65; rw [if_neg cn4]; rw [cbd_none hn]
      rw [e_]
      exact ⟨by rw [hn]; rfl, q2⟩
def c64 (s : cS) (x1 : Int32) : cS × Option Int32 := cbd (c65 s x1) (fun _ w4 => cbd (c55 ((c65 s x1).1)) (fun _ w10 => ((c55 ((c65 s x1).1)).1, some w10)))
theorem lc64 {sc : Nat × (Nat → Int32)} {N d : Nat} {A : Nat → Nat} {K : Nat} {S : am_S} {s : cS} {x1 : Int32} (hS : CM A K S s) : am_L (am_PP sc) N d 64 0 [some (.ref 2), some (.int x1)] [] S (fun o S1 => o = cov (c64 s x1).2 ∧ CM A K S1 (c64 s x1).1) := by
  refine l2 (v := 2) hi_64_0 rfl ?_
  refine l1 (v := x1) hi_64_1 rfl ?_
  refine l32 (as := [.ref 2, .int x1]) (la := [some (.ref 2), some (.int x1)]) (rest := []) hi_64_2 (am_hd0 (M := 64) (by decide) 2) rfl rfl rfl (fun N' d' hN_ => lc65 (N := N') (d := d') hS ) ?_ ?_
  · rintro v3 S1 ⟨ev, h2⟩
    obtain ⟨w4, e5, rfl⟩ := cow_some ev
    show am_L _ _ _ _ _ [some (.ref 2), some (.int x1)] [] _ _
    refine l2 (v := 2) hi_64_5 rfl ?_
    refine l32 (as := [.ref 2]) (la := [some (.ref 2), none]) (rest := []) hi_64_6 (am_hd0 (M := 64) (by decide) 6) rfl rfl rfl (fun N' d' hN_ => lc55 (N := N') (d := d') h2 ) ?_ ?_
    · rintro v9 S7 ⟨ev, h8⟩
      obtain ⟨w10, e11, rfl⟩ := cov_some ev
      show am_L _ _ _ _ _ [some (.ref 2), some (.int x1)] [.int w10] _ _
      have e_ : c64 s x1 = ((c55 ((c65 s x1).1)).1, some w10) := by unfold c64; rw [cbd_some e5]; rw [cbd_some e11]
      refine l33 hi_64_9 ⟨?_, ?_⟩
      · rw [e_]; rfl
      · rw [e_]; exact h8
    · rintro S7 ⟨q1, q2⟩
      have hn := cov_none q1
      have e_ : c64 s x1 = (c55 ((c65 s x1).1)) := by unfold c64; rw [cbd_some e5]; rw [cbd_none hn]
      rw [e_]
      exact ⟨by rw [hn]; rfl, q2⟩
  · rintro S1 ⟨q1, q2⟩
    have hn := cow_none q1
    have e_ : c64 s x1 = (c65 s x1) := by unfold c64; rw [cbd_none hn]
    rw [e_]
    exact ⟨by rw [hn]; rfl, q2⟩
def c67b10 (s : cS) (y1 : Int32) (t : Int32) : Nat × (Int32) := if t < 0 then (2, t) else if (tg s (.s 14) t 0) ≠ y1 then (0, (t + (-1))) else if ((tg s (.s 14) t 1) &&& 1) = 0 then (0, (t + (-1))) else (1, t)
theorem lb67_10 {sc : Nat × (Nat → Int32)} {d : Nat} {A : Nat → Nat} {K : Nat} {s : cS} {y1 : Int32} {Q : Option (Option Value) → am_S → Prop} : ∀ (N : Nat) (S : am_S) (t : Int32), CM A K S s → (∀ m S1, (kwh (c67b10 s y1) m t).1 = 1 → CM A K S1 s → am_L (am_PP sc) N d 67 41 [some (.ref 12), some (.int y1), some (.int ((kwh (c67b10 s y1) m t).2))] [] S1 Q) → (∀ m S1, (kwh (c67b10 s y1) m t).1 = 2 → CM A K S1 s → am_L (am_PP sc) N d 67 49 [some (.ref 12), some (.int y1), some (.int ((kwh (c67b10 s y1) m t).2))] [] S1 Q) → am_L (am_PP sc) N d 67 10 [some (.ref 12), some (.int y1), some (.int t)] [] S Q := by
  intro N
  induction N with
  | zero => intros; exact l_zero
  | succ N ih =>
    intro S t hS kx41 kx49
    refine l1d (v := t) hi_67_10 rfl ?_
    by_cases cn1 : t < 0
    · refine l12t hi_67_11 (decide_eq_true cn1) ?_
      have e0 : (c67b10 s y1) t = (2, t) := by unfold c67b10; rw [if_pos cn1]
      have e1 : kwh (c67b10 s y1) 1 t = (2, t) := by rw [kwh_out (by rw [e0]; exact Nat.succ_ne_zero _), e0]
      have q := kx49 1 _  (by rw [e1]) (by exact hS)
      try rw [e1] at q
      exact q.less (Nat.le_succ N)
    · refine l12f hi_67_11 (decide_eq_false cn1) ?_
      refine l2 (v := 12) hi_67_14 rfl ?_
      refine l20s (v := .ref 14) hS cs_12 hi_67_15 rfl ?_
      refine l1 (v := t) hi_67_18 rfl ?_
      refine l0 hi_67_19 ?_
      refine l32 (as := [.ref 14, .int t, .int 0]) (la := [some (.ref 14), some (.int t), some (.int 0)]) (rest := []) hi_67_20 (am_hd0 (M := 67) (by decide) 20) rfl rfl rfl (fun N' d' _ => lc54 (N := N') (d := d') (t := (.s 14)) hS ct_14) ?_ (fun _ q => nomatch q.1)
      rintro v4 S2 ⟨ev4, h3⟩
      cases ev4
      show am_L _ _ _ _ _ [some (.ref 12), some (.int y1), some (.int t)] [.int (tg s (.s 14) t 0)] _ _
      refine l1 (v := y1) hi_67_23 rfl ?_
      by_cases cn5 : (tg s (.s 14) t 0) ≠ y1
      · refine l13t hi_67_24 (decide_eq_true cn5) ?_
        refine l5 (v := t) (ls' := [some (.ref 12), some (.int y1), some (.int (t + (-1)))]) hi_67_43 rfl rfl ?_
        refine l18 hi_67_46 ?_
        have e0 : (c67b10 s y1) t = (0, (t + (-1))) := by unfold c67b10; rw [if_neg cn1]; rw [if_pos cn5]
        have e1 : ∀ m, kwh (c67b10 s y1) (m + 1) t = kwh (c67b10 s y1) m (t + (-1)) := fun m => by rw [kwh_go (by rw [e0]), e0]
        exact ih _  (t + (-1)) h3 (fun m S1 hm h1 => by have q := kx41 (m + 1) S1 (by rw [e1]; exact hm) (by exact h1); (try rw [e1] at q); exact q.less (Nat.le_succ N)) (fun m S1 hm h1 => by have q := kx49 (m + 1) S1 (by rw [e1]; exact hm) (by exact h1); (try rw [e1] at q); exact q.less (Nat.le_succ N))
      · refine l13f hi_67_24 (decide_eq_false cn5) ?_
        refine l2 (v := 12) hi_67_27 rfl ?_
        refine l20s (v := .ref 14) h3 cs_12 hi_67_28 rfl ?_
        refine l1 (v := t) hi_67_31 rfl ?_
        refine l0 hi_67_32 ?_
        refine l32 (as := [.ref 14, .int t, .int 1]) (la := [some (.ref 14), some (.int t), some (.int 1)]) (rest := []) hi_67_33 (am_hd0 (M := 67) (by decide) 33) rfl rfl rfl (fun N' d' _ => lc54 (N := N') (d := d') (t := (.s 14)) h3 ct_14) ?_ (fun _ q => nomatch q.1)
        rintro v8 S6 ⟨ev8, h7⟩
        cases ev8
        show am_L _ _ _ _ _ [some (.ref 12), some (.int y1), some (.int t)] [.int (tg s (.s 14) t 1)] _ _
        refine l0 hi_67_36 ?_
        refine l10 hi_67_37 ?_
        show am_L _ _ _ _ _ [some (.ref 12), some (.int y1), some (.int t)] [.int ((tg s (.s 14) t 1) &&& 1)] _ _
        by_cases cn9 : ((tg s (.s 14) t 1) &&& 1) = 0
        · refine l12t hi_67_38 (decide_eq_true cn9) ?_
          refine l5 (v := t) (ls' := [some (.ref 12), some (.int y1), some (.int (t + (-1)))]) hi_67_43 rfl rfl ?_
          refine l18 hi_67_46 ?_
          have e0 : (c67b10 s y1) t = (0, (t + (-1))) := by unfold c67b10; rw [if_neg cn1]; rw [if_neg cn5]; rw [if_pos cn9]
          have e1 : ∀ m, kwh (c67b10 s y1) (m + 1) t = kwh (c67b10 s y1) m (t + (-1)) := fun m => by rw [kwh_go (by rw [e0]), e0]
          exact ih _  (t + (-1)) h7 (fun m S1 hm h1 => by have q := kx41 (m + 1) S1 (by rw [e1]; exact hm) (by exact h1); (try rw [e1] at q); exact q.less (Nat.le_succ N)) (fun m S1 hm h1 => by have q := kx49 (m + 1) S1 (by rw [e1]; exact hm) (by exact h1); (try rw [e1] at q); exact q.less (Nat.le_succ N))
        · refine l12f hi_67_38 (decide_eq_false cn9) ?_
          have e0 : (c67b10 s y1) t = (1, t) := by unfold c67b10; rw [if_neg cn1]; rw [if_neg cn5]; rw [if_neg cn9]
          have e1 : kwh (c67b10 s y1) 1 t = (1, t) := by rw [kwh_out (by rw [e0]; exact Nat.succ_ne_zero _), e0]
          have q := kx41 1 _  (by rw [e1]) (by exact h7)
          try rw [e1] at q
          exact q.less (Nat.le_succ N)
noncomputable def c67 (s : cS) (x1 : Int32) : Int32 := if (kfin (c67b10 s x1) ((s.r (.s 14)) - 1)).1 = 1 then (kfin (c67b10 s x1) ((s.r (.s 14)) - 1)).2 else (-1)
theorem lc67 {sc : Nat × (Nat → Int32)} {N d : Nat} {A : Nat → Nat} {K : Nat} {S : am_S} {s : cS} {x1 : Int32} (hS : CM A K S s) : am_L (am_PP sc) N d 67 0 [some (.ref 12), some (.int x1), none] [] S (fun o S1 => o = some (some (.int (c67 s x1))) ∧ CM A K S1 s) := by
  refine l2 (v := 12) hi_67_0 rfl ?_
  refine l20s (v := .ref 14) hS cs_12 hi_67_1 rfl ?_
  refine l32 (as := [.ref 14]) (la := [some (.ref 14)]) (rest := []) hi_67_4 (am_hd0 (M := 67) (by decide) 4) rfl rfl rfl (fun N' d' _ => lc36 (N := N') (d := d') (t := (.s 14)) hS ct_14) ?_ (fun _ q => nomatch q.1)
  rintro v3 S1 ⟨ev3, h2⟩
  cases ev3
  show am_L _ _ _ _ _ [some (.ref 12), some (.int x1), none] [.int (s.r (.s 14))] _ _
  refine l0 hi_67_7 ?_
  refine l10 hi_67_8 ?_
  show am_L _ _ _ _ _ [some (.ref 12), some (.int x1), none] [.int ((s.r (.s 14)) - 1)] _ _
  refine l3 (ls' := [some (.ref 12), some (.int x1), some (.int ((s.r (.s 14)) - 1))]) hi_67_9 (Nat.le_of_ble_eq_true rfl) rfl ?_
  refine lb67_10  N _  ((s.r (.s 14)) - 1) h2 ?_ ?_
  · intro m4 S5  hm6 h7
    have hf8 : kfin (c67b10 s x1) ((s.r (.s 14)) - 1) = kwh (c67b10 s x1) m4 ((s.r (.s 14)) - 1) := kfin_eq (by rw [hm6]; decide)
    rw [← hf8] at hm6
    try rw [← hf8]
    refine l1 (v := (kfin (c67b10 s x1) ((s.r (.s 14)) - 1)).2) hi_67_41 rfl ?_
    refine l33 hi_67_42 ⟨?_, ?_⟩
    · unfold c67; rw [if_pos hm6]
    · exact h7
  · intro m9 S10  hm11 h12
    have hf13 : kfin (c67b10 s x1) ((s.r (.s 14)) - 1) = kwh (c67b10 s x1) m9 ((s.r (.s 14)) - 1) := kfin_eq (by rw [hm11]; decide)
    rw [← hf13] at hm11
    try rw [← hf13]
    have cn14 : ¬ (kfin (c67b10 s x1) ((s.r (.s 14)) - 1)).1 = 1 := by rw [hm11]; decide
    refine l0 hi_67_49 ?_
    refine l33 hi_67_50 ⟨?_, ?_⟩
    · unfold c67; rw [if_neg cn14]
    · exact h12
def c69b2 (s : cS) (y0 : Nat) (y1 : Int32) (y2 : Int32) (t : Int32) : Nat × (Int32) := if (s.r (.u y0)) ≤ t then (2, t) else if (tg s (.u y0) t 0) ≠ y1 then (0, (t + 1)) else if (tg s (.u y0) t 1) ≠ y2 then (0, (t + 1)) else (1, t)
theorem lb69_2 {sc : Nat × (Nat → Int32)} {d : Nat} {A : Nat → Nat} {K : Nat} {s : cS} {y0 : Nat} {y1 : Int32} {y2 : Int32} {Q : Option (Option Value) → am_S → Prop} (hy0 : y0 ≤ K) : ∀ (N : Nat) (S : am_S) (t : Int32), CM A K S s → (∀ m S1, (kwh (c69b2 s y0 y1 y2) m t).1 = 1 → CM A K S1 s → am_L (am_PP sc) N d 69 39 [some (.ref (A y0)), some (.int y1), some (.int y2), some (.int ((kwh (c69b2 s y0 y1 y2) m t).2))] [] S1 Q) → (∀ m S1, (kwh (c69b2 s y0 y1 y2) m t).1 = 2 → CM A K S1 s → am_L (am_PP sc) N d 69 47 [some (.ref (A y0)), some (.int y1), some (.int y2), some (.int ((kwh (c69b2 s y0 y1 y2) m t).2))] [] S1 Q) → am_L (am_PP sc) N d 69 2 [some (.ref (A y0)), some (.int y1), some (.int y2), some (.int t)] [] S Q := by
  intro N
  induction N with
  | zero => intros; exact l_zero
  | succ N ih =>
    intro S t hS kx39 kx47
    refine l1d (v := t) hi_69_2 rfl ?_
    refine l2 (v := (A y0)) hi_69_3 rfl ?_
    refine l20b (v := .ref (cTa A (.u y0))) hS hy0 hi_69_4 rfl ?_
    refine l32 (as := [.ref (cTa A (.u y0))]) (la := [some (.ref (cTa A (.u y0)))]) (rest := [.int t]) hi_69_7 (am_hd0 (M := 69) (by decide) 7) rfl rfl rfl (fun N' d' _ => lc36 (N := N') (d := d') (t := (.u y0)) hS (show cTl _ (.u y0) from hy0)) ?_ (fun _ q => nomatch q.1)
    rintro v3 S1 ⟨ev3, h2⟩
    cases ev3
    show am_L _ _ _ _ _ [some (.ref (A y0)), some (.int y1), some (.int y2), some (.int t)] [.int (s.r (.u y0)), .int t] _ _
    by_cases cn4 : (s.r (.u y0)) ≤ t
    · refine l13t hi_69_10 (decide_eq_true cn4) ?_
      have e0 : (c69b2 s y0 y1 y2) t = (2, t) := by unfold c69b2; rw [if_pos cn4]
      have e1 : kwh (c69b2 s y0 y1 y2) 1 t = (2, t) := by rw [kwh_out (by rw [e0]; exact Nat.succ_ne_zero _), e0]
      have q := kx47 1 _  (by rw [e1]) (by exact h2)
      try rw [e1] at q
      exact q.less (Nat.le_succ N)
    · refine l13f hi_69_10 (decide_eq_false cn4) ?_
      refine l2 (v := (A y0)) hi_69_13 rfl ?_
      refine l20b (v := .ref (cTa A (.u y0))) h2 hy0 hi_69_14 rfl ?_
      refine l1 (v := t) hi_69_17 rfl ?_
      refine l0 hi_69_18 ?_
      refine l32 (as := [.ref (cTa A (.u y0)), .int t, .int 0]) (la := [some (.ref (cTa A (.u y0))), some (.int t), some (.int 0)]) (rest := []) hi_69_19 (am_hd0 (M := 69) (by decide) 19) rfl rfl rfl (fun N' d' _ => lc54 (N := N') (d := d') (t := (.u y0)) h2 (show cTl _ (.u y0) from hy0)) ?_ (fun _ q => nomatch q.1)
      rintro v7 S5 ⟨ev7, h6⟩
      cases ev7
      show am_L _ _ _ _ _ [some (.ref (A y0)), some (.int y1), some (.int y2), some (.int t)] [.int (tg s (.u y0) t 0)] _ _
      refine l1 (v := y1) hi_69_22 rfl ?_
      by_cases cn8 : (tg s (.u y0) t 0) ≠ y1
      · refine l13t hi_69_23 (decide_eq_true cn8) ?_
        refine l5 (v := t) (ls' := [some (.ref (A y0)), some (.int y1), some (.int y2), some (.int (t + 1))]) hi_69_41 rfl rfl ?_
        refine l18 hi_69_44 ?_
        have e0 : (c69b2 s y0 y1 y2) t = (0, (t + 1)) := by unfold c69b2; rw [if_neg cn4]; rw [if_pos cn8]
        have e1 : ∀ m, kwh (c69b2 s y0 y1 y2) (m + 1) t = kwh (c69b2 s y0 y1 y2) m (t + 1) := fun m => by rw [kwh_go (by rw [e0]), e0]
        exact ih _  (t + 1) h6 (fun m S1 hm h1 => by have q := kx39 (m + 1) S1 (by rw [e1]; exact hm) (by exact h1); (try rw [e1] at q); exact q.less (Nat.le_succ N)) (fun m S1 hm h1 => by have q := kx47 (m + 1) S1 (by rw [e1]; exact hm) (by exact h1); (try rw [e1] at q); exact q.less (Nat.le_succ N))
      · refine l13f hi_69_23 (decide_eq_false cn8) ?_
        refine l2 (v := (A y0)) hi_69_26 rfl ?_
        refine l20b (v := .ref (cTa A (.u y0))) h6 hy0 hi_69_27 rfl ?_
        refine l1 (v := t) hi_69_30 rfl ?_
        refine l0 hi_69_31 ?_
        refine l32 (as := [.ref (cTa A (.u y0)), .int t, .int 1]) (la := [some (.ref (cTa A (.u y0))), some (.int t), some (.int 1)]) (rest := []) hi_69_32 (am_hd0 (M := 69) (by decide) 32) rfl rfl rfl (fun N' d' _ => lc54 (N := N') (d := d') (t := (.u y0)) h6 (show cTl _ (.u y0) from hy0)) ?_ (fun _ q => nomatch q.1)
        rintro v11 S9 ⟨ev11, h10⟩
        cases ev11
        show am_L _ _ _ _ _ [some (.ref (A y0)), some (.int y1), some (.int y2), some (.int t)] [.int (tg s (.u y0) t 1)] _ _
        refine l1 (v := y2) hi_69_35 rfl ?_
        by_cases cn12 : (tg s (.u y0) t 1) ≠ y2
        · refine l13t hi_69_36 (decide_eq_true cn12) ?_
          refine l5 (v := t) (ls' := [some (.ref (A y0)), some (.int y1), some (.int y2), some (.int (t + 1))]) hi_69_41 rfl rfl ?_
          refine l18 hi_69_44 ?_
          have e0 : (c69b2 s y0 y1 y2) t = (0, (t + 1)) := by unfold c69b2; rw [if_neg cn4]; rw [if_neg cn8]; rw [if_pos cn12]
          have e1 : ∀ m, kwh (c69b2 s y0 y1 y2) (m + 1) t = kwh (c69b2 s y0 y1 y2) m (t + 1) := fun m => by rw [kwh_go (by rw [e0]), e0]
          exact ih _  (t + 1) h10 (fun m S1 hm h1 => by have q := kx39 (m + 1) S1 (by rw [e1]; exact hm) (by exact h1); (try rw [e1] at q); exact q.less (Nat.le_succ N)) (fun m S1 hm h1 => by have q := kx47 (m + 1) S1 (by rw [e1]; exact hm) (by exact h1); (try rw [e1] at q); exact q.less (Nat.le_succ N))
        · refine l13f hi_69_36 (decide_eq_false cn12) ?_
          have e0 : (c69b2 s y0 y1 y2) t = (1, t) := by unfold c69b2; rw [if_neg cn4]; rw [if_neg cn8]; rw [if_neg cn12]
          have e1 : kwh (c69b2 s y0 y1 y2) 1 t = (1, t) := by rw [kwh_out (by rw [e0]; exact Nat.succ_ne_zero _), e0]
          have q := kx39 1 _  (by rw [e1]) (by exact h10)
          try rw [e1] at q
          exact q.less (Nat.le_succ N)
noncomputable def c69 (s : cS) (x0 : Nat) (x1 : Int32) (x2 : Int32) : cS × Int32 := if (kfin (c69b2 s x0 x1 x2) 0).1 = 1 then (s, (kfin (c69b2 s x0 x1 x2) 0).2) else ((tad s (.u x0) x1 x2 0 0).1, (tad s (.u x0) x1 x2 0 0).2)
theorem lc69 {sc : Nat × (Nat → Int32)} {N d : Nat} {A : Nat → Nat} {K : Nat} {S : am_S} {s : cS} {x0 : Nat} {x1 : Int32} {x2 : Int32} (hS : CM A K S s) (hx0 : x0 ≤ K) : am_L (am_PP sc) N d 69 0 [some (.ref (A x0)), some (.int x1), some (.int x2), none] [] S (fun o S1 => o = some (some (.int (c69 s x0 x1 x2).2)) ∧ CM A K S1 (c69 s x0 x1 x2).1) := by
  refine l0 hi_69_0 ?_
  refine l3 (ls' := [some (.ref (A x0)), some (.int x1), some (.int x2), some (.int 0)]) hi_69_1 (Nat.le_of_ble_eq_true rfl) rfl ?_
  refine lb69_2 hx0 N _  0 hS ?_ ?_
  · intro m1 S2  hm3 h4
    have hf5 : kfin (c69b2 s x0 x1 x2) 0 = kwh (c69b2 s x0 x1 x2) m1 0 := kfin_eq (by rw [hm3]; decide)
    rw [← hf5] at hm3
    try rw [← hf5]
    refine l1 (v := (kfin (c69b2 s x0 x1 x2) 0).2) hi_69_39 rfl ?_
    refine l33 hi_69_40 ⟨?_, ?_⟩
    · unfold c69; rw [if_pos hm3]
    · unfold c69; rw [if_pos hm3]; exact h4
  · intro m6 S7  hm8 h9
    have hf10 : kfin (c69b2 s x0 x1 x2) 0 = kwh (c69b2 s x0 x1 x2) m6 0 := kfin_eq (by rw [hm8]; decide)
    rw [← hf10] at hm8
    try rw [← hf10]
    have cn11 : ¬ (kfin (c69b2 s x0 x1 x2) 0).1 = 1 := by rw [hm8]; decide
    refine l2 (v := (A x0)) hi_69_47 rfl ?_
    refine l20b (v := .ref (cTa A (.u x0))) h9 hx0 hi_69_48 rfl ?_
    refine l1 (v := x1) hi_69_51 rfl ?_
    refine l1 (v := x2) hi_69_52 rfl ?_
    refine l0 hi_69_53 ?_
    refine l0 hi_69_54 ?_
    refine l32 (as := [.ref (cTa A (.u x0)), .int x1, .int x2, .int 0, .int 0]) (la := [some (.ref (cTa A (.u x0))), some (.int x1), some (.int x2), some (.int 0), some (.int 0), none]) (rest := []) hi_69_55 (am_hd0 (M := 69) (by decide) 55) rfl rfl rfl (fun N' d' _ => lc31 (N := N') (d := d') (t := (.u x0)) h9 (show cTl _ (.u x0) from hx0)) ?_ (fun _ q => nomatch q.1)
    rintro v14 S12 ⟨ev14, h13⟩
    cases ev14
    show am_L _ _ _ _ _ [some (.ref (A x0)), some (.int x1), some (.int x2), some (.int ((kfin (c69b2 s x0 x1 x2) 0).2))] [.int ((tad s (.u x0) x1 x2 0 0).2)] _ _
    refine l33 hi_69_58 ⟨?_, ?_⟩
    · unfold c69; rw [if_neg cn11]
    · unfold c69; rw [if_neg cn11]; exact h13
noncomputable def c68b7 (y1 : Int32) (t : cS × Int32 × Int32 × Int32) : Nat × (cS × Int32 × Int32 × Int32) := if (t.1.f 13 1) ≤ t.2.2.2 then (1, (t.1, t.2.1, t.2.2.1, t.2.2.2)) else if y1 < (t.1.b (t.1.op (t.2.2.2).toInt.toNat) 9) then (0, ((c69 t.1 (t.1.op (t.2.2.2).toInt.toNat) t.2.1 t.2.2.1).1, 0, (c69 t.1 (t.1.op (t.2.2.2).toInt.toNat) t.2.1 t.2.2.1).2, t.2.2.2 + 1)) else (0, (t.1, t.2.1, y1 - (t.1.b (t.1.op (t.2.2.2).toInt.toNat) 9), t.2.2.2 + 1))
theorem lb68_7 {sc : Nat × (Nat → Int32)} {d : Nat} {A : Nat → Nat} {K : Nat} {y1 : Int32} {Q : Option (Option Value) → am_S → Prop} : ∀ (N : Nat) (S : am_S) (o5 : Option Value) (t : cS × Int32 × Int32 × Int32), CM A K S t.1 → (∀ m S1 (p5 : Option Value), (kwh (c68b7 y1) m t).1 = 1 → CM A K S1 (kwh (c68b7 y1) m t).2.1 → am_L (am_PP sc) N d 68 69 [some (.ref 12), some (.int y1), some (.int ((kwh (c68b7 y1) m t).2.2.1)), some (.int ((kwh (c68b7 y1) m t).2.2.2.1)), some (.int ((kwh (c68b7 y1) m t).2.2.2.2)), p5] [] S1 Q) → am_L (am_PP sc) N d 68 7 [some (.ref 12), some (.int y1), some (.int t.2.1), some (.int t.2.2.1), some (.int t.2.2.2), o5] [] S Q := by
  intro N
  induction N with
  | zero => intros; exact l_zero
  | succ N ih =>
    intro S o5 t hS kx69
    refine l1d (v := t.2.2.2) hi_68_7 rfl ?_
    refine l2 (v := 12) hi_68_9 rfl ?_
    refine l20s (v := .ref 13) hS cs_12 hi_68_10 rfl ?_
    refine l32 (as := [.ref 13]) (la := [some (.ref 13)]) (rest := [.int t.2.2.2]) hi_68_13 (am_hd0 (M := 68) (by decide) 13) rfl rfl rfl (fun N' d' _ => lc14 (N := N') (d := d') hS (Or.inr rfl)) ?_ (fun _ q => nomatch q.1)
    rintro v3 S1 ⟨ev3, h2⟩
    cases ev3
    show am_L _ _ _ _ _ [some (.ref 12), some (.int y1), some (.int t.2.1), some (.int t.2.2.1), some (.int t.2.2.2), o5] [.int (t.1.f 13 1), .int t.2.2.2] _ _
    by_cases cn4 : (t.1.f 13 1) ≤ t.2.2.2
    · refine l13t hi_68_16 (decide_eq_true cn4) ?_
      have e0 : (c68b7 y1) t = (1, (t.1, t.2.1, t.2.2.1, t.2.2.2)) := by unfold c68b7; rw [if_pos cn4]
      have e1 : kwh (c68b7 y1) 1 t = (1, (t.1, t.2.1, t.2.2.1, t.2.2.2)) := by rw [kwh_out (by rw [e0]; exact Nat.succ_ne_zero _), e0]
      have q := kx69 1 _ o5 (by rw [e1]) (by rw [e1]; exact h2)
      try rw [e1] at q
      exact q.less (Nat.le_succ N)
    · refine l13f hi_68_16 (decide_eq_false cn4) ?_
      refine l2 (v := 12) hi_68_19 rfl ?_
      refine l20s (v := .ref 13) h2 cs_12 hi_68_20 rfl ?_
      refine l1 (v := t.2.2.2) hi_68_23 rfl ?_
      refine l32 (as := [.ref 13, .int t.2.2.2]) (la := [some (.ref 13), some (.int t.2.2.2)]) (rest := []) hi_68_25 (am_hd0 (M := 68) (by decide) 25) rfl rfl rfl (fun N' d' _ => lc25o (N := N') (d := d') h2) ?_ (fun _ q => nomatch q.1)
      rintro v7 S5 ⟨ev7, x8, h6⟩
      cases ev7
      show am_L _ _ _ _ _ [some (.ref 12), some (.int y1), some (.int t.2.1), some (.int t.2.2.1), some (.int t.2.2.2), o5] [.ref (A (t.1.op (t.2.2.2).toInt.toNat))] _ _
      refine l30 hi_68_28 ?_
      refine l4 (ls' := [some (.ref 12), some (.int y1), some (.int t.2.1), some (.int t.2.2.1), some (.int t.2.2.2), some (.ref (A (t.1.op (t.2.2.2).toInt.toNat)))]) hi_68_31 (Nat.le_of_ble_eq_true rfl) rfl ?_
      refine l2 (v := (A (t.1.op (t.2.2.2).toInt.toNat))) hi_68_33 rfl ?_
      refine l20b (v := .int (t.1.b (t.1.op (t.2.2.2).toInt.toNat) 9)) h6 x8 hi_68_35 rfl ?_
      refine l1 (v := y1) hi_68_38 rfl ?_
      by_cases cn9 : y1 < (t.1.b (t.1.op (t.2.2.2).toInt.toNat) 9)
      · refine l13t hi_68_39 (decide_eq_true cn9) ?_
        refine l2 (v := (A (t.1.op (t.2.2.2).toInt.toNat))) hi_68_53 rfl ?_
        refine l1 (v := t.2.1) hi_68_55 rfl ?_
        refine l1 (v := t.2.2.1) hi_68_56 rfl ?_
        refine l32 (as := [.ref (A (t.1.op (t.2.2.2).toInt.toNat)), .int t.2.1, .int t.2.2.1]) (la := [some (.ref (A (t.1.op (t.2.2.2).toInt.toNat))), some (.int t.2.1), some (.int t.2.2.1), none]) (rest := []) hi_68_57 (am_hd0 (M := 68) (by decide) 57) rfl rfl rfl (fun N' d' _ => lc69 (N := N') (d := d') h6 x8) ?_ (fun _ q => nomatch q.1)
        rintro v12 S10 ⟨ev12, h11⟩
        cases ev12
        show am_L _ _ _ _ _ [some (.ref 12), some (.int y1), some (.int t.2.1), some (.int t.2.2.1), some (.int t.2.2.2), some (.ref (A (t.1.op (t.2.2.2).toInt.toNat)))] [.int ((c69 t.1 (t.1.op (t.2.2.2).toInt.toNat) t.2.1 t.2.2.1).2)] _ _
        refine l3 (ls' := [some (.ref 12), some (.int y1), some (.int t.2.1), some (.int ((c69 t.1 (t.1.op (t.2.2.2).toInt.toNat) t.2.1 t.2.2.1).2)), some (.int t.2.2.2), some (.ref (A (t.1.op (t.2.2.2).toInt.toNat)))]) hi_68_60 (Nat.le_of_ble_eq_true rfl) rfl ?_
        refine l0 hi_68_61 ?_
        refine l3 (ls' := [some (.ref 12), some (.int y1), some (.int 0), some (.int ((c69 t.1 (t.1.op (t.2.2.2).toInt.toNat) t.2.1 t.2.2.1).2)), some (.int t.2.2.2), some (.ref (A (t.1.op (t.2.2.2).toInt.toNat)))]) hi_68_62 (Nat.le_of_ble_eq_true rfl) rfl ?_
        refine l5 (v := t.2.2.2) (ls' := [some (.ref 12), some (.int y1), some (.int 0), some (.int ((c69 t.1 (t.1.op (t.2.2.2).toInt.toNat) t.2.1 t.2.2.1).2)), some (.int (t.2.2.2 + 1)), some (.ref (A (t.1.op (t.2.2.2).toInt.toNat)))]) hi_68_63 rfl rfl ?_
        refine l18 hi_68_66 ?_
        have e0 : (c68b7 y1) t = (0, ((c69 t.1 (t.1.op (t.2.2.2).toInt.toNat) t.2.1 t.2.2.1).1, 0, (c69 t.1 (t.1.op (t.2.2.2).toInt.toNat) t.2.1 t.2.2.1).2, t.2.2.2 + 1)) := by unfold c68b7; rw [if_neg cn4]; rw [if_pos cn9]
        have e1 : ∀ m, kwh (c68b7 y1) (m + 1) t = kwh (c68b7 y1) m ((c69 t.1 (t.1.op (t.2.2.2).toInt.toNat) t.2.1 t.2.2.1).1, 0, (c69 t.1 (t.1.op (t.2.2.2).toInt.toNat) t.2.1 t.2.2.1).2, t.2.2.2 + 1) := fun m => by rw [kwh_go (by rw [e0]), e0]
        exact ih _ (some (.ref (A (t.1.op (t.2.2.2).toInt.toNat)))) ((c69 t.1 (t.1.op (t.2.2.2).toInt.toNat) t.2.1 t.2.2.1).1, 0, (c69 t.1 (t.1.op (t.2.2.2).toInt.toNat) t.2.1 t.2.2.1).2, t.2.2.2 + 1) h11 (fun m S1 p5 hm h1 => by have q := kx69 (m + 1) S1 p5 (by rw [e1]; exact hm) (by rw [e1]; exact h1); (try rw [e1] at q); exact q.less (Nat.le_succ N))
      · refine l13f hi_68_39 (decide_eq_false cn9) ?_
        refine l1 (v := y1) hi_68_42 rfl ?_
        refine l2 (v := (A (t.1.op (t.2.2.2).toInt.toNat))) hi_68_43 rfl ?_
        refine l20b (v := .int (t.1.b (t.1.op (t.2.2.2).toInt.toNat) 9)) h6 x8 hi_68_45 rfl ?_
        refine l10 hi_68_48 ?_
        show am_L _ _ _ _ _ [some (.ref 12), some (.int y1), some (.int t.2.1), some (.int t.2.2.1), some (.int t.2.2.2), some (.ref (A (t.1.op (t.2.2.2).toInt.toNat)))] [.int (y1 - (t.1.b (t.1.op (t.2.2.2).toInt.toNat) 9))] _ _
        refine l3 (ls' := [some (.ref 12), some (.int y1), some (.int t.2.1), some (.int (y1 - (t.1.b (t.1.op (t.2.2.2).toInt.toNat) 9))), some (.int t.2.2.2), some (.ref (A (t.1.op (t.2.2.2).toInt.toNat)))]) hi_68_49 (Nat.le_of_ble_eq_true rfl) rfl ?_
        refine l18 hi_68_50 ?_
        refine l5 (v := t.2.2.2) (ls' := [some (.ref 12), some (.int y1), some (.int t.2.1), some (.int (y1 - (t.1.b (t.1.op (t.2.2.2).toInt.toNat) 9))), some (.int (t.2.2.2 + 1)), some (.ref (A (t.1.op (t.2.2.2).toInt.toNat)))]) hi_68_63 rfl rfl ?_
        refine l18 hi_68_66 ?_
        have e0 : (c68b7 y1) t = (0, (t.1, t.2.1, y1 - (t.1.b (t.1.op (t.2.2.2).toInt.toNat) 9), t.2.2.2 + 1)) := by unfold c68b7; rw [if_neg cn4]; rw [if_neg cn9]
        have e1 : ∀ m, kwh (c68b7 y1) (m + 1) t = kwh (c68b7 y1) m (t.1, t.2.1, y1 - (t.1.b (t.1.op (t.2.2.2).toInt.toNat) 9), t.2.2.2 + 1) := fun m => by rw [kwh_go (by rw [e0]), e0]
        exact ih _ (some (.ref (A (t.1.op (t.2.2.2).toInt.toNat)))) (t.1, t.2.1, y1 - (t.1.b (t.1.op (t.2.2.2).toInt.toNat) 9), t.2.2.2 + 1) h6 (fun m S1 p5 hm h1 => by have q := kx69 (m + 1) S1 p5 (by rw [e1]; exact hm) (by rw [e1]; exact h1); (try rw [e1] at q); exact q.less (Nat.le_succ N))
noncomputable def c68 (s : cS) (x1 : Int32) : cS × Int32 := ((kfin (c68b7 x1) (s, 1, x1, 0)).2.1, (kfin (c68b7 x1) (s, 1, x1, 0)).2.2.2.1)
theorem lc68 {sc : Nat × (Nat → Int32)} {N d : Nat} {A : Nat → Nat} {K : Nat} {S : am_S} {s : cS} {x1 : Int32} (hS : CM A K S s) : am_L (am_PP sc) N d 68 0 [some (.ref 12), some (.int x1), none, none, none, none] [] S (fun o S1 => o = some (some (.int (c68 s x1).2)) ∧ CM A K S1 (c68 s x1).1) := by
  refine l0 hi_68_0 ?_
  refine l3 (ls' := [some (.ref 12), some (.int x1), some (.int 1), none, none, none]) hi_68_1 (Nat.le_of_ble_eq_true rfl) rfl ?_
  refine l1 (v := x1) hi_68_2 rfl ?_
  refine l3 (ls' := [some (.ref 12), some (.int x1), some (.int 1), some (.int x1), none, none]) hi_68_3 (Nat.le_of_ble_eq_true rfl) rfl ?_
  refine l0 hi_68_4 ?_
  refine l3 (ls' := [some (.ref 12), some (.int x1), some (.int 1), some (.int x1), some (.int 0), none]) hi_68_5 (Nat.le_of_ble_eq_true rfl) rfl ?_
  refine lb68_7  N _ none (s, 1, x1, 0) hS ?_
  · intro m1 S2 p6 hm3 h4
    have hf5 : kfin (c68b7 x1) (s, 1, x1, 0) = kwh (c68b7 x1) m1 (s, 1, x1, 0) := kfin_eq (by rw [hm3]; decide)
    rw [← hf5] at hm3 h4
    try rw [← hf5]
    refine l1 (v := (kfin (c68b7 x1) (s, 1, x1, 0)).2.2.2.1) hi_68_69 rfl ?_
    refine l33 hi_68_70 ⟨?_, ?_⟩
    · rfl
    · exact h4
noncomputable def c66_30 (s : cS) (y1 : Int32) (y2 : Int32) (z0 : Int32) : cS × Int32 := if 0 ≤ y2 then if y2 < (s.b s.now 9) then (nf ((c68 (nf (nf s 12 9 z0) 12 7 9) y2).1) 12 8 ((c68 (nf (nf s 12 9 z0) 12 7 9) y2).2), 0) else (nf (nf (nf s 12 9 z0) 12 7 8) 12 8 (y2 - (s.b s.now 9)), 0) else (nf (nf (nf s 12 9 z0) 12 7 10) 12 8 y1, 0)
theorem lc66_30 {sc : Nat × (Nat → Int32)} {N d : Nat} {A : Nat → Nat} {K : Nat} {S : am_S} {s : cS} {y1 : Int32} {y2 : Int32} {z0 : Int32} (hS : CM A K S s) : am_L (am_PP sc) N d 66 30 [some (.ref 12), some (.int y1), some (.int y2)] [.int z0, .ref 12] S (fun o S1 => o = some none ∧ CM A K S1 (c66_30 s y1 y2 z0).1) := by
  refine l21s hS cs_12 hi_66_30 (fun _ _ => rfl) fun S1 h2 => ?_
  refine l1 (v := y2) hi_66_33 rfl ?_
  by_cases cn3 : 0 ≤ y2
  · refine l12t hi_66_34 (decide_eq_true cn3) ?_
    refine l1 (v := y2) hi_66_51 rfl ?_
    refine l2 (v := 12) hi_66_52 rfl ?_
    refine l20s (v := .ref (A s.now)) h2 cs_12 hi_66_53 rfl ?_
    refine l20b (v := .int (s.b s.now 9)) h2 (show s.now ≤ K from CM.nl (s := nf s 12 9 z0) h2) hi_66_56 rfl ?_
    by_cases cn4 : y2 < (s.b s.now 9)
    · refine l13t hi_66_59 (decide_eq_true cn4) ?_
      refine l2 (v := 12) hi_66_84 rfl ?_
      refine l0 hi_66_85 ?_
      refine l21s h2 cs_12 hi_66_87 (fun _ _ => rfl) fun S5 h6 => ?_
      refine l2 (v := 12) hi_66_90 rfl ?_
      refine l2 (v := 12) hi_66_91 rfl ?_
      refine l1 (v := y2) hi_66_92 rfl ?_
      refine l32 (as := [.ref 12, .int y2]) (la := [some (.ref 12), some (.int y2), none, none, none, none]) (rest := [.ref 12]) hi_66_93 (am_hd0 (M := 66) (by decide) 93) rfl rfl rfl (fun N' d' _ => lc68 (N := N') (d := d') h6 ) ?_ (fun _ q => nomatch q.1)
      rintro v9 S7 ⟨ev9, h8⟩
      cases ev9
      show am_L _ _ _ _ _ [some (.ref 12), some (.int y1), some (.int y2)] [.int ((c68 (nf (nf s 12 9 z0) 12 7 9) y2).2), .ref 12] _ _
      refine l21s h8 cs_12 hi_66_96 (fun _ _ => rfl) fun S10 h11 => ?_
      refine l35 hi_66_99 ⟨rfl, ?_⟩
      unfold c66_30; rw [if_pos cn3]; rw [if_pos cn4]; exact h11
    · refine l13f hi_66_59 (decide_eq_false cn4) ?_
      refine l2 (v := 12) hi_66_62 rfl ?_
      refine l0 hi_66_63 ?_
      refine l21s h2 cs_12 hi_66_65 (fun _ _ => rfl) fun S12 h13 => ?_
      refine l2 (v := 12) hi_66_68 rfl ?_
      refine l1 (v := y2) hi_66_69 rfl ?_
      refine l2 (v := 12) hi_66_70 rfl ?_
      refine l20s (v := .ref (A s.now)) h13 cs_12 hi_66_71 rfl ?_
      refine l20b (v := .int (s.b s.now 9)) h13 (show s.now ≤ K from CM.nl (s := nf (nf s 12 9 z0) 12 7 8) h13) hi_66_74 rfl ?_
      refine l10 hi_66_77 ?_
      show am_L _ _ _ _ _ [some (.ref 12), some (.int y1), some (.int y2)] [.int (y2 - (s.b s.now 9)), .ref 12] _ _
      refine l21s h13 cs_12 hi_66_78 (fun _ _ => rfl) fun S14 h15 => ?_
      refine l18 hi_66_81 ?_
      refine l35 hi_66_99 ⟨rfl, ?_⟩
      unfold c66_30; rw [if_pos cn3]; rw [if_neg cn4]; exact h15
  · refine l12f hi_66_34 (decide_eq_false cn3) ?_
    refine l2 (v := 12) hi_66_37 rfl ?_
    refine l0 hi_66_38 ?_
    refine l21s h2 cs_12 hi_66_40 (fun _ _ => rfl) fun S16 h17 => ?_
    refine l2 (v := 12) hi_66_43 rfl ?_
    refine l1 (v := y1) hi_66_44 rfl ?_
    refine l21s h17 cs_12 hi_66_45 (fun _ _ => rfl) fun S18 h19 => ?_
    refine l18 hi_66_48 ?_
    refine l35 hi_66_99 ⟨rfl, ?_⟩
    unfold c66_30; rw [if_neg cn3]; exact h19
noncomputable def c66_29 (s : cS) (y1 : Int32) (y2 : Int32) : cS × Int32 := c66_30 s y1 y2 0
theorem lc66_29 {sc : Nat × (Nat → Int32)} {N d : Nat} {A : Nat → Nat} {K : Nat} {S : am_S} {s : cS} {y1 : Int32} {y2 : Int32} (hS : CM A K S s) : am_L (am_PP sc) N d 66 29 [some (.ref 12), some (.int y1), some (.int y2)] [.ref 12] S (fun o S1 => o = some none ∧ CM A K S1 (c66_29 s y1 y2).1) := by
  refine l0 hi_66_29 ?_
  refine am_L.mono (lc66_30 hS ) ?_
  rintro o S1 ⟨e, h⟩
  have q : c66_29 s y1 y2 = c66_30 s y1 y2 0 := rfl
  rw [q]; exact ⟨e, h⟩
noncomputable def c66 (s : cS) (x1 : Int32) : cS × Int32 := if (c67 s x1) < 0 then c66_29 s x1 (c67 s x1) else if ((tg s (.s 14) (c67 s x1) 1) &&& 2) = 0 then c66_29 s x1 (c67 s x1) else c66_30 s x1 (c67 s x1) 1
theorem lc66 {sc : Nat × (Nat → Int32)} {N d : Nat} {A : Nat → Nat} {K : Nat} {S : am_S} {s : cS} {x1 : Int32} (hS : CM A K S s) : am_L (am_PP sc) N d 66 0 [some (.ref 12), some (.int x1), none] [] S (fun o S1 => o = some none ∧ CM A K S1 (c66 s x1).1) := by
  refine l2 (v := 12) hi_66_0 rfl ?_
  refine l1 (v := x1) hi_66_1 rfl ?_
  refine l32 (as := [.ref 12, .int x1]) (la := [some (.ref 12), some (.int x1), none]) (rest := []) hi_66_2 (am_hd0 (M := 66) (by decide) 2) rfl rfl rfl (fun N' d' _ => lc67 (N := N') (d := d') hS ) ?_ (fun _ q => nomatch q.1)
  rintro v3 S1 ⟨ev3, h2⟩
  cases ev3
  show am_L _ _ _ _ _ [some (.ref 12), some (.int x1), none] [.int (c67 s x1)] _ _
  refine l3 (ls' := [some (.ref 12), some (.int x1), some (.int (c67 s x1))]) hi_66_5 (Nat.le_of_ble_eq_true rfl) rfl ?_
  refine l2 (v := 12) hi_66_6 rfl ?_
  refine l1 (v := c67 s x1) hi_66_7 rfl ?_
  by_cases cn4 : (c67 s x1) < 0
  · refine l12t hi_66_8 (decide_eq_true cn4) ?_
    refine am_L.mono (lc66_29 h2 ) ?_
    rintro o S1 ⟨e, h⟩
    have q : c66 s x1 = c66_29 s x1 (c67 s x1) := by unfold c66; rw [if_pos cn4]
    rw [q]; exact ⟨e, h⟩
  · refine l12f hi_66_8 (decide_eq_false cn4) ?_
    refine l2 (v := 12) hi_66_11 rfl ?_
    refine l20s (v := .ref 14) h2 cs_12 hi_66_12 rfl ?_
    refine l1 (v := c67 s x1) hi_66_15 rfl ?_
    refine l0 hi_66_16 ?_
    refine l32 (as := [.ref 14, .int (c67 s x1), .int 1]) (la := [some (.ref 14), some (.int (c67 s x1)), some (.int 1)]) (rest := [.ref 12]) hi_66_17 (am_hd0 (M := 66) (by decide) 17) rfl rfl rfl (fun N' d' _ => lc54 (N := N') (d := d') (t := (.s 14)) h2 ct_14) ?_ (fun _ q => nomatch q.1)
    rintro v7 S5 ⟨ev7, h6⟩
    cases ev7
    show am_L _ _ _ _ _ [some (.ref 12), some (.int x1), some (.int (c67 s x1))] [.int (tg s (.s 14) (c67 s x1) 1), .ref 12] _ _
    refine l0 hi_66_20 ?_
    refine l10 hi_66_21 ?_
    show am_L _ _ _ _ _ [some (.ref 12), some (.int x1), some (.int (c67 s x1))] [.int ((tg s (.s 14) (c67 s x1) 1) &&& 2), .ref 12] _ _
    by_cases cn8 : ((tg s (.s 14) (c67 s x1) 1) &&& 2) = 0
    · refine l12t hi_66_22 (decide_eq_true cn8) ?_
      refine am_L.mono (lc66_29 h6 ) ?_
      rintro o S1 ⟨e, h⟩
      have q : c66 s x1 = c66_29 s x1 (c67 s x1) := by unfold c66; rw [if_neg cn4]; rw [if_pos cn8]
      rw [q]; exact ⟨e, h⟩
    · refine l12f hi_66_22 (decide_eq_false cn8) ?_
      refine l0 hi_66_25 ?_
      refine l18 hi_66_26 ?_
      refine am_L.mono (lc66_30 h6 ) ?_
      rintro o S1 ⟨e, h⟩
      have q : c66 s x1 = c66_30 s x1 (c67 s x1) 1 := by unfold c66; rw [if_neg cn4]; rw [if_neg cn8]
      rw [q]; exact ⟨e, h⟩
noncomputable def c62 (s : cS) : cS × Option Int32 := cbd (c64 (nf s 7 6 (c63 s)) 1) (fun _ w9 => ((c66 ((c64 (nf s 7 6 (c63 s)) 1).1) w9).1, some 1))
theorem lc62 {sc : Nat × (Nat → Int32)} {N d : Nat} {A : Nat → Nat} {K : Nat} {S : am_S} {s : cS} (hS : CM A K S s) : am_L (am_PP sc) N d 62 0 [some (.ref 7)] [] S (fun o S1 => o = cov (c62 s).2 ∧ CM A K S1 (c62 s).1) := by
  refine l2 (v := 7) hi_62_0 rfl ?_
  refine l2 (v := 7) hi_62_1 rfl ?_
  refine l20s (v := .ref 2) hS cs_7 hi_62_2 rfl ?_
  refine l32 (as := [.ref 2]) (la := [some (.ref 2)]) (rest := [.ref 7]) hi_62_5 (am_hd0 (M := 62) (by decide) 5) rfl rfl rfl (fun N' d' _ => lc63 (N := N') (d := d') hS ) ?_ (fun _ q => nomatch q.1)
  rintro v3 S1 ⟨ev3, h2⟩
  cases ev3
  show am_L _ _ _ _ _ [some (.ref 7)] [.int (c63 s), .ref 7] _ _
  refine l21s h2 cs_7 hi_62_8 (fun _ _ => rfl) fun S4 h5 => ?_
  refine l2 (v := 7) hi_62_11 rfl ?_
  refine l20s (v := .ref 12) h5 cs_7 hi_62_12 rfl ?_
  refine l2 (v := 7) hi_62_15 rfl ?_
  refine l20s (v := .ref 2) h5 cs_7 hi_62_16 rfl ?_
  refine l0 hi_62_19 ?_
  refine l32 (as := [.ref 2, .int 1]) (la := [some (.ref 2), some (.int 1)]) (rest := [.ref 12]) hi_62_20 (am_hd0 (M := 62) (by decide) 20) rfl rfl rfl (fun N' d' hN_ => lc64 (N := N') (d := d') h5 ) ?_ ?_
  · rintro v8 S6 ⟨ev, h7⟩
    obtain ⟨w9, e10, rfl⟩ := cov_some ev
    show am_L _ _ _ _ _ [some (.ref 7)] [.int w9, .ref 12] _ _
    refine l32 (as := [.ref 12, .int w9]) (la := [some (.ref 12), some (.int w9), none]) (rest := []) hi_62_23 (am_hd0 (M := 62) (by decide) 23) rfl rfl rfl (fun N' d' _ => lc66 (N := N') (d := d') h7 ) ?_ (fun _ q => nomatch q.1)
    rintro v14 S12 ⟨ev14, h13⟩
    cases ev14
    show am_L _ _ _ _ _ [some (.ref 7)] [] _ _
    refine l0 hi_62_26 ?_
    have e_ : c62 s = ((c66 ((c64 (nf s 7 6 (c63 s)) 1).1) w9).1, some 1) := by unfold c62; rw [cbd_some e10]
    refine l33 hi_62_27 ⟨?_, ?_⟩
    · rw [e_]; rfl
    · rw [e_]; exact h13
  · rintro S6 ⟨q1, q2⟩
    have hn := cov_none q1
    have e_ : c62 s = (c64 (nf s 7 6 (c63 s)) 1) := by unfold c62; rw [cbd_none hn]
    rw [e_]
    exact ⟨by rw [hn]; rfl, q2⟩
def c72 (s : cS) (x0 : Int32) : Int32 := if x0 = 24 then 1 else if x0 = 46 then 1 else if x0 = 41 then 1 else if x0 ≠ 48 then 0 else 1
theorem lc72 {sc : Nat × (Nat → Int32)} {N d : Nat} {A : Nat → Nat} {K : Nat} {S : am_S} {s : cS} {x0 : Int32} (hS : CM A K S s) : am_L (am_PP sc) N d 72 0 [some (.int x0)] [] S (fun o S1 => o = some (some (.int (c72 s x0))) ∧ CM A K S1 s) := by
  refine l1 (v := x0) hi_72_0 rfl ?_
  refine l0 hi_72_1 ?_
  by_cases cn1 : x0 = 24
  · refine l13t hi_72_3 (decide_eq_true cn1) ?_
    refine l0 hi_72_24 ?_
    refine l18 hi_72_25 ?_
    refine l36 hi_72_29 fun _ => ⟨?_, ?_⟩
    · unfold c72; rw [if_pos cn1]
    · exact hS
  · refine l13f hi_72_3 (decide_eq_false cn1) ?_
    refine l1 (v := x0) hi_72_6 rfl ?_
    refine l0 hi_72_7 ?_
    by_cases cn2 : x0 = 46
    · refine l13t hi_72_9 (decide_eq_true cn2) ?_
      refine l0 hi_72_24 ?_
      refine l18 hi_72_25 ?_
      refine l36 hi_72_29 fun _ => ⟨?_, ?_⟩
      · unfold c72; rw [if_neg cn1]; rw [if_pos cn2]
      · exact hS
    · refine l13f hi_72_9 (decide_eq_false cn2) ?_
      refine l1 (v := x0) hi_72_12 rfl ?_
      refine l0 hi_72_13 ?_
      by_cases cn3 : x0 = 41
      · refine l13t hi_72_15 (decide_eq_true cn3) ?_
        refine l0 hi_72_24 ?_
        refine l18 hi_72_25 ?_
        refine l36 hi_72_29 fun _ => ⟨?_, ?_⟩
        · unfold c72; rw [if_neg cn1]; rw [if_neg cn2]; rw [if_pos cn3]
        · exact hS
      · refine l13f hi_72_15 (decide_eq_false cn3) ?_
        refine l1 (v := x0) hi_72_18 rfl ?_
        refine l0 hi_72_19 ?_
        by_cases cn4 : x0 ≠ 48
        · refine l13t hi_72_21 (decide_eq_true cn4) ?_
          refine l0 hi_72_28 ?_
          refine l36 hi_72_29 fun _ => ⟨?_, ?_⟩
          · unfold c72; rw [if_neg cn1]; rw [if_neg cn2]; rw [if_neg cn3]; rw [if_pos cn4]
          · exact hS
        · refine l13f hi_72_21 (decide_eq_false cn4) ?_
          refine l0 hi_72_24 ?_
          refine l18 hi_72_25 ?_
          refine l36 hi_72_29 fun _ => ⟨?_, ?_⟩
          · unfold c72; rw [if_neg cn1]; rw [if_neg cn2]; rw [if_neg cn3]; rw [if_neg cn4]
          · exact hS
def c75 (s : cS) : Int32 := (s.r (.s 14)) - (s.b s.now 9)
theorem lc75 {sc : Nat × (Nat → Int32)} {N d : Nat} {A : Nat → Nat} {K : Nat} {S : am_S} {s : cS} (hS : CM A K S s) : am_L (am_PP sc) N d 75 0 [some (.ref 12)] [] S (fun o S1 => o = some (some (.int (c75 s))) ∧ CM A K S1 s) := by
  refine l2 (v := 12) hi_75_0 rfl ?_
  refine l20s (v := .ref 14) hS cs_12 hi_75_1 rfl ?_
  refine l32 (as := [.ref 14]) (la := [some (.ref 14)]) (rest := []) hi_75_4 (am_hd0 (M := 75) (by decide) 4) rfl rfl rfl (fun N' d' _ => lc36 (N := N') (d := d') (t := (.s 14)) hS ct_14) ?_ (fun _ q => nomatch q.1)
  rintro v3 S1 ⟨ev3, h2⟩
  cases ev3
  show am_L _ _ _ _ _ [some (.ref 12)] [.int (s.r (.s 14))] _ _
  refine l2 (v := 12) hi_75_7 rfl ?_
  refine l20s (v := .ref (A s.now)) h2 cs_12 hi_75_8 rfl ?_
  refine l20b (v := .int (s.b s.now 9)) h2 (show s.now ≤ K from CM.nl (s := s) h2) hi_75_11 rfl ?_
  refine l10 hi_75_14 ?_
  show am_L _ _ _ _ _ [some (.ref 12)] [.int ((s.r (.s 14)) - (s.b s.now 9))] _ _
  refine l33 hi_75_15 ⟨?_, ?_⟩
  · rfl
  · exact h2
def c76_15 (s : cS) (y1 : Int32) (y2 : Int32) : cS × Int32 := (nf (nf s 1 0 y1) 1 1 y2, 0)
theorem lc76_15 {sc : Nat × (Nat → Int32)} {N d : Nat} {A : Nat → Nat} {K : Nat} {S : am_S} {s : cS} {y1 : Int32} {y2 : Int32} (hS : CM A K S s) : am_L (am_PP sc) N d 76 15 [some (.ref 1), some (.int y1), some (.int y2)] [] S (fun o S1 => o = some none ∧ CM A K S1 (c76_15 s y1 y2).1) := by
  refine l2 (v := 1) hi_76_15 rfl ?_
  refine l1 (v := y1) hi_76_16 rfl ?_
  refine l21s hS cs_1 hi_76_17 (fun _ _ => rfl) fun S1 h2 => ?_
  refine l2 (v := 1) hi_76_20 rfl ?_
  refine l1 (v := y2) hi_76_21 rfl ?_
  refine l21s h2 cs_1 hi_76_22 (fun _ _ => rfl) fun S3 h4 => ?_
  refine l35 hi_76_25 ⟨rfl, ?_⟩
  exact h4
def c76 (s : cS) (x1 : Int32) (x2 : Int32) : cS × Int32 := if (s.f 1 0) = 0 then c76_15 s x1 x2 else if (s.f 1 1) ≤ x2 then (s, 0) else c76_15 s x1 x2
theorem lc76 {sc : Nat × (Nat → Int32)} {N d : Nat} {A : Nat → Nat} {K : Nat} {S : am_S} {s : cS} {x1 : Int32} {x2 : Int32} (hS : CM A K S s) : am_L (am_PP sc) N d 76 0 [some (.ref 1), some (.int x1), some (.int x2)] [] S (fun o S1 => o = some none ∧ CM A K S1 (c76 s x1 x2).1) := by
  refine l2 (v := 1) hi_76_0 rfl ?_
  refine l20s (v := .int (s.f 1 0)) hS cs_1 hi_76_1 rfl ?_
  by_cases cn1 : (s.f 1 0) = 0
  · refine l12t hi_76_4 (decide_eq_true cn1) ?_
    refine am_L.mono (lc76_15 hS ) ?_
    rintro o S1 ⟨e, h⟩
    have q : c76 s x1 x2 = c76_15 s x1 x2 := by unfold c76; rw [if_pos cn1]
    rw [q]; exact ⟨e, h⟩
  · refine l12f hi_76_4 (decide_eq_false cn1) ?_
    refine l1 (v := x2) hi_76_7 rfl ?_
    refine l2 (v := 1) hi_76_8 rfl ?_
    refine l20s (v := .int (s.f 1 1)) hS cs_1 hi_76_9 rfl ?_
    by_cases cn2 : (s.f 1 1) ≤ x2
    · refine l13t hi_76_12 (decide_eq_true cn2) ?_
      refine l35 hi_76_25 ⟨rfl, ?_⟩
      unfold c76; rw [if_neg cn1]; rw [if_pos cn2]; exact hS
    · refine l13f hi_76_12 (decide_eq_false cn2) ?_
      refine am_L.mono (lc76_15 hS ) ?_
      rintro o S1 ⟨e, h⟩
      have q : c76 s x1 x2 = c76_15 s x1 x2 := by unfold c76; rw [if_neg cn1]; rw [if_neg cn2]
      rw [q]; exact ⟨e, h⟩
def c74_31 (s : cS) (z0 : Int32) : cS × Int32 := (nb s s.now 7 (if (s.b s.now 7) < (c75 s) then (c75 s) else (s.b s.now 7)), 0)
theorem lc74_31 {sc : Nat × (Nat → Int32)} {N d : Nat} {A : Nat → Nat} {K : Nat} {S : am_S} {s : cS} {z0 : Int32} {o1 : Option Value} {o2 : Option Value} {o3 : Option Value} (hS : CM A K S s) : am_L (am_PP sc) N d 74 31 [some (.ref 12), o1, o2, o3] [.int z0] S (fun o S1 => o = some none ∧ CM A K S1 (c74_31 s z0).1) := by
  refine l6i hi_74_31 ?_
  refine l2 (v := 12) hi_74_32 rfl ?_
  refine l20s (v := .ref (A s.now)) hS cs_12 hi_74_33 rfl ?_
  refine l2 (v := 12) hi_74_36 rfl ?_
  refine l20s (v := .ref (A s.now)) hS cs_12 hi_74_37 rfl ?_
  refine l20b (v := .int (s.b s.now 7)) hS (show s.now ≤ K from CM.nl (s := s) hS) hi_74_40 rfl ?_
  refine l2 (v := 12) hi_74_43 rfl ?_
  refine l32 (as := [.ref 12]) (la := [some (.ref 12)]) (rest := [.int (s.b s.now 7), .ref (A s.now)]) hi_74_44 (am_hd0 (M := 74) (by decide) 44) rfl rfl rfl (fun N' d' _ => lc75 (N := N') (d := d') hS ) ?_ (fun _ q => nomatch q.1)
  rintro v3 S1 ⟨ev3, h2⟩
  cases ev3
  show am_L _ _ _ _ _ [some (.ref 12), o1, o2, o3] [.int (c75 s), .int (s.b s.now 7), .ref (A s.now)] _ _
  refine l32 (as := [.int (s.b s.now 7), .int (c75 s)]) (la := [some (.int (s.b s.now 7)), some (.int (c75 s))]) (rest := [.ref (A s.now)]) hi_74_47 (am_hd0 (M := 74) (by decide) 47) rfl rfl rfl (fun N' d' _ => lc20 (N := N') (d := d')) ?_ (fun _ q => nomatch q.2)
  rintro v6 S4 ⟨eS, ev6⟩
  rw [eS]
  cases ev6
  show am_L _ _ _ _ _ [some (.ref 12), o1, o2, o3] [.int (if (s.b s.now 7) < (c75 s) then (c75 s) else (s.b s.now 7)), .ref (A s.now)] _ _
  refine l21b h2 (show s.now ≤ K from CM.nl (s := s) hS) hi_74_50 (fun _ _ => rfl) fun S7 h8 => ?_
  refine l35 hi_74_53 ⟨rfl, ?_⟩
  exact h8
def c74_20 (s : cS) (y1 : Int32) (y2 : Int32) : cS × Int32 := c74_31 ((tad s (.s 14) y1 y2 0 0).1) ((tad s (.s 14) y1 y2 0 0).2)
theorem lc74_20 {sc : Nat × (Nat → Int32)} {N d : Nat} {A : Nat → Nat} {K : Nat} {S : am_S} {s : cS} {y1 : Int32} {y2 : Int32} {o3 : Option Value} (hS : CM A K S s) : am_L (am_PP sc) N d 74 20 [some (.ref 12), some (.int y1), some (.int y2), o3] [] S (fun o S1 => o = some none ∧ CM A K S1 (c74_20 s y1 y2).1) := by
  refine l2 (v := 12) hi_74_20 rfl ?_
  refine l20s (v := .ref 14) hS cs_12 hi_74_21 rfl ?_
  refine l1 (v := y1) hi_74_24 rfl ?_
  refine l1 (v := y2) hi_74_25 rfl ?_
  refine l0 hi_74_26 ?_
  refine l0 hi_74_27 ?_
  refine l32 (as := [.ref 14, .int y1, .int y2, .int 0, .int 0]) (la := [some (.ref 14), some (.int y1), some (.int y2), some (.int 0), some (.int 0), none]) (rest := []) hi_74_28 (am_hd0 (M := 74) (by decide) 28) rfl rfl rfl (fun N' d' _ => lc31 (N := N') (d := d') (t := (.s 14)) hS ct_14) ?_ (fun _ q => nomatch q.1)
  rintro v3 S1 ⟨ev3, h2⟩
  cases ev3
  show am_L _ _ _ _ _ [some (.ref 12), some (.int y1), some (.int y2), o3] [.int ((tad s (.s 14) y1 y2 0 0).2)] _ _
  refine am_L.mono (lc74_31 h2 ) ?_
  rintro o S1 ⟨e, h⟩
  have q : c74_20 s y1 y2 = c74_31 ((tad s (.s 14) y1 y2 0 0).1) ((tad s (.s 14) y1 y2 0 0).2) := rfl
  rw [q]; exact ⟨e, h⟩
def c74 (s : cS) (x1 : Int32) (x2 : Int32) (x3 : Int32) : cS × Int32 := if (c75 s) < 200 then c74_20 s x1 x2 else c74_20 ((c76 s 16 x3).1) x1 x2
theorem lc74 {sc : Nat × (Nat → Int32)} {N d : Nat} {A : Nat → Nat} {K : Nat} {S : am_S} {s : cS} {x1 : Int32} {x2 : Int32} {x3 : Int32} (hS : CM A K S s) : am_L (am_PP sc) N d 74 0 [some (.ref 12), some (.int x1), some (.int x2), some (.int x3)] [] S (fun o S1 => o = some none ∧ CM A K S1 (c74 s x1 x2 x3).1) := by
  refine l2 (v := 12) hi_74_0 rfl ?_
  refine l32 (as := [.ref 12]) (la := [some (.ref 12)]) (rest := []) hi_74_1 (am_hd0 (M := 74) (by decide) 1) rfl rfl rfl (fun N' d' _ => lc75 (N := N') (d := d') hS ) ?_ (fun _ q => nomatch q.1)
  rintro v3 S1 ⟨ev3, h2⟩
  cases ev3
  show am_L _ _ _ _ _ [some (.ref 12), some (.int x1), some (.int x2), some (.int x3)] [.int (c75 s)] _ _
  refine l0 hi_74_4 ?_
  by_cases cn4 : (c75 s) < 200
  · refine l13t hi_74_7 (decide_eq_true cn4) ?_
    refine am_L.mono (lc74_20 h2 ) ?_
    rintro o S1 ⟨e, h⟩
    have q : c74 s x1 x2 x3 = c74_20 s x1 x2 := by unfold c74; rw [if_pos cn4]
    rw [q]; exact ⟨e, h⟩
  · refine l13f hi_74_7 (decide_eq_false cn4) ?_
    refine l2 (v := 12) hi_74_10 rfl ?_
    refine l20s (v := .ref 1) h2 cs_12 hi_74_11 rfl ?_
    refine l0 hi_74_14 ?_
    refine l1 (v := x3) hi_74_16 rfl ?_
    refine l32 (as := [.ref 1, .int 16, .int x3]) (la := [some (.ref 1), some (.int 16), some (.int x3)]) (rest := []) hi_74_17 (am_hd0 (M := 74) (by decide) 17) rfl rfl rfl (fun N' d' _ => lc76 (N := N') (d := d') h2 ) ?_ (fun _ q => nomatch q.1)
    rintro v7 S5 ⟨ev7, h6⟩
    cases ev7
    show am_L _ _ _ _ _ [some (.ref 12), some (.int x1), some (.int x2), some (.int x3)] [] _ _
    refine am_L.mono (lc74_20 h6 ) ?_
    rintro o S1 ⟨e, h⟩
    have q : c74 s x1 x2 x3 = c74_20 ((c76 s 16 x3).1) x1 x2 := by unfold c74; rw [if_neg cn4]
    rw [q]; exact ⟨e, h⟩
def c78 (s : cS) (x1 : Int32) (x2 : Int32) (x3 : Int32) (x4 : Int32) : cS × Int32 := ((tad s (.i s.now) x1 x2 x3 x4).1, (tad s (.i s.now) x1 x2 x3 x4).2)
theorem lc78 {sc : Nat × (Nat → Int32)} {N d : Nat} {A : Nat → Nat} {K : Nat} {S : am_S} {s : cS} {x1 : Int32} {x2 : Int32} {x3 : Int32} {x4 : Int32} (hS : CM A K S s) : am_L (am_PP sc) N d 78 0 [some (.ref 7), some (.int x1), some (.int x2), some (.int x3), some (.int x4)] [] S (fun o S1 => o = some (some (.int (c78 s x1 x2 x3 x4).2)) ∧ CM A K S1 (c78 s x1 x2 x3 x4).1) := by
  refine l2 (v := 7) hi_78_0 rfl ?_
  refine l20s (v := .ref 12) hS cs_7 hi_78_1 rfl ?_
  refine l32 (as := [.ref 12]) (la := [some (.ref 12)]) (rest := []) hi_78_4 (am_hd0 (M := 78) (by decide) 4) rfl rfl rfl (fun N' d' _ => lc79 (N := N') (d := d') hS) ?_ (fun _ q => nomatch q.1)
  rintro v3 S1 ⟨ev3, h2⟩
  cases ev3
  show am_L _ _ _ _ _ [some (.ref 7), some (.int x1), some (.int x2), some (.int x3), some (.int x4)] [.ref (A s.now)] _ _
  refine l20b (v := .ref (cTa A (.i s.now))) h2 (show s.now ≤ K from CM.nl (s := s) hS) hi_78_7 rfl ?_
  refine l1 (v := x1) hi_78_10 rfl ?_
  refine l1 (v := x2) hi_78_11 rfl ?_
  refine l1 (v := x3) hi_78_12 rfl ?_
  refine l1 (v := x4) hi_78_13 rfl ?_
  refine l32 (as := [.ref (cTa A (.i s.now)), .int x1, .int x2, .int x3, .int x4]) (la := [some (.ref (cTa A (.i s.now))), some (.int x1), some (.int x2), some (.int x3), some (.int x4), none]) (rest := []) hi_78_15 (am_hd0 (M := 78) (by decide) 15) rfl rfl rfl (fun N' d' _ => lc31 (N := N') (d := d') (t := (.i s.now)) h2 (show cTl _ (.i s.now) from (show s.now ≤ K from CM.nl (s := s) hS))) ?_ (fun _ q => nomatch q.1)
  rintro v6 S4 ⟨ev6, h5⟩
  cases ev6
  show am_L _ _ _ _ _ [some (.ref 7), some (.int x1), some (.int x2), some (.int x3), some (.int x4)] [.int ((tad s (.i s.now) x1 x2 x3 x4).2)] _ _
  refine l33 hi_78_18 ⟨?_, ?_⟩
  · rfl
  · exact h5
def c82 (s : cS) : Int32 := (tg s (.s 16) ((s.r (.s 16)) - 1) 0) - (s.b s.now 9)
theorem lc82 {sc : Nat × (Nat → Int32)} {N d : Nat} {A : Nat → Nat} {K : Nat} {S : am_S} {s : cS} (hS : CM A K S s) : am_L (am_PP sc) N d 82 0 [some (.ref 12)] [] S (fun o S1 => o = some (some (.int (c82 s))) ∧ CM A K S1 s) := by
  refine l2 (v := 12) hi_82_0 rfl ?_
  refine l20s (v := .ref 16) hS cs_12 hi_82_1 rfl ?_
  refine l2 (v := 12) hi_82_4 rfl ?_
  refine l20s (v := .ref 16) hS cs_12 hi_82_5 rfl ?_
  refine l32 (as := [.ref 16]) (la := [some (.ref 16)]) (rest := [.ref 16]) hi_82_8 (am_hd0 (M := 82) (by decide) 8) rfl rfl rfl (fun N' d' _ => lc36 (N := N') (d := d') (t := (.s 16)) hS ct_16) ?_ (fun _ q => nomatch q.1)
  rintro v3 S1 ⟨ev3, h2⟩
  cases ev3
  show am_L _ _ _ _ _ [some (.ref 12)] [.int (s.r (.s 16)), .ref 16] _ _
  refine l0 hi_82_11 ?_
  refine l10 hi_82_12 ?_
  show am_L _ _ _ _ _ [some (.ref 12)] [.int ((s.r (.s 16)) - 1), .ref 16] _ _
  refine l0 hi_82_13 ?_
  refine l32 (as := [.ref 16, .int ((s.r (.s 16)) - 1), .int 0]) (la := [some (.ref 16), some (.int ((s.r (.s 16)) - 1)), some (.int 0)]) (rest := []) hi_82_14 (am_hd0 (M := 82) (by decide) 14) rfl rfl rfl (fun N' d' _ => lc54 (N := N') (d := d') (t := (.s 16)) h2 ct_16) ?_ (fun _ q => nomatch q.1)
  rintro v6 S4 ⟨ev6, h5⟩
  cases ev6
  show am_L _ _ _ _ _ [some (.ref 12)] [.int (tg s (.s 16) ((s.r (.s 16)) - 1) 0)] _ _
  refine l2 (v := 12) hi_82_17 rfl ?_
  refine l20s (v := .ref (A s.now)) h5 cs_12 hi_82_18 rfl ?_
  refine l20b (v := .int (s.b s.now 9)) h5 (show s.now ≤ K from CM.nl (s := s) h5) hi_82_21 rfl ?_
  refine l10 hi_82_24 ?_
  show am_L _ _ _ _ _ [some (.ref 12)] [.int ((tg s (.s 16) ((s.r (.s 16)) - 1) 0) - (s.b s.now 9))] _ _
  refine l33 hi_82_25 ⟨?_, ?_⟩
  · rfl
  · exact h5
def c84b2 (s : cS) (y1 : Int32) (t : Int32) : Nat × (Int32) := if (s.r (.s 24)) ≤ t then (2, t) else if (tg s (.s 24) t 0) ≠ y1 then (0, (t + 1)) else (1, t)
theorem lb84_2 {sc : Nat × (Nat → Int32)} {d : Nat} {A : Nat → Nat} {K : Nat} {s : cS} {y1 : Int32} {Q : Option (Option Value) → am_S → Prop} : ∀ (N : Nat) (S : am_S) (o2 : Option Value) (t : Int32), CM A K S s → (∀ m S1 (p2 : Option Value), (kwh (c84b2 s y1) m t).1 = 1 → CM A K S1 s → am_L (am_PP sc) N d 84 26 [some (.ref 23), some (.int y1), p2, some (.int ((kwh (c84b2 s y1) m t).2))] [] S1 Q) → (∀ m S1 (p2 : Option Value), (kwh (c84b2 s y1) m t).1 = 2 → CM A K S1 s → am_L (am_PP sc) N d 84 34 [some (.ref 23), some (.int y1), p2, some (.int ((kwh (c84b2 s y1) m t).2))] [] S1 Q) → am_L (am_PP sc) N d 84 2 [some (.ref 23), some (.int y1), o2, some (.int t)] [] S Q := by
  intro N
  induction N with
  | zero => intros; exact l_zero
  | succ N ih =>
    intro S o2 t hS kx26 kx34
    refine l1d (v := t) hi_84_2 rfl ?_
    refine l2 (v := 23) hi_84_3 rfl ?_
    refine l20s (v := .ref 24) hS cs_23 hi_84_4 rfl ?_
    refine l32 (as := [.ref 24]) (la := [some (.ref 24)]) (rest := [.int t]) hi_84_7 (am_hd0 (M := 84) (by decide) 7) rfl rfl rfl (fun N' d' _ => lc36 (N := N') (d := d') (t := (.s 24)) hS ct_24) ?_ (fun _ q => nomatch q.1)
    rintro v3 S1 ⟨ev3, h2⟩
    cases ev3
    show am_L _ _ _ _ _ [some (.ref 23), some (.int y1), o2, some (.int t)] [.int (s.r (.s 24)), .int t] _ _
    by_cases cn4 : (s.r (.s 24)) ≤ t
    · refine l13t hi_84_10 (decide_eq_true cn4) ?_
      have e0 : (c84b2 s y1) t = (2, t) := by unfold c84b2; rw [if_pos cn4]
      have e1 : kwh (c84b2 s y1) 1 t = (2, t) := by rw [kwh_out (by rw [e0]; exact Nat.succ_ne_zero _), e0]
      have q := kx34 1 _ o2 (by rw [e1]) (by exact h2)
      try rw [e1] at q
      exact q.less (Nat.le_succ N)
    · refine l13f hi_84_10 (decide_eq_false cn4) ?_
      refine l2 (v := 23) hi_84_13 rfl ?_
      refine l20s (v := .ref 24) h2 cs_23 hi_84_14 rfl ?_
      refine l1 (v := t) hi_84_17 rfl ?_
      refine l0 hi_84_18 ?_
      refine l32 (as := [.ref 24, .int t, .int 0]) (la := [some (.ref 24), some (.int t), some (.int 0)]) (rest := []) hi_84_19 (am_hd0 (M := 84) (by decide) 19) rfl rfl rfl (fun N' d' _ => lc54 (N := N') (d := d') (t := (.s 24)) h2 ct_24) ?_ (fun _ q => nomatch q.1)
      rintro v7 S5 ⟨ev7, h6⟩
      cases ev7
      show am_L _ _ _ _ _ [some (.ref 23), some (.int y1), o2, some (.int t)] [.int (tg s (.s 24) t 0)] _ _
      refine l1 (v := y1) hi_84_22 rfl ?_
      by_cases cn8 : (tg s (.s 24) t 0) ≠ y1
      · refine l13t hi_84_23 (decide_eq_true cn8) ?_
        refine l5 (v := t) (ls' := [some (.ref 23), some (.int y1), o2, some (.int (t + 1))]) hi_84_28 rfl rfl ?_
        refine l18 hi_84_31 ?_
        have e0 : (c84b2 s y1) t = (0, (t + 1)) := by unfold c84b2; rw [if_neg cn4]; rw [if_pos cn8]
        have e1 : ∀ m, kwh (c84b2 s y1) (m + 1) t = kwh (c84b2 s y1) m (t + 1) := fun m => by rw [kwh_go (by rw [e0]), e0]
        exact ih _ o2 (t + 1) h6 (fun m S1 p2 hm h1 => by have q := kx26 (m + 1) S1 p2 (by rw [e1]; exact hm) (by exact h1); (try rw [e1] at q); exact q.less (Nat.le_succ N)) (fun m S1 p2 hm h1 => by have q := kx34 (m + 1) S1 p2 (by rw [e1]; exact hm) (by exact h1); (try rw [e1] at q); exact q.less (Nat.le_succ N))
      · refine l13f hi_84_23 (decide_eq_false cn8) ?_
        have e0 : (c84b2 s y1) t = (1, t) := by unfold c84b2; rw [if_neg cn4]; rw [if_neg cn8]
        have e1 : kwh (c84b2 s y1) 1 t = (1, t) := by rw [kwh_out (by rw [e0]; exact Nat.succ_ne_zero _), e0]
        have q := kx26 1 _ o2 (by rw [e1]) (by exact h6)
        try rw [e1] at q
        exact q.less (Nat.le_succ N)
noncomputable def c84 (s : cS) (x1 : Int32) (x2 : Int32) : Int32 := if (kfin (c84b2 s x1) x2).1 = 1 then (kfin (c84b2 s x1) x2).2 else (-1)
theorem lc84 {sc : Nat × (Nat → Int32)} {N d : Nat} {A : Nat → Nat} {K : Nat} {S : am_S} {s : cS} {x1 : Int32} {x2 : Int32} (hS : CM A K S s) : am_L (am_PP sc) N d 84 0 [some (.ref 23), some (.int x1), some (.int x2), none] [] S (fun o S1 => o = some (some (.int (c84 s x1 x2))) ∧ CM A K S1 s) := by
  refine l1 (v := x2) hi_84_0 rfl ?_
  refine l3 (ls' := [some (.ref 23), some (.int x1), some (.int x2), some (.int x2)]) hi_84_1 (Nat.le_of_ble_eq_true rfl) rfl ?_
  refine lb84_2  N _ (some (.int x2)) x2 hS ?_ ?_
  · intro m1 S2 p6 hm3 h4
    have hf5 : kfin (c84b2 s x1) x2 = kwh (c84b2 s x1) m1 x2 := kfin_eq (by rw [hm3]; decide)
    rw [← hf5] at hm3
    try rw [← hf5]
    refine l1 (v := (kfin (c84b2 s x1) x2).2) hi_84_26 rfl ?_
    refine l33 hi_84_27 ⟨?_, ?_⟩
    · unfold c84; rw [if_pos hm3]
    · exact h4
  · intro m7 S8 p12 hm9 h10
    have hf11 : kfin (c84b2 s x1) x2 = kwh (c84b2 s x1) m7 x2 := kfin_eq (by rw [hm9]; decide)
    rw [← hf11] at hm9
    try rw [← hf11]
    have cn13 : ¬ (kfin (c84b2 s x1) x2).1 = 1 := by rw [hm9]; decide
    refine l0 hi_84_34 ?_
    refine l33 hi_84_35 ⟨?_, ?_⟩
    · unfold c84; rw [if_neg cn13]
    · exact h10
def c85_51 (s : cS) (y2 : Int32) (y3 : Int32) : cS × Int32 := if (tg s (.s 24) y3 2) ≤ (tg s (.s 26) y2 3) then (s, 0) else if (tg s (.s 24) y3 3) ≠ 0 then (s, 0) else ((c76 s 14 (tg s (.s 26) y2 1)).1, 0)
theorem lc85_51 {sc : Nat × (Nat → Int32)} {N d : Nat} {A : Nat → Nat} {K : Nat} {S : am_S} {s : cS} {y2 : Int32} {y3 : Int32} {o1 : Option Value} {o4 : Option Value} (hS : CM A K S s) : am_L (am_PP sc) N d 85 51 [some (.ref 23), o1, some (.int y2), some (.int y3), o4] [] S (fun o S1 => o = some none ∧ CM A K S1 (c85_51 s y2 y3).1) := by
  refine l2 (v := 23) hi_85_51 rfl ?_
  refine l20s (v := .ref 24) hS cs_23 hi_85_52 rfl ?_
  refine l1 (v := y3) hi_85_55 rfl ?_
  refine l0 hi_85_56 ?_
  refine l32 (as := [.ref 24, .int y3, .int 2]) (la := [some (.ref 24), some (.int y3), some (.int 2)]) (rest := []) hi_85_57 (am_hd0 (M := 85) (by decide) 57) rfl rfl rfl (fun N' d' _ => lc54 (N := N') (d := d') (t := (.s 24)) hS ct_24) ?_ (fun _ q => nomatch q.1)
  rintro v3 S1 ⟨ev3, h2⟩
  cases ev3
  show am_L _ _ _ _ _ [some (.ref 23), o1, some (.int y2), some (.int y3), o4] [.int (tg s (.s 24) y3 2)] _ _
  refine l2 (v := 23) hi_85_60 rfl ?_
  refine l20s (v := .ref 26) h2 cs_23 hi_85_61 rfl ?_
  refine l1 (v := y2) hi_85_64 rfl ?_
  refine l0 hi_85_65 ?_
  refine l32 (as := [.ref 26, .int y2, .int 3]) (la := [some (.ref 26), some (.int y2), some (.int 3)]) (rest := [.int (tg s (.s 24) y3 2)]) hi_85_66 (am_hd0 (M := 85) (by decide) 66) rfl rfl rfl (fun N' d' _ => lc54 (N := N') (d := d') (t := (.s 26)) h2 ct_26) ?_ (fun _ q => nomatch q.1)
  rintro v6 S4 ⟨ev6, h5⟩
  cases ev6
  show am_L _ _ _ _ _ [some (.ref 23), o1, some (.int y2), some (.int y3), o4] [.int (tg s (.s 26) y2 3), .int (tg s (.s 24) y3 2)] _ _
  by_cases cn7 : (tg s (.s 24) y3 2) ≤ (tg s (.s 26) y2 3)
  · refine l13t hi_85_69 (decide_eq_true cn7) ?_
    refine l35 hi_85_102 ⟨rfl, ?_⟩
    unfold c85_51; rw [if_pos cn7]; exact h5
  · refine l13f hi_85_69 (decide_eq_false cn7) ?_
    refine l2 (v := 23) hi_85_72 rfl ?_
    refine l20s (v := .ref 24) h5 cs_23 hi_85_73 rfl ?_
    refine l1 (v := y3) hi_85_76 rfl ?_
    refine l0 hi_85_77 ?_
    refine l32 (as := [.ref 24, .int y3, .int 3]) (la := [some (.ref 24), some (.int y3), some (.int 3)]) (rest := []) hi_85_78 (am_hd0 (M := 85) (by decide) 78) rfl rfl rfl (fun N' d' _ => lc54 (N := N') (d := d') (t := (.s 24)) h5 ct_24) ?_ (fun _ q => nomatch q.1)
    rintro v10 S8 ⟨ev10, h9⟩
    cases ev10
    show am_L _ _ _ _ _ [some (.ref 23), o1, some (.int y2), some (.int y3), o4] [.int (tg s (.s 24) y3 3)] _ _
    by_cases cn11 : (tg s (.s 24) y3 3) ≠ 0
    · refine l12t hi_85_81 (decide_eq_true cn11) ?_
      refine l35 hi_85_102 ⟨rfl, ?_⟩
      unfold c85_51; rw [if_neg cn7]; rw [if_pos cn11]; exact h9
    · refine l12f hi_85_81 (decide_eq_false cn11) ?_
      refine l2 (v := 23) hi_85_84 rfl ?_
      refine l20s (v := .ref 1) h9 cs_23 hi_85_85 rfl ?_
      refine l0 hi_85_88 ?_
      refine l2 (v := 23) hi_85_90 rfl ?_
      refine l20s (v := .ref 26) h9 cs_23 hi_85_91 rfl ?_
      refine l1 (v := y2) hi_85_94 rfl ?_
      refine l0 hi_85_95 ?_
      refine l32 (as := [.ref 26, .int y2, .int 1]) (la := [some (.ref 26), some (.int y2), some (.int 1)]) (rest := [.int 14, .ref 1]) hi_85_96 (am_hd0 (M := 85) (by decide) 96) rfl rfl rfl (fun N' d' _ => lc54 (N := N') (d := d') (t := (.s 26)) h9 ct_26) ?_ (fun _ q => nomatch q.1)
      rintro v14 S12 ⟨ev14, h13⟩
      cases ev14
      show am_L _ _ _ _ _ [some (.ref 23), o1, some (.int y2), some (.int y3), o4] [.int (tg s (.s 26) y2 1), .int 14, .ref 1] _ _
      refine l32 (as := [.ref 1, .int 14, .int (tg s (.s 26) y2 1)]) (la := [some (.ref 1), some (.int 14), some (.int (tg s (.s 26) y2 1))]) (rest := []) hi_85_99 (am_hd0 (M := 85) (by decide) 99) rfl rfl rfl (fun N' d' _ => lc76 (N := N') (d := d') h13 ) ?_ (fun _ q => nomatch q.1)
      rintro v17 S15 ⟨ev17, h16⟩
      cases ev17
      show am_L _ _ _ _ _ [some (.ref 23), o1, some (.int y2), some (.int y3), o4] [] _ _
      refine l35 hi_85_102 ⟨rfl, ?_⟩
      unfold c85_51; rw [if_neg cn7]; rw [if_neg cn11]; exact h16
def c85_30 (s : cS) (y1 : Nat) (y2 : Int32) (y3 : Int32) (y4 : Int32) : cS × Int32 := c85_51 (ts s (.i y1) (y4 + 1) 1 (tg s (.s 24) y3 1)) y2 y3
theorem lc85_30 {sc : Nat × (Nat → Int32)} {N d : Nat} {A : Nat → Nat} {K : Nat} {S : am_S} {s : cS} {y1 : Nat} {y2 : Int32} {y3 : Int32} {y4 : Int32} (hS : CM A K S s) (hy1 : y1 ≤ K) : am_L (am_PP sc) N d 85 30 [some (.ref 23), some (.ref (A y1)), some (.int y2), some (.int y3), some (.int y4)] [] S (fun o S1 => o = some none ∧ CM A K S1 (c85_30 s y1 y2 y3 y4).1) := by
  refine l2 (v := (A y1)) hi_85_30 rfl ?_
  refine l20b (v := .ref (cTa A (.i y1))) hS hy1 hi_85_31 rfl ?_
  refine l1 (v := y4) hi_85_34 rfl ?_
  refine l0 hi_85_36 ?_
  refine l10 hi_85_37 ?_
  show am_L _ _ _ _ _ [some (.ref 23), some (.ref (A y1)), some (.int y2), some (.int y3), some (.int y4)] [.int (y4 + 1), .ref (cTa A (.i y1))] _ _
  refine l0 hi_85_38 ?_
  refine l2 (v := 23) hi_85_39 rfl ?_
  refine l20s (v := .ref 24) hS cs_23 hi_85_40 rfl ?_
  refine l1 (v := y3) hi_85_43 rfl ?_
  refine l0 hi_85_44 ?_
  refine l32 (as := [.ref 24, .int y3, .int 1]) (la := [some (.ref 24), some (.int y3), some (.int 1)]) (rest := [.int 1, .int (y4 + 1), .ref (cTa A (.i y1))]) hi_85_45 (am_hd0 (M := 85) (by decide) 45) rfl rfl rfl (fun N' d' _ => lc54 (N := N') (d := d') (t := (.s 24)) hS ct_24) ?_ (fun _ q => nomatch q.1)
  rintro v3 S1 ⟨ev3, h2⟩
  cases ev3
  show am_L _ _ _ _ _ [some (.ref 23), some (.ref (A y1)), some (.int y2), some (.int y3), some (.int y4)] [.int (tg s (.s 24) y3 1), .int 1, .int (y4 + 1), .ref (cTa A (.i y1))] _ _
  refine l32 (as := [.ref (cTa A (.i y1)), .int (y4 + 1), .int 1, .int (tg s (.s 24) y3 1)]) (la := [some (.ref (cTa A (.i y1))), some (.int (y4 + 1)), some (.int 1), some (.int (tg s (.s 24) y3 1))]) (rest := []) hi_85_48 (am_hd0 (M := 85) (by decide) 48) rfl rfl rfl (fun N' d' _ => lc86 (N := N') (d := d') (t := (.i y1)) h2 (show cTl _ (.i y1) from hy1)) ?_ (fun _ q => nomatch q.1)
  rintro v6 S4 ⟨ev6, h5⟩
  cases ev6
  show am_L _ _ _ _ _ [some (.ref 23), some (.ref (A y1)), some (.int y2), some (.int y3), some (.int y4)] [] _ _
  refine am_L.mono (lc85_51 h5 ) ?_
  rintro o S1 ⟨e, h⟩
  have q : c85_30 s y1 y2 y3 y4 = c85_51 (ts s (.i y1) (y4 + 1) 1 (tg s (.s 24) y3 1)) y2 y3 := rfl
  rw [q]; exact ⟨e, h⟩
def c85 (s : cS) (x1 : Nat) (x2 : Int32) (x3 : Int32) : cS × Int32 := c85_30 (ts s (.i x1) (tg s (.s 26) x2 2) 1 (tg s (.s 24) x3 2)) x1 x2 x3 (tg s (.s 26) x2 2)
theorem lc85 {sc : Nat × (Nat → Int32)} {N d : Nat} {A : Nat → Nat} {K : Nat} {S : am_S} {s : cS} {x1 : Nat} {x2 : Int32} {x3 : Int32} (hS : CM A K S s) (hx1 : x1 ≤ K) : am_L (am_PP sc) N d 85 0 [some (.ref 23), some (.ref (A x1)), some (.int x2), some (.int x3), none] [] S (fun o S1 => o = some none ∧ CM A K S1 (c85 s x1 x2 x3).1) := by
  refine l2 (v := 23) hi_85_0 rfl ?_
  refine l20s (v := .ref 26) hS cs_23 hi_85_1 rfl ?_
  refine l1 (v := x2) hi_85_4 rfl ?_
  refine l0 hi_85_5 ?_
  refine l32 (as := [.ref 26, .int x2, .int 2]) (la := [some (.ref 26), some (.int x2), some (.int 2)]) (rest := []) hi_85_6 (am_hd0 (M := 85) (by decide) 6) rfl rfl rfl (fun N' d' _ => lc54 (N := N') (d := d') (t := (.s 26)) hS ct_26) ?_ (fun _ q => nomatch q.1)
  rintro v3 S1 ⟨ev3, h2⟩
  cases ev3
  show am_L _ _ _ _ _ [some (.ref 23), some (.ref (A x1)), some (.int x2), some (.int x3), none] [.int (tg s (.s 26) x2 2)] _ _
  refine l3 (ls' := [some (.ref 23), some (.ref (A x1)), some (.int x2), some (.int x3), some (.int (tg s (.s 26) x2 2))]) hi_85_9 (Nat.le_of_ble_eq_true rfl) rfl ?_
  refine l2 (v := (A x1)) hi_85_11 rfl ?_
  refine l20b (v := .ref (cTa A (.i x1))) h2 hx1 hi_85_12 rfl ?_
  refine l1 (v := tg s (.s 26) x2 2) hi_85_15 rfl ?_
  refine l0 hi_85_17 ?_
  refine l2 (v := 23) hi_85_18 rfl ?_
  refine l20s (v := .ref 24) h2 cs_23 hi_85_19 rfl ?_
  refine l1 (v := x3) hi_85_22 rfl ?_
  refine l0 hi_85_23 ?_
  refine l32 (as := [.ref 24, .int x3, .int 2]) (la := [some (.ref 24), some (.int x3), some (.int 2)]) (rest := [.int 1, .int (tg s (.s 26) x2 2), .ref (cTa A (.i x1))]) hi_85_24 (am_hd0 (M := 85) (by decide) 24) rfl rfl rfl (fun N' d' _ => lc54 (N := N') (d := d') (t := (.s 24)) h2 ct_24) ?_ (fun _ q => nomatch q.1)
  rintro v6 S4 ⟨ev6, h5⟩
  cases ev6
  show am_L _ _ _ _ _ [some (.ref 23), some (.ref (A x1)), some (.int x2), some (.int x3), some (.int (tg s (.s 26) x2 2))] [.int (tg s (.s 24) x3 2), .int 1, .int (tg s (.s 26) x2 2), .ref (cTa A (.i x1))] _ _
  refine l32 (as := [.ref (cTa A (.i x1)), .int (tg s (.s 26) x2 2), .int 1, .int (tg s (.s 24) x3 2)]) (la := [some (.ref (cTa A (.i x1))), some (.int (tg s (.s 26) x2 2)), some (.int 1), some (.int (tg s (.s 24) x3 2))]) (rest := []) hi_85_27 (am_hd0 (M := 85) (by decide) 27) rfl rfl rfl (fun N' d' _ => lc86 (N := N') (d := d') (t := (.i x1)) h5 (show cTl _ (.i x1) from hx1)) ?_ (fun _ q => nomatch q.1)
  rintro v9 S7 ⟨ev9, h8⟩
  cases ev9
  show am_L _ _ _ _ _ [some (.ref 23), some (.ref (A x1)), some (.int x2), some (.int x3), some (.int (tg s (.s 26) x2 2))] [] _ _
  refine am_L.mono (lc85_30 h8 hx1) ?_
  rintro o S1 ⟨e, h⟩
  have q : c85 s x1 x2 x3 = c85_30 (ts s (.i x1) (tg s (.s 26) x2 2) 1 (tg s (.s 24) x3 2)) x1 x2 x3 (tg s (.s 26) x2 2) := rfl
  rw [q]; exact ⟨e, h⟩
def c87_54 (s : cS) (y1 : Int32) (y2 : Int32) (y3 : Int32) : cS × Int32 := (ts s (.s 26) y2 3 (if (tg s (.s 26) y1 3) ≤ y3 then (tg s (.s 26) y1 3) else y3), 0)
theorem lc87_54 {sc : Nat × (Nat → Int32)} {N d : Nat} {A : Nat → Nat} {K : Nat} {S : am_S} {s : cS} {y1 : Int32} {y2 : Int32} {y3 : Int32} (hS : CM A K S s) : am_L (am_PP sc) N d 87 54 [some (.ref 23), some (.int y1), some (.int y2), some (.int y3)] [] S (fun o S1 => o = some none ∧ CM A K S1 (c87_54 s y1 y2 y3).1) := by
  refine l2 (v := 23) hi_87_54 rfl ?_
  refine l20s (v := .ref 26) hS cs_23 hi_87_55 rfl ?_
  refine l1 (v := y2) hi_87_58 rfl ?_
  refine l0 hi_87_59 ?_
  refine l2 (v := 23) hi_87_60 rfl ?_
  refine l20s (v := .ref 26) hS cs_23 hi_87_61 rfl ?_
  refine l1 (v := y1) hi_87_64 rfl ?_
  refine l0 hi_87_65 ?_
  refine l32 (as := [.ref 26, .int y1, .int 3]) (la := [some (.ref 26), some (.int y1), some (.int 3)]) (rest := [.int 3, .int y2, .ref 26]) hi_87_66 (am_hd0 (M := 87) (by decide) 66) rfl rfl rfl (fun N' d' _ => lc54 (N := N') (d := d') (t := (.s 26)) hS ct_26) ?_ (fun _ q => nomatch q.1)
  rintro v3 S1 ⟨ev3, h2⟩
  cases ev3
  show am_L _ _ _ _ _ [some (.ref 23), some (.int y1), some (.int y2), some (.int y3)] [.int (tg s (.s 26) y1 3), .int 3, .int y2, .ref 26] _ _
  refine l1 (v := y3) hi_87_69 rfl ?_
  refine l32 (as := [.int (tg s (.s 26) y1 3), .int y3]) (la := [some (.int (tg s (.s 26) y1 3)), some (.int y3)]) (rest := [.int 3, .int y2, .ref 26]) hi_87_70 (am_hd0 (M := 87) (by decide) 70) rfl rfl rfl (fun N' d' _ => lc24 (N := N') (d := d')) ?_ (fun _ q => nomatch q.2)
  rintro v6 S4 ⟨eS, ev6⟩
  rw [eS]
  cases ev6
  show am_L _ _ _ _ _ [some (.ref 23), some (.int y1), some (.int y2), some (.int y3)] [.int (if (tg s (.s 26) y1 3) ≤ y3 then (tg s (.s 26) y1 3) else y3), .int 3, .int y2, .ref 26] _ _
  refine l32 (as := [.ref 26, .int y2, .int 3, .int (if (tg s (.s 26) y1 3) ≤ y3 then (tg s (.s 26) y1 3) else y3)]) (la := [some (.ref 26), some (.int y2), some (.int 3), some (.int (if (tg s (.s 26) y1 3) ≤ y3 then (tg s (.s 26) y1 3) else y3))]) (rest := []) hi_87_73 (am_hd0 (M := 87) (by decide) 73) rfl rfl rfl (fun N' d' _ => lc86 (N := N') (d := d') (t := (.s 26)) h2 ct_26) ?_ (fun _ q => nomatch q.1)
  rintro v9 S7 ⟨ev9, h8⟩
  cases ev9
  show am_L _ _ _ _ _ [some (.ref 23), some (.int y1), some (.int y2), some (.int y3)] [] _ _
  refine l35 hi_87_76 ⟨rfl, ?_⟩
  exact h8
def c87_36 (s : cS) (y1 : Int32) (y2 : Int32) (y3 : Int32) : cS × Int32 := c87_54 (ts s (.s 26) y2 2 (tg s (.s 26) y1 2)) y1 y2 y3
theorem lc87_36 {sc : Nat × (Nat → Int32)} {N d : Nat} {A : Nat → Nat} {K : Nat} {S : am_S} {s : cS} {y1 : Int32} {y2 : Int32} {y3 : Int32} (hS : CM A K S s) : am_L (am_PP sc) N d 87 36 [some (.ref 23), some (.int y1), some (.int y2), some (.int y3)] [] S (fun o S1 => o = some none ∧ CM A K S1 (c87_36 s y1 y2 y3).1) := by
  refine l2 (v := 23) hi_87_36 rfl ?_
  refine l20s (v := .ref 26) hS cs_23 hi_87_37 rfl ?_
  refine l1 (v := y2) hi_87_40 rfl ?_
  refine l0 hi_87_41 ?_
  refine l2 (v := 23) hi_87_42 rfl ?_
  refine l20s (v := .ref 26) hS cs_23 hi_87_43 rfl ?_
  refine l1 (v := y1) hi_87_46 rfl ?_
  refine l0 hi_87_47 ?_
  refine l32 (as := [.ref 26, .int y1, .int 2]) (la := [some (.ref 26), some (.int y1), some (.int 2)]) (rest := [.int 2, .int y2, .ref 26]) hi_87_48 (am_hd0 (M := 87) (by decide) 48) rfl rfl rfl (fun N' d' _ => lc54 (N := N') (d := d') (t := (.s 26)) hS ct_26) ?_ (fun _ q => nomatch q.1)
  rintro v3 S1 ⟨ev3, h2⟩
  cases ev3
  show am_L _ _ _ _ _ [some (.ref 23), some (.int y1), some (.int y2), some (.int y3)] [.int (tg s (.s 26) y1 2), .int 2, .int y2, .ref 26] _ _
  refine l32 (as := [.ref 26, .int y2, .int 2, .int (tg s (.s 26) y1 2)]) (la := [some (.ref 26), some (.int y2), some (.int 2), some (.int (tg s (.s 26) y1 2))]) (rest := []) hi_87_51 (am_hd0 (M := 87) (by decide) 51) rfl rfl rfl (fun N' d' _ => lc86 (N := N') (d := d') (t := (.s 26)) h2 ct_26) ?_ (fun _ q => nomatch q.1)
  rintro v6 S4 ⟨ev6, h5⟩
  cases ev6
  show am_L _ _ _ _ _ [some (.ref 23), some (.int y1), some (.int y2), some (.int y3)] [] _ _
  refine am_L.mono (lc87_54 h5 ) ?_
  rintro o S1 ⟨e, h⟩
  have q : c87_36 s y1 y2 y3 = c87_54 (ts s (.s 26) y2 2 (tg s (.s 26) y1 2)) y1 y2 y3 := rfl
  rw [q]; exact ⟨e, h⟩
def c87_18 (s : cS) (y1 : Int32) (y2 : Int32) (y3 : Int32) : cS × Int32 := c87_36 (ts s (.s 26) y2 1 (tg s (.s 26) y1 1)) y1 y2 y3
theorem lc87_18 {sc : Nat × (Nat → Int32)} {N d : Nat} {A : Nat → Nat} {K : Nat} {S : am_S} {s : cS} {y1 : Int32} {y2 : Int32} {y3 : Int32} (hS : CM A K S s) : am_L (am_PP sc) N d 87 18 [some (.ref 23), some (.int y1), some (.int y2), some (.int y3)] [] S (fun o S1 => o = some none ∧ CM A K S1 (c87_18 s y1 y2 y3).1) := by
  refine l2 (v := 23) hi_87_18 rfl ?_
  refine l20s (v := .ref 26) hS cs_23 hi_87_19 rfl ?_
  refine l1 (v := y2) hi_87_22 rfl ?_
  refine l0 hi_87_23 ?_
  refine l2 (v := 23) hi_87_24 rfl ?_
  refine l20s (v := .ref 26) hS cs_23 hi_87_25 rfl ?_
  refine l1 (v := y1) hi_87_28 rfl ?_
  refine l0 hi_87_29 ?_
  refine l32 (as := [.ref 26, .int y1, .int 1]) (la := [some (.ref 26), some (.int y1), some (.int 1)]) (rest := [.int 1, .int y2, .ref 26]) hi_87_30 (am_hd0 (M := 87) (by decide) 30) rfl rfl rfl (fun N' d' _ => lc54 (N := N') (d := d') (t := (.s 26)) hS ct_26) ?_ (fun _ q => nomatch q.1)
  rintro v3 S1 ⟨ev3, h2⟩
  cases ev3
  show am_L _ _ _ _ _ [some (.ref 23), some (.int y1), some (.int y2), some (.int y3)] [.int (tg s (.s 26) y1 1), .int 1, .int y2, .ref 26] _ _
  refine l32 (as := [.ref 26, .int y2, .int 1, .int (tg s (.s 26) y1 1)]) (la := [some (.ref 26), some (.int y2), some (.int 1), some (.int (tg s (.s 26) y1 1))]) (rest := []) hi_87_33 (am_hd0 (M := 87) (by decide) 33) rfl rfl rfl (fun N' d' _ => lc86 (N := N') (d := d') (t := (.s 26)) h2 ct_26) ?_ (fun _ q => nomatch q.1)
  rintro v6 S4 ⟨ev6, h5⟩
  cases ev6
  show am_L _ _ _ _ _ [some (.ref 23), some (.int y1), some (.int y2), some (.int y3)] [] _ _
  refine am_L.mono (lc87_36 h5 ) ?_
  rintro o S1 ⟨e, h⟩
  have q : c87_18 s y1 y2 y3 = c87_36 (ts s (.s 26) y2 1 (tg s (.s 26) y1 1)) y1 y2 y3 := rfl
  rw [q]; exact ⟨e, h⟩
def c87 (s : cS) (x1 : Int32) (x2 : Int32) (x3 : Int32) : cS × Int32 := c87_18 (ts s (.s 26) x2 0 (tg s (.s 26) x1 0)) x1 x2 x3
theorem lc87 {sc : Nat × (Nat → Int32)} {N d : Nat} {A : Nat → Nat} {K : Nat} {S : am_S} {s : cS} {x1 : Int32} {x2 : Int32} {x3 : Int32} (hS : CM A K S s) : am_L (am_PP sc) N d 87 0 [some (.ref 23), some (.int x1), some (.int x2), some (.int x3)] [] S (fun o S1 => o = some none ∧ CM A K S1 (c87 s x1 x2 x3).1) := by
  refine l2 (v := 23) hi_87_0 rfl ?_
  refine l20s (v := .ref 26) hS cs_23 hi_87_1 rfl ?_
  refine l1 (v := x2) hi_87_4 rfl ?_
  refine l0 hi_87_5 ?_
  refine l2 (v := 23) hi_87_6 rfl ?_
  refine l20s (v := .ref 26) hS cs_23 hi_87_7 rfl ?_
  refine l1 (v := x1) hi_87_10 rfl ?_
  refine l0 hi_87_11 ?_
  refine l32 (as := [.ref 26, .int x1, .int 0]) (la := [some (.ref 26), some (.int x1), some (.int 0)]) (rest := [.int 0, .int x2, .ref 26]) hi_87_12 (am_hd0 (M := 87) (by decide) 12) rfl rfl rfl (fun N' d' _ => lc54 (N := N') (d := d') (t := (.s 26)) hS ct_26) ?_ (fun _ q => nomatch q.1)
  rintro v3 S1 ⟨ev3, h2⟩
  cases ev3
  show am_L _ _ _ _ _ [some (.ref 23), some (.int x1), some (.int x2), some (.int x3)] [.int (tg s (.s 26) x1 0), .int 0, .int x2, .ref 26] _ _
  refine l32 (as := [.ref 26, .int x2, .int 0, .int (tg s (.s 26) x1 0)]) (la := [some (.ref 26), some (.int x2), some (.int 0), some (.int (tg s (.s 26) x1 0))]) (rest := []) hi_87_15 (am_hd0 (M := 87) (by decide) 15) rfl rfl rfl (fun N' d' _ => lc86 (N := N') (d := d') (t := (.s 26)) h2 ct_26) ?_ (fun _ q => nomatch q.1)
  rintro v6 S4 ⟨ev6, h5⟩
  cases ev6
  show am_L _ _ _ _ _ [some (.ref 23), some (.int x1), some (.int x2), some (.int x3)] [] _ _
  refine am_L.mono (lc87_18 h5 ) ?_
  rintro o S1 ⟨e, h⟩
  have q : c87 s x1 x2 x3 = c87_18 (ts s (.s 26) x2 0 (tg s (.s 26) x1 0)) x1 x2 x3 := rfl
  rw [q]; exact ⟨e, h⟩
noncomputable def c83b6 (y1 : Nat) (y2 : Int32) (y4 : Int32) (t : cS × Int32 × Int32) : Nat × (cS × Int32 × Int32) := if (t.1.r (.s 26)) ≤ t.2.2 then (1, (t.1, t.2.1, t.2.2)) else if (c84 t.1 (tg t.1 (.s 26) t.2.2 0) y2) < 0 then (0, ((c87 t.1 t.2.2 t.2.1 y4).1, t.2.1 + 1, t.2.2 + 1)) else (0, ((c85 t.1 y1 t.2.2 (c84 t.1 (tg t.1 (.s 26) t.2.2 0) y2)).1, t.2.1, t.2.2 + 1))
theorem lb83_6 {sc : Nat × (Nat → Int32)} {d : Nat} {A : Nat → Nat} {K : Nat} {y1 : Nat} {y2 : Int32} {y4 : Int32} {Q : Option (Option Value) → am_S → Prop} (hy1 : y1 ≤ K) : ∀ (N : Nat) (S : am_S) (o3 : Option Value) (o7 : Option Value) (t : cS × Int32 × Int32), CM A K S t.1 → (∀ m S1 (p3 : Option Value) (p7 : Option Value), (kwh (c83b6 y1 y2 y4) m t).1 = 1 → CM A K S1 (kwh (c83b6 y1 y2 y4) m t).2.1 → am_L (am_PP sc) N d 83 71 [some (.ref 23), some (.ref (A y1)), some (.int y2), p3, some (.int y4), some (.int ((kwh (c83b6 y1 y2 y4) m t).2.2.1)), some (.int ((kwh (c83b6 y1 y2 y4) m t).2.2.2)), p7] [] S1 Q) → am_L (am_PP sc) N d 83 6 [some (.ref 23), some (.ref (A y1)), some (.int y2), o3, some (.int y4), some (.int t.2.1), some (.int t.2.2), o7] [] S Q := by
  intro N
  induction N with
  | zero => intros; exact l_zero
  | succ N ih =>
    intro S o3 o7 t hS kx71
    refine l1d (v := t.2.2) hi_83_6 rfl ?_
    refine l2 (v := 23) hi_83_8 rfl ?_
    refine l20s (v := .ref 26) hS cs_23 hi_83_9 rfl ?_
    refine l32 (as := [.ref 26]) (la := [some (.ref 26)]) (rest := [.int t.2.2]) hi_83_12 (am_hd0 (M := 83) (by decide) 12) rfl rfl rfl (fun N' d' _ => lc36 (N := N') (d := d') (t := (.s 26)) hS ct_26) ?_ (fun _ q => nomatch q.1)
    rintro v3 S1 ⟨ev3, h2⟩
    cases ev3
    show am_L _ _ _ _ _ [some (.ref 23), some (.ref (A y1)), some (.int y2), o3, some (.int y4), some (.int t.2.1), some (.int t.2.2), o7] [.int (t.1.r (.s 26)), .int t.2.2] _ _
    by_cases cn4 : (t.1.r (.s 26)) ≤ t.2.2
    · refine l13t hi_83_15 (decide_eq_true cn4) ?_
      have e0 : (c83b6 y1 y2 y4) t = (1, (t.1, t.2.1, t.2.2)) := by unfold c83b6; rw [if_pos cn4]
      have e1 : kwh (c83b6 y1 y2 y4) 1 t = (1, (t.1, t.2.1, t.2.2)) := by rw [kwh_out (by rw [e0]; exact Nat.succ_ne_zero _), e0]
      have q := kx71 1 _ o3 o7 (by rw [e1]) (by rw [e1]; exact h2)
      try rw [e1] at q
      exact q.less (Nat.le_succ N)
    · refine l13f hi_83_15 (decide_eq_false cn4) ?_
      refine l2 (v := 23) hi_83_18 rfl ?_
      refine l2 (v := 23) hi_83_19 rfl ?_
      refine l20s (v := .ref 26) h2 cs_23 hi_83_20 rfl ?_
      refine l1 (v := t.2.2) hi_83_23 rfl ?_
      refine l0 hi_83_25 ?_
      refine l32 (as := [.ref 26, .int t.2.2, .int 0]) (la := [some (.ref 26), some (.int t.2.2), some (.int 0)]) (rest := [.ref 23]) hi_83_26 (am_hd0 (M := 83) (by decide) 26) rfl rfl rfl (fun N' d' _ => lc54 (N := N') (d := d') (t := (.s 26)) h2 ct_26) ?_ (fun _ q => nomatch q.1)
      rintro v7 S5 ⟨ev7, h6⟩
      cases ev7
      show am_L _ _ _ _ _ [some (.ref 23), some (.ref (A y1)), some (.int y2), o3, some (.int y4), some (.int t.2.1), some (.int t.2.2), o7] [.int (tg t.1 (.s 26) t.2.2 0), .ref 23] _ _
      refine l1 (v := y2) hi_83_29 rfl ?_
      refine l32 (as := [.ref 23, .int (tg t.1 (.s 26) t.2.2 0), .int y2]) (la := [some (.ref 23), some (.int (tg t.1 (.s 26) t.2.2 0)), some (.int y2), none]) (rest := []) hi_83_30 (am_hd0 (M := 83) (by decide) 30) rfl rfl rfl (fun N' d' _ => lc84 (N := N') (d := d') h6 ) ?_ (fun _ q => nomatch q.1)
      rintro v10 S8 ⟨ev10, h9⟩
      cases ev10
      show am_L _ _ _ _ _ [some (.ref 23), some (.ref (A y1)), some (.int y2), o3, some (.int y4), some (.int t.2.1), some (.int t.2.2), o7] [.int (c84 t.1 (tg t.1 (.s 26) t.2.2 0) y2)] _ _
      refine l3 (ls' := [some (.ref 23), some (.ref (A y1)), some (.int y2), o3, some (.int y4), some (.int t.2.1), some (.int t.2.2), some (.int (c84 t.1 (tg t.1 (.s 26) t.2.2 0) y2))]) hi_83_33 (Nat.le_of_ble_eq_true rfl) rfl ?_
      refine l1 (v := c84 t.1 (tg t.1 (.s 26) t.2.2 0) y2) hi_83_35 rfl ?_
      by_cases cn11 : (c84 t.1 (tg t.1 (.s 26) t.2.2 0) y2) < 0
      · refine l12t hi_83_37 (decide_eq_true cn11) ?_
        refine l2 (v := 23) hi_83_52 rfl ?_
        refine l1 (v := t.2.2) hi_83_53 rfl ?_
        refine l1 (v := t.2.1) hi_83_55 rfl ?_
        refine l1 (v := y4) hi_83_57 rfl ?_
        refine l32 (as := [.ref 23, .int t.2.2, .int t.2.1, .int y4]) (la := [some (.ref 23), some (.int t.2.2), some (.int t.2.1), some (.int y4)]) (rest := []) hi_83_59 (am_hd0 (M := 83) (by decide) 59) rfl rfl rfl (fun N' d' _ => lc87 (N := N') (d := d') h9 ) ?_ (fun _ q => nomatch q.1)
        rintro v14 S12 ⟨ev14, h13⟩
        cases ev14
        show am_L _ _ _ _ _ [some (.ref 23), some (.ref (A y1)), some (.int y2), o3, some (.int y4), some (.int t.2.1), some (.int t.2.2), some (.int (c84 t.1 (tg t.1 (.s 26) t.2.2 0) y2))] [] _ _
        refine l5 (v := t.2.1) (ls' := [some (.ref 23), some (.ref (A y1)), some (.int y2), o3, some (.int y4), some (.int (t.2.1 + 1)), some (.int t.2.2), some (.int (c84 t.1 (tg t.1 (.s 26) t.2.2 0) y2))]) hi_83_62 rfl rfl ?_
        refine l5 (v := t.2.2) (ls' := [some (.ref 23), some (.ref (A y1)), some (.int y2), o3, some (.int y4), some (.int (t.2.1 + 1)), some (.int (t.2.2 + 1)), some (.int (c84 t.1 (tg t.1 (.s 26) t.2.2 0) y2))]) hi_83_65 rfl rfl ?_
        refine l18 hi_83_68 ?_
        have e0 : (c83b6 y1 y2 y4) t = (0, ((c87 t.1 t.2.2 t.2.1 y4).1, t.2.1 + 1, t.2.2 + 1)) := by unfold c83b6; rw [if_neg cn4]; rw [if_pos cn11]
        have e1 : ∀ m, kwh (c83b6 y1 y2 y4) (m + 1) t = kwh (c83b6 y1 y2 y4) m ((c87 t.1 t.2.2 t.2.1 y4).1, t.2.1 + 1, t.2.2 + 1) := fun m => by rw [kwh_go (by rw [e0]), e0]
        exact ih _ o3 (some (.int (c84 t.1 (tg t.1 (.s 26) t.2.2 0) y2))) ((c87 t.1 t.2.2 t.2.1 y4).1, t.2.1 + 1, t.2.2 + 1) h13 (fun m S1 p3 p7 hm h1 => by have q := kx71 (m + 1) S1 p3 p7 (by rw [e1]; exact hm) (by rw [e1]; exact h1); (try rw [e1] at q); exact q.less (Nat.le_succ N))
      · refine l12f hi_83_37 (decide_eq_false cn11) ?_
        refine l2 (v := 23) hi_83_40 rfl ?_
        refine l2 (v := (A y1)) hi_83_41 rfl ?_
        refine l1 (v := t.2.2) hi_83_42 rfl ?_
        refine l1 (v := c84 t.1 (tg t.1 (.s 26) t.2.2 0) y2) hi_83_44 rfl ?_
        refine l32 (as := [.ref 23, .ref (A y1), .int t.2.2, .int (c84 t.1 (tg t.1 (.s 26) t.2.2 0) y2)]) (la := [some (.ref 23), some (.ref (A y1)), some (.int t.2.2), some (.int (c84 t.1 (tg t.1 (.s 26) t.2.2 0) y2)), none]) (rest := []) hi_83_46 (am_hd0 (M := 83) (by decide) 46) rfl rfl rfl (fun N' d' _ => lc85 (N := N') (d := d') h9 hy1) ?_ (fun _ q => nomatch q.1)
        rintro v17 S15 ⟨ev17, h16⟩
        cases ev17
        show am_L _ _ _ _ _ [some (.ref 23), some (.ref (A y1)), some (.int y2), o3, some (.int y4), some (.int t.2.1), some (.int t.2.2), some (.int (c84 t.1 (tg t.1 (.s 26) t.2.2 0) y2))] [] _ _
        refine l18 hi_83_49 ?_
        refine l5 (v := t.2.2) (ls' := [some (.ref 23), some (.ref (A y1)), some (.int y2), o3, some (.int y4), some (.int t.2.1), some (.int (t.2.2 + 1)), some (.int (c84 t.1 (tg t.1 (.s 26) t.2.2 0) y2))]) hi_83_65 rfl rfl ?_
        refine l18 hi_83_68 ?_
        have e0 : (c83b6 y1 y2 y4) t = (0, ((c85 t.1 y1 t.2.2 (c84 t.1 (tg t.1 (.s 26) t.2.2 0) y2)).1, t.2.1, t.2.2 + 1)) := by unfold c83b6; rw [if_neg cn4]; rw [if_neg cn11]
        have e1 : ∀ m, kwh (c83b6 y1 y2 y4) (m + 1) t = kwh (c83b6 y1 y2 y4) m ((c85 t.1 y1 t.2.2 (c84 t.1 (tg t.1 (.s 26) t.2.2 0) y2)).1, t.2.1, t.2.2 + 1) := fun m => by rw [kwh_go (by rw [e0]), e0]
        exact ih _ o3 (some (.int (c84 t.1 (tg t.1 (.s 26) t.2.2 0) y2))) ((c85 t.1 y1 t.2.2 (c84 t.1 (tg t.1 (.s 26) t.2.2 0) y2)).1, t.2.1, t.2.2 + 1) h16 (fun m S1 p3 p7 hm h1 => by have q := kx71 (m + 1) S1 p3 p7 (by rw [e1]; exact hm) (by rw [e1]; exact h1); (try rw [e1] at q); exact q.less (Nat.le_succ N))
noncomputable def c83_80 (s : cS) (y2 : Int32) : cS × Int32 := (tct s (.s 24) y2, 0)
theorem lc83_80 {sc : Nat × (Nat → Int32)} {N d : Nat} {A : Nat → Nat} {K : Nat} {S : am_S} {s : cS} {y2 : Int32} {o1 : Option Value} {o3 : Option Value} {o4 : Option Value} {o5 : Option Value} {o6 : Option Value} {o7 : Option Value} (hS : CM A K S s) : am_L (am_PP sc) N d 83 80 [some (.ref 23), o1, some (.int y2), o3, o4, o5, o6, o7] [] S (fun o S1 => o = some none ∧ CM A K S1 (c83_80 s y2).1) := by
  refine l2 (v := 23) hi_83_80 rfl ?_
  refine l20s (v := .ref 24) hS cs_23 hi_83_81 rfl ?_
  refine l1 (v := y2) hi_83_84 rfl ?_
  refine l32 (as := [.ref 24, .int y2]) (la := [some (.ref 24), some (.int y2)]) (rest := []) hi_83_85 (am_hd0 (M := 83) (by decide) 85) rfl rfl rfl (fun N' d' _ => lc30 (N := N') (d := d') (t := (.s 24)) hS ct_24) ?_ (fun _ q => nomatch q.1)
  rintro v3 S1 ⟨ev3, h2⟩
  cases ev3
  show am_L _ _ _ _ _ [some (.ref 23), o1, some (.int y2), o3, o4, o5, o6, o7] [] _ _
  refine l35 hi_83_88 ⟨rfl, ?_⟩
  exact h2
noncomputable def c83 (s : cS) (x1 : Nat) (x2 : Int32) (x3 : Int32) (x4 : Int32) : cS × Int32 := c83_80 (tct ((kfin (c83b6 x1 x2 x4) (s, x3, x3)).2.1) (.s 26) ((kfin (c83b6 x1 x2 x4) (s, x3, x3)).2.2.1)) x2
theorem lc83 {sc : Nat × (Nat → Int32)} {N d : Nat} {A : Nat → Nat} {K : Nat} {S : am_S} {s : cS} {x1 : Nat} {x2 : Int32} {x3 : Int32} {x4 : Int32} (hS : CM A K S s) (hx1 : x1 ≤ K) : am_L (am_PP sc) N d 83 0 [some (.ref 23), some (.ref (A x1)), some (.int x2), some (.int x3), some (.int x4), none, none, none] [] S (fun o S1 => o = some none ∧ CM A K S1 (c83 s x1 x2 x3 x4).1) := by
  refine l1 (v := x3) hi_83_0 rfl ?_
  refine l3 (ls' := [some (.ref 23), some (.ref (A x1)), some (.int x2), some (.int x3), some (.int x4), some (.int x3), none, none]) hi_83_1 (Nat.le_of_ble_eq_true rfl) rfl ?_
  refine l1 (v := x3) hi_83_3 rfl ?_
  refine l3 (ls' := [some (.ref 23), some (.ref (A x1)), some (.int x2), some (.int x3), some (.int x4), some (.int x3), some (.int x3), none]) hi_83_4 (Nat.le_of_ble_eq_true rfl) rfl ?_
  refine lb83_6 hx1 N _ (some (.int x3)) none (s, x3, x3) hS ?_
  · intro m1 S2 p6 p7 hm3 h4
    have hf5 : kfin (c83b6 x1 x2 x4) (s, x3, x3) = kwh (c83b6 x1 x2 x4) m1 (s, x3, x3) := kfin_eq (by rw [hm3]; decide)
    rw [← hf5] at hm3 h4
    try rw [← hf5]
    refine l2 (v := 23) hi_83_71 rfl ?_
    refine l20s (v := .ref 26) h4 cs_23 hi_83_72 rfl ?_
    refine l1 (v := (kfin (c83b6 x1 x2 x4) (s, x3, x3)).2.2.1) hi_83_75 rfl ?_
    refine l32 (as := [.ref 26, .int ((kfin (c83b6 x1 x2 x4) (s, x3, x3)).2.2.1)]) (la := [some (.ref 26), some (.int ((kfin (c83b6 x1 x2 x4) (s, x3, x3)).2.2.1))]) (rest := []) hi_83_77 (am_hd0 (M := 83) (by decide) 77) rfl rfl rfl (fun N' d' _ => lc30 (N := N') (d := d') (t := (.s 26)) h4 ct_26) ?_ (fun _ q => nomatch q.1)
    rintro v10 S8 ⟨ev10, h9⟩
    cases ev10
    show am_L _ _ _ _ _ [some (.ref 23), some (.ref (A x1)), some (.int x2), p6, some (.int x4), some (.int ((kfin (c83b6 x1 x2 x4) (s, x3, x3)).2.2.1)), some (.int ((kfin (c83b6 x1 x2 x4) (s, x3, x3)).2.2.2)), p7] [] _ _
    refine am_L.mono (lc83_80 h9 ) ?_
    rintro o S1 ⟨e, h⟩
    have q : c83 s x1 x2 x3 x4 = c83_80 (tct ((kfin (c83b6 x1 x2 x4) (s, x3, x3)).2.1) (.s 26) ((kfin (c83b6 x1 x2 x4) (s, x3, x3)).2.2.1)) x2 := rfl
    rw [q]; exact ⟨e, h⟩
