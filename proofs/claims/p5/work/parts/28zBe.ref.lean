/-! THE REFERENCE: what each method does (printed by wip/p5/lw.py) -/
noncomputable def k228_368 (s : kS) (y2 : Int32) (z0 : Int32) : kS × Int32 := if z0 = 0 then (s, 0) else ((k236 s y2).1, 0)
theorem lt228_368 {sc : Nat × (Nat → Int32)} {N d : Nat} {S0 S : am_S} {s : kS} {y2 : Int32} {z0 : Int32} {o1 : Option Value} (hS : MK S0 S s) : am_L (am_PP sc) N d 228 368 [some (.ref 39), o1, some (.int y2)] [.int z0] S (fun o S1 => o = some none ∧ MK S0 S1 (k228_368 s y2 z0).1) := by
  by_cases c1 : z0 = 0
  · refine l12t hi_228_368 (decide_eq_true c1) ?_
    refine l35 hi_228_422 ⟨rfl, ?_⟩
    unfold k228_368; rw [if_pos c1]; exact hS
  · refine l12f hi_228_368 (decide_eq_false c1) ?_
    refine l2 (v := 39) hi_228_371 rfl ?_
    refine l1 (v := y2) hi_228_372 rfl ?_
    refine l32 (as := [.ref 39, .int y2]) (la := [some (.ref 39), some (.int y2), none, none, none, none]) (rest := []) hi_228_373 (am_hd0 (M := 228) (by decide) 373) rfl rfl rfl (fun N' d' _ => lt236 (N := N') (d := d') hS) ?_ (fun _ q => nomatch q.1)
    rintro v4 S2 ⟨ev4, h3⟩
    cases ev4
    show am_L _ _ _ _ _ [some (.ref 39), o1, some (.int y2)] [] _ _
    refine l18 hi_228_376 ?_
    refine l35 hi_228_422 ⟨rfl, ?_⟩
    unfold k228_368; rw [if_neg c1]; exact h3
noncomputable def k228_187 (s : kS) (y2 : Int32) (z0 : Int32) : kS × Int32 := if z0 = 0 then (s, 0) else ((k234 s y2 (y2 + 1)).1, 0)
theorem lt228_187 {sc : Nat × (Nat → Int32)} {N d : Nat} {S0 S : am_S} {s : kS} {y2 : Int32} {z0 : Int32} {o1 : Option Value} (hS : MK S0 S s) : am_L (am_PP sc) N d 228 187 [some (.ref 39), o1, some (.int y2)] [.int z0] S (fun o S1 => o = some none ∧ MK S0 S1 (k228_187 s y2 z0).1) := by
  by_cases c1 : z0 = 0
  · refine l12t hi_228_187 (decide_eq_true c1) ?_
    refine l35 hi_228_422 ⟨rfl, ?_⟩
    unfold k228_187; rw [if_pos c1]; exact hS
  · refine l12f hi_228_187 (decide_eq_false c1) ?_
    refine l2 (v := 39) hi_228_190 rfl ?_
    refine l1 (v := y2) hi_228_191 rfl ?_
    refine l1 (v := y2) hi_228_192 rfl ?_
    refine l0 hi_228_193 ?_
    refine l10 hi_228_194 ?_
    show am_L _ _ _ _ _ [some (.ref 39), o1, some (.int y2)] [.int (y2 + 1), .int y2, .ref 39] _ _
    refine l32 (as := [.ref 39, .int y2, .int (y2 + 1)]) (la := [some (.ref 39), some (.int y2), some (.int (y2 + 1)), none, none]) (rest := []) hi_228_195 (am_hd0 (M := 228) (by decide) 195) rfl rfl rfl (fun N' d' _ => lt234 (N := N') (d := d') hS) ?_ (fun _ q => nomatch q.1)
    rintro v4 S2 ⟨ev4, h3⟩
    cases ev4
    show am_L _ _ _ _ _ [some (.ref 39), o1, some (.int y2)] [] _ _
    refine l18 hi_228_198 ?_
    refine l35 hi_228_422 ⟨rfl, ?_⟩
    unfold k228_187; rw [if_neg c1]; exact h3
noncomputable def k228_336 (s : kS) : kS × Int32 := ((k186 s 0).1, 0)
theorem lt228_336 {sc : Nat × (Nat → Int32)} {N d : Nat} {S0 S : am_S} {s : kS} {o1 : Option Value} {o2 : Option Value} (hS : MK S0 S s) : am_L (am_PP sc) N d 228 336 [some (.ref 39), o1, o2] [] S (fun o S1 => o = some none ∧ MK S0 S1 (k228_336 s).1) := by
  refine l2 (v := 39) hi_228_336 rfl ?_
  refine l0 hi_228_337 ?_
  refine l32 (as := [.ref 39, .int 0]) (la := [some (.ref 39), some (.int 0)]) (rest := []) hi_228_338 (am_hd0 (M := 228) (by decide) 338) rfl rfl rfl (fun N' d' _ => lt186 (N := N') (d := d') hS) ?_ (fun _ q => nomatch q.1)
  rintro v3 S1 ⟨ev3, h2⟩
  cases ev3
  show am_L _ _ _ _ _ [some (.ref 39), o1, o2] [] _ _
  refine l18 hi_228_341 ?_
  refine l35 hi_228_422 ⟨rfl, ?_⟩
  exact h2
noncomputable def k228_310 (s : kS) : kS × Int32 := ((k178 s).1, 0)
theorem lt228_310 {sc : Nat × (Nat → Int32)} {N d : Nat} {S0 S : am_S} {s : kS} {o1 : Option Value} {o2 : Option Value} (hS : MK S0 S s) : am_L (am_PP sc) N d 228 310 [some (.ref 39), o1, o2] [] S (fun o S1 => o = some none ∧ MK S0 S1 (k228_310 s).1) := by
  refine l2 (v := 39) hi_228_310 rfl ?_
  refine l32 (as := [.ref 39]) (la := [some (.ref 39)]) (rest := []) hi_228_311 (am_hd0 (M := 228) (by decide) 311) rfl rfl rfl (fun N' d' _ => lt178 (N := N') (d := d') hS) ?_ (fun _ q => nomatch q.1)
  rintro v3 S1 ⟨ev3, h2⟩
  cases ev3
  show am_L _ _ _ _ _ [some (.ref 39), o1, o2] [] _ _
  refine l18 hi_228_314 ?_
  refine l35 hi_228_422 ⟨rfl, ?_⟩
  exact h2
noncomputable def k228_304 (s : kS) (z0 : Int32) : kS × Int32 := k228_310 ((k177 s 1).1)
theorem lt228_304 {sc : Nat × (Nat → Int32)} {N d : Nat} {S0 S : am_S} {s : kS} {z0 : Int32} {o1 : Option Value} {o2 : Option Value} (hS : MK S0 S s) : am_L (am_PP sc) N d 228 304 [some (.ref 39), o1, o2] [.int z0] S (fun o S1 => o = some none ∧ MK S0 S1 (k228_304 s z0).1) := by
  refine l6i hi_228_304 ?_
  refine l2 (v := 39) hi_228_305 rfl ?_
  refine l0 hi_228_306 ?_
  refine l32 (as := [.ref 39, .int 1]) (la := [some (.ref 39), some (.int 1)]) (rest := []) hi_228_307 (am_hd0 (M := 228) (by decide) 307) rfl rfl rfl (fun N' d' _ => lt177 (N := N') (d := d') hS) ?_ (fun _ q => nomatch q.1)
  rintro v3 S1 ⟨ev3, h2⟩
  cases ev3
  show am_L _ _ _ _ _ [some (.ref 39), o1, o2] [] _ _
  refine am_L.mono (lt228_310 h2) ?_
  rintro o S1 ⟨e, h⟩
  have q : k228_304 s z0 = k228_310 ((k177 s 1).1) := rfl
  rw [q]; exact ⟨e, h⟩
noncomputable def k228_295 (s : kS) (y2 : Int32) : kS × Int32 := k228_304 ((k189 s 34 0 0 y2).1) ((k189 s 34 0 0 y2).2)
theorem lt228_295 {sc : Nat × (Nat → Int32)} {N d : Nat} {S0 S : am_S} {s : kS} {y2 : Int32} {o1 : Option Value} (hS : MK S0 S s) : am_L (am_PP sc) N d 228 295 [some (.ref 39), o1, some (.int y2)] [] S (fun o S1 => o = some none ∧ MK S0 S1 (k228_295 s y2).1) := by
  refine l2 (v := 39) hi_228_295 rfl ?_
  refine l0 hi_228_296 ?_
  refine l0 hi_228_298 ?_
  refine l0 hi_228_299 ?_
  refine l1 (v := y2) hi_228_300 rfl ?_
  refine l32 (as := [.ref 39, .int 34, .int 0, .int 0, .int y2]) (la := [some (.ref 39), some (.int 34), some (.int 0), some (.int 0), some (.int y2)]) (rest := []) hi_228_301 (am_hd0 (M := 228) (by decide) 301) rfl rfl rfl (fun N' d' _ => lt189 (N := N') (d := d') hS) ?_ (fun _ q => nomatch q.1)
  rintro v3 S1 ⟨ev3, h2⟩
  cases ev3
  show am_L _ _ _ _ _ [some (.ref 39), o1, some (.int y2)] [.int ((k189 s 34 0 0 y2).2)] _ _
  refine am_L.mono (lt228_304 h2) ?_
  rintro o S1 ⟨e, h⟩
  have q : k228_295 s y2 = k228_304 ((k189 s 34 0 0 y2).1) ((k189 s 34 0 0 y2).2) := rfl
  rw [q]; exact ⟨e, h⟩
noncomputable def k228_278 (s : kS) (y2 : Int32) (z0 : Int32) : kS × Int32 := if z0 ≠ 0 then k228_295 ((k179 s 5 (k210 s) 0 0).1) y2 else (s, 0)
theorem lt228_278 {sc : Nat × (Nat → Int32)} {N d : Nat} {S0 S : am_S} {s : kS} {y2 : Int32} {z0 : Int32} {o1 : Option Value} (hS : MK S0 S s) : am_L (am_PP sc) N d 228 278 [some (.ref 39), o1, some (.int y2)] [.int z0] S (fun o S1 => o = some none ∧ MK S0 S1 (k228_278 s y2 z0).1) := by
  by_cases c1 : z0 ≠ 0
  · refine l12t hi_228_278 (decide_eq_true c1) ?_
    refine l2 (v := 39) hi_228_284 rfl ?_
    refine l0 hi_228_285 ?_
    refine l2 (v := 39) hi_228_286 rfl ?_
    refine l32 (as := [.ref 39]) (la := [some (.ref 39)]) (rest := [.int 5, .ref 39]) hi_228_287 (am_hd0 (M := 228) (by decide) 287) rfl rfl rfl (fun N' d' _ => lt210 (N := N') (d := d') hS) ?_ (fun _ q => nomatch q.1)
    rintro v4 S2 ⟨ev4, h3⟩
    cases ev4
    show am_L _ _ _ _ _ [some (.ref 39), o1, some (.int y2)] [.int (k210 s), .int 5, .ref 39] _ _
    refine l0 hi_228_290 ?_
    refine l0 hi_228_291 ?_
    refine l32 (as := [.ref 39, .int 5, .int (k210 s), .int 0, .int 0]) (la := [some (.ref 39), some (.int 5), some (.int (k210 s)), some (.int 0), some (.int 0)]) (rest := []) hi_228_292 (am_hd0 (M := 228) (by decide) 292) rfl rfl rfl (fun N' d' _ => lt179 (N := N') (d := d') h3) ?_ (fun _ q => nomatch q.1)
    rintro v7 S5 ⟨ev7, h6⟩
    cases ev7
    show am_L _ _ _ _ _ [some (.ref 39), o1, some (.int y2)] [] _ _
    refine am_L.mono (lt228_295 h6) ?_
    rintro o S1 ⟨e, h⟩
    have q : k228_278 s y2 z0 = k228_295 ((k179 s 5 (k210 s) 0 0).1) y2 := by unfold k228_278; rw [if_pos c1]
    rw [q]; exact ⟨e, h⟩
  · refine l12f hi_228_278 (decide_eq_false c1) ?_
    refine l18 hi_228_281 ?_
    refine l35 hi_228_422 ⟨rfl, ?_⟩
    unfold k228_278; rw [if_neg c1]; exact hS
noncomputable def k228_263 (s : kS) (z0 : Int32) : kS × Int32 := ((k186 s 0).1, 0)
theorem lt228_263 {sc : Nat × (Nat → Int32)} {N d : Nat} {S0 S : am_S} {s : kS} {z0 : Int32} {o1 : Option Value} {o2 : Option Value} (hS : MK S0 S s) : am_L (am_PP sc) N d 228 263 [some (.ref 39), o1, o2] [.int z0] S (fun o S1 => o = some none ∧ MK S0 S1 (k228_263 s z0).1) := by
  refine l6i hi_228_263 ?_
  refine l2 (v := 39) hi_228_264 rfl ?_
  refine l0 hi_228_265 ?_
  refine l32 (as := [.ref 39, .int 0]) (la := [some (.ref 39), some (.int 0)]) (rest := []) hi_228_266 (am_hd0 (M := 228) (by decide) 266) rfl rfl rfl (fun N' d' _ => lt186 (N := N') (d := d') hS) ?_ (fun _ q => nomatch q.1)
  rintro v3 S1 ⟨ev3, h2⟩
  cases ev3
  show am_L _ _ _ _ _ [some (.ref 39), o1, o2] [] _ _
  refine l18 hi_228_269 ?_
  refine l35 hi_228_422 ⟨rfl, ?_⟩
  exact h2
noncomputable def k228_254 (s : kS) (y2 : Int32) : kS × Int32 := k228_263 ((k189 s 34 0 0 y2).1) ((k189 s 34 0 0 y2).2)
theorem lt228_254 {sc : Nat × (Nat → Int32)} {N d : Nat} {S0 S : am_S} {s : kS} {y2 : Int32} {o1 : Option Value} (hS : MK S0 S s) : am_L (am_PP sc) N d 228 254 [some (.ref 39), o1, some (.int y2)] [] S (fun o S1 => o = some none ∧ MK S0 S1 (k228_254 s y2).1) := by
  refine l2 (v := 39) hi_228_254 rfl ?_
  refine l0 hi_228_255 ?_
  refine l0 hi_228_257 ?_
  refine l0 hi_228_258 ?_
  refine l1 (v := y2) hi_228_259 rfl ?_
  refine l32 (as := [.ref 39, .int 34, .int 0, .int 0, .int y2]) (la := [some (.ref 39), some (.int 34), some (.int 0), some (.int 0), some (.int y2)]) (rest := []) hi_228_260 (am_hd0 (M := 228) (by decide) 260) rfl rfl rfl (fun N' d' _ => lt189 (N := N') (d := d') hS) ?_ (fun _ q => nomatch q.1)
  rintro v3 S1 ⟨ev3, h2⟩
  cases ev3
  show am_L _ _ _ _ _ [some (.ref 39), o1, some (.int y2)] [.int ((k189 s 34 0 0 y2).2)] _ _
  refine am_L.mono (lt228_263 h2) ?_
  rintro o S1 ⟨e, h⟩
  have q : k228_254 s y2 = k228_263 ((k189 s 34 0 0 y2).1) ((k189 s 34 0 0 y2).2) := rfl
  rw [q]; exact ⟨e, h⟩
noncomputable def k228_141 (s : kS) (y2 : Int32) (z0 : Int32) : kS × Int32 := if z0 = 0 then (s, 0) else ((k229 s (y2 + 1)).1, 0)
theorem lt228_141 {sc : Nat × (Nat → Int32)} {N d : Nat} {S0 S : am_S} {s : kS} {y2 : Int32} {z0 : Int32} {o1 : Option Value} (hS : MK S0 S s) : am_L (am_PP sc) N d 228 141 [some (.ref 39), o1, some (.int y2)] [.int z0] S (fun o S1 => o = some none ∧ MK S0 S1 (k228_141 s y2 z0).1) := by
  by_cases c1 : z0 = 0
  · refine l12t hi_228_141 (decide_eq_true c1) ?_
    refine l35 hi_228_422 ⟨rfl, ?_⟩
    unfold k228_141; rw [if_pos c1]; exact hS
  · refine l12f hi_228_141 (decide_eq_false c1) ?_
    refine l2 (v := 39) hi_228_144 rfl ?_
    refine l1 (v := y2) hi_228_145 rfl ?_
    refine l0 hi_228_146 ?_
    refine l10 hi_228_147 ?_
    show am_L _ _ _ _ _ [some (.ref 39), o1, some (.int y2)] [.int (y2 + 1), .ref 39] _ _
    refine l32 (as := [.ref 39, .int (y2 + 1)]) (la := [some (.ref 39), some (.int (y2 + 1)), none, none, none, none]) (rest := []) hi_228_148 (am_hd0 (M := 228) (by decide) 148) rfl rfl rfl (fun N' d' _ => lt229 (N := N') (d := d') hS) ?_ (fun _ q => nomatch q.1)
    rintro v4 S2 ⟨ev4, h3⟩
    cases ev4
    show am_L _ _ _ _ _ [some (.ref 39), o1, some (.int y2)] [] _ _
    refine l18 hi_228_151 ?_
    refine l35 hi_228_422 ⟨rfl, ?_⟩
    unfold k228_141; rw [if_neg c1]; exact h3
noncomputable def k228_132 (s : kS) (y2 : Int32) (z0 : Int32) : kS × Int32 := if z0 = 0 then (s, 0) else k228_141 ((k200 s 66).1) y2 ((k200 s 66).2)
theorem lt228_132 {sc : Nat × (Nat → Int32)} {N d : Nat} {S0 S : am_S} {s : kS} {y2 : Int32} {z0 : Int32} {o1 : Option Value} (hS : MK S0 S s) : am_L (am_PP sc) N d 228 132 [some (.ref 39), o1, some (.int y2)] [.int z0] S (fun o S1 => o = some none ∧ MK S0 S1 (k228_132 s y2 z0).1) := by
  by_cases c1 : z0 = 0
  · refine l12t hi_228_132 (decide_eq_true c1) ?_
    refine l35 hi_228_422 ⟨rfl, ?_⟩
    unfold k228_132; rw [if_pos c1]; exact hS
  · refine l12f hi_228_132 (decide_eq_false c1) ?_
    refine l2 (v := 39) hi_228_135 rfl ?_
    refine l0 hi_228_136 ?_
    refine l32 (as := [.ref 39, .int 66]) (la := [some (.ref 39), some (.int 66)]) (rest := []) hi_228_138 (am_hd0 (M := 228) (by decide) 138) rfl rfl rfl (fun N' d' _ => lt200 (N := N') (d := d') hS) ?_ (fun _ q => nomatch q.1)
    rintro v4 S2 ⟨ev4, h3⟩
    cases ev4
    show am_L _ _ _ _ _ [some (.ref 39), o1, some (.int y2)] [.int ((k200 s 66).2)] _ _
    refine am_L.mono (lt228_141 h3) ?_
    rintro o S1 ⟨e, h⟩
    have q : k228_132 s y2 z0 = k228_141 ((k200 s 66).1) y2 ((k200 s 66).2) := by unfold k228_132; rw [if_neg c1]
    rw [q]; exact ⟨e, h⟩
noncomputable def k228_409 (s : kS) : kS × Int32 := ((k201 ((k179 s 28 0 0 0).1)).1, 0)
theorem lt228_409 {sc : Nat × (Nat → Int32)} {N d : Nat} {S0 S : am_S} {s : kS} {o1 : Option Value} {o2 : Option Value} (hS : MK S0 S s) : am_L (am_PP sc) N d 228 409 [some (.ref 39), o1, o2] [] S (fun o S1 => o = some none ∧ MK S0 S1 (k228_409 s).1) := by
  refine l2 (v := 39) hi_228_409 rfl ?_
  refine l0 hi_228_410 ?_
  refine l0 hi_228_412 ?_
  refine l0 hi_228_413 ?_
  refine l0 hi_228_414 ?_
  refine l32 (as := [.ref 39, .int 28, .int 0, .int 0, .int 0]) (la := [some (.ref 39), some (.int 28), some (.int 0), some (.int 0), some (.int 0)]) (rest := []) hi_228_415 (am_hd0 (M := 228) (by decide) 415) rfl rfl rfl (fun N' d' _ => lt179 (N := N') (d := d') hS) ?_ (fun _ q => nomatch q.1)
  rintro v3 S1 ⟨ev3, h2⟩
  cases ev3
  show am_L _ _ _ _ _ [some (.ref 39), o1, o2] [] _ _
  refine l2 (v := 39) hi_228_418 rfl ?_
  refine l32 (as := [.ref 39]) (la := [some (.ref 39)]) (rest := []) hi_228_419 (am_hd0 (M := 228) (by decide) 419) rfl rfl rfl (fun N' d' _ => lt201 (N := N') (d := d') h2) ?_ (fun _ q => nomatch q.1)
  rintro v6 S4 ⟨ev6, h5⟩
  cases ev6
  show am_L _ _ _ _ _ [some (.ref 39), o1, o2] [] _ _
  refine l35 hi_228_422 ⟨rfl, ?_⟩
  exact h5
/-- statement(I)V -/
noncomputable def k228 (s : kS) (x1 : Int32) : kS × Int32 := if x1 = 11 then ((k233 (kf s 4 ((s.1 4) + 1)) (s.1 4)).1, 0) else if x1 = 12 then (k228_207 ((k193 s 12).1) ((k193 s 12).2)) else if x1 = 17 then ((k235 (kf s 4 ((s.1 4) + 1)) (s.1 4)).1, 0) else if x1 = 18 then (k228_368 ((k193 s 18).1) (s.1 4) ((k193 s 18).2)) else if x1 = 19 then (k228_187 ((k200 (kf s 4 ((s.1 4) + 1)) 1).1) (s.1 4) ((k200 (kf s 4 ((s.1 4) + 1)) 1).2)) else if x1 = 20 then (k228_336 ((k179 (kf s 4 ((s.1 4) + 1)) 7 0 0 0).1)) else if x1 = 22 then ((k238 (kf s 4 ((s.1 4) + 1)) (s.1 4)).1, 0) else if x1 = 26 then (k228_278 ((k193 s 26).1) (s.1 4) ((k193 s 26).2)) else if x1 = 31 then (k228_254 ((k179 (kf s 4 ((s.1 4) + 1)) 3 (k210 (kf s 4 ((s.1 4) + 1))) 0 0).1) (s.1 4)) else if x1 = 66 then (k228_132 ((k200 (kf s 4 ((s.1 4) + 1)) 1).1) (s.1 4) ((k200 (kf s 4 ((s.1 4) + 1)) 1).2)) else if x1 = 67 then (kf s 4 ((s.1 4) + 1), 0) else k228_409 ((k179 s 21 0 (s.1 20) 0).1)
theorem lt228 {sc : Nat × (Nat → Int32)} {N d : Nat} {S0 S : am_S} {s : kS} {x1 : Int32} (hS : MK S0 S s) : am_L (am_PP sc) N d 228 0 [some (.ref 39), some (.int x1), none] [] S (fun o S1 => o = some none ∧ MK S0 S1 (k228 s x1).1) := by
  refine l2 (v := 39) hi_228_0 rfl ?_
  refine l20 (v := .int (s.1 4)) hS hi_228_1 rfl ?_
  refine l3 (ls' := [some (.ref 39), some (.int x1), some (.int (s.1 4))]) hi_228_4 (Nat.le_of_ble_eq_true rfl) rfl ?_
  refine l1 (v := x1) hi_228_5 rfl ?_
  by_cases c1 : x1 = 11
  · refine l19 (t := 154) hi_228_6 (by rw [c1]; decide) ?_
    refine l2 (v := 39) hi_228_154 rfl ?_
    refine l7 hi_228_155 ?_
    refine l20 (v := .int (s.1 4)) hS hi_228_156 rfl ?_
    refine l0 hi_228_159 ?_
    refine l10 hi_228_160 ?_
    show am_L _ _ _ _ _ [some (.ref 39), some (.int x1), some (.int (s.1 4))] [.int ((s.1 4) + 1), .ref 39] _ _
    refine l21 hS hi_228_161 ms_4 fun S2 h3 => ?_
    refine l2 (v := 39) hi_228_164 rfl ?_
    refine l1 (v := s.1 4) hi_228_165 rfl ?_
    refine l32 (as := [.ref 39, .int (s.1 4)]) (la := [some (.ref 39), some (.int (s.1 4)), none]) (rest := []) hi_228_166 (am_hd0 (M := 228) (by decide) 166) rfl rfl rfl (fun N' d' _ => lt233 (N := N') (d := d') h3) ?_ (fun _ q => nomatch q.1)
    rintro v6 S4 ⟨ev6, h5⟩
    cases ev6
    show am_L _ _ _ _ _ [some (.ref 39), some (.int x1), some (.int (s.1 4))] [] _ _
    refine l18 hi_228_169 ?_
    refine l35 hi_228_422 ⟨rfl, ?_⟩
    unfold k228; rw [if_pos c1]; exact h5
  by_cases c7 : x1 = 12
  · refine l19 (t := 201) hi_228_6 (by rw [c7]; decide) ?_
    refine l2 (v := 39) hi_228_201 rfl ?_
    refine l0 hi_228_202 ?_
    refine l32 (as := [.ref 39, .int 12]) (la := [some (.ref 39), some (.int 12)]) (rest := []) hi_228_204 (am_hd0 (M := 228) (by decide) 204) rfl rfl rfl (fun N' d' _ => lt193 (N := N') (d := d') hS) ?_ (fun _ q => nomatch q.1)
    rintro v10 S8 ⟨ev10, h9⟩
    cases ev10
    show am_L _ _ _ _ _ [some (.ref 39), some (.int x1), some (.int (s.1 4))] [.int ((k193 s 12).2)] _ _
    refine am_L.mono (lt228_207 h9) ?_
    rintro o S1 ⟨e, h⟩
    have q : k228 s x1 = k228_207 ((k193 s 12).1) ((k193 s 12).2) := by unfold k228; rw [if_neg c1]; rw [if_pos c7]
    rw [q]; exact ⟨e, h⟩
  by_cases c11 : x1 = 17
  · refine l19 (t := 344) hi_228_6 (by rw [c11]; decide) ?_
    refine l2 (v := 39) hi_228_344 rfl ?_
    refine l7 hi_228_345 ?_
    refine l20 (v := .int (s.1 4)) hS hi_228_346 rfl ?_
    refine l0 hi_228_349 ?_
    refine l10 hi_228_350 ?_
    show am_L _ _ _ _ _ [some (.ref 39), some (.int x1), some (.int (s.1 4))] [.int ((s.1 4) + 1), .ref 39] _ _
    refine l21 hS hi_228_351 ms_4 fun S12 h13 => ?_
    refine l2 (v := 39) hi_228_354 rfl ?_
    refine l1 (v := s.1 4) hi_228_355 rfl ?_
    refine l32 (as := [.ref 39, .int (s.1 4)]) (la := [some (.ref 39), some (.int (s.1 4)), none, none]) (rest := []) hi_228_356 (am_hd0 (M := 228) (by decide) 356) rfl rfl rfl (fun N' d' _ => lt235 (N := N') (d := d') h13) ?_ (fun _ q => nomatch q.1)
    rintro v16 S14 ⟨ev16, h15⟩
    cases ev16
    show am_L _ _ _ _ _ [some (.ref 39), some (.int x1), some (.int (s.1 4))] [] _ _
    refine l18 hi_228_359 ?_
    refine l35 hi_228_422 ⟨rfl, ?_⟩
    unfold k228; rw [if_neg c1]; rw [if_neg c7]; rw [if_pos c11]; exact h15
  by_cases c17 : x1 = 18
  · refine l19 (t := 362) hi_228_6 (by rw [c17]; decide) ?_
    refine l2 (v := 39) hi_228_362 rfl ?_
    refine l0 hi_228_363 ?_
    refine l32 (as := [.ref 39, .int 18]) (la := [some (.ref 39), some (.int 18)]) (rest := []) hi_228_365 (am_hd0 (M := 228) (by decide) 365) rfl rfl rfl (fun N' d' _ => lt193 (N := N') (d := d') hS) ?_ (fun _ q => nomatch q.1)
    rintro v20 S18 ⟨ev20, h19⟩
    cases ev20
    show am_L _ _ _ _ _ [some (.ref 39), some (.int x1), some (.int (s.1 4))] [.int ((k193 s 18).2)] _ _
    refine am_L.mono (lt228_368 h19) ?_
    rintro o S1 ⟨e, h⟩
    have q : k228 s x1 = k228_368 ((k193 s 18).1) (s.1 4) ((k193 s 18).2) := by unfold k228; rw [if_neg c1]; rw [if_neg c7]; rw [if_neg c11]; rw [if_pos c17]
    rw [q]; exact ⟨e, h⟩
  by_cases c21 : x1 = 19
  · refine l19 (t := 172) hi_228_6 (by rw [c21]; decide) ?_
    refine l2 (v := 39) hi_228_172 rfl ?_
    refine l7 hi_228_173 ?_
    refine l20 (v := .int (s.1 4)) hS hi_228_174 rfl ?_
    refine l0 hi_228_177 ?_
    refine l10 hi_228_178 ?_
    show am_L _ _ _ _ _ [some (.ref 39), some (.int x1), some (.int (s.1 4))] [.int ((s.1 4) + 1), .ref 39] _ _
    refine l21 hS hi_228_179 ms_4 fun S22 h23 => ?_
    refine l2 (v := 39) hi_228_182 rfl ?_
    refine l0 hi_228_183 ?_
    refine l32 (as := [.ref 39, .int 1]) (la := [some (.ref 39), some (.int 1)]) (rest := []) hi_228_184 (am_hd0 (M := 228) (by decide) 184) rfl rfl rfl (fun N' d' _ => lt200 (N := N') (d := d') h23) ?_ (fun _ q => nomatch q.1)
    rintro v26 S24 ⟨ev26, h25⟩
    cases ev26
    show am_L _ _ _ _ _ [some (.ref 39), some (.int x1), some (.int (s.1 4))] [.int ((k200 (kf s 4 ((s.1 4) + 1)) 1).2)] _ _
    refine am_L.mono (lt228_187 h25) ?_
    rintro o S1 ⟨e, h⟩
    have q : k228 s x1 = k228_187 ((k200 (kf s 4 ((s.1 4) + 1)) 1).1) (s.1 4) ((k200 (kf s 4 ((s.1 4) + 1)) 1).2) := by unfold k228; rw [if_neg c1]; rw [if_neg c7]; rw [if_neg c11]; rw [if_neg c17]; rw [if_pos c21]
    rw [q]; exact ⟨e, h⟩
  by_cases c27 : x1 = 20
  · refine l19 (t := 317) hi_228_6 (by rw [c27]; decide) ?_
    refine l2 (v := 39) hi_228_317 rfl ?_
    refine l7 hi_228_318 ?_
    refine l20 (v := .int (s.1 4)) hS hi_228_319 rfl ?_
    refine l0 hi_228_322 ?_
    refine l10 hi_228_323 ?_
    show am_L _ _ _ _ _ [some (.ref 39), some (.int x1), some (.int (s.1 4))] [.int ((s.1 4) + 1), .ref 39] _ _
    refine l21 hS hi_228_324 ms_4 fun S28 h29 => ?_
    refine l2 (v := 39) hi_228_327 rfl ?_
    refine l0 hi_228_328 ?_
    refine l0 hi_228_330 ?_
    refine l0 hi_228_331 ?_
    refine l0 hi_228_332 ?_
    refine l32 (as := [.ref 39, .int 7, .int 0, .int 0, .int 0]) (la := [some (.ref 39), some (.int 7), some (.int 0), some (.int 0), some (.int 0)]) (rest := []) hi_228_333 (am_hd0 (M := 228) (by decide) 333) rfl rfl rfl (fun N' d' _ => lt179 (N := N') (d := d') h29) ?_ (fun _ q => nomatch q.1)
    rintro v32 S30 ⟨ev32, h31⟩
    cases ev32
    show am_L _ _ _ _ _ [some (.ref 39), some (.int x1), some (.int (s.1 4))] [] _ _
    refine am_L.mono (lt228_336 h31) ?_
    rintro o S1 ⟨e, h⟩
    have q : k228 s x1 = k228_336 ((k179 (kf s 4 ((s.1 4) + 1)) 7 0 0 0).1) := by unfold k228; rw [if_neg c1]; rw [if_neg c7]; rw [if_neg c11]; rw [if_neg c17]; rw [if_neg c21]; rw [if_pos c27]
    rw [q]; exact ⟨e, h⟩
  by_cases c33 : x1 = 22
  · refine l19 (t := 379) hi_228_6 (by rw [c33]; decide) ?_
    refine l2 (v := 39) hi_228_379 rfl ?_
    refine l7 hi_228_380 ?_
    refine l20 (v := .int (s.1 4)) hS hi_228_381 rfl ?_
    refine l0 hi_228_384 ?_
    refine l10 hi_228_385 ?_
    show am_L _ _ _ _ _ [some (.ref 39), some (.int x1), some (.int (s.1 4))] [.int ((s.1 4) + 1), .ref 39] _ _
    refine l21 hS hi_228_386 ms_4 fun S34 h35 => ?_
    refine l2 (v := 39) hi_228_389 rfl ?_
    refine l1 (v := s.1 4) hi_228_390 rfl ?_
    refine l32 (as := [.ref 39, .int (s.1 4)]) (la := [some (.ref 39), some (.int (s.1 4)), none, none, none, none, none, none]) (rest := []) hi_228_391 (am_hd0 (M := 228) (by decide) 391) rfl rfl rfl (fun N' d' _ => lt238 (N := N') (d := d') h35) ?_ (fun _ q => nomatch q.1)
    rintro v38 S36 ⟨ev38, h37⟩
    cases ev38
    show am_L _ _ _ _ _ [some (.ref 39), some (.int x1), some (.int (s.1 4))] [] _ _
    refine l18 hi_228_394 ?_
    refine l35 hi_228_422 ⟨rfl, ?_⟩
    unfold k228; rw [if_neg c1]; rw [if_neg c7]; rw [if_neg c11]; rw [if_neg c17]; rw [if_neg c21]; rw [if_neg c27]; rw [if_pos c33]; exact h37
  by_cases c39 : x1 = 26
  · refine l19 (t := 272) hi_228_6 (by rw [c39]; decide) ?_
    refine l2 (v := 39) hi_228_272 rfl ?_
    refine l0 hi_228_273 ?_
    refine l32 (as := [.ref 39, .int 26]) (la := [some (.ref 39), some (.int 26)]) (rest := []) hi_228_275 (am_hd0 (M := 228) (by decide) 275) rfl rfl rfl (fun N' d' _ => lt193 (N := N') (d := d') hS) ?_ (fun _ q => nomatch q.1)
    rintro v42 S40 ⟨ev42, h41⟩
    cases ev42
    show am_L _ _ _ _ _ [some (.ref 39), some (.int x1), some (.int (s.1 4))] [.int ((k193 s 26).2)] _ _
    refine am_L.mono (lt228_278 h41) ?_
    rintro o S1 ⟨e, h⟩
    have q : k228 s x1 = k228_278 ((k193 s 26).1) (s.1 4) ((k193 s 26).2) := by unfold k228; rw [if_neg c1]; rw [if_neg c7]; rw [if_neg c11]; rw [if_neg c17]; rw [if_neg c21]; rw [if_neg c27]; rw [if_neg c33]; rw [if_pos c39]
    rw [q]; exact ⟨e, h⟩
  by_cases c43 : x1 = 31
  · refine l19 (t := 233) hi_228_6 (by rw [c43]; decide) ?_
    refine l2 (v := 39) hi_228_233 rfl ?_
    refine l7 hi_228_234 ?_
    refine l20 (v := .int (s.1 4)) hS hi_228_235 rfl ?_
    refine l0 hi_228_238 ?_
    refine l10 hi_228_239 ?_
    show am_L _ _ _ _ _ [some (.ref 39), some (.int x1), some (.int (s.1 4))] [.int ((s.1 4) + 1), .ref 39] _ _
    refine l21 hS hi_228_240 ms_4 fun S44 h45 => ?_
    refine l2 (v := 39) hi_228_243 rfl ?_
    refine l0 hi_228_244 ?_
    refine l2 (v := 39) hi_228_245 rfl ?_
    refine l32 (as := [.ref 39]) (la := [some (.ref 39)]) (rest := [.int 3, .ref 39]) hi_228_246 (am_hd0 (M := 228) (by decide) 246) rfl rfl rfl (fun N' d' _ => lt210 (N := N') (d := d') h45) ?_ (fun _ q => nomatch q.1)
    rintro v48 S46 ⟨ev48, h47⟩
    cases ev48
    show am_L _ _ _ _ _ [some (.ref 39), some (.int x1), some (.int (s.1 4))] [.int (k210 (kf s 4 ((s.1 4) + 1))), .int 3, .ref 39] _ _
    refine l0 hi_228_249 ?_
    refine l0 hi_228_250 ?_
    refine l32 (as := [.ref 39, .int 3, .int (k210 (kf s 4 ((s.1 4) + 1))), .int 0, .int 0]) (la := [some (.ref 39), some (.int 3), some (.int (k210 (kf s 4 ((s.1 4) + 1)))), some (.int 0), some (.int 0)]) (rest := []) hi_228_251 (am_hd0 (M := 228) (by decide) 251) rfl rfl rfl (fun N' d' _ => lt179 (N := N') (d := d') h47) ?_ (fun _ q => nomatch q.1)
    rintro v51 S49 ⟨ev51, h50⟩
    cases ev51
    show am_L _ _ _ _ _ [some (.ref 39), some (.int x1), some (.int (s.1 4))] [] _ _
    refine am_L.mono (lt228_254 h50) ?_
    rintro o S1 ⟨e, h⟩
    have q : k228 s x1 = k228_254 ((k179 (kf s 4 ((s.1 4) + 1)) 3 (k210 (kf s 4 ((s.1 4) + 1))) 0 0).1) (s.1 4) := by unfold k228; rw [if_neg c1]; rw [if_neg c7]; rw [if_neg c11]; rw [if_neg c17]; rw [if_neg c21]; rw [if_neg c27]; rw [if_neg c33]; rw [if_neg c39]; rw [if_pos c43]
    rw [q]; exact ⟨e, h⟩
  by_cases c52 : x1 = 66
  · refine l19 (t := 117) hi_228_6 (by rw [c52]; decide) ?_
    refine l2 (v := 39) hi_228_117 rfl ?_
    refine l7 hi_228_118 ?_
    refine l20 (v := .int (s.1 4)) hS hi_228_119 rfl ?_
    refine l0 hi_228_122 ?_
    refine l10 hi_228_123 ?_
    show am_L _ _ _ _ _ [some (.ref 39), some (.int x1), some (.int (s.1 4))] [.int ((s.1 4) + 1), .ref 39] _ _
    refine l21 hS hi_228_124 ms_4 fun S53 h54 => ?_
    refine l2 (v := 39) hi_228_127 rfl ?_
    refine l0 hi_228_128 ?_
    refine l32 (as := [.ref 39, .int 1]) (la := [some (.ref 39), some (.int 1)]) (rest := []) hi_228_129 (am_hd0 (M := 228) (by decide) 129) rfl rfl rfl (fun N' d' _ => lt200 (N := N') (d := d') h54) ?_ (fun _ q => nomatch q.1)
    rintro v57 S55 ⟨ev57, h56⟩
    cases ev57
    show am_L _ _ _ _ _ [some (.ref 39), some (.int x1), some (.int (s.1 4))] [.int ((k200 (kf s 4 ((s.1 4) + 1)) 1).2)] _ _
    refine am_L.mono (lt228_132 h56) ?_
    rintro o S1 ⟨e, h⟩
    have q : k228 s x1 = k228_132 ((k200 (kf s 4 ((s.1 4) + 1)) 1).1) (s.1 4) ((k200 (kf s 4 ((s.1 4) + 1)) 1).2) := by unfold k228; rw [if_neg c1]; rw [if_neg c7]; rw [if_neg c11]; rw [if_neg c17]; rw [if_neg c21]; rw [if_neg c27]; rw [if_neg c33]; rw [if_neg c39]; rw [if_neg c43]; rw [if_pos c52]
    rw [q]; exact ⟨e, h⟩
  by_cases c58 : x1 = 67
  · refine l19 (t := 104) hi_228_6 (by rw [c58]; decide) ?_
    refine l2 (v := 39) hi_228_104 rfl ?_
    refine l7 hi_228_105 ?_
    refine l20 (v := .int (s.1 4)) hS hi_228_106 rfl ?_
    refine l0 hi_228_109 ?_
    refine l10 hi_228_110 ?_
    show am_L _ _ _ _ _ [some (.ref 39), some (.int x1), some (.int (s.1 4))] [.int ((s.1 4) + 1), .ref 39] _ _
    refine l21 hS hi_228_111 ms_4 fun S59 h60 => ?_
    refine l18 hi_228_114 ?_
    refine l35 hi_228_422 ⟨rfl, ?_⟩
    unfold k228; rw [if_neg c1]; rw [if_neg c7]; rw [if_neg c11]; rw [if_neg c17]; rw [if_neg c21]; rw [if_neg c27]; rw [if_neg c33]; rw [if_neg c39]; rw [if_neg c43]; rw [if_neg c52]; rw [if_pos c58]; exact h60
  refine l19 (t := 397) hi_228_6 (sw_not (ks := [11, 12, 17, 18, 19, 20, 22, 26, 31, 66, 67]) (by decide) (by intro k hk; simp only [List.mem_cons, List.not_mem_nil, or_false] at hk; rcases hk with rfl | rfl | rfl | rfl | rfl | rfl | rfl | rfl | rfl | rfl | rfl <;> first | exact c1 | exact c7 | exact c11 | exact c17 | exact c21 | exact c27 | exact c33 | exact c39 | exact c43 | exact c52 | exact c58)) ?_
  refine l2 (v := 39) hi_228_397 rfl ?_
  refine l0 hi_228_398 ?_
  refine l0 hi_228_400 ?_
  refine l2 (v := 39) hi_228_401 rfl ?_
  refine l20 (v := .int (s.1 20)) hS hi_228_402 rfl ?_
  refine l0 hi_228_405 ?_
  refine l32 (as := [.ref 39, .int 21, .int 0, .int (s.1 20), .int 0]) (la := [some (.ref 39), some (.int 21), some (.int 0), some (.int (s.1 20)), some (.int 0)]) (rest := []) hi_228_406 (am_hd0 (M := 228) (by decide) 406) rfl rfl rfl (fun N' d' _ => lt179 (N := N') (d := d') hS) ?_ (fun _ q => nomatch q.1)
  rintro v63 S61 ⟨ev63, h62⟩
  cases ev63
  show am_L _ _ _ _ _ [some (.ref 39), some (.int x1), some (.int (s.1 4))] [] _ _
  refine am_L.mono (lt228_409 h62) ?_
  rintro o S1 ⟨e, h⟩
  have q : k228 s x1 = k228_409 ((k179 s 21 0 (s.1 20) 0).1) := by unfold k228; rw [if_neg c1]; rw [if_neg c7]; rw [if_neg c11]; rw [if_neg c17]; rw [if_neg c21]; rw [if_neg c27]; rw [if_neg c33]; rw [if_neg c39]; rw [if_neg c43]; rw [if_neg c52]; rw [if_neg c58]
  rw [q]; exact ⟨e, h⟩
noncomputable def k225_28 (s : kS) (y1 : Int32) : kS × Int32 := ((k228 s y1).1, 0)
theorem lt225_28 {sc : Nat × (Nat → Int32)} {N d : Nat} {S0 S : am_S} {s : kS} {y1 : Int32} (hS : MK S0 S s) : am_L (am_PP sc) N d 225 28 [some (.ref 39), some (.int y1)] [] S (fun o S1 => o = some none ∧ MK S0 S1 (k225_28 s y1).1) := by
  refine l2 (v := 39) hi_225_28 rfl ?_
  refine l1 (v := y1) hi_225_29 rfl ?_
  refine l32 (as := [.ref 39, .int y1]) (la := [some (.ref 39), some (.int y1), none]) (rest := []) hi_225_30 (am_hd0 (M := 225) (by decide) 30) rfl rfl rfl (fun N' d' _ => lt228 (N := N') (d := d') hS) ?_ (fun _ q => nomatch q.1)
  rintro v3 S1 ⟨ev3, h2⟩
  cases ev3
  show am_L _ _ _ _ _ [some (.ref 39), some (.int y1)] [] _ _
  refine l35 hi_225_33 ⟨rfl, ?_⟩
  exact h2
/-- statements()V -/
noncomputable def k225 (s : kS) : kS × Int32 := if (k226 s (k183 s)) = 0 then if (k183 s) ≠ 27 then k225_28 ((k178 s).1) (k183 s) else ((k227 s).1, 0) else (s, 0)
theorem lt225 {sc : Nat × (Nat → Int32)} {N d : Nat} {S0 S : am_S} {s : kS} (hS : MK S0 S s) : am_L (am_PP sc) N d 225 0 [some (.ref 39), none] [] S (fun o S1 => o = some none ∧ MK S0 S1 (k225 s).1) := by
  refine l2 (v := 39) hi_225_0 rfl ?_
  refine l32 (as := [.ref 39]) (la := [some (.ref 39)]) (rest := []) hi_225_1 (am_hd0 (M := 225) (by decide) 1) rfl rfl rfl (fun N' d' _ => lt183 (N := N') (d := d') hS) ?_ (fun _ q => nomatch q.1)
  rintro v3 S1 ⟨ev3, h2⟩
  cases ev3
  show am_L _ _ _ _ _ [some (.ref 39), none] [.int (k183 s)] _ _
  refine l3 (ls' := [some (.ref 39), some (.int (k183 s))]) hi_225_4 (Nat.le_of_ble_eq_true rfl) rfl ?_
  refine l1 (v := k183 s) hi_225_5 rfl ?_
  refine l32 (as := [.int (k183 s)]) (la := [some (.int (k183 s))]) (rest := []) hi_225_6 (am_hd0 (M := 225) (by decide) 6) rfl rfl rfl (fun N' d' _ => lt226 (N := N') (d := d') h2) ?_ (fun _ q => nomatch q.1)
  rintro v6 S4 ⟨ev6, h5⟩
  cases ev6
  show am_L _ _ _ _ _ [some (.ref 39), some (.int (k183 s))] [.int (k226 s (k183 s))] _ _
  by_cases c7 : (k226 s (k183 s)) = 0
  · refine l12t hi_225_9 (decide_eq_true c7) ?_
    refine l1 (v := k183 s) hi_225_13 rfl ?_
    refine l0 hi_225_14 ?_
    by_cases c8 : (k183 s) ≠ 27
    · refine l13t hi_225_16 (decide_eq_true c8) ?_
      refine l2 (v := 39) hi_225_24 rfl ?_
      refine l32 (as := [.ref 39]) (la := [some (.ref 39)]) (rest := []) hi_225_25 (am_hd0 (M := 225) (by decide) 25) rfl rfl rfl (fun N' d' _ => lt178 (N := N') (d := d') h5) ?_ (fun _ q => nomatch q.1)
      rintro v11 S9 ⟨ev11, h10⟩
      cases ev11
      show am_L _ _ _ _ _ [some (.ref 39), some (.int (k183 s))] [] _ _
      refine am_L.mono (lt225_28 h10) ?_
      rintro o S1 ⟨e, h⟩
      have q : k225 s = k225_28 ((k178 s).1) (k183 s) := by unfold k225; rw [if_pos c7]; rw [if_pos c8]
      rw [q]; exact ⟨e, h⟩
    · refine l13f hi_225_16 (decide_eq_false c8) ?_
      refine l2 (v := 39) hi_225_19 rfl ?_
      refine l32 (as := [.ref 39]) (la := [some (.ref 39), none]) (rest := []) hi_225_20 (am_hd0 (M := 225) (by decide) 20) rfl rfl rfl (fun N' d' _ => lt227 (N := N') (d := d') h5) ?_ (fun _ q => nomatch q.1)
      rintro v14 S12 ⟨ev14, h13⟩
      cases ev14
      show am_L _ _ _ _ _ [some (.ref 39), some (.int (k183 s))] [] _ _
      refine l35 hi_225_23 ⟨rfl, ?_⟩
      unfold k225; rw [if_pos c7]; rw [if_neg c8]; exact h13
  · refine l12f hi_225_9 (decide_eq_false c7) ?_
    refine l35 hi_225_12 ⟨rfl, ?_⟩
    unfold k225; rw [if_neg c7]; exact h5
/-- hasLocals()Z -/
def k243 (s : kS) : Int32 := if (s.1 24) ≤ (kr s 38 ((s.1 37) - 1)) then 0 else 1
theorem lt243 {sc : Nat × (Nat → Int32)} {N d : Nat} {S0 S : am_S} {s : kS} (hS : MK S0 S s) : am_L (am_PP sc) N d 243 0 [some (.ref 39)] [] S (fun o S1 => o = some (some (.int (k243 s))) ∧ MK S0 S1 s) := by
  refine l2 (v := 39) hi_243_0 rfl ?_
  refine l20 (v := .int (s.1 24)) hS hi_243_1 rfl ?_
  refine l2 (v := 39) hi_243_4 rfl ?_
  refine l20 (v := .ref 62) hS hi_243_5 rfl ?_
  refine l2 (v := 39) hi_243_8 rfl ?_
  refine l20 (v := .int (s.1 37)) hS hi_243_9 rfl ?_
  refine l0 hi_243_12 ?_
  refine l10 hi_243_13 ?_
  show am_L _ _ _ _ _ [some (.ref 39)] [.int ((s.1 37) - 1), .ref 62, .int (s.1 24)] _ _
  refine l25 hS ma_38 hi_243_14 fun g1 g2 => ?_
  show am_L _ _ _ _ _ [some (.ref 39)] [.int (kr s 38 ((s.1 37) - 1)), .int (s.1 24)] _ _
  by_cases c3 : (s.1 24) ≤ (kr s 38 ((s.1 37) - 1))
  · refine l13t hi_243_15 (decide_eq_true c3) ?_
    refine l0 hi_243_22 ?_
    refine l36 hi_243_23 fun _ => ⟨?_, ?_⟩
    · unfold k243; rw [if_pos c3]
    · exact hS
  · refine l13f hi_243_15 (decide_eq_false c3) ?_
    refine l0 hi_243_18 ?_
    refine l18 hi_243_19 ?_
    refine l36 hi_243_23 fun _ => ⟨?_, ?_⟩
    · unfold k243; rw [if_neg c3]
    · exact hS
noncomputable def k242_19 (s : kS) (z0 : Int32) : kS × Int32 := ((k224 s).1, 0)
theorem lt242_19 {sc : Nat × (Nat → Int32)} {N d : Nat} {S0 S : am_S} {s : kS} {z0 : Int32} (hS : MK S0 S s) : am_L (am_PP sc) N d 242 19 [some (.ref 39)] [.int z0] S (fun o S1 => o = some none ∧ MK S0 S1 (k242_19 s z0).1) := by
  refine l6i hi_242_19 ?_
  refine l2 (v := 39) hi_242_20 rfl ?_
  refine l32 (as := [.ref 39]) (la := [some (.ref 39), none, none]) (rest := []) hi_242_21 (am_hd0 (M := 242) (by decide) 21) rfl rfl rfl (fun N' d' _ => lt224 (N := N') (d := d') hS) ?_ (fun _ q => nomatch q.1)
  rintro v3 S1 ⟨ev3, h2⟩
  cases ev3
  show am_L _ _ _ _ _ [some (.ref 39)] [] _ _
  refine l35 hi_242_24 ⟨rfl, ?_⟩
  exact h2
/-- endBlock()V -/
noncomputable def k242 (s : kS) : kS × Int32 := if (k243 s) = 0 then ((k224 s).1, 0) else k242_19 ((k189 s 33 (k232 s) 0 0).1) ((k189 s 33 (k232 s) 0 0).2)
theorem lt242 {sc : Nat × (Nat → Int32)} {N d : Nat} {S0 S : am_S} {s : kS} (hS : MK S0 S s) : am_L (am_PP sc) N d 242 0 [some (.ref 39)] [] S (fun o S1 => o = some none ∧ MK S0 S1 (k242 s).1) := by
  refine l2 (v := 39) hi_242_0 rfl ?_
  refine l32 (as := [.ref 39]) (la := [some (.ref 39)]) (rest := []) hi_242_1 (am_hd0 (M := 242) (by decide) 1) rfl rfl rfl (fun N' d' _ => lt243 (N := N') (d := d') hS) ?_ (fun _ q => nomatch q.1)
  rintro v3 S1 ⟨ev3, h2⟩
  cases ev3
  show am_L _ _ _ _ _ [some (.ref 39)] [.int (k243 s)] _ _
  by_cases c4 : (k243 s) = 0
  · refine l12t hi_242_4 (decide_eq_true c4) ?_
    refine l2 (v := 39) hi_242_20 rfl ?_
    refine l32 (as := [.ref 39]) (la := [some (.ref 39), none, none]) (rest := []) hi_242_21 (am_hd0 (M := 242) (by decide) 21) rfl rfl rfl (fun N' d' _ => lt224 (N := N') (d := d') h2) ?_ (fun _ q => nomatch q.1)
    rintro v7 S5 ⟨ev7, h6⟩
    cases ev7
    show am_L _ _ _ _ _ [some (.ref 39)] [] _ _
    refine l35 hi_242_24 ⟨rfl, ?_⟩
    unfold k242; rw [if_pos c4]; exact h6
  · refine l12f hi_242_4 (decide_eq_false c4) ?_
    refine l2 (v := 39) hi_242_7 rfl ?_
    refine l0 hi_242_8 ?_
    refine l2 (v := 39) hi_242_10 rfl ?_
    refine l32 (as := [.ref 39]) (la := [some (.ref 39)]) (rest := [.int 33, .ref 39]) hi_242_11 (am_hd0 (M := 242) (by decide) 11) rfl rfl rfl (fun N' d' _ => lt232 (N := N') (d := d') h2) ?_ (fun _ q => nomatch q.1)
    rintro v10 S8 ⟨ev10, h9⟩
    cases ev10
    show am_L _ _ _ _ _ [some (.ref 39)] [.int (k232 s), .int 33, .ref 39] _ _
    refine l0 hi_242_14 ?_
    refine l0 hi_242_15 ?_
    refine l32 (as := [.ref 39, .int 33, .int (k232 s), .int 0, .int 0]) (la := [some (.ref 39), some (.int 33), some (.int (k232 s)), some (.int 0), some (.int 0)]) (rest := []) hi_242_16 (am_hd0 (M := 242) (by decide) 16) rfl rfl rfl (fun N' d' _ => lt189 (N := N') (d := d') h9) ?_ (fun _ q => nomatch q.1)
    rintro v13 S11 ⟨ev13, h12⟩
    cases ev13
    show am_L _ _ _ _ _ [some (.ref 39)] [.int ((k189 s 33 (k232 s) 0 0).2)] _ _
    refine am_L.mono (lt242_19 h12) ?_
    rintro o S1 ⟨e, h⟩
    have q : k242 s = k242_19 ((k189 s 33 (k232 s) 0 0).1) ((k189 s 33 (k232 s) 0 0).2) := by unfold k242; rw [if_neg c4]
    rw [q]; exact ⟨e, h⟩
noncomputable def k244_29 (s : kS) (y1 : Int32) (y2 : Int32) : kS × Int32 := ((k178 ((k179 s 4 y2 y1 0).1)).1, 0)
theorem lt244_29 {sc : Nat × (Nat → Int32)} {N d : Nat} {S0 S : am_S} {s : kS} {y1 : Int32} {y2 : Int32} (hS : MK S0 S s) : am_L (am_PP sc) N d 244 29 [some (.ref 39), some (.int y1), some (.int y2)] [] S (fun o S1 => o = some none ∧ MK S0 S1 (k244_29 s y1 y2).1) := by
  refine l2 (v := 39) hi_244_29 rfl ?_
  refine l0 hi_244_30 ?_
  refine l1 (v := y2) hi_244_31 rfl ?_
  refine l1 (v := y1) hi_244_32 rfl ?_
  refine l0 hi_244_33 ?_
  refine l32 (as := [.ref 39, .int 4, .int y2, .int y1, .int 0]) (la := [some (.ref 39), some (.int 4), some (.int y2), some (.int y1), some (.int 0)]) (rest := []) hi_244_34 (am_hd0 (M := 244) (by decide) 34) rfl rfl rfl (fun N' d' _ => lt179 (N := N') (d := d') hS) ?_ (fun _ q => nomatch q.1)
  rintro v3 S1 ⟨ev3, h2⟩
  cases ev3
  show am_L _ _ _ _ _ [some (.ref 39), some (.int y1), some (.int y2)] [] _ _
  refine l2 (v := 39) hi_244_37 rfl ?_
  refine l32 (as := [.ref 39]) (la := [some (.ref 39)]) (rest := []) hi_244_38 (am_hd0 (M := 244) (by decide) 38) rfl rfl rfl (fun N' d' _ => lt178 (N := N') (d := d') h2) ?_ (fun _ q => nomatch q.1)
  rintro v6 S4 ⟨ev6, h5⟩
  cases ev6
  show am_L _ _ _ _ _ [some (.ref 39), some (.int y1), some (.int y2)] [] _ _
  refine l35 hi_244_41 ⟨rfl, ?_⟩
  exact h5
noncomputable def k244_23 (s : kS) (y1 : Int32) (z0 : Int32) : kS × Int32 := k244_29 ((k177 s 1).1) y1 z0
theorem lt244_23 {sc : Nat × (Nat → Int32)} {N d : Nat} {S0 S : am_S} {s : kS} {y1 : Int32} {z0 : Int32} {o2 : Option Value} (hS : MK S0 S s) : am_L (am_PP sc) N d 244 23 [some (.ref 39), some (.int y1), o2] [.int z0] S (fun o S1 => o = some none ∧ MK S0 S1 (k244_23 s y1 z0).1) := by
  refine l3 (ls' := [some (.ref 39), some (.int y1), some (.int z0)]) hi_244_23 (Nat.le_of_ble_eq_true rfl) rfl ?_
  refine l2 (v := 39) hi_244_24 rfl ?_
  refine l0 hi_244_25 ?_
  refine l32 (as := [.ref 39, .int 1]) (la := [some (.ref 39), some (.int 1)]) (rest := []) hi_244_26 (am_hd0 (M := 244) (by decide) 26) rfl rfl rfl (fun N' d' _ => lt177 (N := N') (d := d') hS) ?_ (fun _ q => nomatch q.1)
  rintro v3 S1 ⟨ev3, h2⟩
  cases ev3
  show am_L _ _ _ _ _ [some (.ref 39), some (.int y1), some (.int z0)] [] _ _
  refine am_L.mono (lt244_29 h2) ?_
  rintro o S1 ⟨e, h⟩
  have q : k244_23 s y1 z0 = k244_29 ((k177 s 1).1) y1 z0 := rfl
  rw [q]; exact ⟨e, h⟩
noncomputable def k244_10 (s : kS) (y1 : Int32) (z0 : Int32) : kS × Int32 := if z0 ≠ 0 then k244_23 ((k189 s 35 0 0 0).1) y1 ((k189 s 35 0 0 0).2) else (s, 0)
theorem lt244_10 {sc : Nat × (Nat → Int32)} {N d : Nat} {S0 S : am_S} {s : kS} {y1 : Int32} {z0 : Int32} {o2 : Option Value} (hS : MK S0 S s) : am_L (am_PP sc) N d 244 10 [some (.ref 39), some (.int y1), o2] [.int z0] S (fun o S1 => o = some none ∧ MK S0 S1 (k244_10 s y1 z0).1) := by
  by_cases c1 : z0 ≠ 0
  · refine l12t hi_244_10 (decide_eq_true c1) ?_
    refine l2 (v := 39) hi_244_14 rfl ?_
    refine l0 hi_244_15 ?_
    refine l0 hi_244_17 ?_
    refine l0 hi_244_18 ?_
    refine l0 hi_244_19 ?_
    refine l32 (as := [.ref 39, .int 35, .int 0, .int 0, .int 0]) (la := [some (.ref 39), some (.int 35), some (.int 0), some (.int 0), some (.int 0)]) (rest := []) hi_244_20 (am_hd0 (M := 244) (by decide) 20) rfl rfl rfl (fun N' d' _ => lt189 (N := N') (d := d') hS) ?_ (fun _ q => nomatch q.1)
    rintro v4 S2 ⟨ev4, h3⟩
    cases ev4
    show am_L _ _ _ _ _ [some (.ref 39), some (.int y1), o2] [.int ((k189 s 35 0 0 0).2)] _ _
    refine am_L.mono (lt244_23 h3) ?_
    rintro o S1 ⟨e, h⟩
    have q : k244_10 s y1 z0 = k244_23 ((k189 s 35 0 0 0).1) y1 ((k189 s 35 0 0 0).2) := by unfold k244_10; rw [if_pos c1]
    rw [q]; exact ⟨e, h⟩
  · refine l12f hi_244_10 (decide_eq_false c1) ?_
    refine l35 hi_244_13 ⟨rfl, ?_⟩
    unfold k244_10; rw [if_neg c1]; exact hS
noncomputable def k244_4 (s : kS) (y1 : Int32) : kS × Int32 := k244_10 ((k193 s 12).1) y1 ((k193 s 12).2)
theorem lt244_4 {sc : Nat × (Nat → Int32)} {N d : Nat} {S0 S : am_S} {s : kS} {y1 : Int32} {o2 : Option Value} (hS : MK S0 S s) : am_L (am_PP sc) N d 244 4 [some (.ref 39), some (.int y1), o2] [] S (fun o S1 => o = some none ∧ MK S0 S1 (k244_4 s y1).1) := by
  refine l2 (v := 39) hi_244_4 rfl ?_
  refine l0 hi_244_5 ?_
  refine l32 (as := [.ref 39, .int 12]) (la := [some (.ref 39), some (.int 12)]) (rest := []) hi_244_7 (am_hd0 (M := 244) (by decide) 7) rfl rfl rfl (fun N' d' _ => lt193 (N := N') (d := d') hS) ?_ (fun _ q => nomatch q.1)
  rintro v3 S1 ⟨ev3, h2⟩
  cases ev3
  show am_L _ _ _ _ _ [some (.ref 39), some (.int y1), o2] [.int ((k193 s 12).2)] _ _
  refine am_L.mono (lt244_10 h2) ?_
  rintro o S1 ⟨e, h⟩
  have q : k244_4 s y1 = k244_10 ((k193 s 12).1) y1 ((k193 s 12).2) := rfl
  rw [q]; exact ⟨e, h⟩
/-- whileDo(I)V -/
noncomputable def k244 (s : kS) (x1 : Int32) : kS × Int32 := k244_4 ((k209 s).1) x1
theorem lt244 {sc : Nat × (Nat → Int32)} {N d : Nat} {S0 S : am_S} {s : kS} {x1 : Int32} (hS : MK S0 S s) : am_L (am_PP sc) N d 244 0 [some (.ref 39), some (.int x1), none] [] S (fun o S1 => o = some none ∧ MK S0 S1 (k244 s x1).1) := by
  refine l2 (v := 39) hi_244_0 rfl ?_
  refine l32 (as := [.ref 39]) (la := [some (.ref 39)]) (rest := []) hi_244_1 (am_hd0 (M := 244) (by decide) 1) rfl rfl rfl (fun N' d' _ => lt209 (N := N') (d := d') hS) ?_ (fun _ q => nomatch q.1)
  rintro v3 S1 ⟨ev3, h2⟩
  cases ev3
  show am_L _ _ _ _ _ [some (.ref 39), some (.int x1), none] [] _ _
  refine am_L.mono (lt244_4 h2) ?_
  rintro o S1 ⟨e, h⟩
  have q : k244 s x1 = k244_4 ((k209 s).1) x1 := rfl
  rw [q]; exact ⟨e, h⟩
def k246b10 (t : kS × Int32) : Nat × (kS × Int32) := if t.2 ≤ 0 then (1, (t.1, t.2)) else (0, (ka t.1 71 (t.2 - 1) (k210 t.1), kr t.1 71 (t.2 - 1)))
theorem lb246_10 {sc : Nat × (Nat → Int32)} {d : Nat} {S0 : am_S} {Q : Option (Option Value) → am_S → Prop} : ∀ (N : Nat) (S : am_S) (o2 : Option Value) (t : kS × Int32), MK S0 S t.1 → (∀ m S1 (p2 : Option Value), (kwh k246b10 m t).1 = 1 → MK S0 S1 (kwh k246b10 m t).2.1 → am_L (am_PP sc) N d 246 40 [some (.ref 39), some (.int ((kwh k246b10 m t).2.2)), p2] [] S1 Q) → am_L (am_PP sc) N d 246 10 [some (.ref 39), some (.int t.2), o2] [] S Q := by
  intro N
  induction N with
  | zero => intros; exact l_zero
  | succ N ih =>
    intro S o2 t hS kx40
    refine l1d (v := t.2) hi_246_10 rfl ?_
    by_cases c1 : t.2 ≤ 0
    · refine l12t hi_246_11 (decide_eq_true c1) ?_
      have e0 : k246b10 t = (1, (t.1, t.2)) := by unfold k246b10; rw [if_pos c1]
      have e1 : kwh k246b10 1 t = (1, (t.1, t.2)) := by rw [kwh_out (by rw [e0]; exact Nat.succ_ne_zero _), e0]
      have q := kx40 1 _ o2 (by rw [e1]) (by rw [e1]; exact hS)
      rw [e1] at q
      exact q.less (Nat.le_succ N)
    · refine l12f hi_246_11 (decide_eq_false c1) ?_
      refine l2 (v := 39) hi_246_14 rfl ?_
      refine l20 (v := .ref 90) hS hi_246_15 rfl ?_
      refine l1 (v := t.2) hi_246_18 rfl ?_
      refine l0 hi_246_19 ?_
      refine l10 hi_246_20 ?_
      show am_L _ _ _ _ _ [some (.ref 39), some (.int t.2), o2] [.int (t.2 - 1), .ref 90] _ _
      refine l25 hS ma_71 hi_246_21 fun g2 g3 => ?_
      show am_L _ _ _ _ _ [some (.ref 39), some (.int t.2), o2] [.int (kr t.1 71 (t.2 - 1))] _ _
      refine l3 (ls' := [some (.ref 39), some (.int t.2), some (.int (kr t.1 71 (t.2 - 1)))]) hi_246_22 (Nat.le_of_ble_eq_true rfl) rfl ?_
      refine l2 (v := 39) hi_246_23 rfl ?_
      refine l20 (v := .ref 90) hS hi_246_24 rfl ?_
      refine l1 (v := t.2) hi_246_27 rfl ?_
      refine l0 hi_246_28 ?_
      refine l10 hi_246_29 ?_
      show am_L _ _ _ _ _ [some (.ref 39), some (.int t.2), some (.int (kr t.1 71 (t.2 - 1)))] [.int (t.2 - 1), .ref 90] _ _
      refine l2 (v := 39) hi_246_30 rfl ?_
      refine l32 (as := [.ref 39]) (la := [some (.ref 39)]) (rest := [.int (t.2 - 1), .ref 90]) hi_246_31 (am_hd0 (M := 246) (by decide) 31) rfl rfl rfl (fun N' d' _ => lt210 (N := N') (d := d') hS) ?_ (fun _ q => nomatch q.1)
      rintro v6 S4 ⟨ev6, h5⟩
      cases ev6
      show am_L _ _ _ _ _ [some (.ref 39), some (.int t.2), some (.int (kr t.1 71 (t.2 - 1)))] [.int (k210 t.1), .int (t.2 - 1), .ref 90] _ _
      refine l26 h5 ma_71 hi_246_34 fun S9 h10 g7 g8 => ?_
      refine l1 (v := kr t.1 71 (t.2 - 1)) hi_246_35 rfl ?_
      refine l3 (ls' := [some (.ref 39), some (.int (kr t.1 71 (t.2 - 1))), some (.int (kr t.1 71 (t.2 - 1)))]) hi_246_36 (Nat.le_of_ble_eq_true rfl) rfl ?_
      refine l18 hi_246_37 ?_
      have e0 : k246b10 t = (0, (ka t.1 71 (t.2 - 1) (k210 t.1), kr t.1 71 (t.2 - 1))) := by unfold k246b10; rw [if_neg c1]
      have e1 : ∀ m, kwh k246b10 (m + 1) t = kwh k246b10 m (ka t.1 71 (t.2 - 1) (k210 t.1), kr t.1 71 (t.2 - 1)) := fun m => by rw [kwh_go (by rw [e0]), e0]
      exact ih _ (some (.int (kr t.1 71 (t.2 - 1)))) (ka t.1 71 (t.2 - 1) (k210 t.1), kr t.1 71 (t.2 - 1)) h10 (fun m S1 p2 hm h1 => by have q := kx40 (m + 1) S1 p2 (by rw [e1]; exact hm) (by rw [e1]; exact h1); rw [e1] at q; exact q.less (Nat.le_succ N))
/-- mendBreaks()V -/
noncomputable def k246 (s : kS) : kS × Int32 := ((kfin k246b10 (s, kr s 43 (s.1 37))).2.1, 0)
theorem lt246 {sc : Nat × (Nat → Int32)} {N d : Nat} {S0 S : am_S} {s : kS} (hS : MK S0 S s) : am_L (am_PP sc) N d 246 0 [some (.ref 39), none, none] [] S (fun o S1 => o = some none ∧ MK S0 S1 (k246 s).1) := by
  refine l2 (v := 39) hi_246_0 rfl ?_
  refine l20 (v := .ref 67) hS hi_246_1 rfl ?_
  refine l2 (v := 39) hi_246_4 rfl ?_
  refine l20 (v := .int (s.1 37)) hS hi_246_5 rfl ?_
  refine l25 hS ma_43 hi_246_8 fun g1 g2 => ?_
  show am_L _ _ _ _ _ [some (.ref 39), none, none] [.int (kr s 43 (s.1 37))] _ _
  refine l3 (ls' := [some (.ref 39), some (.int (kr s 43 (s.1 37))), none]) hi_246_9 (Nat.le_of_ble_eq_true rfl) rfl ?_
  refine lb246_10 N _ none (s, kr s 43 (s.1 37)) hS ?_
  · intro m3 S4 p8 hm5 h6
    have hf7 : kfin k246b10 (s, kr s 43 (s.1 37)) = kwh k246b10 m3 (s, kr s 43 (s.1 37)) := kfin_eq (by rw [hm5]; decide)
    rw [← hf7] at hm5 h6 ⊢
    refine l35 hi_246_40 ⟨rfl, ?_⟩
    exact h6
noncomputable def k245_28 (s : kS) : kS × Int32 := ((k199 s 15).1, 0)
theorem lt245_28 {sc : Nat × (Nat → Int32)} {N d : Nat} {S0 S : am_S} {s : kS} {o1 : Option Value} {o2 : Option Value} (hS : MK S0 S s) : am_L (am_PP sc) N d 245 28 [some (.ref 39), o1, o2] [] S (fun o S1 => o = some none ∧ MK S0 S1 (k245_28 s).1) := by
  refine l2 (v := 39) hi_245_28 rfl ?_
  refine l0 hi_245_29 ?_
  refine l32 (as := [.ref 39, .int 15]) (la := [some (.ref 39), some (.int 15)]) (rest := []) hi_245_31 (am_hd0 (M := 245) (by decide) 31) rfl rfl rfl (fun N' d' _ => lt199 (N := N') (d := d') hS) ?_ (fun _ q => nomatch q.1)
  rintro v3 S1 ⟨ev3, h2⟩
  cases ev3
  show am_L _ _ _ _ _ [some (.ref 39), o1, o2] [.int ((k199 s 15).2)] _ _
  refine l6i hi_245_34 ?_
  refine l35 hi_245_35 ⟨rfl, ?_⟩
  exact h2
noncomputable def k245_13 (s : kS) (y1 : Int32) (z0 : Int32) : kS × Int32 := k245_28 ((k246 (ka s 71 y1 (k210 s))).1)
theorem lt245_13 {sc : Nat × (Nat → Int32)} {N d : Nat} {S0 S : am_S} {s : kS} {y1 : Int32} {z0 : Int32} {o2 : Option Value} (hS : MK S0 S s) : am_L (am_PP sc) N d 245 13 [some (.ref 39), some (.int y1), o2] [.int z0] S (fun o S1 => o = some none ∧ MK S0 S1 (k245_13 s y1 z0).1) := by
  refine l6i hi_245_13 ?_
  refine l2 (v := 39) hi_245_14 rfl ?_
  refine l20 (v := .ref 90) hS hi_245_15 rfl ?_
  refine l1 (v := y1) hi_245_18 rfl ?_
  refine l2 (v := 39) hi_245_19 rfl ?_
  refine l32 (as := [.ref 39]) (la := [some (.ref 39)]) (rest := [.int y1, .ref 90]) hi_245_20 (am_hd0 (M := 245) (by decide) 20) rfl rfl rfl (fun N' d' _ => lt210 (N := N') (d := d') hS) ?_ (fun _ q => nomatch q.1)
  rintro v3 S1 ⟨ev3, h2⟩
  cases ev3
  show am_L _ _ _ _ _ [some (.ref 39), some (.int y1), o2] [.int (k210 s), .int y1, .ref 90] _ _
  refine l26 h2 ma_71 hi_245_23 fun S6 h7 g4 g5 => ?_
  refine l2 (v := 39) hi_245_24 rfl ?_
  refine l32 (as := [.ref 39]) (la := [some (.ref 39), none, none]) (rest := []) hi_245_25 (am_hd0 (M := 245) (by decide) 25) rfl rfl rfl (fun N' d' _ => lt246 (N := N') (d := d') h7) ?_ (fun _ q => nomatch q.1)
  rintro v10 S8 ⟨ev10, h9⟩
  cases ev10
  show am_L _ _ _ _ _ [some (.ref 39), some (.int y1), o2] [] _ _
  refine am_L.mono (lt245_28 h9) ?_
  rintro o S1 ⟨e, h⟩
  have q : k245_13 s y1 z0 = k245_28 ((k246 (ka s 71 y1 (k210 s))).1) := rfl
  rw [q]; exact ⟨e, h⟩
noncomputable def k245_4 (s : kS) (y1 : Int32) (y2 : Int32) : kS × Int32 := k245_13 ((k189 s 36 y2 0 0).1) y1 ((k189 s 36 y2 0 0).2)
theorem lt245_4 {sc : Nat × (Nat → Int32)} {N d : Nat} {S0 S : am_S} {s : kS} {y1 : Int32} {y2 : Int32} (hS : MK S0 S s) : am_L (am_PP sc) N d 245 4 [some (.ref 39), some (.int y1), some (.int y2)] [] S (fun o S1 => o = some none ∧ MK S0 S1 (k245_4 s y1 y2).1) := by
  refine l2 (v := 39) hi_245_4 rfl ?_
  refine l0 hi_245_5 ?_
  refine l1 (v := y2) hi_245_7 rfl ?_
  refine l0 hi_245_8 ?_
  refine l0 hi_245_9 ?_
  refine l32 (as := [.ref 39, .int 36, .int y2, .int 0, .int 0]) (la := [some (.ref 39), some (.int 36), some (.int y2), some (.int 0), some (.int 0)]) (rest := []) hi_245_10 (am_hd0 (M := 245) (by decide) 10) rfl rfl rfl (fun N' d' _ => lt189 (N := N') (d := d') hS) ?_ (fun _ q => nomatch q.1)
  rintro v3 S1 ⟨ev3, h2⟩
  cases ev3
  show am_L _ _ _ _ _ [some (.ref 39), some (.int y1), some (.int y2)] [.int ((k189 s 36 y2 0 0).2)] _ _
  refine am_L.mono (lt245_13 h2) ?_
  rintro o S1 ⟨e, h⟩
  have q : k245_4 s y1 y2 = k245_13 ((k189 s 36 y2 0 0).1) y1 ((k189 s 36 y2 0 0).2) := rfl
  rw [q]; exact ⟨e, h⟩
/-- whileEnd(II)V -/
noncomputable def k245 (s : kS) (x1 : Int32) (x2 : Int32) : kS × Int32 := k245_4 ((k242 s).1) x1 x2
theorem lt245 {sc : Nat × (Nat → Int32)} {N d : Nat} {S0 S : am_S} {s : kS} {x1 : Int32} {x2 : Int32} (hS : MK S0 S s) : am_L (am_PP sc) N d 245 0 [some (.ref 39), some (.int x1), some (.int x2)] [] S (fun o S1 => o = some none ∧ MK S0 S1 (k245 s x1 x2).1) := by
  refine l2 (v := 39) hi_245_0 rfl ?_
  refine l32 (as := [.ref 39]) (la := [some (.ref 39)]) (rest := []) hi_245_1 (am_hd0 (M := 245) (by decide) 1) rfl rfl rfl (fun N' d' _ => lt242 (N := N') (d := d') hS) ?_ (fun _ q => nomatch q.1)
  rintro v3 S1 ⟨ev3, h2⟩
  cases ev3
  show am_L _ _ _ _ _ [some (.ref 39), some (.int x1), some (.int x2)] [] _ _
  refine am_L.mono (lt245_4 h2) ?_
  rintro o S1 ⟨e, h⟩
  have q : k245 s x1 x2 = k245_4 ((k242 s).1) x1 x2 := rfl
  rw [q]; exact ⟨e, h⟩
noncomputable def k247_80 (s : kS) : kS × Int32 := ((k246 ((k224 s).1)).1, 0)
theorem lt247_80 {sc : Nat × (Nat → Int32)} {N d : Nat} {S0 S : am_S} {s : kS} {o1 : Option Value} {o2 : Option Value} (hS : MK S0 S s) : am_L (am_PP sc) N d 247 80 [some (.ref 39), o1, o2] [] S (fun o S1 => o = some none ∧ MK S0 S1 (k247_80 s).1) := by
  refine l2 (v := 39) hi_247_80 rfl ?_
  refine l32 (as := [.ref 39]) (la := [some (.ref 39), none, none]) (rest := []) hi_247_81 (am_hd0 (M := 247) (by decide) 81) rfl rfl rfl (fun N' d' _ => lt224 (N := N') (d := d') hS) ?_ (fun _ q => nomatch q.1)
  rintro v3 S1 ⟨ev3, h2⟩
  cases ev3
  show am_L _ _ _ _ _ [some (.ref 39), o1, o2] [] _ _
  refine l2 (v := 39) hi_247_84 rfl ?_
  refine l32 (as := [.ref 39]) (la := [some (.ref 39), none, none]) (rest := []) hi_247_85 (am_hd0 (M := 247) (by decide) 85) rfl rfl rfl (fun N' d' _ => lt246 (N := N') (d := d') h2) ?_ (fun _ q => nomatch q.1)
  rintro v6 S4 ⟨ev6, h5⟩
  cases ev6
  show am_L _ _ _ _ _ [some (.ref 39), o1, o2] [] _ _
  refine l35 hi_247_88 ⟨rfl, ?_⟩
  exact h5
noncomputable def k247_79 (s : kS) (z0 : Int32) : kS × Int32 := k247_80 s
theorem lt247_79 {sc : Nat × (Nat → Int32)} {N d : Nat} {S0 S : am_S} {s : kS} {z0 : Int32} {o1 : Option Value} {o2 : Option Value} (hS : MK S0 S s) : am_L (am_PP sc) N d 247 79 [some (.ref 39), o1, o2] [.int z0] S (fun o S1 => o = some none ∧ MK S0 S1 (k247_79 s z0).1) := by
  refine l6i hi_247_79 ?_
  refine am_L.mono (lt247_80 hS) ?_
  rintro o S1 ⟨e, h⟩
  have q : k247_79 s z0 = k247_80 s := rfl
  rw [q]; exact ⟨e, h⟩
noncomputable def k247_66 (s : kS) (z0 : Int32) : kS × Int32 := k247_80 s
theorem lt247_66 {sc : Nat × (Nat → Int32)} {N d : Nat} {S0 S : am_S} {s : kS} {z0 : Int32} {o1 : Option Value} {o2 : Option Value} (hS : MK S0 S s) : am_L (am_PP sc) N d 247 66 [some (.ref 39), o1, o2] [.int z0] S (fun o S1 => o = some none ∧ MK S0 S1 (k247_66 s z0).1) := by
  refine l6i hi_247_66 ?_
  refine l18 hi_247_67 ?_
  refine am_L.mono (lt247_80 hS) ?_
  rintro o S1 ⟨e, h⟩
  have q : k247_66 s z0 = k247_80 s := rfl
  rw [q]; exact ⟨e, h⟩
noncomputable def k247_43 (s : kS) (y2 : Int32) (z0 : Int32) : kS × Int32 := k247_66 ((k189 (ka s 71 y2 (k210 s)) 33 (k232 (ka s 71 y2 (k210 s))) 0 0).1) ((k189 (ka s 71 y2 (k210 s)) 33 (k232 (ka s 71 y2 (k210 s))) 0 0).2)
theorem lt247_43 {sc : Nat × (Nat → Int32)} {N d : Nat} {S0 S : am_S} {s : kS} {y2 : Int32} {z0 : Int32} {o1 : Option Value} (hS : MK S0 S s) : am_L (am_PP sc) N d 247 43 [some (.ref 39), o1, some (.int y2)] [.int z0] S (fun o S1 => o = some none ∧ MK S0 S1 (k247_43 s y2 z0).1) := by
  refine l6i hi_247_43 ?_
  refine l2 (v := 39) hi_247_44 rfl ?_
  refine l20 (v := .ref 90) hS hi_247_45 rfl ?_
  refine l1 (v := y2) hi_247_48 rfl ?_
  refine l2 (v := 39) hi_247_49 rfl ?_
  refine l32 (as := [.ref 39]) (la := [some (.ref 39)]) (rest := [.int y2, .ref 90]) hi_247_50 (am_hd0 (M := 247) (by decide) 50) rfl rfl rfl (fun N' d' _ => lt210 (N := N') (d := d') hS) ?_ (fun _ q => nomatch q.1)
  rintro v3 S1 ⟨ev3, h2⟩
  cases ev3
  show am_L _ _ _ _ _ [some (.ref 39), o1, some (.int y2)] [.int (k210 s), .int y2, .ref 90] _ _
  refine l26 h2 ma_71 hi_247_53 fun S6 h7 g4 g5 => ?_
  refine l2 (v := 39) hi_247_54 rfl ?_
  refine l0 hi_247_55 ?_
  refine l2 (v := 39) hi_247_57 rfl ?_
  refine l32 (as := [.ref 39]) (la := [some (.ref 39)]) (rest := [.int 33, .ref 39]) hi_247_58 (am_hd0 (M := 247) (by decide) 58) rfl rfl rfl (fun N' d' _ => lt232 (N := N') (d := d') h7) ?_ (fun _ q => nomatch q.1)
  rintro v10 S8 ⟨ev10, h9⟩
  cases ev10
  show am_L _ _ _ _ _ [some (.ref 39), o1, some (.int y2)] [.int (k232 (ka s 71 y2 (k210 s))), .int 33, .ref 39] _ _
  refine l0 hi_247_61 ?_
  refine l0 hi_247_62 ?_
  refine l32 (as := [.ref 39, .int 33, .int (k232 (ka s 71 y2 (k210 s))), .int 0, .int 0]) (la := [some (.ref 39), some (.int 33), some (.int (k232 (ka s 71 y2 (k210 s)))), some (.int 0), some (.int 0)]) (rest := []) hi_247_63 (am_hd0 (M := 247) (by decide) 63) rfl rfl rfl (fun N' d' _ => lt189 (N := N') (d := d') h9) ?_ (fun _ q => nomatch q.1)
  rintro v13 S11 ⟨ev13, h12⟩
  cases ev13
  show am_L _ _ _ _ _ [some (.ref 39), o1, some (.int y2)] [.int ((k189 (ka s 71 y2 (k210 s)) 33 (k232 (ka s 71 y2 (k210 s))) 0 0).2)] _ _
  refine am_L.mono (lt247_66 h12) ?_
  rintro o S1 ⟨e, h⟩
  have q : k247_43 s y2 z0 = k247_66 ((k189 (ka s 71 y2 (k210 s)) 33 (k232 (ka s 71 y2 (k210 s))) 0 0).1) ((k189 (ka s 71 y2 (k210 s)) 33 (k232 (ka s 71 y2 (k210 s))) 0 0).2) := rfl
  rw [q]; exact ⟨e, h⟩
noncomputable def k247_33 (s : kS) (y1 : Int32) (y2 : Int32) (z0 : Int32) : kS × Int32 := k247_43 ((k189 s 36 y1 0 0).1) y2 ((k189 s 36 y1 0 0).2)
theorem lt247_33 {sc : Nat × (Nat → Int32)} {N d : Nat} {S0 S : am_S} {s : kS} {y1 : Int32} {y2 : Int32} {z0 : Int32} (hS : MK S0 S s) : am_L (am_PP sc) N d 247 33 [some (.ref 39), some (.int y1), some (.int y2)] [.int z0] S (fun o S1 => o = some none ∧ MK S0 S1 (k247_33 s y1 y2 z0).1) := by
  refine l6i hi_247_33 ?_
  refine l2 (v := 39) hi_247_34 rfl ?_
  refine l0 hi_247_35 ?_
  refine l1 (v := y1) hi_247_37 rfl ?_
  refine l0 hi_247_38 ?_
  refine l0 hi_247_39 ?_
  refine l32 (as := [.ref 39, .int 36, .int y1, .int 0, .int 0]) (la := [some (.ref 39), some (.int 36), some (.int y1), some (.int 0), some (.int 0)]) (rest := []) hi_247_40 (am_hd0 (M := 247) (by decide) 40) rfl rfl rfl (fun N' d' _ => lt189 (N := N') (d := d') hS) ?_ (fun _ q => nomatch q.1)
  rintro v3 S1 ⟨ev3, h2⟩
  cases ev3
  show am_L _ _ _ _ _ [some (.ref 39), some (.int y1), some (.int y2)] [.int ((k189 s 36 y1 0 0).2)] _ _
  refine am_L.mono (lt247_43 h2) ?_
  rintro o S1 ⟨e, h⟩
  have q : k247_33 s y1 y2 z0 = k247_43 ((k189 s 36 y1 0 0).1) y2 ((k189 s 36 y1 0 0).2) := rfl
  rw [q]; exact ⟨e, h⟩
noncomputable def k247_20 (s : kS) (y1 : Int32) (z0 : Int32) : kS × Int32 := k247_33 ((k189 s 33 (k232 s) 0 0).1) y1 z0 ((k189 s 33 (k232 s) 0 0).2)
theorem lt247_20 {sc : Nat × (Nat → Int32)} {N d : Nat} {S0 S : am_S} {s : kS} {y1 : Int32} {z0 : Int32} {o2 : Option Value} (hS : MK S0 S s) : am_L (am_PP sc) N d 247 20 [some (.ref 39), some (.int y1), o2] [.int z0] S (fun o S1 => o = some none ∧ MK S0 S1 (k247_20 s y1 z0).1) := by
  refine l3 (ls' := [some (.ref 39), some (.int y1), some (.int z0)]) hi_247_20 (Nat.le_of_ble_eq_true rfl) rfl ?_
  refine l2 (v := 39) hi_247_21 rfl ?_
  refine l0 hi_247_22 ?_
  refine l2 (v := 39) hi_247_24 rfl ?_
  refine l32 (as := [.ref 39]) (la := [some (.ref 39)]) (rest := [.int 33, .ref 39]) hi_247_25 (am_hd0 (M := 247) (by decide) 25) rfl rfl rfl (fun N' d' _ => lt232 (N := N') (d := d') hS) ?_ (fun _ q => nomatch q.1)
  rintro v3 S1 ⟨ev3, h2⟩
  cases ev3
  show am_L _ _ _ _ _ [some (.ref 39), some (.int y1), some (.int z0)] [.int (k232 s), .int 33, .ref 39] _ _
  refine l0 hi_247_28 ?_
  refine l0 hi_247_29 ?_
  refine l32 (as := [.ref 39, .int 33, .int (k232 s), .int 0, .int 0]) (la := [some (.ref 39), some (.int 33), some (.int (k232 s)), some (.int 0), some (.int 0)]) (rest := []) hi_247_30 (am_hd0 (M := 247) (by decide) 30) rfl rfl rfl (fun N' d' _ => lt189 (N := N') (d := d') h2) ?_ (fun _ q => nomatch q.1)
  rintro v6 S4 ⟨ev6, h5⟩
  cases ev6
  show am_L _ _ _ _ _ [some (.ref 39), some (.int y1), some (.int z0)] [.int ((k189 s 33 (k232 s) 0 0).2)] _ _
  refine am_L.mono (lt247_33 h5) ?_
  rintro o S1 ⟨e, h⟩
  have q : k247_20 s y1 z0 = k247_33 ((k189 s 33 (k232 s) 0 0).1) y1 z0 ((k189 s 33 (k232 s) 0 0).2) := rfl
  rw [q]; exact ⟨e, h⟩
noncomputable def k247_4 (s : kS) (y1 : Int32) : kS × Int32 := if (k243 s) = 0 then k247_79 ((k189 s 35 y1 0 0).1) ((k189 s 35 y1 0 0).2) else k247_20 ((k189 s 37 0 0 0).1) y1 ((k189 s 37 0 0 0).2)
theorem lt247_4 {sc : Nat × (Nat → Int32)} {N d : Nat} {S0 S : am_S} {s : kS} {y1 : Int32} {o2 : Option Value} (hS : MK S0 S s) : am_L (am_PP sc) N d 247 4 [some (.ref 39), some (.int y1), o2] [] S (fun o S1 => o = some none ∧ MK S0 S1 (k247_4 s y1).1) := by
  refine l2 (v := 39) hi_247_4 rfl ?_
  refine l32 (as := [.ref 39]) (la := [some (.ref 39)]) (rest := []) hi_247_5 (am_hd0 (M := 247) (by decide) 5) rfl rfl rfl (fun N' d' _ => lt243 (N := N') (d := d') hS) ?_ (fun _ q => nomatch q.1)
  rintro v3 S1 ⟨ev3, h2⟩
  cases ev3
  show am_L _ _ _ _ _ [some (.ref 39), some (.int y1), o2] [.int (k243 s)] _ _
  by_cases c4 : (k243 s) = 0
  · refine l12t hi_247_8 (decide_eq_true c4) ?_
    refine l2 (v := 39) hi_247_70 rfl ?_
    refine l0 hi_247_71 ?_
    refine l1 (v := y1) hi_247_73 rfl ?_
    refine l0 hi_247_74 ?_
    refine l0 hi_247_75 ?_
    refine l32 (as := [.ref 39, .int 35, .int y1, .int 0, .int 0]) (la := [some (.ref 39), some (.int 35), some (.int y1), some (.int 0), some (.int 0)]) (rest := []) hi_247_76 (am_hd0 (M := 247) (by decide) 76) rfl rfl rfl (fun N' d' _ => lt189 (N := N') (d := d') h2) ?_ (fun _ q => nomatch q.1)
    rintro v7 S5 ⟨ev7, h6⟩
    cases ev7
    show am_L _ _ _ _ _ [some (.ref 39), some (.int y1), o2] [.int ((k189 s 35 y1 0 0).2)] _ _
    refine am_L.mono (lt247_79 h6) ?_
    rintro o S1 ⟨e, h⟩
    have q : k247_4 s y1 = k247_79 ((k189 s 35 y1 0 0).1) ((k189 s 35 y1 0 0).2) := by unfold k247_4; rw [if_pos c4]
    rw [q]; exact ⟨e, h⟩
  · refine l12f hi_247_8 (decide_eq_false c4) ?_
    refine l2 (v := 39) hi_247_11 rfl ?_
    refine l0 hi_247_12 ?_
    refine l0 hi_247_14 ?_
    refine l0 hi_247_15 ?_
    refine l0 hi_247_16 ?_
    refine l32 (as := [.ref 39, .int 37, .int 0, .int 0, .int 0]) (la := [some (.ref 39), some (.int 37), some (.int 0), some (.int 0), some (.int 0)]) (rest := []) hi_247_17 (am_hd0 (M := 247) (by decide) 17) rfl rfl rfl (fun N' d' _ => lt189 (N := N') (d := d') h2) ?_ (fun _ q => nomatch q.1)
    rintro v10 S8 ⟨ev10, h9⟩
    cases ev10
    show am_L _ _ _ _ _ [some (.ref 39), some (.int y1), o2] [.int ((k189 s 37 0 0 0).2)] _ _
    refine am_L.mono (lt247_20 h9) ?_
    rintro o S1 ⟨e, h⟩
    have q : k247_4 s y1 = k247_20 ((k189 s 37 0 0 0).1) y1 ((k189 s 37 0 0 0).2) := by unfold k247_4; rw [if_neg c4]
    rw [q]; exact ⟨e, h⟩
/-- repeatEnd(I)V -/
noncomputable def k247 (s : kS) (x1 : Int32) : kS × Int32 := k247_4 ((k209 s).1) x1
theorem lt247 {sc : Nat × (Nat → Int32)} {N d : Nat} {S0 S : am_S} {s : kS} {x1 : Int32} (hS : MK S0 S s) : am_L (am_PP sc) N d 247 0 [some (.ref 39), some (.int x1), none] [] S (fun o S1 => o = some none ∧ MK S0 S1 (k247 s x1).1) := by
  refine l2 (v := 39) hi_247_0 rfl ?_
  refine l32 (as := [.ref 39]) (la := [some (.ref 39)]) (rest := []) hi_247_1 (am_hd0 (M := 247) (by decide) 1) rfl rfl rfl (fun N' d' _ => lt209 (N := N') (d := d') hS) ?_ (fun _ q => nomatch q.1)
  rintro v3 S1 ⟨ev3, h2⟩
  cases ev3
  show am_L _ _ _ _ _ [some (.ref 39), some (.int x1), none] [] _ _
  refine am_L.mono (lt247_4 h2) ?_
  rintro o S1 ⟨e, h⟩
  have q : k247 s x1 = k247_4 ((k209 s).1) x1 := rfl
  rw [q]; exact ⟨e, h⟩
noncomputable def k248_29 (s : kS) (y1 : Int32) (y2 : Int32) : kS × Int32 := ((k178 ((k179 s 8 y2 y1 0).1)).1, 0)
theorem lt248_29 {sc : Nat × (Nat → Int32)} {N d : Nat} {S0 S : am_S} {s : kS} {y1 : Int32} {y2 : Int32} (hS : MK S0 S s) : am_L (am_PP sc) N d 248 29 [some (.ref 39), some (.int y1), some (.int y2)] [] S (fun o S1 => o = some none ∧ MK S0 S1 (k248_29 s y1 y2).1) := by
  refine l2 (v := 39) hi_248_29 rfl ?_
  refine l0 hi_248_30 ?_
  refine l1 (v := y2) hi_248_32 rfl ?_
  refine l1 (v := y1) hi_248_33 rfl ?_
  refine l0 hi_248_34 ?_
  refine l32 (as := [.ref 39, .int 8, .int y2, .int y1, .int 0]) (la := [some (.ref 39), some (.int 8), some (.int y2), some (.int y1), some (.int 0)]) (rest := []) hi_248_35 (am_hd0 (M := 248) (by decide) 35) rfl rfl rfl (fun N' d' _ => lt179 (N := N') (d := d') hS) ?_ (fun _ q => nomatch q.1)
  rintro v3 S1 ⟨ev3, h2⟩
  cases ev3
  show am_L _ _ _ _ _ [some (.ref 39), some (.int y1), some (.int y2)] [] _ _
  refine l2 (v := 39) hi_248_38 rfl ?_
  refine l32 (as := [.ref 39]) (la := [some (.ref 39)]) (rest := []) hi_248_39 (am_hd0 (M := 248) (by decide) 39) rfl rfl rfl (fun N' d' _ => lt178 (N := N') (d := d') h2) ?_ (fun _ q => nomatch q.1)
  rintro v6 S4 ⟨ev6, h5⟩
  cases ev6
  show am_L _ _ _ _ _ [some (.ref 39), some (.int y1), some (.int y2)] [] _ _
  refine l35 hi_248_42 ⟨rfl, ?_⟩
  exact h5
noncomputable def k248_23 (s : kS) (y1 : Int32) (z0 : Int32) : kS × Int32 := k248_29 ((k177 s 0).1) y1 z0
theorem lt248_23 {sc : Nat × (Nat → Int32)} {N d : Nat} {S0 S : am_S} {s : kS} {y1 : Int32} {z0 : Int32} {o2 : Option Value} (hS : MK S0 S s) : am_L (am_PP sc) N d 248 23 [some (.ref 39), some (.int y1), o2] [.int z0] S (fun o S1 => o = some none ∧ MK S0 S1 (k248_23 s y1 z0).1) := by
  refine l3 (ls' := [some (.ref 39), some (.int y1), some (.int z0)]) hi_248_23 (Nat.le_of_ble_eq_true rfl) rfl ?_
  refine l2 (v := 39) hi_248_24 rfl ?_
  refine l0 hi_248_25 ?_
  refine l32 (as := [.ref 39, .int 0]) (la := [some (.ref 39), some (.int 0)]) (rest := []) hi_248_26 (am_hd0 (M := 248) (by decide) 26) rfl rfl rfl (fun N' d' _ => lt177 (N := N') (d := d') hS) ?_ (fun _ q => nomatch q.1)
  rintro v3 S1 ⟨ev3, h2⟩
  cases ev3
  show am_L _ _ _ _ _ [some (.ref 39), some (.int y1), some (.int z0)] [] _ _
  refine am_L.mono (lt248_29 h2) ?_
  rintro o S1 ⟨e, h⟩
  have q : k248_23 s y1 z0 = k248_29 ((k177 s 0).1) y1 z0 := rfl
  rw [q]; exact ⟨e, h⟩
noncomputable def k248_10 (s : kS) (y1 : Int32) (z0 : Int32) : kS × Int32 := if z0 ≠ 0 then k248_23 ((k189 s 35 0 0 0).1) y1 ((k189 s 35 0 0 0).2) else (s, 0)
theorem lt248_10 {sc : Nat × (Nat → Int32)} {N d : Nat} {S0 S : am_S} {s : kS} {y1 : Int32} {z0 : Int32} {o2 : Option Value} (hS : MK S0 S s) : am_L (am_PP sc) N d 248 10 [some (.ref 39), some (.int y1), o2] [.int z0] S (fun o S1 => o = some none ∧ MK S0 S1 (k248_10 s y1 z0).1) := by
  by_cases c1 : z0 ≠ 0
  · refine l12t hi_248_10 (decide_eq_true c1) ?_
    refine l2 (v := 39) hi_248_14 rfl ?_
    refine l0 hi_248_15 ?_
    refine l0 hi_248_17 ?_
    refine l0 hi_248_18 ?_
    refine l0 hi_248_19 ?_
    refine l32 (as := [.ref 39, .int 35, .int 0, .int 0, .int 0]) (la := [some (.ref 39), some (.int 35), some (.int 0), some (.int 0), some (.int 0)]) (rest := []) hi_248_20 (am_hd0 (M := 248) (by decide) 20) rfl rfl rfl (fun N' d' _ => lt189 (N := N') (d := d') hS) ?_ (fun _ q => nomatch q.1)
    rintro v4 S2 ⟨ev4, h3⟩
    cases ev4
    show am_L _ _ _ _ _ [some (.ref 39), some (.int y1), o2] [.int ((k189 s 35 0 0 0).2)] _ _
    refine am_L.mono (lt248_23 h3) ?_
    rintro o S1 ⟨e, h⟩
    have q : k248_10 s y1 z0 = k248_23 ((k189 s 35 0 0 0).1) y1 ((k189 s 35 0 0 0).2) := by unfold k248_10; rw [if_pos c1]
    rw [q]; exact ⟨e, h⟩
  · refine l12f hi_248_10 (decide_eq_false c1) ?_
    refine l35 hi_248_13 ⟨rfl, ?_⟩
    unfold k248_10; rw [if_neg c1]; exact hS
noncomputable def k248_4 (s : kS) (y1 : Int32) : kS × Int32 := k248_10 ((k193 s 28).1) y1 ((k193 s 28).2)
theorem lt248_4 {sc : Nat × (Nat → Int32)} {N d : Nat} {S0 S : am_S} {s : kS} {y1 : Int32} {o2 : Option Value} (hS : MK S0 S s) : am_L (am_PP sc) N d 248 4 [some (.ref 39), some (.int y1), o2] [] S (fun o S1 => o = some none ∧ MK S0 S1 (k248_4 s y1).1) := by
  refine l2 (v := 39) hi_248_4 rfl ?_
  refine l0 hi_248_5 ?_
  refine l32 (as := [.ref 39, .int 28]) (la := [some (.ref 39), some (.int 28)]) (rest := []) hi_248_7 (am_hd0 (M := 248) (by decide) 7) rfl rfl rfl (fun N' d' _ => lt193 (N := N') (d := d') hS) ?_ (fun _ q => nomatch q.1)
  rintro v3 S1 ⟨ev3, h2⟩
  cases ev3
  show am_L _ _ _ _ _ [some (.ref 39), some (.int y1), o2] [.int ((k193 s 28).2)] _ _
  refine am_L.mono (lt248_10 h2) ?_
  rintro o S1 ⟨e, h⟩
  have q : k248_4 s y1 = k248_10 ((k193 s 28).1) y1 ((k193 s 28).2) := rfl
  rw [q]; exact ⟨e, h⟩
/-- then(I)V -/
noncomputable def k248 (s : kS) (x1 : Int32) : kS × Int32 := k248_4 ((k209 s).1) x1
theorem lt248 {sc : Nat × (Nat → Int32)} {N d : Nat} {S0 S : am_S} {s : kS} {x1 : Int32} (hS : MK S0 S s) : am_L (am_PP sc) N d 248 0 [some (.ref 39), some (.int x1), none] [] S (fun o S1 => o = some none ∧ MK S0 S1 (k248 s x1).1) := by
  refine l2 (v := 39) hi_248_0 rfl ?_
  refine l32 (as := [.ref 39]) (la := [some (.ref 39)]) (rest := []) hi_248_1 (am_hd0 (M := 248) (by decide) 1) rfl rfl rfl (fun N' d' _ => lt209 (N := N') (d := d') hS) ?_ (fun _ q => nomatch q.1)
  rintro v3 S1 ⟨ev3, h2⟩
  cases ev3
  show am_L _ _ _ _ _ [some (.ref 39), some (.int x1), none] [] _ _
  refine am_L.mono (lt248_4 h2) ?_
  rintro o S1 ⟨e, h⟩
  have q : k248 s x1 = k248_4 ((k209 s).1) x1 := rfl
  rw [q]; exact ⟨e, h⟩
def k250b2 (t : kS × Int32) : Nat × (kS × Int32) := if t.2 ≤ 0 then (1, (t.1, t.2)) else (0, (ka t.1 71 (t.2 - 1) (k210 t.1), kr t.1 71 (t.2 - 1)))
theorem lb250_2 {sc : Nat × (Nat → Int32)} {d : Nat} {S0 : am_S} {Q : Option (Option Value) → am_S → Prop} : ∀ (N : Nat) (S : am_S) (o1 : Option Value) (o3 : Option Value) (t : kS × Int32), MK S0 S t.1 → (∀ m S1 (p1 : Option Value) (p3 : Option Value), (kwh k250b2 m t).1 = 1 → MK S0 S1 (kwh k250b2 m t).2.1 → am_L (am_PP sc) N d 250 32 [some (.ref 39), p1, some (.int ((kwh k250b2 m t).2.2)), p3] [] S1 Q) → am_L (am_PP sc) N d 250 2 [some (.ref 39), o1, some (.int t.2), o3] [] S Q := by
  intro N
  induction N with
  | zero => intros; exact l_zero
  | succ N ih =>
    intro S o1 o3 t hS kx32
    refine l1d (v := t.2) hi_250_2 rfl ?_
    by_cases c1 : t.2 ≤ 0
    · refine l12t hi_250_3 (decide_eq_true c1) ?_
      have e0 : k250b2 t = (1, (t.1, t.2)) := by unfold k250b2; rw [if_pos c1]
      have e1 : kwh k250b2 1 t = (1, (t.1, t.2)) := by rw [kwh_out (by rw [e0]; exact Nat.succ_ne_zero _), e0]
      have q := kx32 1 _ o1 o3 (by rw [e1]) (by rw [e1]; exact hS)
      rw [e1] at q
      exact q.less (Nat.le_succ N)
    · refine l12f hi_250_3 (decide_eq_false c1) ?_
      refine l2 (v := 39) hi_250_6 rfl ?_
      refine l20 (v := .ref 90) hS hi_250_7 rfl ?_
      refine l1 (v := t.2) hi_250_10 rfl ?_
      refine l0 hi_250_11 ?_
      refine l10 hi_250_12 ?_
      show am_L _ _ _ _ _ [some (.ref 39), o1, some (.int t.2), o3] [.int (t.2 - 1), .ref 90] _ _
      refine l25 hS ma_71 hi_250_13 fun g2 g3 => ?_
      show am_L _ _ _ _ _ [some (.ref 39), o1, some (.int t.2), o3] [.int (kr t.1 71 (t.2 - 1))] _ _
      refine l3 (ls' := [some (.ref 39), o1, some (.int t.2), some (.int (kr t.1 71 (t.2 - 1)))]) hi_250_14 (Nat.le_of_ble_eq_true rfl) rfl ?_
      refine l2 (v := 39) hi_250_15 rfl ?_
      refine l20 (v := .ref 90) hS hi_250_16 rfl ?_
      refine l1 (v := t.2) hi_250_19 rfl ?_
      refine l0 hi_250_20 ?_
      refine l10 hi_250_21 ?_
      show am_L _ _ _ _ _ [some (.ref 39), o1, some (.int t.2), some (.int (kr t.1 71 (t.2 - 1)))] [.int (t.2 - 1), .ref 90] _ _
      refine l2 (v := 39) hi_250_22 rfl ?_
      refine l32 (as := [.ref 39]) (la := [some (.ref 39)]) (rest := [.int (t.2 - 1), .ref 90]) hi_250_23 (am_hd0 (M := 250) (by decide) 23) rfl rfl rfl (fun N' d' _ => lt210 (N := N') (d := d') hS) ?_ (fun _ q => nomatch q.1)
      rintro v6 S4 ⟨ev6, h5⟩
      cases ev6
      show am_L _ _ _ _ _ [some (.ref 39), o1, some (.int t.2), some (.int (kr t.1 71 (t.2 - 1)))] [.int (k210 t.1), .int (t.2 - 1), .ref 90] _ _
      refine l26 h5 ma_71 hi_250_26 fun S9 h10 g7 g8 => ?_
      refine l1 (v := kr t.1 71 (t.2 - 1)) hi_250_27 rfl ?_
      refine l3 (ls' := [some (.ref 39), o1, some (.int (kr t.1 71 (t.2 - 1))), some (.int (kr t.1 71 (t.2 - 1)))]) hi_250_28 (Nat.le_of_ble_eq_true rfl) rfl ?_
      refine l18 hi_250_29 ?_
      have e0 : k250b2 t = (0, (ka t.1 71 (t.2 - 1) (k210 t.1), kr t.1 71 (t.2 - 1))) := by unfold k250b2; rw [if_neg c1]
      have e1 : ∀ m, kwh k250b2 (m + 1) t = kwh k250b2 m (ka t.1 71 (t.2 - 1) (k210 t.1), kr t.1 71 (t.2 - 1)) := fun m => by rw [kwh_go (by rw [e0]), e0]
      exact ih _ o1 (some (.int (kr t.1 71 (t.2 - 1)))) (ka t.1 71 (t.2 - 1) (k210 t.1), kr t.1 71 (t.2 - 1)) h10 (fun m S1 p1 p3 hm h1 => by have q := kx32 (m + 1) S1 p1 p3 (by rw [e1]; exact hm) (by rw [e1]; exact h1); rw [e1] at q; exact q.less (Nat.le_succ N))
/-- mend(I)V -/
noncomputable def k250 (s : kS) (x1 : Int32) : kS × Int32 := ((kfin k250b2 (s, x1)).2.1, 0)
theorem lt250 {sc : Nat × (Nat → Int32)} {N d : Nat} {S0 S : am_S} {s : kS} {x1 : Int32} (hS : MK S0 S s) : am_L (am_PP sc) N d 250 0 [some (.ref 39), some (.int x1), none, none] [] S (fun o S1 => o = some none ∧ MK S0 S1 (k250 s x1).1) := by
  refine l1 (v := x1) hi_250_0 rfl ?_
  refine l3 (ls' := [some (.ref 39), some (.int x1), some (.int x1), none]) hi_250_1 (Nat.le_of_ble_eq_true rfl) rfl ?_
  refine lb250_2 N _ (some (.int x1)) none (s, x1) hS ?_
  · intro m1 S2 p6 p7 hm3 h4
    have hf5 : kfin k250b2 (s, x1) = kwh k250b2 m1 (s, x1) := kfin_eq (by rw [hm3]; decide)
    rw [← hf5] at hm3 h4 ⊢
    refine l35 hi_250_32 ⟨rfl, ?_⟩
    exact h4
noncomputable def k249_134 (s : kS) : kS × Int32 := ((k178 s).1, 0)
theorem lt249_134 {sc : Nat × (Nat → Int32)} {N d : Nat} {S0 S : am_S} {s : kS} {o1 : Option Value} {o2 : Option Value} {o3 : Option Value} {o4 : Option Value} (hS : MK S0 S s) : am_L (am_PP sc) N d 249 134 [some (.ref 39), o1, o2, o3, o4] [] S (fun o S1 => o = some none ∧ MK S0 S1 (k249_134 s).1) := by
  refine l2 (v := 39) hi_249_134 rfl ?_
  refine l32 (as := [.ref 39]) (la := [some (.ref 39)]) (rest := []) hi_249_135 (am_hd0 (M := 249) (by decide) 135) rfl rfl rfl (fun N' d' _ => lt178 (N := N') (d := d') hS) ?_ (fun _ q => nomatch q.1)
  rintro v3 S1 ⟨ev3, h2⟩
  cases ev3
  show am_L _ _ _ _ _ [some (.ref 39), o1, o2, o3, o4] [] _ _
  refine l18 hi_249_138 ?_
  refine l35 hi_249_148 ⟨rfl, ?_⟩
  exact h2
noncomputable def k249_124 (s : kS) (y4 : Int32) : kS × Int32 := k249_134 ((k179 s 9 y4 0 0).1)
theorem lt249_124 {sc : Nat × (Nat → Int32)} {N d : Nat} {S0 S : am_S} {s : kS} {y4 : Int32} {o1 : Option Value} {o2 : Option Value} {o3 : Option Value} (hS : MK S0 S s) : am_L (am_PP sc) N d 249 124 [some (.ref 39), o1, o2, o3, some (.int y4)] [] S (fun o S1 => o = some none ∧ MK S0 S1 (k249_124 s y4).1) := by
  refine l2 (v := 39) hi_249_124 rfl ?_
  refine l0 hi_249_125 ?_
  refine l1 (v := y4) hi_249_127 rfl ?_
  refine l0 hi_249_129 ?_
  refine l0 hi_249_130 ?_
  refine l32 (as := [.ref 39, .int 9, .int y4, .int 0, .int 0]) (la := [some (.ref 39), some (.int 9), some (.int y4), some (.int 0), some (.int 0)]) (rest := []) hi_249_131 (am_hd0 (M := 249) (by decide) 131) rfl rfl rfl (fun N' d' _ => lt179 (N := N') (d := d') hS) ?_ (fun _ q => nomatch q.1)
  rintro v3 S1 ⟨ev3, h2⟩
  cases ev3
  show am_L _ _ _ _ _ [some (.ref 39), o1, o2, o3, some (.int y4)] [] _ _
  refine am_L.mono (lt249_134 h2) ?_
  rintro o S1 ⟨e, h⟩
  have q : k249_124 s y4 = k249_134 ((k179 s 9 y4 0 0).1) := rfl
  rw [q]; exact ⟨e, h⟩
noncomputable def k249_111 (s : kS) : kS × Int32 := ((k186 s 0).1, 0)
theorem lt249_111 {sc : Nat × (Nat → Int32)} {N d : Nat} {S0 S : am_S} {s : kS} {o1 : Option Value} {o2 : Option Value} {o3 : Option Value} {o4 : Option Value} (hS : MK S0 S s) : am_L (am_PP sc) N d 249 111 [some (.ref 39), o1, o2, o3, o4] [] S (fun o S1 => o = some none ∧ MK S0 S1 (k249_111 s).1) := by
  refine l2 (v := 39) hi_249_111 rfl ?_
  refine l0 hi_249_112 ?_
  refine l32 (as := [.ref 39, .int 0]) (la := [some (.ref 39), some (.int 0)]) (rest := []) hi_249_113 (am_hd0 (M := 249) (by decide) 113) rfl rfl rfl (fun N' d' _ => lt186 (N := N') (d := d') hS) ?_ (fun _ q => nomatch q.1)
  rintro v3 S1 ⟨ev3, h2⟩
  cases ev3
  show am_L _ _ _ _ _ [some (.ref 39), o1, o2, o3, o4] [] _ _
  refine l18 hi_249_116 ?_
  refine l18 hi_249_138 ?_
  refine l35 hi_249_148 ⟨rfl, ?_⟩
  exact h2
noncomputable def k249_61 (s : kS) (y1 : Int32) (y3 : Int32) (z0 : Int32) : kS × Int32 := if y3 ≠ 14 then k249_124 ((k177 (kf (ka s 71 y1 (k210 s)) 4 ((s.1 4) + 1)) 0).1) (z0 + 1) else k249_111 ((k179 (kf (kf (ka s 71 y1 (k210 s)) 4 ((s.1 4) + 1)) 5 ((s.1 5) - 1)) 7 (z0 + 1) 0 0).1)
theorem lt249_61 {sc : Nat × (Nat → Int32)} {N d : Nat} {S0 S : am_S} {s : kS} {y1 : Int32} {y3 : Int32} {z0 : Int32} {o2 : Option Value} {o4 : Option Value} (hS : MK S0 S s) : am_L (am_PP sc) N d 249 61 [some (.ref 39), some (.int y1), o2, some (.int y3), o4] [.int z0] S (fun o S1 => o = some none ∧ MK S0 S1 (k249_61 s y1 y3 z0).1) := by
  refine l0 hi_249_61 ?_
  refine l10 hi_249_62 ?_
  show am_L _ _ _ _ _ [some (.ref 39), some (.int y1), o2, some (.int y3), o4] [.int (z0 + 1)] _ _
  refine l3 (ls' := [some (.ref 39), some (.int y1), o2, some (.int y3), some (.int (z0 + 1))]) hi_249_63 (Nat.le_of_ble_eq_true rfl) rfl ?_
  refine l2 (v := 39) hi_249_65 rfl ?_
  refine l20 (v := .ref 90) hS hi_249_66 rfl ?_
  refine l1 (v := y1) hi_249_69 rfl ?_
  refine l2 (v := 39) hi_249_70 rfl ?_
  refine l32 (as := [.ref 39]) (la := [some (.ref 39)]) (rest := [.int y1, .ref 90]) hi_249_71 (am_hd0 (M := 249) (by decide) 71) rfl rfl rfl (fun N' d' _ => lt210 (N := N') (d := d') hS) ?_ (fun _ q => nomatch q.1)
  rintro v3 S1 ⟨ev3, h2⟩
  cases ev3
  show am_L _ _ _ _ _ [some (.ref 39), some (.int y1), o2, some (.int y3), some (.int (z0 + 1))] [.int (k210 s), .int y1, .ref 90] _ _
  refine l26 h2 ma_71 hi_249_74 fun S6 h7 g4 g5 => ?_
  refine l2 (v := 39) hi_249_75 rfl ?_
  refine l7 hi_249_76 ?_
  refine l20 (v := .int (s.1 4)) h7 hi_249_77 rfl ?_
  refine l0 hi_249_80 ?_
  refine l10 hi_249_81 ?_
  show am_L _ _ _ _ _ [some (.ref 39), some (.int y1), o2, some (.int y3), some (.int (z0 + 1))] [.int ((s.1 4) + 1), .ref 39] _ _
  refine l21 h7 hi_249_82 ms_4 fun S8 h9 => ?_
  refine l1 (v := y3) hi_249_85 rfl ?_
  refine l0 hi_249_86 ?_
  by_cases c10 : y3 ≠ 14
  · refine l13t hi_249_88 (decide_eq_true c10) ?_
    refine l2 (v := 39) hi_249_119 rfl ?_
    refine l0 hi_249_120 ?_
    refine l32 (as := [.ref 39, .int 0]) (la := [some (.ref 39), some (.int 0)]) (rest := []) hi_249_121 (am_hd0 (M := 249) (by decide) 121) rfl rfl rfl (fun N' d' _ => lt177 (N := N') (d := d') h9) ?_ (fun _ q => nomatch q.1)
    rintro v13 S11 ⟨ev13, h12⟩
    cases ev13
    show am_L _ _ _ _ _ [some (.ref 39), some (.int y1), o2, some (.int y3), some (.int (z0 + 1))] [] _ _
    refine am_L.mono (lt249_124 h12) ?_
    rintro o S1 ⟨e, h⟩
    have q : k249_61 s y1 y3 z0 = k249_124 ((k177 (kf (ka s 71 y1 (k210 s)) 4 ((s.1 4) + 1)) 0).1) (z0 + 1) := by unfold k249_61; rw [if_pos c10]
    rw [q]; exact ⟨e, h⟩
  · refine l13f hi_249_88 (decide_eq_false c10) ?_
    refine l2 (v := 39) hi_249_91 rfl ?_
    refine l7 hi_249_92 ?_
    refine l20 (v := .int (s.1 5)) h9 hi_249_93 rfl ?_
    refine l0 hi_249_96 ?_
    refine l10 hi_249_97 ?_
    show am_L _ _ _ _ _ [some (.ref 39), some (.int y1), o2, some (.int y3), some (.int (z0 + 1))] [.int ((s.1 5) - 1), .ref 39] _ _
    refine l21 h9 hi_249_98 ms_5 fun S14 h15 => ?_
    refine l2 (v := 39) hi_249_101 rfl ?_
    refine l0 hi_249_102 ?_
    refine l1 (v := z0 + 1) hi_249_104 rfl ?_
    refine l0 hi_249_106 ?_
    refine l0 hi_249_107 ?_
    refine l32 (as := [.ref 39, .int 7, .int (z0 + 1), .int 0, .int 0]) (la := [some (.ref 39), some (.int 7), some (.int (z0 + 1)), some (.int 0), some (.int 0)]) (rest := []) hi_249_108 (am_hd0 (M := 249) (by decide) 108) rfl rfl rfl (fun N' d' _ => lt179 (N := N') (d := d') h15) ?_ (fun _ q => nomatch q.1)
    rintro v18 S16 ⟨ev18, h17⟩
    cases ev18
    show am_L _ _ _ _ _ [some (.ref 39), some (.int y1), o2, some (.int y3), some (.int (z0 + 1))] [] _ _
    refine am_L.mono (lt249_111 h17) ?_
    rintro o S1 ⟨e, h⟩
    have q : k249_61 s y1 y3 z0 = k249_111 ((k179 (kf (kf (ka s 71 y1 (k210 s)) 4 ((s.1 4) + 1)) 5 ((s.1 5) - 1)) 7 (z0 + 1) 0 0).1) := by unfold k249_61; rw [if_neg c10]
    rw [q]; exact ⟨e, h⟩
noncomputable def k249_52 (s : kS) (y1 : Int32) (y2 : Int32) (y3 : Int32) : kS × Int32 := k249_61 ((k189 s 36 y2 0 0).1) y1 y3 ((k189 s 36 y2 0 0).2)
theorem lt249_52 {sc : Nat × (Nat → Int32)} {N d : Nat} {S0 S : am_S} {s : kS} {y1 : Int32} {y2 : Int32} {y3 : Int32} {o4 : Option Value} (hS : MK S0 S s) : am_L (am_PP sc) N d 249 52 [some (.ref 39), some (.int y1), some (.int y2), some (.int y3), o4] [] S (fun o S1 => o = some none ∧ MK S0 S1 (k249_52 s y1 y2 y3).1) := by
  refine l2 (v := 39) hi_249_52 rfl ?_
  refine l0 hi_249_53 ?_
  refine l1 (v := y2) hi_249_55 rfl ?_
  refine l0 hi_249_56 ?_
  refine l0 hi_249_57 ?_
  refine l32 (as := [.ref 39, .int 36, .int y2, .int 0, .int 0]) (la := [some (.ref 39), some (.int 36), some (.int y2), some (.int 0), some (.int 0)]) (rest := []) hi_249_58 (am_hd0 (M := 249) (by decide) 58) rfl rfl rfl (fun N' d' _ => lt189 (N := N') (d := d') hS) ?_ (fun _ q => nomatch q.1)
  rintro v3 S1 ⟨ev3, h2⟩
  cases ev3
  show am_L _ _ _ _ _ [some (.ref 39), some (.int y1), some (.int y2), some (.int y3), o4] [.int ((k189 s 36 y2 0 0).2)] _ _
  refine am_L.mono (lt249_61 h2) ?_
  rintro o S1 ⟨e, h⟩
  have q : k249_52 s y1 y2 y3 = k249_61 ((k189 s 36 y2 0 0).1) y1 y3 ((k189 s 36 y2 0 0).2) := rfl
  rw [q]; exact ⟨e, h⟩
noncomputable def k249_21 (s : kS) (y1 : Int32) (y2 : Int32) (z0 : Int32) : kS × Int32 := ((k250 (ka s 71 y1 (k210 s)) y2).1, 0)
theorem lt249_21 {sc : Nat × (Nat → Int32)} {N d : Nat} {S0 S : am_S} {s : kS} {y1 : Int32} {y2 : Int32} {z0 : Int32} {o3 : Option Value} {o4 : Option Value} (hS : MK S0 S s) : am_L (am_PP sc) N d 249 21 [some (.ref 39), some (.int y1), some (.int y2), o3, o4] [.int z0] S (fun o S1 => o = some none ∧ MK S0 S1 (k249_21 s y1 y2 z0).1) := by
  refine l6i hi_249_21 ?_
  refine l2 (v := 39) hi_249_22 rfl ?_
  refine l20 (v := .ref 90) hS hi_249_23 rfl ?_
  refine l1 (v := y1) hi_249_26 rfl ?_
  refine l2 (v := 39) hi_249_27 rfl ?_
  refine l32 (as := [.ref 39]) (la := [some (.ref 39)]) (rest := [.int y1, .ref 90]) hi_249_28 (am_hd0 (M := 249) (by decide) 28) rfl rfl rfl (fun N' d' _ => lt210 (N := N') (d := d') hS) ?_ (fun _ q => nomatch q.1)
  rintro v3 S1 ⟨ev3, h2⟩
  cases ev3
  show am_L _ _ _ _ _ [some (.ref 39), some (.int y1), some (.int y2), o3, o4] [.int (k210 s), .int y1, .ref 90] _ _
  refine l26 h2 ma_71 hi_249_31 fun S6 h7 g4 g5 => ?_
  refine l2 (v := 39) hi_249_32 rfl ?_
  refine l1 (v := y2) hi_249_33 rfl ?_
  refine l32 (as := [.ref 39, .int y2]) (la := [some (.ref 39), some (.int y2), none, none]) (rest := []) hi_249_34 (am_hd0 (M := 249) (by decide) 34) rfl rfl rfl (fun N' d' _ => lt250 (N := N') (d := d') h7) ?_ (fun _ q => nomatch q.1)
  rintro v10 S8 ⟨ev10, h9⟩
  cases ev10
  show am_L _ _ _ _ _ [some (.ref 39), some (.int y1), some (.int y2), o3, o4] [] _ _
  refine l18 hi_249_37 ?_
  refine l35 hi_249_148 ⟨rfl, ?_⟩
  exact h9
noncomputable def k249_4 (s : kS) (y1 : Int32) (y2 : Int32) : kS × Int32 := if (k183 s) ≠ 15 then if (k183 s) = 14 then k249_52 s y1 y2 (k183 s) else if (k183 s) ≠ 13 then ((k194 s 7).1, 0) else k249_52 s y1 y2 (k183 s) else k249_21 ((k199 s 15).1) y1 y2 ((k199 s 15).2)
theorem lt249_4 {sc : Nat × (Nat → Int32)} {N d : Nat} {S0 S : am_S} {s : kS} {y1 : Int32} {y2 : Int32} {o3 : Option Value} {o4 : Option Value} (hS : MK S0 S s) : am_L (am_PP sc) N d 249 4 [some (.ref 39), some (.int y1), some (.int y2), o3, o4] [] S (fun o S1 => o = some none ∧ MK S0 S1 (k249_4 s y1 y2).1) := by
  refine l2 (v := 39) hi_249_4 rfl ?_
  refine l32 (as := [.ref 39]) (la := [some (.ref 39)]) (rest := []) hi_249_5 (am_hd0 (M := 249) (by decide) 5) rfl rfl rfl (fun N' d' _ => lt183 (N := N') (d := d') hS) ?_ (fun _ q => nomatch q.1)
  rintro v3 S1 ⟨ev3, h2⟩
  cases ev3
  show am_L _ _ _ _ _ [some (.ref 39), some (.int y1), some (.int y2), o3, o4] [.int (k183 s)] _ _
  refine l3 (ls' := [some (.ref 39), some (.int y1), some (.int y2), some (.int (k183 s)), o4]) hi_249_8 (Nat.le_of_ble_eq_true rfl) rfl ?_
  refine l1 (v := k183 s) hi_249_9 rfl ?_
  refine l0 hi_249_10 ?_
  by_cases c4 : (k183 s) ≠ 15
  · refine l13t hi_249_12 (decide_eq_true c4) ?_
    refine l1 (v := k183 s) hi_249_40 rfl ?_
    refine l0 hi_249_41 ?_
    by_cases c5 : (k183 s) = 14
    · refine l13t hi_249_43 (decide_eq_true c5) ?_
      refine am_L.mono (lt249_52 h2) ?_
      rintro o S1 ⟨e, h⟩
      have q : k249_4 s y1 y2 = k249_52 s y1 y2 (k183 s) := by unfold k249_4; rw [if_pos c4]; rw [if_pos c5]
      rw [q]; exact ⟨e, h⟩
    · refine l13f hi_249_43 (decide_eq_false c5) ?_
      refine l1 (v := k183 s) hi_249_46 rfl ?_
      refine l0 hi_249_47 ?_
      by_cases c6 : (k183 s) ≠ 13
      · refine l13t hi_249_49 (decide_eq_true c6) ?_
        refine l2 (v := 39) hi_249_141 rfl ?_
        refine l0 hi_249_142 ?_
        refine l32 (as := [.ref 39, .int 7]) (la := [some (.ref 39), some (.int 7)]) (rest := []) hi_249_144 (am_hd0 (M := 249) (by decide) 144) rfl rfl rfl (fun N' d' _ => lt194 (N := N') (d := d') h2) ?_ (fun _ q => nomatch q.1)
        rintro v9 S7 ⟨ev9, h8⟩
        cases ev9
        show am_L _ _ _ _ _ [some (.ref 39), some (.int y1), some (.int y2), some (.int (k183 s)), o4] [.int ((k194 s 7).2)] _ _
        refine l6i hi_249_147 ?_
        refine l35 hi_249_148 ⟨rfl, ?_⟩
        unfold k249_4; rw [if_pos c4]; rw [if_neg c5]; rw [if_pos c6]; exact h8
      · refine l13f hi_249_49 (decide_eq_false c6) ?_
        refine am_L.mono (lt249_52 h2) ?_
        rintro o S1 ⟨e, h⟩
        have q : k249_4 s y1 y2 = k249_52 s y1 y2 (k183 s) := by unfold k249_4; rw [if_pos c4]; rw [if_neg c5]; rw [if_neg c6]
        rw [q]; exact ⟨e, h⟩
  · refine l13f hi_249_12 (decide_eq_false c4) ?_
    refine l2 (v := 39) hi_249_15 rfl ?_
    refine l0 hi_249_16 ?_
    refine l32 (as := [.ref 39, .int 15]) (la := [some (.ref 39), some (.int 15)]) (rest := []) hi_249_18 (am_hd0 (M := 249) (by decide) 18) rfl rfl rfl (fun N' d' _ => lt199 (N := N') (d := d') h2) ?_ (fun _ q => nomatch q.1)
    rintro v12 S10 ⟨ev12, h11⟩
    cases ev12
    show am_L _ _ _ _ _ [some (.ref 39), some (.int y1), some (.int y2), some (.int (k183 s)), o4] [.int ((k199 s 15).2)] _ _
    refine am_L.mono (lt249_21 h11) ?_
    rintro o S1 ⟨e, h⟩
    have q : k249_4 s y1 y2 = k249_21 ((k199 s 15).1) y1 y2 ((k199 s 15).2) := by unfold k249_4; rw [if_neg c4]
    rw [q]; exact ⟨e, h⟩
/-- partEnd(II)V -/
noncomputable def k249 (s : kS) (x1 : Int32) (x2 : Int32) : kS × Int32 := k249_4 ((k242 s).1) x1 x2
theorem lt249 {sc : Nat × (Nat → Int32)} {N d : Nat} {S0 S : am_S} {s : kS} {x1 : Int32} {x2 : Int32} (hS : MK S0 S s) : am_L (am_PP sc) N d 249 0 [some (.ref 39), some (.int x1), some (.int x2), none, none] [] S (fun o S1 => o = some none ∧ MK S0 S1 (k249 s x1 x2).1) := by
  refine l2 (v := 39) hi_249_0 rfl ?_
  refine l32 (as := [.ref 39]) (la := [some (.ref 39)]) (rest := []) hi_249_1 (am_hd0 (M := 249) (by decide) 1) rfl rfl rfl (fun N' d' _ => lt242 (N := N') (d := d') hS) ?_ (fun _ q => nomatch q.1)
  rintro v3 S1 ⟨ev3, h2⟩
  cases ev3
  show am_L _ _ _ _ _ [some (.ref 39), some (.int x1), some (.int x2), none, none] [] _ _
  refine am_L.mono (lt249_4 h2) ?_
  rintro o S1 ⟨e, h⟩
  have q : k249 s x1 x2 = k249_4 ((k242 s).1) x1 x2 := rfl
  rw [q]; exact ⟨e, h⟩
noncomputable def k251_23 (s : kS) : kS × Int32 := ((k186 s 0).1, 0)
theorem lt251_23 {sc : Nat × (Nat → Int32)} {N d : Nat} {S0 S : am_S} {s : kS} {o1 : Option Value} (hS : MK S0 S s) : am_L (am_PP sc) N d 251 23 [some (.ref 39), o1] [] S (fun o S1 => o = some none ∧ MK S0 S1 (k251_23 s).1) := by
  refine l2 (v := 39) hi_251_23 rfl ?_
  refine l0 hi_251_24 ?_
  refine l32 (as := [.ref 39, .int 0]) (la := [some (.ref 39), some (.int 0)]) (rest := []) hi_251_25 (am_hd0 (M := 251) (by decide) 25) rfl rfl rfl (fun N' d' _ => lt186 (N := N') (d := d') hS) ?_ (fun _ q => nomatch q.1)
  rintro v3 S1 ⟨ev3, h2⟩
  cases ev3
  show am_L _ _ _ _ _ [some (.ref 39), o1] [] _ _
  refine l35 hi_251_28 ⟨rfl, ?_⟩
  exact h2
noncomputable def k251_10 (s : kS) (y1 : Int32) (z0 : Int32) : kS × Int32 := if z0 ≠ 0 then k251_23 ((k179 s 11 y1 0 0).1) else (s, 0)
theorem lt251_10 {sc : Nat × (Nat → Int32)} {N d : Nat} {S0 S : am_S} {s : kS} {y1 : Int32} {z0 : Int32} (hS : MK S0 S s) : am_L (am_PP sc) N d 251 10 [some (.ref 39), some (.int y1)] [.int z0] S (fun o S1 => o = some none ∧ MK S0 S1 (k251_10 s y1 z0).1) := by
  by_cases c1 : z0 ≠ 0
  · refine l12t hi_251_10 (decide_eq_true c1) ?_
    refine l2 (v := 39) hi_251_14 rfl ?_
    refine l0 hi_251_15 ?_
    refine l1 (v := y1) hi_251_17 rfl ?_
    refine l0 hi_251_18 ?_
    refine l0 hi_251_19 ?_
    refine l32 (as := [.ref 39, .int 11, .int y1, .int 0, .int 0]) (la := [some (.ref 39), some (.int 11), some (.int y1), some (.int 0), some (.int 0)]) (rest := []) hi_251_20 (am_hd0 (M := 251) (by decide) 20) rfl rfl rfl (fun N' d' _ => lt179 (N := N') (d := d') hS) ?_ (fun _ q => nomatch q.1)
    rintro v4 S2 ⟨ev4, h3⟩
    cases ev4
    show am_L _ _ _ _ _ [some (.ref 39), some (.int y1)] [] _ _
    refine am_L.mono (lt251_23 h3) ?_
    rintro o S1 ⟨e, h⟩
    have q : k251_10 s y1 z0 = k251_23 ((k179 s 11 y1 0 0).1) := by unfold k251_10; rw [if_pos c1]
    rw [q]; exact ⟨e, h⟩
  · refine l12f hi_251_10 (decide_eq_false c1) ?_
    refine l35 hi_251_13 ⟨rfl, ?_⟩
    unfold k251_10; rw [if_neg c1]; exact hS
noncomputable def k251_4 (s : kS) (y1 : Int32) : kS × Int32 := k251_10 ((k200 s 69).1) y1 ((k200 s 69).2)
theorem lt251_4 {sc : Nat × (Nat → Int32)} {N d : Nat} {S0 S : am_S} {s : kS} {y1 : Int32} (hS : MK S0 S s) : am_L (am_PP sc) N d 251 4 [some (.ref 39), some (.int y1)] [] S (fun o S1 => o = some none ∧ MK S0 S1 (k251_4 s y1).1) := by
  refine l2 (v := 39) hi_251_4 rfl ?_
  refine l0 hi_251_5 ?_
  refine l32 (as := [.ref 39, .int 69]) (la := [some (.ref 39), some (.int 69)]) (rest := []) hi_251_7 (am_hd0 (M := 251) (by decide) 7) rfl rfl rfl (fun N' d' _ => lt200 (N := N') (d := d') hS) ?_ (fun _ q => nomatch q.1)
  rintro v3 S1 ⟨ev3, h2⟩
  cases ev3
  show am_L _ _ _ _ _ [some (.ref 39), some (.int y1)] [.int ((k200 s 69).2)] _ _
  refine am_L.mono (lt251_10 h2) ?_
  rintro o S1 ⟨e, h⟩
  have q : k251_4 s y1 = k251_10 ((k200 s 69).1) y1 ((k200 s 69).2) := rfl
  rw [q]; exact ⟨e, h⟩
/-- forSecond(I)V -/
noncomputable def k251 (s : kS) (x1 : Int32) : kS × Int32 := k251_4 ((k209 s).1) x1
theorem lt251 {sc : Nat × (Nat → Int32)} {N d : Nat} {S0 S : am_S} {s : kS} {x1 : Int32} (hS : MK S0 S s) : am_L (am_PP sc) N d 251 0 [some (.ref 39), some (.int x1)] [] S (fun o S1 => o = some none ∧ MK S0 S1 (k251 s x1).1) := by
  refine l2 (v := 39) hi_251_0 rfl ?_
  refine l32 (as := [.ref 39]) (la := [some (.ref 39)]) (rest := []) hi_251_1 (am_hd0 (M := 251) (by decide) 1) rfl rfl rfl (fun N' d' _ => lt209 (N := N') (d := d') hS) ?_ (fun _ q => nomatch q.1)
  rintro v3 S1 ⟨ev3, h2⟩
  cases ev3
  show am_L _ _ _ _ _ [some (.ref 39), some (.int x1)] [] _ _
  refine am_L.mono (lt251_4 h2) ?_
  rintro o S1 ⟨e, h⟩
  have q : k251 s x1 = k251_4 ((k209 s).1) x1 := rfl
  rw [q]; exact ⟨e, h⟩
def k254b3 (y1 : Int32) (y2 : Int32) (y3 : Int32) (t : kS × Int32) : Nat × (kS × Int32) := if y1 ≤ t.2 then (1, (t.1, t.2)) else if y2 = 0 then (0, (ka ((k196 t.1 0 1 0 y3).1) 28 ((((k196 t.1 0 1 0 y3).1).1 24) - 1) 1, t.2 + 1)) else if (t.2 + 1) ≠ y1 then (0, (ka ((k196 t.1 0 1 0 y3).1) 28 ((((k196 t.1 0 1 0 y3).1).1 24) - 1) 1, t.2 + 1)) else (0, (ka ((k196 t.1 0 1 1 y3).1) 28 ((((k196 t.1 0 1 1 y3).1).1 24) - 1) 1, t.2 + 1))
theorem lb254_3 {sc : Nat × (Nat → Int32)} {d : Nat} {S0 : am_S} {y1 : Int32} {y2 : Int32} {y3 : Int32} {Q : Option (Option Value) → am_S → Prop} : ∀ (N : Nat) (S : am_S) (t : kS × Int32), MK S0 S t.1 → (∀ m S1, (kwh (k254b3 y1 y2 y3) m t).1 = 1 → MK S0 S1 (kwh (k254b3 y1 y2 y3) m t).2.1 → am_L (am_PP sc) N d 254 51 [some (.ref 39), some (.int y1), some (.int y2), some (.int y3), some (.int ((kwh (k254b3 y1 y2 y3) m t).2.2))] [] S1 Q) → am_L (am_PP sc) N d 254 3 [some (.ref 39), some (.int y1), some (.int y2), some (.int y3), some (.int t.2)] [] S Q := by
  intro N
  induction N with
  | zero => intros; exact l_zero
  | succ N ih =>
    intro S t hS kx51
    refine l1d (v := t.2) hi_254_3 rfl ?_
    refine l1 (v := y1) hi_254_5 rfl ?_
    by_cases c1 : y1 ≤ t.2
    · refine l13t hi_254_6 (decide_eq_true c1) ?_
      have e0 : (k254b3 y1 y2 y3) t = (1, (t.1, t.2)) := by unfold k254b3; rw [if_pos c1]
      have e1 : kwh (k254b3 y1 y2 y3) 1 t = (1, (t.1, t.2)) := by rw [kwh_out (by rw [e0]; exact Nat.succ_ne_zero _), e0]
      have q := kx51 1 _  (by rw [e1]) (by rw [e1]; exact hS)
      rw [e1] at q
      exact q.less (Nat.le_succ N)
    · refine l13f hi_254_6 (decide_eq_false c1) ?_
      refine l2 (v := 39) hi_254_9 rfl ?_
      refine l0 hi_254_10 ?_
      refine l0 hi_254_11 ?_
      refine l1 (v := y2) hi_254_12 rfl ?_
      by_cases c2 : y2 = 0
      · refine l12t hi_254_13 (decide_eq_true c2) ?_
        refine l0 hi_254_28 ?_
        refine l1 (v := y3) hi_254_29 rfl ?_
        refine l32 (as := [.ref 39, .int 0, .int 1, .int 0, .int y3]) (la := [some (.ref 39), some (.int 0), some (.int 1), some (.int 0), some (.int y3), none]) (rest := []) hi_254_30 (am_hd0 (M := 254) (by decide) 30) rfl rfl rfl (fun N' d' _ => lt196 (N := N') (d := d') hS) ?_ (fun _ q => nomatch q.1)
        rintro v5 S3 ⟨ev5, h4⟩
        cases ev5
        show am_L _ _ _ _ _ [some (.ref 39), some (.int y1), some (.int y2), some (.int y3), some (.int t.2)] [] _ _
        refine l2 (v := 39) hi_254_33 rfl ?_
        refine l20 (v := .ref 55) h4 hi_254_34 rfl ?_
        refine l2 (v := 39) hi_254_37 rfl ?_
        refine l20 (v := .int (((k196 t.1 0 1 0 y3).1).1 24)) h4 hi_254_38 rfl ?_
        refine l0 hi_254_41 ?_
        refine l10 hi_254_42 ?_
        show am_L _ _ _ _ _ [some (.ref 39), some (.int y1), some (.int y2), some (.int y3), some (.int t.2)] [.int ((((k196 t.1 0 1 0 y3).1).1 24) - 1), .ref 55] _ _
        refine l0 hi_254_43 ?_
        refine l26 h4 ma_28 hi_254_44 fun S8 h9 g6 g7 => ?_
        refine l5 (v := t.2) (ls' := [some (.ref 39), some (.int y1), some (.int y2), some (.int y3), some (.int (t.2 + 1))]) hi_254_45 rfl rfl ?_
        refine l18 hi_254_48 ?_
        have e0 : (k254b3 y1 y2 y3) t = (0, (ka ((k196 t.1 0 1 0 y3).1) 28 ((((k196 t.1 0 1 0 y3).1).1 24) - 1) 1, t.2 + 1)) := by unfold k254b3; rw [if_neg c1]; rw [if_pos c2]
        have e1 : ∀ m, kwh (k254b3 y1 y2 y3) (m + 1) t = kwh (k254b3 y1 y2 y3) m (ka ((k196 t.1 0 1 0 y3).1) 28 ((((k196 t.1 0 1 0 y3).1).1 24) - 1) 1, t.2 + 1) := fun m => by rw [kwh_go (by rw [e0]), e0]
        exact ih _  (ka ((k196 t.1 0 1 0 y3).1) 28 ((((k196 t.1 0 1 0 y3).1).1 24) - 1) 1, t.2 + 1) h9 (fun m S1 hm h1 => by have q := kx51 (m + 1) S1 (by rw [e1]; exact hm) (by rw [e1]; exact h1); rw [e1] at q; exact q.less (Nat.le_succ N))
      · refine l12f hi_254_13 (decide_eq_false c2) ?_
        refine l1 (v := t.2) hi_254_16 rfl ?_
        refine l0 hi_254_18 ?_
        refine l10 hi_254_19 ?_
        show am_L _ _ _ _ _ [some (.ref 39), some (.int y1), some (.int y2), some (.int y3), some (.int t.2)] [.int (t.2 + 1), .int 1, .int 0, .ref 39] _ _
        refine l1 (v := y1) hi_254_20 rfl ?_
        by_cases c10 : (t.2 + 1) ≠ y1
        · refine l13t hi_254_21 (decide_eq_true c10) ?_
          refine l0 hi_254_28 ?_
          refine l1 (v := y3) hi_254_29 rfl ?_
          refine l32 (as := [.ref 39, .int 0, .int 1, .int 0, .int y3]) (la := [some (.ref 39), some (.int 0), some (.int 1), some (.int 0), some (.int y3), none]) (rest := []) hi_254_30 (am_hd0 (M := 254) (by decide) 30) rfl rfl rfl (fun N' d' _ => lt196 (N := N') (d := d') hS) ?_ (fun _ q => nomatch q.1)
          rintro v13 S11 ⟨ev13, h12⟩
          cases ev13
          show am_L _ _ _ _ _ [some (.ref 39), some (.int y1), some (.int y2), some (.int y3), some (.int t.2)] [] _ _
          refine l2 (v := 39) hi_254_33 rfl ?_
          refine l20 (v := .ref 55) h12 hi_254_34 rfl ?_
          refine l2 (v := 39) hi_254_37 rfl ?_
          refine l20 (v := .int (((k196 t.1 0 1 0 y3).1).1 24)) h12 hi_254_38 rfl ?_
          refine l0 hi_254_41 ?_
          refine l10 hi_254_42 ?_
          show am_L _ _ _ _ _ [some (.ref 39), some (.int y1), some (.int y2), some (.int y3), some (.int t.2)] [.int ((((k196 t.1 0 1 0 y3).1).1 24) - 1), .ref 55] _ _
          refine l0 hi_254_43 ?_
          refine l26 h12 ma_28 hi_254_44 fun S16 h17 g14 g15 => ?_
          refine l5 (v := t.2) (ls' := [some (.ref 39), some (.int y1), some (.int y2), some (.int y3), some (.int (t.2 + 1))]) hi_254_45 rfl rfl ?_
          refine l18 hi_254_48 ?_
          have e0 : (k254b3 y1 y2 y3) t = (0, (ka ((k196 t.1 0 1 0 y3).1) 28 ((((k196 t.1 0 1 0 y3).1).1 24) - 1) 1, t.2 + 1)) := by unfold k254b3; rw [if_neg c1]; rw [if_neg c2]; rw [if_pos c10]
          have e1 : ∀ m, kwh (k254b3 y1 y2 y3) (m + 1) t = kwh (k254b3 y1 y2 y3) m (ka ((k196 t.1 0 1 0 y3).1) 28 ((((k196 t.1 0 1 0 y3).1).1 24) - 1) 1, t.2 + 1) := fun m => by rw [kwh_go (by rw [e0]), e0]
          exact ih _  (ka ((k196 t.1 0 1 0 y3).1) 28 ((((k196 t.1 0 1 0 y3).1).1 24) - 1) 1, t.2 + 1) h17 (fun m S1 hm h1 => by have q := kx51 (m + 1) S1 (by rw [e1]; exact hm) (by rw [e1]; exact h1); rw [e1] at q; exact q.less (Nat.le_succ N))
        · refine l13f hi_254_21 (decide_eq_false c10) ?_
          refine l0 hi_254_24 ?_
          refine l18 hi_254_25 ?_
          refine l1 (v := y3) hi_254_29 rfl ?_
          refine l32 (as := [.ref 39, .int 0, .int 1, .int 1, .int y3]) (la := [some (.ref 39), some (.int 0), some (.int 1), some (.int 1), some (.int y3), none]) (rest := []) hi_254_30 (am_hd0 (M := 254) (by decide) 30) rfl rfl rfl (fun N' d' _ => lt196 (N := N') (d := d') hS) ?_ (fun _ q => nomatch q.1)
          rintro v20 S18 ⟨ev20, h19⟩
          cases ev20
          show am_L _ _ _ _ _ [some (.ref 39), some (.int y1), some (.int y2), some (.int y3), some (.int t.2)] [] _ _
          refine l2 (v := 39) hi_254_33 rfl ?_
          refine l20 (v := .ref 55) h19 hi_254_34 rfl ?_
          refine l2 (v := 39) hi_254_37 rfl ?_
          refine l20 (v := .int (((k196 t.1 0 1 1 y3).1).1 24)) h19 hi_254_38 rfl ?_
          refine l0 hi_254_41 ?_
          refine l10 hi_254_42 ?_
          show am_L _ _ _ _ _ [some (.ref 39), some (.int y1), some (.int y2), some (.int y3), some (.int t.2)] [.int ((((k196 t.1 0 1 1 y3).1).1 24) - 1), .ref 55] _ _
          refine l0 hi_254_43 ?_
          refine l26 h19 ma_28 hi_254_44 fun S23 h24 g21 g22 => ?_
          refine l5 (v := t.2) (ls' := [some (.ref 39), some (.int y1), some (.int y2), some (.int y3), some (.int (t.2 + 1))]) hi_254_45 rfl rfl ?_
          refine l18 hi_254_48 ?_
          have e0 : (k254b3 y1 y2 y3) t = (0, (ka ((k196 t.1 0 1 1 y3).1) 28 ((((k196 t.1 0 1 1 y3).1).1 24) - 1) 1, t.2 + 1)) := by unfold k254b3; rw [if_neg c1]; rw [if_neg c2]; rw [if_neg c10]
          have e1 : ∀ m, kwh (k254b3 y1 y2 y3) (m + 1) t = kwh (k254b3 y1 y2 y3) m (ka ((k196 t.1 0 1 1 y3).1) 28 ((((k196 t.1 0 1 1 y3).1).1 24) - 1) 1, t.2 + 1) := fun m => by rw [kwh_go (by rw [e0]), e0]
          exact ih _  (ka ((k196 t.1 0 1 1 y3).1) 28 ((((k196 t.1 0 1 1 y3).1).1 24) - 1) 1, t.2 + 1) h24 (fun m S1 hm h1 => by have q := kx51 (m + 1) S1 (by rw [e1]; exact hm) (by rw [e1]; exact h1); rw [e1] at q; exact q.less (Nat.le_succ N))
/-- hide(IZI)V -/
noncomputable def k254 (s : kS) (x1 : Int32) (x2 : Int32) (x3 : Int32) : kS × Int32 := ((kfin (k254b3 x1 x2 x3) (s, 0)).2.1, 0)
theorem lt254 {sc : Nat × (Nat → Int32)} {N d : Nat} {S0 S : am_S} {s : kS} {x1 : Int32} {x2 : Int32} {x3 : Int32} (hS : MK S0 S s) : am_L (am_PP sc) N d 254 0 [some (.ref 39), some (.int x1), some (.int x2), some (.int x3), none] [] S (fun o S1 => o = some none ∧ MK S0 S1 (k254 s x1 x2 x3).1) := by
  refine l0 hi_254_0 ?_
  refine l3 (ls' := [some (.ref 39), some (.int x1), some (.int x2), some (.int x3), some (.int 0)]) hi_254_1 (Nat.le_of_ble_eq_true rfl) rfl ?_
  refine lb254_3 N _  (s, 0) hS ?_
  · intro m1 S2  hm3 h4
    have hf5 : kfin (k254b3 x1 x2 x3) (s, 0) = kwh (k254b3 x1 x2 x3) m1 (s, 0) := kfin_eq (by rw [hm3]; decide)
    rw [← hf5] at hm3 h4 ⊢
    refine l35 hi_254_51 ⟨rfl, ?_⟩
    exact h4
noncomputable def k253_80 (s : kS) (y2 : Int32) (y3 : Int32) (y4 : Int32) : kS × Int32 := ((k178 ((k179 s 13 y3 y4 y2).1)).1, 0)
theorem lt253_80 {sc : Nat × (Nat → Int32)} {N d : Nat} {S0 S : am_S} {s : kS} {y2 : Int32} {y3 : Int32} {y4 : Int32} {o1 : Option Value} (hS : MK S0 S s) : am_L (am_PP sc) N d 253 80 [some (.ref 39), o1, some (.int y2), some (.int y3), some (.int y4)] [] S (fun o S1 => o = some none ∧ MK S0 S1 (k253_80 s y2 y3 y4).1) := by
  refine l2 (v := 39) hi_253_80 rfl ?_
  refine l0 hi_253_81 ?_
  refine l1 (v := y3) hi_253_83 rfl ?_
  refine l1 (v := y4) hi_253_84 rfl ?_
  refine l1 (v := y2) hi_253_86 rfl ?_
  refine l32 (as := [.ref 39, .int 13, .int y3, .int y4, .int y2]) (la := [some (.ref 39), some (.int 13), some (.int y3), some (.int y4), some (.int y2)]) (rest := []) hi_253_87 (am_hd0 (M := 253) (by decide) 87) rfl rfl rfl (fun N' d' _ => lt179 (N := N') (d := d') hS) ?_ (fun _ q => nomatch q.1)
  rintro v3 S1 ⟨ev3, h2⟩
  cases ev3
  show am_L _ _ _ _ _ [some (.ref 39), o1, some (.int y2), some (.int y3), some (.int y4)] [] _ _
  refine l2 (v := 39) hi_253_90 rfl ?_
  refine l32 (as := [.ref 39]) (la := [some (.ref 39)]) (rest := []) hi_253_91 (am_hd0 (M := 253) (by decide) 91) rfl rfl rfl (fun N' d' _ => lt178 (N := N') (d := d') h2) ?_ (fun _ q => nomatch q.1)
  rintro v6 S4 ⟨ev6, h5⟩
  cases ev6
  show am_L _ _ _ _ _ [some (.ref 39), o1, some (.int y2), some (.int y3), some (.int y4)] [] _ _
  refine l35 hi_253_94 ⟨rfl, ?_⟩
  exact h5
noncomputable def k253_63 (s : kS) (y1 : Int32) (y2 : Int32) (y3 : Int32) (y4 : Int32) : kS × Int32 := k253_80 ((k196 s (kr s 2 (y1 + 1)) 0 0 (y1 + 1)).1) y2 y3 y4
theorem lt253_63 {sc : Nat × (Nat → Int32)} {N d : Nat} {S0 S : am_S} {s : kS} {y1 : Int32} {y2 : Int32} {y3 : Int32} {y4 : Int32} (hS : MK S0 S s) : am_L (am_PP sc) N d 253 63 [some (.ref 39), some (.int y1), some (.int y2), some (.int y3), some (.int y4)] [] S (fun o S1 => o = some none ∧ MK S0 S1 (k253_63 s y1 y2 y3 y4).1) := by
  refine l2 (v := 39) hi_253_63 rfl ?_
  refine l2 (v := 39) hi_253_64 rfl ?_
  refine l20 (v := .ref 41) hS hi_253_65 rfl ?_
  refine l1 (v := y1) hi_253_68 rfl ?_
  refine l0 hi_253_69 ?_
  refine l10 hi_253_70 ?_
  show am_L _ _ _ _ _ [some (.ref 39), some (.int y1), some (.int y2), some (.int y3), some (.int y4)] [.int (y1 + 1), .ref 41, .ref 39] _ _
  refine l25 hS ma_2 hi_253_71 fun g1 g2 => ?_
  show am_L _ _ _ _ _ [some (.ref 39), some (.int y1), some (.int y2), some (.int y3), some (.int y4)] [.int (kr s 2 (y1 + 1)), .ref 39] _ _
  refine l0 hi_253_72 ?_
  refine l0 hi_253_73 ?_
  refine l1 (v := y1) hi_253_74 rfl ?_
  refine l0 hi_253_75 ?_
  refine l10 hi_253_76 ?_
  show am_L _ _ _ _ _ [some (.ref 39), some (.int y1), some (.int y2), some (.int y3), some (.int y4)] [.int (y1 + 1), .int 0, .int 0, .int (kr s 2 (y1 + 1)), .ref 39] _ _
  refine l32 (as := [.ref 39, .int (kr s 2 (y1 + 1)), .int 0, .int 0, .int (y1 + 1)]) (la := [some (.ref 39), some (.int (kr s 2 (y1 + 1))), some (.int 0), some (.int 0), some (.int (y1 + 1)), none]) (rest := []) hi_253_77 (am_hd0 (M := 253) (by decide) 77) rfl rfl rfl (fun N' d' _ => lt196 (N := N') (d := d') hS) ?_ (fun _ q => nomatch q.1)
  rintro v5 S3 ⟨ev5, h4⟩
  cases ev5
  show am_L _ _ _ _ _ [some (.ref 39), some (.int y1), some (.int y2), some (.int y3), some (.int y4)] [] _ _
  refine am_L.mono (lt253_80 h4) ?_
  rintro o S1 ⟨e, h⟩
  have q : k253_63 s y1 y2 y3 y4 = k253_80 ((k196 s (kr s 2 (y1 + 1)) 0 0 (y1 + 1)).1) y2 y3 y4 := rfl
  rw [q]; exact ⟨e, h⟩
noncomputable def k253_57 (s : kS) (y1 : Int32) (y2 : Int32) (y3 : Int32) (y4 : Int32) (z0 : Int32) : kS × Int32 := k253_63 ((k177 s 1).1) y1 y2 y3 y4
theorem lt253_57 {sc : Nat × (Nat → Int32)} {N d : Nat} {S0 S : am_S} {s : kS} {y1 : Int32} {y2 : Int32} {y3 : Int32} {y4 : Int32} {z0 : Int32} (hS : MK S0 S s) : am_L (am_PP sc) N d 253 57 [some (.ref 39), some (.int y1), some (.int y2), some (.int y3), some (.int y4)] [.int z0] S (fun o S1 => o = some none ∧ MK S0 S1 (k253_57 s y1 y2 y3 y4 z0).1) := by
  refine l6i hi_253_57 ?_
  refine l2 (v := 39) hi_253_58 rfl ?_
  refine l0 hi_253_59 ?_
  refine l32 (as := [.ref 39, .int 1]) (la := [some (.ref 39), some (.int 1)]) (rest := []) hi_253_60 (am_hd0 (M := 253) (by decide) 60) rfl rfl rfl (fun N' d' _ => lt177 (N := N') (d := d') hS) ?_ (fun _ q => nomatch q.1)
  rintro v3 S1 ⟨ev3, h2⟩
  cases ev3
  show am_L _ _ _ _ _ [some (.ref 39), some (.int y1), some (.int y2), some (.int y3), some (.int y4)] [] _ _
  refine am_L.mono (lt253_63 h2) ?_
  rintro o S1 ⟨e, h⟩
  have q : k253_57 s y1 y2 y3 y4 z0 = k253_63 ((k177 s 1).1) y1 y2 y3 y4 := rfl
  rw [q]; exact ⟨e, h⟩
noncomputable def k253_47 (s : kS) (y1 : Int32) (y2 : Int32) (y3 : Int32) (y4 : Int32) (z0 : Int32) : kS × Int32 := k253_57 ((k189 s 39 y2 0 0).1) y1 y2 y3 y4 ((k189 s 39 y2 0 0).2)
theorem lt253_47 {sc : Nat × (Nat → Int32)} {N d : Nat} {S0 S : am_S} {s : kS} {y1 : Int32} {y2 : Int32} {y3 : Int32} {y4 : Int32} {z0 : Int32} (hS : MK S0 S s) : am_L (am_PP sc) N d 253 47 [some (.ref 39), some (.int y1), some (.int y2), some (.int y3), some (.int y4)] [.int z0] S (fun o S1 => o = some none ∧ MK S0 S1 (k253_47 s y1 y2 y3 y4 z0).1) := by
  refine l6i hi_253_47 ?_
  refine l2 (v := 39) hi_253_48 rfl ?_
  refine l0 hi_253_49 ?_
  refine l1 (v := y2) hi_253_51 rfl ?_
  refine l0 hi_253_52 ?_
  refine l0 hi_253_53 ?_
  refine l32 (as := [.ref 39, .int 39, .int y2, .int 0, .int 0]) (la := [some (.ref 39), some (.int 39), some (.int y2), some (.int 0), some (.int 0)]) (rest := []) hi_253_54 (am_hd0 (M := 253) (by decide) 54) rfl rfl rfl (fun N' d' _ => lt189 (N := N') (d := d') hS) ?_ (fun _ q => nomatch q.1)
  rintro v3 S1 ⟨ev3, h2⟩
  cases ev3
  show am_L _ _ _ _ _ [some (.ref 39), some (.int y1), some (.int y2), some (.int y3), some (.int y4)] [.int ((k189 s 39 y2 0 0).2)] _ _
  refine am_L.mono (lt253_57 h2) ?_
  rintro o S1 ⟨e, h⟩
  have q : k253_47 s y1 y2 y3 y4 z0 = k253_57 ((k189 s 39 y2 0 0).1) y1 y2 y3 y4 ((k189 s 39 y2 0 0).2) := rfl
  rw [q]; exact ⟨e, h⟩
noncomputable def k253_31 (s : kS) (y1 : Int32) (y2 : Int32) (z0 : Int32) : kS × Int32 := k253_47 ((k189 s 34 0 0 y1).1) y1 y2 z0 (k210 s) ((k189 s 34 0 0 y1).2)
theorem lt253_31 {sc : Nat × (Nat → Int32)} {N d : Nat} {S0 S : am_S} {s : kS} {y1 : Int32} {y2 : Int32} {z0 : Int32} {o3 : Option Value} {o4 : Option Value} (hS : MK S0 S s) : am_L (am_PP sc) N d 253 31 [some (.ref 39), some (.int y1), some (.int y2), o3, o4] [.int z0] S (fun o S1 => o = some none ∧ MK S0 S1 (k253_31 s y1 y2 z0).1) := by
  refine l3 (ls' := [some (.ref 39), some (.int y1), some (.int y2), some (.int z0), o4]) hi_253_31 (Nat.le_of_ble_eq_true rfl) rfl ?_
  refine l2 (v := 39) hi_253_32 rfl ?_
  refine l32 (as := [.ref 39]) (la := [some (.ref 39)]) (rest := []) hi_253_33 (am_hd0 (M := 253) (by decide) 33) rfl rfl rfl (fun N' d' _ => lt210 (N := N') (d := d') hS) ?_ (fun _ q => nomatch q.1)
  rintro v3 S1 ⟨ev3, h2⟩
  cases ev3
  show am_L _ _ _ _ _ [some (.ref 39), some (.int y1), some (.int y2), some (.int z0), o4] [.int (k210 s)] _ _
  refine l3 (ls' := [some (.ref 39), some (.int y1), some (.int y2), some (.int z0), some (.int (k210 s))]) hi_253_36 (Nat.le_of_ble_eq_true rfl) rfl ?_
  refine l2 (v := 39) hi_253_38 rfl ?_
  refine l0 hi_253_39 ?_
  refine l0 hi_253_41 ?_
  refine l0 hi_253_42 ?_
  refine l1 (v := y1) hi_253_43 rfl ?_
  refine l32 (as := [.ref 39, .int 34, .int 0, .int 0, .int y1]) (la := [some (.ref 39), some (.int 34), some (.int 0), some (.int 0), some (.int y1)]) (rest := []) hi_253_44 (am_hd0 (M := 253) (by decide) 44) rfl rfl rfl (fun N' d' _ => lt189 (N := N') (d := d') h2) ?_ (fun _ q => nomatch q.1)
  rintro v6 S4 ⟨ev6, h5⟩
  cases ev6
  show am_L _ _ _ _ _ [some (.ref 39), some (.int y1), some (.int y2), some (.int z0), some (.int (k210 s))] [.int ((k189 s 34 0 0 y1).2)] _ _
  refine am_L.mono (lt253_47 h5) ?_
  rintro o S1 ⟨e, h⟩
  have q : k253_31 s y1 y2 z0 = k253_47 ((k189 s 34 0 0 y1).1) y1 y2 z0 (k210 s) ((k189 s 34 0 0 y1).2) := rfl
  rw [q]; exact ⟨e, h⟩
noncomputable def k253_22 (s : kS) (y1 : Int32) (y2 : Int32) : kS × Int32 := k253_31 ((k189 s 38 y2 0 y1).1) y1 y2 ((k189 s 38 y2 0 y1).2)
theorem lt253_22 {sc : Nat × (Nat → Int32)} {N d : Nat} {S0 S : am_S} {s : kS} {y1 : Int32} {y2 : Int32} {o3 : Option Value} {o4 : Option Value} (hS : MK S0 S s) : am_L (am_PP sc) N d 253 22 [some (.ref 39), some (.int y1), some (.int y2), o3, o4] [] S (fun o S1 => o = some none ∧ MK S0 S1 (k253_22 s y1 y2).1) := by
  refine l2 (v := 39) hi_253_22 rfl ?_
  refine l0 hi_253_23 ?_
  refine l1 (v := y2) hi_253_25 rfl ?_
  refine l0 hi_253_26 ?_
  refine l1 (v := y1) hi_253_27 rfl ?_
  refine l32 (as := [.ref 39, .int 38, .int y2, .int 0, .int y1]) (la := [some (.ref 39), some (.int 38), some (.int y2), some (.int 0), some (.int y1)]) (rest := []) hi_253_28 (am_hd0 (M := 253) (by decide) 28) rfl rfl rfl (fun N' d' _ => lt189 (N := N') (d := d') hS) ?_ (fun _ q => nomatch q.1)
  rintro v3 S1 ⟨ev3, h2⟩
  cases ev3
  show am_L _ _ _ _ _ [some (.ref 39), some (.int y1), some (.int y2), o3, o4] [.int ((k189 s 38 y2 0 y1).2)] _ _
  refine am_L.mono (lt253_31 h2) ?_
  rintro o S1 ⟨e, h⟩
  have q : k253_22 s y1 y2 = k253_31 ((k189 s 38 y2 0 y1).1) y1 y2 ((k189 s 38 y2 0 y1).2) := rfl
  rw [q]; exact ⟨e, h⟩
noncomputable def k253_6 (s : kS) (y1 : Int32) (z0 : Int32) : kS × Int32 := if z0 ≠ 0 then k253_22 ((k254 s 3 0 y1).1) y1 (k197 s) else (s, 0)
theorem lt253_6 {sc : Nat × (Nat → Int32)} {N d : Nat} {S0 S : am_S} {s : kS} {y1 : Int32} {z0 : Int32} {o2 : Option Value} {o3 : Option Value} {o4 : Option Value} (hS : MK S0 S s) : am_L (am_PP sc) N d 253 6 [some (.ref 39), some (.int y1), o2, o3, o4] [.int z0] S (fun o S1 => o = some none ∧ MK S0 S1 (k253_6 s y1 z0).1) := by
  by_cases c1 : z0 ≠ 0
  · refine l12t hi_253_6 (decide_eq_true c1) ?_
    refine l2 (v := 39) hi_253_10 rfl ?_
    refine l32 (as := [.ref 39]) (la := [some (.ref 39)]) (rest := []) hi_253_11 (am_hd0 (M := 253) (by decide) 11) rfl rfl rfl (fun N' d' _ => lt197 (N := N') (d := d') hS) ?_ (fun _ q => nomatch q.1)
    rintro v4 S2 ⟨ev4, h3⟩
    cases ev4
    show am_L _ _ _ _ _ [some (.ref 39), some (.int y1), o2, o3, o4] [.int (k197 s)] _ _
    refine l3 (ls' := [some (.ref 39), some (.int y1), some (.int (k197 s)), o3, o4]) hi_253_14 (Nat.le_of_ble_eq_true rfl) rfl ?_
    refine l2 (v := 39) hi_253_15 rfl ?_
    refine l0 hi_253_16 ?_
    refine l0 hi_253_17 ?_
    refine l1 (v := y1) hi_253_18 rfl ?_
    refine l32 (as := [.ref 39, .int 3, .int 0, .int y1]) (la := [some (.ref 39), some (.int 3), some (.int 0), some (.int y1), none]) (rest := []) hi_253_19 (am_hd0 (M := 253) (by decide) 19) rfl rfl rfl (fun N' d' _ => lt254 (N := N') (d := d') h3) ?_ (fun _ q => nomatch q.1)
    rintro v7 S5 ⟨ev7, h6⟩
    cases ev7
    show am_L _ _ _ _ _ [some (.ref 39), some (.int y1), some (.int (k197 s)), o3, o4] [] _ _
    refine am_L.mono (lt253_22 h6) ?_
    rintro o S1 ⟨e, h⟩
    have q : k253_6 s y1 z0 = k253_22 ((k254 s 3 0 y1).1) y1 (k197 s) := by unfold k253_6; rw [if_pos c1]
    rw [q]; exact ⟨e, h⟩
  · refine l12f hi_253_6 (decide_eq_false c1) ?_
    refine l35 hi_253_9 ⟨rfl, ?_⟩
    unfold k253_6; rw [if_neg c1]; exact hS
/-- forNumbers(I)V -/
noncomputable def k253 (s : kS) (x1 : Int32) : kS × Int32 := k253_6 ((k193 s 12).1) x1 ((k193 s 12).2)
theorem lt253 {sc : Nat × (Nat → Int32)} {N d : Nat} {S0 S : am_S} {s : kS} {x1 : Int32} (hS : MK S0 S s) : am_L (am_PP sc) N d 253 0 [some (.ref 39), some (.int x1), none, none, none] [] S (fun o S1 => o = some none ∧ MK S0 S1 (k253 s x1).1) := by
  refine l2 (v := 39) hi_253_0 rfl ?_
  refine l0 hi_253_1 ?_
  refine l32 (as := [.ref 39, .int 12]) (la := [some (.ref 39), some (.int 12)]) (rest := []) hi_253_3 (am_hd0 (M := 253) (by decide) 3) rfl rfl rfl (fun N' d' _ => lt193 (N := N') (d := d') hS) ?_ (fun _ q => nomatch q.1)
  rintro v3 S1 ⟨ev3, h2⟩
  cases ev3
  show am_L _ _ _ _ _ [some (.ref 39), some (.int x1), none, none, none] [.int ((k193 s 12).2)] _ _
  refine am_L.mono (lt253_6 h2) ?_
  rintro o S1 ⟨e, h⟩
  have q : k253 s x1 = k253_6 ((k193 s 12).1) x1 ((k193 s 12).2) := rfl
  rw [q]; exact ⟨e, h⟩
noncomputable def k252_49 (s : kS) (y1 : Int32) (z0 : Int32) : kS × Int32 := ((k253 s y1).1, 0)
theorem lt252_49 {sc : Nat × (Nat → Int32)} {N d : Nat} {S0 S : am_S} {s : kS} {y1 : Int32} {z0 : Int32} (hS : MK S0 S s) : am_L (am_PP sc) N d 252 49 [some (.ref 39), some (.int y1)] [.int z0] S (fun o S1 => o = some none ∧ MK S0 S1 (k252_49 s y1 z0).1) := by
  refine l6i hi_252_49 ?_
  refine l2 (v := 39) hi_252_50 rfl ?_
  refine l1 (v := y1) hi_252_51 rfl ?_
  refine l32 (as := [.ref 39, .int y1]) (la := [some (.ref 39), some (.int y1), none, none, none]) (rest := []) hi_252_52 (am_hd0 (M := 252) (by decide) 52) rfl rfl rfl (fun N' d' _ => lt253 (N := N') (d := d') hS) ?_ (fun _ q => nomatch q.1)
  rintro v3 S1 ⟨ev3, h2⟩
  cases ev3
  show am_L _ _ _ _ _ [some (.ref 39), some (.int y1)] [] _ _
  refine l35 hi_252_55 ⟨rfl, ?_⟩
  exact h2
noncomputable def k252_32 (s : kS) : kS × Int32 := ((k186 s 0).1, 0)
theorem lt252_32 {sc : Nat × (Nat → Int32)} {N d : Nat} {S0 S : am_S} {s : kS} {o1 : Option Value} (hS : MK S0 S s) : am_L (am_PP sc) N d 252 32 [some (.ref 39), o1] [] S (fun o S1 => o = some none ∧ MK S0 S1 (k252_32 s).1) := by
  refine l2 (v := 39) hi_252_32 rfl ?_
  refine l0 hi_252_33 ?_
  refine l32 (as := [.ref 39, .int 0]) (la := [some (.ref 39), some (.int 0)]) (rest := []) hi_252_34 (am_hd0 (M := 252) (by decide) 34) rfl rfl rfl (fun N' d' _ => lt186 (N := N') (d := d') hS) ?_ (fun _ q => nomatch q.1)
  rintro v3 S1 ⟨ev3, h2⟩
  cases ev3
  show am_L _ _ _ _ _ [some (.ref 39), o1] [] _ _
  refine l18 hi_252_37 ?_
  refine l35 hi_252_55 ⟨rfl, ?_⟩
  exact h2
noncomputable def k252_4 (s : kS) (y1 : Int32) : kS × Int32 := if (k183 s) ≠ 69 then k252_49 ((k189 s 4 (-4) 0 0).1) y1 ((k189 s 4 (-4) 0 0).2) else k252_32 ((k179 (kf s 4 ((s.1 4) + 1)) 12 y1 0 0).1)
theorem lt252_4 {sc : Nat × (Nat → Int32)} {N d : Nat} {S0 S : am_S} {s : kS} {y1 : Int32} (hS : MK S0 S s) : am_L (am_PP sc) N d 252 4 [some (.ref 39), some (.int y1)] [] S (fun o S1 => o = some none ∧ MK S0 S1 (k252_4 s y1).1) := by
  refine l2 (v := 39) hi_252_4 rfl ?_
  refine l32 (as := [.ref 39]) (la := [some (.ref 39)]) (rest := []) hi_252_5 (am_hd0 (M := 252) (by decide) 5) rfl rfl rfl (fun N' d' _ => lt183 (N := N') (d := d') hS) ?_ (fun _ q => nomatch q.1)
  rintro v3 S1 ⟨ev3, h2⟩
  cases ev3
  show am_L _ _ _ _ _ [some (.ref 39), some (.int y1)] [.int (k183 s)] _ _
  refine l0 hi_252_8 ?_
  by_cases c4 : (k183 s) ≠ 69
  · refine l13t hi_252_10 (decide_eq_true c4) ?_
    refine l2 (v := 39) hi_252_40 rfl ?_
    refine l0 hi_252_41 ?_
    refine l0 hi_252_42 ?_
    refine l0 hi_252_44 ?_
    refine l0 hi_252_45 ?_
    refine l32 (as := [.ref 39, .int 4, .int (-4), .int 0, .int 0]) (la := [some (.ref 39), some (.int 4), some (.int (-4)), some (.int 0), some (.int 0)]) (rest := []) hi_252_46 (am_hd0 (M := 252) (by decide) 46) rfl rfl rfl (fun N' d' _ => lt189 (N := N') (d := d') h2) ?_ (fun _ q => nomatch q.1)
    rintro v7 S5 ⟨ev7, h6⟩
    cases ev7
    show am_L _ _ _ _ _ [some (.ref 39), some (.int y1)] [.int ((k189 s 4 (-4) 0 0).2)] _ _
    refine am_L.mono (lt252_49 h6) ?_
    rintro o S1 ⟨e, h⟩
    have q : k252_4 s y1 = k252_49 ((k189 s 4 (-4) 0 0).1) y1 ((k189 s 4 (-4) 0 0).2) := by unfold k252_4; rw [if_pos c4]
    rw [q]; exact ⟨e, h⟩
  · refine l13f hi_252_10 (decide_eq_false c4) ?_
    refine l2 (v := 39) hi_252_13 rfl ?_
    refine l7 hi_252_14 ?_
    refine l20 (v := .int (s.1 4)) h2 hi_252_15 rfl ?_
    refine l0 hi_252_18 ?_
    refine l10 hi_252_19 ?_
    show am_L _ _ _ _ _ [some (.ref 39), some (.int y1)] [.int ((s.1 4) + 1), .ref 39] _ _
    refine l21 h2 hi_252_20 ms_4 fun S8 h9 => ?_
    refine l2 (v := 39) hi_252_23 rfl ?_
    refine l0 hi_252_24 ?_
    refine l1 (v := y1) hi_252_26 rfl ?_
    refine l0 hi_252_27 ?_
    refine l0 hi_252_28 ?_
    refine l32 (as := [.ref 39, .int 12, .int y1, .int 0, .int 0]) (la := [some (.ref 39), some (.int 12), some (.int y1), some (.int 0), some (.int 0)]) (rest := []) hi_252_29 (am_hd0 (M := 252) (by decide) 29) rfl rfl rfl (fun N' d' _ => lt179 (N := N') (d := d') h9) ?_ (fun _ q => nomatch q.1)
    rintro v12 S10 ⟨ev12, h11⟩
    cases ev12
    show am_L _ _ _ _ _ [some (.ref 39), some (.int y1)] [] _ _
    refine am_L.mono (lt252_32 h11) ?_
    rintro o S1 ⟨e, h⟩
    have q : k252_4 s y1 = k252_32 ((k179 (kf s 4 ((s.1 4) + 1)) 12 y1 0 0).1) := by unfold k252_4; rw [if_neg c4]
    rw [q]; exact ⟨e, h⟩
/-- forThird(I)V -/
noncomputable def k252 (s : kS) (x1 : Int32) : kS × Int32 := k252_4 ((k209 s).1) x1
theorem lt252 {sc : Nat × (Nat → Int32)} {N d : Nat} {S0 S : am_S} {s : kS} {x1 : Int32} (hS : MK S0 S s) : am_L (am_PP sc) N d 252 0 [some (.ref 39), some (.int x1)] [] S (fun o S1 => o = some none ∧ MK S0 S1 (k252 s x1).1) := by
  refine l2 (v := 39) hi_252_0 rfl ?_
  refine l32 (as := [.ref 39]) (la := [some (.ref 39)]) (rest := []) hi_252_1 (am_hd0 (M := 252) (by decide) 1) rfl rfl rfl (fun N' d' _ => lt209 (N := N') (d := d') hS) ?_ (fun _ q => nomatch q.1)
  rintro v3 S1 ⟨ev3, h2⟩
  cases ev3
  show am_L _ _ _ _ _ [some (.ref 39), some (.int x1)] [] _ _
  refine am_L.mono (lt252_4 h2) ?_
  rintro o S1 ⟨e, h⟩
  have q : k252 s x1 = k252_4 ((k209 s).1) x1 := rfl
  rw [q]; exact ⟨e, h⟩
def k256b25 (y1 : Int32) (t : kS × Int32) : Nat × (kS × Int32) := if (t.1.1 48) ≤ t.2 then (1, (t.1, t.2)) else if (kr t.1 52 t.2) ≤ y1 then (0, (ka t.1 52 t.2 (kr t.1 52 t.2), t.2 + 1)) else (0, (ka t.1 52 t.2 y1, t.2 + 1))
theorem lb256_25 {sc : Nat × (Nat → Int32)} {d : Nat} {S0 : am_S} {y1 : Int32} {Q : Option (Option Value) → am_S → Prop} : ∀ (N : Nat) (S : am_S) (t : kS × Int32), MK S0 S t.1 → (∀ m S1, (kwh (k256b25 y1) m t).1 = 1 → MK S0 S1 (kwh (k256b25 y1) m t).2.1 → am_L (am_PP sc) N d 256 65 [some (.ref 39), some (.int y1), some (.int ((kwh (k256b25 y1) m t).2.2))] [] S1 Q) → am_L (am_PP sc) N d 256 25 [some (.ref 39), some (.int y1), some (.int t.2)] [] S Q := by
  intro N
  induction N with
  | zero => intros; exact l_zero
  | succ N ih =>
    intro S t hS kx65
    refine l1d (v := t.2) hi_256_25 rfl ?_
    refine l2 (v := 39) hi_256_26 rfl ?_
    refine l20 (v := .int (t.1.1 48)) hS hi_256_27 rfl ?_
    by_cases c1 : (t.1.1 48) ≤ t.2
    · refine l13t hi_256_30 (decide_eq_true c1) ?_
      have e0 : (k256b25 y1) t = (1, (t.1, t.2)) := by unfold k256b25; rw [if_pos c1]
      have e1 : kwh (k256b25 y1) 1 t = (1, (t.1, t.2)) := by rw [kwh_out (by rw [e0]; exact Nat.succ_ne_zero _), e0]
      have q := kx65 1 _  (by rw [e1]) (by rw [e1]; exact hS)
      rw [e1] at q
      exact q.less (Nat.le_succ N)
    · refine l13f hi_256_30 (decide_eq_false c1) ?_
      refine l2 (v := 39) hi_256_33 rfl ?_
      refine l20 (v := .ref 74) hS hi_256_34 rfl ?_
      refine l1 (v := t.2) hi_256_37 rfl ?_
      refine l2 (v := 39) hi_256_38 rfl ?_
      refine l20 (v := .ref 74) hS hi_256_39 rfl ?_
      refine l1 (v := t.2) hi_256_42 rfl ?_
      refine l25 hS ma_52 hi_256_43 fun g2 g3 => ?_
      show am_L _ _ _ _ _ [some (.ref 39), some (.int y1), some (.int t.2)] [.int (kr t.1 52 t.2), .int t.2, .ref 74] _ _
      refine l1 (v := y1) hi_256_44 rfl ?_
      by_cases c4 : (kr t.1 52 t.2) ≤ y1
      · refine l13t hi_256_45 (decide_eq_true c4) ?_
        refine l2 (v := 39) hi_256_52 rfl ?_
        refine l20 (v := .ref 74) hS hi_256_53 rfl ?_
        refine l1 (v := t.2) hi_256_56 rfl ?_
        refine l25 hS ma_52 hi_256_57 fun g5 g6 => ?_
        show am_L _ _ _ _ _ [some (.ref 39), some (.int y1), some (.int t.2)] [.int (kr t.1 52 t.2), .int t.2, .ref 74] _ _
        refine l26 hS ma_52 hi_256_58 fun S9 h10 g7 g8 => ?_
        refine l5 (v := t.2) (ls' := [some (.ref 39), some (.int y1), some (.int (t.2 + 1))]) hi_256_59 rfl rfl ?_
        refine l18 hi_256_62 ?_
        have e0 : (k256b25 y1) t = (0, (ka t.1 52 t.2 (kr t.1 52 t.2), t.2 + 1)) := by unfold k256b25; rw [if_neg c1]; rw [if_pos c4]
        have e1 : ∀ m, kwh (k256b25 y1) (m + 1) t = kwh (k256b25 y1) m (ka t.1 52 t.2 (kr t.1 52 t.2), t.2 + 1) := fun m => by rw [kwh_go (by rw [e0]), e0]
        exact ih _  (ka t.1 52 t.2 (kr t.1 52 t.2), t.2 + 1) h10 (fun m S1 hm h1 => by have q := kx65 (m + 1) S1 (by rw [e1]; exact hm) (by rw [e1]; exact h1); rw [e1] at q; exact q.less (Nat.le_succ N))
      · refine l13f hi_256_45 (decide_eq_false c4) ?_
        refine l1 (v := y1) hi_256_48 rfl ?_
        refine l18 hi_256_49 ?_
        refine l26 hS ma_52 hi_256_58 fun S13 h14 g11 g12 => ?_
        refine l5 (v := t.2) (ls' := [some (.ref 39), some (.int y1), some (.int (t.2 + 1))]) hi_256_59 rfl rfl ?_
        refine l18 hi_256_62 ?_
        have e0 : (k256b25 y1) t = (0, (ka t.1 52 t.2 y1, t.2 + 1)) := by unfold k256b25; rw [if_neg c1]; rw [if_neg c4]
        have e1 : ∀ m, kwh (k256b25 y1) (m + 1) t = kwh (k256b25 y1) m (ka t.1 52 t.2 y1, t.2 + 1) := fun m => by rw [kwh_go (by rw [e0]), e0]
        exact ih _  (ka t.1 52 t.2 y1, t.2 + 1) h14 (fun m S1 hm h1 => by have q := kx65 (m + 1) S1 (by rw [e1]; exact hm) (by rw [e1]; exact h1); rw [e1] at q; exact q.less (Nat.le_succ N))
/-- unhide(I)V -/
noncomputable def k256 (s : kS) (x1 : Int32) : kS × Int32 := ((kfin (k256b25 x1) (kf s 24 ((kr s 34 (s.1 32)) + x1), kr s 40 (s.1 37))).2.1, 0)
theorem lt256 {sc : Nat × (Nat → Int32)} {N d : Nat} {S0 S : am_S} {s : kS} {x1 : Int32} (hS : MK S0 S s) : am_L (am_PP sc) N d 256 0 [some (.ref 39), some (.int x1), none] [] S (fun o S1 => o = some none ∧ MK S0 S1 (k256 s x1).1) := by
  refine l2 (v := 39) hi_256_0 rfl ?_
  refine l2 (v := 39) hi_256_1 rfl ?_
  refine l20 (v := .ref 59) hS hi_256_2 rfl ?_
  refine l2 (v := 39) hi_256_5 rfl ?_
  refine l20 (v := .int (s.1 32)) hS hi_256_6 rfl ?_
  refine l25 hS ma_34 hi_256_9 fun g1 g2 => ?_
  show am_L _ _ _ _ _ [some (.ref 39), some (.int x1), none] [.int (kr s 34 (s.1 32)), .ref 39] _ _
  refine l1 (v := x1) hi_256_10 rfl ?_
  refine l10 hi_256_11 ?_
  show am_L _ _ _ _ _ [some (.ref 39), some (.int x1), none] [.int ((kr s 34 (s.1 32)) + x1), .ref 39] _ _
  refine l21 hS hi_256_12 ms_24 fun S3 h4 => ?_
  refine l2 (v := 39) hi_256_15 rfl ?_
  refine l20 (v := .ref 64) h4 hi_256_16 rfl ?_
  refine l2 (v := 39) hi_256_19 rfl ?_
  refine l20 (v := .int (s.1 37)) h4 hi_256_20 rfl ?_
  refine l25 h4 ma_40 hi_256_23 fun g5 g6 => ?_
  show am_L _ _ _ _ _ [some (.ref 39), some (.int x1), none] [.int (kr s 40 (s.1 37))] _ _
  refine l3 (ls' := [some (.ref 39), some (.int x1), some (.int (kr s 40 (s.1 37)))]) hi_256_24 (Nat.le_of_ble_eq_true rfl) rfl ?_
  refine lb256_25 N _  (kf s 24 ((kr s 34 (s.1 32)) + x1), kr s 40 (s.1 37)) h4 ?_
  · intro m7 S8  hm9 h10
    have hf11 : kfin (k256b25 x1) (kf s 24 ((kr s 34 (s.1 32)) + x1), kr s 40 (s.1 37)) = kwh (k256b25 x1) m7 (kf s 24 ((kr s 34 (s.1 32)) + x1), kr s 40 (s.1 37)) := kfin_eq (by rw [hm9]; decide)
    rw [← hf11] at hm9 h10 ⊢
    refine l35 hi_256_65 ⟨rfl, ?_⟩
    exact h10
noncomputable def k255_55 (s : kS) : kS × Int32 := ((k199 s 15).1, 0)
theorem lt255_55 {sc : Nat × (Nat → Int32)} {N d : Nat} {S0 S : am_S} {s : kS} {o1 : Option Value} {o2 : Option Value} {o3 : Option Value} (hS : MK S0 S s) : am_L (am_PP sc) N d 255 55 [some (.ref 39), o1, o2, o3] [] S (fun o S1 => o = some none ∧ MK S0 S1 (k255_55 s).1) := by
  refine l2 (v := 39) hi_255_55 rfl ?_
  refine l0 hi_255_56 ?_
  refine l32 (as := [.ref 39, .int 15]) (la := [some (.ref 39), some (.int 15)]) (rest := []) hi_255_58 (am_hd0 (M := 255) (by decide) 58) rfl rfl rfl (fun N' d' _ => lt199 (N := N') (d := d') hS) ?_ (fun _ q => nomatch q.1)
  rintro v3 S1 ⟨ev3, h2⟩
  cases ev3
  show am_L _ _ _ _ _ [some (.ref 39), o1, o2, o3] [.int ((k199 s 15).2)] _ _
  refine l6i hi_255_61 ?_
  refine l35 hi_255_62 ⟨rfl, ?_⟩
  exact h2
noncomputable def k255_49 (s : kS) (y3 : Int32) (z0 : Int32) : kS × Int32 := k255_55 ((k256 s y3).1)
theorem lt255_49 {sc : Nat × (Nat → Int32)} {N d : Nat} {S0 S : am_S} {s : kS} {y3 : Int32} {z0 : Int32} {o1 : Option Value} {o2 : Option Value} (hS : MK S0 S s) : am_L (am_PP sc) N d 255 49 [some (.ref 39), o1, o2, some (.int y3)] [.int z0] S (fun o S1 => o = some none ∧ MK S0 S1 (k255_49 s y3 z0).1) := by
  refine l6i hi_255_49 ?_
  refine l2 (v := 39) hi_255_50 rfl ?_
  refine l1 (v := y3) hi_255_51 rfl ?_
  refine l32 (as := [.ref 39, .int y3]) (la := [some (.ref 39), some (.int y3), none]) (rest := []) hi_255_52 (am_hd0 (M := 255) (by decide) 52) rfl rfl rfl (fun N' d' _ => lt256 (N := N') (d := d') hS) ?_ (fun _ q => nomatch q.1)
  rintro v3 S1 ⟨ev3, h2⟩
  cases ev3
  show am_L _ _ _ _ _ [some (.ref 39), o1, o2, some (.int y3)] [] _ _
  refine am_L.mono (lt255_55 h2) ?_
  rintro o S1 ⟨e, h⟩
  have q : k255_49 s y3 z0 = k255_55 ((k256 s y3).1) := rfl
  rw [q]; exact ⟨e, h⟩
noncomputable def k255_40 (s : kS) (y3 : Int32) : kS × Int32 := k255_49 ((k189 s 41 y3 0 0).1) y3 ((k189 s 41 y3 0 0).2)
theorem lt255_40 {sc : Nat × (Nat → Int32)} {N d : Nat} {S0 S : am_S} {s : kS} {y3 : Int32} {o1 : Option Value} {o2 : Option Value} (hS : MK S0 S s) : am_L (am_PP sc) N d 255 40 [some (.ref 39), o1, o2, some (.int y3)] [] S (fun o S1 => o = some none ∧ MK S0 S1 (k255_40 s y3).1) := by
  refine l2 (v := 39) hi_255_40 rfl ?_
  refine l0 hi_255_41 ?_
  refine l1 (v := y3) hi_255_43 rfl ?_
  refine l0 hi_255_44 ?_
  refine l0 hi_255_45 ?_
  refine l32 (as := [.ref 39, .int 41, .int y3, .int 0, .int 0]) (la := [some (.ref 39), some (.int 41), some (.int y3), some (.int 0), some (.int 0)]) (rest := []) hi_255_46 (am_hd0 (M := 255) (by decide) 46) rfl rfl rfl (fun N' d' _ => lt189 (N := N') (d := d') hS) ?_ (fun _ q => nomatch q.1)
  rintro v3 S1 ⟨ev3, h2⟩
  cases ev3
  show am_L _ _ _ _ _ [some (.ref 39), o1, o2, some (.int y3)] [.int ((k189 s 41 y3 0 0).2)] _ _
  refine am_L.mono (lt255_49 h2) ?_
  rintro o S1 ⟨e, h⟩
  have q : k255_40 s y3 = k255_49 ((k189 s 41 y3 0 0).1) y3 ((k189 s 41 y3 0 0).2) := rfl
  rw [q]; exact ⟨e, h⟩
noncomputable def k255_25 (s : kS) (y1 : Int32) (y3 : Int32) (z0 : Int32) : kS × Int32 := k255_40 ((k246 (ka s 72 y1 (k210 s))).1) y3
theorem lt255_25 {sc : Nat × (Nat → Int32)} {N d : Nat} {S0 S : am_S} {s : kS} {y1 : Int32} {y3 : Int32} {z0 : Int32} {o2 : Option Value} (hS : MK S0 S s) : am_L (am_PP sc) N d 255 25 [some (.ref 39), some (.int y1), o2, some (.int y3)] [.int z0] S (fun o S1 => o = some none ∧ MK S0 S1 (k255_25 s y1 y3 z0).1) := by
  refine l6i hi_255_25 ?_
  refine l2 (v := 39) hi_255_26 rfl ?_
  refine l20 (v := .ref 91) hS hi_255_27 rfl ?_
  refine l1 (v := y1) hi_255_30 rfl ?_
  refine l2 (v := 39) hi_255_31 rfl ?_
  refine l32 (as := [.ref 39]) (la := [some (.ref 39)]) (rest := [.int y1, .ref 91]) hi_255_32 (am_hd0 (M := 255) (by decide) 32) rfl rfl rfl (fun N' d' _ => lt210 (N := N') (d := d') hS) ?_ (fun _ q => nomatch q.1)
  rintro v3 S1 ⟨ev3, h2⟩
  cases ev3
  show am_L _ _ _ _ _ [some (.ref 39), some (.int y1), o2, some (.int y3)] [.int (k210 s), .int y1, .ref 91] _ _
  refine l26 h2 ma_72 hi_255_35 fun S6 h7 g4 g5 => ?_
  refine l2 (v := 39) hi_255_36 rfl ?_
  refine l32 (as := [.ref 39]) (la := [some (.ref 39), none, none]) (rest := []) hi_255_37 (am_hd0 (M := 255) (by decide) 37) rfl rfl rfl (fun N' d' _ => lt246 (N := N') (d := d') h7) ?_ (fun _ q => nomatch q.1)
  rintro v10 S8 ⟨ev10, h9⟩
  cases ev10
  show am_L _ _ _ _ _ [some (.ref 39), some (.int y1), o2, some (.int y3)] [] _ _
  refine am_L.mono (lt255_40 h9) ?_
  rintro o S1 ⟨e, h⟩
  have q : k255_25 s y1 y3 z0 = k255_40 ((k246 (ka s 72 y1 (k210 s))).1) y3 := rfl
  rw [q]; exact ⟨e, h⟩
noncomputable def k255_16 (s : kS) (y1 : Int32) (y2 : Int32) (y3 : Int32) : kS × Int32 := k255_25 ((k189 s 40 y3 y2 0).1) y1 y3 ((k189 s 40 y3 y2 0).2)
theorem lt255_16 {sc : Nat × (Nat → Int32)} {N d : Nat} {S0 S : am_S} {s : kS} {y1 : Int32} {y2 : Int32} {y3 : Int32} (hS : MK S0 S s) : am_L (am_PP sc) N d 255 16 [some (.ref 39), some (.int y1), some (.int y2), some (.int y3)] [] S (fun o S1 => o = some none ∧ MK S0 S1 (k255_16 s y1 y2 y3).1) := by
  refine l2 (v := 39) hi_255_16 rfl ?_
  refine l0 hi_255_17 ?_
  refine l1 (v := y3) hi_255_19 rfl ?_
  refine l1 (v := y2) hi_255_20 rfl ?_
  refine l0 hi_255_21 ?_
  refine l32 (as := [.ref 39, .int 40, .int y3, .int y2, .int 0]) (la := [some (.ref 39), some (.int 40), some (.int y3), some (.int y2), some (.int 0)]) (rest := []) hi_255_22 (am_hd0 (M := 255) (by decide) 22) rfl rfl rfl (fun N' d' _ => lt189 (N := N') (d := d') hS) ?_ (fun _ q => nomatch q.1)
  rintro v3 S1 ⟨ev3, h2⟩
  cases ev3
  show am_L _ _ _ _ _ [some (.ref 39), some (.int y1), some (.int y2), some (.int y3)] [.int ((k189 s 40 y3 y2 0).2)] _ _
  refine am_L.mono (lt255_25 h2) ?_
  rintro o S1 ⟨e, h⟩
  have q : k255_16 s y1 y2 y3 = k255_25 ((k189 s 40 y3 y2 0).1) y1 y3 ((k189 s 40 y3 y2 0).2) := rfl
  rw [q]; exact ⟨e, h⟩
noncomputable def k255_11 (s : kS) (y1 : Int32) (y2 : Int32) (y3 : Int32) (z0 : Int32) : kS × Int32 := k255_16 ((k224 s).1) y1 y2 y3
theorem lt255_11 {sc : Nat × (Nat → Int32)} {N d : Nat} {S0 S : am_S} {s : kS} {y1 : Int32} {y2 : Int32} {y3 : Int32} {z0 : Int32} (hS : MK S0 S s) : am_L (am_PP sc) N d 255 11 [some (.ref 39), some (.int y1), some (.int y2), some (.int y3)] [.int z0] S (fun o S1 => o = some none ∧ MK S0 S1 (k255_11 s y1 y2 y3 z0).1) := by
  refine l6i hi_255_11 ?_
  refine l2 (v := 39) hi_255_12 rfl ?_
  refine l32 (as := [.ref 39]) (la := [some (.ref 39), none, none]) (rest := []) hi_255_13 (am_hd0 (M := 255) (by decide) 13) rfl rfl rfl (fun N' d' _ => lt224 (N := N') (d := d') hS) ?_ (fun _ q => nomatch q.1)
  rintro v3 S1 ⟨ev3, h2⟩
  cases ev3
  show am_L _ _ _ _ _ [some (.ref 39), some (.int y1), some (.int y2), some (.int y3)] [] _ _
  refine am_L.mono (lt255_16 h2) ?_
  rintro o S1 ⟨e, h⟩
  have q : k255_11 s y1 y2 y3 z0 = k255_16 ((k224 s).1) y1 y2 y3 := rfl
  rw [q]; exact ⟨e, h⟩
/-- forNumbersEnd(III)V -/
noncomputable def k255 (s : kS) (x1 : Int32) (x2 : Int32) (x3 : Int32) : kS × Int32 := k255_11 ((k189 s 33 (x3 + 3) 0 0).1) x1 x2 x3 ((k189 s 33 (x3 + 3) 0 0).2)
theorem lt255 {sc : Nat × (Nat → Int32)} {N d : Nat} {S0 S : am_S} {s : kS} {x1 : Int32} {x2 : Int32} {x3 : Int32} (hS : MK S0 S s) : am_L (am_PP sc) N d 255 0 [some (.ref 39), some (.int x1), some (.int x2), some (.int x3)] [] S (fun o S1 => o = some none ∧ MK S0 S1 (k255 s x1 x2 x3).1) := by
  refine l2 (v := 39) hi_255_0 rfl ?_
  refine l0 hi_255_1 ?_
  refine l1 (v := x3) hi_255_3 rfl ?_
  refine l0 hi_255_4 ?_
  refine l10 hi_255_5 ?_
  show am_L _ _ _ _ _ [some (.ref 39), some (.int x1), some (.int x2), some (.int x3)] [.int (x3 + 3), .int 33, .ref 39] _ _
  refine l0 hi_255_6 ?_
  refine l0 hi_255_7 ?_
  refine l32 (as := [.ref 39, .int 33, .int (x3 + 3), .int 0, .int 0]) (la := [some (.ref 39), some (.int 33), some (.int (x3 + 3)), some (.int 0), some (.int 0)]) (rest := []) hi_255_8 (am_hd0 (M := 255) (by decide) 8) rfl rfl rfl (fun N' d' _ => lt189 (N := N') (d := d') hS) ?_ (fun _ q => nomatch q.1)
  rintro v3 S1 ⟨ev3, h2⟩
  cases ev3
  show am_L _ _ _ _ _ [some (.ref 39), some (.int x1), some (.int x2), some (.int x3)] [.int ((k189 s 33 (x3 + 3) 0 0).2)] _ _
  refine am_L.mono (lt255_11 h2) ?_
  rintro o S1 ⟨e, h⟩
  have q : k255 s x1 x2 x3 = k255_11 ((k189 s 33 (x3 + 3) 0 0).1) x1 x2 x3 ((k189 s 33 (x3 + 3) 0 0).2) := rfl
  rw [q]; exact ⟨e, h⟩
noncomputable def k258_42 (s : kS) (y1 : Int32) (y2 : Int32) : kS × Int32 := if y2 ≤ y1 then (s, 0) else ((k189 s 26 (y2 - y1) 0 0).1, 0)
theorem lt258_42 {sc : Nat × (Nat → Int32)} {N d : Nat} {S0 S : am_S} {s : kS} {y1 : Int32} {y2 : Int32} (hS : MK S0 S s) : am_L (am_PP sc) N d 258 42 [some (.ref 39), some (.int y1), some (.int y2)] [] S (fun o S1 => o = some none ∧ MK S0 S1 (k258_42 s y1 y2).1) := by
  refine l1 (v := y2) hi_258_42 rfl ?_
  refine l1 (v := y1) hi_258_43 rfl ?_
  by_cases c1 : y2 ≤ y1
  · refine l13t hi_258_44 (decide_eq_true c1) ?_
    refine l35 hi_258_59 ⟨rfl, ?_⟩
    unfold k258_42; rw [if_pos c1]; exact hS
  · refine l13f hi_258_44 (decide_eq_false c1) ?_
    refine l2 (v := 39) hi_258_47 rfl ?_
    refine l0 hi_258_48 ?_
    refine l1 (v := y2) hi_258_50 rfl ?_
    refine l1 (v := y1) hi_258_51 rfl ?_
    refine l10 hi_258_52 ?_
    show am_L _ _ _ _ _ [some (.ref 39), some (.int y1), some (.int y2)] [.int (y2 - y1), .int 26, .ref 39] _ _
    refine l0 hi_258_53 ?_
    refine l0 hi_258_54 ?_
    refine l32 (as := [.ref 39, .int 26, .int (y2 - y1), .int 0, .int 0]) (la := [some (.ref 39), some (.int 26), some (.int (y2 - y1)), some (.int 0), some (.int 0)]) (rest := []) hi_258_55 (am_hd0 (M := 258) (by decide) 55) rfl rfl rfl (fun N' d' _ => lt189 (N := N') (d := d') hS) ?_ (fun _ q => nomatch q.1)
    rintro v4 S2 ⟨ev4, h3⟩
    cases ev4
    show am_L _ _ _ _ _ [some (.ref 39), some (.int y1), some (.int y2)] [.int ((k189 s 26 (y2 - y1) 0 0).2)] _ _
    refine l6i hi_258_58 ?_
    refine l35 hi_258_59 ⟨rfl, ?_⟩
    unfold k258_42; rw [if_neg c1]; exact h3
noncomputable def k258_35 (s : kS) (y1 : Int32) (y2 : Int32) : kS × Int32 := k258_42 ((k240 s (y1 - y2)).1) y1 y2
theorem lt258_35 {sc : Nat × (Nat → Int32)} {N d : Nat} {S0 S : am_S} {s : kS} {y1 : Int32} {y2 : Int32} (hS : MK S0 S s) : am_L (am_PP sc) N d 258 35 [some (.ref 39), some (.int y1), some (.int y2)] [] S (fun o S1 => o = some none ∧ MK S0 S1 (k258_35 s y1 y2).1) := by
  refine l2 (v := 39) hi_258_35 rfl ?_
  refine l1 (v := y1) hi_258_36 rfl ?_
  refine l1 (v := y2) hi_258_37 rfl ?_
  refine l10 hi_258_38 ?_
  show am_L _ _ _ _ _ [some (.ref 39), some (.int y1), some (.int y2)] [.int (y1 - y2), .ref 39] _ _
  refine l32 (as := [.ref 39, .int (y1 - y2)]) (la := [some (.ref 39), some (.int (y1 - y2)), none]) (rest := []) hi_258_39 (am_hd0 (M := 258) (by decide) 39) rfl rfl rfl (fun N' d' _ => lt240 (N := N') (d := d') hS) ?_ (fun _ q => nomatch q.1)
  rintro v3 S1 ⟨ev3, h2⟩
  cases ev3
  show am_L _ _ _ _ _ [some (.ref 39), some (.int y1), some (.int y2)] [] _ _
  refine am_L.mono (lt258_42 h2) ?_
  rintro o S1 ⟨e, h⟩
  have q : k258_35 s y1 y2 = k258_42 ((k240 s (y1 - y2)).1) y1 y2 := rfl
  rw [q]; exact ⟨e, h⟩
noncomputable def k258_31 (s : kS) (y1 : Int32) (y2 : Int32) : kS × Int32 := k258_35 ((k209 s).1) y1 y2
theorem lt258_31 {sc : Nat × (Nat → Int32)} {N d : Nat} {S0 S : am_S} {s : kS} {y1 : Int32} {y2 : Int32} (hS : MK S0 S s) : am_L (am_PP sc) N d 258 31 [some (.ref 39), some (.int y1), some (.int y2)] [] S (fun o S1 => o = some none ∧ MK S0 S1 (k258_31 s y1 y2).1) := by
  refine l2 (v := 39) hi_258_31 rfl ?_
  refine l32 (as := [.ref 39]) (la := [some (.ref 39)]) (rest := []) hi_258_32 (am_hd0 (M := 258) (by decide) 32) rfl rfl rfl (fun N' d' _ => lt209 (N := N') (d := d') hS) ?_ (fun _ q => nomatch q.1)
  rintro v3 S1 ⟨ev3, h2⟩
  cases ev3
  show am_L _ _ _ _ _ [some (.ref 39), some (.int y1), some (.int y2)] [] _ _
  refine am_L.mono (lt258_35 h2) ?_
  rintro o S1 ⟨e, h⟩
  have q : k258_31 s y1 y2 = k258_35 ((k209 s).1) y1 y2 := rfl
  rw [q]; exact ⟨e, h⟩
noncomputable def k258_16 (s : kS) (y1 : Int32) (y2 : Int32) : kS × Int32 := ((k189 s 25 ((y1 - y2) + 1) 0 0).1, 0)
theorem lt258_16 {sc : Nat × (Nat → Int32)} {N d : Nat} {S0 S : am_S} {s : kS} {y1 : Int32} {y2 : Int32} (hS : MK S0 S s) : am_L (am_PP sc) N d 258 16 [some (.ref 39), some (.int y1), some (.int y2)] [] S (fun o S1 => o = some none ∧ MK S0 S1 (k258_16 s y1 y2).1) := by
  refine l2 (v := 39) hi_258_16 rfl ?_
  refine l0 hi_258_17 ?_
  refine l1 (v := y1) hi_258_19 rfl ?_
  refine l1 (v := y2) hi_258_20 rfl ?_
  refine l10 hi_258_21 ?_
  show am_L _ _ _ _ _ [some (.ref 39), some (.int y1), some (.int y2)] [.int (y1 - y2), .int 25, .ref 39] _ _
  refine l0 hi_258_22 ?_
  refine l10 hi_258_23 ?_
  show am_L _ _ _ _ _ [some (.ref 39), some (.int y1), some (.int y2)] [.int ((y1 - y2) + 1), .int 25, .ref 39] _ _
  refine l0 hi_258_24 ?_
  refine l0 hi_258_25 ?_
  refine l32 (as := [.ref 39, .int 25, .int ((y1 - y2) + 1), .int 0, .int 0]) (la := [some (.ref 39), some (.int 25), some (.int ((y1 - y2) + 1)), some (.int 0), some (.int 0)]) (rest := []) hi_258_26 (am_hd0 (M := 258) (by decide) 26) rfl rfl rfl (fun N' d' _ => lt189 (N := N') (d := d') hS) ?_ (fun _ q => nomatch q.1)
  rintro v3 S1 ⟨ev3, h2⟩
  cases ev3
  show am_L _ _ _ _ _ [some (.ref 39), some (.int y1), some (.int y2)] [.int ((k189 s 25 ((y1 - y2) + 1) 0 0).2)] _ _
  refine l6i hi_258_29 ?_
  refine l35 hi_258_30 ⟨rfl, ?_⟩
  exact h2
/-- adjust(II)V -/
noncomputable def k258 (s : kS) (x1 : Int32) (x2 : Int32) : kS × Int32 := if (k216 s) = 0 then k258_31 s x1 x2 else if x1 < x2 then k258_31 s x1 x2 else k258_16 ((k217 s).1) x1 x2
theorem lt258 {sc : Nat × (Nat → Int32)} {N d : Nat} {S0 S : am_S} {s : kS} {x1 : Int32} {x2 : Int32} (hS : MK S0 S s) : am_L (am_PP sc) N d 258 0 [some (.ref 39), some (.int x1), some (.int x2)] [] S (fun o S1 => o = some none ∧ MK S0 S1 (k258 s x1 x2).1) := by
  refine l2 (v := 39) hi_258_0 rfl ?_
  refine l32 (as := [.ref 39]) (la := [some (.ref 39)]) (rest := []) hi_258_1 (am_hd0 (M := 258) (by decide) 1) rfl rfl rfl (fun N' d' _ => lt216 (N := N') (d := d') hS) ?_ (fun _ q => nomatch q.1)
  rintro v3 S1 ⟨ev3, h2⟩
  cases ev3
  show am_L _ _ _ _ _ [some (.ref 39), some (.int x1), some (.int x2)] [.int (k216 s)] _ _
  by_cases c4 : (k216 s) = 0
  · refine l12t hi_258_4 (decide_eq_true c4) ?_
    refine am_L.mono (lt258_31 h2) ?_
    rintro o S1 ⟨e, h⟩
    have q : k258 s x1 x2 = k258_31 s x1 x2 := by unfold k258; rw [if_pos c4]
    rw [q]; exact ⟨e, h⟩
  · refine l12f hi_258_4 (decide_eq_false c4) ?_
    refine l1 (v := x2) hi_258_7 rfl ?_
    refine l1 (v := x1) hi_258_8 rfl ?_
    by_cases c5 : x1 < x2
    · refine l13t hi_258_9 (decide_eq_true c5) ?_
      refine am_L.mono (lt258_31 h2) ?_
      rintro o S1 ⟨e, h⟩
      have q : k258 s x1 x2 = k258_31 s x1 x2 := by unfold k258; rw [if_neg c4]; rw [if_pos c5]
      rw [q]; exact ⟨e, h⟩
    · refine l13f hi_258_9 (decide_eq_false c5) ?_
      refine l2 (v := 39) hi_258_12 rfl ?_
      refine l32 (as := [.ref 39]) (la := [some (.ref 39), none]) (rest := []) hi_258_13 (am_hd0 (M := 258) (by decide) 13) rfl rfl rfl (fun N' d' _ => lt217 (N := N') (d := d') h2) ?_ (fun _ q => nomatch q.1)
      rintro v8 S6 ⟨ev8, h7⟩
      cases ev8
      show am_L _ _ _ _ _ [some (.ref 39), some (.int x1), some (.int x2)] [] _ _
      refine am_L.mono (lt258_16 h7) ?_
      rintro o S1 ⟨e, h⟩
      have q : k258 s x1 x2 = k258_16 ((k217 s).1) x1 x2 := by unfold k258; rw [if_neg c4]; rw [if_neg c5]
      rw [q]; exact ⟨e, h⟩
def k257b90 (y1 : Int32) (y2 : Int32) (y4 : Int32) (y5 : Int32) (y6 : Int32) (t : kS × Int32) : Nat × (kS × Int32) := if y2 ≤ t.2 then (1, (t.1, t.2)) else (0, ((k196 t.1 (kr t.1 2 ((y1 + 1) + (2 * t.2))) 0 0 ((y1 + 1) + (2 * t.2))).1, t.2 + 1))
theorem lb257_90 {sc : Nat × (Nat → Int32)} {d : Nat} {S0 : am_S} {y1 : Int32} {y2 : Int32} {y4 : Int32} {y5 : Int32} {y6 : Int32} {Q : Option (Option Value) → am_S → Prop} : ∀ (N : Nat) (S : am_S) (o3 : Option Value) (t : kS × Int32), MK S0 S t.1 → (∀ m S1 (p3 : Option Value), (kwh (k257b90 y1 y2 y4 y5 y6) m t).1 = 1 → MK S0 S1 (kwh (k257b90 y1 y2 y4 y5 y6) m t).2.1 → am_L (am_PP sc) N d 257 129 [some (.ref 39), some (.int y1), some (.int y2), p3, some (.int y4), some (.int y5), some (.int y6), some (.int ((kwh (k257b90 y1 y2 y4 y5 y6) m t).2.2))] [] S1 Q) → am_L (am_PP sc) N d 257 90 [some (.ref 39), some (.int y1), some (.int y2), o3, some (.int y4), some (.int y5), some (.int y6), some (.int t.2)] [] S Q := by
  intro N
  induction N with
  | zero => intros; exact l_zero
  | succ N ih =>
    intro S o3 t hS kx129
    refine l1d (v := t.2) hi_257_90 rfl ?_
    refine l1 (v := y2) hi_257_92 rfl ?_
    by_cases c1 : y2 ≤ t.2
    · refine l13t hi_257_93 (decide_eq_true c1) ?_
      have e0 : (k257b90 y1 y2 y4 y5 y6) t = (1, (t.1, t.2)) := by unfold k257b90; rw [if_pos c1]
      have e1 : kwh (k257b90 y1 y2 y4 y5 y6) 1 t = (1, (t.1, t.2)) := by rw [kwh_out (by rw [e0]; exact Nat.succ_ne_zero _), e0]
      have q := kx129 1 _ o3 (by rw [e1]) (by rw [e1]; exact hS)
      rw [e1] at q
      exact q.less (Nat.le_succ N)
    · refine l13f hi_257_93 (decide_eq_false c1) ?_
      refine l2 (v := 39) hi_257_96 rfl ?_
      refine l2 (v := 39) hi_257_97 rfl ?_
      refine l20 (v := .ref 41) hS hi_257_98 rfl ?_
      refine l1 (v := y1) hi_257_101 rfl ?_
      refine l0 hi_257_102 ?_
      refine l10 hi_257_103 ?_
      show am_L _ _ _ _ _ [some (.ref 39), some (.int y1), some (.int y2), o3, some (.int y4), some (.int y5), some (.int y6), some (.int t.2)] [.int (y1 + 1), .ref 41, .ref 39] _ _
      refine l0 hi_257_104 ?_
      refine l1 (v := t.2) hi_257_105 rfl ?_
      refine l10 hi_257_107 ?_
      show am_L _ _ _ _ _ [some (.ref 39), some (.int y1), some (.int y2), o3, some (.int y4), some (.int y5), some (.int y6), some (.int t.2)] [.int (2 * t.2), .int (y1 + 1), .ref 41, .ref 39] _ _
      refine l10 hi_257_108 ?_
      show am_L _ _ _ _ _ [some (.ref 39), some (.int y1), some (.int y2), o3, some (.int y4), some (.int y5), some (.int y6), some (.int t.2)] [.int ((y1 + 1) + (2 * t.2)), .ref 41, .ref 39] _ _
      refine l25 hS ma_2 hi_257_109 fun g2 g3 => ?_
      show am_L _ _ _ _ _ [some (.ref 39), some (.int y1), some (.int y2), o3, some (.int y4), some (.int y5), some (.int y6), some (.int t.2)] [.int (kr t.1 2 ((y1 + 1) + (2 * t.2))), .ref 39] _ _
      refine l0 hi_257_110 ?_
      refine l0 hi_257_111 ?_
      refine l1 (v := y1) hi_257_112 rfl ?_
      refine l0 hi_257_113 ?_
      refine l10 hi_257_114 ?_
      show am_L _ _ _ _ _ [some (.ref 39), some (.int y1), some (.int y2), o3, some (.int y4), some (.int y5), some (.int y6), some (.int t.2)] [.int (y1 + 1), .int 0, .int 0, .int (kr t.1 2 ((y1 + 1) + (2 * t.2))), .ref 39] _ _
      refine l0 hi_257_115 ?_
      refine l1 (v := t.2) hi_257_116 rfl ?_
      refine l10 hi_257_118 ?_
      show am_L _ _ _ _ _ [some (.ref 39), some (.int y1), some (.int y2), o3, some (.int y4), some (.int y5), some (.int y6), some (.int t.2)] [.int (2 * t.2), .int (y1 + 1), .int 0, .int 0, .int (kr t.1 2 ((y1 + 1) + (2 * t.2))), .ref 39] _ _
      refine l10 hi_257_119 ?_
      show am_L _ _ _ _ _ [some (.ref 39), some (.int y1), some (.int y2), o3, some (.int y4), some (.int y5), some (.int y6), some (.int t.2)] [.int ((y1 + 1) + (2 * t.2)), .int 0, .int 0, .int (kr t.1 2 ((y1 + 1) + (2 * t.2))), .ref 39] _ _
      refine l32 (as := [.ref 39, .int (kr t.1 2 ((y1 + 1) + (2 * t.2))), .int 0, .int 0, .int ((y1 + 1) + (2 * t.2))]) (la := [some (.ref 39), some (.int (kr t.1 2 ((y1 + 1) + (2 * t.2)))), some (.int 0), some (.int 0), some (.int ((y1 + 1) + (2 * t.2))), none]) (rest := []) hi_257_120 (am_hd0 (M := 257) (by decide) 120) rfl rfl rfl (fun N' d' _ => lt196 (N := N') (d := d') hS) ?_ (fun _ q => nomatch q.1)
      rintro v6 S4 ⟨ev6, h5⟩
      cases ev6
      show am_L _ _ _ _ _ [some (.ref 39), some (.int y1), some (.int y2), o3, some (.int y4), some (.int y5), some (.int y6), some (.int t.2)] [] _ _
      refine l5 (v := t.2) (ls' := [some (.ref 39), some (.int y1), some (.int y2), o3, some (.int y4), some (.int y5), some (.int y6), some (.int (t.2 + 1))]) hi_257_123 rfl rfl ?_
      refine l18 hi_257_126 ?_
      have e0 : (k257b90 y1 y2 y4 y5 y6) t = (0, ((k196 t.1 (kr t.1 2 ((y1 + 1) + (2 * t.2))) 0 0 ((y1 + 1) + (2 * t.2))).1, t.2 + 1)) := by unfold k257b90; rw [if_neg c1]
      have e1 : ∀ m, kwh (k257b90 y1 y2 y4 y5 y6) (m + 1) t = kwh (k257b90 y1 y2 y4 y5 y6) m ((k196 t.1 (kr t.1 2 ((y1 + 1) + (2 * t.2))) 0 0 ((y1 + 1) + (2 * t.2))).1, t.2 + 1) := fun m => by rw [kwh_go (by rw [e0]), e0]
      exact ih _ o3 ((k196 t.1 (kr t.1 2 ((y1 + 1) + (2 * t.2))) 0 0 ((y1 + 1) + (2 * t.2))).1, t.2 + 1) h5 (fun m S1 p3 hm h1 => by have q := kx129 (m + 1) S1 p3 (by rw [e1]; exact hm) (by rw [e1]; exact h1); rw [e1] at q; exact q.less (Nat.le_succ N))
noncomputable def k257_87 (s : kS) (y1 : Int32) (y2 : Int32) (y4 : Int32) (y5 : Int32) (y6 : Int32) : kS × Int32 := ((k178 ((k179 ((kfin (k257b90 y1 y2 y4 y5 y6) (s, 0)).2.1) 15 y6 y5 y4).1)).1, 0)
theorem lt257_87 {sc : Nat × (Nat → Int32)} {N d : Nat} {S0 S : am_S} {s : kS} {y1 : Int32} {y2 : Int32} {y4 : Int32} {y5 : Int32} {y6 : Int32} {o3 : Option Value} {o7 : Option Value} (hS : MK S0 S s) : am_L (am_PP sc) N d 257 87 [some (.ref 39), some (.int y1), some (.int y2), o3, some (.int y4), some (.int y5), some (.int y6), o7] [] S (fun o S1 => o = some none ∧ MK S0 S1 (k257_87 s y1 y2 y4 y5 y6).1) := by
  refine l0 hi_257_87 ?_
  refine l3 (ls' := [some (.ref 39), some (.int y1), some (.int y2), o3, some (.int y4), some (.int y5), some (.int y6), some (.int 0)]) hi_257_88 (Nat.le_of_ble_eq_true rfl) rfl ?_
  refine lb257_90 N _ o3 (s, 0) hS ?_
  · intro m1 S2 p6 hm3 h4
    have hf5 : kfin (k257b90 y1 y2 y4 y5 y6) (s, 0) = kwh (k257b90 y1 y2 y4 y5 y6) m1 (s, 0) := kfin_eq (by rw [hm3]; decide)
    rw [← hf5] at hm3 h4 ⊢
    refine l2 (v := 39) hi_257_129 rfl ?_
    refine l0 hi_257_130 ?_
    refine l1 (v := y6) hi_257_132 rfl ?_
    refine l1 (v := y5) hi_257_134 rfl ?_
    refine l1 (v := y4) hi_257_136 rfl ?_
    refine l32 (as := [.ref 39, .int 15, .int y6, .int y5, .int y4]) (la := [some (.ref 39), some (.int 15), some (.int y6), some (.int y5), some (.int y4)]) (rest := []) hi_257_138 (am_hd0 (M := 257) (by decide) 138) rfl rfl rfl (fun N' d' _ => lt179 (N := N') (d := d') h4) ?_ (fun _ q => nomatch q.1)
    rintro v9 S7 ⟨ev9, h8⟩
    cases ev9
    show am_L _ _ _ _ _ [some (.ref 39), some (.int y1), some (.int y2), p6, some (.int y4), some (.int y5), some (.int y6), some (.int ((kfin (k257b90 y1 y2 y4 y5 y6) (s, 0)).2.2))] [] _ _
    refine l2 (v := 39) hi_257_141 rfl ?_
    refine l32 (as := [.ref 39]) (la := [some (.ref 39)]) (rest := []) hi_257_142 (am_hd0 (M := 257) (by decide) 142) rfl rfl rfl (fun N' d' _ => lt178 (N := N') (d := d') h8) ?_ (fun _ q => nomatch q.1)
    rintro v12 S10 ⟨ev12, h11⟩
    cases ev12
    show am_L _ _ _ _ _ [some (.ref 39), some (.int y1), some (.int y2), p6, some (.int y4), some (.int y5), some (.int y6), some (.int ((kfin (k257b90 y1 y2 y4 y5 y6) (s, 0)).2.2))] [] _ _
    refine l35 hi_257_145 ⟨rfl, ?_⟩
    exact h11
noncomputable def k257_80 (s : kS) (y1 : Int32) (y2 : Int32) (y4 : Int32) (y5 : Int32) (z0 : Int32) : kS × Int32 := k257_87 ((k177 s 1).1) y1 y2 y4 y5 z0
theorem lt257_80 {sc : Nat × (Nat → Int32)} {N d : Nat} {S0 S : am_S} {s : kS} {y1 : Int32} {y2 : Int32} {y4 : Int32} {y5 : Int32} {z0 : Int32} {o3 : Option Value} {o6 : Option Value} {o7 : Option Value} (hS : MK S0 S s) : am_L (am_PP sc) N d 257 80 [some (.ref 39), some (.int y1), some (.int y2), o3, some (.int y4), some (.int y5), o6, o7] [.int z0] S (fun o S1 => o = some none ∧ MK S0 S1 (k257_80 s y1 y2 y4 y5 z0).1) := by
  refine l3 (ls' := [some (.ref 39), some (.int y1), some (.int y2), o3, some (.int y4), some (.int y5), some (.int z0), o7]) hi_257_80 (Nat.le_of_ble_eq_true rfl) rfl ?_
  refine l2 (v := 39) hi_257_82 rfl ?_
  refine l0 hi_257_83 ?_
  refine l32 (as := [.ref 39, .int 1]) (la := [some (.ref 39), some (.int 1)]) (rest := []) hi_257_84 (am_hd0 (M := 257) (by decide) 84) rfl rfl rfl (fun N' d' _ => lt177 (N := N') (d := d') hS) ?_ (fun _ q => nomatch q.1)
  rintro v3 S1 ⟨ev3, h2⟩
  cases ev3
  show am_L _ _ _ _ _ [some (.ref 39), some (.int y1), some (.int y2), o3, some (.int y4), some (.int y5), some (.int z0), o7] [] _ _
  refine am_L.mono (lt257_87 h2) ?_
  rintro o S1 ⟨e, h⟩
  have q : k257_80 s y1 y2 y4 y5 z0 = k257_87 ((k177 s 1).1) y1 y2 y4 y5 z0 := rfl
  rw [q]; exact ⟨e, h⟩
noncomputable def k257_69 (s : kS) (y1 : Int32) (y2 : Int32) (y4 : Int32) (y5 : Int32) (z0 : Int32) : kS × Int32 := k257_80 ((k189 s 44 y4 0 0).1) y1 y2 y4 y5 ((k189 s 44 y4 0 0).2)
theorem lt257_69 {sc : Nat × (Nat → Int32)} {N d : Nat} {S0 S : am_S} {s : kS} {y1 : Int32} {y2 : Int32} {y4 : Int32} {y5 : Int32} {z0 : Int32} {o3 : Option Value} {o6 : Option Value} {o7 : Option Value} (hS : MK S0 S s) : am_L (am_PP sc) N d 257 69 [some (.ref 39), some (.int y1), some (.int y2), o3, some (.int y4), some (.int y5), o6, o7] [.int z0] S (fun o S1 => o = some none ∧ MK S0 S1 (k257_69 s y1 y2 y4 y5 z0).1) := by
  refine l6i hi_257_69 ?_
  refine l2 (v := 39) hi_257_70 rfl ?_
  refine l0 hi_257_71 ?_
  refine l1 (v := y4) hi_257_73 rfl ?_
  refine l0 hi_257_75 ?_
  refine l0 hi_257_76 ?_
  refine l32 (as := [.ref 39, .int 44, .int y4, .int 0, .int 0]) (la := [some (.ref 39), some (.int 44), some (.int y4), some (.int 0), some (.int 0)]) (rest := []) hi_257_77 (am_hd0 (M := 257) (by decide) 77) rfl rfl rfl (fun N' d' _ => lt189 (N := N') (d := d') hS) ?_ (fun _ q => nomatch q.1)
  rintro v3 S1 ⟨ev3, h2⟩
  cases ev3
  show am_L _ _ _ _ _ [some (.ref 39), some (.int y1), some (.int y2), o3, some (.int y4), some (.int y5), o6, o7] [.int ((k189 s 44 y4 0 0).2)] _ _
  refine am_L.mono (lt257_80 h2) ?_
  rintro o S1 ⟨e, h⟩
  have q : k257_69 s y1 y2 y4 y5 z0 = k257_80 ((k189 s 44 y4 0 0).1) y1 y2 y4 y5 ((k189 s 44 y4 0 0).2) := rfl
  rw [q]; exact ⟨e, h⟩
noncomputable def k257_58 (s : kS) (y1 : Int32) (y2 : Int32) (y3 : Int32) (y4 : Int32) (y5 : Int32) (z0 : Int32) : kS × Int32 := k257_69 ((k189 s 43 y4 y2 y3).1) y1 y2 y4 y5 ((k189 s 43 y4 y2 y3).2)
theorem lt257_58 {sc : Nat × (Nat → Int32)} {N d : Nat} {S0 S : am_S} {s : kS} {y1 : Int32} {y2 : Int32} {y3 : Int32} {y4 : Int32} {y5 : Int32} {z0 : Int32} {o6 : Option Value} {o7 : Option Value} (hS : MK S0 S s) : am_L (am_PP sc) N d 257 58 [some (.ref 39), some (.int y1), some (.int y2), some (.int y3), some (.int y4), some (.int y5), o6, o7] [.int z0] S (fun o S1 => o = some none ∧ MK S0 S1 (k257_58 s y1 y2 y3 y4 y5 z0).1) := by
  refine l6i hi_257_58 ?_
  refine l2 (v := 39) hi_257_59 rfl ?_
  refine l0 hi_257_60 ?_
  refine l1 (v := y4) hi_257_62 rfl ?_
  refine l1 (v := y2) hi_257_64 rfl ?_
  refine l1 (v := y3) hi_257_65 rfl ?_
  refine l32 (as := [.ref 39, .int 43, .int y4, .int y2, .int y3]) (la := [some (.ref 39), some (.int 43), some (.int y4), some (.int y2), some (.int y3)]) (rest := []) hi_257_66 (am_hd0 (M := 257) (by decide) 66) rfl rfl rfl (fun N' d' _ => lt189 (N := N') (d := d') hS) ?_ (fun _ q => nomatch q.1)
  rintro v3 S1 ⟨ev3, h2⟩
  cases ev3
  show am_L _ _ _ _ _ [some (.ref 39), some (.int y1), some (.int y2), some (.int y3), some (.int y4), some (.int y5), o6, o7] [.int ((k189 s 43 y4 y2 y3).2)] _ _
  refine am_L.mono (lt257_69 h2) ?_
  rintro o S1 ⟨e, h⟩
  have q : k257_58 s y1 y2 y3 y4 y5 z0 = k257_69 ((k189 s 43 y4 y2 y3).1) y1 y2 y4 y5 ((k189 s 43 y4 y2 y3).2) := rfl
  rw [q]; exact ⟨e, h⟩
noncomputable def k257_42 (s : kS) (y1 : Int32) (y2 : Int32) (y3 : Int32) (y4 : Int32) (z0 : Int32) : kS × Int32 := k257_58 ((k189 s 34 0 0 y1).1) y1 y2 y3 y4 (k210 s) ((k189 s 34 0 0 y1).2)
theorem lt257_42 {sc : Nat × (Nat → Int32)} {N d : Nat} {S0 S : am_S} {s : kS} {y1 : Int32} {y2 : Int32} {y3 : Int32} {y4 : Int32} {z0 : Int32} {o5 : Option Value} {o6 : Option Value} {o7 : Option Value} (hS : MK S0 S s) : am_L (am_PP sc) N d 257 42 [some (.ref 39), some (.int y1), some (.int y2), some (.int y3), some (.int y4), o5, o6, o7] [.int z0] S (fun o S1 => o = some none ∧ MK S0 S1 (k257_42 s y1 y2 y3 y4 z0).1) := by
  refine l6i hi_257_42 ?_
  refine l2 (v := 39) hi_257_43 rfl ?_
  refine l32 (as := [.ref 39]) (la := [some (.ref 39)]) (rest := []) hi_257_44 (am_hd0 (M := 257) (by decide) 44) rfl rfl rfl (fun N' d' _ => lt210 (N := N') (d := d') hS) ?_ (fun _ q => nomatch q.1)
  rintro v3 S1 ⟨ev3, h2⟩
  cases ev3
  show am_L _ _ _ _ _ [some (.ref 39), some (.int y1), some (.int y2), some (.int y3), some (.int y4), o5, o6, o7] [.int (k210 s)] _ _
  refine l3 (ls' := [some (.ref 39), some (.int y1), some (.int y2), some (.int y3), some (.int y4), some (.int (k210 s)), o6, o7]) hi_257_47 (Nat.le_of_ble_eq_true rfl) rfl ?_
  refine l2 (v := 39) hi_257_49 rfl ?_
  refine l0 hi_257_50 ?_
  refine l0 hi_257_52 ?_
  refine l0 hi_257_53 ?_
  refine l1 (v := y1) hi_257_54 rfl ?_
  refine l32 (as := [.ref 39, .int 34, .int 0, .int 0, .int y1]) (la := [some (.ref 39), some (.int 34), some (.int 0), some (.int 0), some (.int y1)]) (rest := []) hi_257_55 (am_hd0 (M := 257) (by decide) 55) rfl rfl rfl (fun N' d' _ => lt189 (N := N') (d := d') h2) ?_ (fun _ q => nomatch q.1)
  rintro v6 S4 ⟨ev6, h5⟩
  cases ev6
  show am_L _ _ _ _ _ [some (.ref 39), some (.int y1), some (.int y2), some (.int y3), some (.int y4), some (.int (k210 s)), o6, o7] [.int ((k189 s 34 0 0 y1).2)] _ _
  refine am_L.mono (lt257_58 h5) ?_
  rintro o S1 ⟨e, h⟩
  have q : k257_42 s y1 y2 y3 y4 z0 = k257_58 ((k189 s 34 0 0 y1).1) y1 y2 y3 y4 (k210 s) ((k189 s 34 0 0 y1).2) := rfl
  rw [q]; exact ⟨e, h⟩
noncomputable def k257_32 (s : kS) (y1 : Int32) (y2 : Int32) (y3 : Int32) (y4 : Int32) : kS × Int32 := k257_42 ((k189 s 42 y4 0 y1).1) y1 y2 y3 y4 ((k189 s 42 y4 0 y1).2)
theorem lt257_32 {sc : Nat × (Nat → Int32)} {N d : Nat} {S0 S : am_S} {s : kS} {y1 : Int32} {y2 : Int32} {y3 : Int32} {y4 : Int32} {o5 : Option Value} {o6 : Option Value} {o7 : Option Value} (hS : MK S0 S s) : am_L (am_PP sc) N d 257 32 [some (.ref 39), some (.int y1), some (.int y2), some (.int y3), some (.int y4), o5, o6, o7] [] S (fun o S1 => o = some none ∧ MK S0 S1 (k257_32 s y1 y2 y3 y4).1) := by
  refine l2 (v := 39) hi_257_32 rfl ?_
  refine l0 hi_257_33 ?_
  refine l1 (v := y4) hi_257_35 rfl ?_
  refine l0 hi_257_37 ?_
  refine l1 (v := y1) hi_257_38 rfl ?_
  refine l32 (as := [.ref 39, .int 42, .int y4, .int 0, .int y1]) (la := [some (.ref 39), some (.int 42), some (.int y4), some (.int 0), some (.int y1)]) (rest := []) hi_257_39 (am_hd0 (M := 257) (by decide) 39) rfl rfl rfl (fun N' d' _ => lt189 (N := N') (d := d') hS) ?_ (fun _ q => nomatch q.1)
  rintro v3 S1 ⟨ev3, h2⟩
  cases ev3
  show am_L _ _ _ _ _ [some (.ref 39), some (.int y1), some (.int y2), some (.int y3), some (.int y4), o5, o6, o7] [.int ((k189 s 42 y4 0 y1).2)] _ _
  refine am_L.mono (lt257_42 h2) ?_
  rintro o S1 ⟨e, h⟩
  have q : k257_32 s y1 y2 y3 y4 = k257_42 ((k189 s 42 y4 0 y1).1) y1 y2 y3 y4 ((k189 s 42 y4 0 y1).2) := rfl
  rw [q]; exact ⟨e, h⟩
