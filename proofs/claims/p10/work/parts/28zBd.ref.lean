/-! THE REFERENCE: what each method does (printed by wip/p5/lw.py) -/
noncomputable def k241_95 (s : kS) (y2 : Int32) (y3 : Int32) (y4 : Int32) (z0 : Int32) : kS × Int32 := (kf ((kfin (k241b99 y2 y3 y4) (s, 0)).2.1) 20 y2, 0)
theorem lt241_95 {sc : Nat × (Nat → Int32)} {N d : Nat} {S0 S : am_S} {s : kS} {y2 : Int32} {y3 : Int32} {y4 : Int32} {z0 : Int32} {o1 : Option Value} {o5 : Option Value} (hS : MK S0 S s) : am_L (am_PP sc) N d 241 95 [some (.ref 39), o1, some (.int y2), some (.int y3), some (.int y4), o5] [.int z0] S (fun o S1 => o = some none ∧ MK S0 S1 (k241_95 s y2 y3 y4 z0).1) := by
  refine l6i hi_241_95 ?_
  refine l0 hi_241_96 ?_
  refine l3 (ls' := [some (.ref 39), o1, some (.int y2), some (.int y3), some (.int y4), some (.int 0)]) hi_241_97 (Nat.le_of_ble_eq_true rfl) rfl ?_
  refine lb241_99 N _ o1 (s, 0) hS ?_
  · intro m1 S2 p6 hm3 h4
    have hf5 : kfin (k241b99 y2 y3 y4) (s, 0) = kwh (k241b99 y2 y3 y4) m1 (s, 0) := kfin_eq (by rw [hm3]; decide)
    rw [← hf5] at hm3 h4
    try rw [← hf5]
    refine l2 (v := 39) hi_241_146 rfl ?_
    refine l1 (v := y2) hi_241_147 rfl ?_
    refine l21 h4 hi_241_148 ms_20 fun S7 h8 => ?_
    refine l35 hi_241_151 ⟨rfl, ?_⟩
    exact h8
/-- localEnd(II)V -/
noncomputable def k241 (s : kS) (x1 : Int32) (x2 : Int32) : kS × Int32 := k241_95 ((k189 ((kfin (k241b16 x1 x2 (k197 s) ((s.1 20) - x2)) (s, x2)).2.1) 27 (k197 s) ((s.1 20) - x2) x1).1) x2 (k197 s) ((s.1 20) - x2) ((k189 ((kfin (k241b16 x1 x2 (k197 s) ((s.1 20) - x2)) (s, x2)).2.1) 27 (k197 s) ((s.1 20) - x2) x1).2)
theorem lt241 {sc : Nat × (Nat → Int32)} {N d : Nat} {S0 S : am_S} {s : kS} {x1 : Int32} {x2 : Int32} (hS : MK S0 S s) : am_L (am_PP sc) N d 241 0 [some (.ref 39), some (.int x1), some (.int x2), none, none, none] [] S (fun o S1 => o = some none ∧ MK S0 S1 (k241 s x1 x2).1) := by
  refine l2 (v := 39) hi_241_0 rfl ?_
  refine l32 (as := [.ref 39]) (la := [some (.ref 39)]) (rest := []) hi_241_1 (am_hd0 (M := 241) (by decide) 1) rfl rfl rfl (fun N' d' _ => lt197 (N := N') (d := d') hS) ?_ (fun _ q => nomatch q.1)
  rintro v3 S1 ⟨ev3, h2⟩
  cases ev3
  show am_L _ _ _ _ _ [some (.ref 39), some (.int x1), some (.int x2), none, none, none] [.int (k197 s)] _ _
  refine l3 (ls' := [some (.ref 39), some (.int x1), some (.int x2), some (.int (k197 s)), none, none]) hi_241_4 (Nat.le_of_ble_eq_true rfl) rfl ?_
  refine l2 (v := 39) hi_241_5 rfl ?_
  refine l20 (v := .int (s.1 20)) h2 hi_241_6 rfl ?_
  refine l1 (v := x2) hi_241_9 rfl ?_
  refine l10 hi_241_10 ?_
  show am_L _ _ _ _ _ [some (.ref 39), some (.int x1), some (.int x2), some (.int (k197 s)), none, none] [.int ((s.1 20) - x2)] _ _
  refine l3 (ls' := [some (.ref 39), some (.int x1), some (.int x2), some (.int (k197 s)), some (.int ((s.1 20) - x2)), none]) hi_241_11 (Nat.le_of_ble_eq_true rfl) rfl ?_
  refine l1 (v := x2) hi_241_13 rfl ?_
  refine l3 (ls' := [some (.ref 39), some (.int x1), some (.int x2), some (.int (k197 s)), some (.int ((s.1 20) - x2)), some (.int x2)]) hi_241_14 (Nat.le_of_ble_eq_true rfl) rfl ?_
  refine lb241_16 N _  (s, x2) h2 ?_
  · intro m4 S5  hm6 h7
    have hf8 : kfin (k241b16 x1 x2 (k197 s) ((s.1 20) - x2)) (s, x2) = kwh (k241b16 x1 x2 (k197 s) ((s.1 20) - x2)) m4 (s, x2) := kfin_eq (by rw [hm6]; decide)
    rw [← hf8] at hm6 h7
    try rw [← hf8]
    refine l2 (v := 39) hi_241_85 rfl ?_
    refine l0 hi_241_86 ?_
    refine l1 (v := k197 s) hi_241_88 rfl ?_
    refine l1 (v := (s.1 20) - x2) hi_241_89 rfl ?_
    refine l1 (v := x1) hi_241_91 rfl ?_
    refine l32 (as := [.ref 39, .int 27, .int (k197 s), .int ((s.1 20) - x2), .int x1]) (la := [some (.ref 39), some (.int 27), some (.int (k197 s)), some (.int ((s.1 20) - x2)), some (.int x1)]) (rest := []) hi_241_92 (am_hd0 (M := 241) (by decide) 92) rfl rfl rfl (fun N' d' _ => lt189 (N := N') (d := d') h7) ?_ (fun _ q => nomatch q.1)
    rintro v11 S9 ⟨ev11, h10⟩
    cases ev11
    show am_L _ _ _ _ _ [some (.ref 39), some (.int x1), some (.int x2), some (.int (k197 s)), some (.int ((s.1 20) - x2)), some (.int ((kfin (k241b16 x1 x2 (k197 s) ((s.1 20) - x2)) (s, x2)).2.2))] [.int ((k189 ((kfin (k241b16 x1 x2 (k197 s) ((s.1 20) - x2)) (s, x2)).2.1) 27 (k197 s) ((s.1 20) - x2) x1).2)] _ _
    refine am_L.mono (lt241_95 h10) ?_
    rintro o S1 ⟨e, h⟩
    have q : k241 s x1 x2 = k241_95 ((k189 ((kfin (k241b16 x1 x2 (k197 s) ((s.1 20) - x2)) (s, x2)).2.1) 27 (k197 s) ((s.1 20) - x2) x1).1) x2 (k197 s) ((s.1 20) - x2) ((k189 ((kfin (k241b16 x1 x2 (k197 s) ((s.1 20) - x2)) (s, x2)).2.1) 27 (k197 s) ((s.1 20) - x2) x1).2) := rfl
    rw [q]; exact ⟨e, h⟩
def k238b113_264 (s : kS) (y1 : Int32) (y2 : Int32) (y3 : Int32) (y4 : Int32) : Nat × (kS × Int32 × Int32) := if (k183 s) ≠ 69 then (0, (kf s 4 ((s.1 4) + 0), 0, y4)) else (0, (kf s 4 ((s.1 4) + 1), 1, y4))
theorem lb238_113_264 {sc : Nat × (Nat → Int32)} {N d : Nat} {S0 S : am_S} {s : kS} {y1 : Int32} {y2 : Int32} {y3 : Int32} {y4 : Int32} {o5 : Option Value} {o6 : Option Value} {o7 : Option Value} {Q : Option (Option Value) → am_S → Prop} (hS : MK S0 S s) (kb : (∀ S1 (p5 : Option Value) (p6 : Option Value) (p7 : Option Value) (t : kS × Int32 × Int32), k238b113_264 s y1 y2 y3 y4 = (0, t) → MK S0 S1 t.1 → am_L (am_PP sc) N d 238 113 [some (.ref 39), some (.int y1), some (.int y2), some (.int t.2.1), some (.int t.2.2), p5, p6, p7] [] S1 Q)) (kx131 : (∀ S1 (p5 : Option Value) (p6 : Option Value) (p7 : Option Value) (t : kS × Int32 × Int32), k238b113_264 s y1 y2 y3 y4 = (1, t) → MK S0 S1 t.1 → am_L (am_PP sc) N d 238 131 [some (.ref 39), some (.int y1), some (.int y2), some (.int t.2.1), some (.int t.2.2), p5, p6, p7] [] S1 Q)) (kx177 : (∀ S1 (p5 : Option Value) (p6 : Option Value) (p7 : Option Value) (t : kS × Int32 × Int32), k238b113_264 s y1 y2 y3 y4 = (2, t) → MK S0 S1 t.1 → am_L (am_PP sc) N d 238 177 [some (.ref 39), some (.int y1), some (.int y2), some (.int t.2.1), some (.int t.2.2), p5, p6, p7] [] S1 Q)) (kx300 : (∀ S1 (p5 : Option Value) (p6 : Option Value) (p7 : Option Value) (t : kS × Int32 × Int32), k238b113_264 s y1 y2 y3 y4 = (3, t) → MK S0 S1 t.1 → am_L (am_PP sc) N d 238 300 [some (.ref 39), some (.int y1), some (.int y2), some (.int t.2.1), some (.int t.2.2), p5, p6, p7] [] S1 Q)) : am_L (am_PP sc) N d 238 264 [some (.ref 39), some (.int y1), some (.int y2), some (.int y3), some (.int y4), o5, o6, o7] [] S Q := by
  refine l2 (v := 39) hi_238_264 rfl ?_
  refine l32 (as := [.ref 39]) (la := [some (.ref 39)]) (rest := []) hi_238_265 (am_hd0 (M := 238) (by decide) 265) rfl rfl rfl (fun N' d' _ => lt183 (N := N') (d := d') hS) ?_ (fun _ q => nomatch q.1)
  rintro v3 S1 ⟨ev3, h2⟩
  cases ev3
  show am_L _ _ _ _ _ [some (.ref 39), some (.int y1), some (.int y2), some (.int y3), some (.int y4), o5, o6, o7] [.int (k183 s)] _ _
  refine l0 hi_238_268 ?_
  by_cases c4 : (k183 s) ≠ 69
  · refine l13t hi_238_270 (decide_eq_true c4) ?_
    refine l0 hi_238_277 ?_
    refine l3 (ls' := [some (.ref 39), some (.int y1), some (.int y2), some (.int 0), some (.int y4), o5, o6, o7]) hi_238_278 (Nat.le_of_ble_eq_true rfl) rfl ?_
    refine l2 (v := 39) hi_238_279 rfl ?_
    refine l7 hi_238_280 ?_
    refine l20 (v := .int (s.1 4)) h2 hi_238_281 rfl ?_
    refine l1 (v := 0) hi_238_284 rfl ?_
    refine l12t hi_238_285 (by decide) ?_
    refine l0 hi_238_292 ?_
    refine l10 hi_238_293 ?_
    show am_L _ _ _ _ _ [some (.ref 39), some (.int y1), some (.int y2), some (.int 0), some (.int y4), o5, o6, o7] [.int ((s.1 4) + 0), .ref 39] _ _
    refine l21 h2 hi_238_294 ms_4 fun S5 h6 => ?_
    refine l18 hi_238_297 ?_
    exact kb _ o5 o6 o7 (kf s 4 ((s.1 4) + 0), 0, y4) (by unfold k238b113_264; rw [if_pos c4]) h6
  · refine l13f hi_238_270 (decide_eq_false c4) ?_
    refine l0 hi_238_273 ?_
    refine l18 hi_238_274 ?_
    refine l3 (ls' := [some (.ref 39), some (.int y1), some (.int y2), some (.int 1), some (.int y4), o5, o6, o7]) hi_238_278 (Nat.le_of_ble_eq_true rfl) rfl ?_
    refine l2 (v := 39) hi_238_279 rfl ?_
    refine l7 hi_238_280 ?_
    refine l20 (v := .int (s.1 4)) h2 hi_238_281 rfl ?_
    refine l1 (v := 1) hi_238_284 rfl ?_
    refine l12f hi_238_285 (by decide) ?_
    refine l0 hi_238_288 ?_
    refine l18 hi_238_289 ?_
    refine l10 hi_238_293 ?_
    show am_L _ _ _ _ _ [some (.ref 39), some (.int y1), some (.int y2), some (.int 1), some (.int y4), o5, o6, o7] [.int ((s.1 4) + 1), .ref 39] _ _
    refine l21 h2 hi_238_294 ms_4 fun S7 h8 => ?_
    refine l18 hi_238_297 ?_
    exact kb _ o5 o6 o7 (kf s 4 ((s.1 4) + 1), 1, y4) (by unfold k238b113_264; rw [if_neg c4]) h8
def k238b113_255 (s : kS) (y1 : Int32) (y2 : Int32) (y3 : Int32) (y4 : Int32) (y5 : Int32) (y6 : Int32) : Nat × (kS × Int32 × Int32) := k238b113_264 ((k239 s y6 0 y5).1) y1 y2 y3 y4
theorem lb238_113_255 {sc : Nat × (Nat → Int32)} {N d : Nat} {S0 S : am_S} {s : kS} {y1 : Int32} {y2 : Int32} {y3 : Int32} {y4 : Int32} {y5 : Int32} {y6 : Int32} {o7 : Option Value} {Q : Option (Option Value) → am_S → Prop} (hS : MK S0 S s) (kb : (∀ S1 (p5 : Option Value) (p6 : Option Value) (p7 : Option Value) (t : kS × Int32 × Int32), k238b113_255 s y1 y2 y3 y4 y5 y6 = (0, t) → MK S0 S1 t.1 → am_L (am_PP sc) N d 238 113 [some (.ref 39), some (.int y1), some (.int y2), some (.int t.2.1), some (.int t.2.2), p5, p6, p7] [] S1 Q)) (kx131 : (∀ S1 (p5 : Option Value) (p6 : Option Value) (p7 : Option Value) (t : kS × Int32 × Int32), k238b113_255 s y1 y2 y3 y4 y5 y6 = (1, t) → MK S0 S1 t.1 → am_L (am_PP sc) N d 238 131 [some (.ref 39), some (.int y1), some (.int y2), some (.int t.2.1), some (.int t.2.2), p5, p6, p7] [] S1 Q)) (kx177 : (∀ S1 (p5 : Option Value) (p6 : Option Value) (p7 : Option Value) (t : kS × Int32 × Int32), k238b113_255 s y1 y2 y3 y4 y5 y6 = (2, t) → MK S0 S1 t.1 → am_L (am_PP sc) N d 238 177 [some (.ref 39), some (.int y1), some (.int y2), some (.int t.2.1), some (.int t.2.2), p5, p6, p7] [] S1 Q)) (kx300 : (∀ S1 (p5 : Option Value) (p6 : Option Value) (p7 : Option Value) (t : kS × Int32 × Int32), k238b113_255 s y1 y2 y3 y4 y5 y6 = (3, t) → MK S0 S1 t.1 → am_L (am_PP sc) N d 238 300 [some (.ref 39), some (.int y1), some (.int y2), some (.int t.2.1), some (.int t.2.2), p5, p6, p7] [] S1 Q)) : am_L (am_PP sc) N d 238 255 [some (.ref 39), some (.int y1), some (.int y2), some (.int y3), some (.int y4), some (.int y5), some (.int y6), o7] [] S Q := by
  refine l2 (v := 39) hi_238_255 rfl ?_
  refine l1 (v := y6) hi_238_256 rfl ?_
  refine l0 hi_238_258 ?_
  refine l1 (v := y5) hi_238_259 rfl ?_
  refine l32 (as := [.ref 39, .int y6, .int 0, .int y5]) (la := [some (.ref 39), some (.int y6), some (.int 0), some (.int y5)]) (rest := []) hi_238_261 (am_hd0 (M := 238) (by decide) 261) rfl rfl rfl (fun N' d' _ => lt239 (N := N') (d := d') hS) ?_ (fun _ q => nomatch q.1)
  rintro v3 S1 ⟨ev3, h2⟩
  cases ev3
  show am_L _ _ _ _ _ [some (.ref 39), some (.int y1), some (.int y2), some (.int y3), some (.int y4), some (.int y5), some (.int y6), o7] [] _ _
  have eq_ : k238b113_255 s y1 y2 y3 y4 y5 y6 = k238b113_264 ((k239 s y6 0 y5).1) y1 y2 y3 y4 := rfl
  refine lb238_113_264 h2  ?_ ?_ ?_ ?_
  · intro S4 p8 p9 p10 t5 e6 h7
    exact kb _ p8 p9 p10 t5 (eq_.trans e6) h7
  · intro S11 p15 p16 p17 t12 e13 h14
    exact kx131 _ p15 p16 p17 t12 (eq_.trans e13) h14
  · intro S18 p22 p23 p24 t19 e20 h21
    exact kx177 _ p22 p23 p24 t19 (eq_.trans e20) h21
  · intro S25 p29 p30 p31 t26 e27 h28
    exact kx300 _ p29 p30 p31 t26 (eq_.trans e27) h28
def k238b113_248 (s : kS) (y1 : Int32) (y2 : Int32) (y3 : Int32) (y4 : Int32) (y5 : Int32) (y6 : Int32) : Nat × (kS × Int32 × Int32) := k238b113_255 s y1 y2 y3 1 y5 y6
theorem lb238_113_248 {sc : Nat × (Nat → Int32)} {N d : Nat} {S0 S : am_S} {s : kS} {y1 : Int32} {y2 : Int32} {y3 : Int32} {y4 : Int32} {y5 : Int32} {y6 : Int32} {o7 : Option Value} {Q : Option (Option Value) → am_S → Prop} (hS : MK S0 S s) (kb : (∀ S1 (p5 : Option Value) (p6 : Option Value) (p7 : Option Value) (t : kS × Int32 × Int32), k238b113_248 s y1 y2 y3 y4 y5 y6 = (0, t) → MK S0 S1 t.1 → am_L (am_PP sc) N d 238 113 [some (.ref 39), some (.int y1), some (.int y2), some (.int t.2.1), some (.int t.2.2), p5, p6, p7] [] S1 Q)) (kx131 : (∀ S1 (p5 : Option Value) (p6 : Option Value) (p7 : Option Value) (t : kS × Int32 × Int32), k238b113_248 s y1 y2 y3 y4 y5 y6 = (1, t) → MK S0 S1 t.1 → am_L (am_PP sc) N d 238 131 [some (.ref 39), some (.int y1), some (.int y2), some (.int t.2.1), some (.int t.2.2), p5, p6, p7] [] S1 Q)) (kx177 : (∀ S1 (p5 : Option Value) (p6 : Option Value) (p7 : Option Value) (t : kS × Int32 × Int32), k238b113_248 s y1 y2 y3 y4 y5 y6 = (2, t) → MK S0 S1 t.1 → am_L (am_PP sc) N d 238 177 [some (.ref 39), some (.int y1), some (.int y2), some (.int t.2.1), some (.int t.2.2), p5, p6, p7] [] S1 Q)) (kx300 : (∀ S1 (p5 : Option Value) (p6 : Option Value) (p7 : Option Value) (t : kS × Int32 × Int32), k238b113_248 s y1 y2 y3 y4 y5 y6 = (3, t) → MK S0 S1 t.1 → am_L (am_PP sc) N d 238 300 [some (.ref 39), some (.int y1), some (.int y2), some (.int t.2.1), some (.int t.2.2), p5, p6, p7] [] S1 Q)) : am_L (am_PP sc) N d 238 248 [some (.ref 39), some (.int y1), some (.int y2), some (.int y3), some (.int y4), some (.int y5), some (.int y6), o7] [] S Q := by
  refine l0 hi_238_248 ?_
  refine l18 hi_238_249 ?_
  refine l3 (ls' := [some (.ref 39), some (.int y1), some (.int y2), some (.int y3), some (.int 1), some (.int y5), some (.int y6), o7]) hi_238_253 (Nat.le_of_ble_eq_true rfl) rfl ?_
  have eq_ : k238b113_248 s y1 y2 y3 y4 y5 y6 = k238b113_255 s y1 y2 y3 1 y5 y6 := rfl
  refine lb238_113_255 hS  ?_ ?_ ?_ ?_
  · intro S1 p5 p6 p7 t2 e3 h4
    exact kb _ p5 p6 p7 t2 (eq_.trans e3) h4
  · intro S8 p12 p13 p14 t9 e10 h11
    exact kx131 _ p12 p13 p14 t9 (eq_.trans e10) h11
  · intro S15 p19 p20 p21 t16 e17 h18
    exact kx177 _ p19 p20 p21 t16 (eq_.trans e17) h18
  · intro S22 p26 p27 p28 t23 e24 h25
    exact kx300 _ p26 p27 p28 t23 (eq_.trans e24) h25
def k238b113_237 (s : kS) (y1 : Int32) (y2 : Int32) (y3 : Int32) (y4 : Int32) (y5 : Int32) (y6 : Int32) : Nat × (kS × Int32 × Int32) := if y4 ≠ 0 then k238b113_248 s y1 y2 y3 y4 y5 y6 else if y6 ≠ 2 then k238b113_255 s y1 y2 y3 0 y5 y6 else k238b113_248 s y1 y2 y3 y4 y5 y6
theorem lb238_113_237 {sc : Nat × (Nat → Int32)} {N d : Nat} {S0 S : am_S} {s : kS} {y1 : Int32} {y2 : Int32} {y3 : Int32} {y4 : Int32} {y5 : Int32} {y6 : Int32} {o7 : Option Value} {Q : Option (Option Value) → am_S → Prop} (hS : MK S0 S s) (kb : (∀ S1 (p5 : Option Value) (p6 : Option Value) (p7 : Option Value) (t : kS × Int32 × Int32), k238b113_237 s y1 y2 y3 y4 y5 y6 = (0, t) → MK S0 S1 t.1 → am_L (am_PP sc) N d 238 113 [some (.ref 39), some (.int y1), some (.int y2), some (.int t.2.1), some (.int t.2.2), p5, p6, p7] [] S1 Q)) (kx131 : (∀ S1 (p5 : Option Value) (p6 : Option Value) (p7 : Option Value) (t : kS × Int32 × Int32), k238b113_237 s y1 y2 y3 y4 y5 y6 = (1, t) → MK S0 S1 t.1 → am_L (am_PP sc) N d 238 131 [some (.ref 39), some (.int y1), some (.int y2), some (.int t.2.1), some (.int t.2.2), p5, p6, p7] [] S1 Q)) (kx177 : (∀ S1 (p5 : Option Value) (p6 : Option Value) (p7 : Option Value) (t : kS × Int32 × Int32), k238b113_237 s y1 y2 y3 y4 y5 y6 = (2, t) → MK S0 S1 t.1 → am_L (am_PP sc) N d 238 177 [some (.ref 39), some (.int y1), some (.int y2), some (.int t.2.1), some (.int t.2.2), p5, p6, p7] [] S1 Q)) (kx300 : (∀ S1 (p5 : Option Value) (p6 : Option Value) (p7 : Option Value) (t : kS × Int32 × Int32), k238b113_237 s y1 y2 y3 y4 y5 y6 = (3, t) → MK S0 S1 t.1 → am_L (am_PP sc) N d 238 300 [some (.ref 39), some (.int y1), some (.int y2), some (.int t.2.1), some (.int t.2.2), p5, p6, p7] [] S1 Q)) : am_L (am_PP sc) N d 238 237 [some (.ref 39), some (.int y1), some (.int y2), some (.int y3), some (.int y4), some (.int y5), some (.int y6), o7] [] S Q := by
  refine l1 (v := y4) hi_238_237 rfl ?_
  by_cases c1 : y4 ≠ 0
  · refine l12t hi_238_239 (decide_eq_true c1) ?_
    have eq_ : k238b113_237 s y1 y2 y3 y4 y5 y6 = k238b113_248 s y1 y2 y3 y4 y5 y6 := by unfold k238b113_237; rw [if_pos c1]
    refine lb238_113_248 hS  ?_ ?_ ?_ ?_
    · intro S2 p6 p7 p8 t3 e4 h5
      exact kb _ p6 p7 p8 t3 (eq_.trans e4) h5
    · intro S9 p13 p14 p15 t10 e11 h12
      exact kx131 _ p13 p14 p15 t10 (eq_.trans e11) h12
    · intro S16 p20 p21 p22 t17 e18 h19
      exact kx177 _ p20 p21 p22 t17 (eq_.trans e18) h19
    · intro S23 p27 p28 p29 t24 e25 h26
      exact kx300 _ p27 p28 p29 t24 (eq_.trans e25) h26
  · refine l12f hi_238_239 (decide_eq_false c1) ?_
    refine l1 (v := y6) hi_238_242 rfl ?_
    refine l0 hi_238_244 ?_
    by_cases c30 : y6 ≠ 2
    · refine l13t hi_238_245 (decide_eq_true c30) ?_
      refine l0 hi_238_252 ?_
      refine l3 (ls' := [some (.ref 39), some (.int y1), some (.int y2), some (.int y3), some (.int 0), some (.int y5), some (.int y6), o7]) hi_238_253 (Nat.le_of_ble_eq_true rfl) rfl ?_
      have eq_ : k238b113_237 s y1 y2 y3 y4 y5 y6 = k238b113_255 s y1 y2 y3 0 y5 y6 := by unfold k238b113_237; rw [if_neg c1]; rw [if_pos c30]
      refine lb238_113_255 hS  ?_ ?_ ?_ ?_
      · intro S31 p35 p36 p37 t32 e33 h34
        exact kb _ p35 p36 p37 t32 (eq_.trans e33) h34
      · intro S38 p42 p43 p44 t39 e40 h41
        exact kx131 _ p42 p43 p44 t39 (eq_.trans e40) h41
      · intro S45 p49 p50 p51 t46 e47 h48
        exact kx177 _ p49 p50 p51 t46 (eq_.trans e47) h48
      · intro S52 p56 p57 p58 t53 e54 h55
        exact kx300 _ p56 p57 p58 t53 (eq_.trans e54) h55
    · refine l13f hi_238_245 (decide_eq_false c30) ?_
      have eq_ : k238b113_237 s y1 y2 y3 y4 y5 y6 = k238b113_248 s y1 y2 y3 y4 y5 y6 := by unfold k238b113_237; rw [if_neg c1]; rw [if_neg c30]
      refine lb238_113_248 hS  ?_ ?_ ?_ ?_
      · intro S59 p63 p64 p65 t60 e61 h62
        exact kb _ p63 p64 p65 t60 (eq_.trans e61) h62
      · intro S66 p70 p71 p72 t67 e68 h69
        exact kx131 _ p70 p71 p72 t67 (eq_.trans e68) h69
      · intro S73 p77 p78 p79 t74 e75 h76
        exact kx177 _ p77 p78 p79 t74 (eq_.trans e75) h76
      · intro S80 p84 p85 p86 t81 e82 h83
        exact kx300 _ p84 p85 p86 t81 (eq_.trans e82) h83
def k238b113_229 (s : kS) (y1 : Int32) (y2 : Int32) (y3 : Int32) (y4 : Int32) (y5 : Int32) (y6 : Int32) (y7 : Int32) : Nat × (kS × Int32 × Int32) := k238b113_237 ((k191 s 9 y7).1) y1 y2 y3 y4 y5 y6
theorem lb238_113_229 {sc : Nat × (Nat → Int32)} {N d : Nat} {S0 S : am_S} {s : kS} {y1 : Int32} {y2 : Int32} {y3 : Int32} {y4 : Int32} {y5 : Int32} {y6 : Int32} {y7 : Int32} {Q : Option (Option Value) → am_S → Prop} (hS : MK S0 S s) (kb : (∀ S1 (p5 : Option Value) (p6 : Option Value) (p7 : Option Value) (t : kS × Int32 × Int32), k238b113_229 s y1 y2 y3 y4 y5 y6 y7 = (0, t) → MK S0 S1 t.1 → am_L (am_PP sc) N d 238 113 [some (.ref 39), some (.int y1), some (.int y2), some (.int t.2.1), some (.int t.2.2), p5, p6, p7] [] S1 Q)) (kx131 : (∀ S1 (p5 : Option Value) (p6 : Option Value) (p7 : Option Value) (t : kS × Int32 × Int32), k238b113_229 s y1 y2 y3 y4 y5 y6 y7 = (1, t) → MK S0 S1 t.1 → am_L (am_PP sc) N d 238 131 [some (.ref 39), some (.int y1), some (.int y2), some (.int t.2.1), some (.int t.2.2), p5, p6, p7] [] S1 Q)) (kx177 : (∀ S1 (p5 : Option Value) (p6 : Option Value) (p7 : Option Value) (t : kS × Int32 × Int32), k238b113_229 s y1 y2 y3 y4 y5 y6 y7 = (2, t) → MK S0 S1 t.1 → am_L (am_PP sc) N d 238 177 [some (.ref 39), some (.int y1), some (.int y2), some (.int t.2.1), some (.int t.2.2), p5, p6, p7] [] S1 Q)) (kx300 : (∀ S1 (p5 : Option Value) (p6 : Option Value) (p7 : Option Value) (t : kS × Int32 × Int32), k238b113_229 s y1 y2 y3 y4 y5 y6 y7 = (3, t) → MK S0 S1 t.1 → am_L (am_PP sc) N d 238 300 [some (.ref 39), some (.int y1), some (.int y2), some (.int t.2.1), some (.int t.2.2), p5, p6, p7] [] S1 Q)) : am_L (am_PP sc) N d 238 229 [some (.ref 39), some (.int y1), some (.int y2), some (.int y3), some (.int y4), some (.int y5), some (.int y6), some (.int y7)] [] S Q := by
  refine l2 (v := 39) hi_238_229 rfl ?_
  refine l0 hi_238_230 ?_
  refine l1 (v := y7) hi_238_232 rfl ?_
  refine l32 (as := [.ref 39, .int 9, .int y7]) (la := [some (.ref 39), some (.int 9), some (.int y7)]) (rest := []) hi_238_234 (am_hd0 (M := 238) (by decide) 234) rfl rfl rfl (fun N' d' _ => lt191 (N := N') (d := d') hS) ?_ (fun _ q => nomatch q.1)
  rintro v3 S1 ⟨ev3, h2⟩
  cases ev3
  show am_L _ _ _ _ _ [some (.ref 39), some (.int y1), some (.int y2), some (.int y3), some (.int y4), some (.int y5), some (.int y6), some (.int y7)] [] _ _
  have eq_ : k238b113_229 s y1 y2 y3 y4 y5 y6 y7 = k238b113_237 ((k191 s 9 y7).1) y1 y2 y3 y4 y5 y6 := rfl
  refine lb238_113_237 h2  ?_ ?_ ?_ ?_
  · intro S4 p8 p9 p10 t5 e6 h7
    exact kb _ p8 p9 p10 t5 (eq_.trans e6) h7
  · intro S11 p15 p16 p17 t12 e13 h14
    exact kx131 _ p15 p16 p17 t12 (eq_.trans e13) h14
  · intro S18 p22 p23 p24 t19 e20 h21
    exact kx177 _ p22 p23 p24 t19 (eq_.trans e20) h21
  · intro S25 p29 p30 p31 t26 e27 h28
    exact kx300 _ p29 p30 p31 t26 (eq_.trans e27) h28
def k238b113_178 (s : kS) (y1 : Int32) (y2 : Int32) (y3 : Int32) (y4 : Int32) (y5 : Int32) (y7 : Int32) : Nat × (kS × Int32 × Int32) := if (kr s 2 y7) ≠ (-2) then if (kr s 2 y7) ≠ (-3) then k238b113_229 s y1 y2 y3 y4 y5 0 y7 else if y4 = 0 then k238b113_237 s y1 y2 y3 y4 y5 2 else k238b113_229 s y1 y2 y3 y4 y5 2 y7 else k238b113_237 s y1 y2 y3 y4 y5 1
theorem lb238_113_178 {sc : Nat × (Nat → Int32)} {N d : Nat} {S0 S : am_S} {s : kS} {y1 : Int32} {y2 : Int32} {y3 : Int32} {y4 : Int32} {y5 : Int32} {y7 : Int32} {o6 : Option Value} {Q : Option (Option Value) → am_S → Prop} (hS : MK S0 S s) (kb : (∀ S1 (p5 : Option Value) (p6 : Option Value) (p7 : Option Value) (t : kS × Int32 × Int32), k238b113_178 s y1 y2 y3 y4 y5 y7 = (0, t) → MK S0 S1 t.1 → am_L (am_PP sc) N d 238 113 [some (.ref 39), some (.int y1), some (.int y2), some (.int t.2.1), some (.int t.2.2), p5, p6, p7] [] S1 Q)) (kx131 : (∀ S1 (p5 : Option Value) (p6 : Option Value) (p7 : Option Value) (t : kS × Int32 × Int32), k238b113_178 s y1 y2 y3 y4 y5 y7 = (1, t) → MK S0 S1 t.1 → am_L (am_PP sc) N d 238 131 [some (.ref 39), some (.int y1), some (.int y2), some (.int t.2.1), some (.int t.2.2), p5, p6, p7] [] S1 Q)) (kx177 : (∀ S1 (p5 : Option Value) (p6 : Option Value) (p7 : Option Value) (t : kS × Int32 × Int32), k238b113_178 s y1 y2 y3 y4 y5 y7 = (2, t) → MK S0 S1 t.1 → am_L (am_PP sc) N d 238 177 [some (.ref 39), some (.int y1), some (.int y2), some (.int t.2.1), some (.int t.2.2), p5, p6, p7] [] S1 Q)) (kx300 : (∀ S1 (p5 : Option Value) (p6 : Option Value) (p7 : Option Value) (t : kS × Int32 × Int32), k238b113_178 s y1 y2 y3 y4 y5 y7 = (3, t) → MK S0 S1 t.1 → am_L (am_PP sc) N d 238 300 [some (.ref 39), some (.int y1), some (.int y2), some (.int t.2.1), some (.int t.2.2), p5, p6, p7] [] S1 Q)) : am_L (am_PP sc) N d 238 178 [some (.ref 39), some (.int y1), some (.int y2), some (.int y3), some (.int y4), some (.int y5), o6, some (.int y7)] [] S Q := by
  refine l2 (v := 39) hi_238_178 rfl ?_
  refine l20 (v := .ref 41) hS hi_238_179 rfl ?_
  refine l1 (v := y7) hi_238_182 rfl ?_
  refine l25 hS ma_2 hi_238_184 fun g1 g2 => ?_
  show am_L _ _ _ _ _ [some (.ref 39), some (.int y1), some (.int y2), some (.int y3), some (.int y4), some (.int y5), o6, some (.int y7)] [.int (kr s 2 y7)] _ _
  refine l0 hi_238_185 ?_
  by_cases c3 : (kr s 2 y7) ≠ (-2)
  · refine l13t hi_238_187 (decide_eq_true c3) ?_
    refine l2 (v := 39) hi_238_194 rfl ?_
    refine l20 (v := .ref 41) hS hi_238_195 rfl ?_
    refine l1 (v := y7) hi_238_198 rfl ?_
    refine l25 hS ma_2 hi_238_200 fun g4 g5 => ?_
    show am_L _ _ _ _ _ [some (.ref 39), some (.int y1), some (.int y2), some (.int y3), some (.int y4), some (.int y5), o6, some (.int y7)] [.int (kr s 2 y7)] _ _
    refine l0 hi_238_201 ?_
    by_cases c6 : (kr s 2 y7) ≠ (-3)
    · refine l13t hi_238_203 (decide_eq_true c6) ?_
      refine l0 hi_238_210 ?_
      refine l3 (ls' := [some (.ref 39), some (.int y1), some (.int y2), some (.int y3), some (.int y4), some (.int y5), some (.int 0), some (.int y7)]) hi_238_211 (Nat.le_of_ble_eq_true rfl) rfl ?_
      refine l1 (v := 0) hi_238_213 rfl ?_
      refine l12t hi_238_215 (by decide) ?_
      have eq_ : k238b113_178 s y1 y2 y3 y4 y5 y7 = k238b113_229 s y1 y2 y3 y4 y5 0 y7 := by unfold k238b113_178; rw [if_pos c3]; rw [if_pos c6]
      refine lb238_113_229 hS  ?_ ?_ ?_ ?_
      · intro S7 p11 p12 p13 t8 e9 h10
        exact kb _ p11 p12 p13 t8 (eq_.trans e9) h10
      · intro S14 p18 p19 p20 t15 e16 h17
        exact kx131 _ p18 p19 p20 t15 (eq_.trans e16) h17
      · intro S21 p25 p26 p27 t22 e23 h24
        exact kx177 _ p25 p26 p27 t22 (eq_.trans e23) h24
      · intro S28 p32 p33 p34 t29 e30 h31
        exact kx300 _ p32 p33 p34 t29 (eq_.trans e30) h31
    · refine l13f hi_238_203 (decide_eq_false c6) ?_
      refine l0 hi_238_206 ?_
      refine l18 hi_238_207 ?_
      refine l3 (ls' := [some (.ref 39), some (.int y1), some (.int y2), some (.int y3), some (.int y4), some (.int y5), some (.int 2), some (.int y7)]) hi_238_211 (Nat.le_of_ble_eq_true rfl) rfl ?_
      refine l1 (v := 2) hi_238_213 rfl ?_
      refine l12f hi_238_215 (by decide) ?_
      refine l1 (v := 2) hi_238_218 rfl ?_
      refine l0 hi_238_220 ?_
      refine l13f hi_238_221 (by decide) ?_
      refine l1 (v := y4) hi_238_224 rfl ?_
      by_cases c35 : y4 = 0
      · refine l12t hi_238_226 (decide_eq_true c35) ?_
        have eq_ : k238b113_178 s y1 y2 y3 y4 y5 y7 = k238b113_237 s y1 y2 y3 y4 y5 2 := by unfold k238b113_178; rw [if_pos c3]; rw [if_neg c6]; rw [if_pos c35]
        refine lb238_113_237 hS  ?_ ?_ ?_ ?_
        · intro S36 p40 p41 p42 t37 e38 h39
          exact kb _ p40 p41 p42 t37 (eq_.trans e38) h39
        · intro S43 p47 p48 p49 t44 e45 h46
          exact kx131 _ p47 p48 p49 t44 (eq_.trans e45) h46
        · intro S50 p54 p55 p56 t51 e52 h53
          exact kx177 _ p54 p55 p56 t51 (eq_.trans e52) h53
        · intro S57 p61 p62 p63 t58 e59 h60
          exact kx300 _ p61 p62 p63 t58 (eq_.trans e59) h60
      · refine l12f hi_238_226 (decide_eq_false c35) ?_
        have eq_ : k238b113_178 s y1 y2 y3 y4 y5 y7 = k238b113_229 s y1 y2 y3 y4 y5 2 y7 := by unfold k238b113_178; rw [if_pos c3]; rw [if_neg c6]; rw [if_neg c35]
        refine lb238_113_229 hS  ?_ ?_ ?_ ?_
        · intro S64 p68 p69 p70 t65 e66 h67
          exact kb _ p68 p69 p70 t65 (eq_.trans e66) h67
        · intro S71 p75 p76 p77 t72 e73 h74
          exact kx131 _ p75 p76 p77 t72 (eq_.trans e73) h74
        · intro S78 p82 p83 p84 t79 e80 h81
          exact kx177 _ p82 p83 p84 t79 (eq_.trans e80) h81
        · intro S85 p89 p90 p91 t86 e87 h88
          exact kx300 _ p89 p90 p91 t86 (eq_.trans e87) h88
  · refine l13f hi_238_187 (decide_eq_false c3) ?_
    refine l0 hi_238_190 ?_
    refine l18 hi_238_191 ?_
    refine l3 (ls' := [some (.ref 39), some (.int y1), some (.int y2), some (.int y3), some (.int y4), some (.int y5), some (.int 1), some (.int y7)]) hi_238_211 (Nat.le_of_ble_eq_true rfl) rfl ?_
    refine l1 (v := 1) hi_238_213 rfl ?_
    refine l12f hi_238_215 (by decide) ?_
    refine l1 (v := 1) hi_238_218 rfl ?_
    refine l0 hi_238_220 ?_
    refine l13t hi_238_221 (by decide) ?_
    have eq_ : k238b113_178 s y1 y2 y3 y4 y5 y7 = k238b113_237 s y1 y2 y3 y4 y5 1 := by unfold k238b113_178; rw [if_neg c3]
    refine lb238_113_237 hS  ?_ ?_ ?_ ?_
    · intro S92 p96 p97 p98 t93 e94 h95
      exact kb _ p96 p97 p98 t93 (eq_.trans e94) h95
    · intro S99 p103 p104 p105 t100 e101 h102
      exact kx131 _ p103 p104 p105 t100 (eq_.trans e101) h102
    · intro S106 p110 p111 p112 t107 e108 h109
      exact kx177 _ p110 p111 p112 t107 (eq_.trans e108) h109
    · intro S113 p117 p118 p119 t114 e115 h116
      exact kx300 _ p117 p118 p119 t114 (eq_.trans e115) h116
def k238b113_168 (s : kS) (y1 : Int32) (y2 : Int32) (y3 : Int32) (y4 : Int32) (y5 : Int32) (y7 : Int32) : Nat × (kS × Int32 × Int32) := if ((k200 s 58).2) ≠ 0 then k238b113_178 ((k200 s 58).1) y1 y2 y3 y4 y5 y7 else (2, ((k200 s 58).1, y3, y4))
theorem lb238_113_168 {sc : Nat × (Nat → Int32)} {N d : Nat} {S0 S : am_S} {s : kS} {y1 : Int32} {y2 : Int32} {y3 : Int32} {y4 : Int32} {y5 : Int32} {y7 : Int32} {o6 : Option Value} {Q : Option (Option Value) → am_S → Prop} (hS : MK S0 S s) (kb : (∀ S1 (p5 : Option Value) (p6 : Option Value) (p7 : Option Value) (t : kS × Int32 × Int32), k238b113_168 s y1 y2 y3 y4 y5 y7 = (0, t) → MK S0 S1 t.1 → am_L (am_PP sc) N d 238 113 [some (.ref 39), some (.int y1), some (.int y2), some (.int t.2.1), some (.int t.2.2), p5, p6, p7] [] S1 Q)) (kx131 : (∀ S1 (p5 : Option Value) (p6 : Option Value) (p7 : Option Value) (t : kS × Int32 × Int32), k238b113_168 s y1 y2 y3 y4 y5 y7 = (1, t) → MK S0 S1 t.1 → am_L (am_PP sc) N d 238 131 [some (.ref 39), some (.int y1), some (.int y2), some (.int t.2.1), some (.int t.2.2), p5, p6, p7] [] S1 Q)) (kx177 : (∀ S1 (p5 : Option Value) (p6 : Option Value) (p7 : Option Value) (t : kS × Int32 × Int32), k238b113_168 s y1 y2 y3 y4 y5 y7 = (2, t) → MK S0 S1 t.1 → am_L (am_PP sc) N d 238 177 [some (.ref 39), some (.int y1), some (.int y2), some (.int t.2.1), some (.int t.2.2), p5, p6, p7] [] S1 Q)) (kx300 : (∀ S1 (p5 : Option Value) (p6 : Option Value) (p7 : Option Value) (t : kS × Int32 × Int32), k238b113_168 s y1 y2 y3 y4 y5 y7 = (3, t) → MK S0 S1 t.1 → am_L (am_PP sc) N d 238 300 [some (.ref 39), some (.int y1), some (.int y2), some (.int t.2.1), some (.int t.2.2), p5, p6, p7] [] S1 Q)) : am_L (am_PP sc) N d 238 168 [some (.ref 39), some (.int y1), some (.int y2), some (.int y3), some (.int y4), some (.int y5), o6, some (.int y7)] [] S Q := by
  refine l2 (v := 39) hi_238_168 rfl ?_
  refine l0 hi_238_169 ?_
  refine l32 (as := [.ref 39, .int 58]) (la := [some (.ref 39), some (.int 58)]) (rest := []) hi_238_171 (am_hd0 (M := 238) (by decide) 171) rfl rfl rfl (fun N' d' _ => lt200 (N := N') (d := d') hS) ?_ (fun _ q => nomatch q.1)
  rintro v3 S1 ⟨ev3, h2⟩
  cases ev3
  show am_L _ _ _ _ _ [some (.ref 39), some (.int y1), some (.int y2), some (.int y3), some (.int y4), some (.int y5), o6, some (.int y7)] [.int ((k200 s 58).2)] _ _
  by_cases c4 : ((k200 s 58).2) ≠ 0
  · refine l12t hi_238_174 (decide_eq_true c4) ?_
    have eq_ : k238b113_168 s y1 y2 y3 y4 y5 y7 = k238b113_178 ((k200 s 58).1) y1 y2 y3 y4 y5 y7 := by unfold k238b113_168; rw [if_pos c4]
    refine lb238_113_178 h2  ?_ ?_ ?_ ?_
    · intro S5 p9 p10 p11 t6 e7 h8
      exact kb _ p9 p10 p11 t6 (eq_.trans e7) h8
    · intro S12 p16 p17 p18 t13 e14 h15
      exact kx131 _ p16 p17 p18 t13 (eq_.trans e14) h15
    · intro S19 p23 p24 p25 t20 e21 h22
      exact kx177 _ p23 p24 p25 t20 (eq_.trans e21) h22
    · intro S26 p30 p31 p32 t27 e28 h29
      exact kx300 _ p30 p31 p32 t27 (eq_.trans e28) h29
  · refine l12f hi_238_174 (decide_eq_false c4) ?_
    exact kx177 _ (some (.int y5)) o6 (some (.int y7)) ((k200 s 58).1, y3, y4) (by unfold k238b113_168; rw [if_neg c4]) h2
def k238b113_132 (s : kS) (y1 : Int32) (y2 : Int32) (y3 : Int32) (y4 : Int32) (y5 : Int32) : Nat × (kS × Int32 × Int32) := if (k183 s) ≠ 57 then k238b113_255 s y1 y2 y3 y4 y5 0 else if ((k200 (kf s 4 ((s.1 4) + 1)) 1).2) = 0 then (2, ((k200 (kf s 4 ((s.1 4) + 1)) 1).1, y3, y4)) else k238b113_168 ((k200 (kf s 4 ((s.1 4) + 1)) 1).1) y1 y2 y3 y4 y5 ((s.1 4) + 1)
theorem lb238_113_132 {sc : Nat × (Nat → Int32)} {N d : Nat} {S0 S : am_S} {s : kS} {y1 : Int32} {y2 : Int32} {y3 : Int32} {y4 : Int32} {y5 : Int32} {o6 : Option Value} {o7 : Option Value} {Q : Option (Option Value) → am_S → Prop} (hS : MK S0 S s) (kb : (∀ S1 (p5 : Option Value) (p6 : Option Value) (p7 : Option Value) (t : kS × Int32 × Int32), k238b113_132 s y1 y2 y3 y4 y5 = (0, t) → MK S0 S1 t.1 → am_L (am_PP sc) N d 238 113 [some (.ref 39), some (.int y1), some (.int y2), some (.int t.2.1), some (.int t.2.2), p5, p6, p7] [] S1 Q)) (kx131 : (∀ S1 (p5 : Option Value) (p6 : Option Value) (p7 : Option Value) (t : kS × Int32 × Int32), k238b113_132 s y1 y2 y3 y4 y5 = (1, t) → MK S0 S1 t.1 → am_L (am_PP sc) N d 238 131 [some (.ref 39), some (.int y1), some (.int y2), some (.int t.2.1), some (.int t.2.2), p5, p6, p7] [] S1 Q)) (kx177 : (∀ S1 (p5 : Option Value) (p6 : Option Value) (p7 : Option Value) (t : kS × Int32 × Int32), k238b113_132 s y1 y2 y3 y4 y5 = (2, t) → MK S0 S1 t.1 → am_L (am_PP sc) N d 238 177 [some (.ref 39), some (.int y1), some (.int y2), some (.int t.2.1), some (.int t.2.2), p5, p6, p7] [] S1 Q)) (kx300 : (∀ S1 (p5 : Option Value) (p6 : Option Value) (p7 : Option Value) (t : kS × Int32 × Int32), k238b113_132 s y1 y2 y3 y4 y5 = (3, t) → MK S0 S1 t.1 → am_L (am_PP sc) N d 238 300 [some (.ref 39), some (.int y1), some (.int y2), some (.int t.2.1), some (.int t.2.2), p5, p6, p7] [] S1 Q)) : am_L (am_PP sc) N d 238 132 [some (.ref 39), some (.int y1), some (.int y2), some (.int y3), some (.int y4), some (.int y5), o6, o7] [] S Q := by
  refine l0 hi_238_132 ?_
  refine l3 (ls' := [some (.ref 39), some (.int y1), some (.int y2), some (.int y3), some (.int y4), some (.int y5), some (.int 0), o7]) hi_238_133 (Nat.le_of_ble_eq_true rfl) rfl ?_
  refine l2 (v := 39) hi_238_135 rfl ?_
  refine l32 (as := [.ref 39]) (la := [some (.ref 39)]) (rest := []) hi_238_136 (am_hd0 (M := 238) (by decide) 136) rfl rfl rfl (fun N' d' _ => lt183 (N := N') (d := d') hS) ?_ (fun _ q => nomatch q.1)
  rintro v3 S1 ⟨ev3, h2⟩
  cases ev3
  show am_L _ _ _ _ _ [some (.ref 39), some (.int y1), some (.int y2), some (.int y3), some (.int y4), some (.int y5), some (.int 0), o7] [.int (k183 s)] _ _
  refine l0 hi_238_139 ?_
  by_cases c4 : (k183 s) ≠ 57
  · refine l13t hi_238_141 (decide_eq_true c4) ?_
    have eq_ : k238b113_132 s y1 y2 y3 y4 y5 = k238b113_255 s y1 y2 y3 y4 y5 0 := by unfold k238b113_132; rw [if_pos c4]
    refine lb238_113_255 h2  ?_ ?_ ?_ ?_
    · intro S5 p9 p10 p11 t6 e7 h8
      exact kb _ p9 p10 p11 t6 (eq_.trans e7) h8
    · intro S12 p16 p17 p18 t13 e14 h15
      exact kx131 _ p16 p17 p18 t13 (eq_.trans e14) h15
    · intro S19 p23 p24 p25 t20 e21 h22
      exact kx177 _ p23 p24 p25 t20 (eq_.trans e21) h22
    · intro S26 p30 p31 p32 t27 e28 h29
      exact kx300 _ p30 p31 p32 t27 (eq_.trans e28) h29
  · refine l13f hi_238_141 (decide_eq_false c4) ?_
    refine l2 (v := 39) hi_238_144 rfl ?_
    refine l7 hi_238_145 ?_
    refine l20 (v := .int (s.1 4)) h2 hi_238_146 rfl ?_
    refine l0 hi_238_149 ?_
    refine l10 hi_238_150 ?_
    show am_L _ _ _ _ _ [some (.ref 39), some (.int y1), some (.int y2), some (.int y3), some (.int y4), some (.int y5), some (.int 0), o7] [.int ((s.1 4) + 1), .ref 39] _ _
    refine l21 h2 hi_238_151 ms_4 fun S33 h34 => ?_
    refine l2 (v := 39) hi_238_154 rfl ?_
    refine l20 (v := .int ((s.1 4) + 1)) h34 hi_238_155 rfl ?_
    refine l3 (ls' := [some (.ref 39), some (.int y1), some (.int y2), some (.int y3), some (.int y4), some (.int y5), some (.int 0), some (.int ((s.1 4) + 1))]) hi_238_158 (Nat.le_of_ble_eq_true rfl) rfl ?_
    refine l2 (v := 39) hi_238_160 rfl ?_
    refine l0 hi_238_161 ?_
    refine l32 (as := [.ref 39, .int 1]) (la := [some (.ref 39), some (.int 1)]) (rest := []) hi_238_162 (am_hd0 (M := 238) (by decide) 162) rfl rfl rfl (fun N' d' _ => lt200 (N := N') (d := d') h34) ?_ (fun _ q => nomatch q.1)
    rintro v37 S35 ⟨ev37, h36⟩
    cases ev37
    show am_L _ _ _ _ _ [some (.ref 39), some (.int y1), some (.int y2), some (.int y3), some (.int y4), some (.int y5), some (.int 0), some (.int ((s.1 4) + 1))] [.int ((k200 (kf s 4 ((s.1 4) + 1)) 1).2)] _ _
    by_cases c38 : ((k200 (kf s 4 ((s.1 4) + 1)) 1).2) = 0
    · refine l12t hi_238_165 (decide_eq_true c38) ?_
      exact kx177 _ (some (.int y5)) (some (.int 0)) (some (.int ((s.1 4) + 1))) ((k200 (kf s 4 ((s.1 4) + 1)) 1).1, y3, y4) (by unfold k238b113_132; rw [if_neg c4]; rw [if_pos c38]) h36
    · refine l12f hi_238_165 (decide_eq_false c38) ?_
      have eq_ : k238b113_132 s y1 y2 y3 y4 y5 = k238b113_168 ((k200 (kf s 4 ((s.1 4) + 1)) 1).1) y1 y2 y3 y4 y5 ((s.1 4) + 1) := by unfold k238b113_132; rw [if_neg c4]; rw [if_neg c38]
      refine lb238_113_168 h36  ?_ ?_ ?_ ?_
      · intro S39 p43 p44 p45 t40 e41 h42
        exact kb _ p43 p44 p45 t40 (eq_.trans e41) h42
      · intro S46 p50 p51 p52 t47 e48 h49
        exact kx131 _ p50 p51 p52 t47 (eq_.trans e48) h49
      · intro S53 p57 p58 p59 t54 e55 h56
        exact kx177 _ p57 p58 p59 t54 (eq_.trans e55) h56
      · intro S60 p64 p65 p66 t61 e62 h63
        exact kx300 _ p64 p65 p66 t61 (eq_.trans e62) h63
def k238b113 (y1 : Int32) (y2 : Int32) (t : kS × Int32 × Int32) : Nat × (kS × Int32 × Int32) := if t.2.1 = 0 then (3, (t.1, t.2.1, t.2.2)) else if ((k200 t.1 1).2) ≠ 0 then k238b113_132 ((k200 t.1 1).1) y1 y2 t.2.1 t.2.2 (t.1.1 4) else (1, ((k200 t.1 1).1, t.2.1, t.2.2))
theorem lb238_113 {sc : Nat × (Nat → Int32)} {d : Nat} {S0 : am_S} {y1 : Int32} {y2 : Int32} {Q : Option (Option Value) → am_S → Prop} : ∀ (N : Nat) (S : am_S) (o5 : Option Value) (o6 : Option Value) (o7 : Option Value) (t : kS × Int32 × Int32), MK S0 S t.1 → (∀ m S1 (p5 : Option Value) (p6 : Option Value) (p7 : Option Value), (kwh (k238b113 y1 y2) m t).1 = 1 → MK S0 S1 (kwh (k238b113 y1 y2) m t).2.1 → am_L (am_PP sc) N d 238 131 [some (.ref 39), some (.int y1), some (.int y2), some (.int ((kwh (k238b113 y1 y2) m t).2.2.1)), some (.int ((kwh (k238b113 y1 y2) m t).2.2.2)), p5, p6, p7] [] S1 Q) → (∀ m S1 (p5 : Option Value) (p6 : Option Value) (p7 : Option Value), (kwh (k238b113 y1 y2) m t).1 = 2 → MK S0 S1 (kwh (k238b113 y1 y2) m t).2.1 → am_L (am_PP sc) N d 238 177 [some (.ref 39), some (.int y1), some (.int y2), some (.int ((kwh (k238b113 y1 y2) m t).2.2.1)), some (.int ((kwh (k238b113 y1 y2) m t).2.2.2)), p5, p6, p7] [] S1 Q) → (∀ m S1 (p5 : Option Value) (p6 : Option Value) (p7 : Option Value), (kwh (k238b113 y1 y2) m t).1 = 3 → MK S0 S1 (kwh (k238b113 y1 y2) m t).2.1 → am_L (am_PP sc) N d 238 300 [some (.ref 39), some (.int y1), some (.int y2), some (.int ((kwh (k238b113 y1 y2) m t).2.2.1)), some (.int ((kwh (k238b113 y1 y2) m t).2.2.2)), p5, p6, p7] [] S1 Q) → am_L (am_PP sc) N d 238 113 [some (.ref 39), some (.int y1), some (.int y2), some (.int t.2.1), some (.int t.2.2), o5, o6, o7] [] S Q := by
  intro N
  induction N with
  | zero => intros; exact l_zero
  | succ N ih =>
    intro S o5 o6 o7 t hS kx131 kx177 kx300
    refine l1d (v := t.2.1) hi_238_113 rfl ?_
    by_cases c1 : t.2.1 = 0
    · refine l12t hi_238_114 (decide_eq_true c1) ?_
      have e0 : (k238b113 y1 y2) t = (3, (t.1, t.2.1, t.2.2)) := by unfold k238b113; rw [if_pos c1]
      have e1 : kwh (k238b113 y1 y2) 1 t = (3, (t.1, t.2.1, t.2.2)) := by rw [kwh_out (by rw [e0]; exact Nat.succ_ne_zero _), e0]
      have q := kx300 1 _ o5 o6 o7 (by rw [e1]) (by rw [e1]; exact hS)
      try rw [e1] at q
      exact q.less (Nat.le_succ N)
    · refine l12f hi_238_114 (decide_eq_false c1) ?_
      refine l2 (v := 39) hi_238_117 rfl ?_
      refine l20 (v := .int (t.1.1 4)) hS hi_238_118 rfl ?_
      refine l3 (ls' := [some (.ref 39), some (.int y1), some (.int y2), some (.int t.2.1), some (.int t.2.2), some (.int (t.1.1 4)), o6, o7]) hi_238_121 (Nat.le_of_ble_eq_true rfl) rfl ?_
      refine l2 (v := 39) hi_238_123 rfl ?_
      refine l0 hi_238_124 ?_
      refine l32 (as := [.ref 39, .int 1]) (la := [some (.ref 39), some (.int 1)]) (rest := []) hi_238_125 (am_hd0 (M := 238) (by decide) 125) rfl rfl rfl (fun N' d' _ => lt200 (N := N') (d := d') hS) ?_ (fun _ q => nomatch q.1)
      rintro v4 S2 ⟨ev4, h3⟩
      cases ev4
      show am_L _ _ _ _ _ [some (.ref 39), some (.int y1), some (.int y2), some (.int t.2.1), some (.int t.2.2), some (.int (t.1.1 4)), o6, o7] [.int ((k200 t.1 1).2)] _ _
      by_cases c5 : ((k200 t.1 1).2) ≠ 0
      · refine l12t hi_238_128 (decide_eq_true c5) ?_
        have eq_ : (k238b113 y1 y2) t = k238b113_132 ((k200 t.1 1).1) y1 y2 t.2.1 t.2.2 (t.1.1 4) := by unfold k238b113; rw [if_neg c1]; rw [if_pos c5]
        refine lb238_113_132 h3  ?_ ?_ ?_ ?_
        · intro S6 p10 p11 p12 t7 e8 h9
          have e0 : (k238b113 y1 y2) t = (0, t7) := eq_.trans e8
          have e1 : ∀ m, kwh (k238b113 y1 y2) (m + 1) t = kwh (k238b113 y1 y2) m t7 := fun m => by rw [kwh_go (by rw [e0]), e0]
          exact ih _ p10 p11 p12 t7 h9 (fun m S1 p5 p6 p7 hm h1 => by have q := kx131 (m + 1) S1 p5 p6 p7 (by rw [e1]; exact hm) (by rw [e1]; exact h1); (try rw [e1] at q); exact q.less (Nat.le_succ N)) (fun m S1 p5 p6 p7 hm h1 => by have q := kx177 (m + 1) S1 p5 p6 p7 (by rw [e1]; exact hm) (by rw [e1]; exact h1); (try rw [e1] at q); exact q.less (Nat.le_succ N)) (fun m S1 p5 p6 p7 hm h1 => by have q := kx300 (m + 1) S1 p5 p6 p7 (by rw [e1]; exact hm) (by rw [e1]; exact h1); (try rw [e1] at q); exact q.less (Nat.le_succ N))
        · intro S13 p17 p18 p19 t14 e15 h16
          have e0 : (k238b113 y1 y2) t = (1, t14) := eq_.trans e15
          have e1 : kwh (k238b113 y1 y2) 1 t = (1, t14) := by rw [kwh_out (by rw [e0]; exact Nat.succ_ne_zero _), e0]
          have q := kx131 1 _ p17 p18 p19 (by rw [e1]) (by rw [e1]; exact h16)
          try rw [e1] at q
          exact q.less (Nat.le_succ N)
        · intro S20 p24 p25 p26 t21 e22 h23
          have e0 : (k238b113 y1 y2) t = (2, t21) := eq_.trans e22
          have e1 : kwh (k238b113 y1 y2) 1 t = (2, t21) := by rw [kwh_out (by rw [e0]; exact Nat.succ_ne_zero _), e0]
          have q := kx177 1 _ p24 p25 p26 (by rw [e1]) (by rw [e1]; exact h23)
          try rw [e1] at q
          exact q.less (Nat.le_succ N)
        · intro S27 p31 p32 p33 t28 e29 h30
          have e0 : (k238b113 y1 y2) t = (3, t28) := eq_.trans e29
          have e1 : kwh (k238b113 y1 y2) 1 t = (3, t28) := by rw [kwh_out (by rw [e0]; exact Nat.succ_ne_zero _), e0]
          have q := kx300 1 _ p31 p32 p33 (by rw [e1]) (by rw [e1]; exact h30)
          try rw [e1] at q
          exact q.less (Nat.le_succ N)
      · refine l12f hi_238_128 (decide_eq_false c5) ?_
        have e0 : (k238b113 y1 y2) t = (1, ((k200 t.1 1).1, t.2.1, t.2.2)) := by unfold k238b113; rw [if_neg c1]; rw [if_neg c5]
        have e1 : kwh (k238b113 y1 y2) 1 t = (1, ((k200 t.1 1).1, t.2.1, t.2.2)) := by rw [kwh_out (by rw [e0]; exact Nat.succ_ne_zero _), e0]
        have q := kx131 1 _ (some (.int (t.1.1 4))) o6 o7 (by rw [e1]) (by rw [e1]; exact h3)
        try rw [e1] at q
        exact q.less (Nat.le_succ N)
noncomputable def k238_345 (s : kS) (y1 : Int32) (y2 : Int32) : kS × Int32 := ((k241 s y1 y2).1, 0)
theorem lt238_345 {sc : Nat × (Nat → Int32)} {N d : Nat} {S0 S : am_S} {s : kS} {y1 : Int32} {y2 : Int32} {o3 : Option Value} {o4 : Option Value} {o5 : Option Value} {o6 : Option Value} {o7 : Option Value} (hS : MK S0 S s) : am_L (am_PP sc) N d 238 345 [some (.ref 39), some (.int y1), some (.int y2), o3, o4, o5, o6, o7] [] S (fun o S1 => o = some none ∧ MK S0 S1 (k238_345 s y1 y2).1) := by
  refine l2 (v := 39) hi_238_345 rfl ?_
  refine l1 (v := y1) hi_238_346 rfl ?_
  refine l1 (v := y2) hi_238_347 rfl ?_
  refine l32 (as := [.ref 39, .int y1, .int y2]) (la := [some (.ref 39), some (.int y1), some (.int y2), none, none, none]) (rest := []) hi_238_348 (am_hd0 (M := 238) (by decide) 348) rfl rfl rfl (fun N' d' _ => lt241 (N := N') (d := d') hS) ?_ (fun _ q => nomatch q.1)
  rintro v3 S1 ⟨ev3, h2⟩
  cases ev3
  show am_L _ _ _ _ _ [some (.ref 39), some (.int y1), some (.int y2), o3, o4, o5, o6, o7] [] _ _
  refine l35 hi_238_351 ⟨rfl, ?_⟩
  exact h2
noncomputable def k238_328 (s : kS) : kS × Int32 := ((k214 s).1, 0)
theorem lt238_328 {sc : Nat × (Nat → Int32)} {N d : Nat} {S0 S : am_S} {s : kS} {o1 : Option Value} {o2 : Option Value} {o3 : Option Value} {o4 : Option Value} {o5 : Option Value} {o6 : Option Value} {o7 : Option Value} (hS : MK S0 S s) : am_L (am_PP sc) N d 238 328 [some (.ref 39), o1, o2, o3, o4, o5, o6, o7] [] S (fun o S1 => o = some none ∧ MK S0 S1 (k238_328 s).1) := by
  refine l2 (v := 39) hi_238_328 rfl ?_
  refine l32 (as := [.ref 39]) (la := [some (.ref 39)]) (rest := []) hi_238_329 (am_hd0 (M := 238) (by decide) 329) rfl rfl rfl (fun N' d' _ => lt214 (N := N') (d := d') hS) ?_ (fun _ q => nomatch q.1)
  rintro v3 S1 ⟨ev3, h2⟩
  cases ev3
  show am_L _ _ _ _ _ [some (.ref 39), o1, o2, o3, o4, o5, o6, o7] [] _ _
  refine l18 hi_238_332 ?_
  refine l35 hi_238_351 ⟨rfl, ?_⟩
  exact h2
noncomputable def k238_96 (s : kS) (y2 : Int32) : kS × Int32 := ((k195 s 0 y2).1, 0)
theorem lt238_96 {sc : Nat × (Nat → Int32)} {N d : Nat} {S0 S : am_S} {s : kS} {y2 : Int32} {o1 : Option Value} {o3 : Option Value} {o4 : Option Value} {o5 : Option Value} {o6 : Option Value} {o7 : Option Value} (hS : MK S0 S s) : am_L (am_PP sc) N d 238 96 [some (.ref 39), o1, some (.int y2), o3, o4, o5, o6, o7] [] S (fun o S1 => o = some none ∧ MK S0 S1 (k238_96 s y2).1) := by
  refine l2 (v := 39) hi_238_96 rfl ?_
  refine l0 hi_238_97 ?_
  refine l1 (v := y2) hi_238_98 rfl ?_
  refine l32 (as := [.ref 39, .int 0, .int y2]) (la := [some (.ref 39), some (.int 0), some (.int y2), none, none]) (rest := []) hi_238_99 (am_hd0 (M := 238) (by decide) 99) rfl rfl rfl (fun N' d' _ => lt195 (N := N') (d := d') hS) ?_ (fun _ q => nomatch q.1)
  rintro v3 S1 ⟨ev3, h2⟩
  cases ev3
  show am_L _ _ _ _ _ [some (.ref 39), o1, some (.int y2), o3, o4, o5, o6, o7] [] _ _
  refine l35 hi_238_102 ⟨rfl, ?_⟩
  exact h2
noncomputable def k238_87 (s : kS) (y2 : Int32) : kS × Int32 := k238_96 ((k179 s 41 y2 0 0).1) y2
theorem lt238_87 {sc : Nat × (Nat → Int32)} {N d : Nat} {S0 S : am_S} {s : kS} {y2 : Int32} {o1 : Option Value} {o3 : Option Value} {o4 : Option Value} {o5 : Option Value} {o6 : Option Value} {o7 : Option Value} (hS : MK S0 S s) : am_L (am_PP sc) N d 238 87 [some (.ref 39), o1, some (.int y2), o3, o4, o5, o6, o7] [] S (fun o S1 => o = some none ∧ MK S0 S1 (k238_87 s y2).1) := by
  refine l2 (v := 39) hi_238_87 rfl ?_
  refine l0 hi_238_88 ?_
  refine l1 (v := y2) hi_238_90 rfl ?_
  refine l0 hi_238_91 ?_
  refine l0 hi_238_92 ?_
  refine l32 (as := [.ref 39, .int 41, .int y2, .int 0, .int 0]) (la := [some (.ref 39), some (.int 41), some (.int y2), some (.int 0), some (.int 0)]) (rest := []) hi_238_93 (am_hd0 (M := 238) (by decide) 93) rfl rfl rfl (fun N' d' _ => lt179 (N := N') (d := d') hS) ?_ (fun _ q => nomatch q.1)
  rintro v3 S1 ⟨ev3, h2⟩
  cases ev3
  show am_L _ _ _ _ _ [some (.ref 39), o1, some (.int y2), o3, o4, o5, o6, o7] [] _ _
  refine am_L.mono (lt238_96 h2) ?_
  rintro o S1 ⟨e, h⟩
  have q : k238_87 s y2 = k238_96 ((k179 s 41 y2 0 0).1) y2 := rfl
  rw [q]; exact ⟨e, h⟩
noncomputable def k238_76 (s : kS) (y2 : Int32) (y3 : Int32) (y4 : Int32) (z0 : Int32) : kS × Int32 := k238_87 ((k179 s 17 y4 y3 0).1) y2
theorem lt238_76 {sc : Nat × (Nat → Int32)} {N d : Nat} {S0 S : am_S} {s : kS} {y2 : Int32} {y3 : Int32} {y4 : Int32} {z0 : Int32} {o1 : Option Value} {o5 : Option Value} {o6 : Option Value} {o7 : Option Value} (hS : MK S0 S s) : am_L (am_PP sc) N d 238 76 [some (.ref 39), o1, some (.int y2), some (.int y3), some (.int y4), o5, o6, o7] [.int z0] S (fun o S1 => o = some none ∧ MK S0 S1 (k238_76 s y2 y3 y4 z0).1) := by
  refine l6i hi_238_76 ?_
  refine l2 (v := 39) hi_238_77 rfl ?_
  refine l0 hi_238_78 ?_
  refine l1 (v := y4) hi_238_80 rfl ?_
  refine l1 (v := y3) hi_238_82 rfl ?_
  refine l0 hi_238_83 ?_
  refine l32 (as := [.ref 39, .int 17, .int y4, .int y3, .int 0]) (la := [some (.ref 39), some (.int 17), some (.int y4), some (.int y3), some (.int 0)]) (rest := []) hi_238_84 (am_hd0 (M := 238) (by decide) 84) rfl rfl rfl (fun N' d' _ => lt179 (N := N') (d := d') hS) ?_ (fun _ q => nomatch q.1)
  rintro v3 S1 ⟨ev3, h2⟩
  cases ev3
  show am_L _ _ _ _ _ [some (.ref 39), o1, some (.int y2), some (.int y3), some (.int y4), o5, o6, o7] [] _ _
  refine am_L.mono (lt238_87 h2) ?_
  rintro o S1 ⟨e, h⟩
  have q : k238_76 s y2 y3 y4 z0 = k238_87 ((k179 s 17 y4 y3 0).1) y2 := rfl
  rw [q]; exact ⟨e, h⟩
noncomputable def k238_66 (s : kS) (y1 : Int32) (y2 : Int32) (y3 : Int32) (y4 : Int32) : kS × Int32 := k238_76 ((k189 s 27 y4 1 y1).1) y2 y3 y4 ((k189 s 27 y4 1 y1).2)
theorem lt238_66 {sc : Nat × (Nat → Int32)} {N d : Nat} {S0 S : am_S} {s : kS} {y1 : Int32} {y2 : Int32} {y3 : Int32} {y4 : Int32} {o5 : Option Value} {o6 : Option Value} {o7 : Option Value} (hS : MK S0 S s) : am_L (am_PP sc) N d 238 66 [some (.ref 39), some (.int y1), some (.int y2), some (.int y3), some (.int y4), o5, o6, o7] [] S (fun o S1 => o = some none ∧ MK S0 S1 (k238_66 s y1 y2 y3 y4).1) := by
  refine l2 (v := 39) hi_238_66 rfl ?_
  refine l0 hi_238_67 ?_
  refine l1 (v := y4) hi_238_69 rfl ?_
  refine l0 hi_238_71 ?_
  refine l1 (v := y1) hi_238_72 rfl ?_
  refine l32 (as := [.ref 39, .int 27, .int y4, .int 1, .int y1]) (la := [some (.ref 39), some (.int 27), some (.int y4), some (.int 1), some (.int y1)]) (rest := []) hi_238_73 (am_hd0 (M := 238) (by decide) 73) rfl rfl rfl (fun N' d' _ => lt189 (N := N') (d := d') hS) ?_ (fun _ q => nomatch q.1)
  rintro v3 S1 ⟨ev3, h2⟩
  cases ev3
  show am_L _ _ _ _ _ [some (.ref 39), some (.int y1), some (.int y2), some (.int y3), some (.int y4), o5, o6, o7] [.int ((k189 s 27 y4 1 y1).2)] _ _
  refine am_L.mono (lt238_76 h2) ?_
  rintro o S1 ⟨e, h⟩
  have q : k238_66 s y1 y2 y3 y4 = k238_76 ((k189 s 27 y4 1 y1).1) y2 y3 y4 ((k189 s 27 y4 1 y1).2) := rfl
  rw [q]; exact ⟨e, h⟩
noncomputable def k238_46 (s : kS) (y1 : Int32) (y2 : Int32) (y3 : Int32) (z0 : Int32) : kS × Int32 := k238_66 ((k196 s (kr s 2 y3) 0 0 y3).1) y1 y2 y3 (k197 s)
theorem lt238_46 {sc : Nat × (Nat → Int32)} {N d : Nat} {S0 S : am_S} {s : kS} {y1 : Int32} {y2 : Int32} {y3 : Int32} {z0 : Int32} {o4 : Option Value} {o5 : Option Value} {o6 : Option Value} {o7 : Option Value} (hS : MK S0 S s) : am_L (am_PP sc) N d 238 46 [some (.ref 39), some (.int y1), some (.int y2), some (.int y3), o4, o5, o6, o7] [.int z0] S (fun o S1 => o = some none ∧ MK S0 S1 (k238_46 s y1 y2 y3 z0).1) := by
  refine l6i hi_238_46 ?_
  refine l2 (v := 39) hi_238_47 rfl ?_
  refine l32 (as := [.ref 39]) (la := [some (.ref 39)]) (rest := []) hi_238_48 (am_hd0 (M := 238) (by decide) 48) rfl rfl rfl (fun N' d' _ => lt197 (N := N') (d := d') hS) ?_ (fun _ q => nomatch q.1)
  rintro v3 S1 ⟨ev3, h2⟩
  cases ev3
  show am_L _ _ _ _ _ [some (.ref 39), some (.int y1), some (.int y2), some (.int y3), o4, o5, o6, o7] [.int (k197 s)] _ _
  refine l3 (ls' := [some (.ref 39), some (.int y1), some (.int y2), some (.int y3), some (.int (k197 s)), o5, o6, o7]) hi_238_51 (Nat.le_of_ble_eq_true rfl) rfl ?_
  refine l2 (v := 39) hi_238_53 rfl ?_
  refine l2 (v := 39) hi_238_54 rfl ?_
  refine l20 (v := .ref 41) h2 hi_238_55 rfl ?_
  refine l1 (v := y3) hi_238_58 rfl ?_
  refine l25 h2 ma_2 hi_238_59 fun g4 g5 => ?_
  show am_L _ _ _ _ _ [some (.ref 39), some (.int y1), some (.int y2), some (.int y3), some (.int (k197 s)), o5, o6, o7] [.int (kr s 2 y3), .ref 39] _ _
  refine l0 hi_238_60 ?_
  refine l0 hi_238_61 ?_
  refine l1 (v := y3) hi_238_62 rfl ?_
  refine l32 (as := [.ref 39, .int (kr s 2 y3), .int 0, .int 0, .int y3]) (la := [some (.ref 39), some (.int (kr s 2 y3)), some (.int 0), some (.int 0), some (.int y3), none]) (rest := []) hi_238_63 (am_hd0 (M := 238) (by decide) 63) rfl rfl rfl (fun N' d' _ => lt196 (N := N') (d := d') h2) ?_ (fun _ q => nomatch q.1)
  rintro v8 S6 ⟨ev8, h7⟩
  cases ev8
  show am_L _ _ _ _ _ [some (.ref 39), some (.int y1), some (.int y2), some (.int y3), some (.int (k197 s)), o5, o6, o7] [] _ _
  refine am_L.mono (lt238_66 h7) ?_
  rintro o S1 ⟨e, h⟩
  have q : k238_46 s y1 y2 y3 z0 = k238_66 ((k196 s (kr s 2 y3) 0 0 y3).1) y1 y2 y3 (k197 s) := rfl
  rw [q]; exact ⟨e, h⟩
noncomputable def k238_34 (s : kS) (y1 : Int32) (y2 : Int32) (y3 : Int32) (z0 : Int32) : kS × Int32 := if z0 ≠ 0 then k238_46 ((k189 s 1 0 0 0).1) y1 y2 y3 ((k189 s 1 0 0 0).2) else (s, 0)
theorem lt238_34 {sc : Nat × (Nat → Int32)} {N d : Nat} {S0 S : am_S} {s : kS} {y1 : Int32} {y2 : Int32} {y3 : Int32} {z0 : Int32} {o4 : Option Value} {o5 : Option Value} {o6 : Option Value} {o7 : Option Value} (hS : MK S0 S s) : am_L (am_PP sc) N d 238 34 [some (.ref 39), some (.int y1), some (.int y2), some (.int y3), o4, o5, o6, o7] [.int z0] S (fun o S1 => o = some none ∧ MK S0 S1 (k238_34 s y1 y2 y3 z0).1) := by
  by_cases c1 : z0 ≠ 0
  · refine l12t hi_238_34 (decide_eq_true c1) ?_
    refine l2 (v := 39) hi_238_38 rfl ?_
    refine l0 hi_238_39 ?_
    refine l0 hi_238_40 ?_
    refine l0 hi_238_41 ?_
    refine l0 hi_238_42 ?_
    refine l32 (as := [.ref 39, .int 1, .int 0, .int 0, .int 0]) (la := [some (.ref 39), some (.int 1), some (.int 0), some (.int 0), some (.int 0)]) (rest := []) hi_238_43 (am_hd0 (M := 238) (by decide) 43) rfl rfl rfl (fun N' d' _ => lt189 (N := N') (d := d') hS) ?_ (fun _ q => nomatch q.1)
    rintro v4 S2 ⟨ev4, h3⟩
    cases ev4
    show am_L _ _ _ _ _ [some (.ref 39), some (.int y1), some (.int y2), some (.int y3), o4, o5, o6, o7] [.int ((k189 s 1 0 0 0).2)] _ _
    refine am_L.mono (lt238_46 h3) ?_
    rintro o S1 ⟨e, h⟩
    have q : k238_34 s y1 y2 y3 z0 = k238_46 ((k189 s 1 0 0 0).1) y1 y2 y3 ((k189 s 1 0 0 0).2) := by unfold k238_34; rw [if_pos c1]
    rw [q]; exact ⟨e, h⟩
  · refine l12f hi_238_34 (decide_eq_false c1) ?_
    refine l35 hi_238_37 ⟨rfl, ?_⟩
    unfold k238_34; rw [if_neg c1]; exact hS
noncomputable def k238_20 (s : kS) (y1 : Int32) (y2 : Int32) (z0 : Int32) : kS × Int32 := if z0 ≠ 0 then k238_34 ((k200 s 1).1) y1 y2 (s.1 4) ((k200 s 1).2) else (s, 0)
theorem lt238_20 {sc : Nat × (Nat → Int32)} {N d : Nat} {S0 S : am_S} {s : kS} {y1 : Int32} {y2 : Int32} {z0 : Int32} {o3 : Option Value} {o4 : Option Value} {o5 : Option Value} {o6 : Option Value} {o7 : Option Value} (hS : MK S0 S s) : am_L (am_PP sc) N d 238 20 [some (.ref 39), some (.int y1), some (.int y2), o3, o4, o5, o6, o7] [.int z0] S (fun o S1 => o = some none ∧ MK S0 S1 (k238_20 s y1 y2 z0).1) := by
  by_cases c1 : z0 ≠ 0
  · refine l12t hi_238_20 (decide_eq_true c1) ?_
    refine l2 (v := 39) hi_238_24 rfl ?_
    refine l20 (v := .int (s.1 4)) hS hi_238_25 rfl ?_
    refine l3 (ls' := [some (.ref 39), some (.int y1), some (.int y2), some (.int (s.1 4)), o4, o5, o6, o7]) hi_238_28 (Nat.le_of_ble_eq_true rfl) rfl ?_
    refine l2 (v := 39) hi_238_29 rfl ?_
    refine l0 hi_238_30 ?_
    refine l32 (as := [.ref 39, .int 1]) (la := [some (.ref 39), some (.int 1)]) (rest := []) hi_238_31 (am_hd0 (M := 238) (by decide) 31) rfl rfl rfl (fun N' d' _ => lt200 (N := N') (d := d') hS) ?_ (fun _ q => nomatch q.1)
    rintro v4 S2 ⟨ev4, h3⟩
    cases ev4
    show am_L _ _ _ _ _ [some (.ref 39), some (.int y1), some (.int y2), some (.int (s.1 4)), o4, o5, o6, o7] [.int ((k200 s 1).2)] _ _
    refine am_L.mono (lt238_34 h3) ?_
    rintro o S1 ⟨e, h⟩
    have q : k238_20 s y1 y2 z0 = k238_34 ((k200 s 1).1) y1 y2 (s.1 4) ((k200 s 1).2) := by unfold k238_20; rw [if_pos c1]
    rw [q]; exact ⟨e, h⟩
  · refine l12f hi_238_20 (decide_eq_false c1) ?_
    refine l35 hi_238_23 ⟨rfl, ?_⟩
    unfold k238_20; rw [if_neg c1]; exact hS
/-- local(I)V -/
noncomputable def k238 (s : kS) (x1 : Int32) : kS × Int32 := if (k183 s) ≠ 18 then if (kfin (k238b113 x1 (s.1 20)) (s, 1, 0)).1 = 1 then ((kfin (k238b113 x1 (s.1 20)) (s, 1, 0)).2.1, 0) else if (kfin (k238b113 x1 (s.1 20)) (s, 1, 0)).1 = 2 then ((kfin (k238b113 x1 (s.1 20)) (s, 1, 0)).2.1, 0) else if (k183 ((kfin (k238b113 x1 (s.1 20)) (s, 1, 0)).2.1)) ≠ 59 then k238_345 ((k240 ((kfin (k238b113 x1 (s.1 20)) (s, 1, 0)).2.1) ((((kfin (k238b113 x1 (s.1 20)) (s, 1, 0)).2.1).1 20) - (s.1 20))).1) x1 (s.1 20) else k238_328 ((k179 (kf ((kfin (k238b113 x1 (s.1 20)) (s, 1, 0)).2.1) 4 ((((kfin (k238b113 x1 (s.1 20)) (s, 1, 0)).2.1).1 4) + 1)) 18 x1 (s.1 20) 0).1) else k238_20 ((k193 s 18).1) x1 (s.1 4) ((k193 s 18).2)
theorem lt238 {sc : Nat × (Nat → Int32)} {N d : Nat} {S0 S : am_S} {s : kS} {x1 : Int32} (hS : MK S0 S s) : am_L (am_PP sc) N d 238 0 [some (.ref 39), some (.int x1), none, none, none, none, none, none] [] S (fun o S1 => o = some none ∧ MK S0 S1 (k238 s x1).1) := by
  refine l2 (v := 39) hi_238_0 rfl ?_
  refine l32 (as := [.ref 39]) (la := [some (.ref 39)]) (rest := []) hi_238_1 (am_hd0 (M := 238) (by decide) 1) rfl rfl rfl (fun N' d' _ => lt183 (N := N') (d := d') hS) ?_ (fun _ q => nomatch q.1)
  rintro v3 S1 ⟨ev3, h2⟩
  cases ev3
  show am_L _ _ _ _ _ [some (.ref 39), some (.int x1), none, none, none, none, none, none] [.int (k183 s)] _ _
  refine l0 hi_238_4 ?_
  by_cases c4 : (k183 s) ≠ 18
  · refine l13t hi_238_6 (decide_eq_true c4) ?_
    refine l2 (v := 39) hi_238_103 rfl ?_
    refine l20 (v := .int (s.1 20)) h2 hi_238_104 rfl ?_
    refine l3 (ls' := [some (.ref 39), some (.int x1), some (.int (s.1 20)), none, none, none, none, none]) hi_238_107 (Nat.le_of_ble_eq_true rfl) rfl ?_
    refine l0 hi_238_108 ?_
    refine l3 (ls' := [some (.ref 39), some (.int x1), some (.int (s.1 20)), some (.int 1), none, none, none, none]) hi_238_109 (Nat.le_of_ble_eq_true rfl) rfl ?_
    refine l0 hi_238_110 ?_
    refine l3 (ls' := [some (.ref 39), some (.int x1), some (.int (s.1 20)), some (.int 1), some (.int 0), none, none, none]) hi_238_111 (Nat.le_of_ble_eq_true rfl) rfl ?_
    refine lb238_113 N _ none none none (s, 1, 0) h2 ?_ ?_ ?_
    · intro m5 S6 p10 p11 p12 hm7 h8
      have hf9 : kfin (k238b113 x1 (s.1 20)) (s, 1, 0) = kwh (k238b113 x1 (s.1 20)) m5 (s, 1, 0) := kfin_eq (by rw [hm7]; decide)
      rw [← hf9] at hm7 h8
      try rw [← hf9]
      refine l35 hi_238_131 ⟨rfl, ?_⟩
      unfold k238; rw [if_pos c4]; rw [if_pos hm7]; exact h8
    · intro m13 S14 p18 p19 p20 hm15 h16
      have hf17 : kfin (k238b113 x1 (s.1 20)) (s, 1, 0) = kwh (k238b113 x1 (s.1 20)) m13 (s, 1, 0) := kfin_eq (by rw [hm15]; decide)
      rw [← hf17] at hm15 h16
      try rw [← hf17]
      have c21 : ¬ (kfin (k238b113 x1 (s.1 20)) (s, 1, 0)).1 = 1 := by rw [hm15]; decide
      refine l35 hi_238_177 ⟨rfl, ?_⟩
      unfold k238; rw [if_pos c4]; rw [if_neg c21]; rw [if_pos hm15]; exact h16
    · intro m22 S23 p27 p28 p29 hm24 h25
      have hf26 : kfin (k238b113 x1 (s.1 20)) (s, 1, 0) = kwh (k238b113 x1 (s.1 20)) m22 (s, 1, 0) := kfin_eq (by rw [hm24]; decide)
      rw [← hf26] at hm24 h25
      try rw [← hf26]
      have c30 : ¬ (kfin (k238b113 x1 (s.1 20)) (s, 1, 0)).1 = 1 := by rw [hm24]; decide
      have c31 : ¬ (kfin (k238b113 x1 (s.1 20)) (s, 1, 0)).1 = 2 := by rw [hm24]; decide
      refine l2 (v := 39) hi_238_300 rfl ?_
      refine l32 (as := [.ref 39]) (la := [some (.ref 39)]) (rest := []) hi_238_301 (am_hd0 (M := 238) (by decide) 301) rfl rfl rfl (fun N' d' _ => lt183 (N := N') (d := d') h25) ?_ (fun _ q => nomatch q.1)
      rintro v34 S32 ⟨ev34, h33⟩
      cases ev34
      show am_L _ _ _ _ _ [some (.ref 39), some (.int x1), some (.int (s.1 20)), some (.int ((kfin (k238b113 x1 (s.1 20)) (s, 1, 0)).2.2.1)), some (.int ((kfin (k238b113 x1 (s.1 20)) (s, 1, 0)).2.2.2)), p27, p28, p29] [.int (k183 ((kfin (k238b113 x1 (s.1 20)) (s, 1, 0)).2.1))] _ _
      refine l0 hi_238_304 ?_
      by_cases c35 : (k183 ((kfin (k238b113 x1 (s.1 20)) (s, 1, 0)).2.1)) ≠ 59
      · refine l13t hi_238_306 (decide_eq_true c35) ?_
        refine l2 (v := 39) hi_238_335 rfl ?_
        refine l2 (v := 39) hi_238_336 rfl ?_
        refine l20 (v := .int (((kfin (k238b113 x1 (s.1 20)) (s, 1, 0)).2.1).1 20)) h33 hi_238_337 rfl ?_
        refine l1 (v := s.1 20) hi_238_340 rfl ?_
        refine l10 hi_238_341 ?_
        show am_L _ _ _ _ _ [some (.ref 39), some (.int x1), some (.int (s.1 20)), some (.int ((kfin (k238b113 x1 (s.1 20)) (s, 1, 0)).2.2.1)), some (.int ((kfin (k238b113 x1 (s.1 20)) (s, 1, 0)).2.2.2)), p27, p28, p29] [.int ((((kfin (k238b113 x1 (s.1 20)) (s, 1, 0)).2.1).1 20) - (s.1 20)), .ref 39] _ _
        refine l32 (as := [.ref 39, .int ((((kfin (k238b113 x1 (s.1 20)) (s, 1, 0)).2.1).1 20) - (s.1 20))]) (la := [some (.ref 39), some (.int ((((kfin (k238b113 x1 (s.1 20)) (s, 1, 0)).2.1).1 20) - (s.1 20))), none]) (rest := []) hi_238_342 (am_hd0 (M := 238) (by decide) 342) rfl rfl rfl (fun N' d' _ => lt240 (N := N') (d := d') h33) ?_ (fun _ q => nomatch q.1)
        rintro v38 S36 ⟨ev38, h37⟩
        cases ev38
        show am_L _ _ _ _ _ [some (.ref 39), some (.int x1), some (.int (s.1 20)), some (.int ((kfin (k238b113 x1 (s.1 20)) (s, 1, 0)).2.2.1)), some (.int ((kfin (k238b113 x1 (s.1 20)) (s, 1, 0)).2.2.2)), p27, p28, p29] [] _ _
        refine am_L.mono (lt238_345 h37) ?_
        rintro o S1 ⟨e, h⟩
        have q : k238 s x1 = k238_345 ((k240 ((kfin (k238b113 x1 (s.1 20)) (s, 1, 0)).2.1) ((((kfin (k238b113 x1 (s.1 20)) (s, 1, 0)).2.1).1 20) - (s.1 20))).1) x1 (s.1 20) := by unfold k238; rw [if_pos c4]; rw [if_neg c30]; rw [if_neg c31]; rw [if_pos c35]
        rw [q]; exact ⟨e, h⟩
      · refine l13f hi_238_306 (decide_eq_false c35) ?_
        refine l2 (v := 39) hi_238_309 rfl ?_
        refine l7 hi_238_310 ?_
        refine l20 (v := .int (((kfin (k238b113 x1 (s.1 20)) (s, 1, 0)).2.1).1 4)) h33 hi_238_311 rfl ?_
        refine l0 hi_238_314 ?_
        refine l10 hi_238_315 ?_
        show am_L _ _ _ _ _ [some (.ref 39), some (.int x1), some (.int (s.1 20)), some (.int ((kfin (k238b113 x1 (s.1 20)) (s, 1, 0)).2.2.1)), some (.int ((kfin (k238b113 x1 (s.1 20)) (s, 1, 0)).2.2.2)), p27, p28, p29] [.int ((((kfin (k238b113 x1 (s.1 20)) (s, 1, 0)).2.1).1 4) + 1), .ref 39] _ _
        refine l21 h33 hi_238_316 ms_4 fun S39 h40 => ?_
        refine l2 (v := 39) hi_238_319 rfl ?_
        refine l0 hi_238_320 ?_
        refine l1 (v := x1) hi_238_322 rfl ?_
        refine l1 (v := s.1 20) hi_238_323 rfl ?_
        refine l0 hi_238_324 ?_
        refine l32 (as := [.ref 39, .int 18, .int x1, .int (s.1 20), .int 0]) (la := [some (.ref 39), some (.int 18), some (.int x1), some (.int (s.1 20)), some (.int 0)]) (rest := []) hi_238_325 (am_hd0 (M := 238) (by decide) 325) rfl rfl rfl (fun N' d' _ => lt179 (N := N') (d := d') h40) ?_ (fun _ q => nomatch q.1)
        rintro v43 S41 ⟨ev43, h42⟩
        cases ev43
        show am_L _ _ _ _ _ [some (.ref 39), some (.int x1), some (.int (s.1 20)), some (.int ((kfin (k238b113 x1 (s.1 20)) (s, 1, 0)).2.2.1)), some (.int ((kfin (k238b113 x1 (s.1 20)) (s, 1, 0)).2.2.2)), p27, p28, p29] [] _ _
        refine am_L.mono (lt238_328 h42) ?_
        rintro o S1 ⟨e, h⟩
        have q : k238 s x1 = k238_328 ((k179 (kf ((kfin (k238b113 x1 (s.1 20)) (s, 1, 0)).2.1) 4 ((((kfin (k238b113 x1 (s.1 20)) (s, 1, 0)).2.1).1 4) + 1)) 18 x1 (s.1 20) 0).1) := by unfold k238; rw [if_pos c4]; rw [if_neg c30]; rw [if_neg c31]; rw [if_neg c35]
        rw [q]; exact ⟨e, h⟩
  · refine l13f hi_238_6 (decide_eq_false c4) ?_
    refine l2 (v := 39) hi_238_9 rfl ?_
    refine l20 (v := .int (s.1 4)) h2 hi_238_10 rfl ?_
    refine l3 (ls' := [some (.ref 39), some (.int x1), some (.int (s.1 4)), none, none, none, none, none]) hi_238_13 (Nat.le_of_ble_eq_true rfl) rfl ?_
    refine l2 (v := 39) hi_238_14 rfl ?_
    refine l0 hi_238_15 ?_
    refine l32 (as := [.ref 39, .int 18]) (la := [some (.ref 39), some (.int 18)]) (rest := []) hi_238_17 (am_hd0 (M := 238) (by decide) 17) rfl rfl rfl (fun N' d' _ => lt193 (N := N') (d := d') h2) ?_ (fun _ q => nomatch q.1)
    rintro v46 S44 ⟨ev46, h45⟩
    cases ev46
    show am_L _ _ _ _ _ [some (.ref 39), some (.int x1), some (.int (s.1 4)), none, none, none, none, none] [.int ((k193 s 18).2)] _ _
    refine am_L.mono (lt238_20 h45) ?_
    rintro o S1 ⟨e, h⟩
    have q : k238 s x1 = k238_20 ((k193 s 18).1) x1 (s.1 4) ((k193 s 18).2) := by unfold k238; rw [if_neg c4]
    rw [q]; exact ⟨e, h⟩
noncomputable def k228_226 (s : kS) : kS × Int32 := ((k178 s).1, 0)
theorem lt228_226 {sc : Nat × (Nat → Int32)} {N d : Nat} {S0 S : am_S} {s : kS} {o1 : Option Value} {o2 : Option Value} (hS : MK S0 S s) : am_L (am_PP sc) N d 228 226 [some (.ref 39), o1, o2] [] S (fun o S1 => o = some none ∧ MK S0 S1 (k228_226 s).1) := by
  refine l2 (v := 39) hi_228_226 rfl ?_
  refine l32 (as := [.ref 39]) (la := [some (.ref 39)]) (rest := []) hi_228_227 (am_hd0 (M := 228) (by decide) 227) rfl rfl rfl (fun N' d' _ => lt178 (N := N') (d := d') hS) ?_ (fun _ q => nomatch q.1)
  rintro v3 S1 ⟨ev3, h2⟩
  cases ev3
  show am_L _ _ _ _ _ [some (.ref 39), o1, o2] [] _ _
  refine l18 hi_228_230 ?_
  refine l35 hi_228_422 ⟨rfl, ?_⟩
  exact h2
noncomputable def k228_218 (s : kS) : kS × Int32 := k228_226 ((k179 s 2 0 0 0).1)
theorem lt228_218 {sc : Nat × (Nat → Int32)} {N d : Nat} {S0 S : am_S} {s : kS} {o1 : Option Value} {o2 : Option Value} (hS : MK S0 S s) : am_L (am_PP sc) N d 228 218 [some (.ref 39), o1, o2] [] S (fun o S1 => o = some none ∧ MK S0 S1 (k228_218 s).1) := by
  refine l2 (v := 39) hi_228_218 rfl ?_
  refine l0 hi_228_219 ?_
  refine l0 hi_228_220 ?_
  refine l0 hi_228_221 ?_
  refine l0 hi_228_222 ?_
  refine l32 (as := [.ref 39, .int 2, .int 0, .int 0, .int 0]) (la := [some (.ref 39), some (.int 2), some (.int 0), some (.int 0), some (.int 0)]) (rest := []) hi_228_223 (am_hd0 (M := 228) (by decide) 223) rfl rfl rfl (fun N' d' _ => lt179 (N := N') (d := d') hS) ?_ (fun _ q => nomatch q.1)
  rintro v3 S1 ⟨ev3, h2⟩
  cases ev3
  show am_L _ _ _ _ _ [some (.ref 39), o1, o2] [] _ _
  refine am_L.mono (lt228_226 h2) ?_
  rintro o S1 ⟨e, h⟩
  have q : k228_218 s = k228_226 ((k179 s 2 0 0 0).1) := rfl
  rw [q]; exact ⟨e, h⟩
noncomputable def k228_207 (s : kS) (z0 : Int32) : kS × Int32 := if z0 ≠ 0 then k228_218 ((k177 s 0).1) else (s, 0)
theorem lt228_207 {sc : Nat × (Nat → Int32)} {N d : Nat} {S0 S : am_S} {s : kS} {z0 : Int32} {o1 : Option Value} {o2 : Option Value} (hS : MK S0 S s) : am_L (am_PP sc) N d 228 207 [some (.ref 39), o1, o2] [.int z0] S (fun o S1 => o = some none ∧ MK S0 S1 (k228_207 s z0).1) := by
  by_cases c1 : z0 ≠ 0
  · refine l12t hi_228_207 (decide_eq_true c1) ?_
    refine l2 (v := 39) hi_228_213 rfl ?_
    refine l0 hi_228_214 ?_
    refine l32 (as := [.ref 39, .int 0]) (la := [some (.ref 39), some (.int 0)]) (rest := []) hi_228_215 (am_hd0 (M := 228) (by decide) 215) rfl rfl rfl (fun N' d' _ => lt177 (N := N') (d := d') hS) ?_ (fun _ q => nomatch q.1)
    rintro v4 S2 ⟨ev4, h3⟩
    cases ev4
    show am_L _ _ _ _ _ [some (.ref 39), o1, o2] [] _ _
    refine am_L.mono (lt228_218 h3) ?_
    rintro o S1 ⟨e, h⟩
    have q : k228_207 s z0 = k228_218 ((k177 s 0).1) := by unfold k228_207; rw [if_pos c1]
    rw [q]; exact ⟨e, h⟩
  · refine l12f hi_228_207 (decide_eq_false c1) ?_
    refine l18 hi_228_210 ?_
    refine l35 hi_228_422 ⟨rfl, ?_⟩
    unfold k228_207; rw [if_neg c1]; exact hS
noncomputable def k228_368 (s : kS) (y2 : Int32) (z0 : Int32) : kS × Int32 := if z0 = 0 then (s, 0) else ((k236 s y2).1, 0)
theorem lt228_368 {sc : Nat × (Nat → Int32)} {N d : Nat} {S0 S : am_S} {s : kS} {y2 : Int32} {z0 : Int32} {o1 : Option Value} (hS : MK S0 S s) : am_L (am_PP sc) N d 228 368 [some (.ref 39), o1, some (.int y2)] [.int z0] S (fun o S1 => o = some none ∧ MK S0 S1 (k228_368 s y2 z0).1) := by
  by_cases c1 : z0 = 0
  · refine l12t hi_228_368 (decide_eq_true c1) ?_
    refine l35 hi_228_422 ⟨rfl, ?_⟩
    unfold k228_368; rw [if_pos c1]; exact hS
  · refine l12f hi_228_368 (decide_eq_false c1) ?_
    refine l2 (v := 39) hi_228_371 rfl ?_
    refine l1 (v := y2) hi_228_372 rfl ?_
    refine l32 (as := [.ref 39, .int y2]) (la := [some (.ref 39), some (.int y2), none, none, none, none]) (rest := []) hi_228_373 (am_hd0 (M := 228) (by decide) 373) rfl rfl rfl (fun N' d' _ => lt236 (N := N') (d := d') hS) ?_ (fun _ q => nomatch q.1)
    rintro v4 S2 ⟨ev4, h3⟩
    cases ev4
    show am_L _ _ _ _ _ [some (.ref 39), o1, some (.int y2)] [] _ _
    refine l18 hi_228_376 ?_
    refine l35 hi_228_422 ⟨rfl, ?_⟩
    unfold k228_368; rw [if_neg c1]; exact h3
noncomputable def k228_187 (s : kS) (y2 : Int32) (z0 : Int32) : kS × Int32 := if z0 = 0 then (s, 0) else ((k234 s y2 (y2 + 1)).1, 0)
theorem lt228_187 {sc : Nat × (Nat → Int32)} {N d : Nat} {S0 S : am_S} {s : kS} {y2 : Int32} {z0 : Int32} {o1 : Option Value} (hS : MK S0 S s) : am_L (am_PP sc) N d 228 187 [some (.ref 39), o1, some (.int y2)] [.int z0] S (fun o S1 => o = some none ∧ MK S0 S1 (k228_187 s y2 z0).1) := by
  by_cases c1 : z0 = 0
  · refine l12t hi_228_187 (decide_eq_true c1) ?_
    refine l35 hi_228_422 ⟨rfl, ?_⟩
    unfold k228_187; rw [if_pos c1]; exact hS
  · refine l12f hi_228_187 (decide_eq_false c1) ?_
    refine l2 (v := 39) hi_228_190 rfl ?_
    refine l1 (v := y2) hi_228_191 rfl ?_
    refine l1 (v := y2) hi_228_192 rfl ?_
    refine l0 hi_228_193 ?_
    refine l10 hi_228_194 ?_
    show am_L _ _ _ _ _ [some (.ref 39), o1, some (.int y2)] [.int (y2 + 1), .int y2, .ref 39] _ _
    refine l32 (as := [.ref 39, .int y2, .int (y2 + 1)]) (la := [some (.ref 39), some (.int y2), some (.int (y2 + 1)), none, none]) (rest := []) hi_228_195 (am_hd0 (M := 228) (by decide) 195) rfl rfl rfl (fun N' d' _ => lt234 (N := N') (d := d') hS) ?_ (fun _ q => nomatch q.1)
    rintro v4 S2 ⟨ev4, h3⟩
    cases ev4
    show am_L _ _ _ _ _ [some (.ref 39), o1, some (.int y2)] [] _ _
    refine l18 hi_228_198 ?_
    refine l35 hi_228_422 ⟨rfl, ?_⟩
    unfold k228_187; rw [if_neg c1]; exact h3
noncomputable def k228_336 (s : kS) : kS × Int32 := ((k186 s 0).1, 0)
theorem lt228_336 {sc : Nat × (Nat → Int32)} {N d : Nat} {S0 S : am_S} {s : kS} {o1 : Option Value} {o2 : Option Value} (hS : MK S0 S s) : am_L (am_PP sc) N d 228 336 [some (.ref 39), o1, o2] [] S (fun o S1 => o = some none ∧ MK S0 S1 (k228_336 s).1) := by
  refine l2 (v := 39) hi_228_336 rfl ?_
  refine l0 hi_228_337 ?_
  refine l32 (as := [.ref 39, .int 0]) (la := [some (.ref 39), some (.int 0)]) (rest := []) hi_228_338 (am_hd0 (M := 228) (by decide) 338) rfl rfl rfl (fun N' d' _ => lt186 (N := N') (d := d') hS) ?_ (fun _ q => nomatch q.1)
  rintro v3 S1 ⟨ev3, h2⟩
  cases ev3
  show am_L _ _ _ _ _ [some (.ref 39), o1, o2] [] _ _
  refine l18 hi_228_341 ?_
  refine l35 hi_228_422 ⟨rfl, ?_⟩
  exact h2
noncomputable def k228_310 (s : kS) : kS × Int32 := ((k178 s).1, 0)
theorem lt228_310 {sc : Nat × (Nat → Int32)} {N d : Nat} {S0 S : am_S} {s : kS} {o1 : Option Value} {o2 : Option Value} (hS : MK S0 S s) : am_L (am_PP sc) N d 228 310 [some (.ref 39), o1, o2] [] S (fun o S1 => o = some none ∧ MK S0 S1 (k228_310 s).1) := by
  refine l2 (v := 39) hi_228_310 rfl ?_
  refine l32 (as := [.ref 39]) (la := [some (.ref 39)]) (rest := []) hi_228_311 (am_hd0 (M := 228) (by decide) 311) rfl rfl rfl (fun N' d' _ => lt178 (N := N') (d := d') hS) ?_ (fun _ q => nomatch q.1)
  rintro v3 S1 ⟨ev3, h2⟩
  cases ev3
  show am_L _ _ _ _ _ [some (.ref 39), o1, o2] [] _ _
  refine l18 hi_228_314 ?_
  refine l35 hi_228_422 ⟨rfl, ?_⟩
  exact h2
noncomputable def k228_304 (s : kS) (z0 : Int32) : kS × Int32 := k228_310 ((k177 s 1).1)
theorem lt228_304 {sc : Nat × (Nat → Int32)} {N d : Nat} {S0 S : am_S} {s : kS} {z0 : Int32} {o1 : Option Value} {o2 : Option Value} (hS : MK S0 S s) : am_L (am_PP sc) N d 228 304 [some (.ref 39), o1, o2] [.int z0] S (fun o S1 => o = some none ∧ MK S0 S1 (k228_304 s z0).1) := by
  refine l6i hi_228_304 ?_
  refine l2 (v := 39) hi_228_305 rfl ?_
  refine l0 hi_228_306 ?_
  refine l32 (as := [.ref 39, .int 1]) (la := [some (.ref 39), some (.int 1)]) (rest := []) hi_228_307 (am_hd0 (M := 228) (by decide) 307) rfl rfl rfl (fun N' d' _ => lt177 (N := N') (d := d') hS) ?_ (fun _ q => nomatch q.1)
  rintro v3 S1 ⟨ev3, h2⟩
  cases ev3
  show am_L _ _ _ _ _ [some (.ref 39), o1, o2] [] _ _
  refine am_L.mono (lt228_310 h2) ?_
  rintro o S1 ⟨e, h⟩
  have q : k228_304 s z0 = k228_310 ((k177 s 1).1) := rfl
  rw [q]; exact ⟨e, h⟩
noncomputable def k228_295 (s : kS) (y2 : Int32) : kS × Int32 := k228_304 ((k189 s 34 0 0 y2).1) ((k189 s 34 0 0 y2).2)
theorem lt228_295 {sc : Nat × (Nat → Int32)} {N d : Nat} {S0 S : am_S} {s : kS} {y2 : Int32} {o1 : Option Value} (hS : MK S0 S s) : am_L (am_PP sc) N d 228 295 [some (.ref 39), o1, some (.int y2)] [] S (fun o S1 => o = some none ∧ MK S0 S1 (k228_295 s y2).1) := by
  refine l2 (v := 39) hi_228_295 rfl ?_
  refine l0 hi_228_296 ?_
  refine l0 hi_228_298 ?_
  refine l0 hi_228_299 ?_
  refine l1 (v := y2) hi_228_300 rfl ?_
  refine l32 (as := [.ref 39, .int 34, .int 0, .int 0, .int y2]) (la := [some (.ref 39), some (.int 34), some (.int 0), some (.int 0), some (.int y2)]) (rest := []) hi_228_301 (am_hd0 (M := 228) (by decide) 301) rfl rfl rfl (fun N' d' _ => lt189 (N := N') (d := d') hS) ?_ (fun _ q => nomatch q.1)
  rintro v3 S1 ⟨ev3, h2⟩
  cases ev3
  show am_L _ _ _ _ _ [some (.ref 39), o1, some (.int y2)] [.int ((k189 s 34 0 0 y2).2)] _ _
  refine am_L.mono (lt228_304 h2) ?_
  rintro o S1 ⟨e, h⟩
  have q : k228_295 s y2 = k228_304 ((k189 s 34 0 0 y2).1) ((k189 s 34 0 0 y2).2) := rfl
  rw [q]; exact ⟨e, h⟩
noncomputable def k228_278 (s : kS) (y2 : Int32) (z0 : Int32) : kS × Int32 := if z0 ≠ 0 then k228_295 ((k179 s 5 (k210 s) 0 0).1) y2 else (s, 0)
theorem lt228_278 {sc : Nat × (Nat → Int32)} {N d : Nat} {S0 S : am_S} {s : kS} {y2 : Int32} {z0 : Int32} {o1 : Option Value} (hS : MK S0 S s) : am_L (am_PP sc) N d 228 278 [some (.ref 39), o1, some (.int y2)] [.int z0] S (fun o S1 => o = some none ∧ MK S0 S1 (k228_278 s y2 z0).1) := by
  by_cases c1 : z0 ≠ 0
  · refine l12t hi_228_278 (decide_eq_true c1) ?_
    refine l2 (v := 39) hi_228_284 rfl ?_
    refine l0 hi_228_285 ?_
    refine l2 (v := 39) hi_228_286 rfl ?_
    refine l32 (as := [.ref 39]) (la := [some (.ref 39)]) (rest := [.int 5, .ref 39]) hi_228_287 (am_hd0 (M := 228) (by decide) 287) rfl rfl rfl (fun N' d' _ => lt210 (N := N') (d := d') hS) ?_ (fun _ q => nomatch q.1)
    rintro v4 S2 ⟨ev4, h3⟩
    cases ev4
    show am_L _ _ _ _ _ [some (.ref 39), o1, some (.int y2)] [.int (k210 s), .int 5, .ref 39] _ _
    refine l0 hi_228_290 ?_
    refine l0 hi_228_291 ?_
    refine l32 (as := [.ref 39, .int 5, .int (k210 s), .int 0, .int 0]) (la := [some (.ref 39), some (.int 5), some (.int (k210 s)), some (.int 0), some (.int 0)]) (rest := []) hi_228_292 (am_hd0 (M := 228) (by decide) 292) rfl rfl rfl (fun N' d' _ => lt179 (N := N') (d := d') h3) ?_ (fun _ q => nomatch q.1)
    rintro v7 S5 ⟨ev7, h6⟩
    cases ev7
    show am_L _ _ _ _ _ [some (.ref 39), o1, some (.int y2)] [] _ _
    refine am_L.mono (lt228_295 h6) ?_
    rintro o S1 ⟨e, h⟩
    have q : k228_278 s y2 z0 = k228_295 ((k179 s 5 (k210 s) 0 0).1) y2 := by unfold k228_278; rw [if_pos c1]
    rw [q]; exact ⟨e, h⟩
  · refine l12f hi_228_278 (decide_eq_false c1) ?_
    refine l18 hi_228_281 ?_
    refine l35 hi_228_422 ⟨rfl, ?_⟩
    unfold k228_278; rw [if_neg c1]; exact hS
noncomputable def k228_263 (s : kS) (z0 : Int32) : kS × Int32 := ((k186 s 0).1, 0)
theorem lt228_263 {sc : Nat × (Nat → Int32)} {N d : Nat} {S0 S : am_S} {s : kS} {z0 : Int32} {o1 : Option Value} {o2 : Option Value} (hS : MK S0 S s) : am_L (am_PP sc) N d 228 263 [some (.ref 39), o1, o2] [.int z0] S (fun o S1 => o = some none ∧ MK S0 S1 (k228_263 s z0).1) := by
  refine l6i hi_228_263 ?_
  refine l2 (v := 39) hi_228_264 rfl ?_
  refine l0 hi_228_265 ?_
  refine l32 (as := [.ref 39, .int 0]) (la := [some (.ref 39), some (.int 0)]) (rest := []) hi_228_266 (am_hd0 (M := 228) (by decide) 266) rfl rfl rfl (fun N' d' _ => lt186 (N := N') (d := d') hS) ?_ (fun _ q => nomatch q.1)
  rintro v3 S1 ⟨ev3, h2⟩
  cases ev3
  show am_L _ _ _ _ _ [some (.ref 39), o1, o2] [] _ _
  refine l18 hi_228_269 ?_
  refine l35 hi_228_422 ⟨rfl, ?_⟩
  exact h2
noncomputable def k228_254 (s : kS) (y2 : Int32) : kS × Int32 := k228_263 ((k189 s 34 0 0 y2).1) ((k189 s 34 0 0 y2).2)
theorem lt228_254 {sc : Nat × (Nat → Int32)} {N d : Nat} {S0 S : am_S} {s : kS} {y2 : Int32} {o1 : Option Value} (hS : MK S0 S s) : am_L (am_PP sc) N d 228 254 [some (.ref 39), o1, some (.int y2)] [] S (fun o S1 => o = some none ∧ MK S0 S1 (k228_254 s y2).1) := by
  refine l2 (v := 39) hi_228_254 rfl ?_
  refine l0 hi_228_255 ?_
  refine l0 hi_228_257 ?_
  refine l0 hi_228_258 ?_
  refine l1 (v := y2) hi_228_259 rfl ?_
  refine l32 (as := [.ref 39, .int 34, .int 0, .int 0, .int y2]) (la := [some (.ref 39), some (.int 34), some (.int 0), some (.int 0), some (.int y2)]) (rest := []) hi_228_260 (am_hd0 (M := 228) (by decide) 260) rfl rfl rfl (fun N' d' _ => lt189 (N := N') (d := d') hS) ?_ (fun _ q => nomatch q.1)
  rintro v3 S1 ⟨ev3, h2⟩
  cases ev3
  show am_L _ _ _ _ _ [some (.ref 39), o1, some (.int y2)] [.int ((k189 s 34 0 0 y2).2)] _ _
  refine am_L.mono (lt228_263 h2) ?_
  rintro o S1 ⟨e, h⟩
  have q : k228_254 s y2 = k228_263 ((k189 s 34 0 0 y2).1) ((k189 s 34 0 0 y2).2) := rfl
  rw [q]; exact ⟨e, h⟩
noncomputable def k228_141 (s : kS) (y2 : Int32) (z0 : Int32) : kS × Int32 := if z0 = 0 then (s, 0) else ((k229 s (y2 + 1)).1, 0)
theorem lt228_141 {sc : Nat × (Nat → Int32)} {N d : Nat} {S0 S : am_S} {s : kS} {y2 : Int32} {z0 : Int32} {o1 : Option Value} (hS : MK S0 S s) : am_L (am_PP sc) N d 228 141 [some (.ref 39), o1, some (.int y2)] [.int z0] S (fun o S1 => o = some none ∧ MK S0 S1 (k228_141 s y2 z0).1) := by
  by_cases c1 : z0 = 0
  · refine l12t hi_228_141 (decide_eq_true c1) ?_
    refine l35 hi_228_422 ⟨rfl, ?_⟩
    unfold k228_141; rw [if_pos c1]; exact hS
  · refine l12f hi_228_141 (decide_eq_false c1) ?_
    refine l2 (v := 39) hi_228_144 rfl ?_
    refine l1 (v := y2) hi_228_145 rfl ?_
    refine l0 hi_228_146 ?_
    refine l10 hi_228_147 ?_
    show am_L _ _ _ _ _ [some (.ref 39), o1, some (.int y2)] [.int (y2 + 1), .ref 39] _ _
    refine l32 (as := [.ref 39, .int (y2 + 1)]) (la := [some (.ref 39), some (.int (y2 + 1)), none, none, none, none]) (rest := []) hi_228_148 (am_hd0 (M := 228) (by decide) 148) rfl rfl rfl (fun N' d' _ => lt229 (N := N') (d := d') hS) ?_ (fun _ q => nomatch q.1)
    rintro v4 S2 ⟨ev4, h3⟩
    cases ev4
    show am_L _ _ _ _ _ [some (.ref 39), o1, some (.int y2)] [] _ _
    refine l18 hi_228_151 ?_
    refine l35 hi_228_422 ⟨rfl, ?_⟩
    unfold k228_141; rw [if_neg c1]; exact h3
noncomputable def k228_132 (s : kS) (y2 : Int32) (z0 : Int32) : kS × Int32 := if z0 = 0 then (s, 0) else k228_141 ((k200 s 66).1) y2 ((k200 s 66).2)
theorem lt228_132 {sc : Nat × (Nat → Int32)} {N d : Nat} {S0 S : am_S} {s : kS} {y2 : Int32} {z0 : Int32} {o1 : Option Value} (hS : MK S0 S s) : am_L (am_PP sc) N d 228 132 [some (.ref 39), o1, some (.int y2)] [.int z0] S (fun o S1 => o = some none ∧ MK S0 S1 (k228_132 s y2 z0).1) := by
  by_cases c1 : z0 = 0
  · refine l12t hi_228_132 (decide_eq_true c1) ?_
    refine l35 hi_228_422 ⟨rfl, ?_⟩
    unfold k228_132; rw [if_pos c1]; exact hS
  · refine l12f hi_228_132 (decide_eq_false c1) ?_
    refine l2 (v := 39) hi_228_135 rfl ?_
    refine l0 hi_228_136 ?_
    refine l32 (as := [.ref 39, .int 66]) (la := [some (.ref 39), some (.int 66)]) (rest := []) hi_228_138 (am_hd0 (M := 228) (by decide) 138) rfl rfl rfl (fun N' d' _ => lt200 (N := N') (d := d') hS) ?_ (fun _ q => nomatch q.1)
    rintro v4 S2 ⟨ev4, h3⟩
    cases ev4
    show am_L _ _ _ _ _ [some (.ref 39), o1, some (.int y2)] [.int ((k200 s 66).2)] _ _
    refine am_L.mono (lt228_141 h3) ?_
    rintro o S1 ⟨e, h⟩
    have q : k228_132 s y2 z0 = k228_141 ((k200 s 66).1) y2 ((k200 s 66).2) := by unfold k228_132; rw [if_neg c1]
    rw [q]; exact ⟨e, h⟩
noncomputable def k228_409 (s : kS) : kS × Int32 := ((k201 ((k179 s 28 0 0 0).1)).1, 0)
theorem lt228_409 {sc : Nat × (Nat → Int32)} {N d : Nat} {S0 S : am_S} {s : kS} {o1 : Option Value} {o2 : Option Value} (hS : MK S0 S s) : am_L (am_PP sc) N d 228 409 [some (.ref 39), o1, o2] [] S (fun o S1 => o = some none ∧ MK S0 S1 (k228_409 s).1) := by
  refine l2 (v := 39) hi_228_409 rfl ?_
  refine l0 hi_228_410 ?_
  refine l0 hi_228_412 ?_
  refine l0 hi_228_413 ?_
  refine l0 hi_228_414 ?_
  refine l32 (as := [.ref 39, .int 28, .int 0, .int 0, .int 0]) (la := [some (.ref 39), some (.int 28), some (.int 0), some (.int 0), some (.int 0)]) (rest := []) hi_228_415 (am_hd0 (M := 228) (by decide) 415) rfl rfl rfl (fun N' d' _ => lt179 (N := N') (d := d') hS) ?_ (fun _ q => nomatch q.1)
  rintro v3 S1 ⟨ev3, h2⟩
  cases ev3
  show am_L _ _ _ _ _ [some (.ref 39), o1, o2] [] _ _
  refine l2 (v := 39) hi_228_418 rfl ?_
  refine l32 (as := [.ref 39]) (la := [some (.ref 39)]) (rest := []) hi_228_419 (am_hd0 (M := 228) (by decide) 419) rfl rfl rfl (fun N' d' _ => lt201 (N := N') (d := d') h2) ?_ (fun _ q => nomatch q.1)
  rintro v6 S4 ⟨ev6, h5⟩
  cases ev6
  show am_L _ _ _ _ _ [some (.ref 39), o1, o2] [] _ _
  refine l35 hi_228_422 ⟨rfl, ?_⟩
  exact h5
/-- statement(I)V -/
noncomputable def k228 (s : kS) (x1 : Int32) : kS × Int32 := if x1 = 11 then ((k233 (kf s 4 ((s.1 4) + 1)) (s.1 4)).1, 0) else if x1 = 12 then (k228_207 ((k193 s 12).1) ((k193 s 12).2)) else if x1 = 17 then ((k235 (kf s 4 ((s.1 4) + 1)) (s.1 4)).1, 0) else if x1 = 18 then (k228_368 ((k193 s 18).1) (s.1 4) ((k193 s 18).2)) else if x1 = 19 then (k228_187 ((k200 (kf s 4 ((s.1 4) + 1)) 1).1) (s.1 4) ((k200 (kf s 4 ((s.1 4) + 1)) 1).2)) else if x1 = 20 then (k228_336 ((k179 (kf s 4 ((s.1 4) + 1)) 7 0 0 0).1)) else if x1 = 22 then ((k238 (kf s 4 ((s.1 4) + 1)) (s.1 4)).1, 0) else if x1 = 26 then (k228_278 ((k193 s 26).1) (s.1 4) ((k193 s 26).2)) else if x1 = 31 then (k228_254 ((k179 (kf s 4 ((s.1 4) + 1)) 3 (k210 (kf s 4 ((s.1 4) + 1))) 0 0).1) (s.1 4)) else if x1 = 66 then (k228_132 ((k200 (kf s 4 ((s.1 4) + 1)) 1).1) (s.1 4) ((k200 (kf s 4 ((s.1 4) + 1)) 1).2)) else if x1 = 67 then (kf s 4 ((s.1 4) + 1), 0) else k228_409 ((k179 s 21 0 (s.1 20) 0).1)
theorem lt228 {sc : Nat × (Nat → Int32)} {N d : Nat} {S0 S : am_S} {s : kS} {x1 : Int32} (hS : MK S0 S s) : am_L (am_PP sc) N d 228 0 [some (.ref 39), some (.int x1), none] [] S (fun o S1 => o = some none ∧ MK S0 S1 (k228 s x1).1) := by
  refine l2 (v := 39) hi_228_0 rfl ?_
  refine l20 (v := .int (s.1 4)) hS hi_228_1 rfl ?_
  refine l3 (ls' := [some (.ref 39), some (.int x1), some (.int (s.1 4))]) hi_228_4 (Nat.le_of_ble_eq_true rfl) rfl ?_
  refine l1 (v := x1) hi_228_5 rfl ?_
  by_cases c1 : x1 = 11
  · refine l19 (t := 154) hi_228_6 (by rw [c1]; decide) ?_
    refine l2 (v := 39) hi_228_154 rfl ?_
    refine l7 hi_228_155 ?_
    refine l20 (v := .int (s.1 4)) hS hi_228_156 rfl ?_
    refine l0 hi_228_159 ?_
    refine l10 hi_228_160 ?_
    show am_L _ _ _ _ _ [some (.ref 39), some (.int x1), some (.int (s.1 4))] [.int ((s.1 4) + 1), .ref 39] _ _
    refine l21 hS hi_228_161 ms_4 fun S2 h3 => ?_
    refine l2 (v := 39) hi_228_164 rfl ?_
    refine l1 (v := s.1 4) hi_228_165 rfl ?_
    refine l32 (as := [.ref 39, .int (s.1 4)]) (la := [some (.ref 39), some (.int (s.1 4)), none]) (rest := []) hi_228_166 (am_hd0 (M := 228) (by decide) 166) rfl rfl rfl (fun N' d' _ => lt233 (N := N') (d := d') h3) ?_ (fun _ q => nomatch q.1)
    rintro v6 S4 ⟨ev6, h5⟩
    cases ev6
    show am_L _ _ _ _ _ [some (.ref 39), some (.int x1), some (.int (s.1 4))] [] _ _
    refine l18 hi_228_169 ?_
    refine l35 hi_228_422 ⟨rfl, ?_⟩
    unfold k228; rw [if_pos c1]; exact h5
  by_cases c7 : x1 = 12
  · refine l19 (t := 201) hi_228_6 (by rw [c7]; decide) ?_
    refine l2 (v := 39) hi_228_201 rfl ?_
    refine l0 hi_228_202 ?_
    refine l32 (as := [.ref 39, .int 12]) (la := [some (.ref 39), some (.int 12)]) (rest := []) hi_228_204 (am_hd0 (M := 228) (by decide) 204) rfl rfl rfl (fun N' d' _ => lt193 (N := N') (d := d') hS) ?_ (fun _ q => nomatch q.1)
    rintro v10 S8 ⟨ev10, h9⟩
    cases ev10
    show am_L _ _ _ _ _ [some (.ref 39), some (.int x1), some (.int (s.1 4))] [.int ((k193 s 12).2)] _ _
    refine am_L.mono (lt228_207 h9) ?_
    rintro o S1 ⟨e, h⟩
    have q : k228 s x1 = k228_207 ((k193 s 12).1) ((k193 s 12).2) := by unfold k228; rw [if_neg c1]; rw [if_pos c7]
    rw [q]; exact ⟨e, h⟩
  by_cases c11 : x1 = 17
  · refine l19 (t := 344) hi_228_6 (by rw [c11]; decide) ?_
    refine l2 (v := 39) hi_228_344 rfl ?_
    refine l7 hi_228_345 ?_
    refine l20 (v := .int (s.1 4)) hS hi_228_346 rfl ?_
    refine l0 hi_228_349 ?_
    refine l10 hi_228_350 ?_
    show am_L _ _ _ _ _ [some (.ref 39), some (.int x1), some (.int (s.1 4))] [.int ((s.1 4) + 1), .ref 39] _ _
    refine l21 hS hi_228_351 ms_4 fun S12 h13 => ?_
    refine l2 (v := 39) hi_228_354 rfl ?_
    refine l1 (v := s.1 4) hi_228_355 rfl ?_
    refine l32 (as := [.ref 39, .int (s.1 4)]) (la := [some (.ref 39), some (.int (s.1 4)), none, none]) (rest := []) hi_228_356 (am_hd0 (M := 228) (by decide) 356) rfl rfl rfl (fun N' d' _ => lt235 (N := N') (d := d') h13) ?_ (fun _ q => nomatch q.1)
    rintro v16 S14 ⟨ev16, h15⟩
    cases ev16
    show am_L _ _ _ _ _ [some (.ref 39), some (.int x1), some (.int (s.1 4))] [] _ _
    refine l18 hi_228_359 ?_
    refine l35 hi_228_422 ⟨rfl, ?_⟩
    unfold k228; rw [if_neg c1]; rw [if_neg c7]; rw [if_pos c11]; exact h15
  by_cases c17 : x1 = 18
  · refine l19 (t := 362) hi_228_6 (by rw [c17]; decide) ?_
    refine l2 (v := 39) hi_228_362 rfl ?_
    refine l0 hi_228_363 ?_
    refine l32 (as := [.ref 39, .int 18]) (la := [some (.ref 39), some (.int 18)]) (rest := []) hi_228_365 (am_hd0 (M := 228) (by decide) 365) rfl rfl rfl (fun N' d' _ => lt193 (N := N') (d := d') hS) ?_ (fun _ q => nomatch q.1)
    rintro v20 S18 ⟨ev20, h19⟩
    cases ev20
    show am_L _ _ _ _ _ [some (.ref 39), some (.int x1), some (.int (s.1 4))] [.int ((k193 s 18).2)] _ _
    refine am_L.mono (lt228_368 h19) ?_
    rintro o S1 ⟨e, h⟩
    have q : k228 s x1 = k228_368 ((k193 s 18).1) (s.1 4) ((k193 s 18).2) := by unfold k228; rw [if_neg c1]; rw [if_neg c7]; rw [if_neg c11]; rw [if_pos c17]
    rw [q]; exact ⟨e, h⟩
  by_cases c21 : x1 = 19
  · refine l19 (t := 172) hi_228_6 (by rw [c21]; decide) ?_
    refine l2 (v := 39) hi_228_172 rfl ?_
    refine l7 hi_228_173 ?_
    refine l20 (v := .int (s.1 4)) hS hi_228_174 rfl ?_
    refine l0 hi_228_177 ?_
    refine l10 hi_228_178 ?_
    show am_L _ _ _ _ _ [some (.ref 39), some (.int x1), some (.int (s.1 4))] [.int ((s.1 4) + 1), .ref 39] _ _
    refine l21 hS hi_228_179 ms_4 fun S22 h23 => ?_
    refine l2 (v := 39) hi_228_182 rfl ?_
    refine l0 hi_228_183 ?_
    refine l32 (as := [.ref 39, .int 1]) (la := [some (.ref 39), some (.int 1)]) (rest := []) hi_228_184 (am_hd0 (M := 228) (by decide) 184) rfl rfl rfl (fun N' d' _ => lt200 (N := N') (d := d') h23) ?_ (fun _ q => nomatch q.1)
    rintro v26 S24 ⟨ev26, h25⟩
    cases ev26
    show am_L _ _ _ _ _ [some (.ref 39), some (.int x1), some (.int (s.1 4))] [.int ((k200 (kf s 4 ((s.1 4) + 1)) 1).2)] _ _
    refine am_L.mono (lt228_187 h25) ?_
    rintro o S1 ⟨e, h⟩
    have q : k228 s x1 = k228_187 ((k200 (kf s 4 ((s.1 4) + 1)) 1).1) (s.1 4) ((k200 (kf s 4 ((s.1 4) + 1)) 1).2) := by unfold k228; rw [if_neg c1]; rw [if_neg c7]; rw [if_neg c11]; rw [if_neg c17]; rw [if_pos c21]
    rw [q]; exact ⟨e, h⟩
  by_cases c27 : x1 = 20
  · refine l19 (t := 317) hi_228_6 (by rw [c27]; decide) ?_
    refine l2 (v := 39) hi_228_317 rfl ?_
    refine l7 hi_228_318 ?_
    refine l20 (v := .int (s.1 4)) hS hi_228_319 rfl ?_
    refine l0 hi_228_322 ?_
    refine l10 hi_228_323 ?_
    show am_L _ _ _ _ _ [some (.ref 39), some (.int x1), some (.int (s.1 4))] [.int ((s.1 4) + 1), .ref 39] _ _
    refine l21 hS hi_228_324 ms_4 fun S28 h29 => ?_
    refine l2 (v := 39) hi_228_327 rfl ?_
    refine l0 hi_228_328 ?_
    refine l0 hi_228_330 ?_
    refine l0 hi_228_331 ?_
    refine l0 hi_228_332 ?_
    refine l32 (as := [.ref 39, .int 7, .int 0, .int 0, .int 0]) (la := [some (.ref 39), some (.int 7), some (.int 0), some (.int 0), some (.int 0)]) (rest := []) hi_228_333 (am_hd0 (M := 228) (by decide) 333) rfl rfl rfl (fun N' d' _ => lt179 (N := N') (d := d') h29) ?_ (fun _ q => nomatch q.1)
    rintro v32 S30 ⟨ev32, h31⟩
    cases ev32
    show am_L _ _ _ _ _ [some (.ref 39), some (.int x1), some (.int (s.1 4))] [] _ _
    refine am_L.mono (lt228_336 h31) ?_
    rintro o S1 ⟨e, h⟩
    have q : k228 s x1 = k228_336 ((k179 (kf s 4 ((s.1 4) + 1)) 7 0 0 0).1) := by unfold k228; rw [if_neg c1]; rw [if_neg c7]; rw [if_neg c11]; rw [if_neg c17]; rw [if_neg c21]; rw [if_pos c27]
    rw [q]; exact ⟨e, h⟩
  by_cases c33 : x1 = 22
  · refine l19 (t := 379) hi_228_6 (by rw [c33]; decide) ?_
    refine l2 (v := 39) hi_228_379 rfl ?_
    refine l7 hi_228_380 ?_
    refine l20 (v := .int (s.1 4)) hS hi_228_381 rfl ?_
    refine l0 hi_228_384 ?_
    refine l10 hi_228_385 ?_
    show am_L _ _ _ _ _ [some (.ref 39), some (.int x1), some (.int (s.1 4))] [.int ((s.1 4) + 1), .ref 39] _ _
    refine l21 hS hi_228_386 ms_4 fun S34 h35 => ?_
    refine l2 (v := 39) hi_228_389 rfl ?_
    refine l1 (v := s.1 4) hi_228_390 rfl ?_
    refine l32 (as := [.ref 39, .int (s.1 4)]) (la := [some (.ref 39), some (.int (s.1 4)), none, none, none, none, none, none]) (rest := []) hi_228_391 (am_hd0 (M := 228) (by decide) 391) rfl rfl rfl (fun N' d' _ => lt238 (N := N') (d := d') h35) ?_ (fun _ q => nomatch q.1)
    rintro v38 S36 ⟨ev38, h37⟩
    cases ev38
    show am_L _ _ _ _ _ [some (.ref 39), some (.int x1), some (.int (s.1 4))] [] _ _
    refine l18 hi_228_394 ?_
    refine l35 hi_228_422 ⟨rfl, ?_⟩
    unfold k228; rw [if_neg c1]; rw [if_neg c7]; rw [if_neg c11]; rw [if_neg c17]; rw [if_neg c21]; rw [if_neg c27]; rw [if_pos c33]; exact h37
  by_cases c39 : x1 = 26
  · refine l19 (t := 272) hi_228_6 (by rw [c39]; decide) ?_
    refine l2 (v := 39) hi_228_272 rfl ?_
    refine l0 hi_228_273 ?_
    refine l32 (as := [.ref 39, .int 26]) (la := [some (.ref 39), some (.int 26)]) (rest := []) hi_228_275 (am_hd0 (M := 228) (by decide) 275) rfl rfl rfl (fun N' d' _ => lt193 (N := N') (d := d') hS) ?_ (fun _ q => nomatch q.1)
    rintro v42 S40 ⟨ev42, h41⟩
    cases ev42
    show am_L _ _ _ _ _ [some (.ref 39), some (.int x1), some (.int (s.1 4))] [.int ((k193 s 26).2)] _ _
    refine am_L.mono (lt228_278 h41) ?_
    rintro o S1 ⟨e, h⟩
    have q : k228 s x1 = k228_278 ((k193 s 26).1) (s.1 4) ((k193 s 26).2) := by unfold k228; rw [if_neg c1]; rw [if_neg c7]; rw [if_neg c11]; rw [if_neg c17]; rw [if_neg c21]; rw [if_neg c27]; rw [if_neg c33]; rw [if_pos c39]
    rw [q]; exact ⟨e, h⟩
  by_cases c43 : x1 = 31
  · refine l19 (t := 233) hi_228_6 (by rw [c43]; decide) ?_
    refine l2 (v := 39) hi_228_233 rfl ?_
    refine l7 hi_228_234 ?_
    refine l20 (v := .int (s.1 4)) hS hi_228_235 rfl ?_
    refine l0 hi_228_238 ?_
    refine l10 hi_228_239 ?_
    show am_L _ _ _ _ _ [some (.ref 39), some (.int x1), some (.int (s.1 4))] [.int ((s.1 4) + 1), .ref 39] _ _
    refine l21 hS hi_228_240 ms_4 fun S44 h45 => ?_
    refine l2 (v := 39) hi_228_243 rfl ?_
    refine l0 hi_228_244 ?_
    refine l2 (v := 39) hi_228_245 rfl ?_
    refine l32 (as := [.ref 39]) (la := [some (.ref 39)]) (rest := [.int 3, .ref 39]) hi_228_246 (am_hd0 (M := 228) (by decide) 246) rfl rfl rfl (fun N' d' _ => lt210 (N := N') (d := d') h45) ?_ (fun _ q => nomatch q.1)
    rintro v48 S46 ⟨ev48, h47⟩
    cases ev48
    show am_L _ _ _ _ _ [some (.ref 39), some (.int x1), some (.int (s.1 4))] [.int (k210 (kf s 4 ((s.1 4) + 1))), .int 3, .ref 39] _ _
    refine l0 hi_228_249 ?_
    refine l0 hi_228_250 ?_
    refine l32 (as := [.ref 39, .int 3, .int (k210 (kf s 4 ((s.1 4) + 1))), .int 0, .int 0]) (la := [some (.ref 39), some (.int 3), some (.int (k210 (kf s 4 ((s.1 4) + 1)))), some (.int 0), some (.int 0)]) (rest := []) hi_228_251 (am_hd0 (M := 228) (by decide) 251) rfl rfl rfl (fun N' d' _ => lt179 (N := N') (d := d') h47) ?_ (fun _ q => nomatch q.1)
    rintro v51 S49 ⟨ev51, h50⟩
    cases ev51
    show am_L _ _ _ _ _ [some (.ref 39), some (.int x1), some (.int (s.1 4))] [] _ _
    refine am_L.mono (lt228_254 h50) ?_
    rintro o S1 ⟨e, h⟩
    have q : k228 s x1 = k228_254 ((k179 (kf s 4 ((s.1 4) + 1)) 3 (k210 (kf s 4 ((s.1 4) + 1))) 0 0).1) (s.1 4) := by unfold k228; rw [if_neg c1]; rw [if_neg c7]; rw [if_neg c11]; rw [if_neg c17]; rw [if_neg c21]; rw [if_neg c27]; rw [if_neg c33]; rw [if_neg c39]; rw [if_pos c43]
    rw [q]; exact ⟨e, h⟩
  by_cases c52 : x1 = 66
  · refine l19 (t := 117) hi_228_6 (by rw [c52]; decide) ?_
    refine l2 (v := 39) hi_228_117 rfl ?_
    refine l7 hi_228_118 ?_
    refine l20 (v := .int (s.1 4)) hS hi_228_119 rfl ?_
    refine l0 hi_228_122 ?_
    refine l10 hi_228_123 ?_
    show am_L _ _ _ _ _ [some (.ref 39), some (.int x1), some (.int (s.1 4))] [.int ((s.1 4) + 1), .ref 39] _ _
    refine l21 hS hi_228_124 ms_4 fun S53 h54 => ?_
    refine l2 (v := 39) hi_228_127 rfl ?_
    refine l0 hi_228_128 ?_
    refine l32 (as := [.ref 39, .int 1]) (la := [some (.ref 39), some (.int 1)]) (rest := []) hi_228_129 (am_hd0 (M := 228) (by decide) 129) rfl rfl rfl (fun N' d' _ => lt200 (N := N') (d := d') h54) ?_ (fun _ q => nomatch q.1)
    rintro v57 S55 ⟨ev57, h56⟩
    cases ev57
    show am_L _ _ _ _ _ [some (.ref 39), some (.int x1), some (.int (s.1 4))] [.int ((k200 (kf s 4 ((s.1 4) + 1)) 1).2)] _ _
    refine am_L.mono (lt228_132 h56) ?_
    rintro o S1 ⟨e, h⟩
    have q : k228 s x1 = k228_132 ((k200 (kf s 4 ((s.1 4) + 1)) 1).1) (s.1 4) ((k200 (kf s 4 ((s.1 4) + 1)) 1).2) := by unfold k228; rw [if_neg c1]; rw [if_neg c7]; rw [if_neg c11]; rw [if_neg c17]; rw [if_neg c21]; rw [if_neg c27]; rw [if_neg c33]; rw [if_neg c39]; rw [if_neg c43]; rw [if_pos c52]
    rw [q]; exact ⟨e, h⟩
  by_cases c58 : x1 = 67
  · refine l19 (t := 104) hi_228_6 (by rw [c58]; decide) ?_
    refine l2 (v := 39) hi_228_104 rfl ?_
    refine l7 hi_228_105 ?_
    refine l20 (v := .int (s.1 4)) hS hi_228_106 rfl ?_
    refine l0 hi_228_109 ?_
    refine l10 hi_228_110 ?_
    show am_L _ _ _ _ _ [some (.ref 39), some (.int x1), some (.int (s.1 4))] [.int ((s.1 4) + 1), .ref 39] _ _
    refine l21 hS hi_228_111 ms_4 fun S59 h60 => ?_
    refine l18 hi_228_114 ?_
    refine l35 hi_228_422 ⟨rfl, ?_⟩
    unfold k228; rw [if_neg c1]; rw [if_neg c7]; rw [if_neg c11]; rw [if_neg c17]; rw [if_neg c21]; rw [if_neg c27]; rw [if_neg c33]; rw [if_neg c39]; rw [if_neg c43]; rw [if_neg c52]; rw [if_pos c58]; exact h60
  refine l19 (t := 397) hi_228_6 (sw_not (ks := [11, 12, 17, 18, 19, 20, 22, 26, 31, 66, 67]) (by decide) (by intro k hk; simp only [List.mem_cons, List.not_mem_nil, or_false] at hk; rcases hk with rfl | rfl | rfl | rfl | rfl | rfl | rfl | rfl | rfl | rfl | rfl <;> first | exact c1 | exact c7 | exact c11 | exact c17 | exact c21 | exact c27 | exact c33 | exact c39 | exact c43 | exact c52 | exact c58)) ?_
  refine l2 (v := 39) hi_228_397 rfl ?_
  refine l0 hi_228_398 ?_
  refine l0 hi_228_400 ?_
  refine l2 (v := 39) hi_228_401 rfl ?_
  refine l20 (v := .int (s.1 20)) hS hi_228_402 rfl ?_
  refine l0 hi_228_405 ?_
  refine l32 (as := [.ref 39, .int 21, .int 0, .int (s.1 20), .int 0]) (la := [some (.ref 39), some (.int 21), some (.int 0), some (.int (s.1 20)), some (.int 0)]) (rest := []) hi_228_406 (am_hd0 (M := 228) (by decide) 406) rfl rfl rfl (fun N' d' _ => lt179 (N := N') (d := d') hS) ?_ (fun _ q => nomatch q.1)
  rintro v63 S61 ⟨ev63, h62⟩
  cases ev63
  show am_L _ _ _ _ _ [some (.ref 39), some (.int x1), some (.int (s.1 4))] [] _ _
  refine am_L.mono (lt228_409 h62) ?_
  rintro o S1 ⟨e, h⟩
  have q : k228 s x1 = k228_409 ((k179 s 21 0 (s.1 20) 0).1) := by unfold k228; rw [if_neg c1]; rw [if_neg c7]; rw [if_neg c11]; rw [if_neg c17]; rw [if_neg c21]; rw [if_neg c27]; rw [if_neg c33]; rw [if_neg c39]; rw [if_neg c43]; rw [if_neg c52]; rw [if_neg c58]
  rw [q]; exact ⟨e, h⟩
noncomputable def k225_28 (s : kS) (y1 : Int32) : kS × Int32 := ((k228 s y1).1, 0)
theorem lt225_28 {sc : Nat × (Nat → Int32)} {N d : Nat} {S0 S : am_S} {s : kS} {y1 : Int32} (hS : MK S0 S s) : am_L (am_PP sc) N d 225 28 [some (.ref 39), some (.int y1)] [] S (fun o S1 => o = some none ∧ MK S0 S1 (k225_28 s y1).1) := by
  refine l2 (v := 39) hi_225_28 rfl ?_
  refine l1 (v := y1) hi_225_29 rfl ?_
  refine l32 (as := [.ref 39, .int y1]) (la := [some (.ref 39), some (.int y1), none]) (rest := []) hi_225_30 (am_hd0 (M := 225) (by decide) 30) rfl rfl rfl (fun N' d' _ => lt228 (N := N') (d := d') hS) ?_ (fun _ q => nomatch q.1)
  rintro v3 S1 ⟨ev3, h2⟩
  cases ev3
  show am_L _ _ _ _ _ [some (.ref 39), some (.int y1)] [] _ _
  refine l35 hi_225_33 ⟨rfl, ?_⟩
  exact h2
/-- statements()V -/
noncomputable def k225 (s : kS) : kS × Int32 := if (k226 s (k183 s)) = 0 then if (k183 s) ≠ 27 then k225_28 ((k178 s).1) (k183 s) else ((k227 s).1, 0) else (s, 0)
theorem lt225 {sc : Nat × (Nat → Int32)} {N d : Nat} {S0 S : am_S} {s : kS} (hS : MK S0 S s) : am_L (am_PP sc) N d 225 0 [some (.ref 39), none] [] S (fun o S1 => o = some none ∧ MK S0 S1 (k225 s).1) := by
  refine l2 (v := 39) hi_225_0 rfl ?_
  refine l32 (as := [.ref 39]) (la := [some (.ref 39)]) (rest := []) hi_225_1 (am_hd0 (M := 225) (by decide) 1) rfl rfl rfl (fun N' d' _ => lt183 (N := N') (d := d') hS) ?_ (fun _ q => nomatch q.1)
  rintro v3 S1 ⟨ev3, h2⟩
  cases ev3
  show am_L _ _ _ _ _ [some (.ref 39), none] [.int (k183 s)] _ _
  refine l3 (ls' := [some (.ref 39), some (.int (k183 s))]) hi_225_4 (Nat.le_of_ble_eq_true rfl) rfl ?_
  refine l1 (v := k183 s) hi_225_5 rfl ?_
  refine l32 (as := [.int (k183 s)]) (la := [some (.int (k183 s))]) (rest := []) hi_225_6 (am_hd0 (M := 225) (by decide) 6) rfl rfl rfl (fun N' d' _ => lt226 (N := N') (d := d') h2) ?_ (fun _ q => nomatch q.1)
  rintro v6 S4 ⟨ev6, h5⟩
  cases ev6
  show am_L _ _ _ _ _ [some (.ref 39), some (.int (k183 s))] [.int (k226 s (k183 s))] _ _
  by_cases c7 : (k226 s (k183 s)) = 0
  · refine l12t hi_225_9 (decide_eq_true c7) ?_
    refine l1 (v := k183 s) hi_225_13 rfl ?_
    refine l0 hi_225_14 ?_
    by_cases c8 : (k183 s) ≠ 27
    · refine l13t hi_225_16 (decide_eq_true c8) ?_
      refine l2 (v := 39) hi_225_24 rfl ?_
      refine l32 (as := [.ref 39]) (la := [some (.ref 39)]) (rest := []) hi_225_25 (am_hd0 (M := 225) (by decide) 25) rfl rfl rfl (fun N' d' _ => lt178 (N := N') (d := d') h5) ?_ (fun _ q => nomatch q.1)
      rintro v11 S9 ⟨ev11, h10⟩
      cases ev11
      show am_L _ _ _ _ _ [some (.ref 39), some (.int (k183 s))] [] _ _
      refine am_L.mono (lt225_28 h10) ?_
      rintro o S1 ⟨e, h⟩
      have q : k225 s = k225_28 ((k178 s).1) (k183 s) := by unfold k225; rw [if_pos c7]; rw [if_pos c8]
      rw [q]; exact ⟨e, h⟩
    · refine l13f hi_225_16 (decide_eq_false c8) ?_
      refine l2 (v := 39) hi_225_19 rfl ?_
      refine l32 (as := [.ref 39]) (la := [some (.ref 39), none]) (rest := []) hi_225_20 (am_hd0 (M := 225) (by decide) 20) rfl rfl rfl (fun N' d' _ => lt227 (N := N') (d := d') h5) ?_ (fun _ q => nomatch q.1)
      rintro v14 S12 ⟨ev14, h13⟩
      cases ev14
      show am_L _ _ _ _ _ [some (.ref 39), some (.int (k183 s))] [] _ _
      refine l35 hi_225_23 ⟨rfl, ?_⟩
      unfold k225; rw [if_pos c7]; rw [if_neg c8]; exact h13
  · refine l12f hi_225_9 (decide_eq_false c7) ?_
    refine l35 hi_225_12 ⟨rfl, ?_⟩
    unfold k225; rw [if_neg c7]; exact h5
/-- hasLocals()Z -/
def k243 (s : kS) : Int32 := if (s.1 24) ≤ (kr s 38 ((s.1 37) - 1)) then 0 else 1
theorem lt243 {sc : Nat × (Nat → Int32)} {N d : Nat} {S0 S : am_S} {s : kS} (hS : MK S0 S s) : am_L (am_PP sc) N d 243 0 [some (.ref 39)] [] S (fun o S1 => o = some (some (.int (k243 s))) ∧ MK S0 S1 s) := by
  refine l2 (v := 39) hi_243_0 rfl ?_
  refine l20 (v := .int (s.1 24)) hS hi_243_1 rfl ?_
  refine l2 (v := 39) hi_243_4 rfl ?_
  refine l20 (v := .ref 62) hS hi_243_5 rfl ?_
  refine l2 (v := 39) hi_243_8 rfl ?_
  refine l20 (v := .int (s.1 37)) hS hi_243_9 rfl ?_
  refine l0 hi_243_12 ?_
  refine l10 hi_243_13 ?_
  show am_L _ _ _ _ _ [some (.ref 39)] [.int ((s.1 37) - 1), .ref 62, .int (s.1 24)] _ _
  refine l25 hS ma_38 hi_243_14 fun g1 g2 => ?_
  show am_L _ _ _ _ _ [some (.ref 39)] [.int (kr s 38 ((s.1 37) - 1)), .int (s.1 24)] _ _
  by_cases c3 : (s.1 24) ≤ (kr s 38 ((s.1 37) - 1))
  · refine l13t hi_243_15 (decide_eq_true c3) ?_
    refine l0 hi_243_22 ?_
    refine l36 hi_243_23 fun _ => ⟨?_, ?_⟩
    · unfold k243; rw [if_pos c3]
    · exact hS
  · refine l13f hi_243_15 (decide_eq_false c3) ?_
    refine l0 hi_243_18 ?_
    refine l18 hi_243_19 ?_
    refine l36 hi_243_23 fun _ => ⟨?_, ?_⟩
    · unfold k243; rw [if_neg c3]
    · exact hS
noncomputable def k242_19 (s : kS) (z0 : Int32) : kS × Int32 := ((k224 s).1, 0)
theorem lt242_19 {sc : Nat × (Nat → Int32)} {N d : Nat} {S0 S : am_S} {s : kS} {z0 : Int32} (hS : MK S0 S s) : am_L (am_PP sc) N d 242 19 [some (.ref 39)] [.int z0] S (fun o S1 => o = some none ∧ MK S0 S1 (k242_19 s z0).1) := by
  refine l6i hi_242_19 ?_
  refine l2 (v := 39) hi_242_20 rfl ?_
  refine l32 (as := [.ref 39]) (la := [some (.ref 39), none, none]) (rest := []) hi_242_21 (am_hd0 (M := 242) (by decide) 21) rfl rfl rfl (fun N' d' _ => lt224 (N := N') (d := d') hS) ?_ (fun _ q => nomatch q.1)
  rintro v3 S1 ⟨ev3, h2⟩
  cases ev3
  show am_L _ _ _ _ _ [some (.ref 39)] [] _ _
  refine l35 hi_242_24 ⟨rfl, ?_⟩
  exact h2
/-- endBlock()V -/
noncomputable def k242 (s : kS) : kS × Int32 := if (k243 s) = 0 then ((k224 s).1, 0) else k242_19 ((k189 s 33 (k232 s) 0 0).1) ((k189 s 33 (k232 s) 0 0).2)
theorem lt242 {sc : Nat × (Nat → Int32)} {N d : Nat} {S0 S : am_S} {s : kS} (hS : MK S0 S s) : am_L (am_PP sc) N d 242 0 [some (.ref 39)] [] S (fun o S1 => o = some none ∧ MK S0 S1 (k242 s).1) := by
  refine l2 (v := 39) hi_242_0 rfl ?_
  refine l32 (as := [.ref 39]) (la := [some (.ref 39)]) (rest := []) hi_242_1 (am_hd0 (M := 242) (by decide) 1) rfl rfl rfl (fun N' d' _ => lt243 (N := N') (d := d') hS) ?_ (fun _ q => nomatch q.1)
  rintro v3 S1 ⟨ev3, h2⟩
  cases ev3
  show am_L _ _ _ _ _ [some (.ref 39)] [.int (k243 s)] _ _
  by_cases c4 : (k243 s) = 0
  · refine l12t hi_242_4 (decide_eq_true c4) ?_
    refine l2 (v := 39) hi_242_20 rfl ?_
    refine l32 (as := [.ref 39]) (la := [some (.ref 39), none, none]) (rest := []) hi_242_21 (am_hd0 (M := 242) (by decide) 21) rfl rfl rfl (fun N' d' _ => lt224 (N := N') (d := d') h2) ?_ (fun _ q => nomatch q.1)
    rintro v7 S5 ⟨ev7, h6⟩
    cases ev7
    show am_L _ _ _ _ _ [some (.ref 39)] [] _ _
    refine l35 hi_242_24 ⟨rfl, ?_⟩
    unfold k242; rw [if_pos c4]; exact h6
  · refine l12f hi_242_4 (decide_eq_false c4) ?_
    refine l2 (v := 39) hi_242_7 rfl ?_
    refine l0 hi_242_8 ?_
    refine l2 (v := 39) hi_242_10 rfl ?_
    refine l32 (as := [.ref 39]) (la := [some (.ref 39)]) (rest := [.int 33, .ref 39]) hi_242_11 (am_hd0 (M := 242) (by decide) 11) rfl rfl rfl (fun N' d' _ => lt232 (N := N') (d := d') h2) ?_ (fun _ q => nomatch q.1)
    rintro v10 S8 ⟨ev10, h9⟩
    cases ev10
    show am_L _ _ _ _ _ [some (.ref 39)] [.int (k232 s), .int 33, .ref 39] _ _
    refine l0 hi_242_14 ?_
    refine l0 hi_242_15 ?_
    refine l32 (as := [.ref 39, .int 33, .int (k232 s), .int 0, .int 0]) (la := [some (.ref 39), some (.int 33), some (.int (k232 s)), some (.int 0), some (.int 0)]) (rest := []) hi_242_16 (am_hd0 (M := 242) (by decide) 16) rfl rfl rfl (fun N' d' _ => lt189 (N := N') (d := d') h9) ?_ (fun _ q => nomatch q.1)
    rintro v13 S11 ⟨ev13, h12⟩
    cases ev13
    show am_L _ _ _ _ _ [some (.ref 39)] [.int ((k189 s 33 (k232 s) 0 0).2)] _ _
    refine am_L.mono (lt242_19 h12) ?_
    rintro o S1 ⟨e, h⟩
    have q : k242 s = k242_19 ((k189 s 33 (k232 s) 0 0).1) ((k189 s 33 (k232 s) 0 0).2) := by unfold k242; rw [if_neg c4]
    rw [q]; exact ⟨e, h⟩
noncomputable def k244_29 (s : kS) (y1 : Int32) (y2 : Int32) : kS × Int32 := ((k178 ((k179 s 4 y2 y1 0).1)).1, 0)
theorem lt244_29 {sc : Nat × (Nat → Int32)} {N d : Nat} {S0 S : am_S} {s : kS} {y1 : Int32} {y2 : Int32} (hS : MK S0 S s) : am_L (am_PP sc) N d 244 29 [some (.ref 39), some (.int y1), some (.int y2)] [] S (fun o S1 => o = some none ∧ MK S0 S1 (k244_29 s y1 y2).1) := by
  refine l2 (v := 39) hi_244_29 rfl ?_
  refine l0 hi_244_30 ?_
  refine l1 (v := y2) hi_244_31 rfl ?_
  refine l1 (v := y1) hi_244_32 rfl ?_
  refine l0 hi_244_33 ?_
  refine l32 (as := [.ref 39, .int 4, .int y2, .int y1, .int 0]) (la := [some (.ref 39), some (.int 4), some (.int y2), some (.int y1), some (.int 0)]) (rest := []) hi_244_34 (am_hd0 (M := 244) (by decide) 34) rfl rfl rfl (fun N' d' _ => lt179 (N := N') (d := d') hS) ?_ (fun _ q => nomatch q.1)
  rintro v3 S1 ⟨ev3, h2⟩
  cases ev3
  show am_L _ _ _ _ _ [some (.ref 39), some (.int y1), some (.int y2)] [] _ _
  refine l2 (v := 39) hi_244_37 rfl ?_
  refine l32 (as := [.ref 39]) (la := [some (.ref 39)]) (rest := []) hi_244_38 (am_hd0 (M := 244) (by decide) 38) rfl rfl rfl (fun N' d' _ => lt178 (N := N') (d := d') h2) ?_ (fun _ q => nomatch q.1)
  rintro v6 S4 ⟨ev6, h5⟩
  cases ev6
  show am_L _ _ _ _ _ [some (.ref 39), some (.int y1), some (.int y2)] [] _ _
  refine l35 hi_244_41 ⟨rfl, ?_⟩
  exact h5
noncomputable def k244_23 (s : kS) (y1 : Int32) (z0 : Int32) : kS × Int32 := k244_29 ((k177 s 1).1) y1 z0
theorem lt244_23 {sc : Nat × (Nat → Int32)} {N d : Nat} {S0 S : am_S} {s : kS} {y1 : Int32} {z0 : Int32} {o2 : Option Value} (hS : MK S0 S s) : am_L (am_PP sc) N d 244 23 [some (.ref 39), some (.int y1), o2] [.int z0] S (fun o S1 => o = some none ∧ MK S0 S1 (k244_23 s y1 z0).1) := by
  refine l3 (ls' := [some (.ref 39), some (.int y1), some (.int z0)]) hi_244_23 (Nat.le_of_ble_eq_true rfl) rfl ?_
  refine l2 (v := 39) hi_244_24 rfl ?_
  refine l0 hi_244_25 ?_
  refine l32 (as := [.ref 39, .int 1]) (la := [some (.ref 39), some (.int 1)]) (rest := []) hi_244_26 (am_hd0 (M := 244) (by decide) 26) rfl rfl rfl (fun N' d' _ => lt177 (N := N') (d := d') hS) ?_ (fun _ q => nomatch q.1)
  rintro v3 S1 ⟨ev3, h2⟩
  cases ev3
  show am_L _ _ _ _ _ [some (.ref 39), some (.int y1), some (.int z0)] [] _ _
  refine am_L.mono (lt244_29 h2) ?_
  rintro o S1 ⟨e, h⟩
  have q : k244_23 s y1 z0 = k244_29 ((k177 s 1).1) y1 z0 := rfl
  rw [q]; exact ⟨e, h⟩
noncomputable def k244_10 (s : kS) (y1 : Int32) (z0 : Int32) : kS × Int32 := if z0 ≠ 0 then k244_23 ((k189 s 35 0 0 0).1) y1 ((k189 s 35 0 0 0).2) else (s, 0)
theorem lt244_10 {sc : Nat × (Nat → Int32)} {N d : Nat} {S0 S : am_S} {s : kS} {y1 : Int32} {z0 : Int32} {o2 : Option Value} (hS : MK S0 S s) : am_L (am_PP sc) N d 244 10 [some (.ref 39), some (.int y1), o2] [.int z0] S (fun o S1 => o = some none ∧ MK S0 S1 (k244_10 s y1 z0).1) := by
  by_cases c1 : z0 ≠ 0
  · refine l12t hi_244_10 (decide_eq_true c1) ?_
    refine l2 (v := 39) hi_244_14 rfl ?_
    refine l0 hi_244_15 ?_
    refine l0 hi_244_17 ?_
    refine l0 hi_244_18 ?_
    refine l0 hi_244_19 ?_
    refine l32 (as := [.ref 39, .int 35, .int 0, .int 0, .int 0]) (la := [some (.ref 39), some (.int 35), some (.int 0), some (.int 0), some (.int 0)]) (rest := []) hi_244_20 (am_hd0 (M := 244) (by decide) 20) rfl rfl rfl (fun N' d' _ => lt189 (N := N') (d := d') hS) ?_ (fun _ q => nomatch q.1)
    rintro v4 S2 ⟨ev4, h3⟩
    cases ev4
    show am_L _ _ _ _ _ [some (.ref 39), some (.int y1), o2] [.int ((k189 s 35 0 0 0).2)] _ _
    refine am_L.mono (lt244_23 h3) ?_
    rintro o S1 ⟨e, h⟩
    have q : k244_10 s y1 z0 = k244_23 ((k189 s 35 0 0 0).1) y1 ((k189 s 35 0 0 0).2) := by unfold k244_10; rw [if_pos c1]
    rw [q]; exact ⟨e, h⟩
  · refine l12f hi_244_10 (decide_eq_false c1) ?_
    refine l35 hi_244_13 ⟨rfl, ?_⟩
    unfold k244_10; rw [if_neg c1]; exact hS
noncomputable def k244_4 (s : kS) (y1 : Int32) : kS × Int32 := k244_10 ((k193 s 12).1) y1 ((k193 s 12).2)
theorem lt244_4 {sc : Nat × (Nat → Int32)} {N d : Nat} {S0 S : am_S} {s : kS} {y1 : Int32} {o2 : Option Value} (hS : MK S0 S s) : am_L (am_PP sc) N d 244 4 [some (.ref 39), some (.int y1), o2] [] S (fun o S1 => o = some none ∧ MK S0 S1 (k244_4 s y1).1) := by
  refine l2 (v := 39) hi_244_4 rfl ?_
  refine l0 hi_244_5 ?_
  refine l32 (as := [.ref 39, .int 12]) (la := [some (.ref 39), some (.int 12)]) (rest := []) hi_244_7 (am_hd0 (M := 244) (by decide) 7) rfl rfl rfl (fun N' d' _ => lt193 (N := N') (d := d') hS) ?_ (fun _ q => nomatch q.1)
  rintro v3 S1 ⟨ev3, h2⟩
  cases ev3
  show am_L _ _ _ _ _ [some (.ref 39), some (.int y1), o2] [.int ((k193 s 12).2)] _ _
  refine am_L.mono (lt244_10 h2) ?_
  rintro o S1 ⟨e, h⟩
  have q : k244_4 s y1 = k244_10 ((k193 s 12).1) y1 ((k193 s 12).2) := rfl
  rw [q]; exact ⟨e, h⟩
/-- whileDo(I)V -/
noncomputable def k244 (s : kS) (x1 : Int32) : kS × Int32 := k244_4 ((k209 s).1) x1
theorem lt244 {sc : Nat × (Nat → Int32)} {N d : Nat} {S0 S : am_S} {s : kS} {x1 : Int32} (hS : MK S0 S s) : am_L (am_PP sc) N d 244 0 [some (.ref 39), some (.int x1), none] [] S (fun o S1 => o = some none ∧ MK S0 S1 (k244 s x1).1) := by
  refine l2 (v := 39) hi_244_0 rfl ?_
  refine l32 (as := [.ref 39]) (la := [some (.ref 39)]) (rest := []) hi_244_1 (am_hd0 (M := 244) (by decide) 1) rfl rfl rfl (fun N' d' _ => lt209 (N := N') (d := d') hS) ?_ (fun _ q => nomatch q.1)
  rintro v3 S1 ⟨ev3, h2⟩
  cases ev3
  show am_L _ _ _ _ _ [some (.ref 39), some (.int x1), none] [] _ _
  refine am_L.mono (lt244_4 h2) ?_
  rintro o S1 ⟨e, h⟩
  have q : k244 s x1 = k244_4 ((k209 s).1) x1 := rfl
  rw [q]; exact ⟨e, h⟩
def k246b10 (t : kS × Int32) : Nat × (kS × Int32) := if t.2 ≤ 0 then (1, (t.1, t.2)) else (0, (ka t.1 71 (t.2 - 1) (k210 t.1), kr t.1 71 (t.2 - 1)))
theorem lb246_10 {sc : Nat × (Nat → Int32)} {d : Nat} {S0 : am_S} {Q : Option (Option Value) → am_S → Prop} : ∀ (N : Nat) (S : am_S) (o2 : Option Value) (t : kS × Int32), MK S0 S t.1 → (∀ m S1 (p2 : Option Value), (kwh k246b10 m t).1 = 1 → MK S0 S1 (kwh k246b10 m t).2.1 → am_L (am_PP sc) N d 246 40 [some (.ref 39), some (.int ((kwh k246b10 m t).2.2)), p2] [] S1 Q) → am_L (am_PP sc) N d 246 10 [some (.ref 39), some (.int t.2), o2] [] S Q := by
  intro N
  induction N with
  | zero => intros; exact l_zero
  | succ N ih =>
    intro S o2 t hS kx40
    refine l1d (v := t.2) hi_246_10 rfl ?_
    by_cases c1 : t.2 ≤ 0
    · refine l12t hi_246_11 (decide_eq_true c1) ?_
      have e0 : k246b10 t = (1, (t.1, t.2)) := by unfold k246b10; rw [if_pos c1]
      have e1 : kwh k246b10 1 t = (1, (t.1, t.2)) := by rw [kwh_out (by rw [e0]; exact Nat.succ_ne_zero _), e0]
      have q := kx40 1 _ o2 (by rw [e1]) (by rw [e1]; exact hS)
      try rw [e1] at q
      exact q.less (Nat.le_succ N)
    · refine l12f hi_246_11 (decide_eq_false c1) ?_
      refine l2 (v := 39) hi_246_14 rfl ?_
      refine l20 (v := .ref 90) hS hi_246_15 rfl ?_
      refine l1 (v := t.2) hi_246_18 rfl ?_
      refine l0 hi_246_19 ?_
      refine l10 hi_246_20 ?_
      show am_L _ _ _ _ _ [some (.ref 39), some (.int t.2), o2] [.int (t.2 - 1), .ref 90] _ _
      refine l25 hS ma_71 hi_246_21 fun g2 g3 => ?_
      show am_L _ _ _ _ _ [some (.ref 39), some (.int t.2), o2] [.int (kr t.1 71 (t.2 - 1))] _ _
      refine l3 (ls' := [some (.ref 39), some (.int t.2), some (.int (kr t.1 71 (t.2 - 1)))]) hi_246_22 (Nat.le_of_ble_eq_true rfl) rfl ?_
      refine l2 (v := 39) hi_246_23 rfl ?_
      refine l20 (v := .ref 90) hS hi_246_24 rfl ?_
      refine l1 (v := t.2) hi_246_27 rfl ?_
      refine l0 hi_246_28 ?_
      refine l10 hi_246_29 ?_
      show am_L _ _ _ _ _ [some (.ref 39), some (.int t.2), some (.int (kr t.1 71 (t.2 - 1)))] [.int (t.2 - 1), .ref 90] _ _
      refine l2 (v := 39) hi_246_30 rfl ?_
      refine l32 (as := [.ref 39]) (la := [some (.ref 39)]) (rest := [.int (t.2 - 1), .ref 90]) hi_246_31 (am_hd0 (M := 246) (by decide) 31) rfl rfl rfl (fun N' d' _ => lt210 (N := N') (d := d') hS) ?_ (fun _ q => nomatch q.1)
      rintro v6 S4 ⟨ev6, h5⟩
      cases ev6
      show am_L _ _ _ _ _ [some (.ref 39), some (.int t.2), some (.int (kr t.1 71 (t.2 - 1)))] [.int (k210 t.1), .int (t.2 - 1), .ref 90] _ _
      refine l26 h5 ma_71 hi_246_34 fun S9 h10 g7 g8 => ?_
      refine l1 (v := kr t.1 71 (t.2 - 1)) hi_246_35 rfl ?_
      refine l3 (ls' := [some (.ref 39), some (.int (kr t.1 71 (t.2 - 1))), some (.int (kr t.1 71 (t.2 - 1)))]) hi_246_36 (Nat.le_of_ble_eq_true rfl) rfl ?_
      refine l18 hi_246_37 ?_
      have e0 : k246b10 t = (0, (ka t.1 71 (t.2 - 1) (k210 t.1), kr t.1 71 (t.2 - 1))) := by unfold k246b10; rw [if_neg c1]
      have e1 : ∀ m, kwh k246b10 (m + 1) t = kwh k246b10 m (ka t.1 71 (t.2 - 1) (k210 t.1), kr t.1 71 (t.2 - 1)) := fun m => by rw [kwh_go (by rw [e0]), e0]
      exact ih _ (some (.int (kr t.1 71 (t.2 - 1)))) (ka t.1 71 (t.2 - 1) (k210 t.1), kr t.1 71 (t.2 - 1)) h10 (fun m S1 p2 hm h1 => by have q := kx40 (m + 1) S1 p2 (by rw [e1]; exact hm) (by rw [e1]; exact h1); (try rw [e1] at q); exact q.less (Nat.le_succ N))
/-- mendBreaks()V -/
noncomputable def k246 (s : kS) : kS × Int32 := ((kfin k246b10 (s, kr s 43 (s.1 37))).2.1, 0)
theorem lt246 {sc : Nat × (Nat → Int32)} {N d : Nat} {S0 S : am_S} {s : kS} (hS : MK S0 S s) : am_L (am_PP sc) N d 246 0 [some (.ref 39), none, none] [] S (fun o S1 => o = some none ∧ MK S0 S1 (k246 s).1) := by
  refine l2 (v := 39) hi_246_0 rfl ?_
  refine l20 (v := .ref 67) hS hi_246_1 rfl ?_
  refine l2 (v := 39) hi_246_4 rfl ?_
  refine l20 (v := .int (s.1 37)) hS hi_246_5 rfl ?_
  refine l25 hS ma_43 hi_246_8 fun g1 g2 => ?_
  show am_L _ _ _ _ _ [some (.ref 39), none, none] [.int (kr s 43 (s.1 37))] _ _
  refine l3 (ls' := [some (.ref 39), some (.int (kr s 43 (s.1 37))), none]) hi_246_9 (Nat.le_of_ble_eq_true rfl) rfl ?_
  refine lb246_10 N _ none (s, kr s 43 (s.1 37)) hS ?_
  · intro m3 S4 p8 hm5 h6
    have hf7 : kfin k246b10 (s, kr s 43 (s.1 37)) = kwh k246b10 m3 (s, kr s 43 (s.1 37)) := kfin_eq (by rw [hm5]; decide)
    rw [← hf7] at hm5 h6
    try rw [← hf7]
    refine l35 hi_246_40 ⟨rfl, ?_⟩
    exact h6
noncomputable def k245_28 (s : kS) : kS × Int32 := ((k199 s 15).1, 0)
theorem lt245_28 {sc : Nat × (Nat → Int32)} {N d : Nat} {S0 S : am_S} {s : kS} {o1 : Option Value} {o2 : Option Value} (hS : MK S0 S s) : am_L (am_PP sc) N d 245 28 [some (.ref 39), o1, o2] [] S (fun o S1 => o = some none ∧ MK S0 S1 (k245_28 s).1) := by
  refine l2 (v := 39) hi_245_28 rfl ?_
  refine l0 hi_245_29 ?_
  refine l32 (as := [.ref 39, .int 15]) (la := [some (.ref 39), some (.int 15)]) (rest := []) hi_245_31 (am_hd0 (M := 245) (by decide) 31) rfl rfl rfl (fun N' d' _ => lt199 (N := N') (d := d') hS) ?_ (fun _ q => nomatch q.1)
  rintro v3 S1 ⟨ev3, h2⟩
  cases ev3
  show am_L _ _ _ _ _ [some (.ref 39), o1, o2] [.int ((k199 s 15).2)] _ _
  refine l6i hi_245_34 ?_
  refine l35 hi_245_35 ⟨rfl, ?_⟩
  exact h2
noncomputable def k245_13 (s : kS) (y1 : Int32) (z0 : Int32) : kS × Int32 := k245_28 ((k246 (ka s 71 y1 (k210 s))).1)
theorem lt245_13 {sc : Nat × (Nat → Int32)} {N d : Nat} {S0 S : am_S} {s : kS} {y1 : Int32} {z0 : Int32} {o2 : Option Value} (hS : MK S0 S s) : am_L (am_PP sc) N d 245 13 [some (.ref 39), some (.int y1), o2] [.int z0] S (fun o S1 => o = some none ∧ MK S0 S1 (k245_13 s y1 z0).1) := by
  refine l6i hi_245_13 ?_
  refine l2 (v := 39) hi_245_14 rfl ?_
  refine l20 (v := .ref 90) hS hi_245_15 rfl ?_
  refine l1 (v := y1) hi_245_18 rfl ?_
  refine l2 (v := 39) hi_245_19 rfl ?_
  refine l32 (as := [.ref 39]) (la := [some (.ref 39)]) (rest := [.int y1, .ref 90]) hi_245_20 (am_hd0 (M := 245) (by decide) 20) rfl rfl rfl (fun N' d' _ => lt210 (N := N') (d := d') hS) ?_ (fun _ q => nomatch q.1)
  rintro v3 S1 ⟨ev3, h2⟩
  cases ev3
  show am_L _ _ _ _ _ [some (.ref 39), some (.int y1), o2] [.int (k210 s), .int y1, .ref 90] _ _
  refine l26 h2 ma_71 hi_245_23 fun S6 h7 g4 g5 => ?_
  refine l2 (v := 39) hi_245_24 rfl ?_
  refine l32 (as := [.ref 39]) (la := [some (.ref 39), none, none]) (rest := []) hi_245_25 (am_hd0 (M := 245) (by decide) 25) rfl rfl rfl (fun N' d' _ => lt246 (N := N') (d := d') h7) ?_ (fun _ q => nomatch q.1)
  rintro v10 S8 ⟨ev10, h9⟩
  cases ev10
  show am_L _ _ _ _ _ [some (.ref 39), some (.int y1), o2] [] _ _
  refine am_L.mono (lt245_28 h9) ?_
  rintro o S1 ⟨e, h⟩
  have q : k245_13 s y1 z0 = k245_28 ((k246 (ka s 71 y1 (k210 s))).1) := rfl
  rw [q]; exact ⟨e, h⟩
noncomputable def k245_4 (s : kS) (y1 : Int32) (y2 : Int32) : kS × Int32 := k245_13 ((k189 s 36 y2 0 0).1) y1 ((k189 s 36 y2 0 0).2)
theorem lt245_4 {sc : Nat × (Nat → Int32)} {N d : Nat} {S0 S : am_S} {s : kS} {y1 : Int32} {y2 : Int32} (hS : MK S0 S s) : am_L (am_PP sc) N d 245 4 [some (.ref 39), some (.int y1), some (.int y2)] [] S (fun o S1 => o = some none ∧ MK S0 S1 (k245_4 s y1 y2).1) := by
  refine l2 (v := 39) hi_245_4 rfl ?_
  refine l0 hi_245_5 ?_
  refine l1 (v := y2) hi_245_7 rfl ?_
  refine l0 hi_245_8 ?_
  refine l0 hi_245_9 ?_
  refine l32 (as := [.ref 39, .int 36, .int y2, .int 0, .int 0]) (la := [some (.ref 39), some (.int 36), some (.int y2), some (.int 0), some (.int 0)]) (rest := []) hi_245_10 (am_hd0 (M := 245) (by decide) 10) rfl rfl rfl (fun N' d' _ => lt189 (N := N') (d := d') hS) ?_ (fun _ q => nomatch q.1)
  rintro v3 S1 ⟨ev3, h2⟩
  cases ev3
  show am_L _ _ _ _ _ [some (.ref 39), some (.int y1), some (.int y2)] [.int ((k189 s 36 y2 0 0).2)] _ _
  refine am_L.mono (lt245_13 h2) ?_
  rintro o S1 ⟨e, h⟩
  have q : k245_4 s y1 y2 = k245_13 ((k189 s 36 y2 0 0).1) y1 ((k189 s 36 y2 0 0).2) := rfl
  rw [q]; exact ⟨e, h⟩
/-- whileEnd(II)V -/
noncomputable def k245 (s : kS) (x1 : Int32) (x2 : Int32) : kS × Int32 := k245_4 ((k242 s).1) x1 x2
theorem lt245 {sc : Nat × (Nat → Int32)} {N d : Nat} {S0 S : am_S} {s : kS} {x1 : Int32} {x2 : Int32} (hS : MK S0 S s) : am_L (am_PP sc) N d 245 0 [some (.ref 39), some (.int x1), some (.int x2)] [] S (fun o S1 => o = some none ∧ MK S0 S1 (k245 s x1 x2).1) := by
  refine l2 (v := 39) hi_245_0 rfl ?_
  refine l32 (as := [.ref 39]) (la := [some (.ref 39)]) (rest := []) hi_245_1 (am_hd0 (M := 245) (by decide) 1) rfl rfl rfl (fun N' d' _ => lt242 (N := N') (d := d') hS) ?_ (fun _ q => nomatch q.1)
  rintro v3 S1 ⟨ev3, h2⟩
  cases ev3
  show am_L _ _ _ _ _ [some (.ref 39), some (.int x1), some (.int x2)] [] _ _
  refine am_L.mono (lt245_4 h2) ?_
  rintro o S1 ⟨e, h⟩
  have q : k245 s x1 x2 = k245_4 ((k242 s).1) x1 x2 := rfl
  rw [q]; exact ⟨e, h⟩
noncomputable def k247_80 (s : kS) : kS × Int32 := ((k246 ((k224 s).1)).1, 0)
theorem lt247_80 {sc : Nat × (Nat → Int32)} {N d : Nat} {S0 S : am_S} {s : kS} {o1 : Option Value} {o2 : Option Value} (hS : MK S0 S s) : am_L (am_PP sc) N d 247 80 [some (.ref 39), o1, o2] [] S (fun o S1 => o = some none ∧ MK S0 S1 (k247_80 s).1) := by
  refine l2 (v := 39) hi_247_80 rfl ?_
  refine l32 (as := [.ref 39]) (la := [some (.ref 39), none, none]) (rest := []) hi_247_81 (am_hd0 (M := 247) (by decide) 81) rfl rfl rfl (fun N' d' _ => lt224 (N := N') (d := d') hS) ?_ (fun _ q => nomatch q.1)
  rintro v3 S1 ⟨ev3, h2⟩
  cases ev3
  show am_L _ _ _ _ _ [some (.ref 39), o1, o2] [] _ _
  refine l2 (v := 39) hi_247_84 rfl ?_
  refine l32 (as := [.ref 39]) (la := [some (.ref 39), none, none]) (rest := []) hi_247_85 (am_hd0 (M := 247) (by decide) 85) rfl rfl rfl (fun N' d' _ => lt246 (N := N') (d := d') h2) ?_ (fun _ q => nomatch q.1)
  rintro v6 S4 ⟨ev6, h5⟩
  cases ev6
  show am_L _ _ _ _ _ [some (.ref 39), o1, o2] [] _ _
  refine l35 hi_247_88 ⟨rfl, ?_⟩
  exact h5
noncomputable def k247_79 (s : kS) (z0 : Int32) : kS × Int32 := k247_80 s
theorem lt247_79 {sc : Nat × (Nat → Int32)} {N d : Nat} {S0 S : am_S} {s : kS} {z0 : Int32} {o1 : Option Value} {o2 : Option Value} (hS : MK S0 S s) : am_L (am_PP sc) N d 247 79 [some (.ref 39), o1, o2] [.int z0] S (fun o S1 => o = some none ∧ MK S0 S1 (k247_79 s z0).1) := by
  refine l6i hi_247_79 ?_
  refine am_L.mono (lt247_80 hS) ?_
  rintro o S1 ⟨e, h⟩
  have q : k247_79 s z0 = k247_80 s := rfl
  rw [q]; exact ⟨e, h⟩
noncomputable def k247_66 (s : kS) (z0 : Int32) : kS × Int32 := k247_80 s
theorem lt247_66 {sc : Nat × (Nat → Int32)} {N d : Nat} {S0 S : am_S} {s : kS} {z0 : Int32} {o1 : Option Value} {o2 : Option Value} (hS : MK S0 S s) : am_L (am_PP sc) N d 247 66 [some (.ref 39), o1, o2] [.int z0] S (fun o S1 => o = some none ∧ MK S0 S1 (k247_66 s z0).1) := by
  refine l6i hi_247_66 ?_
  refine l18 hi_247_67 ?_
  refine am_L.mono (lt247_80 hS) ?_
  rintro o S1 ⟨e, h⟩
  have q : k247_66 s z0 = k247_80 s := rfl
  rw [q]; exact ⟨e, h⟩
noncomputable def k247_43 (s : kS) (y2 : Int32) (z0 : Int32) : kS × Int32 := k247_66 ((k189 (ka s 71 y2 (k210 s)) 33 (k232 (ka s 71 y2 (k210 s))) 0 0).1) ((k189 (ka s 71 y2 (k210 s)) 33 (k232 (ka s 71 y2 (k210 s))) 0 0).2)
theorem lt247_43 {sc : Nat × (Nat → Int32)} {N d : Nat} {S0 S : am_S} {s : kS} {y2 : Int32} {z0 : Int32} {o1 : Option Value} (hS : MK S0 S s) : am_L (am_PP sc) N d 247 43 [some (.ref 39), o1, some (.int y2)] [.int z0] S (fun o S1 => o = some none ∧ MK S0 S1 (k247_43 s y2 z0).1) := by
  refine l6i hi_247_43 ?_
  refine l2 (v := 39) hi_247_44 rfl ?_
  refine l20 (v := .ref 90) hS hi_247_45 rfl ?_
  refine l1 (v := y2) hi_247_48 rfl ?_
  refine l2 (v := 39) hi_247_49 rfl ?_
  refine l32 (as := [.ref 39]) (la := [some (.ref 39)]) (rest := [.int y2, .ref 90]) hi_247_50 (am_hd0 (M := 247) (by decide) 50) rfl rfl rfl (fun N' d' _ => lt210 (N := N') (d := d') hS) ?_ (fun _ q => nomatch q.1)
  rintro v3 S1 ⟨ev3, h2⟩
  cases ev3
  show am_L _ _ _ _ _ [some (.ref 39), o1, some (.int y2)] [.int (k210 s), .int y2, .ref 90] _ _
  refine l26 h2 ma_71 hi_247_53 fun S6 h7 g4 g5 => ?_
  refine l2 (v := 39) hi_247_54 rfl ?_
  refine l0 hi_247_55 ?_
  refine l2 (v := 39) hi_247_57 rfl ?_
  refine l32 (as := [.ref 39]) (la := [some (.ref 39)]) (rest := [.int 33, .ref 39]) hi_247_58 (am_hd0 (M := 247) (by decide) 58) rfl rfl rfl (fun N' d' _ => lt232 (N := N') (d := d') h7) ?_ (fun _ q => nomatch q.1)
  rintro v10 S8 ⟨ev10, h9⟩
  cases ev10
  show am_L _ _ _ _ _ [some (.ref 39), o1, some (.int y2)] [.int (k232 (ka s 71 y2 (k210 s))), .int 33, .ref 39] _ _
  refine l0 hi_247_61 ?_
  refine l0 hi_247_62 ?_
  refine l32 (as := [.ref 39, .int 33, .int (k232 (ka s 71 y2 (k210 s))), .int 0, .int 0]) (la := [some (.ref 39), some (.int 33), some (.int (k232 (ka s 71 y2 (k210 s)))), some (.int 0), some (.int 0)]) (rest := []) hi_247_63 (am_hd0 (M := 247) (by decide) 63) rfl rfl rfl (fun N' d' _ => lt189 (N := N') (d := d') h9) ?_ (fun _ q => nomatch q.1)
  rintro v13 S11 ⟨ev13, h12⟩
  cases ev13
  show am_L _ _ _ _ _ [some (.ref 39), o1, some (.int y2)] [.int ((k189 (ka s 71 y2 (k210 s)) 33 (k232 (ka s 71 y2 (k210 s))) 0 0).2)] _ _
  refine am_L.mono (lt247_66 h12) ?_
  rintro o S1 ⟨e, h⟩
  have q : k247_43 s y2 z0 = k247_66 ((k189 (ka s 71 y2 (k210 s)) 33 (k232 (ka s 71 y2 (k210 s))) 0 0).1) ((k189 (ka s 71 y2 (k210 s)) 33 (k232 (ka s 71 y2 (k210 s))) 0 0).2) := rfl
  rw [q]; exact ⟨e, h⟩
noncomputable def k247_33 (s : kS) (y1 : Int32) (y2 : Int32) (z0 : Int32) : kS × Int32 := k247_43 ((k189 s 36 y1 0 0).1) y2 ((k189 s 36 y1 0 0).2)
theorem lt247_33 {sc : Nat × (Nat → Int32)} {N d : Nat} {S0 S : am_S} {s : kS} {y1 : Int32} {y2 : Int32} {z0 : Int32} (hS : MK S0 S s) : am_L (am_PP sc) N d 247 33 [some (.ref 39), some (.int y1), some (.int y2)] [.int z0] S (fun o S1 => o = some none ∧ MK S0 S1 (k247_33 s y1 y2 z0).1) := by
  refine l6i hi_247_33 ?_
  refine l2 (v := 39) hi_247_34 rfl ?_
  refine l0 hi_247_35 ?_
  refine l1 (v := y1) hi_247_37 rfl ?_
  refine l0 hi_247_38 ?_
  refine l0 hi_247_39 ?_
  refine l32 (as := [.ref 39, .int 36, .int y1, .int 0, .int 0]) (la := [some (.ref 39), some (.int 36), some (.int y1), some (.int 0), some (.int 0)]) (rest := []) hi_247_40 (am_hd0 (M := 247) (by decide) 40) rfl rfl rfl (fun N' d' _ => lt189 (N := N') (d := d') hS) ?_ (fun _ q => nomatch q.1)
  rintro v3 S1 ⟨ev3, h2⟩
  cases ev3
  show am_L _ _ _ _ _ [some (.ref 39), some (.int y1), some (.int y2)] [.int ((k189 s 36 y1 0 0).2)] _ _
  refine am_L.mono (lt247_43 h2) ?_
  rintro o S1 ⟨e, h⟩
  have q : k247_33 s y1 y2 z0 = k247_43 ((k189 s 36 y1 0 0).1) y2 ((k189 s 36 y1 0 0).2) := rfl
  rw [q]; exact ⟨e, h⟩
noncomputable def k247_20 (s : kS) (y1 : Int32) (z0 : Int32) : kS × Int32 := k247_33 ((k189 s 33 (k232 s) 0 0).1) y1 z0 ((k189 s 33 (k232 s) 0 0).2)
theorem lt247_20 {sc : Nat × (Nat → Int32)} {N d : Nat} {S0 S : am_S} {s : kS} {y1 : Int32} {z0 : Int32} {o2 : Option Value} (hS : MK S0 S s) : am_L (am_PP sc) N d 247 20 [some (.ref 39), some (.int y1), o2] [.int z0] S (fun o S1 => o = some none ∧ MK S0 S1 (k247_20 s y1 z0).1) := by
  refine l3 (ls' := [some (.ref 39), some (.int y1), some (.int z0)]) hi_247_20 (Nat.le_of_ble_eq_true rfl) rfl ?_
  refine l2 (v := 39) hi_247_21 rfl ?_
  refine l0 hi_247_22 ?_
  refine l2 (v := 39) hi_247_24 rfl ?_
  refine l32 (as := [.ref 39]) (la := [some (.ref 39)]) (rest := [.int 33, .ref 39]) hi_247_25 (am_hd0 (M := 247) (by decide) 25) rfl rfl rfl (fun N' d' _ => lt232 (N := N') (d := d') hS) ?_ (fun _ q => nomatch q.1)
  rintro v3 S1 ⟨ev3, h2⟩
  cases ev3
  show am_L _ _ _ _ _ [some (.ref 39), some (.int y1), some (.int z0)] [.int (k232 s), .int 33, .ref 39] _ _
  refine l0 hi_247_28 ?_
  refine l0 hi_247_29 ?_
  refine l32 (as := [.ref 39, .int 33, .int (k232 s), .int 0, .int 0]) (la := [some (.ref 39), some (.int 33), some (.int (k232 s)), some (.int 0), some (.int 0)]) (rest := []) hi_247_30 (am_hd0 (M := 247) (by decide) 30) rfl rfl rfl (fun N' d' _ => lt189 (N := N') (d := d') h2) ?_ (fun _ q => nomatch q.1)
  rintro v6 S4 ⟨ev6, h5⟩
  cases ev6
  show am_L _ _ _ _ _ [some (.ref 39), some (.int y1), some (.int z0)] [.int ((k189 s 33 (k232 s) 0 0).2)] _ _
  refine am_L.mono (lt247_33 h5) ?_
  rintro o S1 ⟨e, h⟩
  have q : k247_20 s y1 z0 = k247_33 ((k189 s 33 (k232 s) 0 0).1) y1 z0 ((k189 s 33 (k232 s) 0 0).2) := rfl
  rw [q]; exact ⟨e, h⟩
noncomputable def k247_4 (s : kS) (y1 : Int32) : kS × Int32 := if (k243 s) = 0 then k247_79 ((k189 s 35 y1 0 0).1) ((k189 s 35 y1 0 0).2) else k247_20 ((k189 s 37 0 0 0).1) y1 ((k189 s 37 0 0 0).2)
theorem lt247_4 {sc : Nat × (Nat → Int32)} {N d : Nat} {S0 S : am_S} {s : kS} {y1 : Int32} {o2 : Option Value} (hS : MK S0 S s) : am_L (am_PP sc) N d 247 4 [some (.ref 39), some (.int y1), o2] [] S (fun o S1 => o = some none ∧ MK S0 S1 (k247_4 s y1).1) := by
  refine l2 (v := 39) hi_247_4 rfl ?_
  refine l32 (as := [.ref 39]) (la := [some (.ref 39)]) (rest := []) hi_247_5 (am_hd0 (M := 247) (by decide) 5) rfl rfl rfl (fun N' d' _ => lt243 (N := N') (d := d') hS) ?_ (fun _ q => nomatch q.1)
  rintro v3 S1 ⟨ev3, h2⟩
  cases ev3
  show am_L _ _ _ _ _ [some (.ref 39), some (.int y1), o2] [.int (k243 s)] _ _
  by_cases c4 : (k243 s) = 0
  · refine l12t hi_247_8 (decide_eq_true c4) ?_
    refine l2 (v := 39) hi_247_70 rfl ?_
    refine l0 hi_247_71 ?_
    refine l1 (v := y1) hi_247_73 rfl ?_
    refine l0 hi_247_74 ?_
    refine l0 hi_247_75 ?_
    refine l32 (as := [.ref 39, .int 35, .int y1, .int 0, .int 0]) (la := [some (.ref 39), some (.int 35), some (.int y1), some (.int 0), some (.int 0)]) (rest := []) hi_247_76 (am_hd0 (M := 247) (by decide) 76) rfl rfl rfl (fun N' d' _ => lt189 (N := N') (d := d') h2) ?_ (fun _ q => nomatch q.1)
    rintro v7 S5 ⟨ev7, h6⟩
    cases ev7
    show am_L _ _ _ _ _ [some (.ref 39), some (.int y1), o2] [.int ((k189 s 35 y1 0 0).2)] _ _
    refine am_L.mono (lt247_79 h6) ?_
    rintro o S1 ⟨e, h⟩
    have q : k247_4 s y1 = k247_79 ((k189 s 35 y1 0 0).1) ((k189 s 35 y1 0 0).2) := by unfold k247_4; rw [if_pos c4]
    rw [q]; exact ⟨e, h⟩
  · refine l12f hi_247_8 (decide_eq_false c4) ?_
    refine l2 (v := 39) hi_247_11 rfl ?_
    refine l0 hi_247_12 ?_
    refine l0 hi_247_14 ?_
    refine l0 hi_247_15 ?_
    refine l0 hi_247_16 ?_
    refine l32 (as := [.ref 39, .int 37, .int 0, .int 0, .int 0]) (la := [some (.ref 39), some (.int 37), some (.int 0), some (.int 0), some (.int 0)]) (rest := []) hi_247_17 (am_hd0 (M := 247) (by decide) 17) rfl rfl rfl (fun N' d' _ => lt189 (N := N') (d := d') h2) ?_ (fun _ q => nomatch q.1)
    rintro v10 S8 ⟨ev10, h9⟩
    cases ev10
    show am_L _ _ _ _ _ [some (.ref 39), some (.int y1), o2] [.int ((k189 s 37 0 0 0).2)] _ _
    refine am_L.mono (lt247_20 h9) ?_
    rintro o S1 ⟨e, h⟩
    have q : k247_4 s y1 = k247_20 ((k189 s 37 0 0 0).1) y1 ((k189 s 37 0 0 0).2) := by unfold k247_4; rw [if_neg c4]
    rw [q]; exact ⟨e, h⟩
/-- repeatEnd(I)V -/
noncomputable def k247 (s : kS) (x1 : Int32) : kS × Int32 := k247_4 ((k209 s).1) x1
theorem lt247 {sc : Nat × (Nat → Int32)} {N d : Nat} {S0 S : am_S} {s : kS} {x1 : Int32} (hS : MK S0 S s) : am_L (am_PP sc) N d 247 0 [some (.ref 39), some (.int x1), none] [] S (fun o S1 => o = some none ∧ MK S0 S1 (k247 s x1).1) := by
  refine l2 (v := 39) hi_247_0 rfl ?_
  refine l32 (as := [.ref 39]) (la := [some (.ref 39)]) (rest := []) hi_247_1 (am_hd0 (M := 247) (by decide) 1) rfl rfl rfl (fun N' d' _ => lt209 (N := N') (d := d') hS) ?_ (fun _ q => nomatch q.1)
  rintro v3 S1 ⟨ev3, h2⟩
  cases ev3
  show am_L _ _ _ _ _ [some (.ref 39), some (.int x1), none] [] _ _
  refine am_L.mono (lt247_4 h2) ?_
  rintro o S1 ⟨e, h⟩
  have q : k247 s x1 = k247_4 ((k209 s).1) x1 := rfl
  rw [q]; exact ⟨e, h⟩
noncomputable def k248_29 (s : kS) (y1 : Int32) (y2 : Int32) : kS × Int32 := ((k178 ((k179 s 8 y2 y1 0).1)).1, 0)
theorem lt248_29 {sc : Nat × (Nat → Int32)} {N d : Nat} {S0 S : am_S} {s : kS} {y1 : Int32} {y2 : Int32} (hS : MK S0 S s) : am_L (am_PP sc) N d 248 29 [some (.ref 39), some (.int y1), some (.int y2)] [] S (fun o S1 => o = some none ∧ MK S0 S1 (k248_29 s y1 y2).1) := by
  refine l2 (v := 39) hi_248_29 rfl ?_
  refine l0 hi_248_30 ?_
  refine l1 (v := y2) hi_248_32 rfl ?_
  refine l1 (v := y1) hi_248_33 rfl ?_
  refine l0 hi_248_34 ?_
  refine l32 (as := [.ref 39, .int 8, .int y2, .int y1, .int 0]) (la := [some (.ref 39), some (.int 8), some (.int y2), some (.int y1), some (.int 0)]) (rest := []) hi_248_35 (am_hd0 (M := 248) (by decide) 35) rfl rfl rfl (fun N' d' _ => lt179 (N := N') (d := d') hS) ?_ (fun _ q => nomatch q.1)
  rintro v3 S1 ⟨ev3, h2⟩
  cases ev3
  show am_L _ _ _ _ _ [some (.ref 39), some (.int y1), some (.int y2)] [] _ _
  refine l2 (v := 39) hi_248_38 rfl ?_
  refine l32 (as := [.ref 39]) (la := [some (.ref 39)]) (rest := []) hi_248_39 (am_hd0 (M := 248) (by decide) 39) rfl rfl rfl (fun N' d' _ => lt178 (N := N') (d := d') h2) ?_ (fun _ q => nomatch q.1)
  rintro v6 S4 ⟨ev6, h5⟩
  cases ev6
  show am_L _ _ _ _ _ [some (.ref 39), some (.int y1), some (.int y2)] [] _ _
  refine l35 hi_248_42 ⟨rfl, ?_⟩
  exact h5
noncomputable def k248_23 (s : kS) (y1 : Int32) (z0 : Int32) : kS × Int32 := k248_29 ((k177 s 0).1) y1 z0
theorem lt248_23 {sc : Nat × (Nat → Int32)} {N d : Nat} {S0 S : am_S} {s : kS} {y1 : Int32} {z0 : Int32} {o2 : Option Value} (hS : MK S0 S s) : am_L (am_PP sc) N d 248 23 [some (.ref 39), some (.int y1), o2] [.int z0] S (fun o S1 => o = some none ∧ MK S0 S1 (k248_23 s y1 z0).1) := by
  refine l3 (ls' := [some (.ref 39), some (.int y1), some (.int z0)]) hi_248_23 (Nat.le_of_ble_eq_true rfl) rfl ?_
  refine l2 (v := 39) hi_248_24 rfl ?_
  refine l0 hi_248_25 ?_
  refine l32 (as := [.ref 39, .int 0]) (la := [some (.ref 39), some (.int 0)]) (rest := []) hi_248_26 (am_hd0 (M := 248) (by decide) 26) rfl rfl rfl (fun N' d' _ => lt177 (N := N') (d := d') hS) ?_ (fun _ q => nomatch q.1)
  rintro v3 S1 ⟨ev3, h2⟩
  cases ev3
  show am_L _ _ _ _ _ [some (.ref 39), some (.int y1), some (.int z0)] [] _ _
  refine am_L.mono (lt248_29 h2) ?_
  rintro o S1 ⟨e, h⟩
  have q : k248_23 s y1 z0 = k248_29 ((k177 s 0).1) y1 z0 := rfl
  rw [q]; exact ⟨e, h⟩
noncomputable def k248_10 (s : kS) (y1 : Int32) (z0 : Int32) : kS × Int32 := if z0 ≠ 0 then k248_23 ((k189 s 35 0 0 0).1) y1 ((k189 s 35 0 0 0).2) else (s, 0)
theorem lt248_10 {sc : Nat × (Nat → Int32)} {N d : Nat} {S0 S : am_S} {s : kS} {y1 : Int32} {z0 : Int32} {o2 : Option Value} (hS : MK S0 S s) : am_L (am_PP sc) N d 248 10 [some (.ref 39), some (.int y1), o2] [.int z0] S (fun o S1 => o = some none ∧ MK S0 S1 (k248_10 s y1 z0).1) := by
  by_cases c1 : z0 ≠ 0
  · refine l12t hi_248_10 (decide_eq_true c1) ?_
    refine l2 (v := 39) hi_248_14 rfl ?_
    refine l0 hi_248_15 ?_
    refine l0 hi_248_17 ?_
    refine l0 hi_248_18 ?_
    refine l0 hi_248_19 ?_
    refine l32 (as := [.ref 39, .int 35, .int 0, .int 0, .int 0]) (la := [some (.ref 39), some (.int 35), some (.int 0), some (.int 0), some (.int 0)]) (rest := []) hi_248_20 (am_hd0 (M := 248) (by decide) 20) rfl rfl rfl (fun N' d' _ => lt189 (N := N') (d := d') hS) ?_ (fun _ q => nomatch q.1)
    rintro v4 S2 ⟨ev4, h3⟩
    cases ev4
    show am_L _ _ _ _ _ [some (.ref 39), some (.int y1), o2] [.int ((k189 s 35 0 0 0).2)] _ _
    refine am_L.mono (lt248_23 h3) ?_
    rintro o S1 ⟨e, h⟩
    have q : k248_10 s y1 z0 = k248_23 ((k189 s 35 0 0 0).1) y1 ((k189 s 35 0 0 0).2) := by unfold k248_10; rw [if_pos c1]
    rw [q]; exact ⟨e, h⟩
  · refine l12f hi_248_10 (decide_eq_false c1) ?_
    refine l35 hi_248_13 ⟨rfl, ?_⟩
    unfold k248_10; rw [if_neg c1]; exact hS
noncomputable def k248_4 (s : kS) (y1 : Int32) : kS × Int32 := k248_10 ((k193 s 28).1) y1 ((k193 s 28).2)
theorem lt248_4 {sc : Nat × (Nat → Int32)} {N d : Nat} {S0 S : am_S} {s : kS} {y1 : Int32} {o2 : Option Value} (hS : MK S0 S s) : am_L (am_PP sc) N d 248 4 [some (.ref 39), some (.int y1), o2] [] S (fun o S1 => o = some none ∧ MK S0 S1 (k248_4 s y1).1) := by
  refine l2 (v := 39) hi_248_4 rfl ?_
  refine l0 hi_248_5 ?_
  refine l32 (as := [.ref 39, .int 28]) (la := [some (.ref 39), some (.int 28)]) (rest := []) hi_248_7 (am_hd0 (M := 248) (by decide) 7) rfl rfl rfl (fun N' d' _ => lt193 (N := N') (d := d') hS) ?_ (fun _ q => nomatch q.1)
  rintro v3 S1 ⟨ev3, h2⟩
  cases ev3
  show am_L _ _ _ _ _ [some (.ref 39), some (.int y1), o2] [.int ((k193 s 28).2)] _ _
  refine am_L.mono (lt248_10 h2) ?_
  rintro o S1 ⟨e, h⟩
  have q : k248_4 s y1 = k248_10 ((k193 s 28).1) y1 ((k193 s 28).2) := rfl
  rw [q]; exact ⟨e, h⟩
/-- then(I)V -/
noncomputable def k248 (s : kS) (x1 : Int32) : kS × Int32 := k248_4 ((k209 s).1) x1
theorem lt248 {sc : Nat × (Nat → Int32)} {N d : Nat} {S0 S : am_S} {s : kS} {x1 : Int32} (hS : MK S0 S s) : am_L (am_PP sc) N d 248 0 [some (.ref 39), some (.int x1), none] [] S (fun o S1 => o = some none ∧ MK S0 S1 (k248 s x1).1) := by
  refine l2 (v := 39) hi_248_0 rfl ?_
  refine l32 (as := [.ref 39]) (la := [some (.ref 39)]) (rest := []) hi_248_1 (am_hd0 (M := 248) (by decide) 1) rfl rfl rfl (fun N' d' _ => lt209 (N := N') (d := d') hS) ?_ (fun _ q => nomatch q.1)
  rintro v3 S1 ⟨ev3, h2⟩
  cases ev3
  show am_L _ _ _ _ _ [some (.ref 39), some (.int x1), none] [] _ _
  refine am_L.mono (lt248_4 h2) ?_
  rintro o S1 ⟨e, h⟩
  have q : k248 s x1 = k248_4 ((k209 s).1) x1 := rfl
  rw [q]; exact ⟨e, h⟩
def k250b2 (t : kS × Int32) : Nat × (kS × Int32) := if t.2 ≤ 0 then (1, (t.1, t.2)) else (0, (ka t.1 71 (t.2 - 1) (k210 t.1), kr t.1 71 (t.2 - 1)))
theorem lb250_2 {sc : Nat × (Nat → Int32)} {d : Nat} {S0 : am_S} {Q : Option (Option Value) → am_S → Prop} : ∀ (N : Nat) (S : am_S) (o1 : Option Value) (o3 : Option Value) (t : kS × Int32), MK S0 S t.1 → (∀ m S1 (p1 : Option Value) (p3 : Option Value), (kwh k250b2 m t).1 = 1 → MK S0 S1 (kwh k250b2 m t).2.1 → am_L (am_PP sc) N d 250 32 [some (.ref 39), p1, some (.int ((kwh k250b2 m t).2.2)), p3] [] S1 Q) → am_L (am_PP sc) N d 250 2 [some (.ref 39), o1, some (.int t.2), o3] [] S Q := by
  intro N
  induction N with
  | zero => intros; exact l_zero
  | succ N ih =>
    intro S o1 o3 t hS kx32
    refine l1d (v := t.2) hi_250_2 rfl ?_
    by_cases c1 : t.2 ≤ 0
    · refine l12t hi_250_3 (decide_eq_true c1) ?_
      have e0 : k250b2 t = (1, (t.1, t.2)) := by unfold k250b2; rw [if_pos c1]
      have e1 : kwh k250b2 1 t = (1, (t.1, t.2)) := by rw [kwh_out (by rw [e0]; exact Nat.succ_ne_zero _), e0]
      have q := kx32 1 _ o1 o3 (by rw [e1]) (by rw [e1]; exact hS)
      try rw [e1] at q
      exact q.less (Nat.le_succ N)
    · refine l12f hi_250_3 (decide_eq_false c1) ?_
      refine l2 (v := 39) hi_250_6 rfl ?_
      refine l20 (v := .ref 90) hS hi_250_7 rfl ?_
      refine l1 (v := t.2) hi_250_10 rfl ?_
      refine l0 hi_250_11 ?_
      refine l10 hi_250_12 ?_
      show am_L _ _ _ _ _ [some (.ref 39), o1, some (.int t.2), o3] [.int (t.2 - 1), .ref 90] _ _
      refine l25 hS ma_71 hi_250_13 fun g2 g3 => ?_
      show am_L _ _ _ _ _ [some (.ref 39), o1, some (.int t.2), o3] [.int (kr t.1 71 (t.2 - 1))] _ _
      refine l3 (ls' := [some (.ref 39), o1, some (.int t.2), some (.int (kr t.1 71 (t.2 - 1)))]) hi_250_14 (Nat.le_of_ble_eq_true rfl) rfl ?_
      refine l2 (v := 39) hi_250_15 rfl ?_
      refine l20 (v := .ref 90) hS hi_250_16 rfl ?_
      refine l1 (v := t.2) hi_250_19 rfl ?_
      refine l0 hi_250_20 ?_
      refine l10 hi_250_21 ?_
      show am_L _ _ _ _ _ [some (.ref 39), o1, some (.int t.2), some (.int (kr t.1 71 (t.2 - 1)))] [.int (t.2 - 1), .ref 90] _ _
      refine l2 (v := 39) hi_250_22 rfl ?_
      refine l32 (as := [.ref 39]) (la := [some (.ref 39)]) (rest := [.int (t.2 - 1), .ref 90]) hi_250_23 (am_hd0 (M := 250) (by decide) 23) rfl rfl rfl (fun N' d' _ => lt210 (N := N') (d := d') hS) ?_ (fun _ q => nomatch q.1)
      rintro v6 S4 ⟨ev6, h5⟩
      cases ev6
      show am_L _ _ _ _ _ [some (.ref 39), o1, some (.int t.2), some (.int (kr t.1 71 (t.2 - 1)))] [.int (k210 t.1), .int (t.2 - 1), .ref 90] _ _
      refine l26 h5 ma_71 hi_250_26 fun S9 h10 g7 g8 => ?_
      refine l1 (v := kr t.1 71 (t.2 - 1)) hi_250_27 rfl ?_
      refine l3 (ls' := [some (.ref 39), o1, some (.int (kr t.1 71 (t.2 - 1))), some (.int (kr t.1 71 (t.2 - 1)))]) hi_250_28 (Nat.le_of_ble_eq_true rfl) rfl ?_
      refine l18 hi_250_29 ?_
      have e0 : k250b2 t = (0, (ka t.1 71 (t.2 - 1) (k210 t.1), kr t.1 71 (t.2 - 1))) := by unfold k250b2; rw [if_neg c1]
      have e1 : ∀ m, kwh k250b2 (m + 1) t = kwh k250b2 m (ka t.1 71 (t.2 - 1) (k210 t.1), kr t.1 71 (t.2 - 1)) := fun m => by rw [kwh_go (by rw [e0]), e0]
      exact ih _ o1 (some (.int (kr t.1 71 (t.2 - 1)))) (ka t.1 71 (t.2 - 1) (k210 t.1), kr t.1 71 (t.2 - 1)) h10 (fun m S1 p1 p3 hm h1 => by have q := kx32 (m + 1) S1 p1 p3 (by rw [e1]; exact hm) (by rw [e1]; exact h1); (try rw [e1] at q); exact q.less (Nat.le_succ N))
/-- mend(I)V -/
noncomputable def k250 (s : kS) (x1 : Int32) : kS × Int32 := ((kfin k250b2 (s, x1)).2.1, 0)
theorem lt250 {sc : Nat × (Nat → Int32)} {N d : Nat} {S0 S : am_S} {s : kS} {x1 : Int32} (hS : MK S0 S s) : am_L (am_PP sc) N d 250 0 [some (.ref 39), some (.int x1), none, none] [] S (fun o S1 => o = some none ∧ MK S0 S1 (k250 s x1).1) := by
  refine l1 (v := x1) hi_250_0 rfl ?_
  refine l3 (ls' := [some (.ref 39), some (.int x1), some (.int x1), none]) hi_250_1 (Nat.le_of_ble_eq_true rfl) rfl ?_
  refine lb250_2 N _ (some (.int x1)) none (s, x1) hS ?_
  · intro m1 S2 p6 p7 hm3 h4
    have hf5 : kfin k250b2 (s, x1) = kwh k250b2 m1 (s, x1) := kfin_eq (by rw [hm3]; decide)
    rw [← hf5] at hm3 h4
    try rw [← hf5]
    refine l35 hi_250_32 ⟨rfl, ?_⟩
    exact h4
noncomputable def k249_134 (s : kS) : kS × Int32 := ((k178 s).1, 0)
theorem lt249_134 {sc : Nat × (Nat → Int32)} {N d : Nat} {S0 S : am_S} {s : kS} {o1 : Option Value} {o2 : Option Value} {o3 : Option Value} {o4 : Option Value} (hS : MK S0 S s) : am_L (am_PP sc) N d 249 134 [some (.ref 39), o1, o2, o3, o4] [] S (fun o S1 => o = some none ∧ MK S0 S1 (k249_134 s).1) := by
  refine l2 (v := 39) hi_249_134 rfl ?_
  refine l32 (as := [.ref 39]) (la := [some (.ref 39)]) (rest := []) hi_249_135 (am_hd0 (M := 249) (by decide) 135) rfl rfl rfl (fun N' d' _ => lt178 (N := N') (d := d') hS) ?_ (fun _ q => nomatch q.1)
  rintro v3 S1 ⟨ev3, h2⟩
  cases ev3
  show am_L _ _ _ _ _ [some (.ref 39), o1, o2, o3, o4] [] _ _
  refine l18 hi_249_138 ?_
  refine l35 hi_249_148 ⟨rfl, ?_⟩
  exact h2
noncomputable def k249_124 (s : kS) (y4 : Int32) : kS × Int32 := k249_134 ((k179 s 9 y4 0 0).1)
theorem lt249_124 {sc : Nat × (Nat → Int32)} {N d : Nat} {S0 S : am_S} {s : kS} {y4 : Int32} {o1 : Option Value} {o2 : Option Value} {o3 : Option Value} (hS : MK S0 S s) : am_L (am_PP sc) N d 249 124 [some (.ref 39), o1, o2, o3, some (.int y4)] [] S (fun o S1 => o = some none ∧ MK S0 S1 (k249_124 s y4).1) := by
  refine l2 (v := 39) hi_249_124 rfl ?_
  refine l0 hi_249_125 ?_
  refine l1 (v := y4) hi_249_127 rfl ?_
  refine l0 hi_249_129 ?_
  refine l0 hi_249_130 ?_
  refine l32 (as := [.ref 39, .int 9, .int y4, .int 0, .int 0]) (la := [some (.ref 39), some (.int 9), some (.int y4), some (.int 0), some (.int 0)]) (rest := []) hi_249_131 (am_hd0 (M := 249) (by decide) 131) rfl rfl rfl (fun N' d' _ => lt179 (N := N') (d := d') hS) ?_ (fun _ q => nomatch q.1)
  rintro v3 S1 ⟨ev3, h2⟩
  cases ev3
  show am_L _ _ _ _ _ [some (.ref 39), o1, o2, o3, some (.int y4)] [] _ _
  refine am_L.mono (lt249_134 h2) ?_
  rintro o S1 ⟨e, h⟩
  have q : k249_124 s y4 = k249_134 ((k179 s 9 y4 0 0).1) := rfl
  rw [q]; exact ⟨e, h⟩
noncomputable def k249_111 (s : kS) : kS × Int32 := ((k186 s 0).1, 0)
theorem lt249_111 {sc : Nat × (Nat → Int32)} {N d : Nat} {S0 S : am_S} {s : kS} {o1 : Option Value} {o2 : Option Value} {o3 : Option Value} {o4 : Option Value} (hS : MK S0 S s) : am_L (am_PP sc) N d 249 111 [some (.ref 39), o1, o2, o3, o4] [] S (fun o S1 => o = some none ∧ MK S0 S1 (k249_111 s).1) := by
  refine l2 (v := 39) hi_249_111 rfl ?_
  refine l0 hi_249_112 ?_
  refine l32 (as := [.ref 39, .int 0]) (la := [some (.ref 39), some (.int 0)]) (rest := []) hi_249_113 (am_hd0 (M := 249) (by decide) 113) rfl rfl rfl (fun N' d' _ => lt186 (N := N') (d := d') hS) ?_ (fun _ q => nomatch q.1)
  rintro v3 S1 ⟨ev3, h2⟩
  cases ev3
  show am_L _ _ _ _ _ [some (.ref 39), o1, o2, o3, o4] [] _ _
  refine l18 hi_249_116 ?_
  refine l18 hi_249_138 ?_
  refine l35 hi_249_148 ⟨rfl, ?_⟩
  exact h2
noncomputable def k249_61 (s : kS) (y1 : Int32) (y3 : Int32) (z0 : Int32) : kS × Int32 := if y3 ≠ 14 then k249_124 ((k177 (kf (ka s 71 y1 (k210 s)) 4 ((s.1 4) + 1)) 0).1) (z0 + 1) else k249_111 ((k179 (kf (kf (ka s 71 y1 (k210 s)) 4 ((s.1 4) + 1)) 5 ((s.1 5) - 1)) 7 (z0 + 1) 0 0).1)
theorem lt249_61 {sc : Nat × (Nat → Int32)} {N d : Nat} {S0 S : am_S} {s : kS} {y1 : Int32} {y3 : Int32} {z0 : Int32} {o2 : Option Value} {o4 : Option Value} (hS : MK S0 S s) : am_L (am_PP sc) N d 249 61 [some (.ref 39), some (.int y1), o2, some (.int y3), o4] [.int z0] S (fun o S1 => o = some none ∧ MK S0 S1 (k249_61 s y1 y3 z0).1) := by
  refine l0 hi_249_61 ?_
  refine l10 hi_249_62 ?_
  show am_L _ _ _ _ _ [some (.ref 39), some (.int y1), o2, some (.int y3), o4] [.int (z0 + 1)] _ _
  refine l3 (ls' := [some (.ref 39), some (.int y1), o2, some (.int y3), some (.int (z0 + 1))]) hi_249_63 (Nat.le_of_ble_eq_true rfl) rfl ?_
  refine l2 (v := 39) hi_249_65 rfl ?_
  refine l20 (v := .ref 90) hS hi_249_66 rfl ?_
  refine l1 (v := y1) hi_249_69 rfl ?_
  refine l2 (v := 39) hi_249_70 rfl ?_
  refine l32 (as := [.ref 39]) (la := [some (.ref 39)]) (rest := [.int y1, .ref 90]) hi_249_71 (am_hd0 (M := 249) (by decide) 71) rfl rfl rfl (fun N' d' _ => lt210 (N := N') (d := d') hS) ?_ (fun _ q => nomatch q.1)
  rintro v3 S1 ⟨ev3, h2⟩
  cases ev3
  show am_L _ _ _ _ _ [some (.ref 39), some (.int y1), o2, some (.int y3), some (.int (z0 + 1))] [.int (k210 s), .int y1, .ref 90] _ _
  refine l26 h2 ma_71 hi_249_74 fun S6 h7 g4 g5 => ?_
  refine l2 (v := 39) hi_249_75 rfl ?_
  refine l7 hi_249_76 ?_
  refine l20 (v := .int (s.1 4)) h7 hi_249_77 rfl ?_
  refine l0 hi_249_80 ?_
  refine l10 hi_249_81 ?_
  show am_L _ _ _ _ _ [some (.ref 39), some (.int y1), o2, some (.int y3), some (.int (z0 + 1))] [.int ((s.1 4) + 1), .ref 39] _ _
  refine l21 h7 hi_249_82 ms_4 fun S8 h9 => ?_
  refine l1 (v := y3) hi_249_85 rfl ?_
  refine l0 hi_249_86 ?_
  by_cases c10 : y3 ≠ 14
  · refine l13t hi_249_88 (decide_eq_true c10) ?_
    refine l2 (v := 39) hi_249_119 rfl ?_
    refine l0 hi_249_120 ?_
    refine l32 (as := [.ref 39, .int 0]) (la := [some (.ref 39), some (.int 0)]) (rest := []) hi_249_121 (am_hd0 (M := 249) (by decide) 121) rfl rfl rfl (fun N' d' _ => lt177 (N := N') (d := d') h9) ?_ (fun _ q => nomatch q.1)
    rintro v13 S11 ⟨ev13, h12⟩
    cases ev13
    show am_L _ _ _ _ _ [some (.ref 39), some (.int y1), o2, some (.int y3), some (.int (z0 + 1))] [] _ _
    refine am_L.mono (lt249_124 h12) ?_
    rintro o S1 ⟨e, h⟩
    have q : k249_61 s y1 y3 z0 = k249_124 ((k177 (kf (ka s 71 y1 (k210 s)) 4 ((s.1 4) + 1)) 0).1) (z0 + 1) := by unfold k249_61; rw [if_pos c10]
    rw [q]; exact ⟨e, h⟩
  · refine l13f hi_249_88 (decide_eq_false c10) ?_
    refine l2 (v := 39) hi_249_91 rfl ?_
    refine l7 hi_249_92 ?_
    refine l20 (v := .int (s.1 5)) h9 hi_249_93 rfl ?_
    refine l0 hi_249_96 ?_
    refine l10 hi_249_97 ?_
    show am_L _ _ _ _ _ [some (.ref 39), some (.int y1), o2, some (.int y3), some (.int (z0 + 1))] [.int ((s.1 5) - 1), .ref 39] _ _
    refine l21 h9 hi_249_98 ms_5 fun S14 h15 => ?_
    refine l2 (v := 39) hi_249_101 rfl ?_
    refine l0 hi_249_102 ?_
    refine l1 (v := z0 + 1) hi_249_104 rfl ?_
    refine l0 hi_249_106 ?_
    refine l0 hi_249_107 ?_
    refine l32 (as := [.ref 39, .int 7, .int (z0 + 1), .int 0, .int 0]) (la := [some (.ref 39), some (.int 7), some (.int (z0 + 1)), some (.int 0), some (.int 0)]) (rest := []) hi_249_108 (am_hd0 (M := 249) (by decide) 108) rfl rfl rfl (fun N' d' _ => lt179 (N := N') (d := d') h15) ?_ (fun _ q => nomatch q.1)
    rintro v18 S16 ⟨ev18, h17⟩
    cases ev18
    show am_L _ _ _ _ _ [some (.ref 39), some (.int y1), o2, some (.int y3), some (.int (z0 + 1))] [] _ _
    refine am_L.mono (lt249_111 h17) ?_
    rintro o S1 ⟨e, h⟩
    have q : k249_61 s y1 y3 z0 = k249_111 ((k179 (kf (kf (ka s 71 y1 (k210 s)) 4 ((s.1 4) + 1)) 5 ((s.1 5) - 1)) 7 (z0 + 1) 0 0).1) := by unfold k249_61; rw [if_neg c10]
    rw [q]; exact ⟨e, h⟩
noncomputable def k249_52 (s : kS) (y1 : Int32) (y2 : Int32) (y3 : Int32) : kS × Int32 := k249_61 ((k189 s 36 y2 0 0).1) y1 y3 ((k189 s 36 y2 0 0).2)
theorem lt249_52 {sc : Nat × (Nat → Int32)} {N d : Nat} {S0 S : am_S} {s : kS} {y1 : Int32} {y2 : Int32} {y3 : Int32} {o4 : Option Value} (hS : MK S0 S s) : am_L (am_PP sc) N d 249 52 [some (.ref 39), some (.int y1), some (.int y2), some (.int y3), o4] [] S (fun o S1 => o = some none ∧ MK S0 S1 (k249_52 s y1 y2 y3).1) := by
  refine l2 (v := 39) hi_249_52 rfl ?_
  refine l0 hi_249_53 ?_
  refine l1 (v := y2) hi_249_55 rfl ?_
  refine l0 hi_249_56 ?_
  refine l0 hi_249_57 ?_
  refine l32 (as := [.ref 39, .int 36, .int y2, .int 0, .int 0]) (la := [some (.ref 39), some (.int 36), some (.int y2), some (.int 0), some (.int 0)]) (rest := []) hi_249_58 (am_hd0 (M := 249) (by decide) 58) rfl rfl rfl (fun N' d' _ => lt189 (N := N') (d := d') hS) ?_ (fun _ q => nomatch q.1)
  rintro v3 S1 ⟨ev3, h2⟩
  cases ev3
  show am_L _ _ _ _ _ [some (.ref 39), some (.int y1), some (.int y2), some (.int y3), o4] [.int ((k189 s 36 y2 0 0).2)] _ _
  refine am_L.mono (lt249_61 h2) ?_
  rintro o S1 ⟨e, h⟩
  have q : k249_52 s y1 y2 y3 = k249_61 ((k189 s 36 y2 0 0).1) y1 y3 ((k189 s 36 y2 0 0).2) := rfl
  rw [q]; exact ⟨e, h⟩
noncomputable def k249_21 (s : kS) (y1 : Int32) (y2 : Int32) (z0 : Int32) : kS × Int32 := ((k250 (ka s 71 y1 (k210 s)) y2).1, 0)
theorem lt249_21 {sc : Nat × (Nat → Int32)} {N d : Nat} {S0 S : am_S} {s : kS} {y1 : Int32} {y2 : Int32} {z0 : Int32} {o3 : Option Value} {o4 : Option Value} (hS : MK S0 S s) : am_L (am_PP sc) N d 249 21 [some (.ref 39), some (.int y1), some (.int y2), o3, o4] [.int z0] S (fun o S1 => o = some none ∧ MK S0 S1 (k249_21 s y1 y2 z0).1) := by
  refine l6i hi_249_21 ?_
  refine l2 (v := 39) hi_249_22 rfl ?_
  refine l20 (v := .ref 90) hS hi_249_23 rfl ?_
  refine l1 (v := y1) hi_249_26 rfl ?_
  refine l2 (v := 39) hi_249_27 rfl ?_
  refine l32 (as := [.ref 39]) (la := [some (.ref 39)]) (rest := [.int y1, .ref 90]) hi_249_28 (am_hd0 (M := 249) (by decide) 28) rfl rfl rfl (fun N' d' _ => lt210 (N := N') (d := d') hS) ?_ (fun _ q => nomatch q.1)
  rintro v3 S1 ⟨ev3, h2⟩
  cases ev3
  show am_L _ _ _ _ _ [some (.ref 39), some (.int y1), some (.int y2), o3, o4] [.int (k210 s), .int y1, .ref 90] _ _
  refine l26 h2 ma_71 hi_249_31 fun S6 h7 g4 g5 => ?_
  refine l2 (v := 39) hi_249_32 rfl ?_
  refine l1 (v := y2) hi_249_33 rfl ?_
  refine l32 (as := [.ref 39, .int y2]) (la := [some (.ref 39), some (.int y2), none, none]) (rest := []) hi_249_34 (am_hd0 (M := 249) (by decide) 34) rfl rfl rfl (fun N' d' _ => lt250 (N := N') (d := d') h7) ?_ (fun _ q => nomatch q.1)
  rintro v10 S8 ⟨ev10, h9⟩
  cases ev10
  show am_L _ _ _ _ _ [some (.ref 39), some (.int y1), some (.int y2), o3, o4] [] _ _
  refine l18 hi_249_37 ?_
  refine l35 hi_249_148 ⟨rfl, ?_⟩
  exact h9
noncomputable def k249_4 (s : kS) (y1 : Int32) (y2 : Int32) : kS × Int32 := if (k183 s) ≠ 15 then if (k183 s) = 14 then k249_52 s y1 y2 (k183 s) else if (k183 s) ≠ 13 then ((k194 s 7).1, 0) else k249_52 s y1 y2 (k183 s) else k249_21 ((k199 s 15).1) y1 y2 ((k199 s 15).2)
theorem lt249_4 {sc : Nat × (Nat → Int32)} {N d : Nat} {S0 S : am_S} {s : kS} {y1 : Int32} {y2 : Int32} {o3 : Option Value} {o4 : Option Value} (hS : MK S0 S s) : am_L (am_PP sc) N d 249 4 [some (.ref 39), some (.int y1), some (.int y2), o3, o4] [] S (fun o S1 => o = some none ∧ MK S0 S1 (k249_4 s y1 y2).1) := by
  refine l2 (v := 39) hi_249_4 rfl ?_
  refine l32 (as := [.ref 39]) (la := [some (.ref 39)]) (rest := []) hi_249_5 (am_hd0 (M := 249) (by decide) 5) rfl rfl rfl (fun N' d' _ => lt183 (N := N') (d := d') hS) ?_ (fun _ q => nomatch q.1)
  rintro v3 S1 ⟨ev3, h2⟩
  cases ev3
  show am_L _ _ _ _ _ [some (.ref 39), some (.int y1), some (.int y2), o3, o4] [.int (k183 s)] _ _
  refine l3 (ls' := [some (.ref 39), some (.int y1), some (.int y2), some (.int (k183 s)), o4]) hi_249_8 (Nat.le_of_ble_eq_true rfl) rfl ?_
  refine l1 (v := k183 s) hi_249_9 rfl ?_
  refine l0 hi_249_10 ?_
  by_cases c4 : (k183 s) ≠ 15
  · refine l13t hi_249_12 (decide_eq_true c4) ?_
    refine l1 (v := k183 s) hi_249_40 rfl ?_
    refine l0 hi_249_41 ?_
    by_cases c5 : (k183 s) = 14
    · refine l13t hi_249_43 (decide_eq_true c5) ?_
      refine am_L.mono (lt249_52 h2) ?_
      rintro o S1 ⟨e, h⟩
      have q : k249_4 s y1 y2 = k249_52 s y1 y2 (k183 s) := by unfold k249_4; rw [if_pos c4]; rw [if_pos c5]
      rw [q]; exact ⟨e, h⟩
    · refine l13f hi_249_43 (decide_eq_false c5) ?_
      refine l1 (v := k183 s) hi_249_46 rfl ?_
      refine l0 hi_249_47 ?_
      by_cases c6 : (k183 s) ≠ 13
      · refine l13t hi_249_49 (decide_eq_true c6) ?_
        refine l2 (v := 39) hi_249_141 rfl ?_
        refine l0 hi_249_142 ?_
        refine l32 (as := [.ref 39, .int 7]) (la := [some (.ref 39), some (.int 7)]) (rest := []) hi_249_144 (am_hd0 (M := 249) (by decide) 144) rfl rfl rfl (fun N' d' _ => lt194 (N := N') (d := d') h2) ?_ (fun _ q => nomatch q.1)
        rintro v9 S7 ⟨ev9, h8⟩
        cases ev9
        show am_L _ _ _ _ _ [some (.ref 39), some (.int y1), some (.int y2), some (.int (k183 s)), o4] [.int ((k194 s 7).2)] _ _
        refine l6i hi_249_147 ?_
        refine l35 hi_249_148 ⟨rfl, ?_⟩
        unfold k249_4; rw [if_pos c4]; rw [if_neg c5]; rw [if_pos c6]; exact h8
      · refine l13f hi_249_49 (decide_eq_false c6) ?_
        refine am_L.mono (lt249_52 h2) ?_
        rintro o S1 ⟨e, h⟩
        have q : k249_4 s y1 y2 = k249_52 s y1 y2 (k183 s) := by unfold k249_4; rw [if_pos c4]; rw [if_neg c5]; rw [if_neg c6]
        rw [q]; exact ⟨e, h⟩
  · refine l13f hi_249_12 (decide_eq_false c4) ?_
    refine l2 (v := 39) hi_249_15 rfl ?_
    refine l0 hi_249_16 ?_
    refine l32 (as := [.ref 39, .int 15]) (la := [some (.ref 39), some (.int 15)]) (rest := []) hi_249_18 (am_hd0 (M := 249) (by decide) 18) rfl rfl rfl (fun N' d' _ => lt199 (N := N') (d := d') h2) ?_ (fun _ q => nomatch q.1)
    rintro v12 S10 ⟨ev12, h11⟩
    cases ev12
    show am_L _ _ _ _ _ [some (.ref 39), some (.int y1), some (.int y2), some (.int (k183 s)), o4] [.int ((k199 s 15).2)] _ _
    refine am_L.mono (lt249_21 h11) ?_
    rintro o S1 ⟨e, h⟩
    have q : k249_4 s y1 y2 = k249_21 ((k199 s 15).1) y1 y2 ((k199 s 15).2) := by unfold k249_4; rw [if_neg c4]
    rw [q]; exact ⟨e, h⟩
/-- partEnd(II)V -/
noncomputable def k249 (s : kS) (x1 : Int32) (x2 : Int32) : kS × Int32 := k249_4 ((k242 s).1) x1 x2
theorem lt249 {sc : Nat × (Nat → Int32)} {N d : Nat} {S0 S : am_S} {s : kS} {x1 : Int32} {x2 : Int32} (hS : MK S0 S s) : am_L (am_PP sc) N d 249 0 [some (.ref 39), some (.int x1), some (.int x2), none, none] [] S (fun o S1 => o = some none ∧ MK S0 S1 (k249 s x1 x2).1) := by
  refine l2 (v := 39) hi_249_0 rfl ?_
  refine l32 (as := [.ref 39]) (la := [some (.ref 39)]) (rest := []) hi_249_1 (am_hd0 (M := 249) (by decide) 1) rfl rfl rfl (fun N' d' _ => lt242 (N := N') (d := d') hS) ?_ (fun _ q => nomatch q.1)
  rintro v3 S1 ⟨ev3, h2⟩
  cases ev3
  show am_L _ _ _ _ _ [some (.ref 39), some (.int x1), some (.int x2), none, none] [] _ _
  refine am_L.mono (lt249_4 h2) ?_
  rintro o S1 ⟨e, h⟩
  have q : k249 s x1 x2 = k249_4 ((k242 s).1) x1 x2 := rfl
  rw [q]; exact ⟨e, h⟩
noncomputable def k251_23 (s : kS) : kS × Int32 := ((k186 s 0).1, 0)
theorem lt251_23 {sc : Nat × (Nat → Int32)} {N d : Nat} {S0 S : am_S} {s : kS} {o1 : Option Value} (hS : MK S0 S s) : am_L (am_PP sc) N d 251 23 [some (.ref 39), o1] [] S (fun o S1 => o = some none ∧ MK S0 S1 (k251_23 s).1) := by
  refine l2 (v := 39) hi_251_23 rfl ?_
  refine l0 hi_251_24 ?_
  refine l32 (as := [.ref 39, .int 0]) (la := [some (.ref 39), some (.int 0)]) (rest := []) hi_251_25 (am_hd0 (M := 251) (by decide) 25) rfl rfl rfl (fun N' d' _ => lt186 (N := N') (d := d') hS) ?_ (fun _ q => nomatch q.1)
  rintro v3 S1 ⟨ev3, h2⟩
  cases ev3
  show am_L _ _ _ _ _ [some (.ref 39), o1] [] _ _
  refine l35 hi_251_28 ⟨rfl, ?_⟩
  exact h2
