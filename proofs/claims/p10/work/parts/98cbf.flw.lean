/-! THE CLASS: its audit of flaws (170, 168 printed by wip/p10/gen_aud2.py with wip/p5/cw.py) -/
set_option maxRecDepth 4096
def c172 (s : cS) (x1 : Nat) (x2 : Int32) : Int32 := if ¬ c159 s x2 then 1 else if s.b (x2.toInt.toNat + 1) 3 = s.b x1 2 then 0 else 1
theorem lc172 {sc : Nat × (Nat → Int32)} {N d : Nat} {A : Nat → Nat} {K : Nat} {S : am_S} {s : cS} {x1 : Nat} {x2 : Int32} (hS : CM A K S s) (hx1 : x1 ≤ K) : am_L (am_PP sc) N d 172 0 [some (.ref 32), some (.ref (A x1)), some (.int x2), none] [] S (fun o S1 => o = some (some (.int (c172 s x1 x2))) ∧ CM A K S1 s) := by
  refine l2 (v := 32) hi_172_0 rfl ?_
  refine l20s (v := .ref 5) hS cs_32 hi_172_1 rfl ?_
  refine l1 (v := x2) hi_172_4 rfl ?_
  refine l32 (as := [.ref 5, .int x2]) (la := [some (.ref 5), some (.int x2)]) (rest := []) hi_172_5 (am_hd0 (M := 172) (by decide) 5) rfl rfl rfl (fun N' d' _ => lc159 (N := N') (d := d') (x1 := x2) hS) ?_ (fun _ q => by rcases q.2 with z | z <;> exact nomatch z.2)
  rintro v3 S1 ⟨h2, (⟨g1, hk, ev3⟩ | ⟨g1, ev3⟩)⟩
  · cases ev3
    show am_L _ _ _ _ _ [some (.ref 32), some (.ref (A x1)), some (.int x2), none] [.ref (A (x2.toInt.toNat + 1))] _ _
    refine l4 (ls' := [some (.ref 32), some (.ref (A x1)), some (.int x2), some (.ref (A (x2.toInt.toNat + 1)))]) hi_172_8 (Nat.le_of_ble_eq_true rfl) rfl ?_
    refine l2 (v := (A (x2.toInt.toNat + 1))) hi_172_9 rfl ?_
    refine l14r hi_172_10 ?_
    refine l2 (v := (A (x2.toInt.toNat + 1))) hi_172_13 rfl ?_
    refine l20b (y := x2.toInt.toNat + 1) (v := .int (s.b (x2.toInt.toNat + 1) 3)) h2 hk hi_172_14 rfl ?_
    refine l2 (v := A x1) hi_172_17 rfl ?_
    refine l20b (y := x1) (v := .int (s.b x1 2)) h2 hx1 hi_172_18 rfl ?_
    by_cases c : s.b (x2.toInt.toNat + 1) 3 = s.b x1 2
    · refine l13t hi_172_21 (decide_eq_true c) ?_
      refine l0 hi_172_28 ?_
      exact l36 hi_172_29 fun _ => ⟨by unfold c172; rw [if_neg (fun z => z g1), if_pos c], h2⟩
    · refine l13f hi_172_21 (decide_eq_false c) ?_
      refine l0 hi_172_24 ?_
      refine l18 hi_172_25 ?_
      exact l36 hi_172_29 fun _ => ⟨by unfold c172; rw [if_neg (fun z => z g1), if_neg c], h2⟩
  · cases ev3
    show am_L _ _ _ _ _ [some (.ref 32), some (.ref (A x1)), some (.int x2), none] [.null] _ _
    refine l4n (ls' := [some (.ref 32), some (.ref (A x1)), some (.int x2), some .null]) hi_172_8 (Nat.le_of_ble_eq_true rfl) rfl ?_
    refine l2n hi_172_9 rfl ?_
    refine l14n hi_172_10 ?_
    refine l0 hi_172_24 ?_
    refine l18 hi_172_25 ?_
    exact l36 hi_172_29 fun _ => ⟨by unfold c172; rw [if_pos g1], h2⟩
def c170 (s : cS) (x1 : Nat) (x2 : Int32) : Int32 := if (tg s (.i x1) x2 0) = 7 then (c172 s x1 (tg s (.i x1) x2 1)) else if (tg s (.i x1) x2 0) = 8 then (c171 s x1 (tg s (.i x1) x2 1) (tg s (.i x1) x2 1)) else if (tg s (.i x1) x2 0) = 9 then (if (thas s (.u x1) (tg s (.i x1) x2 1)) ≠ 0 then 0 else 1) else if (tg s (.i x1) x2 0) = 27 then (c171 s x1 (tg s (.i x1) x2 1) (((tg s (.i x1) x2 1) + (tg s (.i x1) x2 2)) - 1)) else if (tg s (.i x1) x2 0) = 28 then (c171 s x1 (tg s (.i x1) x2 1) (tg s (.i x1) x2 1)) else if (tg s (.i x1) x2 0) = 29 then (c171 s x1 (tg s (.i x1) x2 1) (tg s (.i x1) x2 1)) else if (tg s (.i x1) x2 0) = 30 then (if (thas s (.u x1) (tg s (.i x1) x2 1)) ≠ 0 then 0 else 1) else if (tg s (.i x1) x2 0) = 33 then (if (tg s (.i x1) x2 1) < 0 then 1 else if (tg s (.i x1) x2 1) ≤ (s.b x1 7) then 0 else 1) else if (tg s (.i x1) x2 0) = 38 then (c171 s x1 (tg s (.i x1) x2 1) (tg s (.i x1) x2 1)) else if (tg s (.i x1) x2 0) = 39 then (c171 s x1 (tg s (.i x1) x2 1) ((tg s (.i x1) x2 1) + 3)) else if (tg s (.i x1) x2 0) = 40 then (c171 s x1 (tg s (.i x1) x2 1) (tg s (.i x1) x2 1)) else if (tg s (.i x1) x2 0) = 41 then (c171 s x1 (tg s (.i x1) x2 1) (tg s (.i x1) x2 1)) else if (tg s (.i x1) x2 0) = 42 then (c171 s x1 (tg s (.i x1) x2 1) ((tg s (.i x1) x2 1) + 3)) else if (tg s (.i x1) x2 0) = 43 then (c171 s x1 (tg s (.i x1) x2 1) (((tg s (.i x1) x2 1) + 3) + (tg s (.i x1) x2 2))) else if (tg s (.i x1) x2 0) = 44 then (c171 s x1 (tg s (.i x1) x2 1) ((tg s (.i x1) x2 1) + 4)) else 0
theorem lc170 {sc : Nat × (Nat → Int32)} {N d : Nat} {A : Nat → Nat} {K : Nat} {S : am_S} {s : cS} {x1 : Nat} {x2 : Int32} (hS : CM A K S s) (hx1 : x1 ≤ K) : am_L (am_PP sc) N d 170 0 [some (.ref 32), some (.ref (A x1)), some (.int x2), none] [] S (fun o S1 => o = some (some (.int (c170 s x1 x2))) ∧ CM A K S1 s) := by
  refine l2 (v := (A x1)) hi_170_0 rfl ?_
  refine l20b (v := .ref (cTa A (.i x1))) hS hx1 hi_170_1 rfl ?_
  refine l1 (v := x2) hi_170_4 rfl ?_
  refine l0 hi_170_5 ?_
  refine l32 (as := [.ref (cTa A (.i x1)), .int x2, .int 1]) (la := [some (.ref (cTa A (.i x1))), some (.int x2), some (.int 1)]) (rest := []) hi_170_6 (am_hd0 (M := 170) (by decide) 6) rfl rfl rfl (fun N' d' _ => lc54 (N := N') (d := d') (t := (.i x1)) hS (show cTl _ (.i x1) from hx1)) ?_ (fun _ q => nomatch q.1)
  rintro v3 S1 ⟨ev3, h2⟩
  cases ev3
  show am_L _ _ _ _ _ [some (.ref 32), some (.ref (A x1)), some (.int x2), none] [.int (tg s (.i x1) x2 1)] _ _
  refine l3 (ls' := [some (.ref 32), some (.ref (A x1)), some (.int x2), some (.int (tg s (.i x1) x2 1))]) hi_170_9 (Nat.le_of_ble_eq_true rfl) rfl ?_
  refine l2 (v := (A x1)) hi_170_10 rfl ?_
  refine l20b (v := .ref (cTa A (.i x1))) h2 hx1 hi_170_11 rfl ?_
  refine l1 (v := x2) hi_170_14 rfl ?_
  refine l0 hi_170_15 ?_
  refine l32 (as := [.ref (cTa A (.i x1)), .int x2, .int 0]) (la := [some (.ref (cTa A (.i x1))), some (.int x2), some (.int 0)]) (rest := []) hi_170_16 (am_hd0 (M := 170) (by decide) 16) rfl rfl rfl (fun N' d' _ => lc54 (N := N') (d := d') (t := (.i x1)) h2 (show cTl _ (.i x1) from hx1)) ?_ (fun _ q => nomatch q.1)
  rintro v6 S4 ⟨ev6, h5⟩
  cases ev6
  show am_L _ _ _ _ _ [some (.ref 32), some (.ref (A x1)), some (.int x2), some (.int (tg s (.i x1) x2 1))] [.int (tg s (.i x1) x2 0)] _ _
  by_cases cn7 : (tg s (.i x1) x2 0) = 7
  · refine l19 (t := 282) hi_170_19 (by rw [cn7]; decide) ?_
    refine l2 (v := 32) hi_170_282 rfl ?_
    refine l2 (v := (A x1)) hi_170_283 rfl ?_
    refine l1 (v := tg s (.i x1) x2 1) hi_170_284 rfl ?_
    refine l32 (as := [.ref 32, .ref (A x1), .int (tg s (.i x1) x2 1)]) (la := [some (.ref 32), some (.ref (A x1)), some (.int (tg s (.i x1) x2 1)), none]) (rest := []) hi_170_285 (am_hd0 (M := 170) (by decide) 285) rfl rfl rfl (fun N' d' _ => lc172 (N := N') (d := d') h5 hx1) ?_ (fun _ q => nomatch q.1)
    rintro v10 S8 ⟨ev10, h9⟩
    cases ev10
    show am_L _ _ _ _ _ [some (.ref 32), some (.ref (A x1)), some (.int x2), some (.int (tg s (.i x1) x2 1))] [.int (c172 s x1 (tg s (.i x1) x2 1))] _ _
    refine l36 hi_170_288 fun _ => ⟨?_, ?_⟩
    · unfold c170; rw [if_pos cn7]
    · exact h9
  by_cases cn11 : (tg s (.i x1) x2 0) = 8
  · refine l19 (t := 184) hi_170_19 (by rw [cn11]; decide) ?_
    refine l2 (v := (A x1)) hi_170_184 rfl ?_
    refine l1 (v := tg s (.i x1) x2 1) hi_170_185 rfl ?_
    refine l1 (v := tg s (.i x1) x2 1) hi_170_186 rfl ?_
    refine l32 (as := [.ref (A x1), .int (tg s (.i x1) x2 1), .int (tg s (.i x1) x2 1)]) (la := [some (.ref (A x1)), some (.int (tg s (.i x1) x2 1)), some (.int (tg s (.i x1) x2 1))]) (rest := []) hi_170_187 (am_hd0 (M := 170) (by decide) 187) rfl rfl rfl (fun N' d' _ => lc171 (N := N') (d := d') h5 hx1) ?_ (fun _ q => nomatch q.1)
    rintro v14 S12 ⟨ev14, h13⟩
    cases ev14
    show am_L _ _ _ _ _ [some (.ref 32), some (.ref (A x1)), some (.int x2), some (.int (tg s (.i x1) x2 1))] [.int (c171 s x1 (tg s (.i x1) x2 1) (tg s (.i x1) x2 1))] _ _
    refine l36 hi_170_190 fun _ => ⟨?_, ?_⟩
    · unfold c170; rw [if_neg cn7]; rw [if_pos cn11]
    · exact h13
  by_cases cn15 : (tg s (.i x1) x2 0) = 9
  · refine l19 (t := 265) hi_170_19 (by rw [cn15]; decide) ?_
    refine l2 (v := (A x1)) hi_170_265 rfl ?_
    refine l20b (v := .ref (cTa A (.u x1))) h5 hx1 hi_170_266 rfl ?_
    refine l1 (v := tg s (.i x1) x2 1) hi_170_269 rfl ?_
    refine l32 (as := [.ref (cTa A (.u x1)), .int (tg s (.i x1) x2 1)]) (la := [some (.ref (cTa A (.u x1))), some (.int (tg s (.i x1) x2 1))]) (rest := []) hi_170_270 (am_hd0 (M := 170) (by decide) 270) rfl rfl rfl (fun N' d' _ => lc161 (N := N') (d := d') (t := (.u x1)) h5 (show cTl _ (.u x1) from hx1)) ?_ (fun _ q => nomatch q.1)
    rintro v18 S16 ⟨ev18, h17⟩
    cases ev18
    show am_L _ _ _ _ _ [some (.ref 32), some (.ref (A x1)), some (.int x2), some (.int (tg s (.i x1) x2 1))] [.int (thas s (.u x1) (tg s (.i x1) x2 1))] _ _
    by_cases cn19 : (thas s (.u x1) (tg s (.i x1) x2 1)) ≠ 0
    · refine l12t hi_170_273 (decide_eq_true cn19) ?_
      refine l0 hi_170_280 ?_
      refine l36 hi_170_281 fun _ => ⟨?_, ?_⟩
      · unfold c170; rw [if_neg cn7]; rw [if_neg cn11]; rw [if_pos cn15]; rw [if_pos cn19]
      · exact h17
    · refine l12f hi_170_273 (decide_eq_false cn19) ?_
      refine l0 hi_170_276 ?_
      refine l18 hi_170_277 ?_
      refine l36 hi_170_281 fun _ => ⟨?_, ?_⟩
      · unfold c170; rw [if_neg cn7]; rw [if_neg cn11]; rw [if_pos cn15]; rw [if_neg cn19]
      · exact h17
  by_cases cn20 : (tg s (.i x1) x2 0) = 27
  · refine l19 (t := 191) hi_170_19 (by rw [cn20]; decide) ?_
    refine l2 (v := (A x1)) hi_170_191 rfl ?_
    refine l1 (v := tg s (.i x1) x2 1) hi_170_192 rfl ?_
    refine l1 (v := tg s (.i x1) x2 1) hi_170_193 rfl ?_
    refine l2 (v := (A x1)) hi_170_194 rfl ?_
    refine l20b (v := .ref (cTa A (.i x1))) h5 hx1 hi_170_195 rfl ?_
    refine l1 (v := x2) hi_170_198 rfl ?_
    refine l0 hi_170_199 ?_
    refine l32 (as := [.ref (cTa A (.i x1)), .int x2, .int 2]) (la := [some (.ref (cTa A (.i x1))), some (.int x2), some (.int 2)]) (rest := [.int (tg s (.i x1) x2 1), .int (tg s (.i x1) x2 1), .ref (A x1)]) hi_170_200 (am_hd0 (M := 170) (by decide) 200) rfl rfl rfl (fun N' d' _ => lc54 (N := N') (d := d') (t := (.i x1)) h5 (show cTl _ (.i x1) from hx1)) ?_ (fun _ q => nomatch q.1)
    rintro v23 S21 ⟨ev23, h22⟩
    cases ev23
    show am_L _ _ _ _ _ [some (.ref 32), some (.ref (A x1)), some (.int x2), some (.int (tg s (.i x1) x2 1))] [.int (tg s (.i x1) x2 2), .int (tg s (.i x1) x2 1), .int (tg s (.i x1) x2 1), .ref (A x1)] _ _
    refine l10 hi_170_203 ?_
    show am_L _ _ _ _ _ [some (.ref 32), some (.ref (A x1)), some (.int x2), some (.int (tg s (.i x1) x2 1))] [.int ((tg s (.i x1) x2 1) + (tg s (.i x1) x2 2)), .int (tg s (.i x1) x2 1), .ref (A x1)] _ _
    refine l0 hi_170_204 ?_
    refine l10 hi_170_205 ?_
    show am_L _ _ _ _ _ [some (.ref 32), some (.ref (A x1)), some (.int x2), some (.int (tg s (.i x1) x2 1))] [.int (((tg s (.i x1) x2 1) + (tg s (.i x1) x2 2)) - 1), .int (tg s (.i x1) x2 1), .ref (A x1)] _ _
    refine l32 (as := [.ref (A x1), .int (tg s (.i x1) x2 1), .int (((tg s (.i x1) x2 1) + (tg s (.i x1) x2 2)) - 1)]) (la := [some (.ref (A x1)), some (.int (tg s (.i x1) x2 1)), some (.int (((tg s (.i x1) x2 1) + (tg s (.i x1) x2 2)) - 1))]) (rest := []) hi_170_206 (am_hd0 (M := 170) (by decide) 206) rfl rfl rfl (fun N' d' _ => lc171 (N := N') (d := d') h22 hx1) ?_ (fun _ q => nomatch q.1)
    rintro v26 S24 ⟨ev26, h25⟩
    cases ev26
    show am_L _ _ _ _ _ [some (.ref 32), some (.ref (A x1)), some (.int x2), some (.int (tg s (.i x1) x2 1))] [.int (c171 s x1 (tg s (.i x1) x2 1) (((tg s (.i x1) x2 1) + (tg s (.i x1) x2 2)) - 1))] _ _
    refine l36 hi_170_209 fun _ => ⟨?_, ?_⟩
    · unfold c170; rw [if_neg cn7]; rw [if_neg cn11]; rw [if_neg cn15]; rw [if_pos cn20]
    · exact h25
  by_cases cn27 : (tg s (.i x1) x2 0) = 28
  · refine l19 (t := 184) hi_170_19 (by rw [cn27]; decide) ?_
    refine l2 (v := (A x1)) hi_170_184 rfl ?_
    refine l1 (v := tg s (.i x1) x2 1) hi_170_185 rfl ?_
    refine l1 (v := tg s (.i x1) x2 1) hi_170_186 rfl ?_
    refine l32 (as := [.ref (A x1), .int (tg s (.i x1) x2 1), .int (tg s (.i x1) x2 1)]) (la := [some (.ref (A x1)), some (.int (tg s (.i x1) x2 1)), some (.int (tg s (.i x1) x2 1))]) (rest := []) hi_170_187 (am_hd0 (M := 170) (by decide) 187) rfl rfl rfl (fun N' d' _ => lc171 (N := N') (d := d') h5 hx1) ?_ (fun _ q => nomatch q.1)
    rintro v30 S28 ⟨ev30, h29⟩
    cases ev30
    show am_L _ _ _ _ _ [some (.ref 32), some (.ref (A x1)), some (.int x2), some (.int (tg s (.i x1) x2 1))] [.int (c171 s x1 (tg s (.i x1) x2 1) (tg s (.i x1) x2 1))] _ _
    refine l36 hi_170_190 fun _ => ⟨?_, ?_⟩
    · unfold c170; rw [if_neg cn7]; rw [if_neg cn11]; rw [if_neg cn15]; rw [if_neg cn20]; rw [if_pos cn27]
    · exact h29
  by_cases cn31 : (tg s (.i x1) x2 0) = 29
  · refine l19 (t := 184) hi_170_19 (by rw [cn31]; decide) ?_
    refine l2 (v := (A x1)) hi_170_184 rfl ?_
    refine l1 (v := tg s (.i x1) x2 1) hi_170_185 rfl ?_
    refine l1 (v := tg s (.i x1) x2 1) hi_170_186 rfl ?_
    refine l32 (as := [.ref (A x1), .int (tg s (.i x1) x2 1), .int (tg s (.i x1) x2 1)]) (la := [some (.ref (A x1)), some (.int (tg s (.i x1) x2 1)), some (.int (tg s (.i x1) x2 1))]) (rest := []) hi_170_187 (am_hd0 (M := 170) (by decide) 187) rfl rfl rfl (fun N' d' _ => lc171 (N := N') (d := d') h5 hx1) ?_ (fun _ q => nomatch q.1)
    rintro v34 S32 ⟨ev34, h33⟩
    cases ev34
    show am_L _ _ _ _ _ [some (.ref 32), some (.ref (A x1)), some (.int x2), some (.int (tg s (.i x1) x2 1))] [.int (c171 s x1 (tg s (.i x1) x2 1) (tg s (.i x1) x2 1))] _ _
    refine l36 hi_170_190 fun _ => ⟨?_, ?_⟩
    · unfold c170; rw [if_neg cn7]; rw [if_neg cn11]; rw [if_neg cn15]; rw [if_neg cn20]; rw [if_neg cn27]; rw [if_pos cn31]
    · exact h33
  by_cases cn35 : (tg s (.i x1) x2 0) = 30
  · refine l19 (t := 265) hi_170_19 (by rw [cn35]; decide) ?_
    refine l2 (v := (A x1)) hi_170_265 rfl ?_
    refine l20b (v := .ref (cTa A (.u x1))) h5 hx1 hi_170_266 rfl ?_
    refine l1 (v := tg s (.i x1) x2 1) hi_170_269 rfl ?_
    refine l32 (as := [.ref (cTa A (.u x1)), .int (tg s (.i x1) x2 1)]) (la := [some (.ref (cTa A (.u x1))), some (.int (tg s (.i x1) x2 1))]) (rest := []) hi_170_270 (am_hd0 (M := 170) (by decide) 270) rfl rfl rfl (fun N' d' _ => lc161 (N := N') (d := d') (t := (.u x1)) h5 (show cTl _ (.u x1) from hx1)) ?_ (fun _ q => nomatch q.1)
    rintro v38 S36 ⟨ev38, h37⟩
    cases ev38
    show am_L _ _ _ _ _ [some (.ref 32), some (.ref (A x1)), some (.int x2), some (.int (tg s (.i x1) x2 1))] [.int (thas s (.u x1) (tg s (.i x1) x2 1))] _ _
    by_cases cn39 : (thas s (.u x1) (tg s (.i x1) x2 1)) ≠ 0
    · refine l12t hi_170_273 (decide_eq_true cn39) ?_
      refine l0 hi_170_280 ?_
      refine l36 hi_170_281 fun _ => ⟨?_, ?_⟩
      · unfold c170; rw [if_neg cn7]; rw [if_neg cn11]; rw [if_neg cn15]; rw [if_neg cn20]; rw [if_neg cn27]; rw [if_neg cn31]; rw [if_pos cn35]; rw [if_pos cn39]
      · exact h37
    · refine l12f hi_170_273 (decide_eq_false cn39) ?_
      refine l0 hi_170_276 ?_
      refine l18 hi_170_277 ?_
      refine l36 hi_170_281 fun _ => ⟨?_, ?_⟩
      · unfold c170; rw [if_neg cn7]; rw [if_neg cn11]; rw [if_neg cn15]; rw [if_neg cn20]; rw [if_neg cn27]; rw [if_neg cn31]; rw [if_pos cn35]; rw [if_neg cn39]
      · exact h37
  by_cases cn40 : (tg s (.i x1) x2 0) = 33
  · refine l19 (t := 247) hi_170_19 (by rw [cn40]; decide) ?_
    refine l1 (v := tg s (.i x1) x2 1) hi_170_247 rfl ?_
    by_cases cn41 : (tg s (.i x1) x2 1) < 0
    · refine l12t hi_170_248 (decide_eq_true cn41) ?_
      refine l0 hi_170_259 ?_
      refine l18 hi_170_260 ?_
      refine l36 hi_170_264 fun _ => ⟨?_, ?_⟩
      · unfold c170; rw [if_neg cn7]; rw [if_neg cn11]; rw [if_neg cn15]; rw [if_neg cn20]; rw [if_neg cn27]; rw [if_neg cn31]; rw [if_neg cn35]; rw [if_pos cn40]; rw [if_pos cn41]
      · exact h5
    · refine l12f hi_170_248 (decide_eq_false cn41) ?_
      refine l1 (v := tg s (.i x1) x2 1) hi_170_251 rfl ?_
      refine l2 (v := (A x1)) hi_170_252 rfl ?_
      refine l20b (v := .int (s.b x1 7)) h5 hx1 hi_170_253 rfl ?_
      by_cases cn42 : (tg s (.i x1) x2 1) ≤ (s.b x1 7)
      · refine l13t hi_170_256 (decide_eq_true cn42) ?_
        refine l0 hi_170_263 ?_
        refine l36 hi_170_264 fun _ => ⟨?_, ?_⟩
        · unfold c170; rw [if_neg cn7]; rw [if_neg cn11]; rw [if_neg cn15]; rw [if_neg cn20]; rw [if_neg cn27]; rw [if_neg cn31]; rw [if_neg cn35]; rw [if_pos cn40]; rw [if_neg cn41]; rw [if_pos cn42]
        · exact h5
      · refine l13f hi_170_256 (decide_eq_false cn42) ?_
        refine l0 hi_170_259 ?_
        refine l18 hi_170_260 ?_
        refine l36 hi_170_264 fun _ => ⟨?_, ?_⟩
        · unfold c170; rw [if_neg cn7]; rw [if_neg cn11]; rw [if_neg cn15]; rw [if_neg cn20]; rw [if_neg cn27]; rw [if_neg cn31]; rw [if_neg cn35]; rw [if_pos cn40]; rw [if_neg cn41]; rw [if_neg cn42]
        · exact h5
  by_cases cn43 : (tg s (.i x1) x2 0) = 38
  · refine l19 (t := 184) hi_170_19 (by rw [cn43]; decide) ?_
    refine l2 (v := (A x1)) hi_170_184 rfl ?_
    refine l1 (v := tg s (.i x1) x2 1) hi_170_185 rfl ?_
    refine l1 (v := tg s (.i x1) x2 1) hi_170_186 rfl ?_
    refine l32 (as := [.ref (A x1), .int (tg s (.i x1) x2 1), .int (tg s (.i x1) x2 1)]) (la := [some (.ref (A x1)), some (.int (tg s (.i x1) x2 1)), some (.int (tg s (.i x1) x2 1))]) (rest := []) hi_170_187 (am_hd0 (M := 170) (by decide) 187) rfl rfl rfl (fun N' d' _ => lc171 (N := N') (d := d') h5 hx1) ?_ (fun _ q => nomatch q.1)
    rintro v46 S44 ⟨ev46, h45⟩
    cases ev46
    show am_L _ _ _ _ _ [some (.ref 32), some (.ref (A x1)), some (.int x2), some (.int (tg s (.i x1) x2 1))] [.int (c171 s x1 (tg s (.i x1) x2 1) (tg s (.i x1) x2 1))] _ _
    refine l36 hi_170_190 fun _ => ⟨?_, ?_⟩
    · unfold c170; rw [if_neg cn7]; rw [if_neg cn11]; rw [if_neg cn15]; rw [if_neg cn20]; rw [if_neg cn27]; rw [if_neg cn31]; rw [if_neg cn35]; rw [if_neg cn40]; rw [if_pos cn43]
    · exact h45
  by_cases cn47 : (tg s (.i x1) x2 0) = 39
  · refine l19 (t := 210) hi_170_19 (by rw [cn47]; decide) ?_
    refine l2 (v := (A x1)) hi_170_210 rfl ?_
    refine l1 (v := tg s (.i x1) x2 1) hi_170_211 rfl ?_
    refine l1 (v := tg s (.i x1) x2 1) hi_170_212 rfl ?_
    refine l0 hi_170_213 ?_
    refine l10 hi_170_214 ?_
    show am_L _ _ _ _ _ [some (.ref 32), some (.ref (A x1)), some (.int x2), some (.int (tg s (.i x1) x2 1))] [.int ((tg s (.i x1) x2 1) + 3), .int (tg s (.i x1) x2 1), .ref (A x1)] _ _
    refine l32 (as := [.ref (A x1), .int (tg s (.i x1) x2 1), .int ((tg s (.i x1) x2 1) + 3)]) (la := [some (.ref (A x1)), some (.int (tg s (.i x1) x2 1)), some (.int ((tg s (.i x1) x2 1) + 3))]) (rest := []) hi_170_215 (am_hd0 (M := 170) (by decide) 215) rfl rfl rfl (fun N' d' _ => lc171 (N := N') (d := d') h5 hx1) ?_ (fun _ q => nomatch q.1)
    rintro v50 S48 ⟨ev50, h49⟩
    cases ev50
    show am_L _ _ _ _ _ [some (.ref 32), some (.ref (A x1)), some (.int x2), some (.int (tg s (.i x1) x2 1))] [.int (c171 s x1 (tg s (.i x1) x2 1) ((tg s (.i x1) x2 1) + 3))] _ _
    refine l36 hi_170_218 fun _ => ⟨?_, ?_⟩
    · unfold c170; rw [if_neg cn7]; rw [if_neg cn11]; rw [if_neg cn15]; rw [if_neg cn20]; rw [if_neg cn27]; rw [if_neg cn31]; rw [if_neg cn35]; rw [if_neg cn40]; rw [if_neg cn43]; rw [if_pos cn47]
    · exact h49
  by_cases cn51 : (tg s (.i x1) x2 0) = 40
  · refine l19 (t := 184) hi_170_19 (by rw [cn51]; decide) ?_
    refine l2 (v := (A x1)) hi_170_184 rfl ?_
    refine l1 (v := tg s (.i x1) x2 1) hi_170_185 rfl ?_
    refine l1 (v := tg s (.i x1) x2 1) hi_170_186 rfl ?_
    refine l32 (as := [.ref (A x1), .int (tg s (.i x1) x2 1), .int (tg s (.i x1) x2 1)]) (la := [some (.ref (A x1)), some (.int (tg s (.i x1) x2 1)), some (.int (tg s (.i x1) x2 1))]) (rest := []) hi_170_187 (am_hd0 (M := 170) (by decide) 187) rfl rfl rfl (fun N' d' _ => lc171 (N := N') (d := d') h5 hx1) ?_ (fun _ q => nomatch q.1)
    rintro v54 S52 ⟨ev54, h53⟩
    cases ev54
    show am_L _ _ _ _ _ [some (.ref 32), some (.ref (A x1)), some (.int x2), some (.int (tg s (.i x1) x2 1))] [.int (c171 s x1 (tg s (.i x1) x2 1) (tg s (.i x1) x2 1))] _ _
    refine l36 hi_170_190 fun _ => ⟨?_, ?_⟩
    · unfold c170; rw [if_neg cn7]; rw [if_neg cn11]; rw [if_neg cn15]; rw [if_neg cn20]; rw [if_neg cn27]; rw [if_neg cn31]; rw [if_neg cn35]; rw [if_neg cn40]; rw [if_neg cn43]; rw [if_neg cn47]; rw [if_pos cn51]
    · exact h53
  by_cases cn55 : (tg s (.i x1) x2 0) = 41
  · refine l19 (t := 184) hi_170_19 (by rw [cn55]; decide) ?_
    refine l2 (v := (A x1)) hi_170_184 rfl ?_
    refine l1 (v := tg s (.i x1) x2 1) hi_170_185 rfl ?_
    refine l1 (v := tg s (.i x1) x2 1) hi_170_186 rfl ?_
    refine l32 (as := [.ref (A x1), .int (tg s (.i x1) x2 1), .int (tg s (.i x1) x2 1)]) (la := [some (.ref (A x1)), some (.int (tg s (.i x1) x2 1)), some (.int (tg s (.i x1) x2 1))]) (rest := []) hi_170_187 (am_hd0 (M := 170) (by decide) 187) rfl rfl rfl (fun N' d' _ => lc171 (N := N') (d := d') h5 hx1) ?_ (fun _ q => nomatch q.1)
    rintro v58 S56 ⟨ev58, h57⟩
    cases ev58
    show am_L _ _ _ _ _ [some (.ref 32), some (.ref (A x1)), some (.int x2), some (.int (tg s (.i x1) x2 1))] [.int (c171 s x1 (tg s (.i x1) x2 1) (tg s (.i x1) x2 1))] _ _
    refine l36 hi_170_190 fun _ => ⟨?_, ?_⟩
    · unfold c170; rw [if_neg cn7]; rw [if_neg cn11]; rw [if_neg cn15]; rw [if_neg cn20]; rw [if_neg cn27]; rw [if_neg cn31]; rw [if_neg cn35]; rw [if_neg cn40]; rw [if_neg cn43]; rw [if_neg cn47]; rw [if_neg cn51]; rw [if_pos cn55]
    · exact h57
  by_cases cn59 : (tg s (.i x1) x2 0) = 42
  · refine l19 (t := 210) hi_170_19 (by rw [cn59]; decide) ?_
    refine l2 (v := (A x1)) hi_170_210 rfl ?_
    refine l1 (v := tg s (.i x1) x2 1) hi_170_211 rfl ?_
    refine l1 (v := tg s (.i x1) x2 1) hi_170_212 rfl ?_
    refine l0 hi_170_213 ?_
    refine l10 hi_170_214 ?_
    show am_L _ _ _ _ _ [some (.ref 32), some (.ref (A x1)), some (.int x2), some (.int (tg s (.i x1) x2 1))] [.int ((tg s (.i x1) x2 1) + 3), .int (tg s (.i x1) x2 1), .ref (A x1)] _ _
    refine l32 (as := [.ref (A x1), .int (tg s (.i x1) x2 1), .int ((tg s (.i x1) x2 1) + 3)]) (la := [some (.ref (A x1)), some (.int (tg s (.i x1) x2 1)), some (.int ((tg s (.i x1) x2 1) + 3))]) (rest := []) hi_170_215 (am_hd0 (M := 170) (by decide) 215) rfl rfl rfl (fun N' d' _ => lc171 (N := N') (d := d') h5 hx1) ?_ (fun _ q => nomatch q.1)
    rintro v62 S60 ⟨ev62, h61⟩
    cases ev62
    show am_L _ _ _ _ _ [some (.ref 32), some (.ref (A x1)), some (.int x2), some (.int (tg s (.i x1) x2 1))] [.int (c171 s x1 (tg s (.i x1) x2 1) ((tg s (.i x1) x2 1) + 3))] _ _
    refine l36 hi_170_218 fun _ => ⟨?_, ?_⟩
    · unfold c170; rw [if_neg cn7]; rw [if_neg cn11]; rw [if_neg cn15]; rw [if_neg cn20]; rw [if_neg cn27]; rw [if_neg cn31]; rw [if_neg cn35]; rw [if_neg cn40]; rw [if_neg cn43]; rw [if_neg cn47]; rw [if_neg cn51]; rw [if_neg cn55]; rw [if_pos cn59]
    · exact h61
  by_cases cn63 : (tg s (.i x1) x2 0) = 43
  · refine l19 (t := 219) hi_170_19 (by rw [cn63]; decide) ?_
    refine l2 (v := (A x1)) hi_170_219 rfl ?_
    refine l1 (v := tg s (.i x1) x2 1) hi_170_220 rfl ?_
    refine l1 (v := tg s (.i x1) x2 1) hi_170_221 rfl ?_
    refine l0 hi_170_222 ?_
    refine l10 hi_170_223 ?_
    show am_L _ _ _ _ _ [some (.ref 32), some (.ref (A x1)), some (.int x2), some (.int (tg s (.i x1) x2 1))] [.int ((tg s (.i x1) x2 1) + 3), .int (tg s (.i x1) x2 1), .ref (A x1)] _ _
    refine l2 (v := (A x1)) hi_170_224 rfl ?_
    refine l20b (v := .ref (cTa A (.i x1))) h5 hx1 hi_170_225 rfl ?_
    refine l1 (v := x2) hi_170_228 rfl ?_
    refine l0 hi_170_229 ?_
    refine l32 (as := [.ref (cTa A (.i x1)), .int x2, .int 2]) (la := [some (.ref (cTa A (.i x1))), some (.int x2), some (.int 2)]) (rest := [.int ((tg s (.i x1) x2 1) + 3), .int (tg s (.i x1) x2 1), .ref (A x1)]) hi_170_230 (am_hd0 (M := 170) (by decide) 230) rfl rfl rfl (fun N' d' _ => lc54 (N := N') (d := d') (t := (.i x1)) h5 (show cTl _ (.i x1) from hx1)) ?_ (fun _ q => nomatch q.1)
    rintro v66 S64 ⟨ev66, h65⟩
    cases ev66
    show am_L _ _ _ _ _ [some (.ref 32), some (.ref (A x1)), some (.int x2), some (.int (tg s (.i x1) x2 1))] [.int (tg s (.i x1) x2 2), .int ((tg s (.i x1) x2 1) + 3), .int (tg s (.i x1) x2 1), .ref (A x1)] _ _
    refine l10 hi_170_233 ?_
    show am_L _ _ _ _ _ [some (.ref 32), some (.ref (A x1)), some (.int x2), some (.int (tg s (.i x1) x2 1))] [.int (((tg s (.i x1) x2 1) + 3) + (tg s (.i x1) x2 2)), .int (tg s (.i x1) x2 1), .ref (A x1)] _ _
    refine l32 (as := [.ref (A x1), .int (tg s (.i x1) x2 1), .int (((tg s (.i x1) x2 1) + 3) + (tg s (.i x1) x2 2))]) (la := [some (.ref (A x1)), some (.int (tg s (.i x1) x2 1)), some (.int (((tg s (.i x1) x2 1) + 3) + (tg s (.i x1) x2 2)))]) (rest := []) hi_170_234 (am_hd0 (M := 170) (by decide) 234) rfl rfl rfl (fun N' d' _ => lc171 (N := N') (d := d') h65 hx1) ?_ (fun _ q => nomatch q.1)
    rintro v69 S67 ⟨ev69, h68⟩
    cases ev69
    show am_L _ _ _ _ _ [some (.ref 32), some (.ref (A x1)), some (.int x2), some (.int (tg s (.i x1) x2 1))] [.int (c171 s x1 (tg s (.i x1) x2 1) (((tg s (.i x1) x2 1) + 3) + (tg s (.i x1) x2 2)))] _ _
    refine l36 hi_170_237 fun _ => ⟨?_, ?_⟩
    · unfold c170; rw [if_neg cn7]; rw [if_neg cn11]; rw [if_neg cn15]; rw [if_neg cn20]; rw [if_neg cn27]; rw [if_neg cn31]; rw [if_neg cn35]; rw [if_neg cn40]; rw [if_neg cn43]; rw [if_neg cn47]; rw [if_neg cn51]; rw [if_neg cn55]; rw [if_neg cn59]; rw [if_pos cn63]
    · exact h68
  by_cases cn70 : (tg s (.i x1) x2 0) = 44
  · refine l19 (t := 238) hi_170_19 (by rw [cn70]; decide) ?_
    refine l2 (v := (A x1)) hi_170_238 rfl ?_
    refine l1 (v := tg s (.i x1) x2 1) hi_170_239 rfl ?_
    refine l1 (v := tg s (.i x1) x2 1) hi_170_240 rfl ?_
    refine l0 hi_170_241 ?_
    refine l10 hi_170_242 ?_
    show am_L _ _ _ _ _ [some (.ref 32), some (.ref (A x1)), some (.int x2), some (.int (tg s (.i x1) x2 1))] [.int ((tg s (.i x1) x2 1) + 4), .int (tg s (.i x1) x2 1), .ref (A x1)] _ _
    refine l32 (as := [.ref (A x1), .int (tg s (.i x1) x2 1), .int ((tg s (.i x1) x2 1) + 4)]) (la := [some (.ref (A x1)), some (.int (tg s (.i x1) x2 1)), some (.int ((tg s (.i x1) x2 1) + 4))]) (rest := []) hi_170_243 (am_hd0 (M := 170) (by decide) 243) rfl rfl rfl (fun N' d' _ => lc171 (N := N') (d := d') h5 hx1) ?_ (fun _ q => nomatch q.1)
    rintro v73 S71 ⟨ev73, h72⟩
    cases ev73
    show am_L _ _ _ _ _ [some (.ref 32), some (.ref (A x1)), some (.int x2), some (.int (tg s (.i x1) x2 1))] [.int (c171 s x1 (tg s (.i x1) x2 1) ((tg s (.i x1) x2 1) + 4))] _ _
    refine l36 hi_170_246 fun _ => ⟨?_, ?_⟩
    · unfold c170; rw [if_neg cn7]; rw [if_neg cn11]; rw [if_neg cn15]; rw [if_neg cn20]; rw [if_neg cn27]; rw [if_neg cn31]; rw [if_neg cn35]; rw [if_neg cn40]; rw [if_neg cn43]; rw [if_neg cn47]; rw [if_neg cn51]; rw [if_neg cn55]; rw [if_neg cn59]; rw [if_neg cn63]; rw [if_pos cn70]
    · exact h72
  refine l19 (t := 289) hi_170_19 (sw_not (ks := [7, 8, 9, 27, 28, 29, 30, 33, 38, 39, 40, 41, 42, 43, 44]) (by decide) (by intro k hk; simp only [List.mem_cons, List.not_mem_nil, or_false] at hk; rcases hk with rfl | rfl | rfl | rfl | rfl | rfl | rfl | rfl | rfl | rfl | rfl | rfl | rfl | rfl | rfl <;> first | exact cn7 | exact cn11 | exact cn15 | exact cn20 | exact cn27 | exact cn31 | exact cn35 | exact cn40 | exact cn43 | exact cn47 | exact cn51 | exact cn55 | exact cn59 | exact cn63 | exact cn70)) ?_
  refine l0 hi_170_289 ?_
  refine l36 hi_170_290 fun _ => ⟨?_, ?_⟩
  · unfold c170; rw [if_neg cn7]; rw [if_neg cn11]; rw [if_neg cn15]; rw [if_neg cn20]; rw [if_neg cn27]; rw [if_neg cn31]; rw [if_neg cn35]; rw [if_neg cn40]; rw [if_neg cn43]; rw [if_neg cn47]; rw [if_neg cn51]; rw [if_neg cn55]; rw [if_neg cn59]; rw [if_neg cn63]; rw [if_neg cn70]
  · exact h5
def c168b7 (s : cS) (y1 : Nat) (t : Int32 × Int32 × Int32) : Nat × (Int32 × Int32 × Int32) := if (s.r (.i y1)) ≤ t.2.2 then (1, (t.1, t.2.1, t.2.2)) else if (tg s (.i y1) t.2.2 0) ≠ 34 then if t.2.2 ≠ ((s.r (.i y1)) - 1) then if (t.1 + (c165 s y1 t.2.2)) < 0 then (0, (t.1 + (c165 s y1 t.2.2), t.2.1 + 1, t.2.2 + 1)) else if (c169 s y1 t.2.2) ≠ 0 then (0, (t.1 + (c165 s y1 t.2.2), t.2.1 + 1, t.2.2 + 1)) else if (c170 s y1 t.2.2) = 0 then (0, (t.1 + (c165 s y1 t.2.2), t.2.1, t.2.2 + 1)) else (0, (t.1 + (c165 s y1 t.2.2), t.2.1 + 1, t.2.2 + 1)) else if (tg s (.i y1) t.2.2 0) = 45 then if (t.1 + (c165 s y1 t.2.2)) < 0 then (0, (t.1 + (c165 s y1 t.2.2), t.2.1 + 1, t.2.2 + 1)) else if (c169 s y1 t.2.2) ≠ 0 then (0, (t.1 + (c165 s y1 t.2.2), t.2.1 + 1, t.2.2 + 1)) else if (c170 s y1 t.2.2) = 0 then (0, (t.1 + (c165 s y1 t.2.2), t.2.1, t.2.2 + 1)) else (0, (t.1 + (c165 s y1 t.2.2), t.2.1 + 1, t.2.2 + 1)) else (0, (t.1 + (c165 s y1 t.2.2), t.2.1 + 1, t.2.2 + 1)) else if t.1 ≠ 0 then (0, (t.1 + (c165 s y1 t.2.2), t.2.1 + 1, t.2.2 + 1)) else if t.2.2 ≠ ((s.r (.i y1)) - 1) then if (t.1 + (c165 s y1 t.2.2)) < 0 then (0, (t.1 + (c165 s y1 t.2.2), t.2.1 + 1, t.2.2 + 1)) else if (c169 s y1 t.2.2) ≠ 0 then (0, (t.1 + (c165 s y1 t.2.2), t.2.1 + 1, t.2.2 + 1)) else if (c170 s y1 t.2.2) = 0 then (0, (t.1 + (c165 s y1 t.2.2), t.2.1, t.2.2 + 1)) else (0, (t.1 + (c165 s y1 t.2.2), t.2.1 + 1, t.2.2 + 1)) else if (tg s (.i y1) t.2.2 0) = 45 then if (t.1 + (c165 s y1 t.2.2)) < 0 then (0, (t.1 + (c165 s y1 t.2.2), t.2.1 + 1, t.2.2 + 1)) else if (c169 s y1 t.2.2) ≠ 0 then (0, (t.1 + (c165 s y1 t.2.2), t.2.1 + 1, t.2.2 + 1)) else if (c170 s y1 t.2.2) = 0 then (0, (t.1 + (c165 s y1 t.2.2), t.2.1, t.2.2 + 1)) else (0, (t.1 + (c165 s y1 t.2.2), t.2.1 + 1, t.2.2 + 1)) else (0, (t.1 + (c165 s y1 t.2.2), t.2.1 + 1, t.2.2 + 1))
theorem lb168_7 {sc : Nat × (Nat → Int32)} {d : Nat} {A : Nat → Nat} {K : Nat} {s : cS} {y1 : Nat} {Q : Option (Option Value) → am_S → Prop} (hy1 : y1 ≤ K) : ∀ (N : Nat) (S : am_S) (o5 : Option Value) (o6 : Option Value) (t : Int32 × Int32 × Int32), CM A K S s → (∀ m S1 (p5 : Option Value) (p6 : Option Value), (kwh (c168b7 s y1) m t).1 = 1 → CM A K S1 s → am_L (am_PP sc) N d 168 116 [some (.ref 32), some (.ref (A y1)), some (.int ((kwh (c168b7 s y1) m t).2.1)), some (.int ((kwh (c168b7 s y1) m t).2.2.1)), some (.int ((kwh (c168b7 s y1) m t).2.2.2)), p5, p6] [] S1 Q) → am_L (am_PP sc) N d 168 7 [some (.ref 32), some (.ref (A y1)), some (.int t.1), some (.int t.2.1), some (.int t.2.2), o5, o6] [] S Q := by
  intro N
  induction N with
  | zero => intros; exact l_zero
  | succ N ih =>
    intro S o5 o6 t hS kx116
    refine l1d (v := t.2.2) hi_168_7 rfl ?_
    refine l2 (v := (A y1)) hi_168_9 rfl ?_
    refine l20b (v := .ref (cTa A (.i y1))) hS hy1 hi_168_10 rfl ?_
    refine l32 (as := [.ref (cTa A (.i y1))]) (la := [some (.ref (cTa A (.i y1)))]) (rest := [.int t.2.2]) hi_168_13 (am_hd0 (M := 168) (by decide) 13) rfl rfl rfl (fun N' d' _ => lc36 (N := N') (d := d') (t := (.i y1)) hS (show cTl _ (.i y1) from hy1)) ?_ (fun _ q => nomatch q.1)
    rintro v3 S1 ⟨ev3, h2⟩
    cases ev3
    show am_L _ _ _ _ _ [some (.ref 32), some (.ref (A y1)), some (.int t.1), some (.int t.2.1), some (.int t.2.2), o5, o6] [.int (s.r (.i y1)), .int t.2.2] _ _
    by_cases cn4 : (s.r (.i y1)) ≤ t.2.2
    · refine l13t hi_168_16 (decide_eq_true cn4) ?_
      have e0 : (c168b7 s y1) t = (1, (t.1, t.2.1, t.2.2)) := by unfold c168b7; rw [if_pos cn4]
      have e1 : kwh (c168b7 s y1) 1 t = (1, (t.1, t.2.1, t.2.2)) := by rw [kwh_out (by rw [e0]; exact Nat.succ_ne_zero _), e0]
      have q := kx116 1 _ o5 o6 (by rw [e1]) (by exact h2)
      try rw [e1] at q
      exact q.less (Nat.le_succ N)
    · refine l13f hi_168_16 (decide_eq_false cn4) ?_
      refine l2 (v := (A y1)) hi_168_19 rfl ?_
      refine l20b (v := .ref (cTa A (.i y1))) h2 hy1 hi_168_20 rfl ?_
      refine l1 (v := t.2.2) hi_168_23 rfl ?_
      refine l0 hi_168_25 ?_
      refine l32 (as := [.ref (cTa A (.i y1)), .int t.2.2, .int 0]) (la := [some (.ref (cTa A (.i y1))), some (.int t.2.2), some (.int 0)]) (rest := []) hi_168_26 (am_hd0 (M := 168) (by decide) 26) rfl rfl rfl (fun N' d' _ => lc54 (N := N') (d := d') (t := (.i y1)) h2 (show cTl _ (.i y1) from hy1)) ?_ (fun _ q => nomatch q.1)
      rintro v7 S5 ⟨ev7, h6⟩
      cases ev7
      show am_L _ _ _ _ _ [some (.ref 32), some (.ref (A y1)), some (.int t.1), some (.int t.2.1), some (.int t.2.2), o5, o6] [.int (tg s (.i y1) t.2.2 0)] _ _
      refine l3 (ls' := [some (.ref 32), some (.ref (A y1)), some (.int t.1), some (.int t.2.1), some (.int t.2.2), some (.int (tg s (.i y1) t.2.2 0)), o6]) hi_168_29 (Nat.le_of_ble_eq_true rfl) rfl ?_
      refine l1 (v := tg s (.i y1) t.2.2 0) hi_168_31 rfl ?_
      refine l0 hi_168_33 ?_
      by_cases cn8 : (tg s (.i y1) t.2.2 0) ≠ 34
      · refine l13t hi_168_35 (decide_eq_true cn8) ?_
        refine l1 (v := t.2.2) hi_168_42 rfl ?_
        refine l2 (v := (A y1)) hi_168_44 rfl ?_
        refine l20b (v := .ref (cTa A (.i y1))) h6 hy1 hi_168_45 rfl ?_
        refine l32 (as := [.ref (cTa A (.i y1))]) (la := [some (.ref (cTa A (.i y1)))]) (rest := [.int t.2.2]) hi_168_48 (am_hd0 (M := 168) (by decide) 48) rfl rfl rfl (fun N' d' _ => lc36 (N := N') (d := d') (t := (.i y1)) h6 (show cTl _ (.i y1) from hy1)) ?_ (fun _ q => nomatch q.1)
        rintro v11 S9 ⟨ev11, h10⟩
        cases ev11
        show am_L _ _ _ _ _ [some (.ref 32), some (.ref (A y1)), some (.int t.1), some (.int t.2.1), some (.int t.2.2), some (.int (tg s (.i y1) t.2.2 0)), o6] [.int (s.r (.i y1)), .int t.2.2] _ _
        refine l0 hi_168_51 ?_
        refine l10 hi_168_52 ?_
        show am_L _ _ _ _ _ [some (.ref 32), some (.ref (A y1)), some (.int t.1), some (.int t.2.1), some (.int t.2.2), some (.int (tg s (.i y1) t.2.2 0)), o6] [.int ((s.r (.i y1)) - 1), .int t.2.2] _ _
        by_cases cn12 : t.2.2 ≠ ((s.r (.i y1)) - 1)
        · refine l13t hi_168_53 (decide_eq_true cn12) ?_
          refine l0 hi_168_67 ?_
          refine l3 (ls' := [some (.ref 32), some (.ref (A y1)), some (.int t.1), some (.int t.2.1), some (.int t.2.2), some (.int (tg s (.i y1) t.2.2 0)), some (.int 0)]) hi_168_68 (Nat.le_of_ble_eq_true rfl) rfl ?_
          refine l1 (v := t.1) hi_168_70 rfl ?_
          refine l2 (v := (A y1)) hi_168_71 rfl ?_
          refine l1 (v := t.2.2) hi_168_72 rfl ?_
          refine l32 (as := [.ref (A y1), .int t.2.2]) (la := [some (.ref (A y1)), some (.int t.2.2), none, none, none]) (rest := [.int t.1]) hi_168_74 (am_hd0 (M := 168) (by decide) 74) rfl rfl rfl (fun N' d' _ => lc165 (N := N') (d := d') h10 hy1) ?_ (fun _ q => nomatch q.1)
          rintro v15 S13 ⟨ev15, h14⟩
          cases ev15
          show am_L _ _ _ _ _ [some (.ref 32), some (.ref (A y1)), some (.int t.1), some (.int t.2.1), some (.int t.2.2), some (.int (tg s (.i y1) t.2.2 0)), some (.int 0)] [.int (c165 s y1 t.2.2), .int t.1] _ _
          refine l10 hi_168_77 ?_
          show am_L _ _ _ _ _ [some (.ref 32), some (.ref (A y1)), some (.int t.1), some (.int t.2.1), some (.int t.2.2), some (.int (tg s (.i y1) t.2.2 0)), some (.int 0)] [.int (t.1 + (c165 s y1 t.2.2))] _ _
          refine l3 (ls' := [some (.ref 32), some (.ref (A y1)), some (.int (t.1 + (c165 s y1 t.2.2))), some (.int t.2.1), some (.int t.2.2), some (.int (tg s (.i y1) t.2.2 0)), some (.int 0)]) hi_168_78 (Nat.le_of_ble_eq_true rfl) rfl ?_
          refine l1 (v := 0) hi_168_79 rfl ?_
          refine l12f hi_168_81 (by decide) ?_
          refine l1 (v := t.1 + (c165 s y1 t.2.2)) hi_168_84 rfl ?_
          by_cases cn16 : (t.1 + (c165 s y1 t.2.2)) < 0
          · refine l12t hi_168_85 (decide_eq_true cn16) ?_
            refine l5 (v := t.2.1) (ls' := [some (.ref 32), some (.ref (A y1)), some (.int (t.1 + (c165 s y1 t.2.2))), some (.int (t.2.1 + 1)), some (.int t.2.2), some (.int (tg s (.i y1) t.2.2 0)), some (.int 0)]) hi_168_107 rfl rfl ?_
            refine l5 (v := t.2.2) (ls' := [some (.ref 32), some (.ref (A y1)), some (.int (t.1 + (c165 s y1 t.2.2))), some (.int (t.2.1 + 1)), some (.int (t.2.2 + 1)), some (.int (tg s (.i y1) t.2.2 0)), some (.int 0)]) hi_168_110 rfl rfl ?_
            refine l18 hi_168_113 ?_
            have e0 : (c168b7 s y1) t = (0, (t.1 + (c165 s y1 t.2.2), t.2.1 + 1, t.2.2 + 1)) := by unfold c168b7; rw [if_neg cn4]; rw [if_pos cn8]; rw [if_pos cn12]; rw [if_pos cn16]
            have e1 : ∀ m, kwh (c168b7 s y1) (m + 1) t = kwh (c168b7 s y1) m (t.1 + (c165 s y1 t.2.2), t.2.1 + 1, t.2.2 + 1) := fun m => by rw [kwh_go (by rw [e0]), e0]
            exact ih _ (some (.int (tg s (.i y1) t.2.2 0))) (some (.int 0)) (t.1 + (c165 s y1 t.2.2), t.2.1 + 1, t.2.2 + 1) h14 (fun m S1 p5 p6 hm h1 => by have q := kx116 (m + 1) S1 p5 p6 (by rw [e1]; exact hm) (by exact h1); (try rw [e1] at q); exact q.less (Nat.le_succ N))
          · refine l12f hi_168_85 (decide_eq_false cn16) ?_
            refine l2 (v := (A y1)) hi_168_88 rfl ?_
            refine l1 (v := t.2.2) hi_168_89 rfl ?_
            refine l32 (as := [.ref (A y1), .int t.2.2]) (la := [some (.ref (A y1)), some (.int t.2.2), none]) (rest := []) hi_168_91 (am_hd0 (M := 168) (by decide) 91) rfl rfl rfl (fun N' d' _ => lc169 (N := N') (d := d') h14 hy1) ?_ (fun _ q => nomatch q.1)
            rintro v19 S17 ⟨ev19, h18⟩
            cases ev19
            show am_L _ _ _ _ _ [some (.ref 32), some (.ref (A y1)), some (.int (t.1 + (c165 s y1 t.2.2))), some (.int t.2.1), some (.int t.2.2), some (.int (tg s (.i y1) t.2.2 0)), some (.int 0)] [.int (c169 s y1 t.2.2)] _ _
            by_cases cn20 : (c169 s y1 t.2.2) ≠ 0
            · refine l12t hi_168_94 (decide_eq_true cn20) ?_
              refine l5 (v := t.2.1) (ls' := [some (.ref 32), some (.ref (A y1)), some (.int (t.1 + (c165 s y1 t.2.2))), some (.int (t.2.1 + 1)), some (.int t.2.2), some (.int (tg s (.i y1) t.2.2 0)), some (.int 0)]) hi_168_107 rfl rfl ?_
              refine l5 (v := t.2.2) (ls' := [some (.ref 32), some (.ref (A y1)), some (.int (t.1 + (c165 s y1 t.2.2))), some (.int (t.2.1 + 1)), some (.int (t.2.2 + 1)), some (.int (tg s (.i y1) t.2.2 0)), some (.int 0)]) hi_168_110 rfl rfl ?_
              refine l18 hi_168_113 ?_
              have e0 : (c168b7 s y1) t = (0, (t.1 + (c165 s y1 t.2.2), t.2.1 + 1, t.2.2 + 1)) := by unfold c168b7; rw [if_neg cn4]; rw [if_pos cn8]; rw [if_pos cn12]; rw [if_neg cn16]; rw [if_pos cn20]
              have e1 : ∀ m, kwh (c168b7 s y1) (m + 1) t = kwh (c168b7 s y1) m (t.1 + (c165 s y1 t.2.2), t.2.1 + 1, t.2.2 + 1) := fun m => by rw [kwh_go (by rw [e0]), e0]
              exact ih _ (some (.int (tg s (.i y1) t.2.2 0))) (some (.int 0)) (t.1 + (c165 s y1 t.2.2), t.2.1 + 1, t.2.2 + 1) h18 (fun m S1 p5 p6 hm h1 => by have q := kx116 (m + 1) S1 p5 p6 (by rw [e1]; exact hm) (by exact h1); (try rw [e1] at q); exact q.less (Nat.le_succ N))
            · refine l12f hi_168_94 (decide_eq_false cn20) ?_
              refine l2 (v := 32) hi_168_97 rfl ?_
              refine l2 (v := (A y1)) hi_168_98 rfl ?_
              refine l1 (v := t.2.2) hi_168_99 rfl ?_
              refine l32 (as := [.ref 32, .ref (A y1), .int t.2.2]) (la := [some (.ref 32), some (.ref (A y1)), some (.int t.2.2), none]) (rest := []) hi_168_101 (am_hd0 (M := 168) (by decide) 101) rfl rfl rfl (fun N' d' _ => lc170 (N := N') (d := d') h18 hy1) ?_ (fun _ q => nomatch q.1)
              rintro v23 S21 ⟨ev23, h22⟩
              cases ev23
              show am_L _ _ _ _ _ [some (.ref 32), some (.ref (A y1)), some (.int (t.1 + (c165 s y1 t.2.2))), some (.int t.2.1), some (.int t.2.2), some (.int (tg s (.i y1) t.2.2 0)), some (.int 0)] [.int (c170 s y1 t.2.2)] _ _
              by_cases cn24 : (c170 s y1 t.2.2) = 0
              · refine l12t hi_168_104 (decide_eq_true cn24) ?_
                refine l5 (v := t.2.2) (ls' := [some (.ref 32), some (.ref (A y1)), some (.int (t.1 + (c165 s y1 t.2.2))), some (.int t.2.1), some (.int (t.2.2 + 1)), some (.int (tg s (.i y1) t.2.2 0)), some (.int 0)]) hi_168_110 rfl rfl ?_
                refine l18 hi_168_113 ?_
                have e0 : (c168b7 s y1) t = (0, (t.1 + (c165 s y1 t.2.2), t.2.1, t.2.2 + 1)) := by unfold c168b7; rw [if_neg cn4]; rw [if_pos cn8]; rw [if_pos cn12]; rw [if_neg cn16]; rw [if_neg cn20]; rw [if_pos cn24]
                have e1 : ∀ m, kwh (c168b7 s y1) (m + 1) t = kwh (c168b7 s y1) m (t.1 + (c165 s y1 t.2.2), t.2.1, t.2.2 + 1) := fun m => by rw [kwh_go (by rw [e0]), e0]
                exact ih _ (some (.int (tg s (.i y1) t.2.2 0))) (some (.int 0)) (t.1 + (c165 s y1 t.2.2), t.2.1, t.2.2 + 1) h22 (fun m S1 p5 p6 hm h1 => by have q := kx116 (m + 1) S1 p5 p6 (by rw [e1]; exact hm) (by exact h1); (try rw [e1] at q); exact q.less (Nat.le_succ N))
              · refine l12f hi_168_104 (decide_eq_false cn24) ?_
                refine l5 (v := t.2.1) (ls' := [some (.ref 32), some (.ref (A y1)), some (.int (t.1 + (c165 s y1 t.2.2))), some (.int (t.2.1 + 1)), some (.int t.2.2), some (.int (tg s (.i y1) t.2.2 0)), some (.int 0)]) hi_168_107 rfl rfl ?_
                refine l5 (v := t.2.2) (ls' := [some (.ref 32), some (.ref (A y1)), some (.int (t.1 + (c165 s y1 t.2.2))), some (.int (t.2.1 + 1)), some (.int (t.2.2 + 1)), some (.int (tg s (.i y1) t.2.2 0)), some (.int 0)]) hi_168_110 rfl rfl ?_
                refine l18 hi_168_113 ?_
                have e0 : (c168b7 s y1) t = (0, (t.1 + (c165 s y1 t.2.2), t.2.1 + 1, t.2.2 + 1)) := by unfold c168b7; rw [if_neg cn4]; rw [if_pos cn8]; rw [if_pos cn12]; rw [if_neg cn16]; rw [if_neg cn20]; rw [if_neg cn24]
                have e1 : ∀ m, kwh (c168b7 s y1) (m + 1) t = kwh (c168b7 s y1) m (t.1 + (c165 s y1 t.2.2), t.2.1 + 1, t.2.2 + 1) := fun m => by rw [kwh_go (by rw [e0]), e0]
                exact ih _ (some (.int (tg s (.i y1) t.2.2 0))) (some (.int 0)) (t.1 + (c165 s y1 t.2.2), t.2.1 + 1, t.2.2 + 1) h22 (fun m S1 p5 p6 hm h1 => by have q := kx116 (m + 1) S1 p5 p6 (by rw [e1]; exact hm) (by exact h1); (try rw [e1] at q); exact q.less (Nat.le_succ N))
        · refine l13f hi_168_53 (decide_eq_false cn12) ?_
          refine l1 (v := tg s (.i y1) t.2.2 0) hi_168_56 rfl ?_
          refine l0 hi_168_58 ?_
          by_cases cn25 : (tg s (.i y1) t.2.2 0) = 45
          · refine l13t hi_168_60 (decide_eq_true cn25) ?_
            refine l0 hi_168_67 ?_
            refine l3 (ls' := [some (.ref 32), some (.ref (A y1)), some (.int t.1), some (.int t.2.1), some (.int t.2.2), some (.int (tg s (.i y1) t.2.2 0)), some (.int 0)]) hi_168_68 (Nat.le_of_ble_eq_true rfl) rfl ?_
            refine l1 (v := t.1) hi_168_70 rfl ?_
            refine l2 (v := (A y1)) hi_168_71 rfl ?_
            refine l1 (v := t.2.2) hi_168_72 rfl ?_
            refine l32 (as := [.ref (A y1), .int t.2.2]) (la := [some (.ref (A y1)), some (.int t.2.2), none, none, none]) (rest := [.int t.1]) hi_168_74 (am_hd0 (M := 168) (by decide) 74) rfl rfl rfl (fun N' d' _ => lc165 (N := N') (d := d') h10 hy1) ?_ (fun _ q => nomatch q.1)
            rintro v28 S26 ⟨ev28, h27⟩
            cases ev28
            show am_L _ _ _ _ _ [some (.ref 32), some (.ref (A y1)), some (.int t.1), some (.int t.2.1), some (.int t.2.2), some (.int (tg s (.i y1) t.2.2 0)), some (.int 0)] [.int (c165 s y1 t.2.2), .int t.1] _ _
            refine l10 hi_168_77 ?_
            show am_L _ _ _ _ _ [some (.ref 32), some (.ref (A y1)), some (.int t.1), some (.int t.2.1), some (.int t.2.2), some (.int (tg s (.i y1) t.2.2 0)), some (.int 0)] [.int (t.1 + (c165 s y1 t.2.2))] _ _
            refine l3 (ls' := [some (.ref 32), some (.ref (A y1)), some (.int (t.1 + (c165 s y1 t.2.2))), some (.int t.2.1), some (.int t.2.2), some (.int (tg s (.i y1) t.2.2 0)), some (.int 0)]) hi_168_78 (Nat.le_of_ble_eq_true rfl) rfl ?_
            refine l1 (v := 0) hi_168_79 rfl ?_
            refine l12f hi_168_81 (by decide) ?_
            refine l1 (v := t.1 + (c165 s y1 t.2.2)) hi_168_84 rfl ?_
            by_cases cn29 : (t.1 + (c165 s y1 t.2.2)) < 0
            · refine l12t hi_168_85 (decide_eq_true cn29) ?_
              refine l5 (v := t.2.1) (ls' := [some (.ref 32), some (.ref (A y1)), some (.int (t.1 + (c165 s y1 t.2.2))), some (.int (t.2.1 + 1)), some (.int t.2.2), some (.int (tg s (.i y1) t.2.2 0)), some (.int 0)]) hi_168_107 rfl rfl ?_
              refine l5 (v := t.2.2) (ls' := [some (.ref 32), some (.ref (A y1)), some (.int (t.1 + (c165 s y1 t.2.2))), some (.int (t.2.1 + 1)), some (.int (t.2.2 + 1)), some (.int (tg s (.i y1) t.2.2 0)), some (.int 0)]) hi_168_110 rfl rfl ?_
              refine l18 hi_168_113 ?_
              have e0 : (c168b7 s y1) t = (0, (t.1 + (c165 s y1 t.2.2), t.2.1 + 1, t.2.2 + 1)) := by unfold c168b7; rw [if_neg cn4]; rw [if_pos cn8]; rw [if_neg cn12]; rw [if_pos cn25]; rw [if_pos cn29]
              have e1 : ∀ m, kwh (c168b7 s y1) (m + 1) t = kwh (c168b7 s y1) m (t.1 + (c165 s y1 t.2.2), t.2.1 + 1, t.2.2 + 1) := fun m => by rw [kwh_go (by rw [e0]), e0]
              exact ih _ (some (.int (tg s (.i y1) t.2.2 0))) (some (.int 0)) (t.1 + (c165 s y1 t.2.2), t.2.1 + 1, t.2.2 + 1) h27 (fun m S1 p5 p6 hm h1 => by have q := kx116 (m + 1) S1 p5 p6 (by rw [e1]; exact hm) (by exact h1); (try rw [e1] at q); exact q.less (Nat.le_succ N))
            · refine l12f hi_168_85 (decide_eq_false cn29) ?_
              refine l2 (v := (A y1)) hi_168_88 rfl ?_
              refine l1 (v := t.2.2) hi_168_89 rfl ?_
              refine l32 (as := [.ref (A y1), .int t.2.2]) (la := [some (.ref (A y1)), some (.int t.2.2), none]) (rest := []) hi_168_91 (am_hd0 (M := 168) (by decide) 91) rfl rfl rfl (fun N' d' _ => lc169 (N := N') (d := d') h27 hy1) ?_ (fun _ q => nomatch q.1)
              rintro v32 S30 ⟨ev32, h31⟩
              cases ev32
              show am_L _ _ _ _ _ [some (.ref 32), some (.ref (A y1)), some (.int (t.1 + (c165 s y1 t.2.2))), some (.int t.2.1), some (.int t.2.2), some (.int (tg s (.i y1) t.2.2 0)), some (.int 0)] [.int (c169 s y1 t.2.2)] _ _
              by_cases cn33 : (c169 s y1 t.2.2) ≠ 0
              · refine l12t hi_168_94 (decide_eq_true cn33) ?_
                refine l5 (v := t.2.1) (ls' := [some (.ref 32), some (.ref (A y1)), some (.int (t.1 + (c165 s y1 t.2.2))), some (.int (t.2.1 + 1)), some (.int t.2.2), some (.int (tg s (.i y1) t.2.2 0)), some (.int 0)]) hi_168_107 rfl rfl ?_
                refine l5 (v := t.2.2) (ls' := [some (.ref 32), some (.ref (A y1)), some (.int (t.1 + (c165 s y1 t.2.2))), some (.int (t.2.1 + 1)), some (.int (t.2.2 + 1)), some (.int (tg s (.i y1) t.2.2 0)), some (.int 0)]) hi_168_110 rfl rfl ?_
                refine l18 hi_168_113 ?_
                have e0 : (c168b7 s y1) t = (0, (t.1 + (c165 s y1 t.2.2), t.2.1 + 1, t.2.2 + 1)) := by unfold c168b7; rw [if_neg cn4]; rw [if_pos cn8]; rw [if_neg cn12]; rw [if_pos cn25]; rw [if_neg cn29]; rw [if_pos cn33]
                have e1 : ∀ m, kwh (c168b7 s y1) (m + 1) t = kwh (c168b7 s y1) m (t.1 + (c165 s y1 t.2.2), t.2.1 + 1, t.2.2 + 1) := fun m => by rw [kwh_go (by rw [e0]), e0]
                exact ih _ (some (.int (tg s (.i y1) t.2.2 0))) (some (.int 0)) (t.1 + (c165 s y1 t.2.2), t.2.1 + 1, t.2.2 + 1) h31 (fun m S1 p5 p6 hm h1 => by have q := kx116 (m + 1) S1 p5 p6 (by rw [e1]; exact hm) (by exact h1); (try rw [e1] at q); exact q.less (Nat.le_succ N))
              · refine l12f hi_168_94 (decide_eq_false cn33) ?_
                refine l2 (v := 32) hi_168_97 rfl ?_
                refine l2 (v := (A y1)) hi_168_98 rfl ?_
                refine l1 (v := t.2.2) hi_168_99 rfl ?_
                refine l32 (as := [.ref 32, .ref (A y1), .int t.2.2]) (la := [some (.ref 32), some (.ref (A y1)), some (.int t.2.2), none]) (rest := []) hi_168_101 (am_hd0 (M := 168) (by decide) 101) rfl rfl rfl (fun N' d' _ => lc170 (N := N') (d := d') h31 hy1) ?_ (fun _ q => nomatch q.1)
                rintro v36 S34 ⟨ev36, h35⟩
                cases ev36
                show am_L _ _ _ _ _ [some (.ref 32), some (.ref (A y1)), some (.int (t.1 + (c165 s y1 t.2.2))), some (.int t.2.1), some (.int t.2.2), some (.int (tg s (.i y1) t.2.2 0)), some (.int 0)] [.int (c170 s y1 t.2.2)] _ _
                by_cases cn37 : (c170 s y1 t.2.2) = 0
                · refine l12t hi_168_104 (decide_eq_true cn37) ?_
                  refine l5 (v := t.2.2) (ls' := [some (.ref 32), some (.ref (A y1)), some (.int (t.1 + (c165 s y1 t.2.2))), some (.int t.2.1), some (.int (t.2.2 + 1)), some (.int (tg s (.i y1) t.2.2 0)), some (.int 0)]) hi_168_110 rfl rfl ?_
                  refine l18 hi_168_113 ?_
                  have e0 : (c168b7 s y1) t = (0, (t.1 + (c165 s y1 t.2.2), t.2.1, t.2.2 + 1)) := by unfold c168b7; rw [if_neg cn4]; rw [if_pos cn8]; rw [if_neg cn12]; rw [if_pos cn25]; rw [if_neg cn29]; rw [if_neg cn33]; rw [if_pos cn37]
                  have e1 : ∀ m, kwh (c168b7 s y1) (m + 1) t = kwh (c168b7 s y1) m (t.1 + (c165 s y1 t.2.2), t.2.1, t.2.2 + 1) := fun m => by rw [kwh_go (by rw [e0]), e0]
                  exact ih _ (some (.int (tg s (.i y1) t.2.2 0))) (some (.int 0)) (t.1 + (c165 s y1 t.2.2), t.2.1, t.2.2 + 1) h35 (fun m S1 p5 p6 hm h1 => by have q := kx116 (m + 1) S1 p5 p6 (by rw [e1]; exact hm) (by exact h1); (try rw [e1] at q); exact q.less (Nat.le_succ N))
                · refine l12f hi_168_104 (decide_eq_false cn37) ?_
                  refine l5 (v := t.2.1) (ls' := [some (.ref 32), some (.ref (A y1)), some (.int (t.1 + (c165 s y1 t.2.2))), some (.int (t.2.1 + 1)), some (.int t.2.2), some (.int (tg s (.i y1) t.2.2 0)), some (.int 0)]) hi_168_107 rfl rfl ?_
                  refine l5 (v := t.2.2) (ls' := [some (.ref 32), some (.ref (A y1)), some (.int (t.1 + (c165 s y1 t.2.2))), some (.int (t.2.1 + 1)), some (.int (t.2.2 + 1)), some (.int (tg s (.i y1) t.2.2 0)), some (.int 0)]) hi_168_110 rfl rfl ?_
                  refine l18 hi_168_113 ?_
                  have e0 : (c168b7 s y1) t = (0, (t.1 + (c165 s y1 t.2.2), t.2.1 + 1, t.2.2 + 1)) := by unfold c168b7; rw [if_neg cn4]; rw [if_pos cn8]; rw [if_neg cn12]; rw [if_pos cn25]; rw [if_neg cn29]; rw [if_neg cn33]; rw [if_neg cn37]
                  have e1 : ∀ m, kwh (c168b7 s y1) (m + 1) t = kwh (c168b7 s y1) m (t.1 + (c165 s y1 t.2.2), t.2.1 + 1, t.2.2 + 1) := fun m => by rw [kwh_go (by rw [e0]), e0]
                  exact ih _ (some (.int (tg s (.i y1) t.2.2 0))) (some (.int 0)) (t.1 + (c165 s y1 t.2.2), t.2.1 + 1, t.2.2 + 1) h35 (fun m S1 p5 p6 hm h1 => by have q := kx116 (m + 1) S1 p5 p6 (by rw [e1]; exact hm) (by exact h1); (try rw [e1] at q); exact q.less (Nat.le_succ N))
          · refine l13f hi_168_60 (decide_eq_false cn25) ?_
            refine l0 hi_168_63 ?_
            refine l18 hi_168_64 ?_
            refine l3 (ls' := [some (.ref 32), some (.ref (A y1)), some (.int t.1), some (.int t.2.1), some (.int t.2.2), some (.int (tg s (.i y1) t.2.2 0)), some (.int 1)]) hi_168_68 (Nat.le_of_ble_eq_true rfl) rfl ?_
            refine l1 (v := t.1) hi_168_70 rfl ?_
            refine l2 (v := (A y1)) hi_168_71 rfl ?_
            refine l1 (v := t.2.2) hi_168_72 rfl ?_
            refine l32 (as := [.ref (A y1), .int t.2.2]) (la := [some (.ref (A y1)), some (.int t.2.2), none, none, none]) (rest := [.int t.1]) hi_168_74 (am_hd0 (M := 168) (by decide) 74) rfl rfl rfl (fun N' d' _ => lc165 (N := N') (d := d') h10 hy1) ?_ (fun _ q => nomatch q.1)
            rintro v40 S38 ⟨ev40, h39⟩
            cases ev40
            show am_L _ _ _ _ _ [some (.ref 32), some (.ref (A y1)), some (.int t.1), some (.int t.2.1), some (.int t.2.2), some (.int (tg s (.i y1) t.2.2 0)), some (.int 1)] [.int (c165 s y1 t.2.2), .int t.1] _ _
            refine l10 hi_168_77 ?_
            show am_L _ _ _ _ _ [some (.ref 32), some (.ref (A y1)), some (.int t.1), some (.int t.2.1), some (.int t.2.2), some (.int (tg s (.i y1) t.2.2 0)), some (.int 1)] [.int (t.1 + (c165 s y1 t.2.2))] _ _
            refine l3 (ls' := [some (.ref 32), some (.ref (A y1)), some (.int (t.1 + (c165 s y1 t.2.2))), some (.int t.2.1), some (.int t.2.2), some (.int (tg s (.i y1) t.2.2 0)), some (.int 1)]) hi_168_78 (Nat.le_of_ble_eq_true rfl) rfl ?_
            refine l1 (v := 1) hi_168_79 rfl ?_
            refine l12t hi_168_81 (by decide) ?_
            refine l5 (v := t.2.1) (ls' := [some (.ref 32), some (.ref (A y1)), some (.int (t.1 + (c165 s y1 t.2.2))), some (.int (t.2.1 + 1)), some (.int t.2.2), some (.int (tg s (.i y1) t.2.2 0)), some (.int 1)]) hi_168_107 rfl rfl ?_
            refine l5 (v := t.2.2) (ls' := [some (.ref 32), some (.ref (A y1)), some (.int (t.1 + (c165 s y1 t.2.2))), some (.int (t.2.1 + 1)), some (.int (t.2.2 + 1)), some (.int (tg s (.i y1) t.2.2 0)), some (.int 1)]) hi_168_110 rfl rfl ?_
            refine l18 hi_168_113 ?_
            have e0 : (c168b7 s y1) t = (0, (t.1 + (c165 s y1 t.2.2), t.2.1 + 1, t.2.2 + 1)) := by unfold c168b7; rw [if_neg cn4]; rw [if_pos cn8]; rw [if_neg cn12]; rw [if_neg cn25]
            have e1 : ∀ m, kwh (c168b7 s y1) (m + 1) t = kwh (c168b7 s y1) m (t.1 + (c165 s y1 t.2.2), t.2.1 + 1, t.2.2 + 1) := fun m => by rw [kwh_go (by rw [e0]), e0]
            exact ih _ (some (.int (tg s (.i y1) t.2.2 0))) (some (.int 1)) (t.1 + (c165 s y1 t.2.2), t.2.1 + 1, t.2.2 + 1) h39 (fun m S1 p5 p6 hm h1 => by have q := kx116 (m + 1) S1 p5 p6 (by rw [e1]; exact hm) (by exact h1); (try rw [e1] at q); exact q.less (Nat.le_succ N))
      · refine l13f hi_168_35 (decide_eq_false cn8) ?_
        refine l1 (v := t.1) hi_168_38 rfl ?_
        by_cases cn41 : t.1 ≠ 0
        · refine l12t hi_168_39 (decide_eq_true cn41) ?_
          refine l0 hi_168_63 ?_
          refine l18 hi_168_64 ?_
          refine l3 (ls' := [some (.ref 32), some (.ref (A y1)), some (.int t.1), some (.int t.2.1), some (.int t.2.2), some (.int (tg s (.i y1) t.2.2 0)), some (.int 1)]) hi_168_68 (Nat.le_of_ble_eq_true rfl) rfl ?_
          refine l1 (v := t.1) hi_168_70 rfl ?_
          refine l2 (v := (A y1)) hi_168_71 rfl ?_
          refine l1 (v := t.2.2) hi_168_72 rfl ?_
          refine l32 (as := [.ref (A y1), .int t.2.2]) (la := [some (.ref (A y1)), some (.int t.2.2), none, none, none]) (rest := [.int t.1]) hi_168_74 (am_hd0 (M := 168) (by decide) 74) rfl rfl rfl (fun N' d' _ => lc165 (N := N') (d := d') h6 hy1) ?_ (fun _ q => nomatch q.1)
          rintro v44 S42 ⟨ev44, h43⟩
          cases ev44
          show am_L _ _ _ _ _ [some (.ref 32), some (.ref (A y1)), some (.int t.1), some (.int t.2.1), some (.int t.2.2), some (.int (tg s (.i y1) t.2.2 0)), some (.int 1)] [.int (c165 s y1 t.2.2), .int t.1] _ _
          refine l10 hi_168_77 ?_
          show am_L _ _ _ _ _ [some (.ref 32), some (.ref (A y1)), some (.int t.1), some (.int t.2.1), some (.int t.2.2), some (.int (tg s (.i y1) t.2.2 0)), some (.int 1)] [.int (t.1 + (c165 s y1 t.2.2))] _ _
          refine l3 (ls' := [some (.ref 32), some (.ref (A y1)), some (.int (t.1 + (c165 s y1 t.2.2))), some (.int t.2.1), some (.int t.2.2), some (.int (tg s (.i y1) t.2.2 0)), some (.int 1)]) hi_168_78 (Nat.le_of_ble_eq_true rfl) rfl ?_
          refine l1 (v := 1) hi_168_79 rfl ?_
          refine l12t hi_168_81 (by decide) ?_
          refine l5 (v := t.2.1) (ls' := [some (.ref 32), some (.ref (A y1)), some (.int (t.1 + (c165 s y1 t.2.2))), some (.int (t.2.1 + 1)), some (.int t.2.2), some (.int (tg s (.i y1) t.2.2 0)), some (.int 1)]) hi_168_107 rfl rfl ?_
          refine l5 (v := t.2.2) (ls' := [some (.ref 32), some (.ref (A y1)), some (.int (t.1 + (c165 s y1 t.2.2))), some (.int (t.2.1 + 1)), some (.int (t.2.2 + 1)), some (.int (tg s (.i y1) t.2.2 0)), some (.int 1)]) hi_168_110 rfl rfl ?_
          refine l18 hi_168_113 ?_
          have e0 : (c168b7 s y1) t = (0, (t.1 + (c165 s y1 t.2.2), t.2.1 + 1, t.2.2 + 1)) := by unfold c168b7; rw [if_neg cn4]; rw [if_neg cn8]; rw [if_pos cn41]
          have e1 : ∀ m, kwh (c168b7 s y1) (m + 1) t = kwh (c168b7 s y1) m (t.1 + (c165 s y1 t.2.2), t.2.1 + 1, t.2.2 + 1) := fun m => by rw [kwh_go (by rw [e0]), e0]
          exact ih _ (some (.int (tg s (.i y1) t.2.2 0))) (some (.int 1)) (t.1 + (c165 s y1 t.2.2), t.2.1 + 1, t.2.2 + 1) h43 (fun m S1 p5 p6 hm h1 => by have q := kx116 (m + 1) S1 p5 p6 (by rw [e1]; exact hm) (by exact h1); (try rw [e1] at q); exact q.less (Nat.le_succ N))
        · refine l12f hi_168_39 (decide_eq_false cn41) ?_
          refine l1 (v := t.2.2) hi_168_42 rfl ?_
          refine l2 (v := (A y1)) hi_168_44 rfl ?_
          refine l20b (v := .ref (cTa A (.i y1))) h6 hy1 hi_168_45 rfl ?_
          refine l32 (as := [.ref (cTa A (.i y1))]) (la := [some (.ref (cTa A (.i y1)))]) (rest := [.int t.2.2]) hi_168_48 (am_hd0 (M := 168) (by decide) 48) rfl rfl rfl (fun N' d' _ => lc36 (N := N') (d := d') (t := (.i y1)) h6 (show cTl _ (.i y1) from hy1)) ?_ (fun _ q => nomatch q.1)
          rintro v47 S45 ⟨ev47, h46⟩
          cases ev47
          show am_L _ _ _ _ _ [some (.ref 32), some (.ref (A y1)), some (.int t.1), some (.int t.2.1), some (.int t.2.2), some (.int (tg s (.i y1) t.2.2 0)), o6] [.int (s.r (.i y1)), .int t.2.2] _ _
          refine l0 hi_168_51 ?_
          refine l10 hi_168_52 ?_
          show am_L _ _ _ _ _ [some (.ref 32), some (.ref (A y1)), some (.int t.1), some (.int t.2.1), some (.int t.2.2), some (.int (tg s (.i y1) t.2.2 0)), o6] [.int ((s.r (.i y1)) - 1), .int t.2.2] _ _
          by_cases cn48 : t.2.2 ≠ ((s.r (.i y1)) - 1)
          · refine l13t hi_168_53 (decide_eq_true cn48) ?_
            refine l0 hi_168_67 ?_
            refine l3 (ls' := [some (.ref 32), some (.ref (A y1)), some (.int t.1), some (.int t.2.1), some (.int t.2.2), some (.int (tg s (.i y1) t.2.2 0)), some (.int 0)]) hi_168_68 (Nat.le_of_ble_eq_true rfl) rfl ?_
            refine l1 (v := t.1) hi_168_70 rfl ?_
            refine l2 (v := (A y1)) hi_168_71 rfl ?_
            refine l1 (v := t.2.2) hi_168_72 rfl ?_
            refine l32 (as := [.ref (A y1), .int t.2.2]) (la := [some (.ref (A y1)), some (.int t.2.2), none, none, none]) (rest := [.int t.1]) hi_168_74 (am_hd0 (M := 168) (by decide) 74) rfl rfl rfl (fun N' d' _ => lc165 (N := N') (d := d') h46 hy1) ?_ (fun _ q => nomatch q.1)
            rintro v51 S49 ⟨ev51, h50⟩
            cases ev51
            show am_L _ _ _ _ _ [some (.ref 32), some (.ref (A y1)), some (.int t.1), some (.int t.2.1), some (.int t.2.2), some (.int (tg s (.i y1) t.2.2 0)), some (.int 0)] [.int (c165 s y1 t.2.2), .int t.1] _ _
            refine l10 hi_168_77 ?_
            show am_L _ _ _ _ _ [some (.ref 32), some (.ref (A y1)), some (.int t.1), some (.int t.2.1), some (.int t.2.2), some (.int (tg s (.i y1) t.2.2 0)), some (.int 0)] [.int (t.1 + (c165 s y1 t.2.2))] _ _
            refine l3 (ls' := [some (.ref 32), some (.ref (A y1)), some (.int (t.1 + (c165 s y1 t.2.2))), some (.int t.2.1), some (.int t.2.2), some (.int (tg s (.i y1) t.2.2 0)), some (.int 0)]) hi_168_78 (Nat.le_of_ble_eq_true rfl) rfl ?_
            refine l1 (v := 0) hi_168_79 rfl ?_
            refine l12f hi_168_81 (by decide) ?_
            refine l1 (v := t.1 + (c165 s y1 t.2.2)) hi_168_84 rfl ?_
            by_cases cn52 : (t.1 + (c165 s y1 t.2.2)) < 0
            · refine l12t hi_168_85 (decide_eq_true cn52) ?_
              refine l5 (v := t.2.1) (ls' := [some (.ref 32), some (.ref (A y1)), some (.int (t.1 + (c165 s y1 t.2.2))), some (.int (t.2.1 + 1)), some (.int t.2.2), some (.int (tg s (.i y1) t.2.2 0)), some (.int 0)]) hi_168_107 rfl rfl ?_
              refine l5 (v := t.2.2) (ls' := [some (.ref 32), some (.ref (A y1)), some (.int (t.1 + (c165 s y1 t.2.2))), some (.int (t.2.1 + 1)), some (.int (t.2.2 + 1)), some (.int (tg s (.i y1) t.2.2 0)), some (.int 0)]) hi_168_110 rfl rfl ?_
              refine l18 hi_168_113 ?_
              have e0 : (c168b7 s y1) t = (0, (t.1 + (c165 s y1 t.2.2), t.2.1 + 1, t.2.2 + 1)) := by unfold c168b7; rw [if_neg cn4]; rw [if_neg cn8]; rw [if_neg cn41]; rw [if_pos cn48]; rw [if_pos cn52]
              have e1 : ∀ m, kwh (c168b7 s y1) (m + 1) t = kwh (c168b7 s y1) m (t.1 + (c165 s y1 t.2.2), t.2.1 + 1, t.2.2 + 1) := fun m => by rw [kwh_go (by rw [e0]), e0]
              exact ih _ (some (.int (tg s (.i y1) t.2.2 0))) (some (.int 0)) (t.1 + (c165 s y1 t.2.2), t.2.1 + 1, t.2.2 + 1) h50 (fun m S1 p5 p6 hm h1 => by have q := kx116 (m + 1) S1 p5 p6 (by rw [e1]; exact hm) (by exact h1); (try rw [e1] at q); exact q.less (Nat.le_succ N))
            · refine l12f hi_168_85 (decide_eq_false cn52) ?_
              refine l2 (v := (A y1)) hi_168_88 rfl ?_
              refine l1 (v := t.2.2) hi_168_89 rfl ?_
              refine l32 (as := [.ref (A y1), .int t.2.2]) (la := [some (.ref (A y1)), some (.int t.2.2), none]) (rest := []) hi_168_91 (am_hd0 (M := 168) (by decide) 91) rfl rfl rfl (fun N' d' _ => lc169 (N := N') (d := d') h50 hy1) ?_ (fun _ q => nomatch q.1)
              rintro v55 S53 ⟨ev55, h54⟩
              cases ev55
              show am_L _ _ _ _ _ [some (.ref 32), some (.ref (A y1)), some (.int (t.1 + (c165 s y1 t.2.2))), some (.int t.2.1), some (.int t.2.2), some (.int (tg s (.i y1) t.2.2 0)), some (.int 0)] [.int (c169 s y1 t.2.2)] _ _
              by_cases cn56 : (c169 s y1 t.2.2) ≠ 0
              · refine l12t hi_168_94 (decide_eq_true cn56) ?_
                refine l5 (v := t.2.1) (ls' := [some (.ref 32), some (.ref (A y1)), some (.int (t.1 + (c165 s y1 t.2.2))), some (.int (t.2.1 + 1)), some (.int t.2.2), some (.int (tg s (.i y1) t.2.2 0)), some (.int 0)]) hi_168_107 rfl rfl ?_
                refine l5 (v := t.2.2) (ls' := [some (.ref 32), some (.ref (A y1)), some (.int (t.1 + (c165 s y1 t.2.2))), some (.int (t.2.1 + 1)), some (.int (t.2.2 + 1)), some (.int (tg s (.i y1) t.2.2 0)), some (.int 0)]) hi_168_110 rfl rfl ?_
                refine l18 hi_168_113 ?_
                have e0 : (c168b7 s y1) t = (0, (t.1 + (c165 s y1 t.2.2), t.2.1 + 1, t.2.2 + 1)) := by unfold c168b7; rw [if_neg cn4]; rw [if_neg cn8]; rw [if_neg cn41]; rw [if_pos cn48]; rw [if_neg cn52]; rw [if_pos cn56]
                have e1 : ∀ m, kwh (c168b7 s y1) (m + 1) t = kwh (c168b7 s y1) m (t.1 + (c165 s y1 t.2.2), t.2.1 + 1, t.2.2 + 1) := fun m => by rw [kwh_go (by rw [e0]), e0]
                exact ih _ (some (.int (tg s (.i y1) t.2.2 0))) (some (.int 0)) (t.1 + (c165 s y1 t.2.2), t.2.1 + 1, t.2.2 + 1) h54 (fun m S1 p5 p6 hm h1 => by have q := kx116 (m + 1) S1 p5 p6 (by rw [e1]; exact hm) (by exact h1); (try rw [e1] at q); exact q.less (Nat.le_succ N))
              · refine l12f hi_168_94 (decide_eq_false cn56) ?_
                refine l2 (v := 32) hi_168_97 rfl ?_
                refine l2 (v := (A y1)) hi_168_98 rfl ?_
                refine l1 (v := t.2.2) hi_168_99 rfl ?_
                refine l32 (as := [.ref 32, .ref (A y1), .int t.2.2]) (la := [some (.ref 32), some (.ref (A y1)), some (.int t.2.2), none]) (rest := []) hi_168_101 (am_hd0 (M := 168) (by decide) 101) rfl rfl rfl (fun N' d' _ => lc170 (N := N') (d := d') h54 hy1) ?_ (fun _ q => nomatch q.1)
                rintro v59 S57 ⟨ev59, h58⟩
                cases ev59
                show am_L _ _ _ _ _ [some (.ref 32), some (.ref (A y1)), some (.int (t.1 + (c165 s y1 t.2.2))), some (.int t.2.1), some (.int t.2.2), some (.int (tg s (.i y1) t.2.2 0)), some (.int 0)] [.int (c170 s y1 t.2.2)] _ _
                by_cases cn60 : (c170 s y1 t.2.2) = 0
                · refine l12t hi_168_104 (decide_eq_true cn60) ?_
                  refine l5 (v := t.2.2) (ls' := [some (.ref 32), some (.ref (A y1)), some (.int (t.1 + (c165 s y1 t.2.2))), some (.int t.2.1), some (.int (t.2.2 + 1)), some (.int (tg s (.i y1) t.2.2 0)), some (.int 0)]) hi_168_110 rfl rfl ?_
                  refine l18 hi_168_113 ?_
                  have e0 : (c168b7 s y1) t = (0, (t.1 + (c165 s y1 t.2.2), t.2.1, t.2.2 + 1)) := by unfold c168b7; rw [if_neg cn4]; rw [if_neg cn8]; rw [if_neg cn41]; rw [if_pos cn48]; rw [if_neg cn52]; rw [if_neg cn56]; rw [if_pos cn60]
                  have e1 : ∀ m, kwh (c168b7 s y1) (m + 1) t = kwh (c168b7 s y1) m (t.1 + (c165 s y1 t.2.2), t.2.1, t.2.2 + 1) := fun m => by rw [kwh_go (by rw [e0]), e0]
                  exact ih _ (some (.int (tg s (.i y1) t.2.2 0))) (some (.int 0)) (t.1 + (c165 s y1 t.2.2), t.2.1, t.2.2 + 1) h58 (fun m S1 p5 p6 hm h1 => by have q := kx116 (m + 1) S1 p5 p6 (by rw [e1]; exact hm) (by exact h1); (try rw [e1] at q); exact q.less (Nat.le_succ N))
                · refine l12f hi_168_104 (decide_eq_false cn60) ?_
                  refine l5 (v := t.2.1) (ls' := [some (.ref 32), some (.ref (A y1)), some (.int (t.1 + (c165 s y1 t.2.2))), some (.int (t.2.1 + 1)), some (.int t.2.2), some (.int (tg s (.i y1) t.2.2 0)), some (.int 0)]) hi_168_107 rfl rfl ?_
                  refine l5 (v := t.2.2) (ls' := [some (.ref 32), some (.ref (A y1)), some (.int (t.1 + (c165 s y1 t.2.2))), some (.int (t.2.1 + 1)), some (.int (t.2.2 + 1)), some (.int (tg s (.i y1) t.2.2 0)), some (.int 0)]) hi_168_110 rfl rfl ?_
                  refine l18 hi_168_113 ?_
                  have e0 : (c168b7 s y1) t = (0, (t.1 + (c165 s y1 t.2.2), t.2.1 + 1, t.2.2 + 1)) := by unfold c168b7; rw [if_neg cn4]; rw [if_neg cn8]; rw [if_neg cn41]; rw [if_pos cn48]; rw [if_neg cn52]; rw [if_neg cn56]; rw [if_neg cn60]
                  have e1 : ∀ m, kwh (c168b7 s y1) (m + 1) t = kwh (c168b7 s y1) m (t.1 + (c165 s y1 t.2.2), t.2.1 + 1, t.2.2 + 1) := fun m => by rw [kwh_go (by rw [e0]), e0]
                  exact ih _ (some (.int (tg s (.i y1) t.2.2 0))) (some (.int 0)) (t.1 + (c165 s y1 t.2.2), t.2.1 + 1, t.2.2 + 1) h58 (fun m S1 p5 p6 hm h1 => by have q := kx116 (m + 1) S1 p5 p6 (by rw [e1]; exact hm) (by exact h1); (try rw [e1] at q); exact q.less (Nat.le_succ N))
          · refine l13f hi_168_53 (decide_eq_false cn48) ?_
            refine l1 (v := tg s (.i y1) t.2.2 0) hi_168_56 rfl ?_
            refine l0 hi_168_58 ?_
            by_cases cn61 : (tg s (.i y1) t.2.2 0) = 45
            · refine l13t hi_168_60 (decide_eq_true cn61) ?_
              refine l0 hi_168_67 ?_
              refine l3 (ls' := [some (.ref 32), some (.ref (A y1)), some (.int t.1), some (.int t.2.1), some (.int t.2.2), some (.int (tg s (.i y1) t.2.2 0)), some (.int 0)]) hi_168_68 (Nat.le_of_ble_eq_true rfl) rfl ?_
              refine l1 (v := t.1) hi_168_70 rfl ?_
              refine l2 (v := (A y1)) hi_168_71 rfl ?_
              refine l1 (v := t.2.2) hi_168_72 rfl ?_
              refine l32 (as := [.ref (A y1), .int t.2.2]) (la := [some (.ref (A y1)), some (.int t.2.2), none, none, none]) (rest := [.int t.1]) hi_168_74 (am_hd0 (M := 168) (by decide) 74) rfl rfl rfl (fun N' d' _ => lc165 (N := N') (d := d') h46 hy1) ?_ (fun _ q => nomatch q.1)
              rintro v64 S62 ⟨ev64, h63⟩
              cases ev64
              show am_L _ _ _ _ _ [some (.ref 32), some (.ref (A y1)), some (.int t.1), some (.int t.2.1), some (.int t.2.2), some (.int (tg s (.i y1) t.2.2 0)), some (.int 0)] [.int (c165 s y1 t.2.2), .int t.1] _ _
              refine l10 hi_168_77 ?_
              show am_L _ _ _ _ _ [some (.ref 32), some (.ref (A y1)), some (.int t.1), some (.int t.2.1), some (.int t.2.2), some (.int (tg s (.i y1) t.2.2 0)), some (.int 0)] [.int (t.1 + (c165 s y1 t.2.2))] _ _
              refine l3 (ls' := [some (.ref 32), some (.ref (A y1)), some (.int (t.1 + (c165 s y1 t.2.2))), some (.int t.2.1), some (.int t.2.2), some (.int (tg s (.i y1) t.2.2 0)), some (.int 0)]) hi_168_78 (Nat.le_of_ble_eq_true rfl) rfl ?_
              refine l1 (v := 0) hi_168_79 rfl ?_
              refine l12f hi_168_81 (by decide) ?_
              refine l1 (v := t.1 + (c165 s y1 t.2.2)) hi_168_84 rfl ?_
              by_cases cn65 : (t.1 + (c165 s y1 t.2.2)) < 0
              · refine l12t hi_168_85 (decide_eq_true cn65) ?_
                refine l5 (v := t.2.1) (ls' := [some (.ref 32), some (.ref (A y1)), some (.int (t.1 + (c165 s y1 t.2.2))), some (.int (t.2.1 + 1)), some (.int t.2.2), some (.int (tg s (.i y1) t.2.2 0)), some (.int 0)]) hi_168_107 rfl rfl ?_
                refine l5 (v := t.2.2) (ls' := [some (.ref 32), some (.ref (A y1)), some (.int (t.1 + (c165 s y1 t.2.2))), some (.int (t.2.1 + 1)), some (.int (t.2.2 + 1)), some (.int (tg s (.i y1) t.2.2 0)), some (.int 0)]) hi_168_110 rfl rfl ?_
                refine l18 hi_168_113 ?_
                have e0 : (c168b7 s y1) t = (0, (t.1 + (c165 s y1 t.2.2), t.2.1 + 1, t.2.2 + 1)) := by unfold c168b7; rw [if_neg cn4]; rw [if_neg cn8]; rw [if_neg cn41]; rw [if_neg cn48]; rw [if_pos cn61]; rw [if_pos cn65]
                have e1 : ∀ m, kwh (c168b7 s y1) (m + 1) t = kwh (c168b7 s y1) m (t.1 + (c165 s y1 t.2.2), t.2.1 + 1, t.2.2 + 1) := fun m => by rw [kwh_go (by rw [e0]), e0]
                exact ih _ (some (.int (tg s (.i y1) t.2.2 0))) (some (.int 0)) (t.1 + (c165 s y1 t.2.2), t.2.1 + 1, t.2.2 + 1) h63 (fun m S1 p5 p6 hm h1 => by have q := kx116 (m + 1) S1 p5 p6 (by rw [e1]; exact hm) (by exact h1); (try rw [e1] at q); exact q.less (Nat.le_succ N))
              · refine l12f hi_168_85 (decide_eq_false cn65) ?_
                refine l2 (v := (A y1)) hi_168_88 rfl ?_
                refine l1 (v := t.2.2) hi_168_89 rfl ?_
                refine l32 (as := [.ref (A y1), .int t.2.2]) (la := [some (.ref (A y1)), some (.int t.2.2), none]) (rest := []) hi_168_91 (am_hd0 (M := 168) (by decide) 91) rfl rfl rfl (fun N' d' _ => lc169 (N := N') (d := d') h63 hy1) ?_ (fun _ q => nomatch q.1)
                rintro v68 S66 ⟨ev68, h67⟩
                cases ev68
                show am_L _ _ _ _ _ [some (.ref 32), some (.ref (A y1)), some (.int (t.1 + (c165 s y1 t.2.2))), some (.int t.2.1), some (.int t.2.2), some (.int (tg s (.i y1) t.2.2 0)), some (.int 0)] [.int (c169 s y1 t.2.2)] _ _
                by_cases cn69 : (c169 s y1 t.2.2) ≠ 0
                · refine l12t hi_168_94 (decide_eq_true cn69) ?_
                  refine l5 (v := t.2.1) (ls' := [some (.ref 32), some (.ref (A y1)), some (.int (t.1 + (c165 s y1 t.2.2))), some (.int (t.2.1 + 1)), some (.int t.2.2), some (.int (tg s (.i y1) t.2.2 0)), some (.int 0)]) hi_168_107 rfl rfl ?_
                  refine l5 (v := t.2.2) (ls' := [some (.ref 32), some (.ref (A y1)), some (.int (t.1 + (c165 s y1 t.2.2))), some (.int (t.2.1 + 1)), some (.int (t.2.2 + 1)), some (.int (tg s (.i y1) t.2.2 0)), some (.int 0)]) hi_168_110 rfl rfl ?_
                  refine l18 hi_168_113 ?_
                  have e0 : (c168b7 s y1) t = (0, (t.1 + (c165 s y1 t.2.2), t.2.1 + 1, t.2.2 + 1)) := by unfold c168b7; rw [if_neg cn4]; rw [if_neg cn8]; rw [if_neg cn41]; rw [if_neg cn48]; rw [if_pos cn61]; rw [if_neg cn65]; rw [if_pos cn69]
                  have e1 : ∀ m, kwh (c168b7 s y1) (m + 1) t = kwh (c168b7 s y1) m (t.1 + (c165 s y1 t.2.2), t.2.1 + 1, t.2.2 + 1) := fun m => by rw [kwh_go (by rw [e0]), e0]
                  exact ih _ (some (.int (tg s (.i y1) t.2.2 0))) (some (.int 0)) (t.1 + (c165 s y1 t.2.2), t.2.1 + 1, t.2.2 + 1) h67 (fun m S1 p5 p6 hm h1 => by have q := kx116 (m + 1) S1 p5 p6 (by rw [e1]; exact hm) (by exact h1); (try rw [e1] at q); exact q.less (Nat.le_succ N))
                · refine l12f hi_168_94 (decide_eq_false cn69) ?_
                  refine l2 (v := 32) hi_168_97 rfl ?_
                  refine l2 (v := (A y1)) hi_168_98 rfl ?_
                  refine l1 (v := t.2.2) hi_168_99 rfl ?_
                  refine l32 (as := [.ref 32, .ref (A y1), .int t.2.2]) (la := [some (.ref 32), some (.ref (A y1)), some (.int t.2.2), none]) (rest := []) hi_168_101 (am_hd0 (M := 168) (by decide) 101) rfl rfl rfl (fun N' d' _ => lc170 (N := N') (d := d') h67 hy1) ?_ (fun _ q => nomatch q.1)
                  rintro v72 S70 ⟨ev72, h71⟩
                  cases ev72
                  show am_L _ _ _ _ _ [some (.ref 32), some (.ref (A y1)), some (.int (t.1 + (c165 s y1 t.2.2))), some (.int t.2.1), some (.int t.2.2), some (.int (tg s (.i y1) t.2.2 0)), some (.int 0)] [.int (c170 s y1 t.2.2)] _ _
                  by_cases cn73 : (c170 s y1 t.2.2) = 0
                  · refine l12t hi_168_104 (decide_eq_true cn73) ?_
                    refine l5 (v := t.2.2) (ls' := [some (.ref 32), some (.ref (A y1)), some (.int (t.1 + (c165 s y1 t.2.2))), some (.int t.2.1), some (.int (t.2.2 + 1)), some (.int (tg s (.i y1) t.2.2 0)), some (.int 0)]) hi_168_110 rfl rfl ?_
                    refine l18 hi_168_113 ?_
                    have e0 : (c168b7 s y1) t = (0, (t.1 + (c165 s y1 t.2.2), t.2.1, t.2.2 + 1)) := by unfold c168b7; rw [if_neg cn4]; rw [if_neg cn8]; rw [if_neg cn41]; rw [if_neg cn48]; rw [if_pos cn61]; rw [if_neg cn65]; rw [if_neg cn69]; rw [if_pos cn73]
                    have e1 : ∀ m, kwh (c168b7 s y1) (m + 1) t = kwh (c168b7 s y1) m (t.1 + (c165 s y1 t.2.2), t.2.1, t.2.2 + 1) := fun m => by rw [kwh_go (by rw [e0]), e0]
                    exact ih _ (some (.int (tg s (.i y1) t.2.2 0))) (some (.int 0)) (t.1 + (c165 s y1 t.2.2), t.2.1, t.2.2 + 1) h71 (fun m S1 p5 p6 hm h1 => by have q := kx116 (m + 1) S1 p5 p6 (by rw [e1]; exact hm) (by exact h1); (try rw [e1] at q); exact q.less (Nat.le_succ N))
                  · refine l12f hi_168_104 (decide_eq_false cn73) ?_
                    refine l5 (v := t.2.1) (ls' := [some (.ref 32), some (.ref (A y1)), some (.int (t.1 + (c165 s y1 t.2.2))), some (.int (t.2.1 + 1)), some (.int t.2.2), some (.int (tg s (.i y1) t.2.2 0)), some (.int 0)]) hi_168_107 rfl rfl ?_
                    refine l5 (v := t.2.2) (ls' := [some (.ref 32), some (.ref (A y1)), some (.int (t.1 + (c165 s y1 t.2.2))), some (.int (t.2.1 + 1)), some (.int (t.2.2 + 1)), some (.int (tg s (.i y1) t.2.2 0)), some (.int 0)]) hi_168_110 rfl rfl ?_
                    refine l18 hi_168_113 ?_
                    have e0 : (c168b7 s y1) t = (0, (t.1 + (c165 s y1 t.2.2), t.2.1 + 1, t.2.2 + 1)) := by unfold c168b7; rw [if_neg cn4]; rw [if_neg cn8]; rw [if_neg cn41]; rw [if_neg cn48]; rw [if_pos cn61]; rw [if_neg cn65]; rw [if_neg cn69]; rw [if_neg cn73]
                    have e1 : ∀ m, kwh (c168b7 s y1) (m + 1) t = kwh (c168b7 s y1) m (t.1 + (c165 s y1 t.2.2), t.2.1 + 1, t.2.2 + 1) := fun m => by rw [kwh_go (by rw [e0]), e0]
                    exact ih _ (some (.int (tg s (.i y1) t.2.2 0))) (some (.int 0)) (t.1 + (c165 s y1 t.2.2), t.2.1 + 1, t.2.2 + 1) h71 (fun m S1 p5 p6 hm h1 => by have q := kx116 (m + 1) S1 p5 p6 (by rw [e1]; exact hm) (by exact h1); (try rw [e1] at q); exact q.less (Nat.le_succ N))
            · refine l13f hi_168_60 (decide_eq_false cn61) ?_
              refine l0 hi_168_63 ?_
              refine l18 hi_168_64 ?_
              refine l3 (ls' := [some (.ref 32), some (.ref (A y1)), some (.int t.1), some (.int t.2.1), some (.int t.2.2), some (.int (tg s (.i y1) t.2.2 0)), some (.int 1)]) hi_168_68 (Nat.le_of_ble_eq_true rfl) rfl ?_
              refine l1 (v := t.1) hi_168_70 rfl ?_
              refine l2 (v := (A y1)) hi_168_71 rfl ?_
              refine l1 (v := t.2.2) hi_168_72 rfl ?_
              refine l32 (as := [.ref (A y1), .int t.2.2]) (la := [some (.ref (A y1)), some (.int t.2.2), none, none, none]) (rest := [.int t.1]) hi_168_74 (am_hd0 (M := 168) (by decide) 74) rfl rfl rfl (fun N' d' _ => lc165 (N := N') (d := d') h46 hy1) ?_ (fun _ q => nomatch q.1)
              rintro v76 S74 ⟨ev76, h75⟩
              cases ev76
              show am_L _ _ _ _ _ [some (.ref 32), some (.ref (A y1)), some (.int t.1), some (.int t.2.1), some (.int t.2.2), some (.int (tg s (.i y1) t.2.2 0)), some (.int 1)] [.int (c165 s y1 t.2.2), .int t.1] _ _
              refine l10 hi_168_77 ?_
              show am_L _ _ _ _ _ [some (.ref 32), some (.ref (A y1)), some (.int t.1), some (.int t.2.1), some (.int t.2.2), some (.int (tg s (.i y1) t.2.2 0)), some (.int 1)] [.int (t.1 + (c165 s y1 t.2.2))] _ _
              refine l3 (ls' := [some (.ref 32), some (.ref (A y1)), some (.int (t.1 + (c165 s y1 t.2.2))), some (.int t.2.1), some (.int t.2.2), some (.int (tg s (.i y1) t.2.2 0)), some (.int 1)]) hi_168_78 (Nat.le_of_ble_eq_true rfl) rfl ?_
              refine l1 (v := 1) hi_168_79 rfl ?_
              refine l12t hi_168_81 (by decide) ?_
              refine l5 (v := t.2.1) (ls' := [some (.ref 32), some (.ref (A y1)), some (.int (t.1 + (c165 s y1 t.2.2))), some (.int (t.2.1 + 1)), some (.int t.2.2), some (.int (tg s (.i y1) t.2.2 0)), some (.int 1)]) hi_168_107 rfl rfl ?_
              refine l5 (v := t.2.2) (ls' := [some (.ref 32), some (.ref (A y1)), some (.int (t.1 + (c165 s y1 t.2.2))), some (.int (t.2.1 + 1)), some (.int (t.2.2 + 1)), some (.int (tg s (.i y1) t.2.2 0)), some (.int 1)]) hi_168_110 rfl rfl ?_
              refine l18 hi_168_113 ?_
              have e0 : (c168b7 s y1) t = (0, (t.1 + (c165 s y1 t.2.2), t.2.1 + 1, t.2.2 + 1)) := by unfold c168b7; rw [if_neg cn4]; rw [if_neg cn8]; rw [if_neg cn41]; rw [if_neg cn48]; rw [if_neg cn61]
              have e1 : ∀ m, kwh (c168b7 s y1) (m + 1) t = kwh (c168b7 s y1) m (t.1 + (c165 s y1 t.2.2), t.2.1 + 1, t.2.2 + 1) := fun m => by rw [kwh_go (by rw [e0]), e0]
              exact ih _ (some (.int (tg s (.i y1) t.2.2 0))) (some (.int 1)) (t.1 + (c165 s y1 t.2.2), t.2.1 + 1, t.2.2 + 1) h75 (fun m S1 p5 p6 hm h1 => by have q := kx116 (m + 1) S1 p5 p6 (by rw [e1]; exact hm) (by exact h1); (try rw [e1] at q); exact q.less (Nat.le_succ N))
noncomputable def c168 (s : cS) (x1 : Nat) : Int32 := (kfin (c168b7 s x1) (0, 0, 0)).2.2.1
theorem lc168 {sc : Nat × (Nat → Int32)} {N d : Nat} {A : Nat → Nat} {K : Nat} {S : am_S} {s : cS} {x1 : Nat} (hS : CM A K S s) (hx1 : x1 ≤ K) : am_L (am_PP sc) N d 168 0 [some (.ref 32), some (.ref (A x1)), none, none, none, none, none] [] S (fun o S1 => o = some (some (.int (c168 s x1))) ∧ CM A K S1 s) := by
  refine l0 hi_168_0 ?_
  refine l3 (ls' := [some (.ref 32), some (.ref (A x1)), some (.int 0), none, none, none, none]) hi_168_1 (Nat.le_of_ble_eq_true rfl) rfl ?_
  refine l0 hi_168_2 ?_
  refine l3 (ls' := [some (.ref 32), some (.ref (A x1)), some (.int 0), some (.int 0), none, none, none]) hi_168_3 (Nat.le_of_ble_eq_true rfl) rfl ?_
  refine l0 hi_168_4 ?_
  refine l3 (ls' := [some (.ref 32), some (.ref (A x1)), some (.int 0), some (.int 0), some (.int 0), none, none]) hi_168_5 (Nat.le_of_ble_eq_true rfl) rfl ?_
  refine lb168_7 hx1 N _ none none (0, 0, 0) hS ?_
  · intro m1 S2 p6 p7 hm3 h4
    have hf5 : kfin (c168b7 s x1) (0, 0, 0) = kwh (c168b7 s x1) m1 (0, 0, 0) := kfin_eq (by rw [hm3]; decide)
    rw [← hf5] at hm3
    try rw [← hf5]
    refine l1 (v := (kfin (c168b7 s x1) (0, 0, 0)).2.2.1) hi_168_116 rfl ?_
    refine l33 hi_168_117 ⟨?_, ?_⟩
    · rfl
    · exact h4
noncomputable def c167b4 (s : cS) (t : Int32 × Int32) : Nat × (Int32 × Int32) := if c155 s ≤ t.2 then (1, t) else if c159 s t.2 then (0, (t.1 + c168 s (t.2.toInt.toNat + 1), t.2 + 1)) else (0, (t.1, t.2 + 1))
theorem lb167_4 {sc : Nat × (Nat → Int32)} {d : Nat} {A : Nat → Nat} {K : Nat} {s : cS} {Q : Option (Option Value) → am_S → Prop} : ∀ (N : Nat) (S : am_S) (o3 : Option Value) (t : Int32 × Int32), CM A K S s → (∀ m S1 (p3 : Option Value), (kwh (c167b4 s) m t).1 = 1 → CM A K S1 s → am_L (am_PP sc) N d 167 42 [some (.ref 32), some (.int ((kwh (c167b4 s) m t).2.1)), some (.int ((kwh (c167b4 s) m t).2.2)), p3] [] S1 Q) → am_L (am_PP sc) N d 167 4 [some (.ref 32), some (.int t.1), some (.int t.2), o3] [] S Q := by
  intro N
  induction N with
  | zero => intros; exact l_zero
  | succ N ih =>
    intro S o3 t hS kx
    refine l1d (v := t.2) hi_167_4 rfl ?_
    refine l2 (v := 32) hi_167_5 rfl ?_
    refine l20s (v := .ref 5) hS cs_32 hi_167_6 rfl ?_
    refine l32 (as := [.ref 5]) (la := [some (.ref 5)]) (rest := [.int t.2]) hi_167_9 (am_hd0 (M := 167) (by decide) 9) rfl rfl rfl (fun N' d' _ => lc155 (N := N') (d := d') hS) ?_ (fun _ q => nomatch q.1)
    rintro v3 S1 ⟨ev3, h2⟩
    cases ev3
    show am_L _ _ _ _ _ [some (.ref 32), some (.int t.1), some (.int t.2), o3] [.int (c155 s), .int t.2] _ _
    by_cases cn4 : c155 s ≤ t.2
    · refine l13t hi_167_12 (decide_eq_true cn4) ?_
      have e0 : c167b4 s t = (1, t) := by unfold c167b4; rw [if_pos cn4]
      have e1 : kwh (c167b4 s) 1 t = (1, t) := by rw [kwh_out (by rw [e0]; exact Nat.succ_ne_zero _), e0]
      have q := kx 1 _ o3 (by rw [e1]) h2
      rw [e1] at q
      exact q.less (Nat.le_succ N)
    · refine l13f hi_167_12 (decide_eq_false cn4) ?_
      refine l2 (v := 32) hi_167_15 rfl ?_
      refine l20s (v := .ref 5) h2 cs_32 hi_167_16 rfl ?_
      refine l1 (v := t.2) hi_167_19 rfl ?_
      refine l32 (as := [.ref 5, .int t.2]) (la := [some (.ref 5), some (.int t.2)]) (rest := []) hi_167_20 (am_hd0 (M := 167) (by decide) 20) rfl rfl rfl (fun N' d' _ => lc159 (N := N') (d := d') (x1 := t.2) h2) ?_ (fun _ q => by rcases q.2 with z | z <;> exact nomatch z.2)
      rintro v5 S3 ⟨h4, (⟨g1, hk, ev5⟩ | ⟨g1, ev5⟩)⟩
      · cases ev5
        show am_L _ _ _ _ _ [some (.ref 32), some (.int t.1), some (.int t.2), o3] [.ref (A (t.2.toInt.toNat + 1))] _ _
        refine l4 (ls' := [some (.ref 32), some (.int t.1), some (.int t.2), some (.ref (A (t.2.toInt.toNat + 1)))]) hi_167_23 (Nat.le_of_ble_eq_true rfl) rfl ?_
        refine l2 (v := A (t.2.toInt.toNat + 1)) hi_167_24 rfl ?_
        refine l14r hi_167_25 ?_
        refine l1 (v := t.1) hi_167_28 rfl ?_
        refine l2 (v := 32) hi_167_29 rfl ?_
        refine l2 (v := A (t.2.toInt.toNat + 1)) hi_167_30 rfl ?_
        refine l32 (as := [.ref 32, .ref (A (t.2.toInt.toNat + 1))]) (la := [some (.ref 32), some (.ref (A (t.2.toInt.toNat + 1))), none, none, none, none, none]) (rest := [.int t.1]) hi_167_31 (am_hd0 (M := 167) (by decide) 31) rfl rfl rfl (fun N' d' _ => lc168 (N := N') (d := d') h4 hk) ?_ (fun _ q => nomatch q.1)
        rintro v6 S5 ⟨ev6, h6⟩
        cases ev6
        show am_L _ _ _ _ _ [some (.ref 32), some (.int t.1), some (.int t.2), some (.ref (A (t.2.toInt.toNat + 1)))] [.int (c168 s (t.2.toInt.toNat + 1)), .int t.1] _ _
        refine l10 hi_167_34 ?_
        show am_L _ _ _ _ _ [some (.ref 32), some (.int t.1), some (.int t.2), some (.ref (A (t.2.toInt.toNat + 1)))] [.int (t.1 + c168 s (t.2.toInt.toNat + 1))] _ _
        refine l3 (ls' := [some (.ref 32), some (.int (t.1 + c168 s (t.2.toInt.toNat + 1))), some (.int t.2), some (.ref (A (t.2.toInt.toNat + 1)))]) hi_167_35 (Nat.le_of_ble_eq_true rfl) rfl ?_
        refine l5 (v := t.2) (ls' := [some (.ref 32), some (.int (t.1 + c168 s (t.2.toInt.toNat + 1))), some (.int (t.2 + 1)), some (.ref (A (t.2.toInt.toNat + 1)))]) hi_167_36 rfl rfl ?_
        refine l18 hi_167_39 ?_
        have e0 : c167b4 s t = (0, (t.1 + c168 s (t.2.toInt.toNat + 1), t.2 + 1)) := by unfold c167b4; rw [if_neg cn4, if_pos g1]
        have e1 : ∀ m, kwh (c167b4 s) (m + 1) t = kwh (c167b4 s) m (t.1 + c168 s (t.2.toInt.toNat + 1), t.2 + 1) := fun m => by rw [kwh_go (by rw [e0]), e0]
        exact ih _ (some (.ref (A (t.2.toInt.toNat + 1)))) (t.1 + c168 s (t.2.toInt.toNat + 1), t.2 + 1) h6 (fun m S1 p3 hm h1 => by have q := kx (m + 1) S1 p3 (by rw [e1]; exact hm) h1; rw [e1] at q; exact q.less (Nat.le_succ N))
      · cases ev5
        show am_L _ _ _ _ _ [some (.ref 32), some (.int t.1), some (.int t.2), o3] [.null] _ _
        refine l4n (ls' := [some (.ref 32), some (.int t.1), some (.int t.2), some .null]) hi_167_23 (Nat.le_of_ble_eq_true rfl) rfl ?_
        refine l2n hi_167_24 rfl ?_
        refine l14n hi_167_25 ?_
        refine l5 (v := t.2) (ls' := [some (.ref 32), some (.int t.1), some (.int (t.2 + 1)), some .null]) hi_167_36 rfl rfl ?_
        refine l18 hi_167_39 ?_
        have e0 : c167b4 s t = (0, (t.1, t.2 + 1)) := by unfold c167b4; rw [if_neg cn4, if_neg g1]
        have e1 : ∀ m, kwh (c167b4 s) (m + 1) t = kwh (c167b4 s) m (t.1, t.2 + 1) := fun m => by rw [kwh_go (by rw [e0]), e0]
        exact ih _ (some .null) (t.1, t.2 + 1) h4 (fun m S1 p3 hm h1 => by have q := kx (m + 1) S1 p3 (by rw [e1]; exact hm) h1; rw [e1] at q; exact q.less (Nat.le_succ N))
noncomputable def c167 (s : cS) : Int32 := (kfin (c167b4 s) (0, 0)).2.1
theorem lc167 {sc : Nat × (Nat → Int32)} {N d : Nat} {A : Nat → Nat} {K : Nat} {S : am_S} {s : cS} (hS : CM A K S s) : am_L (am_PP sc) N d 167 0 [some (.ref 32), none, none, none] [] S (fun o S1 => o = some (some (.int (c167 s))) ∧ CM A K S1 s) := by
  refine l0 hi_167_0 ?_
  refine l3 (ls' := [some (.ref 32), some (.int 0), none, none]) hi_167_1 (Nat.le_of_ble_eq_true rfl) rfl ?_
  refine l0 hi_167_2 ?_
  refine l3 (ls' := [some (.ref 32), some (.int 0), some (.int 0), none]) hi_167_3 (Nat.le_of_ble_eq_true rfl) rfl ?_
  refine lb167_4 N _ none (0, 0) hS ?_
  intro m1 S2 p6 hm3 h4
  have hf5 : kfin (c167b4 s) (0, 0) = kwh (c167b4 s) m1 (0, 0) := kfin_eq (by rw [hm3]; decide)
  rw [← hf5]
  refine l1 (v := (kfin (c167b4 s) (0, 0)).2.1) hi_167_42 rfl ?_
  exact l33 hi_167_43 ⟨rfl, h4⟩
theorem lc166 {sc : Nat × (Nat → Int32)} {N d : Nat} {A : Nat → Nat} {K : Nat} {S : am_S} {s : cS} (hS : CM A K S s) : am_L (am_PP sc) N d 166 0 [some (.ref 0)] [] S (fun o S1 => o = some (some (.int (c167 s))) ∧ CM A K S1 s) := by
  refine l2 (v := 0) hi_166_0 rfl ?_
  refine l20s (v := .ref 32) hS cs_0 hi_166_1 rfl ?_
  refine l32 (as := [.ref 32]) (la := [some (.ref 32), none, none, none]) (rest := []) hi_166_4 (am_hd0 (M := 166) (by decide) 4) rfl rfl rfl (fun N' d' _ => lc167 (N := N') (d := d') hS) ?_ (fun _ q => nomatch q.1)
  rintro v3 S1 ⟨ev3, h2⟩
  cases ev3
  exact l33 hi_166_7 ⟨rfl, h2⟩
