/-! THE CLASS: what its audit does (printed by wip/p8/gen_aud.py with wip/p5/cw.py) -/
set_option maxRecDepth 4096
def c165_217 (s : cS) (y3 : Int32) (y4 : Int32) (z0 : Int32) : Int32 := ((z0 - y3) - 1) - (y4 &&& 1)
theorem lc165_217 {sc : Nat × (Nat → Int32)} {N d : Nat} {A : Nat → Nat} {K : Nat} {S : am_S} {s : cS} {y3 : Int32} {y4 : Int32} {z0 : Int32} {o0 : Option Value} {o1 : Option Value} {o2 : Option Value} (hS : CM A K S s) : am_L (am_PP sc) N d 165 217 [o0, o1, o2, some (.int y3), some (.int y4)] [.int z0] S (fun o S1 => o = some (some (.int (c165_217 s y3 y4 z0))) ∧ CM A K S1 s) := by
  refine l1 (v := y3) hi_165_217 rfl ?_
  refine l10 hi_165_218 ?_
  show am_L _ _ _ _ _ [o0, o1, o2, some (.int y3), some (.int y4)] [.int (z0 - y3)] _ _
  refine l0 hi_165_219 ?_
  refine l10 hi_165_220 ?_
  show am_L _ _ _ _ _ [o0, o1, o2, some (.int y3), some (.int y4)] [.int ((z0 - y3) - 1)] _ _
  refine l1 (v := y4) hi_165_221 rfl ?_
  refine l0 hi_165_223 ?_
  refine l10 hi_165_224 ?_
  show am_L _ _ _ _ _ [o0, o1, o2, some (.int y3), some (.int y4)] [.int (y4 &&& 1), .int ((z0 - y3) - 1)] _ _
  refine l10 hi_165_225 ?_
  show am_L _ _ _ _ _ [o0, o1, o2, some (.int y3), some (.int y4)] [.int (((z0 - y3) - 1) - (y4 &&& 1))] _ _
  refine l33 hi_165_226 ⟨?_, ?_⟩
  · rfl
  · exact hS
def c165_44 (s : cS) (y2 : Int32) (y3 : Int32) (y4 : Int32) : Int32 := if y2 = 12 then 0 else if y2 = 13 then (if (y4 &&& 6) = 0 then c165_217 s y3 y4 0 else c165_217 s y3 y4 1) else if y2 = 14 then 1 else if y2 = 17 then 0 else if y2 = 18 then 0 else if y2 = 20 then 1 else if y2 = 21 then (-2) else if y2 = 25 then (y3 - 1) else if y2 = 26 then (-y3) else if y2 = 27 then (-y4) else if y2 = 28 then 0 else if y2 = 33 then 0 else if y2 = 34 then 0 else if y2 = 36 then 0 else if y2 = 38 then (-3) else if y2 = 39 then 0 else if y2 = 40 then 0 else if y2 = 41 then 0 else if y2 = 42 then (-4) else if y2 = 43 then 0 else if y2 = 44 then 0 else if y2 = 45 then ((-y3) - y4) else if y2 = 46 then (((-y3) - 1) - y4) else (-1)
theorem lc165_44 {sc : Nat × (Nat → Int32)} {N d : Nat} {A : Nat → Nat} {K : Nat} {S : am_S} {s : cS} {y2 : Int32} {y3 : Int32} {y4 : Int32} {o0 : Option Value} {o1 : Option Value} (hS : CM A K S s) : am_L (am_PP sc) N d 165 44 [o0, o1, some (.int y2), some (.int y3), some (.int y4)] [] S (fun o S1 => o = some (some (.int (c165_44 s y2 y3 y4))) ∧ CM A K S1 s) := by
  refine l1 (v := y2) hi_165_44 rfl ?_
  by_cases cn1 : y2 = 12
  · refine l19 (t := 202) hi_165_45 (by rw [cn1]; decide) ?_
    refine l0 hi_165_202 ?_
    refine l33 hi_165_203 ⟨?_, ?_⟩
    · unfold c165_44; rw [if_pos cn1]
    · exact hS
  by_cases cn2 : y2 = 13
  · refine l19 (t := 204) hi_165_45 (by rw [cn2]; decide) ?_
    refine l1 (v := y4) hi_165_204 rfl ?_
    refine l0 hi_165_206 ?_
    refine l10 hi_165_208 ?_
    show am_L _ _ _ _ _ [o0, o1, some (.int y2), some (.int y3), some (.int y4)] [.int (y4 &&& 6)] _ _
    by_cases cn3 : (y4 &&& 6) = 0
    · refine l12t hi_165_209 (decide_eq_true cn3) ?_
      refine l0 hi_165_216 ?_
      refine am_L.mono (lc165_217 hS ) ?_
      rintro o S1 ⟨e, h⟩
      have q : c165_44 s y2 y3 y4 = c165_217 s y3 y4 0 := by unfold c165_44; rw [if_neg cn1]; rw [if_pos cn2]; rw [if_pos cn3]
      rw [q]; exact ⟨e, h⟩
    · refine l12f hi_165_209 (decide_eq_false cn3) ?_
      refine l0 hi_165_212 ?_
      refine l18 hi_165_213 ?_
      refine am_L.mono (lc165_217 hS ) ?_
      rintro o S1 ⟨e, h⟩
      have q : c165_44 s y2 y3 y4 = c165_217 s y3 y4 1 := by unfold c165_44; rw [if_neg cn1]; rw [if_pos cn2]; rw [if_neg cn3]
      rw [q]; exact ⟨e, h⟩
  by_cases cn4 : y2 = 14
  · refine l19 (t := 200) hi_165_45 (by rw [cn4]; decide) ?_
    refine l0 hi_165_200 ?_
    refine l33 hi_165_201 ⟨?_, ?_⟩
    · unfold c165_44; rw [if_neg cn1]; rw [if_neg cn2]; rw [if_pos cn4]
    · exact hS
  by_cases cn5 : y2 = 17
  · refine l19 (t := 202) hi_165_45 (by rw [cn5]; decide) ?_
    refine l0 hi_165_202 ?_
    refine l33 hi_165_203 ⟨?_, ?_⟩
    · unfold c165_44; rw [if_neg cn1]; rw [if_neg cn2]; rw [if_neg cn4]; rw [if_pos cn5]
    · exact hS
  by_cases cn6 : y2 = 18
  · refine l19 (t := 202) hi_165_45 (by rw [cn6]; decide) ?_
    refine l0 hi_165_202 ?_
    refine l33 hi_165_203 ⟨?_, ?_⟩
    · unfold c165_44; rw [if_neg cn1]; rw [if_neg cn2]; rw [if_neg cn4]; rw [if_neg cn5]; rw [if_pos cn6]
    · exact hS
  by_cases cn7 : y2 = 20
  · refine l19 (t := 200) hi_165_45 (by rw [cn7]; decide) ?_
    refine l0 hi_165_200 ?_
    refine l33 hi_165_201 ⟨?_, ?_⟩
    · unfold c165_44; rw [if_neg cn1]; rw [if_neg cn2]; rw [if_neg cn4]; rw [if_neg cn5]; rw [if_neg cn6]; rw [if_pos cn7]
    · exact hS
  by_cases cn8 : y2 = 21
  · refine l19 (t := 238) hi_165_45 (by rw [cn8]; decide) ?_
    refine l0 hi_165_238 ?_
    refine l33 hi_165_240 ⟨?_, ?_⟩
    · unfold c165_44; rw [if_neg cn1]; rw [if_neg cn2]; rw [if_neg cn4]; rw [if_neg cn5]; rw [if_neg cn6]; rw [if_neg cn7]; rw [if_pos cn8]
    · exact hS
  by_cases cn9 : y2 = 25
  · refine l19 (t := 227) hi_165_45 (by rw [cn9]; decide) ?_
    refine l1 (v := y3) hi_165_227 rfl ?_
    refine l0 hi_165_228 ?_
    refine l10 hi_165_229 ?_
    show am_L _ _ _ _ _ [o0, o1, some (.int y2), some (.int y3), some (.int y4)] [.int (y3 - 1)] _ _
    refine l33 hi_165_230 ⟨?_, ?_⟩
    · unfold c165_44; rw [if_neg cn1]; rw [if_neg cn2]; rw [if_neg cn4]; rw [if_neg cn5]; rw [if_neg cn6]; rw [if_neg cn7]; rw [if_neg cn8]; rw [if_pos cn9]
    · exact hS
  by_cases cn10 : y2 = 26
  · refine l19 (t := 231) hi_165_45 (by rw [cn10]; decide) ?_
    refine l1 (v := y3) hi_165_231 rfl ?_
    refine l11 hi_165_232 ?_
    refine l33 hi_165_233 ⟨?_, ?_⟩
    · unfold c165_44; rw [if_neg cn1]; rw [if_neg cn2]; rw [if_neg cn4]; rw [if_neg cn5]; rw [if_neg cn6]; rw [if_neg cn7]; rw [if_neg cn8]; rw [if_neg cn9]; rw [if_pos cn10]
    · exact hS
  by_cases cn11 : y2 = 27
  · refine l19 (t := 234) hi_165_45 (by rw [cn11]; decide) ?_
    refine l1 (v := y4) hi_165_234 rfl ?_
    refine l11 hi_165_236 ?_
    refine l33 hi_165_237 ⟨?_, ?_⟩
    · unfold c165_44; rw [if_neg cn1]; rw [if_neg cn2]; rw [if_neg cn4]; rw [if_neg cn5]; rw [if_neg cn6]; rw [if_neg cn7]; rw [if_neg cn8]; rw [if_neg cn9]; rw [if_neg cn10]; rw [if_pos cn11]
    · exact hS
  by_cases cn12 : y2 = 28
  · refine l19 (t := 202) hi_165_45 (by rw [cn12]; decide) ?_
    refine l0 hi_165_202 ?_
    refine l33 hi_165_203 ⟨?_, ?_⟩
    · unfold c165_44; rw [if_neg cn1]; rw [if_neg cn2]; rw [if_neg cn4]; rw [if_neg cn5]; rw [if_neg cn6]; rw [if_neg cn7]; rw [if_neg cn8]; rw [if_neg cn9]; rw [if_neg cn10]; rw [if_neg cn11]; rw [if_pos cn12]
    · exact hS
  by_cases cn13 : y2 = 33
  · refine l19 (t := 202) hi_165_45 (by rw [cn13]; decide) ?_
    refine l0 hi_165_202 ?_
    refine l33 hi_165_203 ⟨?_, ?_⟩
    · unfold c165_44; rw [if_neg cn1]; rw [if_neg cn2]; rw [if_neg cn4]; rw [if_neg cn5]; rw [if_neg cn6]; rw [if_neg cn7]; rw [if_neg cn8]; rw [if_neg cn9]; rw [if_neg cn10]; rw [if_neg cn11]; rw [if_neg cn12]; rw [if_pos cn13]
    · exact hS
  by_cases cn14 : y2 = 34
  · refine l19 (t := 202) hi_165_45 (by rw [cn14]; decide) ?_
    refine l0 hi_165_202 ?_
    refine l33 hi_165_203 ⟨?_, ?_⟩
    · unfold c165_44; rw [if_neg cn1]; rw [if_neg cn2]; rw [if_neg cn4]; rw [if_neg cn5]; rw [if_neg cn6]; rw [if_neg cn7]; rw [if_neg cn8]; rw [if_neg cn9]; rw [if_neg cn10]; rw [if_neg cn11]; rw [if_neg cn12]; rw [if_neg cn13]; rw [if_pos cn14]
    · exact hS
  by_cases cn15 : y2 = 36
  · refine l19 (t := 202) hi_165_45 (by rw [cn15]; decide) ?_
    refine l0 hi_165_202 ?_
    refine l33 hi_165_203 ⟨?_, ?_⟩
    · unfold c165_44; rw [if_neg cn1]; rw [if_neg cn2]; rw [if_neg cn4]; rw [if_neg cn5]; rw [if_neg cn6]; rw [if_neg cn7]; rw [if_neg cn8]; rw [if_neg cn9]; rw [if_neg cn10]; rw [if_neg cn11]; rw [if_neg cn12]; rw [if_neg cn13]; rw [if_neg cn14]; rw [if_pos cn15]
    · exact hS
  by_cases cn16 : y2 = 38
  · refine l19 (t := 241) hi_165_45 (by rw [cn16]; decide) ?_
    refine l0 hi_165_241 ?_
    refine l33 hi_165_243 ⟨?_, ?_⟩
    · unfold c165_44; rw [if_neg cn1]; rw [if_neg cn2]; rw [if_neg cn4]; rw [if_neg cn5]; rw [if_neg cn6]; rw [if_neg cn7]; rw [if_neg cn8]; rw [if_neg cn9]; rw [if_neg cn10]; rw [if_neg cn11]; rw [if_neg cn12]; rw [if_neg cn13]; rw [if_neg cn14]; rw [if_neg cn15]; rw [if_pos cn16]
    · exact hS
  by_cases cn17 : y2 = 39
  · refine l19 (t := 202) hi_165_45 (by rw [cn17]; decide) ?_
    refine l0 hi_165_202 ?_
    refine l33 hi_165_203 ⟨?_, ?_⟩
    · unfold c165_44; rw [if_neg cn1]; rw [if_neg cn2]; rw [if_neg cn4]; rw [if_neg cn5]; rw [if_neg cn6]; rw [if_neg cn7]; rw [if_neg cn8]; rw [if_neg cn9]; rw [if_neg cn10]; rw [if_neg cn11]; rw [if_neg cn12]; rw [if_neg cn13]; rw [if_neg cn14]; rw [if_neg cn15]; rw [if_neg cn16]; rw [if_pos cn17]
    · exact hS
  by_cases cn18 : y2 = 40
  · refine l19 (t := 202) hi_165_45 (by rw [cn18]; decide) ?_
    refine l0 hi_165_202 ?_
    refine l33 hi_165_203 ⟨?_, ?_⟩
    · unfold c165_44; rw [if_neg cn1]; rw [if_neg cn2]; rw [if_neg cn4]; rw [if_neg cn5]; rw [if_neg cn6]; rw [if_neg cn7]; rw [if_neg cn8]; rw [if_neg cn9]; rw [if_neg cn10]; rw [if_neg cn11]; rw [if_neg cn12]; rw [if_neg cn13]; rw [if_neg cn14]; rw [if_neg cn15]; rw [if_neg cn16]; rw [if_neg cn17]; rw [if_pos cn18]
    · exact hS
  by_cases cn19 : y2 = 41
  · refine l19 (t := 202) hi_165_45 (by rw [cn19]; decide) ?_
    refine l0 hi_165_202 ?_
    refine l33 hi_165_203 ⟨?_, ?_⟩
    · unfold c165_44; rw [if_neg cn1]; rw [if_neg cn2]; rw [if_neg cn4]; rw [if_neg cn5]; rw [if_neg cn6]; rw [if_neg cn7]; rw [if_neg cn8]; rw [if_neg cn9]; rw [if_neg cn10]; rw [if_neg cn11]; rw [if_neg cn12]; rw [if_neg cn13]; rw [if_neg cn14]; rw [if_neg cn15]; rw [if_neg cn16]; rw [if_neg cn17]; rw [if_neg cn18]; rw [if_pos cn19]
    · exact hS
  by_cases cn20 : y2 = 42
  · refine l19 (t := 244) hi_165_45 (by rw [cn20]; decide) ?_
    refine l0 hi_165_244 ?_
    refine l33 hi_165_246 ⟨?_, ?_⟩
    · unfold c165_44; rw [if_neg cn1]; rw [if_neg cn2]; rw [if_neg cn4]; rw [if_neg cn5]; rw [if_neg cn6]; rw [if_neg cn7]; rw [if_neg cn8]; rw [if_neg cn9]; rw [if_neg cn10]; rw [if_neg cn11]; rw [if_neg cn12]; rw [if_neg cn13]; rw [if_neg cn14]; rw [if_neg cn15]; rw [if_neg cn16]; rw [if_neg cn17]; rw [if_neg cn18]; rw [if_neg cn19]; rw [if_pos cn20]
    · exact hS
  by_cases cn21 : y2 = 43
  · refine l19 (t := 202) hi_165_45 (by rw [cn21]; decide) ?_
    refine l0 hi_165_202 ?_
    refine l33 hi_165_203 ⟨?_, ?_⟩
    · unfold c165_44; rw [if_neg cn1]; rw [if_neg cn2]; rw [if_neg cn4]; rw [if_neg cn5]; rw [if_neg cn6]; rw [if_neg cn7]; rw [if_neg cn8]; rw [if_neg cn9]; rw [if_neg cn10]; rw [if_neg cn11]; rw [if_neg cn12]; rw [if_neg cn13]; rw [if_neg cn14]; rw [if_neg cn15]; rw [if_neg cn16]; rw [if_neg cn17]; rw [if_neg cn18]; rw [if_neg cn19]; rw [if_neg cn20]; rw [if_pos cn21]
    · exact hS
  by_cases cn22 : y2 = 44
  · refine l19 (t := 202) hi_165_45 (by rw [cn22]; decide) ?_
    refine l0 hi_165_202 ?_
    refine l33 hi_165_203 ⟨?_, ?_⟩
    · unfold c165_44; rw [if_neg cn1]; rw [if_neg cn2]; rw [if_neg cn4]; rw [if_neg cn5]; rw [if_neg cn6]; rw [if_neg cn7]; rw [if_neg cn8]; rw [if_neg cn9]; rw [if_neg cn10]; rw [if_neg cn11]; rw [if_neg cn12]; rw [if_neg cn13]; rw [if_neg cn14]; rw [if_neg cn15]; rw [if_neg cn16]; rw [if_neg cn17]; rw [if_neg cn18]; rw [if_neg cn19]; rw [if_neg cn20]; rw [if_neg cn21]; rw [if_pos cn22]
    · exact hS
  by_cases cn23 : y2 = 45
  · refine l19 (t := 247) hi_165_45 (by rw [cn23]; decide) ?_
    refine l1 (v := y3) hi_165_247 rfl ?_
    refine l11 hi_165_248 ?_
    refine l1 (v := y4) hi_165_249 rfl ?_
    refine l10 hi_165_251 ?_
    show am_L _ _ _ _ _ [o0, o1, some (.int y2), some (.int y3), some (.int y4)] [.int ((-y3) - y4)] _ _
    refine l33 hi_165_252 ⟨?_, ?_⟩
    · unfold c165_44; rw [if_neg cn1]; rw [if_neg cn2]; rw [if_neg cn4]; rw [if_neg cn5]; rw [if_neg cn6]; rw [if_neg cn7]; rw [if_neg cn8]; rw [if_neg cn9]; rw [if_neg cn10]; rw [if_neg cn11]; rw [if_neg cn12]; rw [if_neg cn13]; rw [if_neg cn14]; rw [if_neg cn15]; rw [if_neg cn16]; rw [if_neg cn17]; rw [if_neg cn18]; rw [if_neg cn19]; rw [if_neg cn20]; rw [if_neg cn21]; rw [if_neg cn22]; rw [if_pos cn23]
    · exact hS
  by_cases cn24 : y2 = 46
  · refine l19 (t := 253) hi_165_45 (by rw [cn24]; decide) ?_
    refine l1 (v := y3) hi_165_253 rfl ?_
    refine l11 hi_165_254 ?_
    refine l0 hi_165_255 ?_
    refine l10 hi_165_256 ?_
    show am_L _ _ _ _ _ [o0, o1, some (.int y2), some (.int y3), some (.int y4)] [.int ((-y3) - 1)] _ _
    refine l1 (v := y4) hi_165_257 rfl ?_
    refine l10 hi_165_259 ?_
    show am_L _ _ _ _ _ [o0, o1, some (.int y2), some (.int y3), some (.int y4)] [.int (((-y3) - 1) - y4)] _ _
    refine l33 hi_165_260 ⟨?_, ?_⟩
    · unfold c165_44; rw [if_neg cn1]; rw [if_neg cn2]; rw [if_neg cn4]; rw [if_neg cn5]; rw [if_neg cn6]; rw [if_neg cn7]; rw [if_neg cn8]; rw [if_neg cn9]; rw [if_neg cn10]; rw [if_neg cn11]; rw [if_neg cn12]; rw [if_neg cn13]; rw [if_neg cn14]; rw [if_neg cn15]; rw [if_neg cn16]; rw [if_neg cn17]; rw [if_neg cn18]; rw [if_neg cn19]; rw [if_neg cn20]; rw [if_neg cn21]; rw [if_neg cn22]; rw [if_neg cn23]; rw [if_pos cn24]
    · exact hS
  refine l19 (t := 261) hi_165_45 (sw_not (ks := [12, 13, 14, 17, 18, 20, 21, 25, 26, 27, 28, 33, 34, 36, 38, 39, 40, 41, 42, 43, 44, 45, 46]) (by decide) (by intro k hk; simp only [List.mem_cons, List.not_mem_nil, or_false] at hk; rcases hk with rfl | rfl | rfl | rfl | rfl | rfl | rfl | rfl | rfl | rfl | rfl | rfl | rfl | rfl | rfl | rfl | rfl | rfl | rfl | rfl | rfl | rfl | rfl <;> first | exact cn1 | exact cn2 | exact cn4 | exact cn5 | exact cn6 | exact cn7 | exact cn8 | exact cn9 | exact cn10 | exact cn11 | exact cn12 | exact cn13 | exact cn14 | exact cn15 | exact cn16 | exact cn17 | exact cn18 | exact cn19 | exact cn20 | exact cn21 | exact cn22 | exact cn23 | exact cn24)) ?_
  refine l0 hi_165_261 ?_
  refine l33 hi_165_262 ⟨?_, ?_⟩
  · unfold c165_44; rw [if_neg cn1]; rw [if_neg cn2]; rw [if_neg cn4]; rw [if_neg cn5]; rw [if_neg cn6]; rw [if_neg cn7]; rw [if_neg cn8]; rw [if_neg cn9]; rw [if_neg cn10]; rw [if_neg cn11]; rw [if_neg cn12]; rw [if_neg cn13]; rw [if_neg cn14]; rw [if_neg cn15]; rw [if_neg cn16]; rw [if_neg cn17]; rw [if_neg cn18]; rw [if_neg cn19]; rw [if_neg cn20]; rw [if_neg cn21]; rw [if_neg cn22]; rw [if_neg cn23]; rw [if_neg cn24]
  · exact hS
def c165 (s : cS) (x0 : Nat) (x1 : Int32) : Int32 := if (tg s (.i x0) x1 0) < 1 then c165_44 s (tg s (.i x0) x1 0) (tg s (.i x0) x1 1) (tg s (.i x0) x1 2) else if 10 < (tg s (.i x0) x1 0) then c165_44 s (tg s (.i x0) x1 0) (tg s (.i x0) x1 1) (tg s (.i x0) x1 2) else 1
theorem lc165 {sc : Nat × (Nat → Int32)} {N d : Nat} {A : Nat → Nat} {K : Nat} {S : am_S} {s : cS} {x0 : Nat} {x1 : Int32} (hS : CM A K S s) (hx0 : x0 ≤ K) : am_L (am_PP sc) N d 165 0 [some (.ref (A x0)), some (.int x1), none, none, none] [] S (fun o S1 => o = some (some (.int (c165 s x0 x1))) ∧ CM A K S1 s) := by
  refine l2 (v := (A x0)) hi_165_0 rfl ?_
  refine l20b (v := .ref (cTa A (.i x0))) hS hx0 hi_165_1 rfl ?_
  refine l1 (v := x1) hi_165_4 rfl ?_
  refine l0 hi_165_5 ?_
  refine l32 (as := [.ref (cTa A (.i x0)), .int x1, .int 0]) (la := [some (.ref (cTa A (.i x0))), some (.int x1), some (.int 0)]) (rest := []) hi_165_6 (am_hd0 (M := 165) (by decide) 6) rfl rfl rfl (fun N' d' _ => lc54 (N := N') (d := d') (t := (.i x0)) hS (show cTl _ (.i x0) from hx0)) ?_ (fun _ q => nomatch q.1)
  rintro v3 S1 ⟨ev3, h2⟩
  cases ev3
  show am_L _ _ _ _ _ [some (.ref (A x0)), some (.int x1), none, none, none] [.int (tg s (.i x0) x1 0)] _ _
  refine l3 (ls' := [some (.ref (A x0)), some (.int x1), some (.int (tg s (.i x0) x1 0)), none, none]) hi_165_9 (Nat.le_of_ble_eq_true rfl) rfl ?_
  refine l2 (v := (A x0)) hi_165_10 rfl ?_
  refine l20b (v := .ref (cTa A (.i x0))) h2 hx0 hi_165_11 rfl ?_
  refine l1 (v := x1) hi_165_14 rfl ?_
  refine l0 hi_165_15 ?_
  refine l32 (as := [.ref (cTa A (.i x0)), .int x1, .int 1]) (la := [some (.ref (cTa A (.i x0))), some (.int x1), some (.int 1)]) (rest := []) hi_165_16 (am_hd0 (M := 165) (by decide) 16) rfl rfl rfl (fun N' d' _ => lc54 (N := N') (d := d') (t := (.i x0)) h2 (show cTl _ (.i x0) from hx0)) ?_ (fun _ q => nomatch q.1)
  rintro v6 S4 ⟨ev6, h5⟩
  cases ev6
  show am_L _ _ _ _ _ [some (.ref (A x0)), some (.int x1), some (.int (tg s (.i x0) x1 0)), none, none] [.int (tg s (.i x0) x1 1)] _ _
  refine l3 (ls' := [some (.ref (A x0)), some (.int x1), some (.int (tg s (.i x0) x1 0)), some (.int (tg s (.i x0) x1 1)), none]) hi_165_19 (Nat.le_of_ble_eq_true rfl) rfl ?_
  refine l2 (v := (A x0)) hi_165_20 rfl ?_
  refine l20b (v := .ref (cTa A (.i x0))) h5 hx0 hi_165_21 rfl ?_
  refine l1 (v := x1) hi_165_24 rfl ?_
  refine l0 hi_165_25 ?_
  refine l32 (as := [.ref (cTa A (.i x0)), .int x1, .int 2]) (la := [some (.ref (cTa A (.i x0))), some (.int x1), some (.int 2)]) (rest := []) hi_165_26 (am_hd0 (M := 165) (by decide) 26) rfl rfl rfl (fun N' d' _ => lc54 (N := N') (d := d') (t := (.i x0)) h5 (show cTl _ (.i x0) from hx0)) ?_ (fun _ q => nomatch q.1)
  rintro v9 S7 ⟨ev9, h8⟩
  cases ev9
  show am_L _ _ _ _ _ [some (.ref (A x0)), some (.int x1), some (.int (tg s (.i x0) x1 0)), some (.int (tg s (.i x0) x1 1)), none] [.int (tg s (.i x0) x1 2)] _ _
  refine l3 (ls' := [some (.ref (A x0)), some (.int x1), some (.int (tg s (.i x0) x1 0)), some (.int (tg s (.i x0) x1 1)), some (.int (tg s (.i x0) x1 2))]) hi_165_29 (Nat.le_of_ble_eq_true rfl) rfl ?_
  refine l1 (v := tg s (.i x0) x1 0) hi_165_31 rfl ?_
  refine l0 hi_165_32 ?_
  by_cases cn10 : (tg s (.i x0) x1 0) < 1
  · refine l13t hi_165_33 (decide_eq_true cn10) ?_
    refine am_L.mono (lc165_44 h8 ) ?_
    rintro o S1 ⟨e, h⟩
    have q : c165 s x0 x1 = c165_44 s (tg s (.i x0) x1 0) (tg s (.i x0) x1 1) (tg s (.i x0) x1 2) := by unfold c165; rw [if_pos cn10]
    rw [q]; exact ⟨e, h⟩
  · refine l13f hi_165_33 (decide_eq_false cn10) ?_
    refine l1 (v := tg s (.i x0) x1 0) hi_165_36 rfl ?_
    refine l0 hi_165_37 ?_
    by_cases cn11 : 10 < (tg s (.i x0) x1 0)
    · refine l13t hi_165_39 (decide_eq_true cn11) ?_
      refine am_L.mono (lc165_44 h8 ) ?_
      rintro o S1 ⟨e, h⟩
      have q : c165 s x0 x1 = c165_44 s (tg s (.i x0) x1 0) (tg s (.i x0) x1 1) (tg s (.i x0) x1 2) := by unfold c165; rw [if_neg cn10]; rw [if_pos cn11]
      rw [q]; exact ⟨e, h⟩
    · refine l13f hi_165_39 (decide_eq_false cn11) ?_
      refine l0 hi_165_42 ?_
      refine l33 hi_165_43 ⟨?_, ?_⟩
      · unfold c165; rw [if_neg cn10]; rw [if_neg cn11]
      · exact h8
def c164b7 (s : cS) (y1 : Nat) (t : Int32 × Int32 × Int32) : Nat × (Int32 × Int32 × Int32) := if (s.r (.i y1)) ≤ t.2.2 then (1, (t.1, t.2.1, t.2.2)) else (0, (t.1 + (c165 s y1 t.2.2), if t.2.1 < (t.1 + (c165 s y1 t.2.2)) then (t.1 + (c165 s y1 t.2.2)) else t.2.1, t.2.2 + 1))
theorem lb164_7 {sc : Nat × (Nat → Int32)} {d : Nat} {A : Nat → Nat} {K : Nat} {s : cS} {y1 : Nat} {Q : Option (Option Value) → am_S → Prop} (hy1 : y1 ≤ K) : ∀ (N : Nat) (S : am_S) (t : Int32 × Int32 × Int32), CM A K S s → (∀ m S1, (kwh (c164b7 s y1) m t).1 = 1 → CM A K S1 s → am_L (am_PP sc) N d 164 40 [some (.ref 32), some (.ref (A y1)), some (.int ((kwh (c164b7 s y1) m t).2.1)), some (.int ((kwh (c164b7 s y1) m t).2.2.1)), some (.int ((kwh (c164b7 s y1) m t).2.2.2))] [] S1 Q) → am_L (am_PP sc) N d 164 7 [some (.ref 32), some (.ref (A y1)), some (.int t.1), some (.int t.2.1), some (.int t.2.2)] [] S Q := by
  intro N
  induction N with
  | zero => intros; exact l_zero
  | succ N ih =>
    intro S t hS kx40
    refine l1d (v := t.2.2) hi_164_7 rfl ?_
    refine l2 (v := (A y1)) hi_164_9 rfl ?_
    refine l20b (v := .ref (cTa A (.i y1))) hS hy1 hi_164_10 rfl ?_
    refine l32 (as := [.ref (cTa A (.i y1))]) (la := [some (.ref (cTa A (.i y1)))]) (rest := [.int t.2.2]) hi_164_13 (am_hd0 (M := 164) (by decide) 13) rfl rfl rfl (fun N' d' _ => lc36 (N := N') (d := d') (t := (.i y1)) hS (show cTl _ (.i y1) from hy1)) ?_ (fun _ q => nomatch q.1)
    rintro v3 S1 ⟨ev3, h2⟩
    cases ev3
    show am_L _ _ _ _ _ [some (.ref 32), some (.ref (A y1)), some (.int t.1), some (.int t.2.1), some (.int t.2.2)] [.int (s.r (.i y1)), .int t.2.2] _ _
    by_cases cn4 : (s.r (.i y1)) ≤ t.2.2
    · refine l13t hi_164_16 (decide_eq_true cn4) ?_
      have e0 : (c164b7 s y1) t = (1, (t.1, t.2.1, t.2.2)) := by unfold c164b7; rw [if_pos cn4]
      have e1 : kwh (c164b7 s y1) 1 t = (1, (t.1, t.2.1, t.2.2)) := by rw [kwh_out (by rw [e0]; exact Nat.succ_ne_zero _), e0]
      have q := kx40 1 _  (by rw [e1]) (by exact h2)
      try rw [e1] at q
      exact q.less (Nat.le_succ N)
    · refine l13f hi_164_16 (decide_eq_false cn4) ?_
      refine l1 (v := t.1) hi_164_19 rfl ?_
      refine l2 (v := (A y1)) hi_164_20 rfl ?_
      refine l1 (v := t.2.2) hi_164_21 rfl ?_
      refine l32 (as := [.ref (A y1), .int t.2.2]) (la := [some (.ref (A y1)), some (.int t.2.2), none, none, none]) (rest := [.int t.1]) hi_164_23 (am_hd0 (M := 164) (by decide) 23) rfl rfl rfl (fun N' d' _ => lc165 (N := N') (d := d') h2 hy1) ?_ (fun _ q => nomatch q.1)
      rintro v7 S5 ⟨ev7, h6⟩
      cases ev7
      show am_L _ _ _ _ _ [some (.ref 32), some (.ref (A y1)), some (.int t.1), some (.int t.2.1), some (.int t.2.2)] [.int (c165 s y1 t.2.2), .int t.1] _ _
      refine l10 hi_164_26 ?_
      show am_L _ _ _ _ _ [some (.ref 32), some (.ref (A y1)), some (.int t.1), some (.int t.2.1), some (.int t.2.2)] [.int (t.1 + (c165 s y1 t.2.2))] _ _
      refine l3 (ls' := [some (.ref 32), some (.ref (A y1)), some (.int (t.1 + (c165 s y1 t.2.2))), some (.int t.2.1), some (.int t.2.2)]) hi_164_27 (Nat.le_of_ble_eq_true rfl) rfl ?_
      refine l1 (v := t.2.1) hi_164_28 rfl ?_
      refine l1 (v := t.1 + (c165 s y1 t.2.2)) hi_164_29 rfl ?_
      refine l32 (as := [.int t.2.1, .int (t.1 + (c165 s y1 t.2.2))]) (la := [some (.int t.2.1), some (.int (t.1 + (c165 s y1 t.2.2)))]) (rest := []) hi_164_30 (am_hd0 (M := 164) (by decide) 30) rfl rfl rfl (fun N' d' _ => lc20 (N := N') (d := d')) ?_ (fun _ q => nomatch q.2)
      rintro v10 S8 ⟨eS, ev10⟩
      rw [eS]
      cases ev10
      show am_L _ _ _ _ _ [some (.ref 32), some (.ref (A y1)), some (.int (t.1 + (c165 s y1 t.2.2))), some (.int t.2.1), some (.int t.2.2)] [.int (if t.2.1 < (t.1 + (c165 s y1 t.2.2)) then (t.1 + (c165 s y1 t.2.2)) else t.2.1)] _ _
      refine l3 (ls' := [some (.ref 32), some (.ref (A y1)), some (.int (t.1 + (c165 s y1 t.2.2))), some (.int (if t.2.1 < (t.1 + (c165 s y1 t.2.2)) then (t.1 + (c165 s y1 t.2.2)) else t.2.1)), some (.int t.2.2)]) hi_164_33 (Nat.le_of_ble_eq_true rfl) rfl ?_
      refine l5 (v := t.2.2) (ls' := [some (.ref 32), some (.ref (A y1)), some (.int (t.1 + (c165 s y1 t.2.2))), some (.int (if t.2.1 < (t.1 + (c165 s y1 t.2.2)) then (t.1 + (c165 s y1 t.2.2)) else t.2.1)), some (.int (t.2.2 + 1))]) hi_164_34 rfl rfl ?_
      refine l18 hi_164_37 ?_
      have e0 : (c164b7 s y1) t = (0, (t.1 + (c165 s y1 t.2.2), if t.2.1 < (t.1 + (c165 s y1 t.2.2)) then (t.1 + (c165 s y1 t.2.2)) else t.2.1, t.2.2 + 1)) := by unfold c164b7; rw [if_neg cn4]
      have e1 : ∀ m, kwh (c164b7 s y1) (m + 1) t = kwh (c164b7 s y1) m (t.1 + (c165 s y1 t.2.2), if t.2.1 < (t.1 + (c165 s y1 t.2.2)) then (t.1 + (c165 s y1 t.2.2)) else t.2.1, t.2.2 + 1) := fun m => by rw [kwh_go (by rw [e0]), e0]
      exact ih _  (t.1 + (c165 s y1 t.2.2), if t.2.1 < (t.1 + (c165 s y1 t.2.2)) then (t.1 + (c165 s y1 t.2.2)) else t.2.1, t.2.2 + 1) h6 (fun m S1 hm h1 => by have q := kx40 (m + 1) S1 (by rw [e1]; exact hm) (by exact h1); (try rw [e1] at q); exact q.less (Nat.le_succ N))
noncomputable def c164 (s : cS) (x1 : Nat) : Int32 := (kfin (c164b7 s x1) (0, 0, 0)).2.2.1
theorem lc164 {sc : Nat × (Nat → Int32)} {N d : Nat} {A : Nat → Nat} {K : Nat} {S : am_S} {s : cS} {x1 : Nat} (hS : CM A K S s) (hx1 : x1 ≤ K) : am_L (am_PP sc) N d 164 0 [some (.ref 32), some (.ref (A x1)), none, none, none] [] S (fun o S1 => o = some (some (.int (c164 s x1))) ∧ CM A K S1 s) := by
  refine l0 hi_164_0 ?_
  refine l3 (ls' := [some (.ref 32), some (.ref (A x1)), some (.int 0), none, none]) hi_164_1 (Nat.le_of_ble_eq_true rfl) rfl ?_
  refine l0 hi_164_2 ?_
  refine l3 (ls' := [some (.ref 32), some (.ref (A x1)), some (.int 0), some (.int 0), none]) hi_164_3 (Nat.le_of_ble_eq_true rfl) rfl ?_
  refine l0 hi_164_4 ?_
  refine l3 (ls' := [some (.ref 32), some (.ref (A x1)), some (.int 0), some (.int 0), some (.int 0)]) hi_164_5 (Nat.le_of_ble_eq_true rfl) rfl ?_
  refine lb164_7 hx1 N _  (0, 0, 0) hS ?_
  · intro m1 S2  hm3 h4
    have hf5 : kfin (c164b7 s x1) (0, 0, 0) = kwh (c164b7 s x1) m1 (0, 0, 0) := kfin_eq (by rw [hm3]; decide)
    rw [← hf5] at hm3
    try rw [← hf5]
    refine l1 (v := (kfin (c164b7 s x1) (0, 0, 0)).2.2.1) hi_164_40 rfl ?_
    refine l33 hi_164_41 ⟨?_, ?_⟩
    · rfl
    · exact h4
def c169_172 (s : cS) (y0 : Nat) (y2 : Int32) : Int32 := if y2 < 0 then 1 else if y2 < (s.r (.i y0)) then 0 else 1
theorem lc169_172 {sc : Nat × (Nat → Int32)} {N d : Nat} {A : Nat → Nat} {K : Nat} {S : am_S} {s : cS} {y0 : Nat} {y2 : Int32} {o1 : Option Value} (hS : CM A K S s) (hy0 : y0 ≤ K) : am_L (am_PP sc) N d 169 172 [some (.ref (A y0)), o1, some (.int y2)] [] S (fun o S1 => o = some (some (.int (c169_172 s y0 y2))) ∧ CM A K S1 s) := by
  refine l1 (v := y2) hi_169_172 rfl ?_
  by_cases cn1 : y2 < 0
  · refine l12t hi_169_173 (decide_eq_true cn1) ?_
    refine l0 hi_169_187 ?_
    refine l18 hi_169_188 ?_
    refine l36 hi_169_192 fun _ => ⟨?_, ?_⟩
    · unfold c169_172; rw [if_pos cn1]
    · exact hS
  · refine l12f hi_169_173 (decide_eq_false cn1) ?_
    refine l1 (v := y2) hi_169_176 rfl ?_
    refine l2 (v := (A y0)) hi_169_177 rfl ?_
    refine l20b (v := .ref (cTa A (.i y0))) hS hy0 hi_169_178 rfl ?_
    refine l32 (as := [.ref (cTa A (.i y0))]) (la := [some (.ref (cTa A (.i y0)))]) (rest := [.int y2]) hi_169_181 (am_hd0 (M := 169) (by decide) 181) rfl rfl rfl (fun N' d' _ => lc36 (N := N') (d := d') (t := (.i y0)) hS (show cTl _ (.i y0) from hy0)) ?_ (fun _ q => nomatch q.1)
    rintro v4 S2 ⟨ev4, h3⟩
    cases ev4
    show am_L _ _ _ _ _ [some (.ref (A y0)), o1, some (.int y2)] [.int (s.r (.i y0)), .int y2] _ _
    by_cases cn5 : y2 < (s.r (.i y0))
    · refine l13t hi_169_184 (decide_eq_true cn5) ?_
      refine l0 hi_169_191 ?_
      refine l36 hi_169_192 fun _ => ⟨?_, ?_⟩
      · unfold c169_172; rw [if_neg cn1]; rw [if_pos cn5]
      · exact h3
    · refine l13f hi_169_184 (decide_eq_false cn5) ?_
      refine l0 hi_169_187 ?_
      refine l18 hi_169_188 ?_
      refine l36 hi_169_192 fun _ => ⟨?_, ?_⟩
      · unfold c169_172; rw [if_neg cn1]; rw [if_neg cn5]
      · exact h3
def c169 (s : cS) (x0 : Nat) (x1 : Int32) : Int32 := if (tg s (.i x0) x1 0) = 15 then (c169_172 s x0 (tg s (.i x0) x1 1)) else if (tg s (.i x0) x1 0) = 16 then (c169_172 s x0 (tg s (.i x0) x1 1)) else if (tg s (.i x0) x1 0) = 35 then (c169_172 s x0 (tg s (.i x0) x1 1)) else if (tg s (.i x0) x1 0) = 36 then (c169_172 s x0 (tg s (.i x0) x1 1)) else if (tg s (.i x0) x1 0) = 37 then (c169_172 s x0 (tg s (.i x0) x1 1)) else if (tg s (.i x0) x1 0) = 38 then (c169_172 s x0 (tg s (.i x0) x1 2)) else if (tg s (.i x0) x1 0) = 40 then (c169_172 s x0 (tg s (.i x0) x1 2)) else if (tg s (.i x0) x1 0) = 44 then (c169_172 s x0 (tg s (.i x0) x1 2)) else 0
theorem lc169 {sc : Nat × (Nat → Int32)} {N d : Nat} {A : Nat → Nat} {K : Nat} {S : am_S} {s : cS} {x0 : Nat} {x1 : Int32} (hS : CM A K S s) (hx0 : x0 ≤ K) : am_L (am_PP sc) N d 169 0 [some (.ref (A x0)), some (.int x1), none] [] S (fun o S1 => o = some (some (.int (c169 s x0 x1))) ∧ CM A K S1 s) := by
  refine l2 (v := (A x0)) hi_169_0 rfl ?_
  refine l20b (v := .ref (cTa A (.i x0))) hS hx0 hi_169_1 rfl ?_
  refine l1 (v := x1) hi_169_4 rfl ?_
  refine l0 hi_169_5 ?_
  refine l32 (as := [.ref (cTa A (.i x0)), .int x1, .int 0]) (la := [some (.ref (cTa A (.i x0))), some (.int x1), some (.int 0)]) (rest := []) hi_169_6 (am_hd0 (M := 169) (by decide) 6) rfl rfl rfl (fun N' d' _ => lc54 (N := N') (d := d') (t := (.i x0)) hS (show cTl _ (.i x0) from hx0)) ?_ (fun _ q => nomatch q.1)
  rintro v3 S1 ⟨ev3, h2⟩
  cases ev3
  show am_L _ _ _ _ _ [some (.ref (A x0)), some (.int x1), none] [.int (tg s (.i x0) x1 0)] _ _
  by_cases cn4 : (tg s (.i x0) x1 0) = 15
  · refine l19 (t := 144) hi_169_9 (by rw [cn4]; decide) ?_
    refine l2 (v := (A x0)) hi_169_144 rfl ?_
    refine l20b (v := .ref (cTa A (.i x0))) h2 hx0 hi_169_145 rfl ?_
    refine l1 (v := x1) hi_169_148 rfl ?_
    refine l0 hi_169_149 ?_
    refine l32 (as := [.ref (cTa A (.i x0)), .int x1, .int 1]) (la := [some (.ref (cTa A (.i x0))), some (.int x1), some (.int 1)]) (rest := []) hi_169_150 (am_hd0 (M := 169) (by decide) 150) rfl rfl rfl (fun N' d' _ => lc54 (N := N') (d := d') (t := (.i x0)) h2 (show cTl _ (.i x0) from hx0)) ?_ (fun _ q => nomatch q.1)
    rintro v7 S5 ⟨ev7, h6⟩
    cases ev7
    show am_L _ _ _ _ _ [some (.ref (A x0)), some (.int x1), none] [.int (tg s (.i x0) x1 1)] _ _
    refine l3 (ls' := [some (.ref (A x0)), some (.int x1), some (.int (tg s (.i x0) x1 1))]) hi_169_153 (Nat.le_of_ble_eq_true rfl) rfl ?_
    refine l18 hi_169_154 ?_
    refine am_L.mono (lc169_172 h6 hx0) ?_
    rintro o S1 ⟨e, h⟩
    have q : c169 s x0 x1 = c169_172 s x0 (tg s (.i x0) x1 1) := by unfold c169; rw [if_pos cn4]
    rw [q]; exact ⟨e, h⟩
  by_cases cn8 : (tg s (.i x0) x1 0) = 16
  · refine l19 (t := 144) hi_169_9 (by rw [cn8]; decide) ?_
    refine l2 (v := (A x0)) hi_169_144 rfl ?_
    refine l20b (v := .ref (cTa A (.i x0))) h2 hx0 hi_169_145 rfl ?_
    refine l1 (v := x1) hi_169_148 rfl ?_
    refine l0 hi_169_149 ?_
    refine l32 (as := [.ref (cTa A (.i x0)), .int x1, .int 1]) (la := [some (.ref (cTa A (.i x0))), some (.int x1), some (.int 1)]) (rest := []) hi_169_150 (am_hd0 (M := 169) (by decide) 150) rfl rfl rfl (fun N' d' _ => lc54 (N := N') (d := d') (t := (.i x0)) h2 (show cTl _ (.i x0) from hx0)) ?_ (fun _ q => nomatch q.1)
    rintro v11 S9 ⟨ev11, h10⟩
    cases ev11
    show am_L _ _ _ _ _ [some (.ref (A x0)), some (.int x1), none] [.int (tg s (.i x0) x1 1)] _ _
    refine l3 (ls' := [some (.ref (A x0)), some (.int x1), some (.int (tg s (.i x0) x1 1))]) hi_169_153 (Nat.le_of_ble_eq_true rfl) rfl ?_
    refine l18 hi_169_154 ?_
    refine am_L.mono (lc169_172 h10 hx0) ?_
    rintro o S1 ⟨e, h⟩
    have q : c169 s x0 x1 = c169_172 s x0 (tg s (.i x0) x1 1) := by unfold c169; rw [if_neg cn4]; rw [if_pos cn8]
    rw [q]; exact ⟨e, h⟩
  by_cases cn12 : (tg s (.i x0) x1 0) = 35
  · refine l19 (t := 144) hi_169_9 (by rw [cn12]; decide) ?_
    refine l2 (v := (A x0)) hi_169_144 rfl ?_
    refine l20b (v := .ref (cTa A (.i x0))) h2 hx0 hi_169_145 rfl ?_
    refine l1 (v := x1) hi_169_148 rfl ?_
    refine l0 hi_169_149 ?_
    refine l32 (as := [.ref (cTa A (.i x0)), .int x1, .int 1]) (la := [some (.ref (cTa A (.i x0))), some (.int x1), some (.int 1)]) (rest := []) hi_169_150 (am_hd0 (M := 169) (by decide) 150) rfl rfl rfl (fun N' d' _ => lc54 (N := N') (d := d') (t := (.i x0)) h2 (show cTl _ (.i x0) from hx0)) ?_ (fun _ q => nomatch q.1)
    rintro v15 S13 ⟨ev15, h14⟩
    cases ev15
    show am_L _ _ _ _ _ [some (.ref (A x0)), some (.int x1), none] [.int (tg s (.i x0) x1 1)] _ _
    refine l3 (ls' := [some (.ref (A x0)), some (.int x1), some (.int (tg s (.i x0) x1 1))]) hi_169_153 (Nat.le_of_ble_eq_true rfl) rfl ?_
    refine l18 hi_169_154 ?_
    refine am_L.mono (lc169_172 h14 hx0) ?_
    rintro o S1 ⟨e, h⟩
    have q : c169 s x0 x1 = c169_172 s x0 (tg s (.i x0) x1 1) := by unfold c169; rw [if_neg cn4]; rw [if_neg cn8]; rw [if_pos cn12]
    rw [q]; exact ⟨e, h⟩
  by_cases cn16 : (tg s (.i x0) x1 0) = 36
  · refine l19 (t := 144) hi_169_9 (by rw [cn16]; decide) ?_
    refine l2 (v := (A x0)) hi_169_144 rfl ?_
    refine l20b (v := .ref (cTa A (.i x0))) h2 hx0 hi_169_145 rfl ?_
    refine l1 (v := x1) hi_169_148 rfl ?_
    refine l0 hi_169_149 ?_
    refine l32 (as := [.ref (cTa A (.i x0)), .int x1, .int 1]) (la := [some (.ref (cTa A (.i x0))), some (.int x1), some (.int 1)]) (rest := []) hi_169_150 (am_hd0 (M := 169) (by decide) 150) rfl rfl rfl (fun N' d' _ => lc54 (N := N') (d := d') (t := (.i x0)) h2 (show cTl _ (.i x0) from hx0)) ?_ (fun _ q => nomatch q.1)
    rintro v19 S17 ⟨ev19, h18⟩
    cases ev19
    show am_L _ _ _ _ _ [some (.ref (A x0)), some (.int x1), none] [.int (tg s (.i x0) x1 1)] _ _
    refine l3 (ls' := [some (.ref (A x0)), some (.int x1), some (.int (tg s (.i x0) x1 1))]) hi_169_153 (Nat.le_of_ble_eq_true rfl) rfl ?_
    refine l18 hi_169_154 ?_
    refine am_L.mono (lc169_172 h18 hx0) ?_
    rintro o S1 ⟨e, h⟩
    have q : c169 s x0 x1 = c169_172 s x0 (tg s (.i x0) x1 1) := by unfold c169; rw [if_neg cn4]; rw [if_neg cn8]; rw [if_neg cn12]; rw [if_pos cn16]
    rw [q]; exact ⟨e, h⟩
  by_cases cn20 : (tg s (.i x0) x1 0) = 37
  · refine l19 (t := 144) hi_169_9 (by rw [cn20]; decide) ?_
    refine l2 (v := (A x0)) hi_169_144 rfl ?_
    refine l20b (v := .ref (cTa A (.i x0))) h2 hx0 hi_169_145 rfl ?_
    refine l1 (v := x1) hi_169_148 rfl ?_
    refine l0 hi_169_149 ?_
    refine l32 (as := [.ref (cTa A (.i x0)), .int x1, .int 1]) (la := [some (.ref (cTa A (.i x0))), some (.int x1), some (.int 1)]) (rest := []) hi_169_150 (am_hd0 (M := 169) (by decide) 150) rfl rfl rfl (fun N' d' _ => lc54 (N := N') (d := d') (t := (.i x0)) h2 (show cTl _ (.i x0) from hx0)) ?_ (fun _ q => nomatch q.1)
    rintro v23 S21 ⟨ev23, h22⟩
    cases ev23
    show am_L _ _ _ _ _ [some (.ref (A x0)), some (.int x1), none] [.int (tg s (.i x0) x1 1)] _ _
    refine l3 (ls' := [some (.ref (A x0)), some (.int x1), some (.int (tg s (.i x0) x1 1))]) hi_169_153 (Nat.le_of_ble_eq_true rfl) rfl ?_
    refine l18 hi_169_154 ?_
    refine am_L.mono (lc169_172 h22 hx0) ?_
    rintro o S1 ⟨e, h⟩
    have q : c169 s x0 x1 = c169_172 s x0 (tg s (.i x0) x1 1) := by unfold c169; rw [if_neg cn4]; rw [if_neg cn8]; rw [if_neg cn12]; rw [if_neg cn16]; rw [if_pos cn20]
    rw [q]; exact ⟨e, h⟩
  by_cases cn24 : (tg s (.i x0) x1 0) = 38
  · refine l19 (t := 157) hi_169_9 (by rw [cn24]; decide) ?_
    refine l2 (v := (A x0)) hi_169_157 rfl ?_
    refine l20b (v := .ref (cTa A (.i x0))) h2 hx0 hi_169_158 rfl ?_
    refine l1 (v := x1) hi_169_161 rfl ?_
    refine l0 hi_169_162 ?_
    refine l32 (as := [.ref (cTa A (.i x0)), .int x1, .int 2]) (la := [some (.ref (cTa A (.i x0))), some (.int x1), some (.int 2)]) (rest := []) hi_169_163 (am_hd0 (M := 169) (by decide) 163) rfl rfl rfl (fun N' d' _ => lc54 (N := N') (d := d') (t := (.i x0)) h2 (show cTl _ (.i x0) from hx0)) ?_ (fun _ q => nomatch q.1)
    rintro v27 S25 ⟨ev27, h26⟩
    cases ev27
    show am_L _ _ _ _ _ [some (.ref (A x0)), some (.int x1), none] [.int (tg s (.i x0) x1 2)] _ _
    refine l3 (ls' := [some (.ref (A x0)), some (.int x1), some (.int (tg s (.i x0) x1 2))]) hi_169_166 (Nat.le_of_ble_eq_true rfl) rfl ?_
    refine l18 hi_169_167 ?_
    refine am_L.mono (lc169_172 h26 hx0) ?_
    rintro o S1 ⟨e, h⟩
    have q : c169 s x0 x1 = c169_172 s x0 (tg s (.i x0) x1 2) := by unfold c169; rw [if_neg cn4]; rw [if_neg cn8]; rw [if_neg cn12]; rw [if_neg cn16]; rw [if_neg cn20]; rw [if_pos cn24]
    rw [q]; exact ⟨e, h⟩
  by_cases cn28 : (tg s (.i x0) x1 0) = 40
  · refine l19 (t := 157) hi_169_9 (by rw [cn28]; decide) ?_
    refine l2 (v := (A x0)) hi_169_157 rfl ?_
    refine l20b (v := .ref (cTa A (.i x0))) h2 hx0 hi_169_158 rfl ?_
    refine l1 (v := x1) hi_169_161 rfl ?_
    refine l0 hi_169_162 ?_
    refine l32 (as := [.ref (cTa A (.i x0)), .int x1, .int 2]) (la := [some (.ref (cTa A (.i x0))), some (.int x1), some (.int 2)]) (rest := []) hi_169_163 (am_hd0 (M := 169) (by decide) 163) rfl rfl rfl (fun N' d' _ => lc54 (N := N') (d := d') (t := (.i x0)) h2 (show cTl _ (.i x0) from hx0)) ?_ (fun _ q => nomatch q.1)
    rintro v31 S29 ⟨ev31, h30⟩
    cases ev31
    show am_L _ _ _ _ _ [some (.ref (A x0)), some (.int x1), none] [.int (tg s (.i x0) x1 2)] _ _
    refine l3 (ls' := [some (.ref (A x0)), some (.int x1), some (.int (tg s (.i x0) x1 2))]) hi_169_166 (Nat.le_of_ble_eq_true rfl) rfl ?_
    refine l18 hi_169_167 ?_
    refine am_L.mono (lc169_172 h30 hx0) ?_
    rintro o S1 ⟨e, h⟩
    have q : c169 s x0 x1 = c169_172 s x0 (tg s (.i x0) x1 2) := by unfold c169; rw [if_neg cn4]; rw [if_neg cn8]; rw [if_neg cn12]; rw [if_neg cn16]; rw [if_neg cn20]; rw [if_neg cn24]; rw [if_pos cn28]
    rw [q]; exact ⟨e, h⟩
  by_cases cn32 : (tg s (.i x0) x1 0) = 44
  · refine l19 (t := 157) hi_169_9 (by rw [cn32]; decide) ?_
    refine l2 (v := (A x0)) hi_169_157 rfl ?_
    refine l20b (v := .ref (cTa A (.i x0))) h2 hx0 hi_169_158 rfl ?_
    refine l1 (v := x1) hi_169_161 rfl ?_
    refine l0 hi_169_162 ?_
    refine l32 (as := [.ref (cTa A (.i x0)), .int x1, .int 2]) (la := [some (.ref (cTa A (.i x0))), some (.int x1), some (.int 2)]) (rest := []) hi_169_163 (am_hd0 (M := 169) (by decide) 163) rfl rfl rfl (fun N' d' _ => lc54 (N := N') (d := d') (t := (.i x0)) h2 (show cTl _ (.i x0) from hx0)) ?_ (fun _ q => nomatch q.1)
    rintro v35 S33 ⟨ev35, h34⟩
    cases ev35
    show am_L _ _ _ _ _ [some (.ref (A x0)), some (.int x1), none] [.int (tg s (.i x0) x1 2)] _ _
    refine l3 (ls' := [some (.ref (A x0)), some (.int x1), some (.int (tg s (.i x0) x1 2))]) hi_169_166 (Nat.le_of_ble_eq_true rfl) rfl ?_
    refine l18 hi_169_167 ?_
    refine am_L.mono (lc169_172 h34 hx0) ?_
    rintro o S1 ⟨e, h⟩
    have q : c169 s x0 x1 = c169_172 s x0 (tg s (.i x0) x1 2) := by unfold c169; rw [if_neg cn4]; rw [if_neg cn8]; rw [if_neg cn12]; rw [if_neg cn16]; rw [if_neg cn20]; rw [if_neg cn24]; rw [if_neg cn28]; rw [if_pos cn32]
    rw [q]; exact ⟨e, h⟩
  refine l19 (t := 170) hi_169_9 (sw_not (ks := [15, 16, 35, 36, 37, 38, 40, 44]) (by decide) (by intro k hk; simp only [List.mem_cons, List.not_mem_nil, or_false] at hk; rcases hk with rfl | rfl | rfl | rfl | rfl | rfl | rfl | rfl <;> first | exact cn4 | exact cn8 | exact cn12 | exact cn16 | exact cn20 | exact cn24 | exact cn28 | exact cn32)) ?_
  refine l0 hi_169_170 ?_
  refine l36 hi_169_171 fun _ => ⟨?_, ?_⟩
  · unfold c169; rw [if_neg cn4]; rw [if_neg cn8]; rw [if_neg cn12]; rw [if_neg cn16]; rw [if_neg cn20]; rw [if_neg cn24]; rw [if_neg cn28]; rw [if_neg cn32]
  · exact h2
def c171 (s : cS) (x0 : Nat) (x1 : Int32) (x2 : Int32) : Int32 := if x1 < 0 then 1 else if x2 < (s.b x0 7) then 0 else 1
theorem lc171 {sc : Nat × (Nat → Int32)} {N d : Nat} {A : Nat → Nat} {K : Nat} {S : am_S} {s : cS} {x0 : Nat} {x1 : Int32} {x2 : Int32} (hS : CM A K S s) (hx0 : x0 ≤ K) : am_L (am_PP sc) N d 171 0 [some (.ref (A x0)), some (.int x1), some (.int x2)] [] S (fun o S1 => o = some (some (.int (c171 s x0 x1 x2))) ∧ CM A K S1 s) := by
  refine l1 (v := x1) hi_171_0 rfl ?_
  by_cases cn1 : x1 < 0
  · refine l12t hi_171_1 (decide_eq_true cn1) ?_
    refine l0 hi_171_12 ?_
    refine l18 hi_171_13 ?_
    refine l36 hi_171_17 fun _ => ⟨?_, ?_⟩
    · unfold c171; rw [if_pos cn1]
    · exact hS
  · refine l12f hi_171_1 (decide_eq_false cn1) ?_
    refine l1 (v := x2) hi_171_4 rfl ?_
    refine l2 (v := (A x0)) hi_171_5 rfl ?_
    refine l20b (v := .int (s.b x0 7)) hS hx0 hi_171_6 rfl ?_
    by_cases cn2 : x2 < (s.b x0 7)
    · refine l13t hi_171_9 (decide_eq_true cn2) ?_
      refine l0 hi_171_16 ?_
      refine l36 hi_171_17 fun _ => ⟨?_, ?_⟩
      · unfold c171; rw [if_neg cn1]; rw [if_pos cn2]
      · exact hS
    · refine l13f hi_171_9 (decide_eq_false cn2) ?_
      refine l0 hi_171_12 ?_
      refine l18 hi_171_13 ?_
      refine l36 hi_171_17 fun _ => ⟨?_, ?_⟩
      · unfold c171; rw [if_neg cn1]; rw [if_neg cn2]
      · exact hS
