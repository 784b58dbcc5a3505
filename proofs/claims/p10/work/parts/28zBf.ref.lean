/-! THE REFERENCE: what each method does (printed by wip/p5/lw.py) -/
/-- run(IIII)V -/
noncomputable def k180 (s : kS) (x1 : Int32) (x2 : Int32) (x3 : Int32) (x4 : Int32) : kS × Int32 := if x1 ≤ 22 then if x1 = 1 then ((k225 s).1, 0) else if x1 = 2 then (k180_123 ((k242 s).1)) else if x1 = 3 then ((k244 s x2).1, 0) else if x1 = 4 then ((k245 s x2 x3).1, 0) else if x1 = 5 then (k180_156 ((k199 s 30).1) x2 ((k199 s 30).2)) else if x1 = 6 then ((k247 s x2).1, 0) else if x1 = 7 then ((k248 s x2).1, 0) else if x1 = 8 then ((k249 s x2 x3).1, 0) else if x1 = 9 then (k180_208 ((k242 s).1) x2) else if x1 = 10 then ((k251 s x2).1, 0) else if x1 = 11 then ((k252 s x2).1, 0) else if x1 = 12 then (k180_243 ((k209 s).1) x2) else if x1 = 13 then ((k255 s x2 x3 x4).1, 0) else if x1 = 14 then ((k257 s x2 x3 x4).1, 0) else if x1 = 15 then ((k259 s x2 x3 x4).1, 0) else if x1 = 16 then ((k260 s x2 x3 x4).1, 0) else if x1 = 17 then ((k189 (kf s 15 ((s.1 15) - 1)) 29 x2 0 x3).1, 0) else if x1 = 18 then (k180_332 ((k258 s ((s.1 20) - x3) (s.1 19)).1) x2 x3) else if x1 = 19 then ((k261 s x2).1, 0) else if x1 = 20 then ((k263 s).1, 0) else if x1 = 21 then ((k264 s x2 x3).1, 0) else ((k265 s x2 x3).1, 0) else ((k181 s x1 x2 x3).1, 0)
theorem lt180 {sc : Nat × (Nat → Int32)} {N d : Nat} {S0 S : am_S} {s : kS} {x1 : Int32} {x2 : Int32} {x3 : Int32} {x4 : Int32} (hS : MK S0 S s) : am_L (am_PP sc) N d 180 0 [some (.ref 39), some (.int x1), some (.int x2), some (.int x3), some (.int x4)] [] S (fun o S1 => o = some none ∧ MK S0 S1 (k180 s x1 x2 x3 x4).1) := by
  refine l1 (v := x1) hi_180_0 rfl ?_
  refine l0 hi_180_1 ?_
  by_cases c1 : x1 ≤ 22
  · refine l13t hi_180_3 (decide_eq_true c1) ?_
    refine l1 (v := x1) hi_180_14 rfl ?_
    by_cases c2 : x1 = 1
    · refine l19 (t := 112) hi_180_15 (by rw [c2]; decide) ?_
      refine l2 (v := 39) hi_180_112 rfl ?_
      refine l32 (as := [.ref 39]) (la := [some (.ref 39), none]) (rest := []) hi_180_113 (am_hd0 (M := 180) (by decide) 113) rfl rfl rfl (fun N' d' _ => lt225 (N := N') (d := d') hS) ?_ (fun _ q => nomatch q.1)
      rintro v5 S3 ⟨ev5, h4⟩
      cases ev5
      show am_L _ _ _ _ _ [some (.ref 39), some (.int x1), some (.int x2), some (.int x3), some (.int x4)] [] _ _
      refine l18 hi_180_116 ?_
      refine l35 hi_180_371 ⟨rfl, ?_⟩
      unfold k180; rw [if_pos c1]; rw [if_pos c2]; exact h4
    by_cases c6 : x1 = 2
    · refine l19 (t := 119) hi_180_15 (by rw [c6]; decide) ?_
      refine l2 (v := 39) hi_180_119 rfl ?_
      refine l32 (as := [.ref 39]) (la := [some (.ref 39)]) (rest := []) hi_180_120 (am_hd0 (M := 180) (by decide) 120) rfl rfl rfl (fun N' d' _ => lt242 (N := N') (d := d') hS) ?_ (fun _ q => nomatch q.1)
      rintro v9 S7 ⟨ev9, h8⟩
      cases ev9
      show am_L _ _ _ _ _ [some (.ref 39), some (.int x1), some (.int x2), some (.int x3), some (.int x4)] [] _ _
      refine am_L.mono (lt180_123 h8) ?_
      rintro o S1 ⟨e, h⟩
      have q : k180 s x1 x2 x3 x4 = k180_123 ((k242 s).1) := by unfold k180; rw [if_pos c1]; rw [if_neg c2]; rw [if_pos c6]
      rw [q]; exact ⟨e, h⟩
    by_cases c10 : x1 = 3
    · refine l19 (t := 133) hi_180_15 (by rw [c10]; decide) ?_
      refine l2 (v := 39) hi_180_133 rfl ?_
      refine l1 (v := x2) hi_180_134 rfl ?_
      refine l32 (as := [.ref 39, .int x2]) (la := [some (.ref 39), some (.int x2), none]) (rest := []) hi_180_135 (am_hd0 (M := 180) (by decide) 135) rfl rfl rfl (fun N' d' _ => lt244 (N := N') (d := d') hS) ?_ (fun _ q => nomatch q.1)
      rintro v13 S11 ⟨ev13, h12⟩
      cases ev13
      show am_L _ _ _ _ _ [some (.ref 39), some (.int x1), some (.int x2), some (.int x3), some (.int x4)] [] _ _
      refine l18 hi_180_138 ?_
      refine l35 hi_180_371 ⟨rfl, ?_⟩
      unfold k180; rw [if_pos c1]; rw [if_neg c2]; rw [if_neg c6]; rw [if_pos c10]; exact h12
    by_cases c14 : x1 = 4
    · refine l19 (t := 141) hi_180_15 (by rw [c14]; decide) ?_
      refine l2 (v := 39) hi_180_141 rfl ?_
      refine l1 (v := x2) hi_180_142 rfl ?_
      refine l1 (v := x3) hi_180_143 rfl ?_
      refine l32 (as := [.ref 39, .int x2, .int x3]) (la := [some (.ref 39), some (.int x2), some (.int x3)]) (rest := []) hi_180_144 (am_hd0 (M := 180) (by decide) 144) rfl rfl rfl (fun N' d' _ => lt245 (N := N') (d := d') hS) ?_ (fun _ q => nomatch q.1)
      rintro v17 S15 ⟨ev17, h16⟩
      cases ev17
      show am_L _ _ _ _ _ [some (.ref 39), some (.int x1), some (.int x2), some (.int x3), some (.int x4)] [] _ _
      refine l18 hi_180_147 ?_
      refine l35 hi_180_371 ⟨rfl, ?_⟩
      unfold k180; rw [if_pos c1]; rw [if_neg c2]; rw [if_neg c6]; rw [if_neg c10]; rw [if_pos c14]; exact h16
    by_cases c18 : x1 = 5
    · refine l19 (t := 150) hi_180_15 (by rw [c18]; decide) ?_
      refine l2 (v := 39) hi_180_150 rfl ?_
      refine l0 hi_180_151 ?_
      refine l32 (as := [.ref 39, .int 30]) (la := [some (.ref 39), some (.int 30)]) (rest := []) hi_180_153 (am_hd0 (M := 180) (by decide) 153) rfl rfl rfl (fun N' d' _ => lt199 (N := N') (d := d') hS) ?_ (fun _ q => nomatch q.1)
      rintro v21 S19 ⟨ev21, h20⟩
      cases ev21
      show am_L _ _ _ _ _ [some (.ref 39), some (.int x1), some (.int x2), some (.int x3), some (.int x4)] [.int ((k199 s 30).2)] _ _
      refine am_L.mono (lt180_156 h20) ?_
      rintro o S1 ⟨e, h⟩
      have q : k180 s x1 x2 x3 x4 = k180_156 ((k199 s 30).1) x2 ((k199 s 30).2) := by unfold k180; rw [if_pos c1]; rw [if_neg c2]; rw [if_neg c6]; rw [if_neg c10]; rw [if_neg c14]; rw [if_pos c18]
      rw [q]; exact ⟨e, h⟩
    by_cases c22 : x1 = 6
    · refine l19 (t := 179) hi_180_15 (by rw [c22]; decide) ?_
      refine l2 (v := 39) hi_180_179 rfl ?_
      refine l1 (v := x2) hi_180_180 rfl ?_
      refine l32 (as := [.ref 39, .int x2]) (la := [some (.ref 39), some (.int x2), none]) (rest := []) hi_180_181 (am_hd0 (M := 180) (by decide) 181) rfl rfl rfl (fun N' d' _ => lt247 (N := N') (d := d') hS) ?_ (fun _ q => nomatch q.1)
      rintro v25 S23 ⟨ev25, h24⟩
      cases ev25
      show am_L _ _ _ _ _ [some (.ref 39), some (.int x1), some (.int x2), some (.int x3), some (.int x4)] [] _ _
      refine l18 hi_180_184 ?_
      refine l35 hi_180_371 ⟨rfl, ?_⟩
      unfold k180; rw [if_pos c1]; rw [if_neg c2]; rw [if_neg c6]; rw [if_neg c10]; rw [if_neg c14]; rw [if_neg c18]; rw [if_pos c22]; exact h24
    by_cases c26 : x1 = 7
    · refine l19 (t := 187) hi_180_15 (by rw [c26]; decide) ?_
      refine l2 (v := 39) hi_180_187 rfl ?_
      refine l1 (v := x2) hi_180_188 rfl ?_
      refine l32 (as := [.ref 39, .int x2]) (la := [some (.ref 39), some (.int x2), none]) (rest := []) hi_180_189 (am_hd0 (M := 180) (by decide) 189) rfl rfl rfl (fun N' d' _ => lt248 (N := N') (d := d') hS) ?_ (fun _ q => nomatch q.1)
      rintro v29 S27 ⟨ev29, h28⟩
      cases ev29
      show am_L _ _ _ _ _ [some (.ref 39), some (.int x1), some (.int x2), some (.int x3), some (.int x4)] [] _ _
      refine l18 hi_180_192 ?_
      refine l35 hi_180_371 ⟨rfl, ?_⟩
      unfold k180; rw [if_pos c1]; rw [if_neg c2]; rw [if_neg c6]; rw [if_neg c10]; rw [if_neg c14]; rw [if_neg c18]; rw [if_neg c22]; rw [if_pos c26]; exact h28
    by_cases c30 : x1 = 8
    · refine l19 (t := 195) hi_180_15 (by rw [c30]; decide) ?_
      refine l2 (v := 39) hi_180_195 rfl ?_
      refine l1 (v := x2) hi_180_196 rfl ?_
      refine l1 (v := x3) hi_180_197 rfl ?_
      refine l32 (as := [.ref 39, .int x2, .int x3]) (la := [some (.ref 39), some (.int x2), some (.int x3), none, none]) (rest := []) hi_180_198 (am_hd0 (M := 180) (by decide) 198) rfl rfl rfl (fun N' d' _ => lt249 (N := N') (d := d') hS) ?_ (fun _ q => nomatch q.1)
      rintro v33 S31 ⟨ev33, h32⟩
      cases ev33
      show am_L _ _ _ _ _ [some (.ref 39), some (.int x1), some (.int x2), some (.int x3), some (.int x4)] [] _ _
      refine l18 hi_180_201 ?_
      refine l35 hi_180_371 ⟨rfl, ?_⟩
      unfold k180; rw [if_pos c1]; rw [if_neg c2]; rw [if_neg c6]; rw [if_neg c10]; rw [if_neg c14]; rw [if_neg c18]; rw [if_neg c22]; rw [if_neg c26]; rw [if_pos c30]; exact h32
    by_cases c34 : x1 = 9
    · refine l19 (t := 204) hi_180_15 (by rw [c34]; decide) ?_
      refine l2 (v := 39) hi_180_204 rfl ?_
      refine l32 (as := [.ref 39]) (la := [some (.ref 39)]) (rest := []) hi_180_205 (am_hd0 (M := 180) (by decide) 205) rfl rfl rfl (fun N' d' _ => lt242 (N := N') (d := d') hS) ?_ (fun _ q => nomatch q.1)
      rintro v37 S35 ⟨ev37, h36⟩
      cases ev37
      show am_L _ _ _ _ _ [some (.ref 39), some (.int x1), some (.int x2), some (.int x3), some (.int x4)] [] _ _
      refine am_L.mono (lt180_208 h36) ?_
      rintro o S1 ⟨e, h⟩
      have q : k180 s x1 x2 x3 x4 = k180_208 ((k242 s).1) x2 := by unfold k180; rw [if_pos c1]; rw [if_neg c2]; rw [if_neg c6]; rw [if_neg c10]; rw [if_neg c14]; rw [if_neg c18]; rw [if_neg c22]; rw [if_neg c26]; rw [if_neg c30]; rw [if_pos c34]
      rw [q]; exact ⟨e, h⟩
    by_cases c38 : x1 = 10
    · refine l19 (t := 223) hi_180_15 (by rw [c38]; decide) ?_
      refine l2 (v := 39) hi_180_223 rfl ?_
      refine l1 (v := x2) hi_180_224 rfl ?_
      refine l32 (as := [.ref 39, .int x2]) (la := [some (.ref 39), some (.int x2)]) (rest := []) hi_180_225 (am_hd0 (M := 180) (by decide) 225) rfl rfl rfl (fun N' d' _ => lt251 (N := N') (d := d') hS) ?_ (fun _ q => nomatch q.1)
      rintro v41 S39 ⟨ev41, h40⟩
      cases ev41
      show am_L _ _ _ _ _ [some (.ref 39), some (.int x1), some (.int x2), some (.int x3), some (.int x4)] [] _ _
      refine l18 hi_180_228 ?_
      refine l35 hi_180_371 ⟨rfl, ?_⟩
      unfold k180; rw [if_pos c1]; rw [if_neg c2]; rw [if_neg c6]; rw [if_neg c10]; rw [if_neg c14]; rw [if_neg c18]; rw [if_neg c22]; rw [if_neg c26]; rw [if_neg c30]; rw [if_neg c34]; rw [if_pos c38]; exact h40
    by_cases c42 : x1 = 11
    · refine l19 (t := 231) hi_180_15 (by rw [c42]; decide) ?_
      refine l2 (v := 39) hi_180_231 rfl ?_
      refine l1 (v := x2) hi_180_232 rfl ?_
      refine l32 (as := [.ref 39, .int x2]) (la := [some (.ref 39), some (.int x2)]) (rest := []) hi_180_233 (am_hd0 (M := 180) (by decide) 233) rfl rfl rfl (fun N' d' _ => lt252 (N := N') (d := d') hS) ?_ (fun _ q => nomatch q.1)
      rintro v45 S43 ⟨ev45, h44⟩
      cases ev45
      show am_L _ _ _ _ _ [some (.ref 39), some (.int x1), some (.int x2), some (.int x3), some (.int x4)] [] _ _
      refine l18 hi_180_236 ?_
      refine l35 hi_180_371 ⟨rfl, ?_⟩
      unfold k180; rw [if_pos c1]; rw [if_neg c2]; rw [if_neg c6]; rw [if_neg c10]; rw [if_neg c14]; rw [if_neg c18]; rw [if_neg c22]; rw [if_neg c26]; rw [if_neg c30]; rw [if_neg c34]; rw [if_neg c38]; rw [if_pos c42]; exact h44
    by_cases c46 : x1 = 12
    · refine l19 (t := 239) hi_180_15 (by rw [c46]; decide) ?_
      refine l2 (v := 39) hi_180_239 rfl ?_
      refine l32 (as := [.ref 39]) (la := [some (.ref 39)]) (rest := []) hi_180_240 (am_hd0 (M := 180) (by decide) 240) rfl rfl rfl (fun N' d' _ => lt209 (N := N') (d := d') hS) ?_ (fun _ q => nomatch q.1)
      rintro v49 S47 ⟨ev49, h48⟩
      cases ev49
      show am_L _ _ _ _ _ [some (.ref 39), some (.int x1), some (.int x2), some (.int x3), some (.int x4)] [] _ _
      refine am_L.mono (lt180_243 h48) ?_
      rintro o S1 ⟨e, h⟩
      have q : k180 s x1 x2 x3 x4 = k180_243 ((k209 s).1) x2 := by unfold k180; rw [if_pos c1]; rw [if_neg c2]; rw [if_neg c6]; rw [if_neg c10]; rw [if_neg c14]; rw [if_neg c18]; rw [if_neg c22]; rw [if_neg c26]; rw [if_neg c30]; rw [if_neg c34]; rw [if_neg c38]; rw [if_neg c42]; rw [if_pos c46]
      rw [q]; exact ⟨e, h⟩
    by_cases c50 : x1 = 13
    · refine l19 (t := 251) hi_180_15 (by rw [c50]; decide) ?_
      refine l2 (v := 39) hi_180_251 rfl ?_
      refine l1 (v := x2) hi_180_252 rfl ?_
      refine l1 (v := x3) hi_180_253 rfl ?_
      refine l1 (v := x4) hi_180_254 rfl ?_
      refine l32 (as := [.ref 39, .int x2, .int x3, .int x4]) (la := [some (.ref 39), some (.int x2), some (.int x3), some (.int x4)]) (rest := []) hi_180_256 (am_hd0 (M := 180) (by decide) 256) rfl rfl rfl (fun N' d' _ => lt255 (N := N') (d := d') hS) ?_ (fun _ q => nomatch q.1)
      rintro v53 S51 ⟨ev53, h52⟩
      cases ev53
      show am_L _ _ _ _ _ [some (.ref 39), some (.int x1), some (.int x2), some (.int x3), some (.int x4)] [] _ _
      refine l18 hi_180_259 ?_
      refine l35 hi_180_371 ⟨rfl, ?_⟩
      unfold k180; rw [if_pos c1]; rw [if_neg c2]; rw [if_neg c6]; rw [if_neg c10]; rw [if_neg c14]; rw [if_neg c18]; rw [if_neg c22]; rw [if_neg c26]; rw [if_neg c30]; rw [if_neg c34]; rw [if_neg c38]; rw [if_neg c42]; rw [if_neg c46]; rw [if_pos c50]; exact h52
    by_cases c54 : x1 = 14
    · refine l19 (t := 262) hi_180_15 (by rw [c54]; decide) ?_
      refine l2 (v := 39) hi_180_262 rfl ?_
      refine l1 (v := x2) hi_180_263 rfl ?_
      refine l1 (v := x3) hi_180_264 rfl ?_
      refine l1 (v := x4) hi_180_265 rfl ?_
      refine l32 (as := [.ref 39, .int x2, .int x3, .int x4]) (la := [some (.ref 39), some (.int x2), some (.int x3), some (.int x4), none, none, none, none]) (rest := []) hi_180_267 (am_hd0 (M := 180) (by decide) 267) rfl rfl rfl (fun N' d' _ => lt257 (N := N') (d := d') hS) ?_ (fun _ q => nomatch q.1)
      rintro v57 S55 ⟨ev57, h56⟩
      cases ev57
      show am_L _ _ _ _ _ [some (.ref 39), some (.int x1), some (.int x2), some (.int x3), some (.int x4)] [] _ _
      refine l18 hi_180_270 ?_
      refine l35 hi_180_371 ⟨rfl, ?_⟩
      unfold k180; rw [if_pos c1]; rw [if_neg c2]; rw [if_neg c6]; rw [if_neg c10]; rw [if_neg c14]; rw [if_neg c18]; rw [if_neg c22]; rw [if_neg c26]; rw [if_neg c30]; rw [if_neg c34]; rw [if_neg c38]; rw [if_neg c42]; rw [if_neg c46]; rw [if_neg c50]; rw [if_pos c54]; exact h56
    by_cases c58 : x1 = 15
    · refine l19 (t := 273) hi_180_15 (by rw [c58]; decide) ?_
      refine l2 (v := 39) hi_180_273 rfl ?_
      refine l1 (v := x2) hi_180_274 rfl ?_
      refine l1 (v := x3) hi_180_275 rfl ?_
      refine l1 (v := x4) hi_180_276 rfl ?_
      refine l32 (as := [.ref 39, .int x2, .int x3, .int x4]) (la := [some (.ref 39), some (.int x2), some (.int x3), some (.int x4)]) (rest := []) hi_180_278 (am_hd0 (M := 180) (by decide) 278) rfl rfl rfl (fun N' d' _ => lt259 (N := N') (d := d') hS) ?_ (fun _ q => nomatch q.1)
      rintro v61 S59 ⟨ev61, h60⟩
      cases ev61
      show am_L _ _ _ _ _ [some (.ref 39), some (.int x1), some (.int x2), some (.int x3), some (.int x4)] [] _ _
      refine l18 hi_180_281 ?_
      refine l35 hi_180_371 ⟨rfl, ?_⟩
      unfold k180; rw [if_pos c1]; rw [if_neg c2]; rw [if_neg c6]; rw [if_neg c10]; rw [if_neg c14]; rw [if_neg c18]; rw [if_neg c22]; rw [if_neg c26]; rw [if_neg c30]; rw [if_neg c34]; rw [if_neg c38]; rw [if_neg c42]; rw [if_neg c46]; rw [if_neg c50]; rw [if_neg c54]; rw [if_pos c58]; exact h60
    by_cases c62 : x1 = 16
    · refine l19 (t := 284) hi_180_15 (by rw [c62]; decide) ?_
      refine l2 (v := 39) hi_180_284 rfl ?_
      refine l1 (v := x2) hi_180_285 rfl ?_
      refine l1 (v := x3) hi_180_286 rfl ?_
      refine l1 (v := x4) hi_180_287 rfl ?_
      refine l32 (as := [.ref 39, .int x2, .int x3, .int x4]) (la := [some (.ref 39), some (.int x2), some (.int x3), some (.int x4)]) (rest := []) hi_180_289 (am_hd0 (M := 180) (by decide) 289) rfl rfl rfl (fun N' d' _ => lt260 (N := N') (d := d') hS) ?_ (fun _ q => nomatch q.1)
      rintro v65 S63 ⟨ev65, h64⟩
      cases ev65
      show am_L _ _ _ _ _ [some (.ref 39), some (.int x1), some (.int x2), some (.int x3), some (.int x4)] [] _ _
      refine l18 hi_180_292 ?_
      refine l35 hi_180_371 ⟨rfl, ?_⟩
      unfold k180; rw [if_pos c1]; rw [if_neg c2]; rw [if_neg c6]; rw [if_neg c10]; rw [if_neg c14]; rw [if_neg c18]; rw [if_neg c22]; rw [if_neg c26]; rw [if_neg c30]; rw [if_neg c34]; rw [if_neg c38]; rw [if_neg c42]; rw [if_neg c46]; rw [if_neg c50]; rw [if_neg c54]; rw [if_neg c58]; rw [if_pos c62]; exact h64
    by_cases c66 : x1 = 17
    · refine l19 (t := 295) hi_180_15 (by rw [c66]; decide) ?_
      refine l2 (v := 39) hi_180_295 rfl ?_
      refine l7 hi_180_296 ?_
      refine l20 (v := .int (s.1 15)) hS hi_180_297 rfl ?_
      refine l0 hi_180_300 ?_
      refine l10 hi_180_301 ?_
      show am_L _ _ _ _ _ [some (.ref 39), some (.int x1), some (.int x2), some (.int x3), some (.int x4)] [.int ((s.1 15) - 1), .ref 39] _ _
      refine l21 hS hi_180_302 ms_15 fun S67 h68 => ?_
      refine l2 (v := 39) hi_180_305 rfl ?_
      refine l0 hi_180_306 ?_
      refine l1 (v := x2) hi_180_308 rfl ?_
      refine l0 hi_180_309 ?_
      refine l1 (v := x3) hi_180_310 rfl ?_
      refine l32 (as := [.ref 39, .int 29, .int x2, .int 0, .int x3]) (la := [some (.ref 39), some (.int 29), some (.int x2), some (.int 0), some (.int x3)]) (rest := []) hi_180_311 (am_hd0 (M := 180) (by decide) 311) rfl rfl rfl (fun N' d' _ => lt189 (N := N') (d := d') h68) ?_ (fun _ q => nomatch q.1)
      rintro v71 S69 ⟨ev71, h70⟩
      cases ev71
      show am_L _ _ _ _ _ [some (.ref 39), some (.int x1), some (.int x2), some (.int x3), some (.int x4)] [.int ((k189 (kf s 15 ((s.1 15) - 1)) 29 x2 0 x3).2)] _ _
      refine l6i hi_180_314 ?_
      refine l18 hi_180_315 ?_
      refine l35 hi_180_371 ⟨rfl, ?_⟩
      unfold k180; rw [if_pos c1]; rw [if_neg c2]; rw [if_neg c6]; rw [if_neg c10]; rw [if_neg c14]; rw [if_neg c18]; rw [if_neg c22]; rw [if_neg c26]; rw [if_neg c30]; rw [if_neg c34]; rw [if_neg c38]; rw [if_neg c42]; rw [if_neg c46]; rw [if_neg c50]; rw [if_neg c54]; rw [if_neg c58]; rw [if_neg c62]; rw [if_pos c66]; exact h70
    by_cases c72 : x1 = 18
    · refine l19 (t := 318) hi_180_15 (by rw [c72]; decide) ?_
      refine l2 (v := 39) hi_180_318 rfl ?_
      refine l2 (v := 39) hi_180_319 rfl ?_
      refine l20 (v := .int (s.1 20)) hS hi_180_320 rfl ?_
      refine l1 (v := x3) hi_180_323 rfl ?_
      refine l10 hi_180_324 ?_
      show am_L _ _ _ _ _ [some (.ref 39), some (.int x1), some (.int x2), some (.int x3), some (.int x4)] [.int ((s.1 20) - x3), .ref 39] _ _
      refine l2 (v := 39) hi_180_325 rfl ?_
      refine l20 (v := .int (s.1 19)) hS hi_180_326 rfl ?_
      refine l32 (as := [.ref 39, .int ((s.1 20) - x3), .int (s.1 19)]) (la := [some (.ref 39), some (.int ((s.1 20) - x3)), some (.int (s.1 19))]) (rest := []) hi_180_329 (am_hd0 (M := 180) (by decide) 329) rfl rfl rfl (fun N' d' _ => lt258 (N := N') (d := d') hS) ?_ (fun _ q => nomatch q.1)
      rintro v75 S73 ⟨ev75, h74⟩
      cases ev75
      show am_L _ _ _ _ _ [some (.ref 39), some (.int x1), some (.int x2), some (.int x3), some (.int x4)] [] _ _
      refine am_L.mono (lt180_332 h74) ?_
      rintro o S1 ⟨e, h⟩
      have q : k180 s x1 x2 x3 x4 = k180_332 ((k258 s ((s.1 20) - x3) (s.1 19)).1) x2 x3 := by unfold k180; rw [if_pos c1]; rw [if_neg c2]; rw [if_neg c6]; rw [if_neg c10]; rw [if_neg c14]; rw [if_neg c18]; rw [if_neg c22]; rw [if_neg c26]; rw [if_neg c30]; rw [if_neg c34]; rw [if_neg c38]; rw [if_neg c42]; rw [if_neg c46]; rw [if_neg c50]; rw [if_neg c54]; rw [if_neg c58]; rw [if_neg c62]; rw [if_neg c66]; rw [if_pos c72]
      rw [q]; exact ⟨e, h⟩
    by_cases c76 : x1 = 19
    · refine l19 (t := 341) hi_180_15 (by rw [c76]; decide) ?_
      refine l2 (v := 39) hi_180_341 rfl ?_
      refine l1 (v := x2) hi_180_342 rfl ?_
      refine l32 (as := [.ref 39, .int x2]) (la := [some (.ref 39), some (.int x2), none]) (rest := []) hi_180_343 (am_hd0 (M := 180) (by decide) 343) rfl rfl rfl (fun N' d' _ => lt261 (N := N') (d := d') hS) ?_ (fun _ q => nomatch q.1)
      rintro v79 S77 ⟨ev79, h78⟩
      cases ev79
      show am_L _ _ _ _ _ [some (.ref 39), some (.int x1), some (.int x2), some (.int x3), some (.int x4)] [] _ _
      refine l18 hi_180_346 ?_
      refine l35 hi_180_371 ⟨rfl, ?_⟩
      unfold k180; rw [if_pos c1]; rw [if_neg c2]; rw [if_neg c6]; rw [if_neg c10]; rw [if_neg c14]; rw [if_neg c18]; rw [if_neg c22]; rw [if_neg c26]; rw [if_neg c30]; rw [if_neg c34]; rw [if_neg c38]; rw [if_neg c42]; rw [if_neg c46]; rw [if_neg c50]; rw [if_neg c54]; rw [if_neg c58]; rw [if_neg c62]; rw [if_neg c66]; rw [if_neg c72]; rw [if_pos c76]; exact h78
    by_cases c80 : x1 = 20
    · refine l19 (t := 349) hi_180_15 (by rw [c80]; decide) ?_
      refine l2 (v := 39) hi_180_349 rfl ?_
      refine l32 (as := [.ref 39]) (la := [some (.ref 39)]) (rest := []) hi_180_350 (am_hd0 (M := 180) (by decide) 350) rfl rfl rfl (fun N' d' _ => lt263 (N := N') (d := d') hS) ?_ (fun _ q => nomatch q.1)
      rintro v83 S81 ⟨ev83, h82⟩
      cases ev83
      show am_L _ _ _ _ _ [some (.ref 39), some (.int x1), some (.int x2), some (.int x3), some (.int x4)] [] _ _
      refine l18 hi_180_353 ?_
      refine l35 hi_180_371 ⟨rfl, ?_⟩
      unfold k180; rw [if_pos c1]; rw [if_neg c2]; rw [if_neg c6]; rw [if_neg c10]; rw [if_neg c14]; rw [if_neg c18]; rw [if_neg c22]; rw [if_neg c26]; rw [if_neg c30]; rw [if_neg c34]; rw [if_neg c38]; rw [if_neg c42]; rw [if_neg c46]; rw [if_neg c50]; rw [if_neg c54]; rw [if_neg c58]; rw [if_neg c62]; rw [if_neg c66]; rw [if_neg c72]; rw [if_neg c76]; rw [if_pos c80]; exact h82
    by_cases c84 : x1 = 21
    · refine l19 (t := 356) hi_180_15 (by rw [c84]; decide) ?_
      refine l2 (v := 39) hi_180_356 rfl ?_
      refine l1 (v := x2) hi_180_357 rfl ?_
      refine l1 (v := x3) hi_180_358 rfl ?_
      refine l32 (as := [.ref 39, .int x2, .int x3]) (la := [some (.ref 39), some (.int x2), some (.int x3), none, none, none, none, none]) (rest := []) hi_180_359 (am_hd0 (M := 180) (by decide) 359) rfl rfl rfl (fun N' d' _ => lt264 (N := N') (d := d') hS) ?_ (fun _ q => nomatch q.1)
      rintro v87 S85 ⟨ev87, h86⟩
      cases ev87
      show am_L _ _ _ _ _ [some (.ref 39), some (.int x1), some (.int x2), some (.int x3), some (.int x4)] [] _ _
      refine l18 hi_180_362 ?_
      refine l35 hi_180_371 ⟨rfl, ?_⟩
      unfold k180; rw [if_pos c1]; rw [if_neg c2]; rw [if_neg c6]; rw [if_neg c10]; rw [if_neg c14]; rw [if_neg c18]; rw [if_neg c22]; rw [if_neg c26]; rw [if_neg c30]; rw [if_neg c34]; rw [if_neg c38]; rw [if_neg c42]; rw [if_neg c46]; rw [if_neg c50]; rw [if_neg c54]; rw [if_neg c58]; rw [if_neg c62]; rw [if_neg c66]; rw [if_neg c72]; rw [if_neg c76]; rw [if_neg c80]; rw [if_pos c84]; exact h86
    refine l19 (t := 365) hi_180_15 (sw_not (ks := [1, 2, 3, 4, 5, 6, 7, 8, 9, 10, 11, 12, 13, 14, 15, 16, 17, 18, 19, 20, 21]) (by decide) (by intro k hk; simp only [List.mem_cons, List.not_mem_nil, or_false] at hk; rcases hk with rfl | rfl | rfl | rfl | rfl | rfl | rfl | rfl | rfl | rfl | rfl | rfl | rfl | rfl | rfl | rfl | rfl | rfl | rfl | rfl | rfl <;> first | exact c2 | exact c6 | exact c10 | exact c14 | exact c18 | exact c22 | exact c26 | exact c30 | exact c34 | exact c38 | exact c42 | exact c46 | exact c50 | exact c54 | exact c58 | exact c62 | exact c66 | exact c72 | exact c76 | exact c80 | exact c84)) ?_
    refine l2 (v := 39) hi_180_365 rfl ?_
    refine l1 (v := x2) hi_180_366 rfl ?_
    refine l1 (v := x3) hi_180_367 rfl ?_
    refine l32 (as := [.ref 39, .int x2, .int x3]) (la := [some (.ref 39), some (.int x2), some (.int x3), none, none, none]) (rest := []) hi_180_368 (am_hd0 (M := 180) (by decide) 368) rfl rfl rfl (fun N' d' _ => lt265 (N := N') (d := d') hS) ?_ (fun _ q => nomatch q.1)
    rintro v90 S88 ⟨ev90, h89⟩
    cases ev90
    show am_L _ _ _ _ _ [some (.ref 39), some (.int x1), some (.int x2), some (.int x3), some (.int x4)] [] _ _
    refine l35 hi_180_371 ⟨rfl, ?_⟩
    unfold k180; rw [if_pos c1]; rw [if_neg c2]; rw [if_neg c6]; rw [if_neg c10]; rw [if_neg c14]; rw [if_neg c18]; rw [if_neg c22]; rw [if_neg c26]; rw [if_neg c30]; rw [if_neg c34]; rw [if_neg c38]; rw [if_neg c42]; rw [if_neg c46]; rw [if_neg c50]; rw [if_neg c54]; rw [if_neg c58]; rw [if_neg c62]; rw [if_neg c66]; rw [if_neg c72]; rw [if_neg c76]; rw [if_neg c80]; rw [if_neg c84]; exact h89
  · refine l13f hi_180_3 (decide_eq_false c1) ?_
    refine l2 (v := 39) hi_180_6 rfl ?_
    refine l1 (v := x1) hi_180_7 rfl ?_
    refine l1 (v := x2) hi_180_8 rfl ?_
    refine l1 (v := x3) hi_180_9 rfl ?_
    refine l32 (as := [.ref 39, .int x1, .int x2, .int x3]) (la := [some (.ref 39), some (.int x1), some (.int x2), some (.int x3)]) (rest := []) hi_180_10 (am_hd0 (M := 180) (by decide) 10) rfl rfl rfl (fun N' d' _ => lt181 (N := N') (d := d') hS) ?_ (fun _ q => nomatch q.1)
    rintro v93 S91 ⟨ev93, h92⟩
    cases ev93
    show am_L _ _ _ _ _ [some (.ref 39), some (.int x1), some (.int x2), some (.int x3), some (.int x4)] [] _ _
    refine l35 hi_180_13 ⟨rfl, ?_⟩
    unfold k180; rw [if_neg c1]; exact h92
def k266b46 (t : kS × Int32) : Nat × (kS × Int32) := if (t.1.1 53) ≤ t.2 then (1, (t.1, t.2)) else (0, (ka t.1 60 t.2 0, t.2 + 1))
theorem lb266_46 {sc : Nat × (Nat → Int32)} {d : Nat} {S0 : am_S} {Q : Option (Option Value) → am_S → Prop} : ∀ (N : Nat) (S : am_S) (o2 : Option Value) (t : kS × Int32), MK S0 S t.1 → (∀ m S1 (p2 : Option Value), (kwh k266b46 m t).1 = 1 → MK S0 S1 (kwh k266b46 m t).2.1 → am_L (am_PP sc) N d 266 67 [some (.ref 39), some (.int ((kwh k266b46 m t).2.2)), p2] [] S1 Q) → am_L (am_PP sc) N d 266 46 [some (.ref 39), some (.int t.2), o2] [] S Q := by
  intro N
  induction N with
  | zero => intros; exact l_zero
  | succ N ih =>
    intro S o2 t hS kx67
    refine l1d (v := t.2) hi_266_46 rfl ?_
    refine l2 (v := 39) hi_266_47 rfl ?_
    refine l20 (v := .int (t.1.1 53)) hS hi_266_48 rfl ?_
    by_cases c1 : (t.1.1 53) ≤ t.2
    · refine l13t hi_266_51 (decide_eq_true c1) ?_
      have e0 : k266b46 t = (1, (t.1, t.2)) := by unfold k266b46; rw [if_pos c1]
      have e1 : kwh k266b46 1 t = (1, (t.1, t.2)) := by rw [kwh_out (by rw [e0]; exact Nat.succ_ne_zero _), e0]
      have q := kx67 1 _ o2 (by rw [e1]) (by rw [e1]; exact hS)
      try rw [e1] at q
      exact q.less (Nat.le_succ N)
    · refine l13f hi_266_51 (decide_eq_false c1) ?_
      refine l2 (v := 39) hi_266_54 rfl ?_
      refine l20 (v := .ref 81) hS hi_266_55 rfl ?_
      refine l1 (v := t.2) hi_266_58 rfl ?_
      refine l0 hi_266_59 ?_
      refine l26 hS ma_60 hi_266_60 fun S4 h5 g2 g3 => ?_
      refine l5 (v := t.2) (ls' := [some (.ref 39), some (.int (t.2 + 1)), o2]) hi_266_61 rfl rfl ?_
      refine l18 hi_266_64 ?_
      have e0 : k266b46 t = (0, (ka t.1 60 t.2 0, t.2 + 1)) := by unfold k266b46; rw [if_neg c1]
      have e1 : ∀ m, kwh k266b46 (m + 1) t = kwh k266b46 m (ka t.1 60 t.2 0, t.2 + 1) := fun m => by rw [kwh_go (by rw [e0]), e0]
      exact ih _ o2 (ka t.1 60 t.2 0, t.2 + 1) h5 (fun m S1 p2 hm h1 => by have q := kx67 (m + 1) S1 p2 (by rw [e1]; exact hm) (by rw [e1]; exact h1); (try rw [e1] at q); exact q.less (Nat.le_succ N))
def k266b9 (t : kS × Int32) : Nat × (kS × Int32) := if (t.1.1 53) ≤ t.2 then (1, (t.1, t.2)) else (0, (ka t.1 61 (t.2 + 1) ((kr t.1 61 t.2) + (kr t.1 60 t.2)), t.2 + 1))
theorem lb266_9 {sc : Nat × (Nat → Int32)} {d : Nat} {S0 : am_S} {Q : Option (Option Value) → am_S → Prop} : ∀ (N : Nat) (S : am_S) (o2 : Option Value) (t : kS × Int32), MK S0 S t.1 → (∀ m S1 (p2 : Option Value), (kwh k266b9 m t).1 = 1 → MK S0 S1 (kwh k266b9 m t).2.1 → am_L (am_PP sc) N d 266 44 [some (.ref 39), some (.int ((kwh k266b9 m t).2.2)), p2] [] S1 Q) → am_L (am_PP sc) N d 266 9 [some (.ref 39), some (.int t.2), o2] [] S Q := by
  intro N
  induction N with
  | zero => intros; exact l_zero
  | succ N ih =>
    intro S o2 t hS kx44
    refine l1d (v := t.2) hi_266_9 rfl ?_
    refine l2 (v := 39) hi_266_10 rfl ?_
    refine l20 (v := .int (t.1.1 53)) hS hi_266_11 rfl ?_
    by_cases c1 : (t.1.1 53) ≤ t.2
    · refine l13t hi_266_14 (decide_eq_true c1) ?_
      have e0 : k266b9 t = (1, (t.1, t.2)) := by unfold k266b9; rw [if_pos c1]
      have e1 : kwh k266b9 1 t = (1, (t.1, t.2)) := by rw [kwh_out (by rw [e0]; exact Nat.succ_ne_zero _), e0]
      have q := kx44 1 _ o2 (by rw [e1]) (by rw [e1]; exact hS)
      try rw [e1] at q
      exact q.less (Nat.le_succ N)
    · refine l13f hi_266_14 (decide_eq_false c1) ?_
      refine l2 (v := 39) hi_266_17 rfl ?_
      refine l20 (v := .ref 82) hS hi_266_18 rfl ?_
      refine l1 (v := t.2) hi_266_21 rfl ?_
      refine l0 hi_266_22 ?_
      refine l10 hi_266_23 ?_
      show am_L _ _ _ _ _ [some (.ref 39), some (.int t.2), o2] [.int (t.2 + 1), .ref 82] _ _
      refine l2 (v := 39) hi_266_24 rfl ?_
      refine l20 (v := .ref 82) hS hi_266_25 rfl ?_
      refine l1 (v := t.2) hi_266_28 rfl ?_
      refine l25 hS ma_61 hi_266_29 fun g2 g3 => ?_
      show am_L _ _ _ _ _ [some (.ref 39), some (.int t.2), o2] [.int (kr t.1 61 t.2), .int (t.2 + 1), .ref 82] _ _
      refine l2 (v := 39) hi_266_30 rfl ?_
      refine l20 (v := .ref 81) hS hi_266_31 rfl ?_
      refine l1 (v := t.2) hi_266_34 rfl ?_
      refine l25 hS ma_60 hi_266_35 fun g4 g5 => ?_
      show am_L _ _ _ _ _ [some (.ref 39), some (.int t.2), o2] [.int (kr t.1 60 t.2), .int (kr t.1 61 t.2), .int (t.2 + 1), .ref 82] _ _
      refine l10 hi_266_36 ?_
      show am_L _ _ _ _ _ [some (.ref 39), some (.int t.2), o2] [.int ((kr t.1 61 t.2) + (kr t.1 60 t.2)), .int (t.2 + 1), .ref 82] _ _
      refine l26 hS ma_61 hi_266_37 fun S8 h9 g6 g7 => ?_
      refine l5 (v := t.2) (ls' := [some (.ref 39), some (.int (t.2 + 1)), o2]) hi_266_38 rfl rfl ?_
      refine l18 hi_266_41 ?_
      have e0 : k266b9 t = (0, (ka t.1 61 (t.2 + 1) ((kr t.1 61 t.2) + (kr t.1 60 t.2)), t.2 + 1)) := by unfold k266b9; rw [if_neg c1]
      have e1 : ∀ m, kwh k266b9 (m + 1) t = kwh k266b9 m (ka t.1 61 (t.2 + 1) ((kr t.1 61 t.2) + (kr t.1 60 t.2)), t.2 + 1) := fun m => by rw [kwh_go (by rw [e0]), e0]
      exact ih _ o2 (ka t.1 61 (t.2 + 1) ((kr t.1 61 t.2) + (kr t.1 60 t.2)), t.2 + 1) h9 (fun m S1 p2 hm h1 => by have q := kx44 (m + 1) S1 p2 (by rw [e1]; exact hm) (by rw [e1]; exact h1); (try rw [e1] at q); exact q.less (Nat.le_succ N))
def k266b69 (t : kS × Int32) : Nat × (kS × Int32) := if (t.1.1 68) ≤ t.2 then (1, (t.1, t.2)) else (0, (ka (ka t.1 74 ((kr t.1 61 (kr t.1 69 t.2)) + (kr t.1 60 (kr t.1 69 t.2))) t.2) 60 (kr t.1 69 t.2) ((kr t.1 60 (kr t.1 69 t.2)) + 1), t.2 + 1))
theorem lb266_69 {sc : Nat × (Nat → Int32)} {d : Nat} {S0 : am_S} {Q : Option (Option Value) → am_S → Prop} : ∀ (N : Nat) (S : am_S) (o2 : Option Value) (t : kS × Int32), MK S0 S t.1 → (∀ m S1 (p2 : Option Value), (kwh k266b69 m t).1 = 1 → MK S0 S1 (kwh k266b69 m t).2.1 → am_L (am_PP sc) N d 266 119 [some (.ref 39), some (.int ((kwh k266b69 m t).2.2)), p2] [] S1 Q) → am_L (am_PP sc) N d 266 69 [some (.ref 39), some (.int t.2), o2] [] S Q := by
  intro N
  induction N with
  | zero => intros; exact l_zero
  | succ N ih =>
    intro S o2 t hS kx119
    refine l1d (v := t.2) hi_266_69 rfl ?_
    refine l2 (v := 39) hi_266_70 rfl ?_
    refine l20 (v := .int (t.1.1 68)) hS hi_266_71 rfl ?_
    by_cases c1 : (t.1.1 68) ≤ t.2
    · refine l13t hi_266_74 (decide_eq_true c1) ?_
      have e0 : k266b69 t = (1, (t.1, t.2)) := by unfold k266b69; rw [if_pos c1]
      have e1 : kwh k266b69 1 t = (1, (t.1, t.2)) := by rw [kwh_out (by rw [e0]; exact Nat.succ_ne_zero _), e0]
      have q := kx119 1 _ o2 (by rw [e1]) (by rw [e1]; exact hS)
      try rw [e1] at q
      exact q.less (Nat.le_succ N)
    · refine l13f hi_266_74 (decide_eq_false c1) ?_
      refine l2 (v := 39) hi_266_77 rfl ?_
      refine l20 (v := .ref 88) hS hi_266_78 rfl ?_
      refine l1 (v := t.2) hi_266_81 rfl ?_
      refine l25 hS ma_69 hi_266_82 fun g2 g3 => ?_
      show am_L _ _ _ _ _ [some (.ref 39), some (.int t.2), o2] [.int (kr t.1 69 t.2)] _ _
      refine l3 (ls' := [some (.ref 39), some (.int t.2), some (.int (kr t.1 69 t.2))]) hi_266_83 (Nat.le_of_ble_eq_true rfl) rfl ?_
      refine l2 (v := 39) hi_266_84 rfl ?_
      refine l20 (v := .ref 93) hS hi_266_85 rfl ?_
      refine l2 (v := 39) hi_266_88 rfl ?_
      refine l20 (v := .ref 82) hS hi_266_89 rfl ?_
      refine l1 (v := kr t.1 69 t.2) hi_266_92 rfl ?_
      refine l25 hS ma_61 hi_266_93 fun g4 g5 => ?_
      show am_L _ _ _ _ _ [some (.ref 39), some (.int t.2), some (.int (kr t.1 69 t.2))] [.int (kr t.1 61 (kr t.1 69 t.2)), .ref 93] _ _
      refine l2 (v := 39) hi_266_94 rfl ?_
      refine l20 (v := .ref 81) hS hi_266_95 rfl ?_
      refine l1 (v := kr t.1 69 t.2) hi_266_98 rfl ?_
      refine l25 hS ma_60 hi_266_99 fun g6 g7 => ?_
      show am_L _ _ _ _ _ [some (.ref 39), some (.int t.2), some (.int (kr t.1 69 t.2))] [.int (kr t.1 60 (kr t.1 69 t.2)), .int (kr t.1 61 (kr t.1 69 t.2)), .ref 93] _ _
      refine l10 hi_266_100 ?_
      show am_L _ _ _ _ _ [some (.ref 39), some (.int t.2), some (.int (kr t.1 69 t.2))] [.int ((kr t.1 61 (kr t.1 69 t.2)) + (kr t.1 60 (kr t.1 69 t.2))), .ref 93] _ _
      refine l1 (v := t.2) hi_266_101 rfl ?_
      refine l26 hS ma_74 hi_266_102 fun S10 h11 g8 g9 => ?_
      refine l2 (v := 39) hi_266_103 rfl ?_
      refine l20 (v := .ref 81) h11 hi_266_104 rfl ?_
      refine l1 (v := kr t.1 69 t.2) hi_266_107 rfl ?_
      refine l8 hi_266_108 ?_
      refine l25 h11 ma_60 hi_266_109 fun g12 g13 => ?_
      show am_L _ _ _ _ _ [some (.ref 39), some (.int t.2), some (.int (kr t.1 69 t.2))] [.int (kr t.1 60 (kr t.1 69 t.2)), .int (kr t.1 69 t.2), .ref 81] _ _
      refine l0 hi_266_110 ?_
      refine l10 hi_266_111 ?_
      show am_L _ _ _ _ _ [some (.ref 39), some (.int t.2), some (.int (kr t.1 69 t.2))] [.int ((kr t.1 60 (kr t.1 69 t.2)) + 1), .int (kr t.1 69 t.2), .ref 81] _ _
      refine l26 h11 ma_60 hi_266_112 fun S16 h17 g14 g15 => ?_
      refine l5 (v := t.2) (ls' := [some (.ref 39), some (.int (t.2 + 1)), some (.int (kr t.1 69 t.2))]) hi_266_113 rfl rfl ?_
      refine l18 hi_266_116 ?_
      have e0 : k266b69 t = (0, (ka (ka t.1 74 ((kr t.1 61 (kr t.1 69 t.2)) + (kr t.1 60 (kr t.1 69 t.2))) t.2) 60 (kr t.1 69 t.2) ((kr t.1 60 (kr t.1 69 t.2)) + 1), t.2 + 1)) := by unfold k266b69; rw [if_neg c1]
      have e1 : ∀ m, kwh k266b69 (m + 1) t = kwh k266b69 m (ka (ka t.1 74 ((kr t.1 61 (kr t.1 69 t.2)) + (kr t.1 60 (kr t.1 69 t.2))) t.2) 60 (kr t.1 69 t.2) ((kr t.1 60 (kr t.1 69 t.2)) + 1), t.2 + 1) := fun m => by rw [kwh_go (by rw [e0]), e0]
      exact ih _ (some (.int (kr t.1 69 t.2))) (ka (ka t.1 74 ((kr t.1 61 (kr t.1 69 t.2)) + (kr t.1 60 (kr t.1 69 t.2))) t.2) 60 (kr t.1 69 t.2) ((kr t.1 60 (kr t.1 69 t.2)) + 1), t.2 + 1) h17 (fun m S1 p2 hm h1 => by have q := kx119 (m + 1) S1 p2 (by rw [e1]; exact hm) (by rw [e1]; exact h1); (try rw [e1] at q); exact q.less (Nat.le_succ N))
/-- sort()V -/
noncomputable def k266 (s : kS) : kS × Int32 := ((kfin k266b69 ((kfin k266b46 ((kfin k266b9 (ka s 61 0 0, 0)).2.1, 0)).2.1, 0)).2.1, 0)
theorem lt266 {sc : Nat × (Nat → Int32)} {N d : Nat} {S0 S : am_S} {s : kS} (hS : MK S0 S s) : am_L (am_PP sc) N d 266 0 [some (.ref 39), none, none] [] S (fun o S1 => o = some none ∧ MK S0 S1 (k266 s).1) := by
  refine l2 (v := 39) hi_266_0 rfl ?_
  refine l20 (v := .ref 82) hS hi_266_1 rfl ?_
  refine l0 hi_266_4 ?_
  refine l0 hi_266_5 ?_
  refine l26 hS ma_61 hi_266_6 fun S3 h4 g1 g2 => ?_
  refine l0 hi_266_7 ?_
  refine l3 (ls' := [some (.ref 39), some (.int 0), none]) hi_266_8 (Nat.le_of_ble_eq_true rfl) rfl ?_
  refine lb266_9 N _ none (ka s 61 0 0, 0) h4 ?_
  · intro m5 S6 p10 hm7 h8
    have hf9 : kfin k266b9 (ka s 61 0 0, 0) = kwh k266b9 m5 (ka s 61 0 0, 0) := kfin_eq (by rw [hm7]; decide)
    rw [← hf9] at hm7 h8
    try rw [← hf9]
    refine l0 hi_266_44 ?_
    refine l3 (ls' := [some (.ref 39), some (.int 0), p10]) hi_266_45 (Nat.le_of_ble_eq_true rfl) rfl ?_
    refine lb266_46 N _ p10 ((kfin k266b9 (ka s 61 0 0, 0)).2.1, 0) h8 ?_
    · intro m11 S12 p16 hm13 h14
      have hf15 : kfin k266b46 ((kfin k266b9 (ka s 61 0 0, 0)).2.1, 0) = kwh k266b46 m11 ((kfin k266b9 (ka s 61 0 0, 0)).2.1, 0) := kfin_eq (by rw [hm13]; decide)
      rw [← hf15] at hm13 h14
      try rw [← hf15]
      refine l0 hi_266_67 ?_
      refine l3 (ls' := [some (.ref 39), some (.int 0), p16]) hi_266_68 (Nat.le_of_ble_eq_true rfl) rfl ?_
      refine lb266_69 N _ p16 ((kfin k266b46 ((kfin k266b9 (ka s 61 0 0, 0)).2.1, 0)).2.1, 0) h14 ?_
      · intro m17 S18 p22 hm19 h20
        have hf21 : kfin k266b69 ((kfin k266b46 ((kfin k266b9 (ka s 61 0 0, 0)).2.1, 0)).2.1, 0) = kwh k266b69 m17 ((kfin k266b46 ((kfin k266b9 (ka s 61 0 0, 0)).2.1, 0)).2.1, 0) := kfin_eq (by rw [hm19]; decide)
        rw [← hf21] at hm19 h20
        try rw [← hf21]
        refine l35 hi_266_119 ⟨rfl, ?_⟩
        exact h20
noncomputable def k175b13 (t : kS) : Nat × (kS) := if (t.1 10) ≤ 0 then (1, t) else (0, ((k180 (kf t 10 ((t.1 10) - 1)) (kr t 11 ((t.1 10) - 1)) (kr t 12 ((t.1 10) - 1)) (kr t 13 ((t.1 10) - 1)) (kr t 14 ((t.1 10) - 1))).1))
theorem lb175_13 {sc : Nat × (Nat → Int32)} {d : Nat} {S0 : am_S} {Q : Option (Option Value) → am_S → Prop} : ∀ (N : Nat) (S : am_S) (o1 : Option Value) (t : kS), MK S0 S t → (∀ m S1 (p1 : Option Value), (kwh k175b13 m t).1 = 1 → MK S0 S1 (kwh k175b13 m t).2 → am_L (am_PP sc) N d 175 73 [some (.ref 39), p1] [] S1 Q) → am_L (am_PP sc) N d 175 13 [some (.ref 39), o1] [] S Q := by
  intro N
  induction N with
  | zero => intros; exact l_zero
  | succ N ih =>
    intro S o1 t hS kx73
    refine l2d (v := 39) hi_175_13 rfl ?_
    refine l20 (v := .int (t.1 10)) hS hi_175_14 rfl ?_
    by_cases c1 : (t.1 10) ≤ 0
    · refine l12t hi_175_17 (decide_eq_true c1) ?_
      have e0 : k175b13 t = (1, t) := by unfold k175b13; rw [if_pos c1]
      have e1 : kwh k175b13 1 t = (1, t) := by rw [kwh_out (by rw [e0]; exact Nat.succ_ne_zero _), e0]
      have q := kx73 1 _ o1 (by rw [e1]) (by rw [e1]; exact hS)
      try rw [e1] at q
      exact q.less (Nat.le_succ N)
    · refine l12f hi_175_17 (decide_eq_false c1) ?_
      refine l2 (v := 39) hi_175_20 rfl ?_
      refine l7 hi_175_21 ?_
      refine l20 (v := .int (t.1 10)) hS hi_175_22 rfl ?_
      refine l0 hi_175_25 ?_
      refine l10 hi_175_26 ?_
      show am_L _ _ _ _ _ [some (.ref 39), o1] [.int ((t.1 10) - 1), .ref 39] _ _
      refine l21 hS hi_175_27 ms_10 fun S2 h3 => ?_
      refine l2 (v := 39) hi_175_30 rfl ?_
      refine l2 (v := 39) hi_175_31 rfl ?_
      refine l20 (v := .ref 42) h3 hi_175_32 rfl ?_
      refine l2 (v := 39) hi_175_35 rfl ?_
      refine l20 (v := .int ((t.1 10) - 1)) h3 hi_175_36 rfl ?_
      refine l25 h3 ma_11 hi_175_39 fun g4 g5 => ?_
      show am_L _ _ _ _ _ [some (.ref 39), o1] [.int (kr t 11 ((t.1 10) - 1)), .ref 39] _ _
      refine l2 (v := 39) hi_175_40 rfl ?_
      refine l20 (v := .ref 43) h3 hi_175_41 rfl ?_
      refine l2 (v := 39) hi_175_44 rfl ?_
      refine l20 (v := .int ((t.1 10) - 1)) h3 hi_175_45 rfl ?_
      refine l25 h3 ma_12 hi_175_48 fun g6 g7 => ?_
      show am_L _ _ _ _ _ [some (.ref 39), o1] [.int (kr t 12 ((t.1 10) - 1)), .int (kr t 11 ((t.1 10) - 1)), .ref 39] _ _
      refine l2 (v := 39) hi_175_49 rfl ?_
      refine l20 (v := .ref 44) h3 hi_175_50 rfl ?_
      refine l2 (v := 39) hi_175_53 rfl ?_
      refine l20 (v := .int ((t.1 10) - 1)) h3 hi_175_54 rfl ?_
      refine l25 h3 ma_13 hi_175_57 fun g8 g9 => ?_
      show am_L _ _ _ _ _ [some (.ref 39), o1] [.int (kr t 13 ((t.1 10) - 1)), .int (kr t 12 ((t.1 10) - 1)), .int (kr t 11 ((t.1 10) - 1)), .ref 39] _ _
      refine l2 (v := 39) hi_175_58 rfl ?_
      refine l20 (v := .ref 45) h3 hi_175_59 rfl ?_
      refine l2 (v := 39) hi_175_62 rfl ?_
      refine l20 (v := .int ((t.1 10) - 1)) h3 hi_175_63 rfl ?_
      refine l25 h3 ma_14 hi_175_66 fun g10 g11 => ?_
      show am_L _ _ _ _ _ [some (.ref 39), o1] [.int (kr t 14 ((t.1 10) - 1)), .int (kr t 13 ((t.1 10) - 1)), .int (kr t 12 ((t.1 10) - 1)), .int (kr t 11 ((t.1 10) - 1)), .ref 39] _ _
      refine l32 (as := [.ref 39, .int (kr t 11 ((t.1 10) - 1)), .int (kr t 12 ((t.1 10) - 1)), .int (kr t 13 ((t.1 10) - 1)), .int (kr t 14 ((t.1 10) - 1))]) (la := [some (.ref 39), some (.int (kr t 11 ((t.1 10) - 1))), some (.int (kr t 12 ((t.1 10) - 1))), some (.int (kr t 13 ((t.1 10) - 1))), some (.int (kr t 14 ((t.1 10) - 1)))]) (rest := []) hi_175_67 (am_hd0 (M := 175) (by decide) 67) rfl rfl rfl (fun N' d' _ => lt180 (N := N') (d := d') h3) ?_ (fun _ q => nomatch q.1)
      rintro v14 S12 ⟨ev14, h13⟩
      cases ev14
      show am_L _ _ _ _ _ [some (.ref 39), o1] [] _ _
      refine l18 hi_175_70 ?_
      have e0 : k175b13 t = (0, ((k180 (kf t 10 ((t.1 10) - 1)) (kr t 11 ((t.1 10) - 1)) (kr t 12 ((t.1 10) - 1)) (kr t 13 ((t.1 10) - 1)) (kr t 14 ((t.1 10) - 1))).1)) := by unfold k175b13; rw [if_neg c1]
      have e1 : ∀ m, kwh k175b13 (m + 1) t = kwh k175b13 m ((k180 (kf t 10 ((t.1 10) - 1)) (kr t 11 ((t.1 10) - 1)) (kr t 12 ((t.1 10) - 1)) (kr t 13 ((t.1 10) - 1)) (kr t 14 ((t.1 10) - 1))).1) := fun m => by rw [kwh_go (by rw [e0]), e0]
      exact ih _ o1 ((k180 (kf t 10 ((t.1 10) - 1)) (kr t 11 ((t.1 10) - 1)) (kr t 12 ((t.1 10) - 1)) (kr t 13 ((t.1 10) - 1)) (kr t 14 ((t.1 10) - 1))).1) h13 (fun m S1 p1 hm h1 => by have q := kx73 (m + 1) S1 p1 (by rw [e1]; exact hm) (by rw [e1]; exact h1); (try rw [e1] at q); exact q.less (Nat.le_succ N))
noncomputable def k175_216 (s : kS) (y1 : Int32) : kS × Int32 := if y1 ≤ 0 then (s, s.1 53) else (s, -y1)
theorem lt175_216 {sc : Nat × (Nat → Int32)} {N d : Nat} {S0 S : am_S} {s : kS} {y1 : Int32} (hS : MK S0 S s) : am_L (am_PP sc) N d 175 216 [some (.ref 39), some (.int y1)] [] S (fun o S1 => o = some (some (.int ((k175_216 s y1).2))) ∧ MK S0 S1 (k175_216 s y1).1) := by
  refine l1 (v := y1) hi_175_216 rfl ?_
  by_cases c1 : y1 ≤ 0
  · refine l12t hi_175_217 (decide_eq_true c1) ?_
    refine l2 (v := 39) hi_175_225 rfl ?_
    refine l20 (v := .int (s.1 53)) hS hi_175_226 rfl ?_
    refine l33 hi_175_229 ⟨?_, ?_⟩
    · unfold k175_216; rw [if_pos c1]
    · unfold k175_216; rw [if_pos c1]; exact hS
  · refine l12f hi_175_217 (decide_eq_false c1) ?_
    refine l1 (v := y1) hi_175_220 rfl ?_
    refine l11 hi_175_221 ?_
    refine l18 hi_175_222 ?_
    refine l33 hi_175_229 ⟨?_, ?_⟩
    · unfold k175_216; rw [if_neg c1]
    · unfold k175_216; rw [if_neg c1]; exact hS
noncomputable def k175_205 (s : kS) (y1 : Int32) (z0 : Int32) : kS × Int32 := if y1 ≠ 0 then k175_216 (kf s 53 z0) y1 else k175_216 ((k266 (kf s 53 z0)).1) y1
theorem lt175_205 {sc : Nat × (Nat → Int32)} {N d : Nat} {S0 S : am_S} {s : kS} {y1 : Int32} {z0 : Int32} (hS : MK S0 S s) : am_L (am_PP sc) N d 175 205 [some (.ref 39), some (.int y1)] [.int z0, .ref 39] S (fun o S1 => o = some (some (.int ((k175_205 s y1 z0).2))) ∧ MK S0 S1 (k175_205 s y1 z0).1) := by
  refine l21 hS hi_175_205 ms_53 fun S1 h2 => ?_
  refine l1 (v := y1) hi_175_208 rfl ?_
  by_cases c3 : y1 ≠ 0
  · refine l12t hi_175_209 (decide_eq_true c3) ?_
    refine am_L.mono (lt175_216 h2) ?_
    rintro o S1 ⟨e, h⟩
    have q : k175_205 s y1 z0 = k175_216 (kf s 53 z0) y1 := by unfold k175_205; rw [if_pos c3]
    rw [q]; exact ⟨e, h⟩
  · refine l12f hi_175_209 (decide_eq_false c3) ?_
    refine l2 (v := 39) hi_175_212 rfl ?_
    refine l32 (as := [.ref 39]) (la := [some (.ref 39), none, none]) (rest := []) hi_175_213 (am_hd0 (M := 175) (by decide) 213) rfl rfl rfl (fun N' d' _ => lt266 (N := N') (d := d') h2) ?_ (fun _ q => nomatch q.1)
    rintro v6 S4 ⟨ev6, h5⟩
    cases ev6
    show am_L _ _ _ _ _ [some (.ref 39), some (.int y1)] [] _ _
    refine am_L.mono (lt175_216 h5) ?_
    rintro o S1 ⟨e, h⟩
    have q : k175_205 s y1 z0 = k175_216 ((k266 (kf s 53 z0)).1) y1 := by unfold k175_205; rw [if_neg c3]
    rw [q]; exact ⟨e, h⟩
noncomputable def k175_174 (s : kS) (y1 : Int32) (z0 : Int32) : kS × Int32 := if y1 ≤ 0 then k175_205 (kf (ka (kf s 3 z0) 57 0 (s.1 0)) 0 0) y1 (s.1 53) else k175_205 (kf (ka (kf s 3 z0) 57 0 (s.1 0)) 0 0) y1 0
theorem lt175_174 {sc : Nat × (Nat → Int32)} {N d : Nat} {S0 S : am_S} {s : kS} {y1 : Int32} {z0 : Int32} (hS : MK S0 S s) : am_L (am_PP sc) N d 175 174 [some (.ref 39), some (.int y1)] [.int z0, .ref 39] S (fun o S1 => o = some (some (.int ((k175_174 s y1 z0).2))) ∧ MK S0 S1 (k175_174 s y1 z0).1) := by
  refine l21 hS hi_175_174 ms_3 fun S1 h2 => ?_
  refine l2 (v := 39) hi_175_177 rfl ?_
  refine l20 (v := .ref 78) h2 hi_175_178 rfl ?_
  refine l0 hi_175_181 ?_
  refine l2 (v := 39) hi_175_182 rfl ?_
  refine l20 (v := .int (s.1 0)) h2 hi_175_183 rfl ?_
  refine l26 h2 ma_57 hi_175_186 fun S5 h6 g3 g4 => ?_
  refine l2 (v := 39) hi_175_187 rfl ?_
  refine l0 hi_175_188 ?_
  refine l21 h6 hi_175_189 ms_0 fun S7 h8 => ?_
  refine l2 (v := 39) hi_175_192 rfl ?_
  refine l1 (v := y1) hi_175_193 rfl ?_
  by_cases c9 : y1 ≤ 0
  · refine l12t hi_175_194 (decide_eq_true c9) ?_
    refine l2 (v := 39) hi_175_201 rfl ?_
    refine l20 (v := .int (s.1 53)) h8 hi_175_202 rfl ?_
    refine am_L.mono (lt175_205 h8) ?_
    rintro o S1 ⟨e, h⟩
    have q : k175_174 s y1 z0 = k175_205 (kf (ka (kf s 3 z0) 57 0 (s.1 0)) 0 0) y1 (s.1 53) := by unfold k175_174; rw [if_pos c9]
    rw [q]; exact ⟨e, h⟩
  · refine l12f hi_175_194 (decide_eq_false c9) ?_
    refine l0 hi_175_197 ?_
    refine l18 hi_175_198 ?_
    refine am_L.mono (lt175_205 h8) ?_
    rintro o S1 ⟨e, h⟩
    have q : k175_174 s y1 z0 = k175_205 (kf (ka (kf s 3 z0) 57 0 (s.1 0)) 0 0) y1 0 := by unfold k175_174; rw [if_neg c9]
    rw [q]; exact ⟨e, h⟩
noncomputable def k175_140 (s : kS) (z0 : Int32) : kS × Int32 := if (s.1 6) ≤ 0 then if (s.1 8) ≤ 0 then k175_174 s z0 (s.1 0) else k175_174 s z0 (s.1 9) else k175_174 s z0 (s.1 7)
theorem lt175_140 {sc : Nat × (Nat → Int32)} {N d : Nat} {S0 S : am_S} {s : kS} {z0 : Int32} {o1 : Option Value} (hS : MK S0 S s) : am_L (am_PP sc) N d 175 140 [some (.ref 39), o1] [.int z0] S (fun o S1 => o = some (some (.int ((k175_140 s z0).2))) ∧ MK S0 S1 (k175_140 s z0).1) := by
  refine l3 (ls' := [some (.ref 39), some (.int z0)]) hi_175_140 (Nat.le_of_ble_eq_true rfl) rfl ?_
  refine l2 (v := 39) hi_175_141 rfl ?_
  refine l2 (v := 39) hi_175_142 rfl ?_
  refine l20 (v := .int (s.1 6)) hS hi_175_143 rfl ?_
  by_cases c1 : (s.1 6) ≤ 0
  · refine l12t hi_175_146 (decide_eq_true c1) ?_
    refine l2 (v := 39) hi_175_156 rfl ?_
    refine l20 (v := .int (s.1 8)) hS hi_175_157 rfl ?_
    by_cases c2 : (s.1 8) ≤ 0
    · refine l12t hi_175_160 (decide_eq_true c2) ?_
      refine l2 (v := 39) hi_175_170 rfl ?_
      refine l20 (v := .int (s.1 0)) hS hi_175_171 rfl ?_
      refine am_L.mono (lt175_174 hS) ?_
      rintro o S1 ⟨e, h⟩
      have q : k175_140 s z0 = k175_174 s z0 (s.1 0) := by unfold k175_140; rw [if_pos c1]; rw [if_pos c2]
      rw [q]; exact ⟨e, h⟩
    · refine l12f hi_175_160 (decide_eq_false c2) ?_
      refine l2 (v := 39) hi_175_163 rfl ?_
      refine l20 (v := .int (s.1 9)) hS hi_175_164 rfl ?_
      refine l18 hi_175_167 ?_
      refine am_L.mono (lt175_174 hS) ?_
      rintro o S1 ⟨e, h⟩
      have q : k175_140 s z0 = k175_174 s z0 (s.1 9) := by unfold k175_140; rw [if_pos c1]; rw [if_neg c2]
      rw [q]; exact ⟨e, h⟩
  · refine l12f hi_175_146 (decide_eq_false c1) ?_
    refine l2 (v := 39) hi_175_149 rfl ?_
    refine l20 (v := .int (s.1 7)) hS hi_175_150 rfl ?_
    refine l18 hi_175_153 ?_
    refine am_L.mono (lt175_174 hS) ?_
    rintro o S1 ⟨e, h⟩
    have q : k175_140 s z0 = k175_174 s z0 (s.1 7) := by unfold k175_140; rw [if_neg c1]
    rw [q]; exact ⟨e, h⟩
noncomputable def k175_122 (s : kS) : kS × Int32 := if (s.1 6) ≤ 0 then k175_140 s (s.1 8) else k175_140 s (s.1 6)
theorem lt175_122 {sc : Nat × (Nat → Int32)} {N d : Nat} {S0 S : am_S} {s : kS} {o1 : Option Value} (hS : MK S0 S s) : am_L (am_PP sc) N d 175 122 [some (.ref 39), o1] [] S (fun o S1 => o = some (some (.int ((k175_122 s).2))) ∧ MK S0 S1 (k175_122 s).1) := by
  refine l2 (v := 39) hi_175_122 rfl ?_
  refine l20 (v := .int (s.1 6)) hS hi_175_123 rfl ?_
  by_cases c1 : (s.1 6) ≤ 0
  · refine l12t hi_175_126 (decide_eq_true c1) ?_
    refine l2 (v := 39) hi_175_136 rfl ?_
    refine l20 (v := .int (s.1 8)) hS hi_175_137 rfl ?_
    refine am_L.mono (lt175_140 hS) ?_
    rintro o S1 ⟨e, h⟩
    have q : k175_122 s = k175_140 s (s.1 8) := by unfold k175_122; rw [if_pos c1]
    rw [q]; exact ⟨e, h⟩
  · refine l12f hi_175_126 (decide_eq_false c1) ?_
    refine l2 (v := 39) hi_175_129 rfl ?_
    refine l20 (v := .int (s.1 6)) hS hi_175_130 rfl ?_
    refine l18 hi_175_133 ?_
    refine am_L.mono (lt175_140 hS) ?_
    rintro o S1 ⟨e, h⟩
    have q : k175_122 s = k175_140 s (s.1 6) := by unfold k175_122; rw [if_neg c1]
    rw [q]; exact ⟨e, h⟩
noncomputable def k175_117 (s : kS) (z0 : Int32) : kS × Int32 := k175_122 ((k223 s).1)
theorem lt175_117 {sc : Nat × (Nat → Int32)} {N d : Nat} {S0 S : am_S} {s : kS} {z0 : Int32} {o1 : Option Value} (hS : MK S0 S s) : am_L (am_PP sc) N d 175 117 [some (.ref 39), o1] [.int z0] S (fun o S1 => o = some (some (.int ((k175_117 s z0).2))) ∧ MK S0 S1 (k175_117 s z0).1) := by
  refine l6i hi_175_117 ?_
  refine l2 (v := 39) hi_175_118 rfl ?_
  refine l32 (as := [.ref 39]) (la := [some (.ref 39), none]) (rest := []) hi_175_119 (am_hd0 (M := 175) (by decide) 119) rfl rfl rfl (fun N' d' _ => lt223 (N := N') (d := d') hS) ?_ (fun _ q => nomatch q.1)
  rintro v3 S1 ⟨ev3, h2⟩
  cases ev3
  show am_L _ _ _ _ _ [some (.ref 39), o1] [] _ _
  refine am_L.mono (lt175_122 h2) ?_
  rintro o S1 ⟨e, h⟩
  have q : k175_117 s z0 = k175_122 ((k223 s).1) := rfl
  rw [q]; exact ⟨e, h⟩
noncomputable def k175_98 (s : kS) : kS × Int32 := if (s.1 6) ≠ 0 then k175_122 s else k175_117 ((k189 s 45 0 0 (s.1 0)).1) ((k189 s 45 0 0 (s.1 0)).2)
theorem lt175_98 {sc : Nat × (Nat → Int32)} {N d : Nat} {S0 S : am_S} {s : kS} {o1 : Option Value} (hS : MK S0 S s) : am_L (am_PP sc) N d 175 98 [some (.ref 39), o1] [] S (fun o S1 => o = some (some (.int ((k175_98 s).2))) ∧ MK S0 S1 (k175_98 s).1) := by
  refine l2 (v := 39) hi_175_98 rfl ?_
  refine l20 (v := .int (s.1 6)) hS hi_175_99 rfl ?_
  by_cases c1 : (s.1 6) ≠ 0
  · refine l12t hi_175_102 (decide_eq_true c1) ?_
    refine am_L.mono (lt175_122 hS) ?_
    rintro o S1 ⟨e, h⟩
    have q : k175_98 s = k175_122 s := by unfold k175_98; rw [if_pos c1]
    rw [q]; exact ⟨e, h⟩
  · refine l12f hi_175_102 (decide_eq_false c1) ?_
    refine l2 (v := 39) hi_175_105 rfl ?_
    refine l0 hi_175_106 ?_
    refine l0 hi_175_108 ?_
    refine l0 hi_175_109 ?_
    refine l2 (v := 39) hi_175_110 rfl ?_
    refine l20 (v := .int (s.1 0)) hS hi_175_111 rfl ?_
    refine l32 (as := [.ref 39, .int 45, .int 0, .int 0, .int (s.1 0)]) (la := [some (.ref 39), some (.int 45), some (.int 0), some (.int 0), some (.int (s.1 0))]) (rest := []) hi_175_114 (am_hd0 (M := 175) (by decide) 114) rfl rfl rfl (fun N' d' _ => lt189 (N := N') (d := d') hS) ?_ (fun _ q => nomatch q.1)
    rintro v4 S2 ⟨ev4, h3⟩
    cases ev4
    show am_L _ _ _ _ _ [some (.ref 39), o1] [.int ((k189 s 45 0 0 (s.1 0)).2)] _ _
    refine am_L.mono (lt175_117 h3) ?_
    rintro o S1 ⟨e, h⟩
    have q : k175_98 s = k175_117 ((k189 s 45 0 0 (s.1 0)).1) ((k189 s 45 0 0 (s.1 0)).2) := by unfold k175_98; rw [if_neg c1]
    rw [q]; exact ⟨e, h⟩
noncomputable def k175_97 (s : kS) (z0 : Int32) : kS × Int32 := k175_98 s
theorem lt175_97 {sc : Nat × (Nat → Int32)} {N d : Nat} {S0 S : am_S} {s : kS} {z0 : Int32} {o1 : Option Value} (hS : MK S0 S s) : am_L (am_PP sc) N d 175 97 [some (.ref 39), o1] [.int z0] S (fun o S1 => o = some (some (.int ((k175_97 s z0).2))) ∧ MK S0 S1 (k175_97 s z0).1) := by
  refine l6i hi_175_97 ?_
  refine am_L.mono (lt175_98 hS) ?_
  rintro o S1 ⟨e, h⟩
  have q : k175_97 s z0 = k175_98 s := rfl
  rw [q]; exact ⟨e, h⟩
noncomputable def k175_9 (s : kS) : kS × Int32 := if (((kfin k175b13 ((k178 s).1)).2).1 6) ≠ 0 then k175_98 ((kfin k175b13 ((k178 s).1)).2) else if (((kfin k175b13 ((k178 s).1)).2).1 0) ≤ (((kfin k175b13 ((k178 s).1)).2).1 4) then k175_98 ((kfin k175b13 ((k178 s).1)).2) else k175_97 ((k194 ((kfin k175b13 ((k178 s).1)).2) 7).1) ((k194 ((kfin k175b13 ((k178 s).1)).2) 7).2)
theorem lt175_9 {sc : Nat × (Nat → Int32)} {N d : Nat} {S0 S : am_S} {s : kS} {o1 : Option Value} (hS : MK S0 S s) : am_L (am_PP sc) N d 175 9 [some (.ref 39), o1] [] S (fun o S1 => o = some (some (.int ((k175_9 s).2))) ∧ MK S0 S1 (k175_9 s).1) := by
  refine l2 (v := 39) hi_175_9 rfl ?_
  refine l32 (as := [.ref 39]) (la := [some (.ref 39)]) (rest := []) hi_175_10 (am_hd0 (M := 175) (by decide) 10) rfl rfl rfl (fun N' d' _ => lt178 (N := N') (d := d') hS) ?_ (fun _ q => nomatch q.1)
  rintro v3 S1 ⟨ev3, h2⟩
  cases ev3
  show am_L _ _ _ _ _ [some (.ref 39), o1] [] _ _
  refine lb175_13 N _ o1 ((k178 s).1) h2 ?_
  · intro m4 S5 p9 hm6 h7
    have hf8 : kfin k175b13 ((k178 s).1) = kwh k175b13 m4 ((k178 s).1) := kfin_eq (by rw [hm6]; decide)
    rw [← hf8] at hm6 h7
    try rw [← hf8]
    refine l2 (v := 39) hi_175_73 rfl ?_
    refine l20 (v := .int (((kfin k175b13 ((k178 s).1)).2).1 6)) h7 hi_175_74 rfl ?_
    by_cases c10 : (((kfin k175b13 ((k178 s).1)).2).1 6) ≠ 0
    · refine l12t hi_175_77 (decide_eq_true c10) ?_
      refine am_L.mono (lt175_98 h7) ?_
      rintro o S1 ⟨e, h⟩
      have q : k175_9 s = k175_98 ((kfin k175b13 ((k178 s).1)).2) := by unfold k175_9; rw [if_pos c10]
      rw [q]; exact ⟨e, h⟩
    · refine l12f hi_175_77 (decide_eq_false c10) ?_
      refine l2 (v := 39) hi_175_80 rfl ?_
      refine l20 (v := .int (((kfin k175b13 ((k178 s).1)).2).1 4)) h7 hi_175_81 rfl ?_
      refine l2 (v := 39) hi_175_84 rfl ?_
      refine l20 (v := .int (((kfin k175b13 ((k178 s).1)).2).1 0)) h7 hi_175_85 rfl ?_
      by_cases c11 : (((kfin k175b13 ((k178 s).1)).2).1 0) ≤ (((kfin k175b13 ((k178 s).1)).2).1 4)
      · refine l13t hi_175_88 (decide_eq_true c11) ?_
        refine am_L.mono (lt175_98 h7) ?_
        rintro o S1 ⟨e, h⟩
        have q : k175_9 s = k175_98 ((kfin k175b13 ((k178 s).1)).2) := by unfold k175_9; rw [if_neg c10]; rw [if_pos c11]
        rw [q]; exact ⟨e, h⟩
      · refine l13f hi_175_88 (decide_eq_false c11) ?_
        refine l2 (v := 39) hi_175_91 rfl ?_
        refine l0 hi_175_92 ?_
        refine l32 (as := [.ref 39, .int 7]) (la := [some (.ref 39), some (.int 7)]) (rest := []) hi_175_94 (am_hd0 (M := 175) (by decide) 94) rfl rfl rfl (fun N' d' _ => lt194 (N := N') (d := d') h7) ?_ (fun _ q => nomatch q.1)
        rintro v14 S12 ⟨ev14, h13⟩
        cases ev14
        show am_L _ _ _ _ _ [some (.ref 39), p9] [.int ((k194 ((kfin k175b13 ((k178 s).1)).2) 7).2)] _ _
        refine am_L.mono (lt175_97 h13) ?_
        rintro o S1 ⟨e, h⟩
        have q : k175_9 s = k175_97 ((k194 ((kfin k175b13 ((k178 s).1)).2) 7).1) ((k194 ((kfin k175b13 ((k178 s).1)).2) 7).2) := by unfold k175_9; rw [if_neg c10]; rw [if_neg c11]
        rw [q]; exact ⟨e, h⟩
noncomputable def k175_4 (s : kS) : kS × Int32 := k175_9 ((k177 s 0).1)
theorem lt175_4 {sc : Nat × (Nat → Int32)} {N d : Nat} {S0 S : am_S} {s : kS} {o1 : Option Value} (hS : MK S0 S s) : am_L (am_PP sc) N d 175 4 [some (.ref 39), o1] [] S (fun o S1 => o = some (some (.int ((k175_4 s).2))) ∧ MK S0 S1 (k175_4 s).1) := by
  refine l2 (v := 39) hi_175_4 rfl ?_
  refine l0 hi_175_5 ?_
  refine l32 (as := [.ref 39, .int 0]) (la := [some (.ref 39), some (.int 0)]) (rest := []) hi_175_6 (am_hd0 (M := 175) (by decide) 6) rfl rfl rfl (fun N' d' _ => lt177 (N := N') (d := d') hS) ?_ (fun _ q => nomatch q.1)
  rintro v3 S1 ⟨ev3, h2⟩
  cases ev3
  show am_L _ _ _ _ _ [some (.ref 39), o1] [] _ _
  refine am_L.mono (lt175_9 h2) ?_
  rintro o S1 ⟨e, h⟩
  have q : k175_4 s = k175_9 ((k177 s 0).1) := rfl
  rw [q]; exact ⟨e, h⟩
/-- compile()I -/
noncomputable def k175 (s : kS) : kS × Int32 := k175_4 ((k176 s).1)
theorem lt175 {sc : Nat × (Nat → Int32)} {N d : Nat} {S0 S : am_S} {s : kS} (hS : MK S0 S s) : am_L (am_PP sc) N d 175 0 [some (.ref 39), none] [] S (fun o S1 => o = some (some (.int ((k175 s).2))) ∧ MK S0 S1 (k175 s).1) := by
  refine l2 (v := 39) hi_175_0 rfl ?_
  refine l32 (as := [.ref 39]) (la := [some (.ref 39)]) (rest := []) hi_175_1 (am_hd0 (M := 175) (by decide) 1) rfl rfl rfl (fun N' d' _ => lt176 (N := N') (d := d') hS) ?_ (fun _ q => nomatch q.1)
  rintro v3 S1 ⟨ev3, h2⟩
  cases ev3
  show am_L _ _ _ _ _ [some (.ref 39), none] [] _ _
  refine am_L.mono (lt175_4 h2) ?_
  rintro o S1 ⟨e, h⟩
  have q : k175 s = k175_4 ((k176 s).1) := rfl
  rw [q]; exact ⟨e, h⟩
/-- place()I -/
def k267 (s : kS) : Int32 := s.1 3
theorem lt267 {sc : Nat × (Nat → Int32)} {N d : Nat} {S0 S : am_S} {s : kS} (hS : MK S0 S s) : am_L (am_PP sc) N d 267 0 [some (.ref 39)] [] S (fun o S1 => o = some (some (.int (k267 s))) ∧ MK S0 S1 s) := by
  refine l2 (v := 39) hi_267_0 rfl ?_
  refine l20 (v := .int (s.1 3)) hS hi_267_1 rfl ?_
  refine l33 hi_267_4 ⟨?_, ?_⟩
  · rfl
  · exact hS
/-- functions()I -/
def k268 (s : kS) : Int32 := s.1 53
theorem lt268 {sc : Nat × (Nat → Int32)} {N d : Nat} {S0 S : am_S} {s : kS} (hS : MK S0 S s) : am_L (am_PP sc) N d 268 0 [some (.ref 39)] [] S (fun o S1 => o = some (some (.int (k268 s))) ∧ MK S0 S1 s) := by
  refine l2 (v := 39) hi_268_0 rfl ?_
  refine l20 (v := .int (s.1 53)) hS hi_268_1 rfl ?_
  refine l33 hi_268_4 ⟨?_, ?_⟩
  · rfl
  · exact hS
/-- isFunction(I)Z -/
def k270 (s : kS) (x1 : Int32) : Int32 := if x1 < 0 then 0 else if (s.1 53) ≤ x1 then 0 else 1
theorem lt270 {sc : Nat × (Nat → Int32)} {N d : Nat} {S0 S : am_S} {s : kS} {x1 : Int32} (hS : MK S0 S s) : am_L (am_PP sc) N d 270 0 [some (.ref 39), some (.int x1)] [] S (fun o S1 => o = some (some (.int (k270 s x1))) ∧ MK S0 S1 s) := by
  refine l1 (v := x1) hi_270_0 rfl ?_
  by_cases c1 : x1 < 0
  · refine l12t hi_270_1 (decide_eq_true c1) ?_
    refine l0 hi_270_16 ?_
    refine l36 hi_270_17 fun _ => ⟨?_, ?_⟩
    · unfold k270; rw [if_pos c1]
    · exact hS
  · refine l12f hi_270_1 (decide_eq_false c1) ?_
    refine l1 (v := x1) hi_270_4 rfl ?_
    refine l2 (v := 39) hi_270_5 rfl ?_
    refine l20 (v := .int (s.1 53)) hS hi_270_6 rfl ?_
    by_cases c2 : (s.1 53) ≤ x1
    · refine l13t hi_270_9 (decide_eq_true c2) ?_
      refine l0 hi_270_16 ?_
      refine l36 hi_270_17 fun _ => ⟨?_, ?_⟩
      · unfold k270; rw [if_neg c1]; rw [if_pos c2]
      · exact hS
    · refine l13f hi_270_9 (decide_eq_false c2) ?_
      refine l0 hi_270_12 ?_
      refine l18 hi_270_13 ?_
      refine l36 hi_270_17 fun _ => ⟨?_, ?_⟩
      · unfold k270; rw [if_neg c1]; rw [if_neg c2]
      · exact hS
/-- function(II)I -/
def k269 (s : kS) (x1 : Int32) (x2 : Int32) : Int32 := if (k270 s x1) ≠ 0 then if x2 = 0 then (kr s 54 x1) else if x2 = 1 then (kr s 55 x1) else if x2 = 2 then (kr s 56 x1) else if x2 = 3 then (kr s 57 x1) else if x2 = 4 then (kr s 58 x1) else if x2 = 5 then (kr s 67 x1) else if x2 = 6 then (kr s 60 x1) else if x2 = 7 then (kr s 59 x1) else (-1) else (-1)
theorem lt269 {sc : Nat × (Nat → Int32)} {N d : Nat} {S0 S : am_S} {s : kS} {x1 : Int32} {x2 : Int32} (hS : MK S0 S s) : am_L (am_PP sc) N d 269 0 [some (.ref 39), some (.int x1), some (.int x2)] [] S (fun o S1 => o = some (some (.int (k269 s x1 x2))) ∧ MK S0 S1 s) := by
  refine l2 (v := 39) hi_269_0 rfl ?_
  refine l1 (v := x1) hi_269_1 rfl ?_
  refine l32 (as := [.ref 39, .int x1]) (la := [some (.ref 39), some (.int x1)]) (rest := []) hi_269_2 (am_hd0 (M := 269) (by decide) 2) rfl rfl rfl (fun N' d' _ => lt270 (N := N') (d := d') hS) ?_ (fun _ q => nomatch q.1)
  rintro v3 S1 ⟨ev3, h2⟩
  cases ev3
  show am_L _ _ _ _ _ [some (.ref 39), some (.int x1), some (.int x2)] [.int (k270 s x1)] _ _
  by_cases c4 : (k270 s x1) ≠ 0
  · refine l12t hi_269_5 (decide_eq_true c4) ?_
    refine l1 (v := x2) hi_269_10 rfl ?_
    by_cases c5 : x2 = 0
    · refine l19 (t := 56) hi_269_11 (by rw [c5]; decide) ?_
      refine l2 (v := 39) hi_269_56 rfl ?_
      refine l20 (v := .ref 75) h2 hi_269_57 rfl ?_
      refine l1 (v := x1) hi_269_60 rfl ?_
      refine l25 h2 ma_54 hi_269_61 fun g6 g7 => ?_
      show am_L _ _ _ _ _ [some (.ref 39), some (.int x1), some (.int x2)] [.int (kr s 54 x1)] _ _
      refine l33 hi_269_62 ⟨?_, ?_⟩
      · unfold k269; rw [if_pos c4]; rw [if_pos c5]
      · exact h2
    by_cases c8 : x2 = 1
    · refine l19 (t := 63) hi_269_11 (by rw [c8]; decide) ?_
      refine l2 (v := 39) hi_269_63 rfl ?_
      refine l20 (v := .ref 76) h2 hi_269_64 rfl ?_
      refine l1 (v := x1) hi_269_67 rfl ?_
      refine l25 h2 ma_55 hi_269_68 fun g9 g10 => ?_
      show am_L _ _ _ _ _ [some (.ref 39), some (.int x1), some (.int x2)] [.int (kr s 55 x1)] _ _
      refine l33 hi_269_69 ⟨?_, ?_⟩
      · unfold k269; rw [if_pos c4]; rw [if_neg c5]; rw [if_pos c8]
      · exact h2
    by_cases c11 : x2 = 2
    · refine l19 (t := 70) hi_269_11 (by rw [c11]; decide) ?_
      refine l2 (v := 39) hi_269_70 rfl ?_
      refine l20 (v := .ref 77) h2 hi_269_71 rfl ?_
      refine l1 (v := x1) hi_269_74 rfl ?_
      refine l25 h2 ma_56 hi_269_75 fun g12 g13 => ?_
      show am_L _ _ _ _ _ [some (.ref 39), some (.int x1), some (.int x2)] [.int (kr s 56 x1)] _ _
      refine l33 hi_269_76 ⟨?_, ?_⟩
      · unfold k269; rw [if_pos c4]; rw [if_neg c5]; rw [if_neg c8]; rw [if_pos c11]
      · exact h2
    by_cases c14 : x2 = 3
    · refine l19 (t := 77) hi_269_11 (by rw [c14]; decide) ?_
      refine l2 (v := 39) hi_269_77 rfl ?_
      refine l20 (v := .ref 78) h2 hi_269_78 rfl ?_
      refine l1 (v := x1) hi_269_81 rfl ?_
      refine l25 h2 ma_57 hi_269_82 fun g15 g16 => ?_
      show am_L _ _ _ _ _ [some (.ref 39), some (.int x1), some (.int x2)] [.int (kr s 57 x1)] _ _
      refine l33 hi_269_83 ⟨?_, ?_⟩
      · unfold k269; rw [if_pos c4]; rw [if_neg c5]; rw [if_neg c8]; rw [if_neg c11]; rw [if_pos c14]
      · exact h2
    by_cases c17 : x2 = 4
    · refine l19 (t := 84) hi_269_11 (by rw [c17]; decide) ?_
      refine l2 (v := 39) hi_269_84 rfl ?_
      refine l20 (v := .ref 79) h2 hi_269_85 rfl ?_
      refine l1 (v := x1) hi_269_88 rfl ?_
      refine l25 h2 ma_58 hi_269_89 fun g18 g19 => ?_
      show am_L _ _ _ _ _ [some (.ref 39), some (.int x1), some (.int x2)] [.int (kr s 58 x1)] _ _
      refine l33 hi_269_90 ⟨?_, ?_⟩
      · unfold k269; rw [if_pos c4]; rw [if_neg c5]; rw [if_neg c8]; rw [if_neg c11]; rw [if_neg c14]; rw [if_pos c17]
      · exact h2
    by_cases c20 : x2 = 5
    · refine l19 (t := 91) hi_269_11 (by rw [c20]; decide) ?_
      refine l2 (v := 39) hi_269_91 rfl ?_
      refine l20 (v := .ref 87) h2 hi_269_92 rfl ?_
      refine l1 (v := x1) hi_269_95 rfl ?_
      refine l25 h2 ma_67 hi_269_96 fun g21 g22 => ?_
      show am_L _ _ _ _ _ [some (.ref 39), some (.int x1), some (.int x2)] [.int (kr s 67 x1)] _ _
      refine l33 hi_269_97 ⟨?_, ?_⟩
      · unfold k269; rw [if_pos c4]; rw [if_neg c5]; rw [if_neg c8]; rw [if_neg c11]; rw [if_neg c14]; rw [if_neg c17]; rw [if_pos c20]
      · exact h2
    by_cases c23 : x2 = 6
    · refine l19 (t := 98) hi_269_11 (by rw [c23]; decide) ?_
      refine l2 (v := 39) hi_269_98 rfl ?_
      refine l20 (v := .ref 81) h2 hi_269_99 rfl ?_
      refine l1 (v := x1) hi_269_102 rfl ?_
      refine l25 h2 ma_60 hi_269_103 fun g24 g25 => ?_
      show am_L _ _ _ _ _ [some (.ref 39), some (.int x1), some (.int x2)] [.int (kr s 60 x1)] _ _
      refine l33 hi_269_104 ⟨?_, ?_⟩
      · unfold k269; rw [if_pos c4]; rw [if_neg c5]; rw [if_neg c8]; rw [if_neg c11]; rw [if_neg c14]; rw [if_neg c17]; rw [if_neg c20]; rw [if_pos c23]
      · exact h2
    by_cases c26 : x2 = 7
    · refine l19 (t := 105) hi_269_11 (by rw [c26]; decide) ?_
      refine l2 (v := 39) hi_269_105 rfl ?_
      refine l20 (v := .ref 80) h2 hi_269_106 rfl ?_
      refine l1 (v := x1) hi_269_109 rfl ?_
      refine l25 h2 ma_59 hi_269_110 fun g27 g28 => ?_
      show am_L _ _ _ _ _ [some (.ref 39), some (.int x1), some (.int x2)] [.int (kr s 59 x1)] _ _
      refine l33 hi_269_111 ⟨?_, ?_⟩
      · unfold k269; rw [if_pos c4]; rw [if_neg c5]; rw [if_neg c8]; rw [if_neg c11]; rw [if_neg c14]; rw [if_neg c17]; rw [if_neg c20]; rw [if_neg c23]; rw [if_pos c26]
      · exact h2
    refine l19 (t := 112) hi_269_11 (sw_not (ks := [0, 1, 2, 3, 4, 5, 6, 7]) (by decide) (by intro k hk; simp only [List.mem_cons, List.not_mem_nil, or_false] at hk; rcases hk with rfl | rfl | rfl | rfl | rfl | rfl | rfl | rfl <;> first | exact c5 | exact c8 | exact c11 | exact c14 | exact c17 | exact c20 | exact c23 | exact c26)) ?_
    refine l0 hi_269_112 ?_
    refine l33 hi_269_113 ⟨?_, ?_⟩
    · unfold k269; rw [if_pos c4]; rw [if_neg c5]; rw [if_neg c8]; rw [if_neg c11]; rw [if_neg c14]; rw [if_neg c17]; rw [if_neg c20]; rw [if_neg c23]; rw [if_neg c26]
    · exact h2
  · refine l12f hi_269_5 (decide_eq_false c4) ?_
    refine l0 hi_269_8 ?_
    refine l33 hi_269_9 ⟨?_, ?_⟩
    · unfold k269; rw [if_neg c4]
    · exact h2
def k271b39 (s : kS) (y1 : Int32) (y3 : Int32) (t : Int32 × Int32) : Nat × (Int32 × Int32) := if (kr s 63 t.2) ≠ y1 then if (kr s 63 t.2) ≠ y1 then (0, (t.1 - 0, t.2 + 1)) else (0, (t.1 - 1, t.2 + 1)) else if t.1 ≤ 0 then (1, (t.1, t.2)) else if (kr s 63 t.2) ≠ y1 then (0, (t.1 - 0, t.2 + 1)) else (0, (t.1 - 1, t.2 + 1))
theorem lb271_39 {sc : Nat × (Nat → Int32)} {d : Nat} {S0 : am_S} {s : kS} {y1 : Int32} {y3 : Int32} {Q : Option (Option Value) → am_S → Prop} : ∀ (N : Nat) (S : am_S) (o2 : Option Value) (t : Int32 × Int32), MK S0 S s → (∀ m S1 (p2 : Option Value), (kwh (k271b39 s y1 y3) m t).1 = 1 → MK S0 S1 s → am_L (am_PP sc) N d 271 82 [some (.ref 39), some (.int y1), p2, some (.int y3), some (.int ((kwh (k271b39 s y1 y3) m t).2.1)), some (.int ((kwh (k271b39 s y1 y3) m t).2.2))] [] S1 Q) → am_L (am_PP sc) N d 271 39 [some (.ref 39), some (.int y1), o2, some (.int y3), some (.int t.1), some (.int t.2)] [] S Q := by
  intro N
  induction N with
  | zero => intros; exact l_zero
  | succ N ih =>
    intro S o2 t hS kx82
    refine l2d (v := 39) hi_271_39 rfl ?_
    refine l20 (v := .ref 83) hS hi_271_40 rfl ?_
    refine l1 (v := t.2) hi_271_43 rfl ?_
    refine l25 hS ma_63 hi_271_45 fun g1 g2 => ?_
    show am_L _ _ _ _ _ [some (.ref 39), some (.int y1), o2, some (.int y3), some (.int t.1), some (.int t.2)] [.int (kr s 63 t.2)] _ _
    refine l1 (v := y1) hi_271_46 rfl ?_
    by_cases c3 : (kr s 63 t.2) ≠ y1
    · refine l13t hi_271_47 (decide_eq_true c3) ?_
      refine l1 (v := t.1) hi_271_55 rfl ?_
      refine l2 (v := 39) hi_271_57 rfl ?_
      refine l20 (v := .ref 83) hS hi_271_58 rfl ?_
      refine l1 (v := t.2) hi_271_61 rfl ?_
      refine l25 hS ma_63 hi_271_63 fun g4 g5 => ?_
      show am_L _ _ _ _ _ [some (.ref 39), some (.int y1), o2, some (.int y3), some (.int t.1), some (.int t.2)] [.int (kr s 63 t.2), .int t.1] _ _
      refine l1 (v := y1) hi_271_64 rfl ?_
      by_cases c6 : (kr s 63 t.2) ≠ y1
      · refine l13t hi_271_65 (decide_eq_true c6) ?_
        refine l0 hi_271_72 ?_
        refine l10 hi_271_73 ?_
        show am_L _ _ _ _ _ [some (.ref 39), some (.int y1), o2, some (.int y3), some (.int t.1), some (.int t.2)] [.int (t.1 - 0)] _ _
        refine l3 (ls' := [some (.ref 39), some (.int y1), o2, some (.int y3), some (.int (t.1 - 0)), some (.int t.2)]) hi_271_74 (Nat.le_of_ble_eq_true rfl) rfl ?_
        refine l5 (v := t.2) (ls' := [some (.ref 39), some (.int y1), o2, some (.int y3), some (.int (t.1 - 0)), some (.int (t.2 + 1))]) hi_271_76 rfl rfl ?_
        refine l18 hi_271_79 ?_
        have e0 : (k271b39 s y1 y3) t = (0, (t.1 - 0, t.2 + 1)) := by unfold k271b39; rw [if_pos c3]; rw [if_pos c6]
        have e1 : ∀ m, kwh (k271b39 s y1 y3) (m + 1) t = kwh (k271b39 s y1 y3) m (t.1 - 0, t.2 + 1) := fun m => by rw [kwh_go (by rw [e0]), e0]
        exact ih _ o2 (t.1 - 0, t.2 + 1) hS (fun m S1 p2 hm h1 => by have q := kx82 (m + 1) S1 p2 (by rw [e1]; exact hm) (by exact h1); (try rw [e1] at q); exact q.less (Nat.le_succ N))
      · refine l13f hi_271_65 (decide_eq_false c6) ?_
        refine l0 hi_271_68 ?_
        refine l18 hi_271_69 ?_
        refine l10 hi_271_73 ?_
        show am_L _ _ _ _ _ [some (.ref 39), some (.int y1), o2, some (.int y3), some (.int t.1), some (.int t.2)] [.int (t.1 - 1)] _ _
        refine l3 (ls' := [some (.ref 39), some (.int y1), o2, some (.int y3), some (.int (t.1 - 1)), some (.int t.2)]) hi_271_74 (Nat.le_of_ble_eq_true rfl) rfl ?_
        refine l5 (v := t.2) (ls' := [some (.ref 39), some (.int y1), o2, some (.int y3), some (.int (t.1 - 1)), some (.int (t.2 + 1))]) hi_271_76 rfl rfl ?_
        refine l18 hi_271_79 ?_
        have e0 : (k271b39 s y1 y3) t = (0, (t.1 - 1, t.2 + 1)) := by unfold k271b39; rw [if_pos c3]; rw [if_neg c6]
        have e1 : ∀ m, kwh (k271b39 s y1 y3) (m + 1) t = kwh (k271b39 s y1 y3) m (t.1 - 1, t.2 + 1) := fun m => by rw [kwh_go (by rw [e0]), e0]
        exact ih _ o2 (t.1 - 1, t.2 + 1) hS (fun m S1 p2 hm h1 => by have q := kx82 (m + 1) S1 p2 (by rw [e1]; exact hm) (by exact h1); (try rw [e1] at q); exact q.less (Nat.le_succ N))
    · refine l13f hi_271_47 (decide_eq_false c3) ?_
      refine l1 (v := t.1) hi_271_50 rfl ?_
      by_cases c7 : t.1 ≤ 0
      · refine l12t hi_271_52 (decide_eq_true c7) ?_
        have e0 : (k271b39 s y1 y3) t = (1, (t.1, t.2)) := by unfold k271b39; rw [if_neg c3]; rw [if_pos c7]
        have e1 : kwh (k271b39 s y1 y3) 1 t = (1, (t.1, t.2)) := by rw [kwh_out (by rw [e0]; exact Nat.succ_ne_zero _), e0]
        have q := kx82 1 _ o2 (by rw [e1]) (by exact hS)
        try rw [e1] at q
        exact q.less (Nat.le_succ N)
      · refine l12f hi_271_52 (decide_eq_false c7) ?_
        refine l1 (v := t.1) hi_271_55 rfl ?_
        refine l2 (v := 39) hi_271_57 rfl ?_
        refine l20 (v := .ref 83) hS hi_271_58 rfl ?_
        refine l1 (v := t.2) hi_271_61 rfl ?_
        refine l25 hS ma_63 hi_271_63 fun g8 g9 => ?_
        show am_L _ _ _ _ _ [some (.ref 39), some (.int y1), o2, some (.int y3), some (.int t.1), some (.int t.2)] [.int (kr s 63 t.2), .int t.1] _ _
        refine l1 (v := y1) hi_271_64 rfl ?_
        by_cases c10 : (kr s 63 t.2) ≠ y1
        · refine l13t hi_271_65 (decide_eq_true c10) ?_
          refine l0 hi_271_72 ?_
          refine l10 hi_271_73 ?_
          show am_L _ _ _ _ _ [some (.ref 39), some (.int y1), o2, some (.int y3), some (.int t.1), some (.int t.2)] [.int (t.1 - 0)] _ _
          refine l3 (ls' := [some (.ref 39), some (.int y1), o2, some (.int y3), some (.int (t.1 - 0)), some (.int t.2)]) hi_271_74 (Nat.le_of_ble_eq_true rfl) rfl ?_
          refine l5 (v := t.2) (ls' := [some (.ref 39), some (.int y1), o2, some (.int y3), some (.int (t.1 - 0)), some (.int (t.2 + 1))]) hi_271_76 rfl rfl ?_
          refine l18 hi_271_79 ?_
          have e0 : (k271b39 s y1 y3) t = (0, (t.1 - 0, t.2 + 1)) := by unfold k271b39; rw [if_neg c3]; rw [if_neg c7]; rw [if_pos c10]
          have e1 : ∀ m, kwh (k271b39 s y1 y3) (m + 1) t = kwh (k271b39 s y1 y3) m (t.1 - 0, t.2 + 1) := fun m => by rw [kwh_go (by rw [e0]), e0]
          exact ih _ o2 (t.1 - 0, t.2 + 1) hS (fun m S1 p2 hm h1 => by have q := kx82 (m + 1) S1 p2 (by rw [e1]; exact hm) (by exact h1); (try rw [e1] at q); exact q.less (Nat.le_succ N))
        · refine l13f hi_271_65 (decide_eq_false c10) ?_
          refine l0 hi_271_68 ?_
          refine l18 hi_271_69 ?_
          refine l10 hi_271_73 ?_
          show am_L _ _ _ _ _ [some (.ref 39), some (.int y1), o2, some (.int y3), some (.int t.1), some (.int t.2)] [.int (t.1 - 1)] _ _
          refine l3 (ls' := [some (.ref 39), some (.int y1), o2, some (.int y3), some (.int (t.1 - 1)), some (.int t.2)]) hi_271_74 (Nat.le_of_ble_eq_true rfl) rfl ?_
          refine l5 (v := t.2) (ls' := [some (.ref 39), some (.int y1), o2, some (.int y3), some (.int (t.1 - 1)), some (.int (t.2 + 1))]) hi_271_76 rfl rfl ?_
          refine l18 hi_271_79 ?_
          have e0 : (k271b39 s y1 y3) t = (0, (t.1 - 1, t.2 + 1)) := by unfold k271b39; rw [if_neg c3]; rw [if_neg c7]; rw [if_neg c10]
          have e1 : ∀ m, kwh (k271b39 s y1 y3) (m + 1) t = kwh (k271b39 s y1 y3) m (t.1 - 1, t.2 + 1) := fun m => by rw [kwh_go (by rw [e0]), e0]
          exact ih _ o2 (t.1 - 1, t.2 + 1) hS (fun m S1 p2 hm h1 => by have q := kx82 (m + 1) S1 p2 (by rw [e1]; exact hm) (by exact h1); (try rw [e1] at q); exact q.less (Nat.le_succ N))
/-- outer(III)I -/
noncomputable def k271 (s : kS) (x1 : Int32) (x2 : Int32) (x3 : Int32) : Int32 := if (k270 s x1) = 0 then (-1) else if x2 < 0 then (-1) else if (kr s 67 x1) ≤ x2 then (-1) else if x3 < 0 then (-1) else if x3 ≤ 1 then if x3 ≠ 0 then kr s 66 ((kfin (k271b39 s x1 x3) (x2, 0)).2.2) else kr s 65 ((kfin (k271b39 s x1 x3) (x2, 0)).2.2) else (-1)
theorem lt271 {sc : Nat × (Nat → Int32)} {N d : Nat} {S0 S : am_S} {s : kS} {x1 : Int32} {x2 : Int32} {x3 : Int32} (hS : MK S0 S s) : am_L (am_PP sc) N d 271 0 [some (.ref 39), some (.int x1), some (.int x2), some (.int x3), none, none] [] S (fun o S1 => o = some (some (.int (k271 s x1 x2 x3))) ∧ MK S0 S1 s) := by
  refine l2 (v := 39) hi_271_0 rfl ?_
  refine l1 (v := x1) hi_271_1 rfl ?_
  refine l32 (as := [.ref 39, .int x1]) (la := [some (.ref 39), some (.int x1)]) (rest := []) hi_271_2 (am_hd0 (M := 271) (by decide) 2) rfl rfl rfl (fun N' d' _ => lt270 (N := N') (d := d') hS) ?_ (fun _ q => nomatch q.1)
  rintro v3 S1 ⟨ev3, h2⟩
  cases ev3
  show am_L _ _ _ _ _ [some (.ref 39), some (.int x1), some (.int x2), some (.int x3), none, none] [.int (k270 s x1)] _ _
  by_cases c4 : (k270 s x1) = 0
  · refine l12t hi_271_5 (decide_eq_true c4) ?_
    refine l0 hi_271_31 ?_
    refine l33 hi_271_32 ⟨?_, ?_⟩
    · unfold k271; rw [if_pos c4]
    · exact h2
  · refine l12f hi_271_5 (decide_eq_false c4) ?_
    refine l1 (v := x2) hi_271_8 rfl ?_
    by_cases c5 : x2 < 0
    · refine l12t hi_271_9 (decide_eq_true c5) ?_
      refine l0 hi_271_31 ?_
      refine l33 hi_271_32 ⟨?_, ?_⟩
      · unfold k271; rw [if_neg c4]; rw [if_pos c5]
      · exact h2
    · refine l12f hi_271_9 (decide_eq_false c5) ?_
      refine l1 (v := x2) hi_271_12 rfl ?_
      refine l2 (v := 39) hi_271_13 rfl ?_
      refine l20 (v := .ref 87) h2 hi_271_14 rfl ?_
      refine l1 (v := x1) hi_271_17 rfl ?_
      refine l25 h2 ma_67 hi_271_18 fun g6 g7 => ?_
      show am_L _ _ _ _ _ [some (.ref 39), some (.int x1), some (.int x2), some (.int x3), none, none] [.int (kr s 67 x1), .int x2] _ _
      by_cases c8 : (kr s 67 x1) ≤ x2
      · refine l13t hi_271_19 (decide_eq_true c8) ?_
        refine l0 hi_271_31 ?_
        refine l33 hi_271_32 ⟨?_, ?_⟩
        · unfold k271; rw [if_neg c4]; rw [if_neg c5]; rw [if_pos c8]
        · exact h2
      · refine l13f hi_271_19 (decide_eq_false c8) ?_
        refine l1 (v := x3) hi_271_22 rfl ?_
        by_cases c9 : x3 < 0
        · refine l12t hi_271_23 (decide_eq_true c9) ?_
          refine l0 hi_271_31 ?_
          refine l33 hi_271_32 ⟨?_, ?_⟩
          · unfold k271; rw [if_neg c4]; rw [if_neg c5]; rw [if_neg c8]; rw [if_pos c9]
          · exact h2
        · refine l12f hi_271_23 (decide_eq_false c9) ?_
          refine l1 (v := x3) hi_271_26 rfl ?_
          refine l0 hi_271_27 ?_
          by_cases c10 : x3 ≤ 1
          · refine l13t hi_271_28 (decide_eq_true c10) ?_
            refine l1 (v := x2) hi_271_33 rfl ?_
            refine l3 (ls' := [some (.ref 39), some (.int x1), some (.int x2), some (.int x3), some (.int x2), none]) hi_271_34 (Nat.le_of_ble_eq_true rfl) rfl ?_
            refine l0 hi_271_36 ?_
            refine l3 (ls' := [some (.ref 39), some (.int x1), some (.int x2), some (.int x3), some (.int x2), some (.int 0)]) hi_271_37 (Nat.le_of_ble_eq_true rfl) rfl ?_
            refine lb271_39 N _ (some (.int x2)) (x2, 0) h2 ?_
            · intro m11 S12 p16 hm13 h14
              have hf15 : kfin (k271b39 s x1 x3) (x2, 0) = kwh (k271b39 s x1 x3) m11 (x2, 0) := kfin_eq (by rw [hm13]; decide)
              rw [← hf15] at hm13
              try rw [← hf15]
              refine l1 (v := x3) hi_271_82 rfl ?_
              by_cases c17 : x3 ≠ 0
              · refine l12t hi_271_83 (decide_eq_true c17) ?_
                refine l2 (v := 39) hi_271_96 rfl ?_
                refine l20 (v := .ref 86) h14 hi_271_97 rfl ?_
                refine l1 (v := (kfin (k271b39 s x1 x3) (x2, 0)).2.2) hi_271_100 rfl ?_
                refine l25 h14 ma_66 hi_271_102 fun g18 g19 => ?_
                show am_L _ _ _ _ _ [some (.ref 39), some (.int x1), p16, some (.int x3), some (.int ((kfin (k271b39 s x1 x3) (x2, 0)).2.1)), some (.int ((kfin (k271b39 s x1 x3) (x2, 0)).2.2))] [.int (kr s 66 ((kfin (k271b39 s x1 x3) (x2, 0)).2.2))] _ _
                refine l33 hi_271_103 ⟨?_, ?_⟩
                · unfold k271; rw [if_neg c4]; rw [if_neg c5]; rw [if_neg c8]; rw [if_neg c9]; rw [if_pos c10]; rw [if_pos c17]
                · exact h14
              · refine l12f hi_271_83 (decide_eq_false c17) ?_
                refine l2 (v := 39) hi_271_86 rfl ?_
                refine l20 (v := .ref 85) h14 hi_271_87 rfl ?_
                refine l1 (v := (kfin (k271b39 s x1 x3) (x2, 0)).2.2) hi_271_90 rfl ?_
                refine l25 h14 ma_65 hi_271_92 fun g20 g21 => ?_
                show am_L _ _ _ _ _ [some (.ref 39), some (.int x1), p16, some (.int x3), some (.int ((kfin (k271b39 s x1 x3) (x2, 0)).2.1)), some (.int ((kfin (k271b39 s x1 x3) (x2, 0)).2.2))] [.int (kr s 65 ((kfin (k271b39 s x1 x3) (x2, 0)).2.2))] _ _
                refine l18 hi_271_93 ?_
                refine l33 hi_271_103 ⟨?_, ?_⟩
                · unfold k271; rw [if_neg c4]; rw [if_neg c5]; rw [if_neg c8]; rw [if_neg c9]; rw [if_pos c10]; rw [if_neg c17]
                · exact h14
          · refine l13f hi_271_28 (decide_eq_false c10) ?_
            refine l0 hi_271_31 ?_
            refine l33 hi_271_32 ⟨?_, ?_⟩
            · unfold k271; rw [if_neg c4]; rw [if_neg c5]; rw [if_neg c8]; rw [if_neg c9]; rw [if_neg c10]
            · exact h2
/-- code(III)I -/
def k272 (s : kS) (x1 : Int32) (x2 : Int32) (x3 : Int32) : Int32 := if (k270 s x1) = 0 then (-1) else if x2 < 0 then (-1) else if x2 < (kr s 60 x1) then if x3 = 0 then (kr s 70 (kr s 74 ((kr s 61 x1) + x2))) else if x3 = 1 then (kr s 71 (kr s 74 ((kr s 61 x1) + x2))) else if x3 = 2 then (kr s 72 (kr s 74 ((kr s 61 x1) + x2))) else if x3 = 3 then (kr s 73 (kr s 74 ((kr s 61 x1) + x2))) else (-1) else (-1)
theorem lt272 {sc : Nat × (Nat → Int32)} {N d : Nat} {S0 S : am_S} {s : kS} {x1 : Int32} {x2 : Int32} {x3 : Int32} (hS : MK S0 S s) : am_L (am_PP sc) N d 272 0 [some (.ref 39), some (.int x1), some (.int x2), some (.int x3), none] [] S (fun o S1 => o = some (some (.int (k272 s x1 x2 x3))) ∧ MK S0 S1 s) := by
  refine l2 (v := 39) hi_272_0 rfl ?_
  refine l1 (v := x1) hi_272_1 rfl ?_
  refine l32 (as := [.ref 39, .int x1]) (la := [some (.ref 39), some (.int x1)]) (rest := []) hi_272_2 (am_hd0 (M := 272) (by decide) 2) rfl rfl rfl (fun N' d' _ => lt270 (N := N') (d := d') hS) ?_ (fun _ q => nomatch q.1)
  rintro v3 S1 ⟨ev3, h2⟩
  cases ev3
  show am_L _ _ _ _ _ [some (.ref 39), some (.int x1), some (.int x2), some (.int x3), none] [.int (k270 s x1)] _ _
  by_cases c4 : (k270 s x1) = 0
  · refine l12t hi_272_5 (decide_eq_true c4) ?_
    refine l0 hi_272_22 ?_
    refine l33 hi_272_23 ⟨?_, ?_⟩
    · unfold k272; rw [if_pos c4]
    · exact h2
  · refine l12f hi_272_5 (decide_eq_false c4) ?_
    refine l1 (v := x2) hi_272_8 rfl ?_
    by_cases c5 : x2 < 0
    · refine l12t hi_272_9 (decide_eq_true c5) ?_
      refine l0 hi_272_22 ?_
      refine l33 hi_272_23 ⟨?_, ?_⟩
      · unfold k272; rw [if_neg c4]; rw [if_pos c5]
      · exact h2
    · refine l12f hi_272_9 (decide_eq_false c5) ?_
      refine l1 (v := x2) hi_272_12 rfl ?_
      refine l2 (v := 39) hi_272_13 rfl ?_
      refine l20 (v := .ref 81) h2 hi_272_14 rfl ?_
      refine l1 (v := x1) hi_272_17 rfl ?_
      refine l25 h2 ma_60 hi_272_18 fun g6 g7 => ?_
      show am_L _ _ _ _ _ [some (.ref 39), some (.int x1), some (.int x2), some (.int x3), none] [.int (kr s 60 x1), .int x2] _ _
      by_cases c8 : x2 < (kr s 60 x1)
      · refine l13t hi_272_19 (decide_eq_true c8) ?_
        refine l2 (v := 39) hi_272_24 rfl ?_
        refine l20 (v := .ref 93) h2 hi_272_25 rfl ?_
        refine l2 (v := 39) hi_272_28 rfl ?_
        refine l20 (v := .ref 82) h2 hi_272_29 rfl ?_
        refine l1 (v := x1) hi_272_32 rfl ?_
        refine l25 h2 ma_61 hi_272_33 fun g9 g10 => ?_
        show am_L _ _ _ _ _ [some (.ref 39), some (.int x1), some (.int x2), some (.int x3), none] [.int (kr s 61 x1), .ref 93] _ _
        refine l1 (v := x2) hi_272_34 rfl ?_
        refine l10 hi_272_35 ?_
        show am_L _ _ _ _ _ [some (.ref 39), some (.int x1), some (.int x2), some (.int x3), none] [.int ((kr s 61 x1) + x2), .ref 93] _ _
        refine l25 h2 ma_74 hi_272_36 fun g11 g12 => ?_
        show am_L _ _ _ _ _ [some (.ref 39), some (.int x1), some (.int x2), some (.int x3), none] [.int (kr s 74 ((kr s 61 x1) + x2))] _ _
        refine l3 (ls' := [some (.ref 39), some (.int x1), some (.int x2), some (.int x3), some (.int (kr s 74 ((kr s 61 x1) + x2)))]) hi_272_37 (Nat.le_of_ble_eq_true rfl) rfl ?_
        refine l1 (v := x3) hi_272_39 rfl ?_
        by_cases c13 : x3 = 0
        · refine l19 (t := 72) hi_272_40 (by rw [c13]; decide) ?_
          refine l2 (v := 39) hi_272_72 rfl ?_
          refine l20 (v := .ref 89) h2 hi_272_73 rfl ?_
          refine l1 (v := kr s 74 ((kr s 61 x1) + x2)) hi_272_76 rfl ?_
          refine l25 h2 ma_70 hi_272_78 fun g14 g15 => ?_
          show am_L _ _ _ _ _ [some (.ref 39), some (.int x1), some (.int x2), some (.int x3), some (.int (kr s 74 ((kr s 61 x1) + x2)))] [.int (kr s 70 (kr s 74 ((kr s 61 x1) + x2)))] _ _
          refine l33 hi_272_79 ⟨?_, ?_⟩
          · unfold k272; rw [if_neg c4]; rw [if_neg c5]; rw [if_pos c8]; rw [if_pos c13]
          · exact h2
        by_cases c16 : x3 = 1
        · refine l19 (t := 80) hi_272_40 (by rw [c16]; decide) ?_
          refine l2 (v := 39) hi_272_80 rfl ?_
          refine l20 (v := .ref 90) h2 hi_272_81 rfl ?_
          refine l1 (v := kr s 74 ((kr s 61 x1) + x2)) hi_272_84 rfl ?_
          refine l25 h2 ma_71 hi_272_86 fun g17 g18 => ?_
          show am_L _ _ _ _ _ [some (.ref 39), some (.int x1), some (.int x2), some (.int x3), some (.int (kr s 74 ((kr s 61 x1) + x2)))] [.int (kr s 71 (kr s 74 ((kr s 61 x1) + x2)))] _ _
          refine l33 hi_272_87 ⟨?_, ?_⟩
          · unfold k272; rw [if_neg c4]; rw [if_neg c5]; rw [if_pos c8]; rw [if_neg c13]; rw [if_pos c16]
          · exact h2
        by_cases c19 : x3 = 2
        · refine l19 (t := 88) hi_272_40 (by rw [c19]; decide) ?_
          refine l2 (v := 39) hi_272_88 rfl ?_
          refine l20 (v := .ref 91) h2 hi_272_89 rfl ?_
          refine l1 (v := kr s 74 ((kr s 61 x1) + x2)) hi_272_92 rfl ?_
          refine l25 h2 ma_72 hi_272_94 fun g20 g21 => ?_
          show am_L _ _ _ _ _ [some (.ref 39), some (.int x1), some (.int x2), some (.int x3), some (.int (kr s 74 ((kr s 61 x1) + x2)))] [.int (kr s 72 (kr s 74 ((kr s 61 x1) + x2)))] _ _
          refine l33 hi_272_95 ⟨?_, ?_⟩
          · unfold k272; rw [if_neg c4]; rw [if_neg c5]; rw [if_pos c8]; rw [if_neg c13]; rw [if_neg c16]; rw [if_pos c19]
          · exact h2
        by_cases c22 : x3 = 3
        · refine l19 (t := 96) hi_272_40 (by rw [c22]; decide) ?_
          refine l2 (v := 39) hi_272_96 rfl ?_
          refine l20 (v := .ref 92) h2 hi_272_97 rfl ?_
          refine l1 (v := kr s 74 ((kr s 61 x1) + x2)) hi_272_100 rfl ?_
          refine l25 h2 ma_73 hi_272_102 fun g23 g24 => ?_
          show am_L _ _ _ _ _ [some (.ref 39), some (.int x1), some (.int x2), some (.int x3), some (.int (kr s 74 ((kr s 61 x1) + x2)))] [.int (kr s 73 (kr s 74 ((kr s 61 x1) + x2)))] _ _
          refine l33 hi_272_103 ⟨?_, ?_⟩
          · unfold k272; rw [if_neg c4]; rw [if_neg c5]; rw [if_pos c8]; rw [if_neg c13]; rw [if_neg c16]; rw [if_neg c19]; rw [if_pos c22]
          · exact h2
        refine l19 (t := 104) hi_272_40 (sw_not (ks := [0, 1, 2, 3]) (by decide) (by intro k hk; simp only [List.mem_cons, List.not_mem_nil, or_false] at hk; rcases hk with rfl | rfl | rfl | rfl <;> first | exact c13 | exact c16 | exact c19 | exact c22)) ?_
        refine l0 hi_272_104 ?_
        refine l33 hi_272_105 ⟨?_, ?_⟩
        · unfold k272; rw [if_neg c4]; rw [if_neg c5]; rw [if_pos c8]; rw [if_neg c13]; rw [if_neg c16]; rw [if_neg c19]; rw [if_neg c22]
        · exact h2
      · refine l13f hi_272_19 (decide_eq_false c8) ?_
        refine l0 hi_272_22 ?_
        refine l33 hi_272_23 ⟨?_, ?_⟩
        · unfold k272; rw [if_neg c4]; rw [if_neg c5]; rw [if_neg c8]
        · exact h2
def k274_188 (s : kS) (y1 : Int32) (y2 : Int32) (z0 : Int32) : Int32 := ((z0 - y1) - 1) - (y2 &&& 1)
theorem lt274_188 {sc : Nat × (Nat → Int32)} {N d : Nat} {S0 S : am_S} {s : kS} {y1 : Int32} {y2 : Int32} {z0 : Int32} {o0 : Option Value} (hS : MK S0 S s) : am_L (am_PP sc) N d 274 188 [o0, some (.int y1), some (.int y2)] [.int z0] S (fun o S1 => o = some (some (.int (k274_188 s y1 y2 z0))) ∧ MK S0 S1 s) := by
  refine l1 (v := y1) hi_274_188 rfl ?_
  refine l10 hi_274_189 ?_
  show am_L _ _ _ _ _ [o0, some (.int y1), some (.int y2)] [.int (z0 - y1)] _ _
  refine l0 hi_274_190 ?_
  refine l10 hi_274_191 ?_
  show am_L _ _ _ _ _ [o0, some (.int y1), some (.int y2)] [.int ((z0 - y1) - 1)] _ _
  refine l1 (v := y2) hi_274_192 rfl ?_
  refine l0 hi_274_193 ?_
  refine l10 hi_274_194 ?_
  show am_L _ _ _ _ _ [o0, some (.int y1), some (.int y2)] [.int (y2 &&& 1), .int ((z0 - y1) - 1)] _ _
  refine l10 hi_274_195 ?_
  show am_L _ _ _ _ _ [o0, some (.int y1), some (.int y2)] [.int (((z0 - y1) - 1) - (y2 &&& 1))] _ _
  refine l33 hi_274_196 ⟨?_, ?_⟩
  · rfl
  · exact hS
/-- more(III)I -/
def k274 (s : kS) (x1 : Int32) (x2 : Int32) (x3 : Int32) : Int32 := if x1 ≤ 10 then 1 else if x1 = 14 then 1 else if x1 ≠ 20 then if x1 = 12 then 0 else if x1 = 13 then (if x3 ≤ 1 then k274_188 s x2 x3 0 else k274_188 s x2 x3 1) else if x1 = 17 then 0 else if x1 = 18 then 0 else if x1 = 21 then (-2) else if x1 = 25 then (x2 - 1) else if x1 = 26 then (-x2) else if x1 = 27 then (-x3) else if x1 = 28 then 0 else if x1 = 33 then 0 else if x1 = 34 then 0 else if x1 = 36 then 0 else if x1 = 38 then (-3) else if x1 = 39 then 0 else if x1 = 40 then 0 else if x1 = 41 then 0 else if x1 = 42 then (-4) else if x1 = 43 then 0 else if x1 = 44 then 0 else if x1 = 45 then ((-x2) - x3) else if x1 = 46 then (((-x2) - 1) - x3) else (-1) else 1
theorem lt274 {sc : Nat × (Nat → Int32)} {N d : Nat} {S0 S : am_S} {s : kS} {x1 : Int32} {x2 : Int32} {x3 : Int32} (hS : MK S0 S s) : am_L (am_PP sc) N d 274 0 [some (.int x1), some (.int x2), some (.int x3)] [] S (fun o S1 => o = some (some (.int (k274 s x1 x2 x3))) ∧ MK S0 S1 s) := by
  refine l1 (v := x1) hi_274_0 rfl ?_
  refine l0 hi_274_1 ?_
  by_cases c1 : x1 ≤ 10
  · refine l13t hi_274_3 (decide_eq_true c1) ?_
    refine l0 hi_274_18 ?_
    refine l33 hi_274_19 ⟨?_, ?_⟩
    · unfold k274; rw [if_pos c1]
    · exact hS
  · refine l13f hi_274_3 (decide_eq_false c1) ?_
    refine l1 (v := x1) hi_274_6 rfl ?_
    refine l0 hi_274_7 ?_
    by_cases c2 : x1 = 14
    · refine l13t hi_274_9 (decide_eq_true c2) ?_
      refine l0 hi_274_18 ?_
      refine l33 hi_274_19 ⟨?_, ?_⟩
      · unfold k274; rw [if_neg c1]; rw [if_pos c2]
      · exact hS
    · refine l13f hi_274_9 (decide_eq_false c2) ?_
      refine l1 (v := x1) hi_274_12 rfl ?_
      refine l0 hi_274_13 ?_
      by_cases c3 : x1 ≠ 20
      · refine l13t hi_274_15 (decide_eq_true c3) ?_
        refine l1 (v := x1) hi_274_20 rfl ?_
        by_cases c4 : x1 = 12
        · refine l19 (t := 176) hi_274_21 (by rw [c4]; decide) ?_
          refine l0 hi_274_176 ?_
          refine l33 hi_274_177 ⟨?_, ?_⟩
          · unfold k274; rw [if_neg c1]; rw [if_neg c2]; rw [if_pos c3]; rw [if_pos c4]
          · exact hS
        by_cases c5 : x1 = 13
        · refine l19 (t := 178) hi_274_21 (by rw [c5]; decide) ?_
          refine l1 (v := x3) hi_274_178 rfl ?_
          refine l0 hi_274_179 ?_
          by_cases c6 : x3 ≤ 1
          · refine l13t hi_274_180 (decide_eq_true c6) ?_
            refine l0 hi_274_187 ?_
            refine am_L.mono (lt274_188 hS) ?_
            rintro o S1 ⟨e, h⟩
            have q : k274 s x1 x2 x3 = k274_188 s x2 x3 0 := by unfold k274; rw [if_neg c1]; rw [if_neg c2]; rw [if_pos c3]; rw [if_neg c4]; rw [if_pos c5]; rw [if_pos c6]
            rw [q]; exact ⟨e, h⟩
          · refine l13f hi_274_180 (decide_eq_false c6) ?_
            refine l0 hi_274_183 ?_
            refine l18 hi_274_184 ?_
            refine am_L.mono (lt274_188 hS) ?_
            rintro o S1 ⟨e, h⟩
            have q : k274 s x1 x2 x3 = k274_188 s x2 x3 1 := by unfold k274; rw [if_neg c1]; rw [if_neg c2]; rw [if_pos c3]; rw [if_neg c4]; rw [if_pos c5]; rw [if_neg c6]
            rw [q]; exact ⟨e, h⟩
        by_cases c7 : x1 = 17
        · refine l19 (t := 176) hi_274_21 (by rw [c7]; decide) ?_
          refine l0 hi_274_176 ?_
          refine l33 hi_274_177 ⟨?_, ?_⟩
          · unfold k274; rw [if_neg c1]; rw [if_neg c2]; rw [if_pos c3]; rw [if_neg c4]; rw [if_neg c5]; rw [if_pos c7]
          · exact hS
        by_cases c8 : x1 = 18
        · refine l19 (t := 176) hi_274_21 (by rw [c8]; decide) ?_
          refine l0 hi_274_176 ?_
          refine l33 hi_274_177 ⟨?_, ?_⟩
          · unfold k274; rw [if_neg c1]; rw [if_neg c2]; rw [if_pos c3]; rw [if_neg c4]; rw [if_neg c5]; rw [if_neg c7]; rw [if_pos c8]
          · exact hS
        by_cases c9 : x1 = 21
        · refine l19 (t := 207) hi_274_21 (by rw [c9]; decide) ?_
          refine l0 hi_274_207 ?_
          refine l33 hi_274_209 ⟨?_, ?_⟩
          · unfold k274; rw [if_neg c1]; rw [if_neg c2]; rw [if_pos c3]; rw [if_neg c4]; rw [if_neg c5]; rw [if_neg c7]; rw [if_neg c8]; rw [if_pos c9]
          · exact hS
        by_cases c10 : x1 = 25
        · refine l19 (t := 197) hi_274_21 (by rw [c10]; decide) ?_
          refine l1 (v := x2) hi_274_197 rfl ?_
          refine l0 hi_274_198 ?_
          refine l10 hi_274_199 ?_
          show am_L _ _ _ _ _ [some (.int x1), some (.int x2), some (.int x3)] [.int (x2 - 1)] _ _
          refine l33 hi_274_200 ⟨?_, ?_⟩
          · unfold k274; rw [if_neg c1]; rw [if_neg c2]; rw [if_pos c3]; rw [if_neg c4]; rw [if_neg c5]; rw [if_neg c7]; rw [if_neg c8]; rw [if_neg c9]; rw [if_pos c10]
          · exact hS
        by_cases c11 : x1 = 26
        · refine l19 (t := 201) hi_274_21 (by rw [c11]; decide) ?_
          refine l1 (v := x2) hi_274_201 rfl ?_
          refine l11 hi_274_202 ?_
          refine l33 hi_274_203 ⟨?_, ?_⟩
          · unfold k274; rw [if_neg c1]; rw [if_neg c2]; rw [if_pos c3]; rw [if_neg c4]; rw [if_neg c5]; rw [if_neg c7]; rw [if_neg c8]; rw [if_neg c9]; rw [if_neg c10]; rw [if_pos c11]
          · exact hS
        by_cases c12 : x1 = 27
        · refine l19 (t := 204) hi_274_21 (by rw [c12]; decide) ?_
          refine l1 (v := x3) hi_274_204 rfl ?_
          refine l11 hi_274_205 ?_
          refine l33 hi_274_206 ⟨?_, ?_⟩
          · unfold k274; rw [if_neg c1]; rw [if_neg c2]; rw [if_pos c3]; rw [if_neg c4]; rw [if_neg c5]; rw [if_neg c7]; rw [if_neg c8]; rw [if_neg c9]; rw [if_neg c10]; rw [if_neg c11]; rw [if_pos c12]
          · exact hS
        by_cases c13 : x1 = 28
        · refine l19 (t := 176) hi_274_21 (by rw [c13]; decide) ?_
          refine l0 hi_274_176 ?_
          refine l33 hi_274_177 ⟨?_, ?_⟩
          · unfold k274; rw [if_neg c1]; rw [if_neg c2]; rw [if_pos c3]; rw [if_neg c4]; rw [if_neg c5]; rw [if_neg c7]; rw [if_neg c8]; rw [if_neg c9]; rw [if_neg c10]; rw [if_neg c11]; rw [if_neg c12]; rw [if_pos c13]
          · exact hS
        by_cases c14 : x1 = 33
        · refine l19 (t := 176) hi_274_21 (by rw [c14]; decide) ?_
          refine l0 hi_274_176 ?_
          refine l33 hi_274_177 ⟨?_, ?_⟩
          · unfold k274; rw [if_neg c1]; rw [if_neg c2]; rw [if_pos c3]; rw [if_neg c4]; rw [if_neg c5]; rw [if_neg c7]; rw [if_neg c8]; rw [if_neg c9]; rw [if_neg c10]; rw [if_neg c11]; rw [if_neg c12]; rw [if_neg c13]; rw [if_pos c14]
          · exact hS
        by_cases c15 : x1 = 34
        · refine l19 (t := 176) hi_274_21 (by rw [c15]; decide) ?_
          refine l0 hi_274_176 ?_
          refine l33 hi_274_177 ⟨?_, ?_⟩
          · unfold k274; rw [if_neg c1]; rw [if_neg c2]; rw [if_pos c3]; rw [if_neg c4]; rw [if_neg c5]; rw [if_neg c7]; rw [if_neg c8]; rw [if_neg c9]; rw [if_neg c10]; rw [if_neg c11]; rw [if_neg c12]; rw [if_neg c13]; rw [if_neg c14]; rw [if_pos c15]
          · exact hS
        by_cases c16 : x1 = 36
        · refine l19 (t := 176) hi_274_21 (by rw [c16]; decide) ?_
          refine l0 hi_274_176 ?_
          refine l33 hi_274_177 ⟨?_, ?_⟩
          · unfold k274; rw [if_neg c1]; rw [if_neg c2]; rw [if_pos c3]; rw [if_neg c4]; rw [if_neg c5]; rw [if_neg c7]; rw [if_neg c8]; rw [if_neg c9]; rw [if_neg c10]; rw [if_neg c11]; rw [if_neg c12]; rw [if_neg c13]; rw [if_neg c14]; rw [if_neg c15]; rw [if_pos c16]
          · exact hS
        by_cases c17 : x1 = 38
        · refine l19 (t := 210) hi_274_21 (by rw [c17]; decide) ?_
          refine l0 hi_274_210 ?_
          refine l33 hi_274_212 ⟨?_, ?_⟩
          · unfold k274; rw [if_neg c1]; rw [if_neg c2]; rw [if_pos c3]; rw [if_neg c4]; rw [if_neg c5]; rw [if_neg c7]; rw [if_neg c8]; rw [if_neg c9]; rw [if_neg c10]; rw [if_neg c11]; rw [if_neg c12]; rw [if_neg c13]; rw [if_neg c14]; rw [if_neg c15]; rw [if_neg c16]; rw [if_pos c17]
          · exact hS
        by_cases c18 : x1 = 39
        · refine l19 (t := 176) hi_274_21 (by rw [c18]; decide) ?_
          refine l0 hi_274_176 ?_
          refine l33 hi_274_177 ⟨?_, ?_⟩
          · unfold k274; rw [if_neg c1]; rw [if_neg c2]; rw [if_pos c3]; rw [if_neg c4]; rw [if_neg c5]; rw [if_neg c7]; rw [if_neg c8]; rw [if_neg c9]; rw [if_neg c10]; rw [if_neg c11]; rw [if_neg c12]; rw [if_neg c13]; rw [if_neg c14]; rw [if_neg c15]; rw [if_neg c16]; rw [if_neg c17]; rw [if_pos c18]
          · exact hS
        by_cases c19 : x1 = 40
        · refine l19 (t := 176) hi_274_21 (by rw [c19]; decide) ?_
          refine l0 hi_274_176 ?_
          refine l33 hi_274_177 ⟨?_, ?_⟩
          · unfold k274; rw [if_neg c1]; rw [if_neg c2]; rw [if_pos c3]; rw [if_neg c4]; rw [if_neg c5]; rw [if_neg c7]; rw [if_neg c8]; rw [if_neg c9]; rw [if_neg c10]; rw [if_neg c11]; rw [if_neg c12]; rw [if_neg c13]; rw [if_neg c14]; rw [if_neg c15]; rw [if_neg c16]; rw [if_neg c17]; rw [if_neg c18]; rw [if_pos c19]
          · exact hS
        by_cases c20 : x1 = 41
        · refine l19 (t := 176) hi_274_21 (by rw [c20]; decide) ?_
          refine l0 hi_274_176 ?_
          refine l33 hi_274_177 ⟨?_, ?_⟩
          · unfold k274; rw [if_neg c1]; rw [if_neg c2]; rw [if_pos c3]; rw [if_neg c4]; rw [if_neg c5]; rw [if_neg c7]; rw [if_neg c8]; rw [if_neg c9]; rw [if_neg c10]; rw [if_neg c11]; rw [if_neg c12]; rw [if_neg c13]; rw [if_neg c14]; rw [if_neg c15]; rw [if_neg c16]; rw [if_neg c17]; rw [if_neg c18]; rw [if_neg c19]; rw [if_pos c20]
          · exact hS
        by_cases c21 : x1 = 42
        · refine l19 (t := 213) hi_274_21 (by rw [c21]; decide) ?_
          refine l0 hi_274_213 ?_
          refine l33 hi_274_215 ⟨?_, ?_⟩
          · unfold k274; rw [if_neg c1]; rw [if_neg c2]; rw [if_pos c3]; rw [if_neg c4]; rw [if_neg c5]; rw [if_neg c7]; rw [if_neg c8]; rw [if_neg c9]; rw [if_neg c10]; rw [if_neg c11]; rw [if_neg c12]; rw [if_neg c13]; rw [if_neg c14]; rw [if_neg c15]; rw [if_neg c16]; rw [if_neg c17]; rw [if_neg c18]; rw [if_neg c19]; rw [if_neg c20]; rw [if_pos c21]
          · exact hS
        by_cases c22 : x1 = 43
        · refine l19 (t := 176) hi_274_21 (by rw [c22]; decide) ?_
          refine l0 hi_274_176 ?_
          refine l33 hi_274_177 ⟨?_, ?_⟩
          · unfold k274; rw [if_neg c1]; rw [if_neg c2]; rw [if_pos c3]; rw [if_neg c4]; rw [if_neg c5]; rw [if_neg c7]; rw [if_neg c8]; rw [if_neg c9]; rw [if_neg c10]; rw [if_neg c11]; rw [if_neg c12]; rw [if_neg c13]; rw [if_neg c14]; rw [if_neg c15]; rw [if_neg c16]; rw [if_neg c17]; rw [if_neg c18]; rw [if_neg c19]; rw [if_neg c20]; rw [if_neg c21]; rw [if_pos c22]
          · exact hS
        by_cases c23 : x1 = 44
        · refine l19 (t := 176) hi_274_21 (by rw [c23]; decide) ?_
          refine l0 hi_274_176 ?_
          refine l33 hi_274_177 ⟨?_, ?_⟩
          · unfold k274; rw [if_neg c1]; rw [if_neg c2]; rw [if_pos c3]; rw [if_neg c4]; rw [if_neg c5]; rw [if_neg c7]; rw [if_neg c8]; rw [if_neg c9]; rw [if_neg c10]; rw [if_neg c11]; rw [if_neg c12]; rw [if_neg c13]; rw [if_neg c14]; rw [if_neg c15]; rw [if_neg c16]; rw [if_neg c17]; rw [if_neg c18]; rw [if_neg c19]; rw [if_neg c20]; rw [if_neg c21]; rw [if_neg c22]; rw [if_pos c23]
          · exact hS
        by_cases c24 : x1 = 45
        · refine l19 (t := 216) hi_274_21 (by rw [c24]; decide) ?_
          refine l1 (v := x2) hi_274_216 rfl ?_
          refine l11 hi_274_217 ?_
          refine l1 (v := x3) hi_274_218 rfl ?_
          refine l10 hi_274_219 ?_
          show am_L _ _ _ _ _ [some (.int x1), some (.int x2), some (.int x3)] [.int ((-x2) - x3)] _ _
          refine l33 hi_274_220 ⟨?_, ?_⟩
          · unfold k274; rw [if_neg c1]; rw [if_neg c2]; rw [if_pos c3]; rw [if_neg c4]; rw [if_neg c5]; rw [if_neg c7]; rw [if_neg c8]; rw [if_neg c9]; rw [if_neg c10]; rw [if_neg c11]; rw [if_neg c12]; rw [if_neg c13]; rw [if_neg c14]; rw [if_neg c15]; rw [if_neg c16]; rw [if_neg c17]; rw [if_neg c18]; rw [if_neg c19]; rw [if_neg c20]; rw [if_neg c21]; rw [if_neg c22]; rw [if_neg c23]; rw [if_pos c24]
          · exact hS
        by_cases c25 : x1 = 46
        · refine l19 (t := 221) hi_274_21 (by rw [c25]; decide) ?_
          refine l1 (v := x2) hi_274_221 rfl ?_
          refine l11 hi_274_222 ?_
          refine l0 hi_274_223 ?_
          refine l10 hi_274_224 ?_
          show am_L _ _ _ _ _ [some (.int x1), some (.int x2), some (.int x3)] [.int ((-x2) - 1)] _ _
          refine l1 (v := x3) hi_274_225 rfl ?_
          refine l10 hi_274_226 ?_
          show am_L _ _ _ _ _ [some (.int x1), some (.int x2), some (.int x3)] [.int (((-x2) - 1) - x3)] _ _
          refine l33 hi_274_227 ⟨?_, ?_⟩
          · unfold k274; rw [if_neg c1]; rw [if_neg c2]; rw [if_pos c3]; rw [if_neg c4]; rw [if_neg c5]; rw [if_neg c7]; rw [if_neg c8]; rw [if_neg c9]; rw [if_neg c10]; rw [if_neg c11]; rw [if_neg c12]; rw [if_neg c13]; rw [if_neg c14]; rw [if_neg c15]; rw [if_neg c16]; rw [if_neg c17]; rw [if_neg c18]; rw [if_neg c19]; rw [if_neg c20]; rw [if_neg c21]; rw [if_neg c22]; rw [if_neg c23]; rw [if_neg c24]; rw [if_pos c25]
          · exact hS
        refine l19 (t := 228) hi_274_21 (sw_not (ks := [12, 13, 17, 18, 21, 25, 26, 27, 28, 33, 34, 36, 38, 39, 40, 41, 42, 43, 44, 45, 46]) (by decide) (by intro k hk; simp only [List.mem_cons, List.not_mem_nil, or_false] at hk; rcases hk with rfl | rfl | rfl | rfl | rfl | rfl | rfl | rfl | rfl | rfl | rfl | rfl | rfl | rfl | rfl | rfl | rfl | rfl | rfl | rfl | rfl <;> first | exact c4 | exact c5 | exact c7 | exact c8 | exact c9 | exact c10 | exact c11 | exact c12 | exact c13 | exact c14 | exact c15 | exact c16 | exact c17 | exact c18 | exact c19 | exact c20 | exact c21 | exact c22 | exact c23 | exact c24 | exact c25)) ?_
        refine l0 hi_274_228 ?_
        refine l33 hi_274_229 ⟨?_, ?_⟩
        · unfold k274; rw [if_neg c1]; rw [if_neg c2]; rw [if_pos c3]; rw [if_neg c4]; rw [if_neg c5]; rw [if_neg c7]; rw [if_neg c8]; rw [if_neg c9]; rw [if_neg c10]; rw [if_neg c11]; rw [if_neg c12]; rw [if_neg c13]; rw [if_neg c14]; rw [if_neg c15]; rw [if_neg c16]; rw [if_neg c17]; rw [if_neg c18]; rw [if_neg c19]; rw [if_neg c20]; rw [if_neg c21]; rw [if_neg c22]; rw [if_neg c23]; rw [if_neg c24]; rw [if_neg c25]
        · exact hS
      · refine l13f hi_274_15 (decide_eq_false c3) ?_
        refine l0 hi_274_18 ?_
        refine l33 hi_274_19 ⟨?_, ?_⟩
        · unfold k274; rw [if_neg c1]; rw [if_neg c2]; rw [if_neg c3]
        · exact hS
def k273b17 (s : kS) (y1 : Int32) (t : Int32 × Int32 × Int32) : Nat × (Int32 × Int32 × Int32) := if (kr s 60 y1) ≤ t.2.2 then (1, (t.1, t.2.1, t.2.2)) else if (t.1 + (k274 s (kr s 70 (kr s 74 ((kr s 61 y1) + t.2.2))) (kr s 71 (kr s 74 ((kr s 61 y1) + t.2.2))) (kr s 72 (kr s 74 ((kr s 61 y1) + t.2.2))))) ≤ t.2.1 then (0, (t.1 + (k274 s (kr s 70 (kr s 74 ((kr s 61 y1) + t.2.2))) (kr s 71 (kr s 74 ((kr s 61 y1) + t.2.2))) (kr s 72 (kr s 74 ((kr s 61 y1) + t.2.2)))), t.2.1, t.2.2 + 1)) else (0, (t.1 + (k274 s (kr s 70 (kr s 74 ((kr s 61 y1) + t.2.2))) (kr s 71 (kr s 74 ((kr s 61 y1) + t.2.2))) (kr s 72 (kr s 74 ((kr s 61 y1) + t.2.2)))), t.1 + (k274 s (kr s 70 (kr s 74 ((kr s 61 y1) + t.2.2))) (kr s 71 (kr s 74 ((kr s 61 y1) + t.2.2))) (kr s 72 (kr s 74 ((kr s 61 y1) + t.2.2)))), t.2.2 + 1))
theorem lb273_17 {sc : Nat × (Nat → Int32)} {d : Nat} {S0 : am_S} {s : kS} {y1 : Int32} {Q : Option (Option Value) → am_S → Prop} : ∀ (N : Nat) (S : am_S) (o5 : Option Value) (t : Int32 × Int32 × Int32), MK S0 S s → (∀ m S1 (p5 : Option Value), (kwh (k273b17 s y1) m t).1 = 1 → MK S0 S1 s → am_L (am_PP sc) N d 273 88 [some (.ref 39), some (.int y1), some (.int ((kwh (k273b17 s y1) m t).2.1)), some (.int ((kwh (k273b17 s y1) m t).2.2.1)), some (.int ((kwh (k273b17 s y1) m t).2.2.2)), p5] [] S1 Q) → am_L (am_PP sc) N d 273 17 [some (.ref 39), some (.int y1), some (.int t.1), some (.int t.2.1), some (.int t.2.2), o5] [] S Q := by
  intro N
  induction N with
  | zero => intros; exact l_zero
  | succ N ih =>
    intro S o5 t hS kx88
    refine l1d (v := t.2.2) hi_273_17 rfl ?_
    refine l2 (v := 39) hi_273_19 rfl ?_
    refine l20 (v := .ref 81) hS hi_273_20 rfl ?_
    refine l1 (v := y1) hi_273_23 rfl ?_
    refine l25 hS ma_60 hi_273_24 fun g1 g2 => ?_
    show am_L _ _ _ _ _ [some (.ref 39), some (.int y1), some (.int t.1), some (.int t.2.1), some (.int t.2.2), o5] [.int (kr s 60 y1), .int t.2.2] _ _
    by_cases c3 : (kr s 60 y1) ≤ t.2.2
    · refine l13t hi_273_25 (decide_eq_true c3) ?_
      have e0 : (k273b17 s y1) t = (1, (t.1, t.2.1, t.2.2)) := by unfold k273b17; rw [if_pos c3]
      have e1 : kwh (k273b17 s y1) 1 t = (1, (t.1, t.2.1, t.2.2)) := by rw [kwh_out (by rw [e0]; exact Nat.succ_ne_zero _), e0]
      have q := kx88 1 _ o5 (by rw [e1]) (by exact hS)
      try rw [e1] at q
      exact q.less (Nat.le_succ N)
    · refine l13f hi_273_25 (decide_eq_false c3) ?_
      refine l2 (v := 39) hi_273_28 rfl ?_
      refine l20 (v := .ref 93) hS hi_273_29 rfl ?_
      refine l2 (v := 39) hi_273_32 rfl ?_
      refine l20 (v := .ref 82) hS hi_273_33 rfl ?_
      refine l1 (v := y1) hi_273_36 rfl ?_
      refine l25 hS ma_61 hi_273_37 fun g4 g5 => ?_
      show am_L _ _ _ _ _ [some (.ref 39), some (.int y1), some (.int t.1), some (.int t.2.1), some (.int t.2.2), o5] [.int (kr s 61 y1), .ref 93] _ _
      refine l1 (v := t.2.2) hi_273_38 rfl ?_
      refine l10 hi_273_40 ?_
      show am_L _ _ _ _ _ [some (.ref 39), some (.int y1), some (.int t.1), some (.int t.2.1), some (.int t.2.2), o5] [.int ((kr s 61 y1) + t.2.2), .ref 93] _ _
      refine l25 hS ma_74 hi_273_41 fun g6 g7 => ?_
      show am_L _ _ _ _ _ [some (.ref 39), some (.int y1), some (.int t.1), some (.int t.2.1), some (.int t.2.2), o5] [.int (kr s 74 ((kr s 61 y1) + t.2.2))] _ _
      refine l3 (ls' := [some (.ref 39), some (.int y1), some (.int t.1), some (.int t.2.1), some (.int t.2.2), some (.int (kr s 74 ((kr s 61 y1) + t.2.2)))]) hi_273_42 (Nat.le_of_ble_eq_true rfl) rfl ?_
      refine l1 (v := t.1) hi_273_44 rfl ?_
      refine l2 (v := 39) hi_273_45 rfl ?_
      refine l20 (v := .ref 89) hS hi_273_46 rfl ?_
      refine l1 (v := kr s 74 ((kr s 61 y1) + t.2.2)) hi_273_49 rfl ?_
      refine l25 hS ma_70 hi_273_51 fun g8 g9 => ?_
      show am_L _ _ _ _ _ [some (.ref 39), some (.int y1), some (.int t.1), some (.int t.2.1), some (.int t.2.2), some (.int (kr s 74 ((kr s 61 y1) + t.2.2)))] [.int (kr s 70 (kr s 74 ((kr s 61 y1) + t.2.2))), .int t.1] _ _
      refine l2 (v := 39) hi_273_52 rfl ?_
      refine l20 (v := .ref 90) hS hi_273_53 rfl ?_
      refine l1 (v := kr s 74 ((kr s 61 y1) + t.2.2)) hi_273_56 rfl ?_
      refine l25 hS ma_71 hi_273_58 fun g10 g11 => ?_
      show am_L _ _ _ _ _ [some (.ref 39), some (.int y1), some (.int t.1), some (.int t.2.1), some (.int t.2.2), some (.int (kr s 74 ((kr s 61 y1) + t.2.2)))] [.int (kr s 71 (kr s 74 ((kr s 61 y1) + t.2.2))), .int (kr s 70 (kr s 74 ((kr s 61 y1) + t.2.2))), .int t.1] _ _
      refine l2 (v := 39) hi_273_59 rfl ?_
      refine l20 (v := .ref 91) hS hi_273_60 rfl ?_
      refine l1 (v := kr s 74 ((kr s 61 y1) + t.2.2)) hi_273_63 rfl ?_
      refine l25 hS ma_72 hi_273_65 fun g12 g13 => ?_
      show am_L _ _ _ _ _ [some (.ref 39), some (.int y1), some (.int t.1), some (.int t.2.1), some (.int t.2.2), some (.int (kr s 74 ((kr s 61 y1) + t.2.2)))] [.int (kr s 72 (kr s 74 ((kr s 61 y1) + t.2.2))), .int (kr s 71 (kr s 74 ((kr s 61 y1) + t.2.2))), .int (kr s 70 (kr s 74 ((kr s 61 y1) + t.2.2))), .int t.1] _ _
      refine l32 (as := [.int (kr s 70 (kr s 74 ((kr s 61 y1) + t.2.2))), .int (kr s 71 (kr s 74 ((kr s 61 y1) + t.2.2))), .int (kr s 72 (kr s 74 ((kr s 61 y1) + t.2.2)))]) (la := [some (.int (kr s 70 (kr s 74 ((kr s 61 y1) + t.2.2)))), some (.int (kr s 71 (kr s 74 ((kr s 61 y1) + t.2.2)))), some (.int (kr s 72 (kr s 74 ((kr s 61 y1) + t.2.2))))]) (rest := [.int t.1]) hi_273_66 (am_hd0 (M := 273) (by decide) 66) rfl rfl rfl (fun N' d' _ => lt274 (N := N') (d := d') hS) ?_ (fun _ q => nomatch q.1)
      rintro v16 S14 ⟨ev16, h15⟩
      cases ev16
      show am_L _ _ _ _ _ [some (.ref 39), some (.int y1), some (.int t.1), some (.int t.2.1), some (.int t.2.2), some (.int (kr s 74 ((kr s 61 y1) + t.2.2)))] [.int (k274 s (kr s 70 (kr s 74 ((kr s 61 y1) + t.2.2))) (kr s 71 (kr s 74 ((kr s 61 y1) + t.2.2))) (kr s 72 (kr s 74 ((kr s 61 y1) + t.2.2)))), .int t.1] _ _
      refine l10 hi_273_69 ?_
      show am_L _ _ _ _ _ [some (.ref 39), some (.int y1), some (.int t.1), some (.int t.2.1), some (.int t.2.2), some (.int (kr s 74 ((kr s 61 y1) + t.2.2)))] [.int (t.1 + (k274 s (kr s 70 (kr s 74 ((kr s 61 y1) + t.2.2))) (kr s 71 (kr s 74 ((kr s 61 y1) + t.2.2))) (kr s 72 (kr s 74 ((kr s 61 y1) + t.2.2)))))] _ _
      refine l3 (ls' := [some (.ref 39), some (.int y1), some (.int (t.1 + (k274 s (kr s 70 (kr s 74 ((kr s 61 y1) + t.2.2))) (kr s 71 (kr s 74 ((kr s 61 y1) + t.2.2))) (kr s 72 (kr s 74 ((kr s 61 y1) + t.2.2)))))), some (.int t.2.1), some (.int t.2.2), some (.int (kr s 74 ((kr s 61 y1) + t.2.2)))]) hi_273_70 (Nat.le_of_ble_eq_true rfl) rfl ?_
      refine l1 (v := t.1 + (k274 s (kr s 70 (kr s 74 ((kr s 61 y1) + t.2.2))) (kr s 71 (kr s 74 ((kr s 61 y1) + t.2.2))) (kr s 72 (kr s 74 ((kr s 61 y1) + t.2.2))))) hi_273_71 rfl ?_
      refine l1 (v := t.2.1) hi_273_72 rfl ?_
      by_cases c17 : (t.1 + (k274 s (kr s 70 (kr s 74 ((kr s 61 y1) + t.2.2))) (kr s 71 (kr s 74 ((kr s 61 y1) + t.2.2))) (kr s 72 (kr s 74 ((kr s 61 y1) + t.2.2))))) ≤ t.2.1
      · refine l13t hi_273_73 (decide_eq_true c17) ?_
        refine l1 (v := t.2.1) hi_273_80 rfl ?_
        refine l3 (ls' := [some (.ref 39), some (.int y1), some (.int (t.1 + (k274 s (kr s 70 (kr s 74 ((kr s 61 y1) + t.2.2))) (kr s 71 (kr s 74 ((kr s 61 y1) + t.2.2))) (kr s 72 (kr s 74 ((kr s 61 y1) + t.2.2)))))), some (.int t.2.1), some (.int t.2.2), some (.int (kr s 74 ((kr s 61 y1) + t.2.2)))]) hi_273_81 (Nat.le_of_ble_eq_true rfl) rfl ?_
        refine l5 (v := t.2.2) (ls' := [some (.ref 39), some (.int y1), some (.int (t.1 + (k274 s (kr s 70 (kr s 74 ((kr s 61 y1) + t.2.2))) (kr s 71 (kr s 74 ((kr s 61 y1) + t.2.2))) (kr s 72 (kr s 74 ((kr s 61 y1) + t.2.2)))))), some (.int t.2.1), some (.int (t.2.2 + 1)), some (.int (kr s 74 ((kr s 61 y1) + t.2.2)))]) hi_273_82 rfl rfl ?_
        refine l18 hi_273_85 ?_
        have e0 : (k273b17 s y1) t = (0, (t.1 + (k274 s (kr s 70 (kr s 74 ((kr s 61 y1) + t.2.2))) (kr s 71 (kr s 74 ((kr s 61 y1) + t.2.2))) (kr s 72 (kr s 74 ((kr s 61 y1) + t.2.2)))), t.2.1, t.2.2 + 1)) := by unfold k273b17; rw [if_neg c3]; rw [if_pos c17]
        have e1 : ∀ m, kwh (k273b17 s y1) (m + 1) t = kwh (k273b17 s y1) m (t.1 + (k274 s (kr s 70 (kr s 74 ((kr s 61 y1) + t.2.2))) (kr s 71 (kr s 74 ((kr s 61 y1) + t.2.2))) (kr s 72 (kr s 74 ((kr s 61 y1) + t.2.2)))), t.2.1, t.2.2 + 1) := fun m => by rw [kwh_go (by rw [e0]), e0]
        exact ih _ (some (.int (kr s 74 ((kr s 61 y1) + t.2.2)))) (t.1 + (k274 s (kr s 70 (kr s 74 ((kr s 61 y1) + t.2.2))) (kr s 71 (kr s 74 ((kr s 61 y1) + t.2.2))) (kr s 72 (kr s 74 ((kr s 61 y1) + t.2.2)))), t.2.1, t.2.2 + 1) h15 (fun m S1 p5 hm h1 => by have q := kx88 (m + 1) S1 p5 (by rw [e1]; exact hm) (by exact h1); (try rw [e1] at q); exact q.less (Nat.le_succ N))
      · refine l13f hi_273_73 (decide_eq_false c17) ?_
        refine l1 (v := t.1 + (k274 s (kr s 70 (kr s 74 ((kr s 61 y1) + t.2.2))) (kr s 71 (kr s 74 ((kr s 61 y1) + t.2.2))) (kr s 72 (kr s 74 ((kr s 61 y1) + t.2.2))))) hi_273_76 rfl ?_
        refine l18 hi_273_77 ?_
        refine l3 (ls' := [some (.ref 39), some (.int y1), some (.int (t.1 + (k274 s (kr s 70 (kr s 74 ((kr s 61 y1) + t.2.2))) (kr s 71 (kr s 74 ((kr s 61 y1) + t.2.2))) (kr s 72 (kr s 74 ((kr s 61 y1) + t.2.2)))))), some (.int (t.1 + (k274 s (kr s 70 (kr s 74 ((kr s 61 y1) + t.2.2))) (kr s 71 (kr s 74 ((kr s 61 y1) + t.2.2))) (kr s 72 (kr s 74 ((kr s 61 y1) + t.2.2)))))), some (.int t.2.2), some (.int (kr s 74 ((kr s 61 y1) + t.2.2)))]) hi_273_81 (Nat.le_of_ble_eq_true rfl) rfl ?_
        refine l5 (v := t.2.2) (ls' := [some (.ref 39), some (.int y1), some (.int (t.1 + (k274 s (kr s 70 (kr s 74 ((kr s 61 y1) + t.2.2))) (kr s 71 (kr s 74 ((kr s 61 y1) + t.2.2))) (kr s 72 (kr s 74 ((kr s 61 y1) + t.2.2)))))), some (.int (t.1 + (k274 s (kr s 70 (kr s 74 ((kr s 61 y1) + t.2.2))) (kr s 71 (kr s 74 ((kr s 61 y1) + t.2.2))) (kr s 72 (kr s 74 ((kr s 61 y1) + t.2.2)))))), some (.int (t.2.2 + 1)), some (.int (kr s 74 ((kr s 61 y1) + t.2.2)))]) hi_273_82 rfl rfl ?_
        refine l18 hi_273_85 ?_
        have e0 : (k273b17 s y1) t = (0, (t.1 + (k274 s (kr s 70 (kr s 74 ((kr s 61 y1) + t.2.2))) (kr s 71 (kr s 74 ((kr s 61 y1) + t.2.2))) (kr s 72 (kr s 74 ((kr s 61 y1) + t.2.2)))), t.1 + (k274 s (kr s 70 (kr s 74 ((kr s 61 y1) + t.2.2))) (kr s 71 (kr s 74 ((kr s 61 y1) + t.2.2))) (kr s 72 (kr s 74 ((kr s 61 y1) + t.2.2)))), t.2.2 + 1)) := by unfold k273b17; rw [if_neg c3]; rw [if_neg c17]
        have e1 : ∀ m, kwh (k273b17 s y1) (m + 1) t = kwh (k273b17 s y1) m (t.1 + (k274 s (kr s 70 (kr s 74 ((kr s 61 y1) + t.2.2))) (kr s 71 (kr s 74 ((kr s 61 y1) + t.2.2))) (kr s 72 (kr s 74 ((kr s 61 y1) + t.2.2)))), t.1 + (k274 s (kr s 70 (kr s 74 ((kr s 61 y1) + t.2.2))) (kr s 71 (kr s 74 ((kr s 61 y1) + t.2.2))) (kr s 72 (kr s 74 ((kr s 61 y1) + t.2.2)))), t.2.2 + 1) := fun m => by rw [kwh_go (by rw [e0]), e0]
        exact ih _ (some (.int (kr s 74 ((kr s 61 y1) + t.2.2)))) (t.1 + (k274 s (kr s 70 (kr s 74 ((kr s 61 y1) + t.2.2))) (kr s 71 (kr s 74 ((kr s 61 y1) + t.2.2))) (kr s 72 (kr s 74 ((kr s 61 y1) + t.2.2)))), t.1 + (k274 s (kr s 70 (kr s 74 ((kr s 61 y1) + t.2.2))) (kr s 71 (kr s 74 ((kr s 61 y1) + t.2.2))) (kr s 72 (kr s 74 ((kr s 61 y1) + t.2.2)))), t.2.2 + 1) h15 (fun m S1 p5 hm h1 => by have q := kx88 (m + 1) S1 p5 (by rw [e1]; exact hm) (by exact h1); (try rw [e1] at q); exact q.less (Nat.le_succ N))
/-- depth(I)I -/
noncomputable def k273 (s : kS) (x1 : Int32) : Int32 := if (k270 s x1) ≠ 0 then (kfin (k273b17 s x1) (0, 0, 0)).2.2.1 else (-1)
theorem lt273 {sc : Nat × (Nat → Int32)} {N d : Nat} {S0 S : am_S} {s : kS} {x1 : Int32} (hS : MK S0 S s) : am_L (am_PP sc) N d 273 0 [some (.ref 39), some (.int x1), none, none, none, none] [] S (fun o S1 => o = some (some (.int (k273 s x1))) ∧ MK S0 S1 s) := by
  refine l2 (v := 39) hi_273_0 rfl ?_
  refine l1 (v := x1) hi_273_1 rfl ?_
  refine l32 (as := [.ref 39, .int x1]) (la := [some (.ref 39), some (.int x1)]) (rest := []) hi_273_2 (am_hd0 (M := 273) (by decide) 2) rfl rfl rfl (fun N' d' _ => lt270 (N := N') (d := d') hS) ?_ (fun _ q => nomatch q.1)
  rintro v3 S1 ⟨ev3, h2⟩
  cases ev3
  show am_L _ _ _ _ _ [some (.ref 39), some (.int x1), none, none, none, none] [.int (k270 s x1)] _ _
  by_cases c4 : (k270 s x1) ≠ 0
  · refine l12t hi_273_5 (decide_eq_true c4) ?_
    refine l0 hi_273_10 ?_
    refine l3 (ls' := [some (.ref 39), some (.int x1), some (.int 0), none, none, none]) hi_273_11 (Nat.le_of_ble_eq_true rfl) rfl ?_
    refine l0 hi_273_12 ?_
    refine l3 (ls' := [some (.ref 39), some (.int x1), some (.int 0), some (.int 0), none, none]) hi_273_13 (Nat.le_of_ble_eq_true rfl) rfl ?_
    refine l0 hi_273_14 ?_
    refine l3 (ls' := [some (.ref 39), some (.int x1), some (.int 0), some (.int 0), some (.int 0), none]) hi_273_15 (Nat.le_of_ble_eq_true rfl) rfl ?_
    refine lb273_17 N _ none (0, 0, 0) h2 ?_
    · intro m5 S6 p10 hm7 h8
      have hf9 : kfin (k273b17 s x1) (0, 0, 0) = kwh (k273b17 s x1) m5 (0, 0, 0) := kfin_eq (by rw [hm7]; decide)
      rw [← hf9] at hm7
      try rw [← hf9]
      refine l1 (v := (kfin (k273b17 s x1) (0, 0, 0)).2.2.1) hi_273_88 rfl ?_
      refine l33 hi_273_89 ⟨?_, ?_⟩
      · unfold k273; rw [if_pos c4]
      · exact h8
  · refine l12f hi_273_5 (decide_eq_false c4) ?_
    refine l0 hi_273_8 ?_
    refine l33 hi_273_9 ⟨?_, ?_⟩
    · unfold k273; rw [if_neg c4]
    · exact h2
/-- isIn(III)Z -/
def k277 (s : kS) (x1 : Int32) (x2 : Int32) (x3 : Int32) : Int32 := if x1 < x2 then 0 else if x3 ≤ x1 then 0 else 1
theorem lt277 {sc : Nat × (Nat → Int32)} {N d : Nat} {S0 S : am_S} {s : kS} {x1 : Int32} {x2 : Int32} {x3 : Int32} (hS : MK S0 S s) : am_L (am_PP sc) N d 277 0 [some (.int x1), some (.int x2), some (.int x3)] [] S (fun o S1 => o = some (some (.int (k277 s x1 x2 x3))) ∧ MK S0 S1 s) := by
  refine l1 (v := x1) hi_277_0 rfl ?_
  refine l1 (v := x2) hi_277_1 rfl ?_
  by_cases c1 : x1 < x2
  · refine l13t hi_277_2 (decide_eq_true c1) ?_
    refine l0 hi_277_14 ?_
    refine l36 hi_277_15 fun _ => ⟨?_, ?_⟩
    · unfold k277; rw [if_pos c1]
    · exact hS
  · refine l13f hi_277_2 (decide_eq_false c1) ?_
    refine l1 (v := x1) hi_277_5 rfl ?_
    refine l1 (v := x3) hi_277_6 rfl ?_
    by_cases c2 : x3 ≤ x1
    · refine l13t hi_277_7 (decide_eq_true c2) ?_
      refine l0 hi_277_14 ?_
      refine l36 hi_277_15 fun _ => ⟨?_, ?_⟩
      · unfold k277; rw [if_neg c1]; rw [if_pos c2]
      · exact hS
    · refine l13f hi_277_7 (decide_eq_false c2) ?_
      refine l0 hi_277_10 ?_
      refine l18 hi_277_11 ?_
      refine l36 hi_277_15 fun _ => ⟨?_, ?_⟩
      · unfold k277; rw [if_neg c1]; rw [if_neg c2]
      · exact hS
/-- isRight(IIII)Z -/
def k276 (s : kS) (x1 : Int32) (x2 : Int32) (x3 : Int32) (x4 : Int32) : Int32 := if x2 = 7 then (if (k270 s x3) = 0 then 0 else if (kr s 54 x3) ≠ x1 then 0 else 1) else if x2 = 8 then (k277 s x3 0 (kr s 58 x1)) else if x2 = 9 then (k277 s x3 0 (kr s 67 x1)) else if x2 = 15 then (k277 s x3 0 (kr s 60 x1)) else if x2 = 16 then (k277 s x3 0 (kr s 60 x1)) else if x2 = 27 then (if x3 < 0 then 0 else if (kr s 58 x1) < (x3 + x4) then 0 else 1) else if x2 = 28 then (k277 s x3 0 (kr s 58 x1)) else if x2 = 29 then (k277 s x3 0 (kr s 58 x1)) else if x2 = 30 then (k277 s x3 0 (kr s 67 x1)) else if x2 = 33 then (k277 s x3 0 ((kr s 58 x1) + 1)) else if x2 = 35 then (k277 s x3 0 (kr s 60 x1)) else if x2 = 36 then (k277 s x3 0 (kr s 60 x1)) else if x2 = 37 then (k277 s x3 0 (kr s 60 x1)) else if x2 = 38 then (if (k277 s x3 0 (kr s 58 x1)) = 0 then 0 else if (k277 s x4 0 (kr s 60 x1)) = 0 then 0 else 1) else if x2 = 39 then (k277 s x3 0 ((kr s 58 x1) - 3)) else if x2 = 40 then (if (k277 s x3 0 (kr s 58 x1)) = 0 then 0 else if (k277 s x4 0 (kr s 60 x1)) = 0 then 0 else 1) else if x2 = 41 then (k277 s x3 0 (kr s 58 x1)) else if x2 = 42 then (k277 s x3 0 ((kr s 58 x1) - 3)) else if x2 = 43 then (k277 s x3 0 (((kr s 58 x1) - 3) - x4)) else if x2 = 44 then (if (k277 s x3 0 ((kr s 58 x1) - 4)) = 0 then 0 else if (k277 s x4 0 (kr s 60 x1)) = 0 then 0 else 1) else 1
theorem lt276 {sc : Nat × (Nat → Int32)} {N d : Nat} {S0 S : am_S} {s : kS} {x1 : Int32} {x2 : Int32} {x3 : Int32} {x4 : Int32} (hS : MK S0 S s) : am_L (am_PP sc) N d 276 0 [some (.ref 39), some (.int x1), some (.int x2), some (.int x3), some (.int x4), none] [] S (fun o S1 => o = some (some (.int (k276 s x1 x2 x3 x4))) ∧ MK S0 S1 s) := by
  refine l2 (v := 39) hi_276_0 rfl ?_
  refine l20 (v := .ref 79) hS hi_276_1 rfl ?_
  refine l1 (v := x1) hi_276_4 rfl ?_
  refine l25 hS ma_58 hi_276_5 fun g1 g2 => ?_
  show am_L _ _ _ _ _ [some (.ref 39), some (.int x1), some (.int x2), some (.int x3), some (.int x4), none] [.int (kr s 58 x1)] _ _
  refine l3 (ls' := [some (.ref 39), some (.int x1), some (.int x2), some (.int x3), some (.int x4), some (.int (kr s 58 x1))]) hi_276_6 (Nat.le_of_ble_eq_true rfl) rfl ?_
  refine l1 (v := x2) hi_276_8 rfl ?_
  by_cases c3 : x2 = 7
  · refine l19 (t := 334) hi_276_9 (by rw [c3]; decide) ?_
    refine l2 (v := 39) hi_276_334 rfl ?_
    refine l1 (v := x3) hi_276_335 rfl ?_
    refine l32 (as := [.ref 39, .int x3]) (la := [some (.ref 39), some (.int x3)]) (rest := []) hi_276_336 (am_hd0 (M := 276) (by decide) 336) rfl rfl rfl (fun N' d' _ => lt270 (N := N') (d := d') hS) ?_ (fun _ q => nomatch q.1)
    rintro v6 S4 ⟨ev6, h5⟩
    cases ev6
    show am_L _ _ _ _ _ [some (.ref 39), some (.int x1), some (.int x2), some (.int x3), some (.int x4), some (.int (kr s 58 x1))] [.int (k270 s x3)] _ _
    by_cases c7 : (k270 s x3) = 0
    · refine l12t hi_276_339 (decide_eq_true c7) ?_
      refine l0 hi_276_356 ?_
      refine l36 hi_276_357 fun _ => ⟨?_, ?_⟩
      · unfold k276; rw [if_pos c3]; rw [if_pos c7]
      · exact h5
    · refine l12f hi_276_339 (decide_eq_false c7) ?_
      refine l2 (v := 39) hi_276_342 rfl ?_
      refine l20 (v := .ref 75) h5 hi_276_343 rfl ?_
      refine l1 (v := x3) hi_276_346 rfl ?_
      refine l25 h5 ma_54 hi_276_347 fun g8 g9 => ?_
      show am_L _ _ _ _ _ [some (.ref 39), some (.int x1), some (.int x2), some (.int x3), some (.int x4), some (.int (kr s 58 x1))] [.int (kr s 54 x3)] _ _
      refine l1 (v := x1) hi_276_348 rfl ?_
      by_cases c10 : (kr s 54 x3) ≠ x1
      · refine l13t hi_276_349 (decide_eq_true c10) ?_
        refine l0 hi_276_356 ?_
        refine l36 hi_276_357 fun _ => ⟨?_, ?_⟩
        · unfold k276; rw [if_pos c3]; rw [if_neg c7]; rw [if_pos c10]
        · exact h5
      · refine l13f hi_276_349 (decide_eq_false c10) ?_
        refine l0 hi_276_352 ?_
        refine l18 hi_276_353 ?_
        refine l36 hi_276_357 fun _ => ⟨?_, ?_⟩
        · unfold k276; rw [if_pos c3]; rw [if_neg c7]; rw [if_neg c10]
        · exact h5
  by_cases c11 : x2 = 8
  · refine l19 (t := 188) hi_276_9 (by rw [c11]; decide) ?_
    refine l1 (v := x3) hi_276_188 rfl ?_
    refine l0 hi_276_189 ?_
    refine l1 (v := kr s 58 x1) hi_276_190 rfl ?_
    refine l32 (as := [.int x3, .int 0, .int (kr s 58 x1)]) (la := [some (.int x3), some (.int 0), some (.int (kr s 58 x1))]) (rest := []) hi_276_192 (am_hd0 (M := 276) (by decide) 192) rfl rfl rfl (fun N' d' _ => lt277 (N := N') (d := d') hS) ?_ (fun _ q => nomatch q.1)
    rintro v14 S12 ⟨ev14, h13⟩
    cases ev14
    show am_L _ _ _ _ _ [some (.ref 39), some (.int x1), some (.int x2), some (.int x3), some (.int x4), some (.int (kr s 58 x1))] [.int (k277 s x3 0 (kr s 58 x1))] _ _
    refine l36 hi_276_195 fun _ => ⟨?_, ?_⟩
    · unfold k276; rw [if_neg c3]; rw [if_pos c11]
    · exact h13
  by_cases c15 : x2 = 9
  · refine l19 (t := 322) hi_276_9 (by rw [c15]; decide) ?_
    refine l1 (v := x3) hi_276_322 rfl ?_
    refine l0 hi_276_323 ?_
    refine l2 (v := 39) hi_276_324 rfl ?_
    refine l20 (v := .ref 87) hS hi_276_325 rfl ?_
    refine l1 (v := x1) hi_276_328 rfl ?_
    refine l25 hS ma_67 hi_276_329 fun g16 g17 => ?_
    show am_L _ _ _ _ _ [some (.ref 39), some (.int x1), some (.int x2), some (.int x3), some (.int x4), some (.int (kr s 58 x1))] [.int (kr s 67 x1), .int 0, .int x3] _ _
    refine l32 (as := [.int x3, .int 0, .int (kr s 67 x1)]) (la := [some (.int x3), some (.int 0), some (.int (kr s 67 x1))]) (rest := []) hi_276_330 (am_hd0 (M := 276) (by decide) 330) rfl rfl rfl (fun N' d' _ => lt277 (N := N') (d := d') hS) ?_ (fun _ q => nomatch q.1)
    rintro v20 S18 ⟨ev20, h19⟩
    cases ev20
    show am_L _ _ _ _ _ [some (.ref 39), some (.int x1), some (.int x2), some (.int x3), some (.int x4), some (.int (kr s 58 x1))] [.int (k277 s x3 0 (kr s 67 x1))] _ _
    refine l36 hi_276_333 fun _ => ⟨?_, ?_⟩
    · unfold k276; rw [if_neg c3]; rw [if_neg c11]; rw [if_pos c15]
    · exact h19
  by_cases c21 : x2 = 15
  · refine l19 (t := 176) hi_276_9 (by rw [c21]; decide) ?_
    refine l1 (v := x3) hi_276_176 rfl ?_
    refine l0 hi_276_177 ?_
    refine l2 (v := 39) hi_276_178 rfl ?_
    refine l20 (v := .ref 81) hS hi_276_179 rfl ?_
    refine l1 (v := x1) hi_276_182 rfl ?_
    refine l25 hS ma_60 hi_276_183 fun g22 g23 => ?_
    show am_L _ _ _ _ _ [some (.ref 39), some (.int x1), some (.int x2), some (.int x3), some (.int x4), some (.int (kr s 58 x1))] [.int (kr s 60 x1), .int 0, .int x3] _ _
    refine l32 (as := [.int x3, .int 0, .int (kr s 60 x1)]) (la := [some (.int x3), some (.int 0), some (.int (kr s 60 x1))]) (rest := []) hi_276_184 (am_hd0 (M := 276) (by decide) 184) rfl rfl rfl (fun N' d' _ => lt277 (N := N') (d := d') hS) ?_ (fun _ q => nomatch q.1)
    rintro v26 S24 ⟨ev26, h25⟩
    cases ev26
    show am_L _ _ _ _ _ [some (.ref 39), some (.int x1), some (.int x2), some (.int x3), some (.int x4), some (.int (kr s 58 x1))] [.int (k277 s x3 0 (kr s 60 x1))] _ _
    refine l36 hi_276_187 fun _ => ⟨?_, ?_⟩
    · unfold k276; rw [if_neg c3]; rw [if_neg c11]; rw [if_neg c15]; rw [if_pos c21]
    · exact h25
  by_cases c27 : x2 = 16
  · refine l19 (t := 176) hi_276_9 (by rw [c27]; decide) ?_
    refine l1 (v := x3) hi_276_176 rfl ?_
    refine l0 hi_276_177 ?_
    refine l2 (v := 39) hi_276_178 rfl ?_
    refine l20 (v := .ref 81) hS hi_276_179 rfl ?_
    refine l1 (v := x1) hi_276_182 rfl ?_
    refine l25 hS ma_60 hi_276_183 fun g28 g29 => ?_
    show am_L _ _ _ _ _ [some (.ref 39), some (.int x1), some (.int x2), some (.int x3), some (.int x4), some (.int (kr s 58 x1))] [.int (kr s 60 x1), .int 0, .int x3] _ _
    refine l32 (as := [.int x3, .int 0, .int (kr s 60 x1)]) (la := [some (.int x3), some (.int 0), some (.int (kr s 60 x1))]) (rest := []) hi_276_184 (am_hd0 (M := 276) (by decide) 184) rfl rfl rfl (fun N' d' _ => lt277 (N := N') (d := d') hS) ?_ (fun _ q => nomatch q.1)
    rintro v32 S30 ⟨ev32, h31⟩
    cases ev32
    show am_L _ _ _ _ _ [some (.ref 39), some (.int x1), some (.int x2), some (.int x3), some (.int x4), some (.int (kr s 58 x1))] [.int (k277 s x3 0 (kr s 60 x1))] _ _
    refine l36 hi_276_187 fun _ => ⟨?_, ?_⟩
    · unfold k276; rw [if_neg c3]; rw [if_neg c11]; rw [if_neg c15]; rw [if_neg c21]; rw [if_pos c27]
    · exact h31
  by_cases c33 : x2 = 27
  · refine l19 (t := 293) hi_276_9 (by rw [c33]; decide) ?_
    refine l1 (v := x3) hi_276_293 rfl ?_
    by_cases c34 : x3 < 0
    · refine l12t hi_276_294 (decide_eq_true c34) ?_
      refine l0 hi_276_310 ?_
      refine l36 hi_276_311 fun _ => ⟨?_, ?_⟩
      · unfold k276; rw [if_neg c3]; rw [if_neg c11]; rw [if_neg c15]; rw [if_neg c21]; rw [if_neg c27]; rw [if_pos c33]; rw [if_pos c34]
      · exact hS
    · refine l12f hi_276_294 (decide_eq_false c34) ?_
      refine l1 (v := x3) hi_276_297 rfl ?_
      refine l1 (v := x4) hi_276_298 rfl ?_
      refine l10 hi_276_300 ?_
      show am_L _ _ _ _ _ [some (.ref 39), some (.int x1), some (.int x2), some (.int x3), some (.int x4), some (.int (kr s 58 x1))] [.int (x3 + x4)] _ _
      refine l1 (v := kr s 58 x1) hi_276_301 rfl ?_
      by_cases c35 : (kr s 58 x1) < (x3 + x4)
      · refine l13t hi_276_303 (decide_eq_true c35) ?_
        refine l0 hi_276_310 ?_
        refine l36 hi_276_311 fun _ => ⟨?_, ?_⟩
        · unfold k276; rw [if_neg c3]; rw [if_neg c11]; rw [if_neg c15]; rw [if_neg c21]; rw [if_neg c27]; rw [if_pos c33]; rw [if_neg c34]; rw [if_pos c35]
        · exact hS
      · refine l13f hi_276_303 (decide_eq_false c35) ?_
        refine l0 hi_276_306 ?_
        refine l18 hi_276_307 ?_
        refine l36 hi_276_311 fun _ => ⟨?_, ?_⟩
        · unfold k276; rw [if_neg c3]; rw [if_neg c11]; rw [if_neg c15]; rw [if_neg c21]; rw [if_neg c27]; rw [if_pos c33]; rw [if_neg c34]; rw [if_neg c35]
        · exact hS
  by_cases c36 : x2 = 28
  · refine l19 (t := 188) hi_276_9 (by rw [c36]; decide) ?_
    refine l1 (v := x3) hi_276_188 rfl ?_
    refine l0 hi_276_189 ?_
    refine l1 (v := kr s 58 x1) hi_276_190 rfl ?_
    refine l32 (as := [.int x3, .int 0, .int (kr s 58 x1)]) (la := [some (.int x3), some (.int 0), some (.int (kr s 58 x1))]) (rest := []) hi_276_192 (am_hd0 (M := 276) (by decide) 192) rfl rfl rfl (fun N' d' _ => lt277 (N := N') (d := d') hS) ?_ (fun _ q => nomatch q.1)
    rintro v39 S37 ⟨ev39, h38⟩
    cases ev39
    show am_L _ _ _ _ _ [some (.ref 39), some (.int x1), some (.int x2), some (.int x3), some (.int x4), some (.int (kr s 58 x1))] [.int (k277 s x3 0 (kr s 58 x1))] _ _
    refine l36 hi_276_195 fun _ => ⟨?_, ?_⟩
    · unfold k276; rw [if_neg c3]; rw [if_neg c11]; rw [if_neg c15]; rw [if_neg c21]; rw [if_neg c27]; rw [if_neg c33]; rw [if_pos c36]
    · exact h38
  by_cases c40 : x2 = 29
  · refine l19 (t := 188) hi_276_9 (by rw [c40]; decide) ?_
    refine l1 (v := x3) hi_276_188 rfl ?_
    refine l0 hi_276_189 ?_
    refine l1 (v := kr s 58 x1) hi_276_190 rfl ?_
    refine l32 (as := [.int x3, .int 0, .int (kr s 58 x1)]) (la := [some (.int x3), some (.int 0), some (.int (kr s 58 x1))]) (rest := []) hi_276_192 (am_hd0 (M := 276) (by decide) 192) rfl rfl rfl (fun N' d' _ => lt277 (N := N') (d := d') hS) ?_ (fun _ q => nomatch q.1)
    rintro v43 S41 ⟨ev43, h42⟩
    cases ev43
    show am_L _ _ _ _ _ [some (.ref 39), some (.int x1), some (.int x2), some (.int x3), some (.int x4), some (.int (kr s 58 x1))] [.int (k277 s x3 0 (kr s 58 x1))] _ _
    refine l36 hi_276_195 fun _ => ⟨?_, ?_⟩
    · unfold k276; rw [if_neg c3]; rw [if_neg c11]; rw [if_neg c15]; rw [if_neg c21]; rw [if_neg c27]; rw [if_neg c33]; rw [if_neg c36]; rw [if_pos c40]
    · exact h42
  by_cases c44 : x2 = 30
  · refine l19 (t := 322) hi_276_9 (by rw [c44]; decide) ?_
    refine l1 (v := x3) hi_276_322 rfl ?_
    refine l0 hi_276_323 ?_
    refine l2 (v := 39) hi_276_324 rfl ?_
    refine l20 (v := .ref 87) hS hi_276_325 rfl ?_
    refine l1 (v := x1) hi_276_328 rfl ?_
    refine l25 hS ma_67 hi_276_329 fun g45 g46 => ?_
    show am_L _ _ _ _ _ [some (.ref 39), some (.int x1), some (.int x2), some (.int x3), some (.int x4), some (.int (kr s 58 x1))] [.int (kr s 67 x1), .int 0, .int x3] _ _
    refine l32 (as := [.int x3, .int 0, .int (kr s 67 x1)]) (la := [some (.int x3), some (.int 0), some (.int (kr s 67 x1))]) (rest := []) hi_276_330 (am_hd0 (M := 276) (by decide) 330) rfl rfl rfl (fun N' d' _ => lt277 (N := N') (d := d') hS) ?_ (fun _ q => nomatch q.1)
    rintro v49 S47 ⟨ev49, h48⟩
    cases ev49
    show am_L _ _ _ _ _ [some (.ref 39), some (.int x1), some (.int x2), some (.int x3), some (.int x4), some (.int (kr s 58 x1))] [.int (k277 s x3 0 (kr s 67 x1))] _ _
    refine l36 hi_276_333 fun _ => ⟨?_, ?_⟩
    · unfold k276; rw [if_neg c3]; rw [if_neg c11]; rw [if_neg c15]; rw [if_neg c21]; rw [if_neg c27]; rw [if_neg c33]; rw [if_neg c36]; rw [if_neg c40]; rw [if_pos c44]
    · exact h48
  by_cases c50 : x2 = 33
  · refine l19 (t := 312) hi_276_9 (by rw [c50]; decide) ?_
    refine l1 (v := x3) hi_276_312 rfl ?_
    refine l0 hi_276_313 ?_
    refine l1 (v := kr s 58 x1) hi_276_314 rfl ?_
    refine l0 hi_276_316 ?_
    refine l10 hi_276_317 ?_
    show am_L _ _ _ _ _ [some (.ref 39), some (.int x1), some (.int x2), some (.int x3), some (.int x4), some (.int (kr s 58 x1))] [.int ((kr s 58 x1) + 1), .int 0, .int x3] _ _
    refine l32 (as := [.int x3, .int 0, .int ((kr s 58 x1) + 1)]) (la := [some (.int x3), some (.int 0), some (.int ((kr s 58 x1) + 1))]) (rest := []) hi_276_318 (am_hd0 (M := 276) (by decide) 318) rfl rfl rfl (fun N' d' _ => lt277 (N := N') (d := d') hS) ?_ (fun _ q => nomatch q.1)
    rintro v53 S51 ⟨ev53, h52⟩
    cases ev53
    show am_L _ _ _ _ _ [some (.ref 39), some (.int x1), some (.int x2), some (.int x3), some (.int x4), some (.int (kr s 58 x1))] [.int (k277 s x3 0 ((kr s 58 x1) + 1))] _ _
    refine l36 hi_276_321 fun _ => ⟨?_, ?_⟩
    · unfold k276; rw [if_neg c3]; rw [if_neg c11]; rw [if_neg c15]; rw [if_neg c21]; rw [if_neg c27]; rw [if_neg c33]; rw [if_neg c36]; rw [if_neg c40]; rw [if_neg c44]; rw [if_pos c50]
    · exact h52
  by_cases c54 : x2 = 35
  · refine l19 (t := 176) hi_276_9 (by rw [c54]; decide) ?_
    refine l1 (v := x3) hi_276_176 rfl ?_
    refine l0 hi_276_177 ?_
    refine l2 (v := 39) hi_276_178 rfl ?_
    refine l20 (v := .ref 81) hS hi_276_179 rfl ?_
    refine l1 (v := x1) hi_276_182 rfl ?_
    refine l25 hS ma_60 hi_276_183 fun g55 g56 => ?_
    show am_L _ _ _ _ _ [some (.ref 39), some (.int x1), some (.int x2), some (.int x3), some (.int x4), some (.int (kr s 58 x1))] [.int (kr s 60 x1), .int 0, .int x3] _ _
    refine l32 (as := [.int x3, .int 0, .int (kr s 60 x1)]) (la := [some (.int x3), some (.int 0), some (.int (kr s 60 x1))]) (rest := []) hi_276_184 (am_hd0 (M := 276) (by decide) 184) rfl rfl rfl (fun N' d' _ => lt277 (N := N') (d := d') hS) ?_ (fun _ q => nomatch q.1)
    rintro v59 S57 ⟨ev59, h58⟩
    cases ev59
    show am_L _ _ _ _ _ [some (.ref 39), some (.int x1), some (.int x2), some (.int x3), some (.int x4), some (.int (kr s 58 x1))] [.int (k277 s x3 0 (kr s 60 x1))] _ _
    refine l36 hi_276_187 fun _ => ⟨?_, ?_⟩
    · unfold k276; rw [if_neg c3]; rw [if_neg c11]; rw [if_neg c15]; rw [if_neg c21]; rw [if_neg c27]; rw [if_neg c33]; rw [if_neg c36]; rw [if_neg c40]; rw [if_neg c44]; rw [if_neg c50]; rw [if_pos c54]
    · exact h58
  by_cases c60 : x2 = 36
  · refine l19 (t := 176) hi_276_9 (by rw [c60]; decide) ?_
    refine l1 (v := x3) hi_276_176 rfl ?_
    refine l0 hi_276_177 ?_
    refine l2 (v := 39) hi_276_178 rfl ?_
    refine l20 (v := .ref 81) hS hi_276_179 rfl ?_
    refine l1 (v := x1) hi_276_182 rfl ?_
    refine l25 hS ma_60 hi_276_183 fun g61 g62 => ?_
    show am_L _ _ _ _ _ [some (.ref 39), some (.int x1), some (.int x2), some (.int x3), some (.int x4), some (.int (kr s 58 x1))] [.int (kr s 60 x1), .int 0, .int x3] _ _
    refine l32 (as := [.int x3, .int 0, .int (kr s 60 x1)]) (la := [some (.int x3), some (.int 0), some (.int (kr s 60 x1))]) (rest := []) hi_276_184 (am_hd0 (M := 276) (by decide) 184) rfl rfl rfl (fun N' d' _ => lt277 (N := N') (d := d') hS) ?_ (fun _ q => nomatch q.1)
    rintro v65 S63 ⟨ev65, h64⟩
    cases ev65
    show am_L _ _ _ _ _ [some (.ref 39), some (.int x1), some (.int x2), some (.int x3), some (.int x4), some (.int (kr s 58 x1))] [.int (k277 s x3 0 (kr s 60 x1))] _ _
    refine l36 hi_276_187 fun _ => ⟨?_, ?_⟩
    · unfold k276; rw [if_neg c3]; rw [if_neg c11]; rw [if_neg c15]; rw [if_neg c21]; rw [if_neg c27]; rw [if_neg c33]; rw [if_neg c36]; rw [if_neg c40]; rw [if_neg c44]; rw [if_neg c50]; rw [if_neg c54]; rw [if_pos c60]
    · exact h64
  by_cases c66 : x2 = 37
  · refine l19 (t := 176) hi_276_9 (by rw [c66]; decide) ?_
    refine l1 (v := x3) hi_276_176 rfl ?_
    refine l0 hi_276_177 ?_
    refine l2 (v := 39) hi_276_178 rfl ?_
    refine l20 (v := .ref 81) hS hi_276_179 rfl ?_
    refine l1 (v := x1) hi_276_182 rfl ?_
    refine l25 hS ma_60 hi_276_183 fun g67 g68 => ?_
    show am_L _ _ _ _ _ [some (.ref 39), some (.int x1), some (.int x2), some (.int x3), some (.int x4), some (.int (kr s 58 x1))] [.int (kr s 60 x1), .int 0, .int x3] _ _
    refine l32 (as := [.int x3, .int 0, .int (kr s 60 x1)]) (la := [some (.int x3), some (.int 0), some (.int (kr s 60 x1))]) (rest := []) hi_276_184 (am_hd0 (M := 276) (by decide) 184) rfl rfl rfl (fun N' d' _ => lt277 (N := N') (d := d') hS) ?_ (fun _ q => nomatch q.1)
    rintro v71 S69 ⟨ev71, h70⟩
    cases ev71
    show am_L _ _ _ _ _ [some (.ref 39), some (.int x1), some (.int x2), some (.int x3), some (.int x4), some (.int (kr s 58 x1))] [.int (k277 s x3 0 (kr s 60 x1))] _ _
    refine l36 hi_276_187 fun _ => ⟨?_, ?_⟩
    · unfold k276; rw [if_neg c3]; rw [if_neg c11]; rw [if_neg c15]; rw [if_neg c21]; rw [if_neg c27]; rw [if_neg c33]; rw [if_neg c36]; rw [if_neg c40]; rw [if_neg c44]; rw [if_neg c50]; rw [if_neg c54]; rw [if_neg c60]; rw [if_pos c66]
    · exact h70
  by_cases c72 : x2 = 38
  · refine l19 (t := 196) hi_276_9 (by rw [c72]; decide) ?_
    refine l1 (v := x3) hi_276_196 rfl ?_
    refine l0 hi_276_197 ?_
    refine l1 (v := kr s 58 x1) hi_276_198 rfl ?_
    refine l32 (as := [.int x3, .int 0, .int (kr s 58 x1)]) (la := [some (.int x3), some (.int 0), some (.int (kr s 58 x1))]) (rest := []) hi_276_200 (am_hd0 (M := 276) (by decide) 200) rfl rfl rfl (fun N' d' _ => lt277 (N := N') (d := d') hS) ?_ (fun _ q => nomatch q.1)
    rintro v75 S73 ⟨ev75, h74⟩
    cases ev75
    show am_L _ _ _ _ _ [some (.ref 39), some (.int x1), some (.int x2), some (.int x3), some (.int x4), some (.int (kr s 58 x1))] [.int (k277 s x3 0 (kr s 58 x1))] _ _
    by_cases c76 : (k277 s x3 0 (kr s 58 x1)) = 0
    · refine l12t hi_276_203 (decide_eq_true c76) ?_
      refine l0 hi_276_225 ?_
      refine l36 hi_276_226 fun _ => ⟨?_, ?_⟩
      · unfold k276; rw [if_neg c3]; rw [if_neg c11]; rw [if_neg c15]; rw [if_neg c21]; rw [if_neg c27]; rw [if_neg c33]; rw [if_neg c36]; rw [if_neg c40]; rw [if_neg c44]; rw [if_neg c50]; rw [if_neg c54]; rw [if_neg c60]; rw [if_neg c66]; rw [if_pos c72]; rw [if_pos c76]
      · exact h74
    · refine l12f hi_276_203 (decide_eq_false c76) ?_
      refine l1 (v := x4) hi_276_206 rfl ?_
      refine l0 hi_276_208 ?_
      refine l2 (v := 39) hi_276_209 rfl ?_
      refine l20 (v := .ref 81) h74 hi_276_210 rfl ?_
      refine l1 (v := x1) hi_276_213 rfl ?_
      refine l25 h74 ma_60 hi_276_214 fun g77 g78 => ?_
      show am_L _ _ _ _ _ [some (.ref 39), some (.int x1), some (.int x2), some (.int x3), some (.int x4), some (.int (kr s 58 x1))] [.int (kr s 60 x1), .int 0, .int x4] _ _
      refine l32 (as := [.int x4, .int 0, .int (kr s 60 x1)]) (la := [some (.int x4), some (.int 0), some (.int (kr s 60 x1))]) (rest := []) hi_276_215 (am_hd0 (M := 276) (by decide) 215) rfl rfl rfl (fun N' d' _ => lt277 (N := N') (d := d') h74) ?_ (fun _ q => nomatch q.1)
      rintro v81 S79 ⟨ev81, h80⟩
      cases ev81
      show am_L _ _ _ _ _ [some (.ref 39), some (.int x1), some (.int x2), some (.int x3), some (.int x4), some (.int (kr s 58 x1))] [.int (k277 s x4 0 (kr s 60 x1))] _ _
      by_cases c82 : (k277 s x4 0 (kr s 60 x1)) = 0
      · refine l12t hi_276_218 (decide_eq_true c82) ?_
        refine l0 hi_276_225 ?_
        refine l36 hi_276_226 fun _ => ⟨?_, ?_⟩
        · unfold k276; rw [if_neg c3]; rw [if_neg c11]; rw [if_neg c15]; rw [if_neg c21]; rw [if_neg c27]; rw [if_neg c33]; rw [if_neg c36]; rw [if_neg c40]; rw [if_neg c44]; rw [if_neg c50]; rw [if_neg c54]; rw [if_neg c60]; rw [if_neg c66]; rw [if_pos c72]; rw [if_neg c76]; rw [if_pos c82]
        · exact h80
      · refine l12f hi_276_218 (decide_eq_false c82) ?_
        refine l0 hi_276_221 ?_
        refine l18 hi_276_222 ?_
        refine l36 hi_276_226 fun _ => ⟨?_, ?_⟩
        · unfold k276; rw [if_neg c3]; rw [if_neg c11]; rw [if_neg c15]; rw [if_neg c21]; rw [if_neg c27]; rw [if_neg c33]; rw [if_neg c36]; rw [if_neg c40]; rw [if_neg c44]; rw [if_neg c50]; rw [if_neg c54]; rw [if_neg c60]; rw [if_neg c66]; rw [if_pos c72]; rw [if_neg c76]; rw [if_neg c82]
        · exact h80
  by_cases c83 : x2 = 39
  · refine l19 (t := 227) hi_276_9 (by rw [c83]; decide) ?_
    refine l1 (v := x3) hi_276_227 rfl ?_
    refine l0 hi_276_228 ?_
    refine l1 (v := kr s 58 x1) hi_276_229 rfl ?_
    refine l0 hi_276_231 ?_
    refine l10 hi_276_232 ?_
    show am_L _ _ _ _ _ [some (.ref 39), some (.int x1), some (.int x2), some (.int x3), some (.int x4), some (.int (kr s 58 x1))] [.int ((kr s 58 x1) - 3), .int 0, .int x3] _ _
    refine l32 (as := [.int x3, .int 0, .int ((kr s 58 x1) - 3)]) (la := [some (.int x3), some (.int 0), some (.int ((kr s 58 x1) - 3))]) (rest := []) hi_276_233 (am_hd0 (M := 276) (by decide) 233) rfl rfl rfl (fun N' d' _ => lt277 (N := N') (d := d') hS) ?_ (fun _ q => nomatch q.1)
    rintro v86 S84 ⟨ev86, h85⟩
    cases ev86
    show am_L _ _ _ _ _ [some (.ref 39), some (.int x1), some (.int x2), some (.int x3), some (.int x4), some (.int (kr s 58 x1))] [.int (k277 s x3 0 ((kr s 58 x1) - 3))] _ _
    refine l36 hi_276_236 fun _ => ⟨?_, ?_⟩
    · unfold k276; rw [if_neg c3]; rw [if_neg c11]; rw [if_neg c15]; rw [if_neg c21]; rw [if_neg c27]; rw [if_neg c33]; rw [if_neg c36]; rw [if_neg c40]; rw [if_neg c44]; rw [if_neg c50]; rw [if_neg c54]; rw [if_neg c60]; rw [if_neg c66]; rw [if_neg c72]; rw [if_pos c83]
    · exact h85
  by_cases c87 : x2 = 40
  · refine l19 (t := 196) hi_276_9 (by rw [c87]; decide) ?_
    refine l1 (v := x3) hi_276_196 rfl ?_
    refine l0 hi_276_197 ?_
    refine l1 (v := kr s 58 x1) hi_276_198 rfl ?_
    refine l32 (as := [.int x3, .int 0, .int (kr s 58 x1)]) (la := [some (.int x3), some (.int 0), some (.int (kr s 58 x1))]) (rest := []) hi_276_200 (am_hd0 (M := 276) (by decide) 200) rfl rfl rfl (fun N' d' _ => lt277 (N := N') (d := d') hS) ?_ (fun _ q => nomatch q.1)
    rintro v90 S88 ⟨ev90, h89⟩
    cases ev90
    show am_L _ _ _ _ _ [some (.ref 39), some (.int x1), some (.int x2), some (.int x3), some (.int x4), some (.int (kr s 58 x1))] [.int (k277 s x3 0 (kr s 58 x1))] _ _
    by_cases c91 : (k277 s x3 0 (kr s 58 x1)) = 0
    · refine l12t hi_276_203 (decide_eq_true c91) ?_
      refine l0 hi_276_225 ?_
      refine l36 hi_276_226 fun _ => ⟨?_, ?_⟩
      · unfold k276; rw [if_neg c3]; rw [if_neg c11]; rw [if_neg c15]; rw [if_neg c21]; rw [if_neg c27]; rw [if_neg c33]; rw [if_neg c36]; rw [if_neg c40]; rw [if_neg c44]; rw [if_neg c50]; rw [if_neg c54]; rw [if_neg c60]; rw [if_neg c66]; rw [if_neg c72]; rw [if_neg c83]; rw [if_pos c87]; rw [if_pos c91]
      · exact h89
    · refine l12f hi_276_203 (decide_eq_false c91) ?_
      refine l1 (v := x4) hi_276_206 rfl ?_
      refine l0 hi_276_208 ?_
      refine l2 (v := 39) hi_276_209 rfl ?_
      refine l20 (v := .ref 81) h89 hi_276_210 rfl ?_
      refine l1 (v := x1) hi_276_213 rfl ?_
      refine l25 h89 ma_60 hi_276_214 fun g92 g93 => ?_
      show am_L _ _ _ _ _ [some (.ref 39), some (.int x1), some (.int x2), some (.int x3), some (.int x4), some (.int (kr s 58 x1))] [.int (kr s 60 x1), .int 0, .int x4] _ _
      refine l32 (as := [.int x4, .int 0, .int (kr s 60 x1)]) (la := [some (.int x4), some (.int 0), some (.int (kr s 60 x1))]) (rest := []) hi_276_215 (am_hd0 (M := 276) (by decide) 215) rfl rfl rfl (fun N' d' _ => lt277 (N := N') (d := d') h89) ?_ (fun _ q => nomatch q.1)
      rintro v96 S94 ⟨ev96, h95⟩
      cases ev96
      show am_L _ _ _ _ _ [some (.ref 39), some (.int x1), some (.int x2), some (.int x3), some (.int x4), some (.int (kr s 58 x1))] [.int (k277 s x4 0 (kr s 60 x1))] _ _
      by_cases c97 : (k277 s x4 0 (kr s 60 x1)) = 0
      · refine l12t hi_276_218 (decide_eq_true c97) ?_
        refine l0 hi_276_225 ?_
        refine l36 hi_276_226 fun _ => ⟨?_, ?_⟩
        · unfold k276; rw [if_neg c3]; rw [if_neg c11]; rw [if_neg c15]; rw [if_neg c21]; rw [if_neg c27]; rw [if_neg c33]; rw [if_neg c36]; rw [if_neg c40]; rw [if_neg c44]; rw [if_neg c50]; rw [if_neg c54]; rw [if_neg c60]; rw [if_neg c66]; rw [if_neg c72]; rw [if_neg c83]; rw [if_pos c87]; rw [if_neg c91]; rw [if_pos c97]
        · exact h95
      · refine l12f hi_276_218 (decide_eq_false c97) ?_
        refine l0 hi_276_221 ?_
        refine l18 hi_276_222 ?_
        refine l36 hi_276_226 fun _ => ⟨?_, ?_⟩
        · unfold k276; rw [if_neg c3]; rw [if_neg c11]; rw [if_neg c15]; rw [if_neg c21]; rw [if_neg c27]; rw [if_neg c33]; rw [if_neg c36]; rw [if_neg c40]; rw [if_neg c44]; rw [if_neg c50]; rw [if_neg c54]; rw [if_neg c60]; rw [if_neg c66]; rw [if_neg c72]; rw [if_neg c83]; rw [if_pos c87]; rw [if_neg c91]; rw [if_neg c97]
        · exact h95
  by_cases c98 : x2 = 41
  · refine l19 (t := 188) hi_276_9 (by rw [c98]; decide) ?_
    refine l1 (v := x3) hi_276_188 rfl ?_
    refine l0 hi_276_189 ?_
    refine l1 (v := kr s 58 x1) hi_276_190 rfl ?_
    refine l32 (as := [.int x3, .int 0, .int (kr s 58 x1)]) (la := [some (.int x3), some (.int 0), some (.int (kr s 58 x1))]) (rest := []) hi_276_192 (am_hd0 (M := 276) (by decide) 192) rfl rfl rfl (fun N' d' _ => lt277 (N := N') (d := d') hS) ?_ (fun _ q => nomatch q.1)
    rintro v101 S99 ⟨ev101, h100⟩
    cases ev101
    show am_L _ _ _ _ _ [some (.ref 39), some (.int x1), some (.int x2), some (.int x3), some (.int x4), some (.int (kr s 58 x1))] [.int (k277 s x3 0 (kr s 58 x1))] _ _
    refine l36 hi_276_195 fun _ => ⟨?_, ?_⟩
    · unfold k276; rw [if_neg c3]; rw [if_neg c11]; rw [if_neg c15]; rw [if_neg c21]; rw [if_neg c27]; rw [if_neg c33]; rw [if_neg c36]; rw [if_neg c40]; rw [if_neg c44]; rw [if_neg c50]; rw [if_neg c54]; rw [if_neg c60]; rw [if_neg c66]; rw [if_neg c72]; rw [if_neg c83]; rw [if_neg c87]; rw [if_pos c98]
    · exact h100
  by_cases c102 : x2 = 42
  · refine l19 (t := 237) hi_276_9 (by rw [c102]; decide) ?_
    refine l1 (v := x3) hi_276_237 rfl ?_
    refine l0 hi_276_238 ?_
    refine l1 (v := kr s 58 x1) hi_276_239 rfl ?_
    refine l0 hi_276_241 ?_
    refine l10 hi_276_242 ?_
    show am_L _ _ _ _ _ [some (.ref 39), some (.int x1), some (.int x2), some (.int x3), some (.int x4), some (.int (kr s 58 x1))] [.int ((kr s 58 x1) - 3), .int 0, .int x3] _ _
    refine l32 (as := [.int x3, .int 0, .int ((kr s 58 x1) - 3)]) (la := [some (.int x3), some (.int 0), some (.int ((kr s 58 x1) - 3))]) (rest := []) hi_276_243 (am_hd0 (M := 276) (by decide) 243) rfl rfl rfl (fun N' d' _ => lt277 (N := N') (d := d') hS) ?_ (fun _ q => nomatch q.1)
    rintro v105 S103 ⟨ev105, h104⟩
    cases ev105
    show am_L _ _ _ _ _ [some (.ref 39), some (.int x1), some (.int x2), some (.int x3), some (.int x4), some (.int (kr s 58 x1))] [.int (k277 s x3 0 ((kr s 58 x1) - 3))] _ _
    refine l36 hi_276_246 fun _ => ⟨?_, ?_⟩
    · unfold k276; rw [if_neg c3]; rw [if_neg c11]; rw [if_neg c15]; rw [if_neg c21]; rw [if_neg c27]; rw [if_neg c33]; rw [if_neg c36]; rw [if_neg c40]; rw [if_neg c44]; rw [if_neg c50]; rw [if_neg c54]; rw [if_neg c60]; rw [if_neg c66]; rw [if_neg c72]; rw [if_neg c83]; rw [if_neg c87]; rw [if_neg c98]; rw [if_pos c102]
    · exact h104
  by_cases c106 : x2 = 43
  · refine l19 (t := 247) hi_276_9 (by rw [c106]; decide) ?_
    refine l1 (v := x3) hi_276_247 rfl ?_
    refine l0 hi_276_248 ?_
    refine l1 (v := kr s 58 x1) hi_276_249 rfl ?_
    refine l0 hi_276_251 ?_
    refine l10 hi_276_252 ?_
    show am_L _ _ _ _ _ [some (.ref 39), some (.int x1), some (.int x2), some (.int x3), some (.int x4), some (.int (kr s 58 x1))] [.int ((kr s 58 x1) - 3), .int 0, .int x3] _ _
    refine l1 (v := x4) hi_276_253 rfl ?_
    refine l10 hi_276_255 ?_
    show am_L _ _ _ _ _ [some (.ref 39), some (.int x1), some (.int x2), some (.int x3), some (.int x4), some (.int (kr s 58 x1))] [.int (((kr s 58 x1) - 3) - x4), .int 0, .int x3] _ _
    refine l32 (as := [.int x3, .int 0, .int (((kr s 58 x1) - 3) - x4)]) (la := [some (.int x3), some (.int 0), some (.int (((kr s 58 x1) - 3) - x4))]) (rest := []) hi_276_256 (am_hd0 (M := 276) (by decide) 256) rfl rfl rfl (fun N' d' _ => lt277 (N := N') (d := d') hS) ?_ (fun _ q => nomatch q.1)
    rintro v109 S107 ⟨ev109, h108⟩
    cases ev109
    show am_L _ _ _ _ _ [some (.ref 39), some (.int x1), some (.int x2), some (.int x3), some (.int x4), some (.int (kr s 58 x1))] [.int (k277 s x3 0 (((kr s 58 x1) - 3) - x4))] _ _
    refine l36 hi_276_259 fun _ => ⟨?_, ?_⟩
    · unfold k276; rw [if_neg c3]; rw [if_neg c11]; rw [if_neg c15]; rw [if_neg c21]; rw [if_neg c27]; rw [if_neg c33]; rw [if_neg c36]; rw [if_neg c40]; rw [if_neg c44]; rw [if_neg c50]; rw [if_neg c54]; rw [if_neg c60]; rw [if_neg c66]; rw [if_neg c72]; rw [if_neg c83]; rw [if_neg c87]; rw [if_neg c98]; rw [if_neg c102]; rw [if_pos c106]
    · exact h108
  by_cases c110 : x2 = 44
  · refine l19 (t := 260) hi_276_9 (by rw [c110]; decide) ?_
    refine l1 (v := x3) hi_276_260 rfl ?_
    refine l0 hi_276_261 ?_
    refine l1 (v := kr s 58 x1) hi_276_262 rfl ?_
    refine l0 hi_276_264 ?_
    refine l10 hi_276_265 ?_
    show am_L _ _ _ _ _ [some (.ref 39), some (.int x1), some (.int x2), some (.int x3), some (.int x4), some (.int (kr s 58 x1))] [.int ((kr s 58 x1) - 4), .int 0, .int x3] _ _
    refine l32 (as := [.int x3, .int 0, .int ((kr s 58 x1) - 4)]) (la := [some (.int x3), some (.int 0), some (.int ((kr s 58 x1) - 4))]) (rest := []) hi_276_266 (am_hd0 (M := 276) (by decide) 266) rfl rfl rfl (fun N' d' _ => lt277 (N := N') (d := d') hS) ?_ (fun _ q => nomatch q.1)
    rintro v113 S111 ⟨ev113, h112⟩
    cases ev113
    show am_L _ _ _ _ _ [some (.ref 39), some (.int x1), some (.int x2), some (.int x3), some (.int x4), some (.int (kr s 58 x1))] [.int (k277 s x3 0 ((kr s 58 x1) - 4))] _ _
    by_cases c114 : (k277 s x3 0 ((kr s 58 x1) - 4)) = 0
    · refine l12t hi_276_269 (decide_eq_true c114) ?_
      refine l0 hi_276_291 ?_
      refine l36 hi_276_292 fun _ => ⟨?_, ?_⟩
      · unfold k276; rw [if_neg c3]; rw [if_neg c11]; rw [if_neg c15]; rw [if_neg c21]; rw [if_neg c27]; rw [if_neg c33]; rw [if_neg c36]; rw [if_neg c40]; rw [if_neg c44]; rw [if_neg c50]; rw [if_neg c54]; rw [if_neg c60]; rw [if_neg c66]; rw [if_neg c72]; rw [if_neg c83]; rw [if_neg c87]; rw [if_neg c98]; rw [if_neg c102]; rw [if_neg c106]; rw [if_pos c110]; rw [if_pos c114]
      · exact h112
    · refine l12f hi_276_269 (decide_eq_false c114) ?_
      refine l1 (v := x4) hi_276_272 rfl ?_
      refine l0 hi_276_274 ?_
      refine l2 (v := 39) hi_276_275 rfl ?_
      refine l20 (v := .ref 81) h112 hi_276_276 rfl ?_
      refine l1 (v := x1) hi_276_279 rfl ?_
      refine l25 h112 ma_60 hi_276_280 fun g115 g116 => ?_
      show am_L _ _ _ _ _ [some (.ref 39), some (.int x1), some (.int x2), some (.int x3), some (.int x4), some (.int (kr s 58 x1))] [.int (kr s 60 x1), .int 0, .int x4] _ _
      refine l32 (as := [.int x4, .int 0, .int (kr s 60 x1)]) (la := [some (.int x4), some (.int 0), some (.int (kr s 60 x1))]) (rest := []) hi_276_281 (am_hd0 (M := 276) (by decide) 281) rfl rfl rfl (fun N' d' _ => lt277 (N := N') (d := d') h112) ?_ (fun _ q => nomatch q.1)
      rintro v119 S117 ⟨ev119, h118⟩
      cases ev119
      show am_L _ _ _ _ _ [some (.ref 39), some (.int x1), some (.int x2), some (.int x3), some (.int x4), some (.int (kr s 58 x1))] [.int (k277 s x4 0 (kr s 60 x1))] _ _
      by_cases c120 : (k277 s x4 0 (kr s 60 x1)) = 0
      · refine l12t hi_276_284 (decide_eq_true c120) ?_
        refine l0 hi_276_291 ?_
        refine l36 hi_276_292 fun _ => ⟨?_, ?_⟩
        · unfold k276; rw [if_neg c3]; rw [if_neg c11]; rw [if_neg c15]; rw [if_neg c21]; rw [if_neg c27]; rw [if_neg c33]; rw [if_neg c36]; rw [if_neg c40]; rw [if_neg c44]; rw [if_neg c50]; rw [if_neg c54]; rw [if_neg c60]; rw [if_neg c66]; rw [if_neg c72]; rw [if_neg c83]; rw [if_neg c87]; rw [if_neg c98]; rw [if_neg c102]; rw [if_neg c106]; rw [if_pos c110]; rw [if_neg c114]; rw [if_pos c120]
        · exact h118
      · refine l12f hi_276_284 (decide_eq_false c120) ?_
        refine l0 hi_276_287 ?_
        refine l18 hi_276_288 ?_
        refine l36 hi_276_292 fun _ => ⟨?_, ?_⟩
        · unfold k276; rw [if_neg c3]; rw [if_neg c11]; rw [if_neg c15]; rw [if_neg c21]; rw [if_neg c27]; rw [if_neg c33]; rw [if_neg c36]; rw [if_neg c40]; rw [if_neg c44]; rw [if_neg c50]; rw [if_neg c54]; rw [if_neg c60]; rw [if_neg c66]; rw [if_neg c72]; rw [if_neg c83]; rw [if_neg c87]; rw [if_neg c98]; rw [if_neg c102]; rw [if_neg c106]; rw [if_pos c110]; rw [if_neg c114]; rw [if_neg c120]
        · exact h118
  refine l19 (t := 358) hi_276_9 (sw_not (ks := [7, 8, 9, 15, 16, 27, 28, 29, 30, 33, 35, 36, 37, 38, 39, 40, 41, 42, 43, 44]) (by decide) (by intro k hk; simp only [List.mem_cons, List.not_mem_nil, or_false] at hk; rcases hk with rfl | rfl | rfl | rfl | rfl | rfl | rfl | rfl | rfl | rfl | rfl | rfl | rfl | rfl | rfl | rfl | rfl | rfl | rfl | rfl <;> first | exact c3 | exact c11 | exact c15 | exact c21 | exact c27 | exact c33 | exact c36 | exact c40 | exact c44 | exact c50 | exact c54 | exact c60 | exact c66 | exact c72 | exact c83 | exact c87 | exact c98 | exact c102 | exact c106 | exact c110)) ?_
  refine l0 hi_276_358 ?_
  refine l36 hi_276_359 fun _ => ⟨?_, ?_⟩
  · unfold k276; rw [if_neg c3]; rw [if_neg c11]; rw [if_neg c15]; rw [if_neg c21]; rw [if_neg c27]; rw [if_neg c33]; rw [if_neg c36]; rw [if_neg c40]; rw [if_neg c44]; rw [if_neg c50]; rw [if_neg c54]; rw [if_neg c60]; rw [if_neg c66]; rw [if_neg c72]; rw [if_neg c83]; rw [if_neg c87]; rw [if_neg c98]; rw [if_neg c102]; rw [if_neg c106]; rw [if_neg c110]
  · exact hS
def k275b17 (s : kS) (y2 : Int32) (t : Int32 × Int32 × Int32) : Nat × (Int32 × Int32 × Int32) := if (kr s 60 y2) ≤ t.2.2 then (1, (t.1, t.2.1, t.2.2)) else if (kr s 70 (kr s 74 ((kr s 61 y2) + t.2.2))) ≠ 34 then if (t.2.2 + 1) ≠ (kr s 60 y2) then if (t.2.1 + (k274 s (kr s 70 (kr s 74 ((kr s 61 y2) + t.2.2))) (kr s 71 (kr s 74 ((kr s 61 y2) + t.2.2))) (kr s 72 (kr s 74 ((kr s 61 y2) + t.2.2))))) < 0 then (0, (t.1 + 1, t.2.1 + (k274 s (kr s 70 (kr s 74 ((kr s 61 y2) + t.2.2))) (kr s 71 (kr s 74 ((kr s 61 y2) + t.2.2))) (kr s 72 (kr s 74 ((kr s 61 y2) + t.2.2)))), t.2.2 + 1)) else if (k276 s y2 (kr s 70 (kr s 74 ((kr s 61 y2) + t.2.2))) (kr s 71 (kr s 74 ((kr s 61 y2) + t.2.2))) (kr s 72 (kr s 74 ((kr s 61 y2) + t.2.2)))) ≠ 0 then (0, (t.1, t.2.1 + (k274 s (kr s 70 (kr s 74 ((kr s 61 y2) + t.2.2))) (kr s 71 (kr s 74 ((kr s 61 y2) + t.2.2))) (kr s 72 (kr s 74 ((kr s 61 y2) + t.2.2)))), t.2.2 + 1)) else (0, (t.1 + 1, t.2.1 + (k274 s (kr s 70 (kr s 74 ((kr s 61 y2) + t.2.2))) (kr s 71 (kr s 74 ((kr s 61 y2) + t.2.2))) (kr s 72 (kr s 74 ((kr s 61 y2) + t.2.2)))), t.2.2 + 1)) else if (kr s 70 (kr s 74 ((kr s 61 y2) + t.2.2))) = 45 then if (t.2.1 + (k274 s (kr s 70 (kr s 74 ((kr s 61 y2) + t.2.2))) (kr s 71 (kr s 74 ((kr s 61 y2) + t.2.2))) (kr s 72 (kr s 74 ((kr s 61 y2) + t.2.2))))) < 0 then (0, (t.1 + 1, t.2.1 + (k274 s (kr s 70 (kr s 74 ((kr s 61 y2) + t.2.2))) (kr s 71 (kr s 74 ((kr s 61 y2) + t.2.2))) (kr s 72 (kr s 74 ((kr s 61 y2) + t.2.2)))), t.2.2 + 1)) else if (k276 s y2 (kr s 70 (kr s 74 ((kr s 61 y2) + t.2.2))) (kr s 71 (kr s 74 ((kr s 61 y2) + t.2.2))) (kr s 72 (kr s 74 ((kr s 61 y2) + t.2.2)))) ≠ 0 then (0, (t.1, t.2.1 + (k274 s (kr s 70 (kr s 74 ((kr s 61 y2) + t.2.2))) (kr s 71 (kr s 74 ((kr s 61 y2) + t.2.2))) (kr s 72 (kr s 74 ((kr s 61 y2) + t.2.2)))), t.2.2 + 1)) else (0, (t.1 + 1, t.2.1 + (k274 s (kr s 70 (kr s 74 ((kr s 61 y2) + t.2.2))) (kr s 71 (kr s 74 ((kr s 61 y2) + t.2.2))) (kr s 72 (kr s 74 ((kr s 61 y2) + t.2.2)))), t.2.2 + 1)) else if (t.2.1 + (k274 s (kr s 70 (kr s 74 ((kr s 61 y2) + t.2.2))) (kr s 71 (kr s 74 ((kr s 61 y2) + t.2.2))) (kr s 72 (kr s 74 ((kr s 61 y2) + t.2.2))))) < 0 then (0, (t.1 + 1, t.2.1 + (k274 s (kr s 70 (kr s 74 ((kr s 61 y2) + t.2.2))) (kr s 71 (kr s 74 ((kr s 61 y2) + t.2.2))) (kr s 72 (kr s 74 ((kr s 61 y2) + t.2.2)))), t.2.2 + 1)) else (0, (t.1 + 1, t.2.1 + (k274 s (kr s 70 (kr s 74 ((kr s 61 y2) + t.2.2))) (kr s 71 (kr s 74 ((kr s 61 y2) + t.2.2))) (kr s 72 (kr s 74 ((kr s 61 y2) + t.2.2)))), t.2.2 + 1)) else if t.2.1 = 0 then if (t.2.2 + 1) ≠ (kr s 60 y2) then if (t.2.1 + (k274 s (kr s 70 (kr s 74 ((kr s 61 y2) + t.2.2))) (kr s 71 (kr s 74 ((kr s 61 y2) + t.2.2))) (kr s 72 (kr s 74 ((kr s 61 y2) + t.2.2))))) < 0 then (0, (t.1 + 1, t.2.1 + (k274 s (kr s 70 (kr s 74 ((kr s 61 y2) + t.2.2))) (kr s 71 (kr s 74 ((kr s 61 y2) + t.2.2))) (kr s 72 (kr s 74 ((kr s 61 y2) + t.2.2)))), t.2.2 + 1)) else if (k276 s y2 (kr s 70 (kr s 74 ((kr s 61 y2) + t.2.2))) (kr s 71 (kr s 74 ((kr s 61 y2) + t.2.2))) (kr s 72 (kr s 74 ((kr s 61 y2) + t.2.2)))) ≠ 0 then (0, (t.1, t.2.1 + (k274 s (kr s 70 (kr s 74 ((kr s 61 y2) + t.2.2))) (kr s 71 (kr s 74 ((kr s 61 y2) + t.2.2))) (kr s 72 (kr s 74 ((kr s 61 y2) + t.2.2)))), t.2.2 + 1)) else (0, (t.1 + 1, t.2.1 + (k274 s (kr s 70 (kr s 74 ((kr s 61 y2) + t.2.2))) (kr s 71 (kr s 74 ((kr s 61 y2) + t.2.2))) (kr s 72 (kr s 74 ((kr s 61 y2) + t.2.2)))), t.2.2 + 1)) else if (kr s 70 (kr s 74 ((kr s 61 y2) + t.2.2))) = 45 then if (t.2.1 + (k274 s (kr s 70 (kr s 74 ((kr s 61 y2) + t.2.2))) (kr s 71 (kr s 74 ((kr s 61 y2) + t.2.2))) (kr s 72 (kr s 74 ((kr s 61 y2) + t.2.2))))) < 0 then (0, (t.1 + 1, t.2.1 + (k274 s (kr s 70 (kr s 74 ((kr s 61 y2) + t.2.2))) (kr s 71 (kr s 74 ((kr s 61 y2) + t.2.2))) (kr s 72 (kr s 74 ((kr s 61 y2) + t.2.2)))), t.2.2 + 1)) else if (k276 s y2 (kr s 70 (kr s 74 ((kr s 61 y2) + t.2.2))) (kr s 71 (kr s 74 ((kr s 61 y2) + t.2.2))) (kr s 72 (kr s 74 ((kr s 61 y2) + t.2.2)))) ≠ 0 then (0, (t.1, t.2.1 + (k274 s (kr s 70 (kr s 74 ((kr s 61 y2) + t.2.2))) (kr s 71 (kr s 74 ((kr s 61 y2) + t.2.2))) (kr s 72 (kr s 74 ((kr s 61 y2) + t.2.2)))), t.2.2 + 1)) else (0, (t.1 + 1, t.2.1 + (k274 s (kr s 70 (kr s 74 ((kr s 61 y2) + t.2.2))) (kr s 71 (kr s 74 ((kr s 61 y2) + t.2.2))) (kr s 72 (kr s 74 ((kr s 61 y2) + t.2.2)))), t.2.2 + 1)) else if (t.2.1 + (k274 s (kr s 70 (kr s 74 ((kr s 61 y2) + t.2.2))) (kr s 71 (kr s 74 ((kr s 61 y2) + t.2.2))) (kr s 72 (kr s 74 ((kr s 61 y2) + t.2.2))))) < 0 then (0, (t.1 + 1, t.2.1 + (k274 s (kr s 70 (kr s 74 ((kr s 61 y2) + t.2.2))) (kr s 71 (kr s 74 ((kr s 61 y2) + t.2.2))) (kr s 72 (kr s 74 ((kr s 61 y2) + t.2.2)))), t.2.2 + 1)) else (0, (t.1 + 1, t.2.1 + (k274 s (kr s 70 (kr s 74 ((kr s 61 y2) + t.2.2))) (kr s 71 (kr s 74 ((kr s 61 y2) + t.2.2))) (kr s 72 (kr s 74 ((kr s 61 y2) + t.2.2)))), t.2.2 + 1)) else if (t.2.2 + 1) ≠ (kr s 60 y2) then (0, (t.1 + 1, t.2.1 + (k274 s (kr s 70 (kr s 74 ((kr s 61 y2) + t.2.2))) (kr s 71 (kr s 74 ((kr s 61 y2) + t.2.2))) (kr s 72 (kr s 74 ((kr s 61 y2) + t.2.2)))), t.2.2 + 1)) else if (kr s 70 (kr s 74 ((kr s 61 y2) + t.2.2))) = 45 then (0, (t.1 + 1, t.2.1 + (k274 s (kr s 70 (kr s 74 ((kr s 61 y2) + t.2.2))) (kr s 71 (kr s 74 ((kr s 61 y2) + t.2.2))) (kr s 72 (kr s 74 ((kr s 61 y2) + t.2.2)))), t.2.2 + 1)) else (0, (t.1 + 1, t.2.1 + (k274 s (kr s 70 (kr s 74 ((kr s 61 y2) + t.2.2))) (kr s 71 (kr s 74 ((kr s 61 y2) + t.2.2))) (kr s 72 (kr s 74 ((kr s 61 y2) + t.2.2)))), t.2.2 + 1))
set_option maxHeartbeats 16000000 in
theorem lb275_17 {sc : Nat × (Nat → Int32)} {d : Nat} {S0 : am_S} {s : kS} {y2 : Int32} {Q : Option (Option Value) → am_S → Prop} : ∀ (N : Nat) (S : am_S) (o5 : Option Value) (o6 : Option Value) (o7 : Option Value) (t : Int32 × Int32 × Int32), MK S0 S s → (∀ m S1 (p5 : Option Value) (p6 : Option Value) (p7 : Option Value), (kwh (k275b17 s y2) m t).1 = 1 → MK S0 S1 s → am_L (am_PP sc) N d 275 178 [some (.ref 39), some (.int ((kwh (k275b17 s y2) m t).2.1)), some (.int y2), some (.int ((kwh (k275b17 s y2) m t).2.2.1)), some (.int ((kwh (k275b17 s y2) m t).2.2.2)), p5, p6, p7] [] S1 Q) → am_L (am_PP sc) N d 275 17 [some (.ref 39), some (.int t.1), some (.int y2), some (.int t.2.1), some (.int t.2.2), o5, o6, o7] [] S Q := by
  intro N
  induction N with
  | zero => intros; exact l_zero
  | succ N ih =>
    intro S o5 o6 o7 t hS kx178
    refine l1d (v := t.2.2) hi_275_17 rfl ?_
    refine l2 (v := 39) hi_275_19 rfl ?_
    refine l20 (v := .ref 81) hS hi_275_20 rfl ?_
    refine l1 (v := y2) hi_275_23 rfl ?_
    refine l25 hS ma_60 hi_275_24 fun g1 g2 => ?_
    show am_L _ _ _ _ _ [some (.ref 39), some (.int t.1), some (.int y2), some (.int t.2.1), some (.int t.2.2), o5, o6, o7] [.int (kr s 60 y2), .int t.2.2] _ _
    by_cases c3 : (kr s 60 y2) ≤ t.2.2
    · refine l13t hi_275_25 (decide_eq_true c3) ?_
      have e0 : (k275b17 s y2) t = (1, (t.1, t.2.1, t.2.2)) := by unfold k275b17; rw [if_pos c3]
      have e1 : kwh (k275b17 s y2) 1 t = (1, (t.1, t.2.1, t.2.2)) := by rw [kwh_out (by rw [e0]; exact Nat.succ_ne_zero _), e0]
      have q := kx178 1 _ o5 o6 o7 (by rw [e1]) (by exact hS)
      try rw [e1] at q
      exact q.less (Nat.le_succ N)
    · refine l13f hi_275_25 (decide_eq_false c3) ?_
      refine l2 (v := 39) hi_275_28 rfl ?_
      refine l20 (v := .ref 93) hS hi_275_29 rfl ?_
      refine l2 (v := 39) hi_275_32 rfl ?_
      refine l20 (v := .ref 82) hS hi_275_33 rfl ?_
      refine l1 (v := y2) hi_275_36 rfl ?_
      refine l25 hS ma_61 hi_275_37 fun g4 g5 => ?_
      show am_L _ _ _ _ _ [some (.ref 39), some (.int t.1), some (.int y2), some (.int t.2.1), some (.int t.2.2), o5, o6, o7] [.int (kr s 61 y2), .ref 93] _ _
      refine l1 (v := t.2.2) hi_275_38 rfl ?_
      refine l10 hi_275_40 ?_
      show am_L _ _ _ _ _ [some (.ref 39), some (.int t.1), some (.int y2), some (.int t.2.1), some (.int t.2.2), o5, o6, o7] [.int ((kr s 61 y2) + t.2.2), .ref 93] _ _
      refine l25 hS ma_74 hi_275_41 fun g6 g7 => ?_
      show am_L _ _ _ _ _ [some (.ref 39), some (.int t.1), some (.int y2), some (.int t.2.1), some (.int t.2.2), o5, o6, o7] [.int (kr s 74 ((kr s 61 y2) + t.2.2))] _ _
      refine l3 (ls' := [some (.ref 39), some (.int t.1), some (.int y2), some (.int t.2.1), some (.int t.2.2), some (.int (kr s 74 ((kr s 61 y2) + t.2.2))), o6, o7]) hi_275_42 (Nat.le_of_ble_eq_true rfl) rfl ?_
      refine l2 (v := 39) hi_275_44 rfl ?_
      refine l20 (v := .ref 89) hS hi_275_45 rfl ?_
      refine l1 (v := kr s 74 ((kr s 61 y2) + t.2.2)) hi_275_48 rfl ?_
      refine l25 hS ma_70 hi_275_50 fun g8 g9 => ?_
      show am_L _ _ _ _ _ [some (.ref 39), some (.int t.1), some (.int y2), some (.int t.2.1), some (.int t.2.2), some (.int (kr s 74 ((kr s 61 y2) + t.2.2))), o6, o7] [.int (kr s 70 (kr s 74 ((kr s 61 y2) + t.2.2)))] _ _
      refine l0 hi_275_51 ?_
      by_cases c10 : (kr s 70 (kr s 74 ((kr s 61 y2) + t.2.2))) ≠ 34
      · refine l13t hi_275_53 (decide_eq_true c10) ?_
        refine l0 hi_275_64 ?_
        refine l3 (ls' := [some (.ref 39), some (.int t.1), some (.int y2), some (.int t.2.1), some (.int t.2.2), some (.int (kr s 74 ((kr s 61 y2) + t.2.2))), some (.int 0), o7]) hi_275_65 (Nat.le_of_ble_eq_true rfl) rfl ?_
        refine l1 (v := t.2.1) hi_275_67 rfl ?_
        refine l2 (v := 39) hi_275_68 rfl ?_
        refine l20 (v := .ref 89) hS hi_275_69 rfl ?_
        refine l1 (v := kr s 74 ((kr s 61 y2) + t.2.2)) hi_275_72 rfl ?_
        refine l25 hS ma_70 hi_275_74 fun g11 g12 => ?_
        show am_L _ _ _ _ _ [some (.ref 39), some (.int t.1), some (.int y2), some (.int t.2.1), some (.int t.2.2), some (.int (kr s 74 ((kr s 61 y2) + t.2.2))), some (.int 0), o7] [.int (kr s 70 (kr s 74 ((kr s 61 y2) + t.2.2))), .int t.2.1] _ _
        refine l2 (v := 39) hi_275_75 rfl ?_
        refine l20 (v := .ref 90) hS hi_275_76 rfl ?_
        refine l1 (v := kr s 74 ((kr s 61 y2) + t.2.2)) hi_275_79 rfl ?_
        refine l25 hS ma_71 hi_275_81 fun g13 g14 => ?_
        show am_L _ _ _ _ _ [some (.ref 39), some (.int t.1), some (.int y2), some (.int t.2.1), some (.int t.2.2), some (.int (kr s 74 ((kr s 61 y2) + t.2.2))), some (.int 0), o7] [.int (kr s 71 (kr s 74 ((kr s 61 y2) + t.2.2))), .int (kr s 70 (kr s 74 ((kr s 61 y2) + t.2.2))), .int t.2.1] _ _
        refine l2 (v := 39) hi_275_82 rfl ?_
        refine l20 (v := .ref 91) hS hi_275_83 rfl ?_
        refine l1 (v := kr s 74 ((kr s 61 y2) + t.2.2)) hi_275_86 rfl ?_
        refine l25 hS ma_72 hi_275_88 fun g15 g16 => ?_
        show am_L _ _ _ _ _ [some (.ref 39), some (.int t.1), some (.int y2), some (.int t.2.1), some (.int t.2.2), some (.int (kr s 74 ((kr s 61 y2) + t.2.2))), some (.int 0), o7] [.int (kr s 72 (kr s 74 ((kr s 61 y2) + t.2.2))), .int (kr s 71 (kr s 74 ((kr s 61 y2) + t.2.2))), .int (kr s 70 (kr s 74 ((kr s 61 y2) + t.2.2))), .int t.2.1] _ _
        refine l32 (as := [.int (kr s 70 (kr s 74 ((kr s 61 y2) + t.2.2))), .int (kr s 71 (kr s 74 ((kr s 61 y2) + t.2.2))), .int (kr s 72 (kr s 74 ((kr s 61 y2) + t.2.2)))]) (la := [some (.int (kr s 70 (kr s 74 ((kr s 61 y2) + t.2.2)))), some (.int (kr s 71 (kr s 74 ((kr s 61 y2) + t.2.2)))), some (.int (kr s 72 (kr s 74 ((kr s 61 y2) + t.2.2))))]) (rest := [.int t.2.1]) hi_275_89 (am_hd0 (M := 275) (by decide) 89) rfl rfl rfl (fun N' d' _ => lt274 (N := N') (d := d') hS) ?_ (fun _ q => nomatch q.1)
        rintro v19 S17 ⟨ev19, h18⟩
        cases ev19
        show am_L _ _ _ _ _ [some (.ref 39), some (.int t.1), some (.int y2), some (.int t.2.1), some (.int t.2.2), some (.int (kr s 74 ((kr s 61 y2) + t.2.2))), some (.int 0), o7] [.int (k274 s (kr s 70 (kr s 74 ((kr s 61 y2) + t.2.2))) (kr s 71 (kr s 74 ((kr s 61 y2) + t.2.2))) (kr s 72 (kr s 74 ((kr s 61 y2) + t.2.2)))), .int t.2.1] _ _
        refine l10 hi_275_92 ?_
        show am_L _ _ _ _ _ [some (.ref 39), some (.int t.1), some (.int y2), some (.int t.2.1), some (.int t.2.2), some (.int (kr s 74 ((kr s 61 y2) + t.2.2))), some (.int 0), o7] [.int (t.2.1 + (k274 s (kr s 70 (kr s 74 ((kr s 61 y2) + t.2.2))) (kr s 71 (kr s 74 ((kr s 61 y2) + t.2.2))) (kr s 72 (kr s 74 ((kr s 61 y2) + t.2.2)))))] _ _
        refine l3 (ls' := [some (.ref 39), some (.int t.1), some (.int y2), some (.int (t.2.1 + (k274 s (kr s 70 (kr s 74 ((kr s 61 y2) + t.2.2))) (kr s 71 (kr s 74 ((kr s 61 y2) + t.2.2))) (kr s 72 (kr s 74 ((kr s 61 y2) + t.2.2)))))), some (.int t.2.2), some (.int (kr s 74 ((kr s 61 y2) + t.2.2))), some (.int 0), o7]) hi_275_93 (Nat.le_of_ble_eq_true rfl) rfl ?_
        refine l1 (v := t.2.2) hi_275_94 rfl ?_
        refine l0 hi_275_96 ?_
        refine l10 hi_275_97 ?_
        show am_L _ _ _ _ _ [some (.ref 39), some (.int t.1), some (.int y2), some (.int (t.2.1 + (k274 s (kr s 70 (kr s 74 ((kr s 61 y2) + t.2.2))) (kr s 71 (kr s 74 ((kr s 61 y2) + t.2.2))) (kr s 72 (kr s 74 ((kr s 61 y2) + t.2.2)))))), some (.int t.2.2), some (.int (kr s 74 ((kr s 61 y2) + t.2.2))), some (.int 0), o7] [.int (t.2.2 + 1)] _ _
        refine l2 (v := 39) hi_275_98 rfl ?_
        refine l20 (v := .ref 81) h18 hi_275_99 rfl ?_
        refine l1 (v := y2) hi_275_102 rfl ?_
        refine l25 h18 ma_60 hi_275_103 fun g20 g21 => ?_
        show am_L _ _ _ _ _ [some (.ref 39), some (.int t.1), some (.int y2), some (.int (t.2.1 + (k274 s (kr s 70 (kr s 74 ((kr s 61 y2) + t.2.2))) (kr s 71 (kr s 74 ((kr s 61 y2) + t.2.2))) (kr s 72 (kr s 74 ((kr s 61 y2) + t.2.2)))))), some (.int t.2.2), some (.int (kr s 74 ((kr s 61 y2) + t.2.2))), some (.int 0), o7] [.int (kr s 60 y2), .int (t.2.2 + 1)] _ _
        by_cases c22 : (t.2.2 + 1) ≠ (kr s 60 y2)
        · refine l13t hi_275_104 (decide_eq_true c22) ?_
          refine l0 hi_275_123 ?_
          refine l3 (ls' := [some (.ref 39), some (.int t.1), some (.int y2), some (.int (t.2.1 + (k274 s (kr s 70 (kr s 74 ((kr s 61 y2) + t.2.2))) (kr s 71 (kr s 74 ((kr s 61 y2) + t.2.2))) (kr s 72 (kr s 74 ((kr s 61 y2) + t.2.2)))))), some (.int t.2.2), some (.int (kr s 74 ((kr s 61 y2) + t.2.2))), some (.int 0), some (.int 0)]) hi_275_124 (Nat.le_of_ble_eq_true rfl) rfl ?_
          refine l1 (v := 0) hi_275_126 rfl ?_
          refine l12f hi_275_128 (by decide) ?_
          refine l1 (v := t.2.1 + (k274 s (kr s 70 (kr s 74 ((kr s 61 y2) + t.2.2))) (kr s 71 (kr s 74 ((kr s 61 y2) + t.2.2))) (kr s 72 (kr s 74 ((kr s 61 y2) + t.2.2))))) hi_275_131 rfl ?_
          by_cases c23 : (t.2.1 + (k274 s (kr s 70 (kr s 74 ((kr s 61 y2) + t.2.2))) (kr s 71 (kr s 74 ((kr s 61 y2) + t.2.2))) (kr s 72 (kr s 74 ((kr s 61 y2) + t.2.2))))) < 0
          · refine l12t hi_275_132 (decide_eq_true c23) ?_
            refine l5 (v := t.1) (ls' := [some (.ref 39), some (.int (t.1 + 1)), some (.int y2), some (.int (t.2.1 + (k274 s (kr s 70 (kr s 74 ((kr s 61 y2) + t.2.2))) (kr s 71 (kr s 74 ((kr s 61 y2) + t.2.2))) (kr s 72 (kr s 74 ((kr s 61 y2) + t.2.2)))))), some (.int t.2.2), some (.int (kr s 74 ((kr s 61 y2) + t.2.2))), some (.int 0), some (.int 0)]) hi_275_169 rfl rfl ?_
            refine l5 (v := t.2.2) (ls' := [some (.ref 39), some (.int (t.1 + 1)), some (.int y2), some (.int (t.2.1 + (k274 s (kr s 70 (kr s 74 ((kr s 61 y2) + t.2.2))) (kr s 71 (kr s 74 ((kr s 61 y2) + t.2.2))) (kr s 72 (kr s 74 ((kr s 61 y2) + t.2.2)))))), some (.int (t.2.2 + 1)), some (.int (kr s 74 ((kr s 61 y2) + t.2.2))), some (.int 0), some (.int 0)]) hi_275_172 rfl rfl ?_
            refine l18 hi_275_175 ?_
            have e0 : (k275b17 s y2) t = (0, (t.1 + 1, t.2.1 + (k274 s (kr s 70 (kr s 74 ((kr s 61 y2) + t.2.2))) (kr s 71 (kr s 74 ((kr s 61 y2) + t.2.2))) (kr s 72 (kr s 74 ((kr s 61 y2) + t.2.2)))), t.2.2 + 1)) := by unfold k275b17; rw [if_neg c3]; rw [if_pos c10]; rw [if_pos c22]; rw [if_pos c23]
            have e1 : ∀ m, kwh (k275b17 s y2) (m + 1) t = kwh (k275b17 s y2) m (t.1 + 1, t.2.1 + (k274 s (kr s 70 (kr s 74 ((kr s 61 y2) + t.2.2))) (kr s 71 (kr s 74 ((kr s 61 y2) + t.2.2))) (kr s 72 (kr s 74 ((kr s 61 y2) + t.2.2)))), t.2.2 + 1) := fun m => by rw [kwh_go (by rw [e0]), e0]
            exact ih _ (some (.int (kr s 74 ((kr s 61 y2) + t.2.2)))) (some (.int 0)) (some (.int 0)) (t.1 + 1, t.2.1 + (k274 s (kr s 70 (kr s 74 ((kr s 61 y2) + t.2.2))) (kr s 71 (kr s 74 ((kr s 61 y2) + t.2.2))) (kr s 72 (kr s 74 ((kr s 61 y2) + t.2.2)))), t.2.2 + 1) h18 (fun m S1 p5 p6 p7 hm h1 => by have q := kx178 (m + 1) S1 p5 p6 p7 (by rw [e1]; exact hm) (by exact h1); (try rw [e1] at q); exact q.less (Nat.le_succ N))
          · refine l12f hi_275_132 (decide_eq_false c23) ?_
            refine l1 (v := 0) hi_275_135 rfl ?_
            refine l12f hi_275_137 (by decide) ?_
            refine l2 (v := 39) hi_275_140 rfl ?_
            refine l1 (v := y2) hi_275_141 rfl ?_
            refine l2 (v := 39) hi_275_142 rfl ?_
            refine l20 (v := .ref 89) h18 hi_275_143 rfl ?_
            refine l1 (v := kr s 74 ((kr s 61 y2) + t.2.2)) hi_275_146 rfl ?_
            refine l25 h18 ma_70 hi_275_148 fun g24 g25 => ?_
            show am_L _ _ _ _ _ [some (.ref 39), some (.int t.1), some (.int y2), some (.int (t.2.1 + (k274 s (kr s 70 (kr s 74 ((kr s 61 y2) + t.2.2))) (kr s 71 (kr s 74 ((kr s 61 y2) + t.2.2))) (kr s 72 (kr s 74 ((kr s 61 y2) + t.2.2)))))), some (.int t.2.2), some (.int (kr s 74 ((kr s 61 y2) + t.2.2))), some (.int 0), some (.int 0)] [.int (kr s 70 (kr s 74 ((kr s 61 y2) + t.2.2))), .int y2, .ref 39] _ _
            refine l2 (v := 39) hi_275_149 rfl ?_
            refine l20 (v := .ref 90) h18 hi_275_150 rfl ?_
            refine l1 (v := kr s 74 ((kr s 61 y2) + t.2.2)) hi_275_153 rfl ?_
            refine l25 h18 ma_71 hi_275_155 fun g26 g27 => ?_
            show am_L _ _ _ _ _ [some (.ref 39), some (.int t.1), some (.int y2), some (.int (t.2.1 + (k274 s (kr s 70 (kr s 74 ((kr s 61 y2) + t.2.2))) (kr s 71 (kr s 74 ((kr s 61 y2) + t.2.2))) (kr s 72 (kr s 74 ((kr s 61 y2) + t.2.2)))))), some (.int t.2.2), some (.int (kr s 74 ((kr s 61 y2) + t.2.2))), some (.int 0), some (.int 0)] [.int (kr s 71 (kr s 74 ((kr s 61 y2) + t.2.2))), .int (kr s 70 (kr s 74 ((kr s 61 y2) + t.2.2))), .int y2, .ref 39] _ _
            refine l2 (v := 39) hi_275_156 rfl ?_
            refine l20 (v := .ref 91) h18 hi_275_157 rfl ?_
            refine l1 (v := kr s 74 ((kr s 61 y2) + t.2.2)) hi_275_160 rfl ?_
            refine l25 h18 ma_72 hi_275_162 fun g28 g29 => ?_
            show am_L _ _ _ _ _ [some (.ref 39), some (.int t.1), some (.int y2), some (.int (t.2.1 + (k274 s (kr s 70 (kr s 74 ((kr s 61 y2) + t.2.2))) (kr s 71 (kr s 74 ((kr s 61 y2) + t.2.2))) (kr s 72 (kr s 74 ((kr s 61 y2) + t.2.2)))))), some (.int t.2.2), some (.int (kr s 74 ((kr s 61 y2) + t.2.2))), some (.int 0), some (.int 0)] [.int (kr s 72 (kr s 74 ((kr s 61 y2) + t.2.2))), .int (kr s 71 (kr s 74 ((kr s 61 y2) + t.2.2))), .int (kr s 70 (kr s 74 ((kr s 61 y2) + t.2.2))), .int y2, .ref 39] _ _
            refine l32 (as := [.ref 39, .int y2, .int (kr s 70 (kr s 74 ((kr s 61 y2) + t.2.2))), .int (kr s 71 (kr s 74 ((kr s 61 y2) + t.2.2))), .int (kr s 72 (kr s 74 ((kr s 61 y2) + t.2.2)))]) (la := [some (.ref 39), some (.int y2), some (.int (kr s 70 (kr s 74 ((kr s 61 y2) + t.2.2)))), some (.int (kr s 71 (kr s 74 ((kr s 61 y2) + t.2.2)))), some (.int (kr s 72 (kr s 74 ((kr s 61 y2) + t.2.2)))), none]) (rest := []) hi_275_163 (am_hd0 (M := 275) (by decide) 163) rfl rfl rfl (fun N' d' _ => lt276 (N := N') (d := d') h18) ?_ (fun _ q => nomatch q.1)
            rintro v32 S30 ⟨ev32, h31⟩
            cases ev32
            show am_L _ _ _ _ _ [some (.ref 39), some (.int t.1), some (.int y2), some (.int (t.2.1 + (k274 s (kr s 70 (kr s 74 ((kr s 61 y2) + t.2.2))) (kr s 71 (kr s 74 ((kr s 61 y2) + t.2.2))) (kr s 72 (kr s 74 ((kr s 61 y2) + t.2.2)))))), some (.int t.2.2), some (.int (kr s 74 ((kr s 61 y2) + t.2.2))), some (.int 0), some (.int 0)] [.int (k276 s y2 (kr s 70 (kr s 74 ((kr s 61 y2) + t.2.2))) (kr s 71 (kr s 74 ((kr s 61 y2) + t.2.2))) (kr s 72 (kr s 74 ((kr s 61 y2) + t.2.2))))] _ _
            by_cases c33 : (k276 s y2 (kr s 70 (kr s 74 ((kr s 61 y2) + t.2.2))) (kr s 71 (kr s 74 ((kr s 61 y2) + t.2.2))) (kr s 72 (kr s 74 ((kr s 61 y2) + t.2.2)))) ≠ 0
            · refine l12t hi_275_166 (decide_eq_true c33) ?_
              refine l5 (v := t.2.2) (ls' := [some (.ref 39), some (.int t.1), some (.int y2), some (.int (t.2.1 + (k274 s (kr s 70 (kr s 74 ((kr s 61 y2) + t.2.2))) (kr s 71 (kr s 74 ((kr s 61 y2) + t.2.2))) (kr s 72 (kr s 74 ((kr s 61 y2) + t.2.2)))))), some (.int (t.2.2 + 1)), some (.int (kr s 74 ((kr s 61 y2) + t.2.2))), some (.int 0), some (.int 0)]) hi_275_172 rfl rfl ?_
              refine l18 hi_275_175 ?_
              have e0 : (k275b17 s y2) t = (0, (t.1, t.2.1 + (k274 s (kr s 70 (kr s 74 ((kr s 61 y2) + t.2.2))) (kr s 71 (kr s 74 ((kr s 61 y2) + t.2.2))) (kr s 72 (kr s 74 ((kr s 61 y2) + t.2.2)))), t.2.2 + 1)) := by unfold k275b17; rw [if_neg c3]; rw [if_pos c10]; rw [if_pos c22]; rw [if_neg c23]; rw [if_pos c33]
              have e1 : ∀ m, kwh (k275b17 s y2) (m + 1) t = kwh (k275b17 s y2) m (t.1, t.2.1 + (k274 s (kr s 70 (kr s 74 ((kr s 61 y2) + t.2.2))) (kr s 71 (kr s 74 ((kr s 61 y2) + t.2.2))) (kr s 72 (kr s 74 ((kr s 61 y2) + t.2.2)))), t.2.2 + 1) := fun m => by rw [kwh_go (by rw [e0]), e0]
              exact ih _ (some (.int (kr s 74 ((kr s 61 y2) + t.2.2)))) (some (.int 0)) (some (.int 0)) (t.1, t.2.1 + (k274 s (kr s 70 (kr s 74 ((kr s 61 y2) + t.2.2))) (kr s 71 (kr s 74 ((kr s 61 y2) + t.2.2))) (kr s 72 (kr s 74 ((kr s 61 y2) + t.2.2)))), t.2.2 + 1) h31 (fun m S1 p5 p6 p7 hm h1 => by have q := kx178 (m + 1) S1 p5 p6 p7 (by rw [e1]; exact hm) (by exact h1); (try rw [e1] at q); exact q.less (Nat.le_succ N))
            · refine l12f hi_275_166 (decide_eq_false c33) ?_
              refine l5 (v := t.1) (ls' := [some (.ref 39), some (.int (t.1 + 1)), some (.int y2), some (.int (t.2.1 + (k274 s (kr s 70 (kr s 74 ((kr s 61 y2) + t.2.2))) (kr s 71 (kr s 74 ((kr s 61 y2) + t.2.2))) (kr s 72 (kr s 74 ((kr s 61 y2) + t.2.2)))))), some (.int t.2.2), some (.int (kr s 74 ((kr s 61 y2) + t.2.2))), some (.int 0), some (.int 0)]) hi_275_169 rfl rfl ?_
              refine l5 (v := t.2.2) (ls' := [some (.ref 39), some (.int (t.1 + 1)), some (.int y2), some (.int (t.2.1 + (k274 s (kr s 70 (kr s 74 ((kr s 61 y2) + t.2.2))) (kr s 71 (kr s 74 ((kr s 61 y2) + t.2.2))) (kr s 72 (kr s 74 ((kr s 61 y2) + t.2.2)))))), some (.int (t.2.2 + 1)), some (.int (kr s 74 ((kr s 61 y2) + t.2.2))), some (.int 0), some (.int 0)]) hi_275_172 rfl rfl ?_
              refine l18 hi_275_175 ?_
              have e0 : (k275b17 s y2) t = (0, (t.1 + 1, t.2.1 + (k274 s (kr s 70 (kr s 74 ((kr s 61 y2) + t.2.2))) (kr s 71 (kr s 74 ((kr s 61 y2) + t.2.2))) (kr s 72 (kr s 74 ((kr s 61 y2) + t.2.2)))), t.2.2 + 1)) := by unfold k275b17; rw [if_neg c3]; rw [if_pos c10]; rw [if_pos c22]; rw [if_neg c23]; rw [if_neg c33]
              have e1 : ∀ m, kwh (k275b17 s y2) (m + 1) t = kwh (k275b17 s y2) m (t.1 + 1, t.2.1 + (k274 s (kr s 70 (kr s 74 ((kr s 61 y2) + t.2.2))) (kr s 71 (kr s 74 ((kr s 61 y2) + t.2.2))) (kr s 72 (kr s 74 ((kr s 61 y2) + t.2.2)))), t.2.2 + 1) := fun m => by rw [kwh_go (by rw [e0]), e0]
              exact ih _ (some (.int (kr s 74 ((kr s 61 y2) + t.2.2)))) (some (.int 0)) (some (.int 0)) (t.1 + 1, t.2.1 + (k274 s (kr s 70 (kr s 74 ((kr s 61 y2) + t.2.2))) (kr s 71 (kr s 74 ((kr s 61 y2) + t.2.2))) (kr s 72 (kr s 74 ((kr s 61 y2) + t.2.2)))), t.2.2 + 1) h31 (fun m S1 p5 p6 p7 hm h1 => by have q := kx178 (m + 1) S1 p5 p6 p7 (by rw [e1]; exact hm) (by exact h1); (try rw [e1] at q); exact q.less (Nat.le_succ N))
        · refine l13f hi_275_104 (decide_eq_false c22) ?_
          refine l2 (v := 39) hi_275_107 rfl ?_
          refine l20 (v := .ref 89) h18 hi_275_108 rfl ?_
          refine l1 (v := kr s 74 ((kr s 61 y2) + t.2.2)) hi_275_111 rfl ?_
          refine l25 h18 ma_70 hi_275_113 fun g34 g35 => ?_
          show am_L _ _ _ _ _ [some (.ref 39), some (.int t.1), some (.int y2), some (.int (t.2.1 + (k274 s (kr s 70 (kr s 74 ((kr s 61 y2) + t.2.2))) (kr s 71 (kr s 74 ((kr s 61 y2) + t.2.2))) (kr s 72 (kr s 74 ((kr s 61 y2) + t.2.2)))))), some (.int t.2.2), some (.int (kr s 74 ((kr s 61 y2) + t.2.2))), some (.int 0), o7] [.int (kr s 70 (kr s 74 ((kr s 61 y2) + t.2.2)))] _ _
          refine l0 hi_275_114 ?_
          by_cases c36 : (kr s 70 (kr s 74 ((kr s 61 y2) + t.2.2))) = 45
          · refine l13t hi_275_116 (decide_eq_true c36) ?_
            refine l0 hi_275_123 ?_
            refine l3 (ls' := [some (.ref 39), some (.int t.1), some (.int y2), some (.int (t.2.1 + (k274 s (kr s 70 (kr s 74 ((kr s 61 y2) + t.2.2))) (kr s 71 (kr s 74 ((kr s 61 y2) + t.2.2))) (kr s 72 (kr s 74 ((kr s 61 y2) + t.2.2)))))), some (.int t.2.2), some (.int (kr s 74 ((kr s 61 y2) + t.2.2))), some (.int 0), some (.int 0)]) hi_275_124 (Nat.le_of_ble_eq_true rfl) rfl ?_
            refine l1 (v := 0) hi_275_126 rfl ?_
            refine l12f hi_275_128 (by decide) ?_
            refine l1 (v := t.2.1 + (k274 s (kr s 70 (kr s 74 ((kr s 61 y2) + t.2.2))) (kr s 71 (kr s 74 ((kr s 61 y2) + t.2.2))) (kr s 72 (kr s 74 ((kr s 61 y2) + t.2.2))))) hi_275_131 rfl ?_
            by_cases c37 : (t.2.1 + (k274 s (kr s 70 (kr s 74 ((kr s 61 y2) + t.2.2))) (kr s 71 (kr s 74 ((kr s 61 y2) + t.2.2))) (kr s 72 (kr s 74 ((kr s 61 y2) + t.2.2))))) < 0
            · refine l12t hi_275_132 (decide_eq_true c37) ?_
              refine l5 (v := t.1) (ls' := [some (.ref 39), some (.int (t.1 + 1)), some (.int y2), some (.int (t.2.1 + (k274 s (kr s 70 (kr s 74 ((kr s 61 y2) + t.2.2))) (kr s 71 (kr s 74 ((kr s 61 y2) + t.2.2))) (kr s 72 (kr s 74 ((kr s 61 y2) + t.2.2)))))), some (.int t.2.2), some (.int (kr s 74 ((kr s 61 y2) + t.2.2))), some (.int 0), some (.int 0)]) hi_275_169 rfl rfl ?_
              refine l5 (v := t.2.2) (ls' := [some (.ref 39), some (.int (t.1 + 1)), some (.int y2), some (.int (t.2.1 + (k274 s (kr s 70 (kr s 74 ((kr s 61 y2) + t.2.2))) (kr s 71 (kr s 74 ((kr s 61 y2) + t.2.2))) (kr s 72 (kr s 74 ((kr s 61 y2) + t.2.2)))))), some (.int (t.2.2 + 1)), some (.int (kr s 74 ((kr s 61 y2) + t.2.2))), some (.int 0), some (.int 0)]) hi_275_172 rfl rfl ?_
              refine l18 hi_275_175 ?_
              have e0 : (k275b17 s y2) t = (0, (t.1 + 1, t.2.1 + (k274 s (kr s 70 (kr s 74 ((kr s 61 y2) + t.2.2))) (kr s 71 (kr s 74 ((kr s 61 y2) + t.2.2))) (kr s 72 (kr s 74 ((kr s 61 y2) + t.2.2)))), t.2.2 + 1)) := by unfold k275b17; rw [if_neg c3]; rw [if_pos c10]; rw [if_neg c22]; rw [if_pos c36]; rw [if_pos c37]
              have e1 : ∀ m, kwh (k275b17 s y2) (m + 1) t = kwh (k275b17 s y2) m (t.1 + 1, t.2.1 + (k274 s (kr s 70 (kr s 74 ((kr s 61 y2) + t.2.2))) (kr s 71 (kr s 74 ((kr s 61 y2) + t.2.2))) (kr s 72 (kr s 74 ((kr s 61 y2) + t.2.2)))), t.2.2 + 1) := fun m => by rw [kwh_go (by rw [e0]), e0]
              exact ih _ (some (.int (kr s 74 ((kr s 61 y2) + t.2.2)))) (some (.int 0)) (some (.int 0)) (t.1 + 1, t.2.1 + (k274 s (kr s 70 (kr s 74 ((kr s 61 y2) + t.2.2))) (kr s 71 (kr s 74 ((kr s 61 y2) + t.2.2))) (kr s 72 (kr s 74 ((kr s 61 y2) + t.2.2)))), t.2.2 + 1) h18 (fun m S1 p5 p6 p7 hm h1 => by have q := kx178 (m + 1) S1 p5 p6 p7 (by rw [e1]; exact hm) (by exact h1); (try rw [e1] at q); exact q.less (Nat.le_succ N))
            · refine l12f hi_275_132 (decide_eq_false c37) ?_
              refine l1 (v := 0) hi_275_135 rfl ?_
              refine l12f hi_275_137 (by decide) ?_
              refine l2 (v := 39) hi_275_140 rfl ?_
              refine l1 (v := y2) hi_275_141 rfl ?_
              refine l2 (v := 39) hi_275_142 rfl ?_
              refine l20 (v := .ref 89) h18 hi_275_143 rfl ?_
              refine l1 (v := kr s 74 ((kr s 61 y2) + t.2.2)) hi_275_146 rfl ?_
              refine l25 h18 ma_70 hi_275_148 fun g38 g39 => ?_
              show am_L _ _ _ _ _ [some (.ref 39), some (.int t.1), some (.int y2), some (.int (t.2.1 + (k274 s (kr s 70 (kr s 74 ((kr s 61 y2) + t.2.2))) (kr s 71 (kr s 74 ((kr s 61 y2) + t.2.2))) (kr s 72 (kr s 74 ((kr s 61 y2) + t.2.2)))))), some (.int t.2.2), some (.int (kr s 74 ((kr s 61 y2) + t.2.2))), some (.int 0), some (.int 0)] [.int (kr s 70 (kr s 74 ((kr s 61 y2) + t.2.2))), .int y2, .ref 39] _ _
              refine l2 (v := 39) hi_275_149 rfl ?_
              refine l20 (v := .ref 90) h18 hi_275_150 rfl ?_
              refine l1 (v := kr s 74 ((kr s 61 y2) + t.2.2)) hi_275_153 rfl ?_
              refine l25 h18 ma_71 hi_275_155 fun g40 g41 => ?_
              show am_L _ _ _ _ _ [some (.ref 39), some (.int t.1), some (.int y2), some (.int (t.2.1 + (k274 s (kr s 70 (kr s 74 ((kr s 61 y2) + t.2.2))) (kr s 71 (kr s 74 ((kr s 61 y2) + t.2.2))) (kr s 72 (kr s 74 ((kr s 61 y2) + t.2.2)))))), some (.int t.2.2), some (.int (kr s 74 ((kr s 61 y2) + t.2.2))), some (.int 0), some (.int 0)] [.int (kr s 71 (kr s 74 ((kr s 61 y2) + t.2.2))), .int (kr s 70 (kr s 74 ((kr s 61 y2) + t.2.2))), .int y2, .ref 39] _ _
              refine l2 (v := 39) hi_275_156 rfl ?_
              refine l20 (v := .ref 91) h18 hi_275_157 rfl ?_
              refine l1 (v := kr s 74 ((kr s 61 y2) + t.2.2)) hi_275_160 rfl ?_
              refine l25 h18 ma_72 hi_275_162 fun g42 g43 => ?_
              show am_L _ _ _ _ _ [some (.ref 39), some (.int t.1), some (.int y2), some (.int (t.2.1 + (k274 s (kr s 70 (kr s 74 ((kr s 61 y2) + t.2.2))) (kr s 71 (kr s 74 ((kr s 61 y2) + t.2.2))) (kr s 72 (kr s 74 ((kr s 61 y2) + t.2.2)))))), some (.int t.2.2), some (.int (kr s 74 ((kr s 61 y2) + t.2.2))), some (.int 0), some (.int 0)] [.int (kr s 72 (kr s 74 ((kr s 61 y2) + t.2.2))), .int (kr s 71 (kr s 74 ((kr s 61 y2) + t.2.2))), .int (kr s 70 (kr s 74 ((kr s 61 y2) + t.2.2))), .int y2, .ref 39] _ _
              refine l32 (as := [.ref 39, .int y2, .int (kr s 70 (kr s 74 ((kr s 61 y2) + t.2.2))), .int (kr s 71 (kr s 74 ((kr s 61 y2) + t.2.2))), .int (kr s 72 (kr s 74 ((kr s 61 y2) + t.2.2)))]) (la := [some (.ref 39), some (.int y2), some (.int (kr s 70 (kr s 74 ((kr s 61 y2) + t.2.2)))), some (.int (kr s 71 (kr s 74 ((kr s 61 y2) + t.2.2)))), some (.int (kr s 72 (kr s 74 ((kr s 61 y2) + t.2.2)))), none]) (rest := []) hi_275_163 (am_hd0 (M := 275) (by decide) 163) rfl rfl rfl (fun N' d' _ => lt276 (N := N') (d := d') h18) ?_ (fun _ q => nomatch q.1)
              rintro v46 S44 ⟨ev46, h45⟩
              cases ev46
              show am_L _ _ _ _ _ [some (.ref 39), some (.int t.1), some (.int y2), some (.int (t.2.1 + (k274 s (kr s 70 (kr s 74 ((kr s 61 y2) + t.2.2))) (kr s 71 (kr s 74 ((kr s 61 y2) + t.2.2))) (kr s 72 (kr s 74 ((kr s 61 y2) + t.2.2)))))), some (.int t.2.2), some (.int (kr s 74 ((kr s 61 y2) + t.2.2))), some (.int 0), some (.int 0)] [.int (k276 s y2 (kr s 70 (kr s 74 ((kr s 61 y2) + t.2.2))) (kr s 71 (kr s 74 ((kr s 61 y2) + t.2.2))) (kr s 72 (kr s 74 ((kr s 61 y2) + t.2.2))))] _ _
              by_cases c47 : (k276 s y2 (kr s 70 (kr s 74 ((kr s 61 y2) + t.2.2))) (kr s 71 (kr s 74 ((kr s 61 y2) + t.2.2))) (kr s 72 (kr s 74 ((kr s 61 y2) + t.2.2)))) ≠ 0
              · refine l12t hi_275_166 (decide_eq_true c47) ?_
                refine l5 (v := t.2.2) (ls' := [some (.ref 39), some (.int t.1), some (.int y2), some (.int (t.2.1 + (k274 s (kr s 70 (kr s 74 ((kr s 61 y2) + t.2.2))) (kr s 71 (kr s 74 ((kr s 61 y2) + t.2.2))) (kr s 72 (kr s 74 ((kr s 61 y2) + t.2.2)))))), some (.int (t.2.2 + 1)), some (.int (kr s 74 ((kr s 61 y2) + t.2.2))), some (.int 0), some (.int 0)]) hi_275_172 rfl rfl ?_
                refine l18 hi_275_175 ?_
                have e0 : (k275b17 s y2) t = (0, (t.1, t.2.1 + (k274 s (kr s 70 (kr s 74 ((kr s 61 y2) + t.2.2))) (kr s 71 (kr s 74 ((kr s 61 y2) + t.2.2))) (kr s 72 (kr s 74 ((kr s 61 y2) + t.2.2)))), t.2.2 + 1)) := by unfold k275b17; rw [if_neg c3]; rw [if_pos c10]; rw [if_neg c22]; rw [if_pos c36]; rw [if_neg c37]; rw [if_pos c47]
                have e1 : ∀ m, kwh (k275b17 s y2) (m + 1) t = kwh (k275b17 s y2) m (t.1, t.2.1 + (k274 s (kr s 70 (kr s 74 ((kr s 61 y2) + t.2.2))) (kr s 71 (kr s 74 ((kr s 61 y2) + t.2.2))) (kr s 72 (kr s 74 ((kr s 61 y2) + t.2.2)))), t.2.2 + 1) := fun m => by rw [kwh_go (by rw [e0]), e0]
                exact ih _ (some (.int (kr s 74 ((kr s 61 y2) + t.2.2)))) (some (.int 0)) (some (.int 0)) (t.1, t.2.1 + (k274 s (kr s 70 (kr s 74 ((kr s 61 y2) + t.2.2))) (kr s 71 (kr s 74 ((kr s 61 y2) + t.2.2))) (kr s 72 (kr s 74 ((kr s 61 y2) + t.2.2)))), t.2.2 + 1) h45 (fun m S1 p5 p6 p7 hm h1 => by have q := kx178 (m + 1) S1 p5 p6 p7 (by rw [e1]; exact hm) (by exact h1); (try rw [e1] at q); exact q.less (Nat.le_succ N))
              · refine l12f hi_275_166 (decide_eq_false c47) ?_
                refine l5 (v := t.1) (ls' := [some (.ref 39), some (.int (t.1 + 1)), some (.int y2), some (.int (t.2.1 + (k274 s (kr s 70 (kr s 74 ((kr s 61 y2) + t.2.2))) (kr s 71 (kr s 74 ((kr s 61 y2) + t.2.2))) (kr s 72 (kr s 74 ((kr s 61 y2) + t.2.2)))))), some (.int t.2.2), some (.int (kr s 74 ((kr s 61 y2) + t.2.2))), some (.int 0), some (.int 0)]) hi_275_169 rfl rfl ?_
                refine l5 (v := t.2.2) (ls' := [some (.ref 39), some (.int (t.1 + 1)), some (.int y2), some (.int (t.2.1 + (k274 s (kr s 70 (kr s 74 ((kr s 61 y2) + t.2.2))) (kr s 71 (kr s 74 ((kr s 61 y2) + t.2.2))) (kr s 72 (kr s 74 ((kr s 61 y2) + t.2.2)))))), some (.int (t.2.2 + 1)), some (.int (kr s 74 ((kr s 61 y2) + t.2.2))), some (.int 0), some (.int 0)]) hi_275_172 rfl rfl ?_
                refine l18 hi_275_175 ?_
                have e0 : (k275b17 s y2) t = (0, (t.1 + 1, t.2.1 + (k274 s (kr s 70 (kr s 74 ((kr s 61 y2) + t.2.2))) (kr s 71 (kr s 74 ((kr s 61 y2) + t.2.2))) (kr s 72 (kr s 74 ((kr s 61 y2) + t.2.2)))), t.2.2 + 1)) := by unfold k275b17; rw [if_neg c3]; rw [if_pos c10]; rw [if_neg c22]; rw [if_pos c36]; rw [if_neg c37]; rw [if_neg c47]
                have e1 : ∀ m, kwh (k275b17 s y2) (m + 1) t = kwh (k275b17 s y2) m (t.1 + 1, t.2.1 + (k274 s (kr s 70 (kr s 74 ((kr s 61 y2) + t.2.2))) (kr s 71 (kr s 74 ((kr s 61 y2) + t.2.2))) (kr s 72 (kr s 74 ((kr s 61 y2) + t.2.2)))), t.2.2 + 1) := fun m => by rw [kwh_go (by rw [e0]), e0]
                exact ih _ (some (.int (kr s 74 ((kr s 61 y2) + t.2.2)))) (some (.int 0)) (some (.int 0)) (t.1 + 1, t.2.1 + (k274 s (kr s 70 (kr s 74 ((kr s 61 y2) + t.2.2))) (kr s 71 (kr s 74 ((kr s 61 y2) + t.2.2))) (kr s 72 (kr s 74 ((kr s 61 y2) + t.2.2)))), t.2.2 + 1) h45 (fun m S1 p5 p6 p7 hm h1 => by have q := kx178 (m + 1) S1 p5 p6 p7 (by rw [e1]; exact hm) (by exact h1); (try rw [e1] at q); exact q.less (Nat.le_succ N))
          · refine l13f hi_275_116 (decide_eq_false c36) ?_
            refine l0 hi_275_119 ?_
            refine l18 hi_275_120 ?_
            refine l3 (ls' := [some (.ref 39), some (.int t.1), some (.int y2), some (.int (t.2.1 + (k274 s (kr s 70 (kr s 74 ((kr s 61 y2) + t.2.2))) (kr s 71 (kr s 74 ((kr s 61 y2) + t.2.2))) (kr s 72 (kr s 74 ((kr s 61 y2) + t.2.2)))))), some (.int t.2.2), some (.int (kr s 74 ((kr s 61 y2) + t.2.2))), some (.int 0), some (.int 1)]) hi_275_124 (Nat.le_of_ble_eq_true rfl) rfl ?_
            refine l1 (v := 0) hi_275_126 rfl ?_
            refine l12f hi_275_128 (by decide) ?_
            refine l1 (v := t.2.1 + (k274 s (kr s 70 (kr s 74 ((kr s 61 y2) + t.2.2))) (kr s 71 (kr s 74 ((kr s 61 y2) + t.2.2))) (kr s 72 (kr s 74 ((kr s 61 y2) + t.2.2))))) hi_275_131 rfl ?_
            by_cases c48 : (t.2.1 + (k274 s (kr s 70 (kr s 74 ((kr s 61 y2) + t.2.2))) (kr s 71 (kr s 74 ((kr s 61 y2) + t.2.2))) (kr s 72 (kr s 74 ((kr s 61 y2) + t.2.2))))) < 0
            · refine l12t hi_275_132 (decide_eq_true c48) ?_
              refine l5 (v := t.1) (ls' := [some (.ref 39), some (.int (t.1 + 1)), some (.int y2), some (.int (t.2.1 + (k274 s (kr s 70 (kr s 74 ((kr s 61 y2) + t.2.2))) (kr s 71 (kr s 74 ((kr s 61 y2) + t.2.2))) (kr s 72 (kr s 74 ((kr s 61 y2) + t.2.2)))))), some (.int t.2.2), some (.int (kr s 74 ((kr s 61 y2) + t.2.2))), some (.int 0), some (.int 1)]) hi_275_169 rfl rfl ?_
              refine l5 (v := t.2.2) (ls' := [some (.ref 39), some (.int (t.1 + 1)), some (.int y2), some (.int (t.2.1 + (k274 s (kr s 70 (kr s 74 ((kr s 61 y2) + t.2.2))) (kr s 71 (kr s 74 ((kr s 61 y2) + t.2.2))) (kr s 72 (kr s 74 ((kr s 61 y2) + t.2.2)))))), some (.int (t.2.2 + 1)), some (.int (kr s 74 ((kr s 61 y2) + t.2.2))), some (.int 0), some (.int 1)]) hi_275_172 rfl rfl ?_
              refine l18 hi_275_175 ?_
              have e0 : (k275b17 s y2) t = (0, (t.1 + 1, t.2.1 + (k274 s (kr s 70 (kr s 74 ((kr s 61 y2) + t.2.2))) (kr s 71 (kr s 74 ((kr s 61 y2) + t.2.2))) (kr s 72 (kr s 74 ((kr s 61 y2) + t.2.2)))), t.2.2 + 1)) := by unfold k275b17; rw [if_neg c3]; rw [if_pos c10]; rw [if_neg c22]; rw [if_neg c36]; rw [if_pos c48]
              have e1 : ∀ m, kwh (k275b17 s y2) (m + 1) t = kwh (k275b17 s y2) m (t.1 + 1, t.2.1 + (k274 s (kr s 70 (kr s 74 ((kr s 61 y2) + t.2.2))) (kr s 71 (kr s 74 ((kr s 61 y2) + t.2.2))) (kr s 72 (kr s 74 ((kr s 61 y2) + t.2.2)))), t.2.2 + 1) := fun m => by rw [kwh_go (by rw [e0]), e0]
              exact ih _ (some (.int (kr s 74 ((kr s 61 y2) + t.2.2)))) (some (.int 0)) (some (.int 1)) (t.1 + 1, t.2.1 + (k274 s (kr s 70 (kr s 74 ((kr s 61 y2) + t.2.2))) (kr s 71 (kr s 74 ((kr s 61 y2) + t.2.2))) (kr s 72 (kr s 74 ((kr s 61 y2) + t.2.2)))), t.2.2 + 1) h18 (fun m S1 p5 p6 p7 hm h1 => by have q := kx178 (m + 1) S1 p5 p6 p7 (by rw [e1]; exact hm) (by exact h1); (try rw [e1] at q); exact q.less (Nat.le_succ N))
            · refine l12f hi_275_132 (decide_eq_false c48) ?_
              refine l1 (v := 1) hi_275_135 rfl ?_
              refine l12t hi_275_137 (by decide) ?_
              refine l5 (v := t.1) (ls' := [some (.ref 39), some (.int (t.1 + 1)), some (.int y2), some (.int (t.2.1 + (k274 s (kr s 70 (kr s 74 ((kr s 61 y2) + t.2.2))) (kr s 71 (kr s 74 ((kr s 61 y2) + t.2.2))) (kr s 72 (kr s 74 ((kr s 61 y2) + t.2.2)))))), some (.int t.2.2), some (.int (kr s 74 ((kr s 61 y2) + t.2.2))), some (.int 0), some (.int 1)]) hi_275_169 rfl rfl ?_
              refine l5 (v := t.2.2) (ls' := [some (.ref 39), some (.int (t.1 + 1)), some (.int y2), some (.int (t.2.1 + (k274 s (kr s 70 (kr s 74 ((kr s 61 y2) + t.2.2))) (kr s 71 (kr s 74 ((kr s 61 y2) + t.2.2))) (kr s 72 (kr s 74 ((kr s 61 y2) + t.2.2)))))), some (.int (t.2.2 + 1)), some (.int (kr s 74 ((kr s 61 y2) + t.2.2))), some (.int 0), some (.int 1)]) hi_275_172 rfl rfl ?_
              refine l18 hi_275_175 ?_
              have e0 : (k275b17 s y2) t = (0, (t.1 + 1, t.2.1 + (k274 s (kr s 70 (kr s 74 ((kr s 61 y2) + t.2.2))) (kr s 71 (kr s 74 ((kr s 61 y2) + t.2.2))) (kr s 72 (kr s 74 ((kr s 61 y2) + t.2.2)))), t.2.2 + 1)) := by unfold k275b17; rw [if_neg c3]; rw [if_pos c10]; rw [if_neg c22]; rw [if_neg c36]; rw [if_neg c48]
              have e1 : ∀ m, kwh (k275b17 s y2) (m + 1) t = kwh (k275b17 s y2) m (t.1 + 1, t.2.1 + (k274 s (kr s 70 (kr s 74 ((kr s 61 y2) + t.2.2))) (kr s 71 (kr s 74 ((kr s 61 y2) + t.2.2))) (kr s 72 (kr s 74 ((kr s 61 y2) + t.2.2)))), t.2.2 + 1) := fun m => by rw [kwh_go (by rw [e0]), e0]
              exact ih _ (some (.int (kr s 74 ((kr s 61 y2) + t.2.2)))) (some (.int 0)) (some (.int 1)) (t.1 + 1, t.2.1 + (k274 s (kr s 70 (kr s 74 ((kr s 61 y2) + t.2.2))) (kr s 71 (kr s 74 ((kr s 61 y2) + t.2.2))) (kr s 72 (kr s 74 ((kr s 61 y2) + t.2.2)))), t.2.2 + 1) h18 (fun m S1 p5 p6 p7 hm h1 => by have q := kx178 (m + 1) S1 p5 p6 p7 (by rw [e1]; exact hm) (by exact h1); (try rw [e1] at q); exact q.less (Nat.le_succ N))
      · refine l13f hi_275_53 (decide_eq_false c10) ?_
        refine l1 (v := t.2.1) hi_275_56 rfl ?_
        by_cases c49 : t.2.1 = 0
        · refine l12t hi_275_57 (decide_eq_true c49) ?_
          refine l0 hi_275_64 ?_
          refine l3 (ls' := [some (.ref 39), some (.int t.1), some (.int y2), some (.int t.2.1), some (.int t.2.2), some (.int (kr s 74 ((kr s 61 y2) + t.2.2))), some (.int 0), o7]) hi_275_65 (Nat.le_of_ble_eq_true rfl) rfl ?_
          refine l1 (v := t.2.1) hi_275_67 rfl ?_
          refine l2 (v := 39) hi_275_68 rfl ?_
          refine l20 (v := .ref 89) hS hi_275_69 rfl ?_
          refine l1 (v := kr s 74 ((kr s 61 y2) + t.2.2)) hi_275_72 rfl ?_
          refine l25 hS ma_70 hi_275_74 fun g50 g51 => ?_
          show am_L _ _ _ _ _ [some (.ref 39), some (.int t.1), some (.int y2), some (.int t.2.1), some (.int t.2.2), some (.int (kr s 74 ((kr s 61 y2) + t.2.2))), some (.int 0), o7] [.int (kr s 70 (kr s 74 ((kr s 61 y2) + t.2.2))), .int t.2.1] _ _
          refine l2 (v := 39) hi_275_75 rfl ?_
          refine l20 (v := .ref 90) hS hi_275_76 rfl ?_
          refine l1 (v := kr s 74 ((kr s 61 y2) + t.2.2)) hi_275_79 rfl ?_
          refine l25 hS ma_71 hi_275_81 fun g52 g53 => ?_
          show am_L _ _ _ _ _ [some (.ref 39), some (.int t.1), some (.int y2), some (.int t.2.1), some (.int t.2.2), some (.int (kr s 74 ((kr s 61 y2) + t.2.2))), some (.int 0), o7] [.int (kr s 71 (kr s 74 ((kr s 61 y2) + t.2.2))), .int (kr s 70 (kr s 74 ((kr s 61 y2) + t.2.2))), .int t.2.1] _ _
          refine l2 (v := 39) hi_275_82 rfl ?_
          refine l20 (v := .ref 91) hS hi_275_83 rfl ?_
          refine l1 (v := kr s 74 ((kr s 61 y2) + t.2.2)) hi_275_86 rfl ?_
          refine l25 hS ma_72 hi_275_88 fun g54 g55 => ?_
          show am_L _ _ _ _ _ [some (.ref 39), some (.int t.1), some (.int y2), some (.int t.2.1), some (.int t.2.2), some (.int (kr s 74 ((kr s 61 y2) + t.2.2))), some (.int 0), o7] [.int (kr s 72 (kr s 74 ((kr s 61 y2) + t.2.2))), .int (kr s 71 (kr s 74 ((kr s 61 y2) + t.2.2))), .int (kr s 70 (kr s 74 ((kr s 61 y2) + t.2.2))), .int t.2.1] _ _
          refine l32 (as := [.int (kr s 70 (kr s 74 ((kr s 61 y2) + t.2.2))), .int (kr s 71 (kr s 74 ((kr s 61 y2) + t.2.2))), .int (kr s 72 (kr s 74 ((kr s 61 y2) + t.2.2)))]) (la := [some (.int (kr s 70 (kr s 74 ((kr s 61 y2) + t.2.2)))), some (.int (kr s 71 (kr s 74 ((kr s 61 y2) + t.2.2)))), some (.int (kr s 72 (kr s 74 ((kr s 61 y2) + t.2.2))))]) (rest := [.int t.2.1]) hi_275_89 (am_hd0 (M := 275) (by decide) 89) rfl rfl rfl (fun N' d' _ => lt274 (N := N') (d := d') hS) ?_ (fun _ q => nomatch q.1)
          rintro v58 S56 ⟨ev58, h57⟩
          cases ev58
          show am_L _ _ _ _ _ [some (.ref 39), some (.int t.1), some (.int y2), some (.int t.2.1), some (.int t.2.2), some (.int (kr s 74 ((kr s 61 y2) + t.2.2))), some (.int 0), o7] [.int (k274 s (kr s 70 (kr s 74 ((kr s 61 y2) + t.2.2))) (kr s 71 (kr s 74 ((kr s 61 y2) + t.2.2))) (kr s 72 (kr s 74 ((kr s 61 y2) + t.2.2)))), .int t.2.1] _ _
          refine l10 hi_275_92 ?_
          show am_L _ _ _ _ _ [some (.ref 39), some (.int t.1), some (.int y2), some (.int t.2.1), some (.int t.2.2), some (.int (kr s 74 ((kr s 61 y2) + t.2.2))), some (.int 0), o7] [.int (t.2.1 + (k274 s (kr s 70 (kr s 74 ((kr s 61 y2) + t.2.2))) (kr s 71 (kr s 74 ((kr s 61 y2) + t.2.2))) (kr s 72 (kr s 74 ((kr s 61 y2) + t.2.2)))))] _ _
          refine l3 (ls' := [some (.ref 39), some (.int t.1), some (.int y2), some (.int (t.2.1 + (k274 s (kr s 70 (kr s 74 ((kr s 61 y2) + t.2.2))) (kr s 71 (kr s 74 ((kr s 61 y2) + t.2.2))) (kr s 72 (kr s 74 ((kr s 61 y2) + t.2.2)))))), some (.int t.2.2), some (.int (kr s 74 ((kr s 61 y2) + t.2.2))), some (.int 0), o7]) hi_275_93 (Nat.le_of_ble_eq_true rfl) rfl ?_
          refine l1 (v := t.2.2) hi_275_94 rfl ?_
          refine l0 hi_275_96 ?_
          refine l10 hi_275_97 ?_
          show am_L _ _ _ _ _ [some (.ref 39), some (.int t.1), some (.int y2), some (.int (t.2.1 + (k274 s (kr s 70 (kr s 74 ((kr s 61 y2) + t.2.2))) (kr s 71 (kr s 74 ((kr s 61 y2) + t.2.2))) (kr s 72 (kr s 74 ((kr s 61 y2) + t.2.2)))))), some (.int t.2.2), some (.int (kr s 74 ((kr s 61 y2) + t.2.2))), some (.int 0), o7] [.int (t.2.2 + 1)] _ _
          refine l2 (v := 39) hi_275_98 rfl ?_
          refine l20 (v := .ref 81) h57 hi_275_99 rfl ?_
          refine l1 (v := y2) hi_275_102 rfl ?_
          refine l25 h57 ma_60 hi_275_103 fun g59 g60 => ?_
          show am_L _ _ _ _ _ [some (.ref 39), some (.int t.1), some (.int y2), some (.int (t.2.1 + (k274 s (kr s 70 (kr s 74 ((kr s 61 y2) + t.2.2))) (kr s 71 (kr s 74 ((kr s 61 y2) + t.2.2))) (kr s 72 (kr s 74 ((kr s 61 y2) + t.2.2)))))), some (.int t.2.2), some (.int (kr s 74 ((kr s 61 y2) + t.2.2))), some (.int 0), o7] [.int (kr s 60 y2), .int (t.2.2 + 1)] _ _
          by_cases c61 : (t.2.2 + 1) ≠ (kr s 60 y2)
          · refine l13t hi_275_104 (decide_eq_true c61) ?_
            refine l0 hi_275_123 ?_
            refine l3 (ls' := [some (.ref 39), some (.int t.1), some (.int y2), some (.int (t.2.1 + (k274 s (kr s 70 (kr s 74 ((kr s 61 y2) + t.2.2))) (kr s 71 (kr s 74 ((kr s 61 y2) + t.2.2))) (kr s 72 (kr s 74 ((kr s 61 y2) + t.2.2)))))), some (.int t.2.2), some (.int (kr s 74 ((kr s 61 y2) + t.2.2))), some (.int 0), some (.int 0)]) hi_275_124 (Nat.le_of_ble_eq_true rfl) rfl ?_
            refine l1 (v := 0) hi_275_126 rfl ?_
            refine l12f hi_275_128 (by decide) ?_
            refine l1 (v := t.2.1 + (k274 s (kr s 70 (kr s 74 ((kr s 61 y2) + t.2.2))) (kr s 71 (kr s 74 ((kr s 61 y2) + t.2.2))) (kr s 72 (kr s 74 ((kr s 61 y2) + t.2.2))))) hi_275_131 rfl ?_
            by_cases c62 : (t.2.1 + (k274 s (kr s 70 (kr s 74 ((kr s 61 y2) + t.2.2))) (kr s 71 (kr s 74 ((kr s 61 y2) + t.2.2))) (kr s 72 (kr s 74 ((kr s 61 y2) + t.2.2))))) < 0
            · refine l12t hi_275_132 (decide_eq_true c62) ?_
              refine l5 (v := t.1) (ls' := [some (.ref 39), some (.int (t.1 + 1)), some (.int y2), some (.int (t.2.1 + (k274 s (kr s 70 (kr s 74 ((kr s 61 y2) + t.2.2))) (kr s 71 (kr s 74 ((kr s 61 y2) + t.2.2))) (kr s 72 (kr s 74 ((kr s 61 y2) + t.2.2)))))), some (.int t.2.2), some (.int (kr s 74 ((kr s 61 y2) + t.2.2))), some (.int 0), some (.int 0)]) hi_275_169 rfl rfl ?_
              refine l5 (v := t.2.2) (ls' := [some (.ref 39), some (.int (t.1 + 1)), some (.int y2), some (.int (t.2.1 + (k274 s (kr s 70 (kr s 74 ((kr s 61 y2) + t.2.2))) (kr s 71 (kr s 74 ((kr s 61 y2) + t.2.2))) (kr s 72 (kr s 74 ((kr s 61 y2) + t.2.2)))))), some (.int (t.2.2 + 1)), some (.int (kr s 74 ((kr s 61 y2) + t.2.2))), some (.int 0), some (.int 0)]) hi_275_172 rfl rfl ?_
              refine l18 hi_275_175 ?_
              have e0 : (k275b17 s y2) t = (0, (t.1 + 1, t.2.1 + (k274 s (kr s 70 (kr s 74 ((kr s 61 y2) + t.2.2))) (kr s 71 (kr s 74 ((kr s 61 y2) + t.2.2))) (kr s 72 (kr s 74 ((kr s 61 y2) + t.2.2)))), t.2.2 + 1)) := by unfold k275b17; rw [if_neg c3]; rw [if_neg c10]; rw [if_pos c49]; rw [if_pos c61]; rw [if_pos c62]
              have e1 : ∀ m, kwh (k275b17 s y2) (m + 1) t = kwh (k275b17 s y2) m (t.1 + 1, t.2.1 + (k274 s (kr s 70 (kr s 74 ((kr s 61 y2) + t.2.2))) (kr s 71 (kr s 74 ((kr s 61 y2) + t.2.2))) (kr s 72 (kr s 74 ((kr s 61 y2) + t.2.2)))), t.2.2 + 1) := fun m => by rw [kwh_go (by rw [e0]), e0]
              exact ih _ (some (.int (kr s 74 ((kr s 61 y2) + t.2.2)))) (some (.int 0)) (some (.int 0)) (t.1 + 1, t.2.1 + (k274 s (kr s 70 (kr s 74 ((kr s 61 y2) + t.2.2))) (kr s 71 (kr s 74 ((kr s 61 y2) + t.2.2))) (kr s 72 (kr s 74 ((kr s 61 y2) + t.2.2)))), t.2.2 + 1) h57 (fun m S1 p5 p6 p7 hm h1 => by have q := kx178 (m + 1) S1 p5 p6 p7 (by rw [e1]; exact hm) (by exact h1); (try rw [e1] at q); exact q.less (Nat.le_succ N))
            · refine l12f hi_275_132 (decide_eq_false c62) ?_
              refine l1 (v := 0) hi_275_135 rfl ?_
              refine l12f hi_275_137 (by decide) ?_
              refine l2 (v := 39) hi_275_140 rfl ?_
              refine l1 (v := y2) hi_275_141 rfl ?_
              refine l2 (v := 39) hi_275_142 rfl ?_
              refine l20 (v := .ref 89) h57 hi_275_143 rfl ?_
              refine l1 (v := kr s 74 ((kr s 61 y2) + t.2.2)) hi_275_146 rfl ?_
              refine l25 h57 ma_70 hi_275_148 fun g63 g64 => ?_
              show am_L _ _ _ _ _ [some (.ref 39), some (.int t.1), some (.int y2), some (.int (t.2.1 + (k274 s (kr s 70 (kr s 74 ((kr s 61 y2) + t.2.2))) (kr s 71 (kr s 74 ((kr s 61 y2) + t.2.2))) (kr s 72 (kr s 74 ((kr s 61 y2) + t.2.2)))))), some (.int t.2.2), some (.int (kr s 74 ((kr s 61 y2) + t.2.2))), some (.int 0), some (.int 0)] [.int (kr s 70 (kr s 74 ((kr s 61 y2) + t.2.2))), .int y2, .ref 39] _ _
              refine l2 (v := 39) hi_275_149 rfl ?_
              refine l20 (v := .ref 90) h57 hi_275_150 rfl ?_
              refine l1 (v := kr s 74 ((kr s 61 y2) + t.2.2)) hi_275_153 rfl ?_
              refine l25 h57 ma_71 hi_275_155 fun g65 g66 => ?_
              show am_L _ _ _ _ _ [some (.ref 39), some (.int t.1), some (.int y2), some (.int (t.2.1 + (k274 s (kr s 70 (kr s 74 ((kr s 61 y2) + t.2.2))) (kr s 71 (kr s 74 ((kr s 61 y2) + t.2.2))) (kr s 72 (kr s 74 ((kr s 61 y2) + t.2.2)))))), some (.int t.2.2), some (.int (kr s 74 ((kr s 61 y2) + t.2.2))), some (.int 0), some (.int 0)] [.int (kr s 71 (kr s 74 ((kr s 61 y2) + t.2.2))), .int (kr s 70 (kr s 74 ((kr s 61 y2) + t.2.2))), .int y2, .ref 39] _ _
              refine l2 (v := 39) hi_275_156 rfl ?_
              refine l20 (v := .ref 91) h57 hi_275_157 rfl ?_
              refine l1 (v := kr s 74 ((kr s 61 y2) + t.2.2)) hi_275_160 rfl ?_
              refine l25 h57 ma_72 hi_275_162 fun g67 g68 => ?_
              show am_L _ _ _ _ _ [some (.ref 39), some (.int t.1), some (.int y2), some (.int (t.2.1 + (k274 s (kr s 70 (kr s 74 ((kr s 61 y2) + t.2.2))) (kr s 71 (kr s 74 ((kr s 61 y2) + t.2.2))) (kr s 72 (kr s 74 ((kr s 61 y2) + t.2.2)))))), some (.int t.2.2), some (.int (kr s 74 ((kr s 61 y2) + t.2.2))), some (.int 0), some (.int 0)] [.int (kr s 72 (kr s 74 ((kr s 61 y2) + t.2.2))), .int (kr s 71 (kr s 74 ((kr s 61 y2) + t.2.2))), .int (kr s 70 (kr s 74 ((kr s 61 y2) + t.2.2))), .int y2, .ref 39] _ _
              refine l32 (as := [.ref 39, .int y2, .int (kr s 70 (kr s 74 ((kr s 61 y2) + t.2.2))), .int (kr s 71 (kr s 74 ((kr s 61 y2) + t.2.2))), .int (kr s 72 (kr s 74 ((kr s 61 y2) + t.2.2)))]) (la := [some (.ref 39), some (.int y2), some (.int (kr s 70 (kr s 74 ((kr s 61 y2) + t.2.2)))), some (.int (kr s 71 (kr s 74 ((kr s 61 y2) + t.2.2)))), some (.int (kr s 72 (kr s 74 ((kr s 61 y2) + t.2.2)))), none]) (rest := []) hi_275_163 (am_hd0 (M := 275) (by decide) 163) rfl rfl rfl (fun N' d' _ => lt276 (N := N') (d := d') h57) ?_ (fun _ q => nomatch q.1)
              rintro v71 S69 ⟨ev71, h70⟩
              cases ev71
              show am_L _ _ _ _ _ [some (.ref 39), some (.int t.1), some (.int y2), some (.int (t.2.1 + (k274 s (kr s 70 (kr s 74 ((kr s 61 y2) + t.2.2))) (kr s 71 (kr s 74 ((kr s 61 y2) + t.2.2))) (kr s 72 (kr s 74 ((kr s 61 y2) + t.2.2)))))), some (.int t.2.2), some (.int (kr s 74 ((kr s 61 y2) + t.2.2))), some (.int 0), some (.int 0)] [.int (k276 s y2 (kr s 70 (kr s 74 ((kr s 61 y2) + t.2.2))) (kr s 71 (kr s 74 ((kr s 61 y2) + t.2.2))) (kr s 72 (kr s 74 ((kr s 61 y2) + t.2.2))))] _ _
              by_cases c72 : (k276 s y2 (kr s 70 (kr s 74 ((kr s 61 y2) + t.2.2))) (kr s 71 (kr s 74 ((kr s 61 y2) + t.2.2))) (kr s 72 (kr s 74 ((kr s 61 y2) + t.2.2)))) ≠ 0
              · refine l12t hi_275_166 (decide_eq_true c72) ?_
                refine l5 (v := t.2.2) (ls' := [some (.ref 39), some (.int t.1), some (.int y2), some (.int (t.2.1 + (k274 s (kr s 70 (kr s 74 ((kr s 61 y2) + t.2.2))) (kr s 71 (kr s 74 ((kr s 61 y2) + t.2.2))) (kr s 72 (kr s 74 ((kr s 61 y2) + t.2.2)))))), some (.int (t.2.2 + 1)), some (.int (kr s 74 ((kr s 61 y2) + t.2.2))), some (.int 0), some (.int 0)]) hi_275_172 rfl rfl ?_
                refine l18 hi_275_175 ?_
                have e0 : (k275b17 s y2) t = (0, (t.1, t.2.1 + (k274 s (kr s 70 (kr s 74 ((kr s 61 y2) + t.2.2))) (kr s 71 (kr s 74 ((kr s 61 y2) + t.2.2))) (kr s 72 (kr s 74 ((kr s 61 y2) + t.2.2)))), t.2.2 + 1)) := by unfold k275b17; rw [if_neg c3]; rw [if_neg c10]; rw [if_pos c49]; rw [if_pos c61]; rw [if_neg c62]; rw [if_pos c72]
                have e1 : ∀ m, kwh (k275b17 s y2) (m + 1) t = kwh (k275b17 s y2) m (t.1, t.2.1 + (k274 s (kr s 70 (kr s 74 ((kr s 61 y2) + t.2.2))) (kr s 71 (kr s 74 ((kr s 61 y2) + t.2.2))) (kr s 72 (kr s 74 ((kr s 61 y2) + t.2.2)))), t.2.2 + 1) := fun m => by rw [kwh_go (by rw [e0]), e0]
                exact ih _ (some (.int (kr s 74 ((kr s 61 y2) + t.2.2)))) (some (.int 0)) (some (.int 0)) (t.1, t.2.1 + (k274 s (kr s 70 (kr s 74 ((kr s 61 y2) + t.2.2))) (kr s 71 (kr s 74 ((kr s 61 y2) + t.2.2))) (kr s 72 (kr s 74 ((kr s 61 y2) + t.2.2)))), t.2.2 + 1) h70 (fun m S1 p5 p6 p7 hm h1 => by have q := kx178 (m + 1) S1 p5 p6 p7 (by rw [e1]; exact hm) (by exact h1); (try rw [e1] at q); exact q.less (Nat.le_succ N))
              · refine l12f hi_275_166 (decide_eq_false c72) ?_
                refine l5 (v := t.1) (ls' := [some (.ref 39), some (.int (t.1 + 1)), some (.int y2), some (.int (t.2.1 + (k274 s (kr s 70 (kr s 74 ((kr s 61 y2) + t.2.2))) (kr s 71 (kr s 74 ((kr s 61 y2) + t.2.2))) (kr s 72 (kr s 74 ((kr s 61 y2) + t.2.2)))))), some (.int t.2.2), some (.int (kr s 74 ((kr s 61 y2) + t.2.2))), some (.int 0), some (.int 0)]) hi_275_169 rfl rfl ?_
                refine l5 (v := t.2.2) (ls' := [some (.ref 39), some (.int (t.1 + 1)), some (.int y2), some (.int (t.2.1 + (k274 s (kr s 70 (kr s 74 ((kr s 61 y2) + t.2.2))) (kr s 71 (kr s 74 ((kr s 61 y2) + t.2.2))) (kr s 72 (kr s 74 ((kr s 61 y2) + t.2.2)))))), some (.int (t.2.2 + 1)), some (.int (kr s 74 ((kr s 61 y2) + t.2.2))), some (.int 0), some (.int 0)]) hi_275_172 rfl rfl ?_
                refine l18 hi_275_175 ?_
                have e0 : (k275b17 s y2) t = (0, (t.1 + 1, t.2.1 + (k274 s (kr s 70 (kr s 74 ((kr s 61 y2) + t.2.2))) (kr s 71 (kr s 74 ((kr s 61 y2) + t.2.2))) (kr s 72 (kr s 74 ((kr s 61 y2) + t.2.2)))), t.2.2 + 1)) := by unfold k275b17; rw [if_neg c3]; rw [if_neg c10]; rw [if_pos c49]; rw [if_pos c61]; rw [if_neg c62]; rw [if_neg c72]
                have e1 : ∀ m, kwh (k275b17 s y2) (m + 1) t = kwh (k275b17 s y2) m (t.1 + 1, t.2.1 + (k274 s (kr s 70 (kr s 74 ((kr s 61 y2) + t.2.2))) (kr s 71 (kr s 74 ((kr s 61 y2) + t.2.2))) (kr s 72 (kr s 74 ((kr s 61 y2) + t.2.2)))), t.2.2 + 1) := fun m => by rw [kwh_go (by rw [e0]), e0]
                exact ih _ (some (.int (kr s 74 ((kr s 61 y2) + t.2.2)))) (some (.int 0)) (some (.int 0)) (t.1 + 1, t.2.1 + (k274 s (kr s 70 (kr s 74 ((kr s 61 y2) + t.2.2))) (kr s 71 (kr s 74 ((kr s 61 y2) + t.2.2))) (kr s 72 (kr s 74 ((kr s 61 y2) + t.2.2)))), t.2.2 + 1) h70 (fun m S1 p5 p6 p7 hm h1 => by have q := kx178 (m + 1) S1 p5 p6 p7 (by rw [e1]; exact hm) (by exact h1); (try rw [e1] at q); exact q.less (Nat.le_succ N))
          · refine l13f hi_275_104 (decide_eq_false c61) ?_
            refine l2 (v := 39) hi_275_107 rfl ?_
            refine l20 (v := .ref 89) h57 hi_275_108 rfl ?_
            refine l1 (v := kr s 74 ((kr s 61 y2) + t.2.2)) hi_275_111 rfl ?_
            refine l25 h57 ma_70 hi_275_113 fun g73 g74 => ?_
            show am_L _ _ _ _ _ [some (.ref 39), some (.int t.1), some (.int y2), some (.int (t.2.1 + (k274 s (kr s 70 (kr s 74 ((kr s 61 y2) + t.2.2))) (kr s 71 (kr s 74 ((kr s 61 y2) + t.2.2))) (kr s 72 (kr s 74 ((kr s 61 y2) + t.2.2)))))), some (.int t.2.2), some (.int (kr s 74 ((kr s 61 y2) + t.2.2))), some (.int 0), o7] [.int (kr s 70 (kr s 74 ((kr s 61 y2) + t.2.2)))] _ _
            refine l0 hi_275_114 ?_
            by_cases c75 : (kr s 70 (kr s 74 ((kr s 61 y2) + t.2.2))) = 45
            · refine l13t hi_275_116 (decide_eq_true c75) ?_
              refine l0 hi_275_123 ?_
              refine l3 (ls' := [some (.ref 39), some (.int t.1), some (.int y2), some (.int (t.2.1 + (k274 s (kr s 70 (kr s 74 ((kr s 61 y2) + t.2.2))) (kr s 71 (kr s 74 ((kr s 61 y2) + t.2.2))) (kr s 72 (kr s 74 ((kr s 61 y2) + t.2.2)))))), some (.int t.2.2), some (.int (kr s 74 ((kr s 61 y2) + t.2.2))), some (.int 0), some (.int 0)]) hi_275_124 (Nat.le_of_ble_eq_true rfl) rfl ?_
              refine l1 (v := 0) hi_275_126 rfl ?_
              refine l12f hi_275_128 (by decide) ?_
              refine l1 (v := t.2.1 + (k274 s (kr s 70 (kr s 74 ((kr s 61 y2) + t.2.2))) (kr s 71 (kr s 74 ((kr s 61 y2) + t.2.2))) (kr s 72 (kr s 74 ((kr s 61 y2) + t.2.2))))) hi_275_131 rfl ?_
              by_cases c76 : (t.2.1 + (k274 s (kr s 70 (kr s 74 ((kr s 61 y2) + t.2.2))) (kr s 71 (kr s 74 ((kr s 61 y2) + t.2.2))) (kr s 72 (kr s 74 ((kr s 61 y2) + t.2.2))))) < 0
              · refine l12t hi_275_132 (decide_eq_true c76) ?_
                refine l5 (v := t.1) (ls' := [some (.ref 39), some (.int (t.1 + 1)), some (.int y2), some (.int (t.2.1 + (k274 s (kr s 70 (kr s 74 ((kr s 61 y2) + t.2.2))) (kr s 71 (kr s 74 ((kr s 61 y2) + t.2.2))) (kr s 72 (kr s 74 ((kr s 61 y2) + t.2.2)))))), some (.int t.2.2), some (.int (kr s 74 ((kr s 61 y2) + t.2.2))), some (.int 0), some (.int 0)]) hi_275_169 rfl rfl ?_
                refine l5 (v := t.2.2) (ls' := [some (.ref 39), some (.int (t.1 + 1)), some (.int y2), some (.int (t.2.1 + (k274 s (kr s 70 (kr s 74 ((kr s 61 y2) + t.2.2))) (kr s 71 (kr s 74 ((kr s 61 y2) + t.2.2))) (kr s 72 (kr s 74 ((kr s 61 y2) + t.2.2)))))), some (.int (t.2.2 + 1)), some (.int (kr s 74 ((kr s 61 y2) + t.2.2))), some (.int 0), some (.int 0)]) hi_275_172 rfl rfl ?_
                refine l18 hi_275_175 ?_
                have e0 : (k275b17 s y2) t = (0, (t.1 + 1, t.2.1 + (k274 s (kr s 70 (kr s 74 ((kr s 61 y2) + t.2.2))) (kr s 71 (kr s 74 ((kr s 61 y2) + t.2.2))) (kr s 72 (kr s 74 ((kr s 61 y2) + t.2.2)))), t.2.2 + 1)) := by unfold k275b17; rw [if_neg c3]; rw [if_neg c10]; rw [if_pos c49]; rw [if_neg c61]; rw [if_pos c75]; rw [if_pos c76]
                have e1 : ∀ m, kwh (k275b17 s y2) (m + 1) t = kwh (k275b17 s y2) m (t.1 + 1, t.2.1 + (k274 s (kr s 70 (kr s 74 ((kr s 61 y2) + t.2.2))) (kr s 71 (kr s 74 ((kr s 61 y2) + t.2.2))) (kr s 72 (kr s 74 ((kr s 61 y2) + t.2.2)))), t.2.2 + 1) := fun m => by rw [kwh_go (by rw [e0]), e0]
                exact ih _ (some (.int (kr s 74 ((kr s 61 y2) + t.2.2)))) (some (.int 0)) (some (.int 0)) (t.1 + 1, t.2.1 + (k274 s (kr s 70 (kr s 74 ((kr s 61 y2) + t.2.2))) (kr s 71 (kr s 74 ((kr s 61 y2) + t.2.2))) (kr s 72 (kr s 74 ((kr s 61 y2) + t.2.2)))), t.2.2 + 1) h57 (fun m S1 p5 p6 p7 hm h1 => by have q := kx178 (m + 1) S1 p5 p6 p7 (by rw [e1]; exact hm) (by exact h1); (try rw [e1] at q); exact q.less (Nat.le_succ N))
              · refine l12f hi_275_132 (decide_eq_false c76) ?_
                refine l1 (v := 0) hi_275_135 rfl ?_
                refine l12f hi_275_137 (by decide) ?_
                refine l2 (v := 39) hi_275_140 rfl ?_
                refine l1 (v := y2) hi_275_141 rfl ?_
                refine l2 (v := 39) hi_275_142 rfl ?_
                refine l20 (v := .ref 89) h57 hi_275_143 rfl ?_
                refine l1 (v := kr s 74 ((kr s 61 y2) + t.2.2)) hi_275_146 rfl ?_
                refine l25 h57 ma_70 hi_275_148 fun g77 g78 => ?_
                show am_L _ _ _ _ _ [some (.ref 39), some (.int t.1), some (.int y2), some (.int (t.2.1 + (k274 s (kr s 70 (kr s 74 ((kr s 61 y2) + t.2.2))) (kr s 71 (kr s 74 ((kr s 61 y2) + t.2.2))) (kr s 72 (kr s 74 ((kr s 61 y2) + t.2.2)))))), some (.int t.2.2), some (.int (kr s 74 ((kr s 61 y2) + t.2.2))), some (.int 0), some (.int 0)] [.int (kr s 70 (kr s 74 ((kr s 61 y2) + t.2.2))), .int y2, .ref 39] _ _
                refine l2 (v := 39) hi_275_149 rfl ?_
                refine l20 (v := .ref 90) h57 hi_275_150 rfl ?_
                refine l1 (v := kr s 74 ((kr s 61 y2) + t.2.2)) hi_275_153 rfl ?_
                refine l25 h57 ma_71 hi_275_155 fun g79 g80 => ?_
                show am_L _ _ _ _ _ [some (.ref 39), some (.int t.1), some (.int y2), some (.int (t.2.1 + (k274 s (kr s 70 (kr s 74 ((kr s 61 y2) + t.2.2))) (kr s 71 (kr s 74 ((kr s 61 y2) + t.2.2))) (kr s 72 (kr s 74 ((kr s 61 y2) + t.2.2)))))), some (.int t.2.2), some (.int (kr s 74 ((kr s 61 y2) + t.2.2))), some (.int 0), some (.int 0)] [.int (kr s 71 (kr s 74 ((kr s 61 y2) + t.2.2))), .int (kr s 70 (kr s 74 ((kr s 61 y2) + t.2.2))), .int y2, .ref 39] _ _
                refine l2 (v := 39) hi_275_156 rfl ?_
                refine l20 (v := .ref 91) h57 hi_275_157 rfl ?_
                refine l1 (v := kr s 74 ((kr s 61 y2) + t.2.2)) hi_275_160 rfl ?_
                refine l25 h57 ma_72 hi_275_162 fun g81 g82 => ?_
                show am_L _ _ _ _ _ [some (.ref 39), some (.int t.1), some (.int y2), some (.int (t.2.1 + (k274 s (kr s 70 (kr s 74 ((kr s 61 y2) + t.2.2))) (kr s 71 (kr s 74 ((kr s 61 y2) + t.2.2))) (kr s 72 (kr s 74 ((kr s 61 y2) + t.2.2)))))), some (.int t.2.2), some (.int (kr s 74 ((kr s 61 y2) + t.2.2))), some (.int 0), some (.int 0)] [.int (kr s 72 (kr s 74 ((kr s 61 y2) + t.2.2))), .int (kr s 71 (kr s 74 ((kr s 61 y2) + t.2.2))), .int (kr s 70 (kr s 74 ((kr s 61 y2) + t.2.2))), .int y2, .ref 39] _ _
                refine l32 (as := [.ref 39, .int y2, .int (kr s 70 (kr s 74 ((kr s 61 y2) + t.2.2))), .int (kr s 71 (kr s 74 ((kr s 61 y2) + t.2.2))), .int (kr s 72 (kr s 74 ((kr s 61 y2) + t.2.2)))]) (la := [some (.ref 39), some (.int y2), some (.int (kr s 70 (kr s 74 ((kr s 61 y2) + t.2.2)))), some (.int (kr s 71 (kr s 74 ((kr s 61 y2) + t.2.2)))), some (.int (kr s 72 (kr s 74 ((kr s 61 y2) + t.2.2)))), none]) (rest := []) hi_275_163 (am_hd0 (M := 275) (by decide) 163) rfl rfl rfl (fun N' d' _ => lt276 (N := N') (d := d') h57) ?_ (fun _ q => nomatch q.1)
                rintro v85 S83 ⟨ev85, h84⟩
                cases ev85
                show am_L _ _ _ _ _ [some (.ref 39), some (.int t.1), some (.int y2), some (.int (t.2.1 + (k274 s (kr s 70 (kr s 74 ((kr s 61 y2) + t.2.2))) (kr s 71 (kr s 74 ((kr s 61 y2) + t.2.2))) (kr s 72 (kr s 74 ((kr s 61 y2) + t.2.2)))))), some (.int t.2.2), some (.int (kr s 74 ((kr s 61 y2) + t.2.2))), some (.int 0), some (.int 0)] [.int (k276 s y2 (kr s 70 (kr s 74 ((kr s 61 y2) + t.2.2))) (kr s 71 (kr s 74 ((kr s 61 y2) + t.2.2))) (kr s 72 (kr s 74 ((kr s 61 y2) + t.2.2))))] _ _
                by_cases c86 : (k276 s y2 (kr s 70 (kr s 74 ((kr s 61 y2) + t.2.2))) (kr s 71 (kr s 74 ((kr s 61 y2) + t.2.2))) (kr s 72 (kr s 74 ((kr s 61 y2) + t.2.2)))) ≠ 0
                · refine l12t hi_275_166 (decide_eq_true c86) ?_
                  refine l5 (v := t.2.2) (ls' := [some (.ref 39), some (.int t.1), some (.int y2), some (.int (t.2.1 + (k274 s (kr s 70 (kr s 74 ((kr s 61 y2) + t.2.2))) (kr s 71 (kr s 74 ((kr s 61 y2) + t.2.2))) (kr s 72 (kr s 74 ((kr s 61 y2) + t.2.2)))))), some (.int (t.2.2 + 1)), some (.int (kr s 74 ((kr s 61 y2) + t.2.2))), some (.int 0), some (.int 0)]) hi_275_172 rfl rfl ?_
                  refine l18 hi_275_175 ?_
                  have e0 : (k275b17 s y2) t = (0, (t.1, t.2.1 + (k274 s (kr s 70 (kr s 74 ((kr s 61 y2) + t.2.2))) (kr s 71 (kr s 74 ((kr s 61 y2) + t.2.2))) (kr s 72 (kr s 74 ((kr s 61 y2) + t.2.2)))), t.2.2 + 1)) := by unfold k275b17; rw [if_neg c3]; rw [if_neg c10]; rw [if_pos c49]; rw [if_neg c61]; rw [if_pos c75]; rw [if_neg c76]; rw [if_pos c86]
                  have e1 : ∀ m, kwh (k275b17 s y2) (m + 1) t = kwh (k275b17 s y2) m (t.1, t.2.1 + (k274 s (kr s 70 (kr s 74 ((kr s 61 y2) + t.2.2))) (kr s 71 (kr s 74 ((kr s 61 y2) + t.2.2))) (kr s 72 (kr s 74 ((kr s 61 y2) + t.2.2)))), t.2.2 + 1) := fun m => by rw [kwh_go (by rw [e0]), e0]
                  exact ih _ (some (.int (kr s 74 ((kr s 61 y2) + t.2.2)))) (some (.int 0)) (some (.int 0)) (t.1, t.2.1 + (k274 s (kr s 70 (kr s 74 ((kr s 61 y2) + t.2.2))) (kr s 71 (kr s 74 ((kr s 61 y2) + t.2.2))) (kr s 72 (kr s 74 ((kr s 61 y2) + t.2.2)))), t.2.2 + 1) h84 (fun m S1 p5 p6 p7 hm h1 => by have q := kx178 (m + 1) S1 p5 p6 p7 (by rw [e1]; exact hm) (by exact h1); (try rw [e1] at q); exact q.less (Nat.le_succ N))
                · refine l12f hi_275_166 (decide_eq_false c86) ?_
                  refine l5 (v := t.1) (ls' := [some (.ref 39), some (.int (t.1 + 1)), some (.int y2), some (.int (t.2.1 + (k274 s (kr s 70 (kr s 74 ((kr s 61 y2) + t.2.2))) (kr s 71 (kr s 74 ((kr s 61 y2) + t.2.2))) (kr s 72 (kr s 74 ((kr s 61 y2) + t.2.2)))))), some (.int t.2.2), some (.int (kr s 74 ((kr s 61 y2) + t.2.2))), some (.int 0), some (.int 0)]) hi_275_169 rfl rfl ?_
                  refine l5 (v := t.2.2) (ls' := [some (.ref 39), some (.int (t.1 + 1)), some (.int y2), some (.int (t.2.1 + (k274 s (kr s 70 (kr s 74 ((kr s 61 y2) + t.2.2))) (kr s 71 (kr s 74 ((kr s 61 y2) + t.2.2))) (kr s 72 (kr s 74 ((kr s 61 y2) + t.2.2)))))), some (.int (t.2.2 + 1)), some (.int (kr s 74 ((kr s 61 y2) + t.2.2))), some (.int 0), some (.int 0)]) hi_275_172 rfl rfl ?_
                  refine l18 hi_275_175 ?_
                  have e0 : (k275b17 s y2) t = (0, (t.1 + 1, t.2.1 + (k274 s (kr s 70 (kr s 74 ((kr s 61 y2) + t.2.2))) (kr s 71 (kr s 74 ((kr s 61 y2) + t.2.2))) (kr s 72 (kr s 74 ((kr s 61 y2) + t.2.2)))), t.2.2 + 1)) := by unfold k275b17; rw [if_neg c3]; rw [if_neg c10]; rw [if_pos c49]; rw [if_neg c61]; rw [if_pos c75]; rw [if_neg c76]; rw [if_neg c86]
                  have e1 : ∀ m, kwh (k275b17 s y2) (m + 1) t = kwh (k275b17 s y2) m (t.1 + 1, t.2.1 + (k274 s (kr s 70 (kr s 74 ((kr s 61 y2) + t.2.2))) (kr s 71 (kr s 74 ((kr s 61 y2) + t.2.2))) (kr s 72 (kr s 74 ((kr s 61 y2) + t.2.2)))), t.2.2 + 1) := fun m => by rw [kwh_go (by rw [e0]), e0]
                  exact ih _ (some (.int (kr s 74 ((kr s 61 y2) + t.2.2)))) (some (.int 0)) (some (.int 0)) (t.1 + 1, t.2.1 + (k274 s (kr s 70 (kr s 74 ((kr s 61 y2) + t.2.2))) (kr s 71 (kr s 74 ((kr s 61 y2) + t.2.2))) (kr s 72 (kr s 74 ((kr s 61 y2) + t.2.2)))), t.2.2 + 1) h84 (fun m S1 p5 p6 p7 hm h1 => by have q := kx178 (m + 1) S1 p5 p6 p7 (by rw [e1]; exact hm) (by exact h1); (try rw [e1] at q); exact q.less (Nat.le_succ N))
            · refine l13f hi_275_116 (decide_eq_false c75) ?_
              refine l0 hi_275_119 ?_
              refine l18 hi_275_120 ?_
              refine l3 (ls' := [some (.ref 39), some (.int t.1), some (.int y2), some (.int (t.2.1 + (k274 s (kr s 70 (kr s 74 ((kr s 61 y2) + t.2.2))) (kr s 71 (kr s 74 ((kr s 61 y2) + t.2.2))) (kr s 72 (kr s 74 ((kr s 61 y2) + t.2.2)))))), some (.int t.2.2), some (.int (kr s 74 ((kr s 61 y2) + t.2.2))), some (.int 0), some (.int 1)]) hi_275_124 (Nat.le_of_ble_eq_true rfl) rfl ?_
              refine l1 (v := 0) hi_275_126 rfl ?_
              refine l12f hi_275_128 (by decide) ?_
              refine l1 (v := t.2.1 + (k274 s (kr s 70 (kr s 74 ((kr s 61 y2) + t.2.2))) (kr s 71 (kr s 74 ((kr s 61 y2) + t.2.2))) (kr s 72 (kr s 74 ((kr s 61 y2) + t.2.2))))) hi_275_131 rfl ?_
              by_cases c87 : (t.2.1 + (k274 s (kr s 70 (kr s 74 ((kr s 61 y2) + t.2.2))) (kr s 71 (kr s 74 ((kr s 61 y2) + t.2.2))) (kr s 72 (kr s 74 ((kr s 61 y2) + t.2.2))))) < 0
              · refine l12t hi_275_132 (decide_eq_true c87) ?_
                refine l5 (v := t.1) (ls' := [some (.ref 39), some (.int (t.1 + 1)), some (.int y2), some (.int (t.2.1 + (k274 s (kr s 70 (kr s 74 ((kr s 61 y2) + t.2.2))) (kr s 71 (kr s 74 ((kr s 61 y2) + t.2.2))) (kr s 72 (kr s 74 ((kr s 61 y2) + t.2.2)))))), some (.int t.2.2), some (.int (kr s 74 ((kr s 61 y2) + t.2.2))), some (.int 0), some (.int 1)]) hi_275_169 rfl rfl ?_
                refine l5 (v := t.2.2) (ls' := [some (.ref 39), some (.int (t.1 + 1)), some (.int y2), some (.int (t.2.1 + (k274 s (kr s 70 (kr s 74 ((kr s 61 y2) + t.2.2))) (kr s 71 (kr s 74 ((kr s 61 y2) + t.2.2))) (kr s 72 (kr s 74 ((kr s 61 y2) + t.2.2)))))), some (.int (t.2.2 + 1)), some (.int (kr s 74 ((kr s 61 y2) + t.2.2))), some (.int 0), some (.int 1)]) hi_275_172 rfl rfl ?_
                refine l18 hi_275_175 ?_
                have e0 : (k275b17 s y2) t = (0, (t.1 + 1, t.2.1 + (k274 s (kr s 70 (kr s 74 ((kr s 61 y2) + t.2.2))) (kr s 71 (kr s 74 ((kr s 61 y2) + t.2.2))) (kr s 72 (kr s 74 ((kr s 61 y2) + t.2.2)))), t.2.2 + 1)) := by unfold k275b17; rw [if_neg c3]; rw [if_neg c10]; rw [if_pos c49]; rw [if_neg c61]; rw [if_neg c75]; rw [if_pos c87]
                have e1 : ∀ m, kwh (k275b17 s y2) (m + 1) t = kwh (k275b17 s y2) m (t.1 + 1, t.2.1 + (k274 s (kr s 70 (kr s 74 ((kr s 61 y2) + t.2.2))) (kr s 71 (kr s 74 ((kr s 61 y2) + t.2.2))) (kr s 72 (kr s 74 ((kr s 61 y2) + t.2.2)))), t.2.2 + 1) := fun m => by rw [kwh_go (by rw [e0]), e0]
                exact ih _ (some (.int (kr s 74 ((kr s 61 y2) + t.2.2)))) (some (.int 0)) (some (.int 1)) (t.1 + 1, t.2.1 + (k274 s (kr s 70 (kr s 74 ((kr s 61 y2) + t.2.2))) (kr s 71 (kr s 74 ((kr s 61 y2) + t.2.2))) (kr s 72 (kr s 74 ((kr s 61 y2) + t.2.2)))), t.2.2 + 1) h57 (fun m S1 p5 p6 p7 hm h1 => by have q := kx178 (m + 1) S1 p5 p6 p7 (by rw [e1]; exact hm) (by exact h1); (try rw [e1] at q); exact q.less (Nat.le_succ N))
              · refine l12f hi_275_132 (decide_eq_false c87) ?_
                refine l1 (v := 1) hi_275_135 rfl ?_
                refine l12t hi_275_137 (by decide) ?_
                refine l5 (v := t.1) (ls' := [some (.ref 39), some (.int (t.1 + 1)), some (.int y2), some (.int (t.2.1 + (k274 s (kr s 70 (kr s 74 ((kr s 61 y2) + t.2.2))) (kr s 71 (kr s 74 ((kr s 61 y2) + t.2.2))) (kr s 72 (kr s 74 ((kr s 61 y2) + t.2.2)))))), some (.int t.2.2), some (.int (kr s 74 ((kr s 61 y2) + t.2.2))), some (.int 0), some (.int 1)]) hi_275_169 rfl rfl ?_
                refine l5 (v := t.2.2) (ls' := [some (.ref 39), some (.int (t.1 + 1)), some (.int y2), some (.int (t.2.1 + (k274 s (kr s 70 (kr s 74 ((kr s 61 y2) + t.2.2))) (kr s 71 (kr s 74 ((kr s 61 y2) + t.2.2))) (kr s 72 (kr s 74 ((kr s 61 y2) + t.2.2)))))), some (.int (t.2.2 + 1)), some (.int (kr s 74 ((kr s 61 y2) + t.2.2))), some (.int 0), some (.int 1)]) hi_275_172 rfl rfl ?_
                refine l18 hi_275_175 ?_
                have e0 : (k275b17 s y2) t = (0, (t.1 + 1, t.2.1 + (k274 s (kr s 70 (kr s 74 ((kr s 61 y2) + t.2.2))) (kr s 71 (kr s 74 ((kr s 61 y2) + t.2.2))) (kr s 72 (kr s 74 ((kr s 61 y2) + t.2.2)))), t.2.2 + 1)) := by unfold k275b17; rw [if_neg c3]; rw [if_neg c10]; rw [if_pos c49]; rw [if_neg c61]; rw [if_neg c75]; rw [if_neg c87]
                have e1 : ∀ m, kwh (k275b17 s y2) (m + 1) t = kwh (k275b17 s y2) m (t.1 + 1, t.2.1 + (k274 s (kr s 70 (kr s 74 ((kr s 61 y2) + t.2.2))) (kr s 71 (kr s 74 ((kr s 61 y2) + t.2.2))) (kr s 72 (kr s 74 ((kr s 61 y2) + t.2.2)))), t.2.2 + 1) := fun m => by rw [kwh_go (by rw [e0]), e0]
                exact ih _ (some (.int (kr s 74 ((kr s 61 y2) + t.2.2)))) (some (.int 0)) (some (.int 1)) (t.1 + 1, t.2.1 + (k274 s (kr s 70 (kr s 74 ((kr s 61 y2) + t.2.2))) (kr s 71 (kr s 74 ((kr s 61 y2) + t.2.2))) (kr s 72 (kr s 74 ((kr s 61 y2) + t.2.2)))), t.2.2 + 1) h57 (fun m S1 p5 p6 p7 hm h1 => by have q := kx178 (m + 1) S1 p5 p6 p7 (by rw [e1]; exact hm) (by exact h1); (try rw [e1] at q); exact q.less (Nat.le_succ N))
        · refine l12f hi_275_57 (decide_eq_false c49) ?_
          refine l0 hi_275_60 ?_
          refine l18 hi_275_61 ?_
          refine l3 (ls' := [some (.ref 39), some (.int t.1), some (.int y2), some (.int t.2.1), some (.int t.2.2), some (.int (kr s 74 ((kr s 61 y2) + t.2.2))), some (.int 1), o7]) hi_275_65 (Nat.le_of_ble_eq_true rfl) rfl ?_
          refine l1 (v := t.2.1) hi_275_67 rfl ?_
          refine l2 (v := 39) hi_275_68 rfl ?_
          refine l20 (v := .ref 89) hS hi_275_69 rfl ?_
          refine l1 (v := kr s 74 ((kr s 61 y2) + t.2.2)) hi_275_72 rfl ?_
          refine l25 hS ma_70 hi_275_74 fun g88 g89 => ?_
          show am_L _ _ _ _ _ [some (.ref 39), some (.int t.1), some (.int y2), some (.int t.2.1), some (.int t.2.2), some (.int (kr s 74 ((kr s 61 y2) + t.2.2))), some (.int 1), o7] [.int (kr s 70 (kr s 74 ((kr s 61 y2) + t.2.2))), .int t.2.1] _ _
          refine l2 (v := 39) hi_275_75 rfl ?_
          refine l20 (v := .ref 90) hS hi_275_76 rfl ?_
          refine l1 (v := kr s 74 ((kr s 61 y2) + t.2.2)) hi_275_79 rfl ?_
          refine l25 hS ma_71 hi_275_81 fun g90 g91 => ?_
          show am_L _ _ _ _ _ [some (.ref 39), some (.int t.1), some (.int y2), some (.int t.2.1), some (.int t.2.2), some (.int (kr s 74 ((kr s 61 y2) + t.2.2))), some (.int 1), o7] [.int (kr s 71 (kr s 74 ((kr s 61 y2) + t.2.2))), .int (kr s 70 (kr s 74 ((kr s 61 y2) + t.2.2))), .int t.2.1] _ _
          refine l2 (v := 39) hi_275_82 rfl ?_
          refine l20 (v := .ref 91) hS hi_275_83 rfl ?_
          refine l1 (v := kr s 74 ((kr s 61 y2) + t.2.2)) hi_275_86 rfl ?_
          refine l25 hS ma_72 hi_275_88 fun g92 g93 => ?_
          show am_L _ _ _ _ _ [some (.ref 39), some (.int t.1), some (.int y2), some (.int t.2.1), some (.int t.2.2), some (.int (kr s 74 ((kr s 61 y2) + t.2.2))), some (.int 1), o7] [.int (kr s 72 (kr s 74 ((kr s 61 y2) + t.2.2))), .int (kr s 71 (kr s 74 ((kr s 61 y2) + t.2.2))), .int (kr s 70 (kr s 74 ((kr s 61 y2) + t.2.2))), .int t.2.1] _ _
          refine l32 (as := [.int (kr s 70 (kr s 74 ((kr s 61 y2) + t.2.2))), .int (kr s 71 (kr s 74 ((kr s 61 y2) + t.2.2))), .int (kr s 72 (kr s 74 ((kr s 61 y2) + t.2.2)))]) (la := [some (.int (kr s 70 (kr s 74 ((kr s 61 y2) + t.2.2)))), some (.int (kr s 71 (kr s 74 ((kr s 61 y2) + t.2.2)))), some (.int (kr s 72 (kr s 74 ((kr s 61 y2) + t.2.2))))]) (rest := [.int t.2.1]) hi_275_89 (am_hd0 (M := 275) (by decide) 89) rfl rfl rfl (fun N' d' _ => lt274 (N := N') (d := d') hS) ?_ (fun _ q => nomatch q.1)
          rintro v96 S94 ⟨ev96, h95⟩
          cases ev96
          show am_L _ _ _ _ _ [some (.ref 39), some (.int t.1), some (.int y2), some (.int t.2.1), some (.int t.2.2), some (.int (kr s 74 ((kr s 61 y2) + t.2.2))), some (.int 1), o7] [.int (k274 s (kr s 70 (kr s 74 ((kr s 61 y2) + t.2.2))) (kr s 71 (kr s 74 ((kr s 61 y2) + t.2.2))) (kr s 72 (kr s 74 ((kr s 61 y2) + t.2.2)))), .int t.2.1] _ _
          refine l10 hi_275_92 ?_
          show am_L _ _ _ _ _ [some (.ref 39), some (.int t.1), some (.int y2), some (.int t.2.1), some (.int t.2.2), some (.int (kr s 74 ((kr s 61 y2) + t.2.2))), some (.int 1), o7] [.int (t.2.1 + (k274 s (kr s 70 (kr s 74 ((kr s 61 y2) + t.2.2))) (kr s 71 (kr s 74 ((kr s 61 y2) + t.2.2))) (kr s 72 (kr s 74 ((kr s 61 y2) + t.2.2)))))] _ _
          refine l3 (ls' := [some (.ref 39), some (.int t.1), some (.int y2), some (.int (t.2.1 + (k274 s (kr s 70 (kr s 74 ((kr s 61 y2) + t.2.2))) (kr s 71 (kr s 74 ((kr s 61 y2) + t.2.2))) (kr s 72 (kr s 74 ((kr s 61 y2) + t.2.2)))))), some (.int t.2.2), some (.int (kr s 74 ((kr s 61 y2) + t.2.2))), some (.int 1), o7]) hi_275_93 (Nat.le_of_ble_eq_true rfl) rfl ?_
          refine l1 (v := t.2.2) hi_275_94 rfl ?_
          refine l0 hi_275_96 ?_
          refine l10 hi_275_97 ?_
          show am_L _ _ _ _ _ [some (.ref 39), some (.int t.1), some (.int y2), some (.int (t.2.1 + (k274 s (kr s 70 (kr s 74 ((kr s 61 y2) + t.2.2))) (kr s 71 (kr s 74 ((kr s 61 y2) + t.2.2))) (kr s 72 (kr s 74 ((kr s 61 y2) + t.2.2)))))), some (.int t.2.2), some (.int (kr s 74 ((kr s 61 y2) + t.2.2))), some (.int 1), o7] [.int (t.2.2 + 1)] _ _
          refine l2 (v := 39) hi_275_98 rfl ?_
          refine l20 (v := .ref 81) h95 hi_275_99 rfl ?_
          refine l1 (v := y2) hi_275_102 rfl ?_
          refine l25 h95 ma_60 hi_275_103 fun g97 g98 => ?_
          show am_L _ _ _ _ _ [some (.ref 39), some (.int t.1), some (.int y2), some (.int (t.2.1 + (k274 s (kr s 70 (kr s 74 ((kr s 61 y2) + t.2.2))) (kr s 71 (kr s 74 ((kr s 61 y2) + t.2.2))) (kr s 72 (kr s 74 ((kr s 61 y2) + t.2.2)))))), some (.int t.2.2), some (.int (kr s 74 ((kr s 61 y2) + t.2.2))), some (.int 1), o7] [.int (kr s 60 y2), .int (t.2.2 + 1)] _ _
          by_cases c99 : (t.2.2 + 1) ≠ (kr s 60 y2)
          · refine l13t hi_275_104 (decide_eq_true c99) ?_
            refine l0 hi_275_123 ?_
            refine l3 (ls' := [some (.ref 39), some (.int t.1), some (.int y2), some (.int (t.2.1 + (k274 s (kr s 70 (kr s 74 ((kr s 61 y2) + t.2.2))) (kr s 71 (kr s 74 ((kr s 61 y2) + t.2.2))) (kr s 72 (kr s 74 ((kr s 61 y2) + t.2.2)))))), some (.int t.2.2), some (.int (kr s 74 ((kr s 61 y2) + t.2.2))), some (.int 1), some (.int 0)]) hi_275_124 (Nat.le_of_ble_eq_true rfl) rfl ?_
            refine l1 (v := 1) hi_275_126 rfl ?_
            refine l12t hi_275_128 (by decide) ?_
            refine l5 (v := t.1) (ls' := [some (.ref 39), some (.int (t.1 + 1)), some (.int y2), some (.int (t.2.1 + (k274 s (kr s 70 (kr s 74 ((kr s 61 y2) + t.2.2))) (kr s 71 (kr s 74 ((kr s 61 y2) + t.2.2))) (kr s 72 (kr s 74 ((kr s 61 y2) + t.2.2)))))), some (.int t.2.2), some (.int (kr s 74 ((kr s 61 y2) + t.2.2))), some (.int 1), some (.int 0)]) hi_275_169 rfl rfl ?_
            refine l5 (v := t.2.2) (ls' := [some (.ref 39), some (.int (t.1 + 1)), some (.int y2), some (.int (t.2.1 + (k274 s (kr s 70 (kr s 74 ((kr s 61 y2) + t.2.2))) (kr s 71 (kr s 74 ((kr s 61 y2) + t.2.2))) (kr s 72 (kr s 74 ((kr s 61 y2) + t.2.2)))))), some (.int (t.2.2 + 1)), some (.int (kr s 74 ((kr s 61 y2) + t.2.2))), some (.int 1), some (.int 0)]) hi_275_172 rfl rfl ?_
            refine l18 hi_275_175 ?_
            have e0 : (k275b17 s y2) t = (0, (t.1 + 1, t.2.1 + (k274 s (kr s 70 (kr s 74 ((kr s 61 y2) + t.2.2))) (kr s 71 (kr s 74 ((kr s 61 y2) + t.2.2))) (kr s 72 (kr s 74 ((kr s 61 y2) + t.2.2)))), t.2.2 + 1)) := by unfold k275b17; rw [if_neg c3]; rw [if_neg c10]; rw [if_neg c49]; rw [if_pos c99]
            have e1 : ∀ m, kwh (k275b17 s y2) (m + 1) t = kwh (k275b17 s y2) m (t.1 + 1, t.2.1 + (k274 s (kr s 70 (kr s 74 ((kr s 61 y2) + t.2.2))) (kr s 71 (kr s 74 ((kr s 61 y2) + t.2.2))) (kr s 72 (kr s 74 ((kr s 61 y2) + t.2.2)))), t.2.2 + 1) := fun m => by rw [kwh_go (by rw [e0]), e0]
            exact ih _ (some (.int (kr s 74 ((kr s 61 y2) + t.2.2)))) (some (.int 1)) (some (.int 0)) (t.1 + 1, t.2.1 + (k274 s (kr s 70 (kr s 74 ((kr s 61 y2) + t.2.2))) (kr s 71 (kr s 74 ((kr s 61 y2) + t.2.2))) (kr s 72 (kr s 74 ((kr s 61 y2) + t.2.2)))), t.2.2 + 1) h95 (fun m S1 p5 p6 p7 hm h1 => by have q := kx178 (m + 1) S1 p5 p6 p7 (by rw [e1]; exact hm) (by exact h1); (try rw [e1] at q); exact q.less (Nat.le_succ N))
          · refine l13f hi_275_104 (decide_eq_false c99) ?_
            refine l2 (v := 39) hi_275_107 rfl ?_
            refine l20 (v := .ref 89) h95 hi_275_108 rfl ?_
            refine l1 (v := kr s 74 ((kr s 61 y2) + t.2.2)) hi_275_111 rfl ?_
            refine l25 h95 ma_70 hi_275_113 fun g100 g101 => ?_
            show am_L _ _ _ _ _ [some (.ref 39), some (.int t.1), some (.int y2), some (.int (t.2.1 + (k274 s (kr s 70 (kr s 74 ((kr s 61 y2) + t.2.2))) (kr s 71 (kr s 74 ((kr s 61 y2) + t.2.2))) (kr s 72 (kr s 74 ((kr s 61 y2) + t.2.2)))))), some (.int t.2.2), some (.int (kr s 74 ((kr s 61 y2) + t.2.2))), some (.int 1), o7] [.int (kr s 70 (kr s 74 ((kr s 61 y2) + t.2.2)))] _ _
            refine l0 hi_275_114 ?_
            by_cases c102 : (kr s 70 (kr s 74 ((kr s 61 y2) + t.2.2))) = 45
            · refine l13t hi_275_116 (decide_eq_true c102) ?_
              refine l0 hi_275_123 ?_
              refine l3 (ls' := [some (.ref 39), some (.int t.1), some (.int y2), some (.int (t.2.1 + (k274 s (kr s 70 (kr s 74 ((kr s 61 y2) + t.2.2))) (kr s 71 (kr s 74 ((kr s 61 y2) + t.2.2))) (kr s 72 (kr s 74 ((kr s 61 y2) + t.2.2)))))), some (.int t.2.2), some (.int (kr s 74 ((kr s 61 y2) + t.2.2))), some (.int 1), some (.int 0)]) hi_275_124 (Nat.le_of_ble_eq_true rfl) rfl ?_
              refine l1 (v := 1) hi_275_126 rfl ?_
              refine l12t hi_275_128 (by decide) ?_
              refine l5 (v := t.1) (ls' := [some (.ref 39), some (.int (t.1 + 1)), some (.int y2), some (.int (t.2.1 + (k274 s (kr s 70 (kr s 74 ((kr s 61 y2) + t.2.2))) (kr s 71 (kr s 74 ((kr s 61 y2) + t.2.2))) (kr s 72 (kr s 74 ((kr s 61 y2) + t.2.2)))))), some (.int t.2.2), some (.int (kr s 74 ((kr s 61 y2) + t.2.2))), some (.int 1), some (.int 0)]) hi_275_169 rfl rfl ?_
              refine l5 (v := t.2.2) (ls' := [some (.ref 39), some (.int (t.1 + 1)), some (.int y2), some (.int (t.2.1 + (k274 s (kr s 70 (kr s 74 ((kr s 61 y2) + t.2.2))) (kr s 71 (kr s 74 ((kr s 61 y2) + t.2.2))) (kr s 72 (kr s 74 ((kr s 61 y2) + t.2.2)))))), some (.int (t.2.2 + 1)), some (.int (kr s 74 ((kr s 61 y2) + t.2.2))), some (.int 1), some (.int 0)]) hi_275_172 rfl rfl ?_
              refine l18 hi_275_175 ?_
              have e0 : (k275b17 s y2) t = (0, (t.1 + 1, t.2.1 + (k274 s (kr s 70 (kr s 74 ((kr s 61 y2) + t.2.2))) (kr s 71 (kr s 74 ((kr s 61 y2) + t.2.2))) (kr s 72 (kr s 74 ((kr s 61 y2) + t.2.2)))), t.2.2 + 1)) := by unfold k275b17; rw [if_neg c3]; rw [if_neg c10]; rw [if_neg c49]; rw [if_neg c99]; rw [if_pos c102]
              have e1 : ∀ m, kwh (k275b17 s y2) (m + 1) t = kwh (k275b17 s y2) m (t.1 + 1, t.2.1 + (k274 s (kr s 70 (kr s 74 ((kr s 61 y2) + t.2.2))) (kr s 71 (kr s 74 ((kr s 61 y2) + t.2.2))) (kr s 72 (kr s 74 ((kr s 61 y2) + t.2.2)))), t.2.2 + 1) := fun m => by rw [kwh_go (by rw [e0]), e0]
              exact ih _ (some (.int (kr s 74 ((kr s 61 y2) + t.2.2)))) (some (.int 1)) (some (.int 0)) (t.1 + 1, t.2.1 + (k274 s (kr s 70 (kr s 74 ((kr s 61 y2) + t.2.2))) (kr s 71 (kr s 74 ((kr s 61 y2) + t.2.2))) (kr s 72 (kr s 74 ((kr s 61 y2) + t.2.2)))), t.2.2 + 1) h95 (fun m S1 p5 p6 p7 hm h1 => by have q := kx178 (m + 1) S1 p5 p6 p7 (by rw [e1]; exact hm) (by exact h1); (try rw [e1] at q); exact q.less (Nat.le_succ N))
            · refine l13f hi_275_116 (decide_eq_false c102) ?_
              refine l0 hi_275_119 ?_
              refine l18 hi_275_120 ?_
              refine l3 (ls' := [some (.ref 39), some (.int t.1), some (.int y2), some (.int (t.2.1 + (k274 s (kr s 70 (kr s 74 ((kr s 61 y2) + t.2.2))) (kr s 71 (kr s 74 ((kr s 61 y2) + t.2.2))) (kr s 72 (kr s 74 ((kr s 61 y2) + t.2.2)))))), some (.int t.2.2), some (.int (kr s 74 ((kr s 61 y2) + t.2.2))), some (.int 1), some (.int 1)]) hi_275_124 (Nat.le_of_ble_eq_true rfl) rfl ?_
              refine l1 (v := 1) hi_275_126 rfl ?_
              refine l12t hi_275_128 (by decide) ?_
              refine l5 (v := t.1) (ls' := [some (.ref 39), some (.int (t.1 + 1)), some (.int y2), some (.int (t.2.1 + (k274 s (kr s 70 (kr s 74 ((kr s 61 y2) + t.2.2))) (kr s 71 (kr s 74 ((kr s 61 y2) + t.2.2))) (kr s 72 (kr s 74 ((kr s 61 y2) + t.2.2)))))), some (.int t.2.2), some (.int (kr s 74 ((kr s 61 y2) + t.2.2))), some (.int 1), some (.int 1)]) hi_275_169 rfl rfl ?_
              refine l5 (v := t.2.2) (ls' := [some (.ref 39), some (.int (t.1 + 1)), some (.int y2), some (.int (t.2.1 + (k274 s (kr s 70 (kr s 74 ((kr s 61 y2) + t.2.2))) (kr s 71 (kr s 74 ((kr s 61 y2) + t.2.2))) (kr s 72 (kr s 74 ((kr s 61 y2) + t.2.2)))))), some (.int (t.2.2 + 1)), some (.int (kr s 74 ((kr s 61 y2) + t.2.2))), some (.int 1), some (.int 1)]) hi_275_172 rfl rfl ?_
              refine l18 hi_275_175 ?_
              have e0 : (k275b17 s y2) t = (0, (t.1 + 1, t.2.1 + (k274 s (kr s 70 (kr s 74 ((kr s 61 y2) + t.2.2))) (kr s 71 (kr s 74 ((kr s 61 y2) + t.2.2))) (kr s 72 (kr s 74 ((kr s 61 y2) + t.2.2)))), t.2.2 + 1)) := by unfold k275b17; rw [if_neg c3]; rw [if_neg c10]; rw [if_neg c49]; rw [if_neg c99]; rw [if_neg c102]
              have e1 : ∀ m, kwh (k275b17 s y2) (m + 1) t = kwh (k275b17 s y2) m (t.1 + 1, t.2.1 + (k274 s (kr s 70 (kr s 74 ((kr s 61 y2) + t.2.2))) (kr s 71 (kr s 74 ((kr s 61 y2) + t.2.2))) (kr s 72 (kr s 74 ((kr s 61 y2) + t.2.2)))), t.2.2 + 1) := fun m => by rw [kwh_go (by rw [e0]), e0]
              exact ih _ (some (.int (kr s 74 ((kr s 61 y2) + t.2.2)))) (some (.int 1)) (some (.int 1)) (t.1 + 1, t.2.1 + (k274 s (kr s 70 (kr s 74 ((kr s 61 y2) + t.2.2))) (kr s 71 (kr s 74 ((kr s 61 y2) + t.2.2))) (kr s 72 (kr s 74 ((kr s 61 y2) + t.2.2)))), t.2.2 + 1) h95 (fun m S1 p5 p6 p7 hm h1 => by have q := kx178 (m + 1) S1 p5 p6 p7 (by rw [e1]; exact hm) (by exact h1); (try rw [e1] at q); exact q.less (Nat.le_succ N))
