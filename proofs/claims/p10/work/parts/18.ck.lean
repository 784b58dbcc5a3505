/-! THE PROGRAM IS HELD AGAINST BYTES AND TABLES (printed by wip/whole/gen13.py) -/
/-- the words that stay true and that the contracts ask for -/
def am_gk (w : Jvm.Cond) : Bool := match w with
  | .methodLinkNest _ _ _ _ => true
  | .arrayOver (.object _) => true
  | .castable _ _ => true
  | .declares _ => true
  | w => goodWord w
def am_Ts : List Jvm.Cond := lw_tbl.filter am_gk
theorem am_Ts_ps : ∀ w ∈ am_Ts, am_Ps w := by
  intro w hw s U args a' hW h
  have hg := (List.mem_filter.mp hw).2
  unfold am_gk at hg
  split at hg
  · exact va_Nw.use rfl (va_Nw.warmM hW (va_Nw.of rfl h))
  · exact va_AO.use (va_AO.moved hW.alike (va_AO.of h))
  · exact va_Nw.use rfl (va_Nw.warmC hW (va_Nw.of rfl h))
  · exact va_Nw.use rfl (va_Nw.warmD hW (va_Nw.of rfl h))
  · exact word_at hW (good_of_word hg) h
def am_tk (k : Nat) : List Jvm.Cond := match k with
  | 0 => k2_sels lw_privs
  | 1 => tables_1_1
  | 2 => tables_1_2
  | 3 => tables_1_3
  | 4 => tables_1_4
  | 5 => tables_1_5
  | 6 => tables_1_6
  | 7 => tables_1_7
  | _ => tables_1_8
/-- the word stands at this place of the tables, and is one of those -/
def am_iT (q : Nat × Nat) (w : Jvm.Cond) : Bool := decide ((am_tk q.1)[q.2]? = some w) && am_gk w
theorem am_iT_ok {q : Nat × Nat} {w : Jvm.Cond} (h : am_iT q w = true) : w ∈ am_Ts := by
  unfold am_iT at h
  simp only [Bool.and_eq_true, decide_eq_true_eq] at h
  refine List.mem_filter.mpr ⟨?_, h.2⟩
  have h1 : w ∈ am_tk q.1 := List.mem_of_getElem? h.1
  have key : ∀ k, w ∈ am_tk k → w ∈ lw_tbl := by
    intro k hk
    unfold lw_tbl tables_1
    simp only [List.mem_append]
    match k, hk with
    | 0, hk => exact Or.inl hk
    | 1, hk => exact Or.inr (Or.inl hk)
    | 2, hk => exact Or.inr (Or.inr (Or.inl hk))
    | 3, hk => exact Or.inr (Or.inr (Or.inr (Or.inl hk)))
    | 4, hk => exact Or.inr (Or.inr (Or.inr (Or.inr (Or.inl hk))))
    | 5, hk => exact Or.inr (Or.inr (Or.inr (Or.inr (Or.inr (Or.inl hk)))))
    | 6, hk => exact Or.inr (Or.inr (Or.inr (Or.inr (Or.inr (Or.inr (Or.inl hk))))))
    | 7, hk => exact Or.inr (Or.inr (Or.inr (Or.inr (Or.inr (Or.inr (Or.inr (Or.inl hk)))))))
    | n + 8, hk => exact Or.inr (Or.inr (Or.inr (Or.inr (Or.inr (Or.inr (Or.inr (Or.inr hk)))))))
  exact key _ h1
theorem am_hd0 {M : Nat} (h : M ≠ 38) (pc : Nat) : am_P0.2.2.2.1 M pc = none := by
  show am_hd M pc = none
  unfold am_hd
  rw [if_neg (fun q => h q.1)]
def am_mb (M : Nat) (q : Nat × Nat) : Bool := am_iT q (.initialized (am_YY M).1.cls) && decide ((am_YY M).1.cls ≠ "java/lang/invoke/MethodHandle") && decide ((am_YY M).1.cls ≠ "java/lang/invoke/VarHandle") && plainFor (am_YY M).1 && decide (am_P0.2.2.1 M ≤ 22)
def am_okN (M : Nat) : Prop := am_okM am_P0 am_YY am_Ts M ∧ Jvm.Cond.code (am_YY M).1 (am_YY M).2.1 (am_P0.2.2.1 M) (am_YY M).2.2 ∈ am_Ts
theorem am_mb_ok {M : Nat} (q1 q2 : Nat × Nat) (hC : M ≠ 38) (h0 : (am_tk q1.1)[q1.2]? = some (.code (am_YY M).1 (am_YY M).2.1 (am_P0.2.2.1 M) (am_YY M).2.2)) (h : am_mb M q2 = true) : am_okN M := by
  unfold am_mb at h
  simp only [Bool.and_eq_true, decide_eq_true_eq] at h
  obtain ⟨⟨⟨⟨h2, h3⟩, h4⟩, h5⟩, h6⟩ := h
  have hc : Jvm.Cond.code (am_YY M).1 (am_YY M).2.1 (am_P0.2.2.1 M) (am_YY M).2.2 ∈ am_Ts := by
    refine am_iT_ok (q := q1) ?_
    unfold am_iT
    rw [h0]
    simp only [decide_true, Bool.true_and]
    first | rfl | simp [am_gk, goodWord, Cond.onTables, Cond.keeps, Cond.steady]
  exact ⟨⟨Or.inl ⟨hc, am_hd0 hC⟩, am_iT_ok h2, ⟨h3, h4⟩, h5, h6⟩, hc⟩
set_option maxRecDepth 20000 in
theorem am_mm0 : am_okN 0 := am_mb_ok (1, 31) (1, 1) (by decide) rfl (by decide +kernel)
set_option maxRecDepth 20000 in
theorem am_mm1 : am_okN 1 := am_mb_ok (1, 39) (1, 2) (by decide) rfl (by decide +kernel)
set_option maxRecDepth 20000 in
theorem am_mm2 : am_okN 2 := am_mb_ok (1, 52) (1, 3) (by decide) rfl (by decide +kernel)
set_option maxRecDepth 20000 in
theorem am_mm3 : am_okN 3 := am_mb_ok (1, 58) (1, 4) (by decide) rfl (by decide +kernel)
set_option maxRecDepth 20000 in
theorem am_mm4 : am_okN 4 := am_mb_ok (1, 85) (1, 5) (by decide) rfl (by decide +kernel)
set_option maxRecDepth 20000 in
theorem am_mm5 : am_okN 5 := am_mb_ok (1, 91) (1, 8) (by decide) rfl (by decide +kernel)
set_option maxRecDepth 20000 in
theorem am_mm6 : am_okN 6 := am_mb_ok (1, 94) (1, 7) (by decide) rfl (by decide +kernel)
set_option maxRecDepth 20000 in
theorem am_mm7 : am_okN 7 := am_mb_ok (1, 97) (1, 6) (by decide) rfl (by decide +kernel)
set_option maxRecDepth 20000 in
theorem am_mm8 : am_okN 8 := am_mb_ok (1, 124) (1, 9) (by decide) rfl (by decide +kernel)
set_option maxRecDepth 20000 in
theorem am_mm9 : am_okN 9 := am_mb_ok (1, 132) (1, 10) (by decide) rfl (by decide +kernel)
set_option maxRecDepth 20000 in
theorem am_mm10 : am_okN 10 := am_mb_ok (1, 142) (1, 11) (by decide) rfl (by decide +kernel)
set_option maxRecDepth 20000 in
theorem am_mm11 : am_okN 11 := am_mb_ok (1, 219) (1, 12) (by decide) rfl (by decide +kernel)
set_option maxRecDepth 20000 in
theorem am_mm12 : am_okN 12 := am_mb_ok (2, 60) (1, 13) (by decide) rfl (by decide +kernel)
set_option maxRecDepth 20000 in
theorem am_mm13 : am_okN 13 := am_mb_ok (2, 69) (1, 5) (by decide) rfl (by decide +kernel)
set_option maxRecDepth 20000 in
theorem am_mm14 : am_okN 14 := am_mb_ok (2, 73) (1, 8) (by decide) rfl (by decide +kernel)
set_option maxRecDepth 20000 in
theorem am_mm15 : am_okN 15 := am_mb_ok (2, 79) (1, 8) (by decide) rfl (by decide +kernel)
set_option maxRecDepth 20000 in
theorem am_mm16 : am_okN 16 := am_mb_ok (2, 83) (1, 8) (by decide) rfl (by decide +kernel)
set_option maxRecDepth 20000 in
theorem am_mm17 : am_okN 17 := am_mb_ok (2, 87) (1, 8) (by decide) rfl (by decide +kernel)
set_option maxRecDepth 20000 in
theorem am_mm18 : am_okN 18 := am_mb_ok (2, 91) (1, 8) (by decide) rfl (by decide +kernel)
set_option maxRecDepth 20000 in
theorem am_mm19 : am_okN 19 := am_mb_ok (2, 94) (1, 14) (by decide) rfl (by decide +kernel)
set_option maxRecDepth 20000 in
theorem am_mm20 : am_okN 20 := am_mb_ok (2, 97) (1, 15) (by decide) rfl (by decide +kernel)
set_option maxRecDepth 20000 in
theorem am_mm21 : am_okN 21 := am_mb_ok (2, 101) (1, 14) (by decide) rfl (by decide +kernel)
set_option maxRecDepth 20000 in
theorem am_mm22 : am_okN 22 := am_mb_ok (2, 104) (1, 16) (by decide) rfl (by decide +kernel)
set_option maxRecDepth 20000 in
theorem am_mm23 : am_okN 23 := am_mb_ok (2, 124) (1, 16) (by decide) rfl (by decide +kernel)
set_option maxRecDepth 20000 in
theorem am_mm24 : am_okN 24 := am_mb_ok (2, 130) (1, 15) (by decide) rfl (by decide +kernel)
set_option maxRecDepth 20000 in
theorem am_mm25 : am_okN 25 := am_mb_ok (2, 139) (1, 8) (by decide) rfl (by decide +kernel)
set_option maxRecDepth 20000 in
theorem am_mm26 : am_okN 26 := am_mb_ok (2, 142) (1, 18) (by decide) rfl (by decide +kernel)
set_option maxRecDepth 20000 in
theorem am_mm27 : am_okN 27 := am_mb_ok (2, 145) (1, 19) (by decide) rfl (by decide +kernel)
set_option maxRecDepth 20000 in
theorem am_mm28 : am_okN 28 := am_mb_ok (2, 149) (1, 8) (by decide) rfl (by decide +kernel)
set_option maxRecDepth 20000 in
theorem am_mm29 : am_okN 29 := am_mb_ok (2, 153) (1, 11) (by decide) rfl (by decide +kernel)
set_option maxRecDepth 20000 in
theorem am_mm30 : am_okN 30 := am_mb_ok (2, 157) (1, 4) (by decide) rfl (by decide +kernel)
set_option maxRecDepth 20000 in
theorem am_mm31 : am_okN 31 := am_mb_ok (2, 161) (1, 4) (by decide) rfl (by decide +kernel)
set_option maxRecDepth 20000 in
theorem am_mm32 : am_okN 32 := am_mb_ok (2, 165) (1, 16) (by decide) rfl (by decide +kernel)
set_option maxRecDepth 20000 in
theorem am_mm33 : am_okN 33 := am_mb_ok (2, 195) (1, 1) (by decide) rfl (by decide +kernel)
set_option maxRecDepth 20000 in
theorem am_mm34 : am_okN 34 := am_mb_ok (2, 198) (1, 21) (by decide) rfl (by decide +kernel)
set_option maxRecDepth 20000 in
theorem am_mm35 : am_okN 35 := am_mb_ok (2, 202) (1, 3) (by decide) rfl (by decide +kernel)
set_option maxRecDepth 20000 in
theorem am_mm36 : am_okN 36 := am_mb_ok (2, 206) (1, 4) (by decide) rfl (by decide +kernel)
set_option maxRecDepth 20000 in
theorem am_mm37 : am_okN 37 := am_mb_ok (2, 210) (1, 3) (by decide) rfl (by decide +kernel)
set_option maxRecDepth 20000 in
theorem am_mm39 : am_okN 39 := am_mb_ok (2, 220) (1, 2) (by decide) rfl (by decide +kernel)
set_option maxRecDepth 20000 in
theorem am_mm40 : am_okN 40 := am_mb_ok (2, 224) (1, 5) (by decide) rfl (by decide +kernel)
set_option maxRecDepth 20000 in
theorem am_mm41 : am_okN 41 := am_mb_ok (2, 228) (1, 9) (by decide) rfl (by decide +kernel)
set_option maxRecDepth 20000 in
theorem am_mm42 : am_okN 42 := am_mb_ok (2, 232) (1, 3) (by decide) rfl (by decide +kernel)
set_option maxRecDepth 20000 in
theorem am_mm43 : am_okN 43 := am_mb_ok (2, 236) (1, 10) (by decide) rfl (by decide +kernel)
set_option maxRecDepth 20000 in
theorem am_mm44 : am_okN 44 := am_mb_ok (3, 0) (1, 12) (by decide) rfl (by decide +kernel)
set_option maxRecDepth 20000 in
theorem am_mm45 : am_okN 45 := am_mb_ok (3, 5) (1, 8) (by decide) rfl (by decide +kernel)
set_option maxRecDepth 20000 in
theorem am_mm46 : am_okN 46 := am_mb_ok (3, 11) (1, 10) (by decide) rfl (by decide +kernel)
set_option maxRecDepth 20000 in
theorem am_mm47 : am_okN 47 := am_mb_ok (3, 16) (1, 8) (by decide) rfl (by decide +kernel)
set_option maxRecDepth 20000 in
theorem am_mm48 : am_okN 48 := am_mb_ok (3, 21) (1, 12) (by decide) rfl (by decide +kernel)
set_option maxRecDepth 20000 in
theorem am_mm49 : am_okN 49 := am_mb_ok (3, 26) (1, 12) (by decide) rfl (by decide +kernel)
set_option maxRecDepth 20000 in
theorem am_mm50 : am_okN 50 := am_mb_ok (3, 30) (1, 12) (by decide) rfl (by decide +kernel)
set_option maxRecDepth 20000 in
theorem am_mm51 : am_okN 51 := am_mb_ok (3, 35) (1, 10) (by decide) rfl (by decide +kernel)
set_option maxRecDepth 20000 in
theorem am_mm52 : am_okN 52 := am_mb_ok (3, 40) (1, 9) (by decide) rfl (by decide +kernel)
set_option maxRecDepth 20000 in
theorem am_mm53 : am_okN 53 := am_mb_ok (3, 44) (1, 3) (by decide) rfl (by decide +kernel)
set_option maxRecDepth 20000 in
theorem am_mm54 : am_okN 54 := am_mb_ok (3, 48) (1, 4) (by decide) rfl (by decide +kernel)
set_option maxRecDepth 20000 in
theorem am_mm55 : am_okN 55 := am_mb_ok (3, 52) (1, 3) (by decide) rfl (by decide +kernel)
set_option maxRecDepth 20000 in
theorem am_mm56 : am_okN 56 := am_mb_ok (3, 55) (1, 21) (by decide) rfl (by decide +kernel)
set_option maxRecDepth 20000 in
theorem am_mm57 : am_okN 57 := am_mb_ok (3, 58) (1, 21) (by decide) rfl (by decide +kernel)
set_option maxRecDepth 20000 in
theorem am_mm58 : am_okN 58 := am_mb_ok (3, 62) (1, 2) (by decide) rfl (by decide +kernel)
set_option maxRecDepth 20000 in
theorem am_mm59 : am_okN 59 := am_mb_ok (3, 127) (1, 9) (by decide) rfl (by decide +kernel)
set_option maxRecDepth 20000 in
theorem am_mm60 : am_okN 60 := am_mb_ok (3, 131) (1, 9) (by decide) rfl (by decide +kernel)
set_option maxRecDepth 20000 in
theorem am_mm61 : am_okN 61 := am_mb_ok (3, 135) (1, 9) (by decide) rfl (by decide +kernel)
set_option maxRecDepth 20000 in
theorem am_mm62 : am_okN 62 := am_mb_ok (3, 139) (1, 9) (by decide) rfl (by decide +kernel)
set_option maxRecDepth 20000 in
theorem am_mm63 : am_okN 63 := am_mb_ok (3, 143) (1, 3) (by decide) rfl (by decide +kernel)
set_option maxRecDepth 20000 in
theorem am_mm64 : am_okN 64 := am_mb_ok (3, 147) (1, 3) (by decide) rfl (by decide +kernel)
set_option maxRecDepth 20000 in
theorem am_mm65 : am_okN 65 := am_mb_ok (3, 151) (1, 3) (by decide) rfl (by decide +kernel)
set_option maxRecDepth 20000 in
theorem am_mm66 : am_okN 66 := am_mb_ok (3, 156) (1, 10) (by decide) rfl (by decide +kernel)
set_option maxRecDepth 20000 in
theorem am_mm67 : am_okN 67 := am_mb_ok (3, 160) (1, 10) (by decide) rfl (by decide +kernel)
set_option maxRecDepth 20000 in
theorem am_mm68 : am_okN 68 := am_mb_ok (3, 165) (1, 10) (by decide) rfl (by decide +kernel)
set_option maxRecDepth 20000 in
theorem am_mm69 : am_okN 69 := am_mb_ok (3, 171) (1, 11) (by decide) rfl (by decide +kernel)
set_option maxRecDepth 20000 in
theorem am_mm70 : am_okN 70 := am_mb_ok (3, 178) (1, 9) (by decide) rfl (by decide +kernel)
set_option maxRecDepth 20000 in
theorem am_mm71 : am_okN 71 := am_mb_ok (3, 183) (1, 9) (by decide) rfl (by decide +kernel)
set_option maxRecDepth 20000 in
theorem am_mm72 : am_okN 72 := am_mb_ok (3, 186) (1, 21) (by decide) rfl (by decide +kernel)
set_option maxRecDepth 20000 in
theorem am_mm73 : am_okN 73 := am_mb_ok (3, 191) (1, 9) (by decide) rfl (by decide +kernel)
set_option maxRecDepth 20000 in
theorem am_mm74 : am_okN 74 := am_mb_ok (3, 195) (1, 10) (by decide) rfl (by decide +kernel)
set_option maxRecDepth 20000 in
theorem am_mm75 : am_okN 75 := am_mb_ok (3, 199) (1, 10) (by decide) rfl (by decide +kernel)
set_option maxRecDepth 20000 in
theorem am_mm76 : am_okN 76 := am_mb_ok (3, 203) (1, 2) (by decide) rfl (by decide +kernel)
set_option maxRecDepth 20000 in
theorem am_mm77 : am_okN 77 := am_mb_ok (3, 208) (1, 9) (by decide) rfl (by decide +kernel)
set_option maxRecDepth 20000 in
theorem am_mm78 : am_okN 78 := am_mb_ok (3, 213) (1, 9) (by decide) rfl (by decide +kernel)
set_option maxRecDepth 20000 in
theorem am_mm79 : am_okN 79 := am_mb_ok (3, 217) (1, 10) (by decide) rfl (by decide +kernel)
set_option maxRecDepth 20000 in
theorem am_mm80 : am_okN 80 := am_mb_ok (3, 221) (1, 10) (by decide) rfl (by decide +kernel)
set_option maxRecDepth 20000 in
theorem am_mm81 : am_okN 81 := am_mb_ok (3, 225) (1, 10) (by decide) rfl (by decide +kernel)
set_option maxRecDepth 20000 in
theorem am_mm82 : am_okN 82 := am_mb_ok (3, 229) (1, 10) (by decide) rfl (by decide +kernel)
set_option maxRecDepth 20000 in
theorem am_mm83 : am_okN 83 := am_mb_ok (3, 233) (1, 12) (by decide) rfl (by decide +kernel)
set_option maxRecDepth 20000 in
theorem am_mm84 : am_okN 84 := am_mb_ok (3, 238) (1, 12) (by decide) rfl (by decide +kernel)
set_option maxRecDepth 20000 in
theorem am_mm85 : am_okN 85 := am_mb_ok (4, 2) (1, 12) (by decide) rfl (by decide +kernel)
set_option maxRecDepth 20000 in
theorem am_mm86 : am_okN 86 := am_mb_ok (4, 6) (1, 4) (by decide) rfl (by decide +kernel)
set_option maxRecDepth 20000 in
theorem am_mm87 : am_okN 87 := am_mb_ok (4, 11) (1, 12) (by decide) rfl (by decide +kernel)
set_option maxRecDepth 20000 in
theorem am_mm88 : am_okN 88 := am_mb_ok (4, 16) (1, 12) (by decide) rfl (by decide +kernel)
set_option maxRecDepth 20000 in
theorem am_mm89 : am_okN 89 := am_mb_ok (4, 20) (1, 8) (by decide) rfl (by decide +kernel)
set_option maxRecDepth 20000 in
theorem am_mm90 : am_okN 90 := am_mb_ok (4, 24) (1, 8) (by decide) rfl (by decide +kernel)
set_option maxRecDepth 20000 in
theorem am_mm91 : am_okN 91 := am_mb_ok (4, 29) (1, 9) (by decide) rfl (by decide +kernel)
set_option maxRecDepth 20000 in
theorem am_mm92 : am_okN 92 := am_mb_ok (4, 33) (1, 9) (by decide) rfl (by decide +kernel)
set_option maxRecDepth 20000 in
theorem am_mm93 : am_okN 93 := am_mb_ok (4, 37) (1, 3) (by decide) rfl (by decide +kernel)
set_option maxRecDepth 20000 in
theorem am_mm94 : am_okN 94 := am_mb_ok (4, 41) (1, 9) (by decide) rfl (by decide +kernel)
set_option maxRecDepth 20000 in
theorem am_mm95 : am_okN 95 := am_mb_ok (4, 44) (1, 9) (by decide) rfl (by decide +kernel)
set_option maxRecDepth 20000 in
theorem am_mm96 : am_okN 96 := am_mb_ok (4, 48) (1, 9) (by decide) rfl (by decide +kernel)
set_option maxRecDepth 20000 in
theorem am_mm97 : am_okN 97 := am_mb_ok (4, 52) (1, 9) (by decide) rfl (by decide +kernel)
set_option maxRecDepth 20000 in
theorem am_mm98 : am_okN 98 := am_mb_ok (4, 56) (1, 9) (by decide) rfl (by decide +kernel)
set_option maxRecDepth 20000 in
theorem am_mm99 : am_okN 99 := am_mb_ok (4, 62) (1, 9) (by decide) rfl (by decide +kernel)
set_option maxRecDepth 20000 in
theorem am_mm100 : am_okN 100 := am_mb_ok (4, 66) (1, 9) (by decide) rfl (by decide +kernel)
set_option maxRecDepth 20000 in
theorem am_mm101 : am_okN 101 := am_mb_ok (4, 70) (1, 10) (by decide) rfl (by decide +kernel)
set_option maxRecDepth 20000 in
theorem am_mm102 : am_okN 102 := am_mb_ok (4, 74) (1, 10) (by decide) rfl (by decide +kernel)
set_option maxRecDepth 20000 in
theorem am_mm103 : am_okN 103 := am_mb_ok (4, 78) (1, 9) (by decide) rfl (by decide +kernel)
set_option maxRecDepth 20000 in
theorem am_mm104 : am_okN 104 := am_mb_ok (4, 82) (1, 3) (by decide) rfl (by decide +kernel)
set_option maxRecDepth 20000 in
theorem am_mm105 : am_okN 105 := am_mb_ok (4, 88) (1, 9) (by decide) rfl (by decide +kernel)
set_option maxRecDepth 20000 in
theorem am_mm106 : am_okN 106 := am_mb_ok (4, 91) (1, 21) (by decide) rfl (by decide +kernel)
set_option maxRecDepth 20000 in
theorem am_mm107 : am_okN 107 := am_mb_ok (4, 94) (1, 21) (by decide) rfl (by decide +kernel)
set_option maxRecDepth 20000 in
theorem am_mm108 : am_okN 108 := am_mb_ok (4, 98) (1, 9) (by decide) rfl (by decide +kernel)
set_option maxRecDepth 20000 in
theorem am_mm109 : am_okN 109 := am_mb_ok (4, 102) (1, 11) (by decide) rfl (by decide +kernel)
set_option maxRecDepth 20000 in
theorem am_mm110 : am_okN 110 := am_mb_ok (4, 107) (1, 9) (by decide) rfl (by decide +kernel)
set_option maxRecDepth 20000 in
theorem am_mm111 : am_okN 111 := am_mb_ok (4, 111) (1, 9) (by decide) rfl (by decide +kernel)
set_option maxRecDepth 20000 in
theorem am_mm112 : am_okN 112 := am_mb_ok (4, 115) (1, 9) (by decide) rfl (by decide +kernel)
set_option maxRecDepth 20000 in
theorem am_mm113 : am_okN 113 := am_mb_ok (4, 119) (1, 9) (by decide) rfl (by decide +kernel)
set_option maxRecDepth 20000 in
theorem am_mm114 : am_okN 114 := am_mb_ok (4, 123) (1, 9) (by decide) rfl (by decide +kernel)
set_option maxRecDepth 20000 in
theorem am_mm115 : am_okN 115 := am_mb_ok (4, 127) (1, 10) (by decide) rfl (by decide +kernel)
set_option maxRecDepth 20000 in
theorem am_mm116 : am_okN 116 := am_mb_ok (4, 130) (1, 26) (by decide) rfl (by decide +kernel)
set_option maxRecDepth 20000 in
theorem am_mm117 : am_okN 117 := am_mb_ok (4, 134) (1, 9) (by decide) rfl (by decide +kernel)
set_option maxRecDepth 20000 in
theorem am_mm118 : am_okN 118 := am_mb_ok (4, 138) (1, 9) (by decide) rfl (by decide +kernel)
set_option maxRecDepth 20000 in
theorem am_mm119 : am_okN 119 := am_mb_ok (4, 142) (1, 9) (by decide) rfl (by decide +kernel)
set_option maxRecDepth 20000 in
theorem am_mm120 : am_okN 120 := am_mb_ok (4, 147) (1, 3) (by decide) rfl (by decide +kernel)
set_option maxRecDepth 20000 in
theorem am_mm121 : am_okN 121 := am_mb_ok (4, 151) (1, 21) (by decide) rfl (by decide +kernel)
set_option maxRecDepth 20000 in
theorem am_mm122 : am_okN 122 := am_mb_ok (4, 155) (1, 12) (by decide) rfl (by decide +kernel)
set_option maxRecDepth 20000 in
theorem am_mm123 : am_okN 123 := am_mb_ok (4, 160) (1, 9) (by decide) rfl (by decide +kernel)
set_option maxRecDepth 20000 in
theorem am_mm124 : am_okN 124 := am_mb_ok (4, 165) (1, 12) (by decide) rfl (by decide +kernel)
set_option maxRecDepth 20000 in
theorem am_mm125 : am_okN 125 := am_mb_ok (4, 169) (1, 12) (by decide) rfl (by decide +kernel)
set_option maxRecDepth 20000 in
theorem am_mm126 : am_okN 126 := am_mb_ok (4, 173) (1, 9) (by decide) rfl (by decide +kernel)
set_option maxRecDepth 20000 in
theorem am_mm127 : am_okN 127 := am_mb_ok (4, 177) (1, 12) (by decide) rfl (by decide +kernel)
set_option maxRecDepth 20000 in
theorem am_mm128 : am_okN 128 := am_mb_ok (4, 181) (1, 9) (by decide) rfl (by decide +kernel)
set_option maxRecDepth 20000 in
theorem am_mm129 : am_okN 129 := am_mb_ok (4, 186) (1, 10) (by decide) rfl (by decide +kernel)
set_option maxRecDepth 20000 in
theorem am_mm130 : am_okN 130 := am_mb_ok (4, 192) (1, 9) (by decide) rfl (by decide +kernel)
set_option maxRecDepth 20000 in
theorem am_mm131 : am_okN 131 := am_mb_ok (4, 196) (1, 12) (by decide) rfl (by decide +kernel)
set_option maxRecDepth 20000 in
theorem am_mm132 : am_okN 132 := am_mb_ok (4, 200) (1, 12) (by decide) rfl (by decide +kernel)
set_option maxRecDepth 20000 in
theorem am_mm133 : am_okN 133 := am_mb_ok (4, 205) (1, 9) (by decide) rfl (by decide +kernel)
set_option maxRecDepth 20000 in
theorem am_mm134 : am_okN 134 := am_mb_ok (4, 209) (1, 9) (by decide) rfl (by decide +kernel)
set_option maxRecDepth 20000 in
theorem am_mm135 : am_okN 135 := am_mb_ok (4, 213) (1, 9) (by decide) rfl (by decide +kernel)
set_option maxRecDepth 20000 in
theorem am_mm136 : am_okN 136 := am_mb_ok (4, 217) (1, 9) (by decide) rfl (by decide +kernel)
set_option maxRecDepth 20000 in
theorem am_mm137 : am_okN 137 := am_mb_ok (4, 221) (1, 9) (by decide) rfl (by decide +kernel)
set_option maxRecDepth 20000 in
theorem am_mm138 : am_okN 138 := am_mb_ok (4, 225) (1, 9) (by decide) rfl (by decide +kernel)
set_option maxRecDepth 20000 in
theorem am_mm139 : am_okN 139 := am_mb_ok (4, 229) (1, 9) (by decide) rfl (by decide +kernel)
set_option maxRecDepth 20000 in
theorem am_mm140 : am_okN 140 := am_mb_ok (4, 233) (1, 9) (by decide) rfl (by decide +kernel)
set_option maxRecDepth 20000 in
theorem am_mm141 : am_okN 141 := am_mb_ok (4, 237) (1, 10) (by decide) rfl (by decide +kernel)
set_option maxRecDepth 20000 in
theorem am_mm142 : am_okN 142 := am_mb_ok (5, 2) (1, 9) (by decide) rfl (by decide +kernel)
set_option maxRecDepth 20000 in
theorem am_mm143 : am_okN 143 := am_mb_ok (5, 6) (1, 9) (by decide) rfl (by decide +kernel)
set_option maxRecDepth 20000 in
theorem am_mm144 : am_okN 144 := am_mb_ok (5, 10) (1, 9) (by decide) rfl (by decide +kernel)
set_option maxRecDepth 20000 in
theorem am_mm145 : am_okN 145 := am_mb_ok (5, 14) (1, 9) (by decide) rfl (by decide +kernel)
set_option maxRecDepth 20000 in
theorem am_mm146 : am_okN 146 := am_mb_ok (5, 18) (1, 9) (by decide) rfl (by decide +kernel)
set_option maxRecDepth 20000 in
theorem am_mm147 : am_okN 147 := am_mb_ok (5, 22) (1, 9) (by decide) rfl (by decide +kernel)
set_option maxRecDepth 20000 in
theorem am_mm148 : am_okN 148 := am_mb_ok (5, 26) (1, 9) (by decide) rfl (by decide +kernel)
set_option maxRecDepth 20000 in
theorem am_mm149 : am_okN 149 := am_mb_ok (5, 30) (1, 10) (by decide) rfl (by decide +kernel)
set_option maxRecDepth 20000 in
theorem am_mm150 : am_okN 150 := am_mb_ok (5, 34) (1, 9) (by decide) rfl (by decide +kernel)
set_option maxRecDepth 20000 in
theorem am_mm151 : am_okN 151 := am_mb_ok (5, 39) (1, 10) (by decide) rfl (by decide +kernel)
set_option maxRecDepth 20000 in
theorem am_mm152 : am_okN 152 := am_mb_ok (5, 45) (1, 2) (by decide) rfl (by decide +kernel)
set_option maxRecDepth 20000 in
theorem am_mm153 : am_okN 153 := am_mb_ok (5, 49) (1, 2) (by decide) rfl (by decide +kernel)
set_option maxRecDepth 20000 in
theorem am_mm154 : am_okN 154 := am_mb_ok (5, 53) (1, 3) (by decide) rfl (by decide +kernel)
set_option maxRecDepth 20000 in
theorem am_mm155 : am_okN 155 := am_mb_ok (5, 58) (1, 5) (by decide) rfl (by decide +kernel)
set_option maxRecDepth 20000 in
theorem am_mm156 : am_okN 156 := am_mb_ok (5, 62) (1, 1) (by decide) rfl (by decide +kernel)
set_option maxRecDepth 20000 in
theorem am_mm157 : am_okN 157 := am_mb_ok (5, 66) (1, 1) (by decide) rfl (by decide +kernel)
set_option maxRecDepth 20000 in
theorem am_mm158 : am_okN 158 := am_mb_ok (5, 70) (1, 1) (by decide) rfl (by decide +kernel)
set_option maxRecDepth 20000 in
theorem am_mm159 : am_okN 159 := am_mb_ok (5, 74) (1, 5) (by decide) rfl (by decide +kernel)
set_option maxRecDepth 20000 in
theorem am_mm160 : am_okN 160 := am_mb_ok (5, 79) (1, 1) (by decide) rfl (by decide +kernel)
set_option maxRecDepth 20000 in
theorem am_mm161 : am_okN 161 := am_mb_ok (5, 83) (1, 4) (by decide) rfl (by decide +kernel)
set_option maxRecDepth 20000 in
theorem am_mm162 : am_okN 162 := am_mb_ok (5, 88) (1, 1) (by decide) rfl (by decide +kernel)
set_option maxRecDepth 20000 in
theorem am_mm163 : am_okN 163 := am_mb_ok (5, 92) (1, 1) (by decide) rfl (by decide +kernel)
set_option maxRecDepth 20000 in
theorem am_mm164 : am_okN 164 := am_mb_ok (5, 96) (1, 13) (by decide) rfl (by decide +kernel)
set_option maxRecDepth 20000 in
theorem am_mm165 : am_okN 165 := am_mb_ok (5, 100) (1, 13) (by decide) rfl (by decide +kernel)
set_option maxRecDepth 20000 in
theorem am_mm166 : am_okN 166 := am_mb_ok (5, 106) (1, 1) (by decide) rfl (by decide +kernel)
set_option maxRecDepth 20000 in
theorem am_mm167 : am_okN 167 := am_mb_ok (5, 110) (1, 13) (by decide) rfl (by decide +kernel)
set_option maxRecDepth 20000 in
theorem am_mm168 : am_okN 168 := am_mb_ok (5, 116) (1, 13) (by decide) rfl (by decide +kernel)
set_option maxRecDepth 20000 in
theorem am_mm169 : am_okN 169 := am_mb_ok (5, 119) (1, 13) (by decide) rfl (by decide +kernel)
set_option maxRecDepth 20000 in
theorem am_mm170 : am_okN 170 := am_mb_ok (5, 123) (1, 13) (by decide) rfl (by decide +kernel)
set_option maxRecDepth 20000 in
theorem am_mm171 : am_okN 171 := am_mb_ok (5, 126) (1, 13) (by decide) rfl (by decide +kernel)
set_option maxRecDepth 20000 in
theorem am_mm172 : am_okN 172 := am_mb_ok (5, 131) (1, 13) (by decide) rfl (by decide +kernel)
set_option maxRecDepth 20000 in
theorem am_mm173 : am_okN 173 := am_mb_ok (5, 136) (1, 20) (by decide) rfl (by decide +kernel)
set_option maxRecDepth 20000 in
theorem am_mm174 : am_okN 174 := am_mb_ok (6, 136) (1, 20) (by decide) rfl (by decide +kernel)
set_option maxRecDepth 20000 in
theorem am_mm175 : am_okN 175 := am_mb_ok (6, 140) (1, 20) (by decide) rfl (by decide +kernel)
set_option maxRecDepth 20000 in
theorem am_mm176 : am_okN 176 := am_mb_ok (6, 144) (1, 20) (by decide) rfl (by decide +kernel)
set_option maxRecDepth 20000 in
theorem am_mm177 : am_okN 177 := am_mb_ok (6, 148) (1, 20) (by decide) rfl (by decide +kernel)
set_option maxRecDepth 20000 in
theorem am_mm178 : am_okN 178 := am_mb_ok (6, 152) (1, 20) (by decide) rfl (by decide +kernel)
set_option maxRecDepth 20000 in
theorem am_mm179 : am_okN 179 := am_mb_ok (6, 156) (1, 20) (by decide) rfl (by decide +kernel)
set_option maxRecDepth 20000 in
theorem am_mm180 : am_okN 180 := am_mb_ok (6, 160) (1, 20) (by decide) rfl (by decide +kernel)
set_option maxRecDepth 20000 in
theorem am_mm181 : am_okN 181 := am_mb_ok (6, 164) (1, 20) (by decide) rfl (by decide +kernel)
set_option maxRecDepth 20000 in
theorem am_mm182 : am_okN 182 := am_mb_ok (6, 168) (1, 20) (by decide) rfl (by decide +kernel)
set_option maxRecDepth 20000 in
theorem am_mm183 : am_okN 183 := am_mb_ok (6, 172) (1, 20) (by decide) rfl (by decide +kernel)
set_option maxRecDepth 20000 in
theorem am_mm184 : am_okN 184 := am_mb_ok (6, 176) (1, 20) (by decide) rfl (by decide +kernel)
set_option maxRecDepth 20000 in
theorem am_mm185 : am_okN 185 := am_mb_ok (6, 179) (1, 20) (by decide) rfl (by decide +kernel)
set_option maxRecDepth 20000 in
theorem am_mm186 : am_okN 186 := am_mb_ok (6, 183) (1, 20) (by decide) rfl (by decide +kernel)
set_option maxRecDepth 20000 in
theorem am_mm187 : am_okN 187 := am_mb_ok (6, 187) (1, 20) (by decide) rfl (by decide +kernel)
set_option maxRecDepth 20000 in
theorem am_mm188 : am_okN 188 := am_mb_ok (6, 191) (1, 20) (by decide) rfl (by decide +kernel)
set_option maxRecDepth 20000 in
theorem am_mm189 : am_okN 189 := am_mb_ok (6, 195) (1, 20) (by decide) rfl (by decide +kernel)
set_option maxRecDepth 20000 in
theorem am_mm190 : am_okN 190 := am_mb_ok (6, 199) (1, 20) (by decide) rfl (by decide +kernel)
set_option maxRecDepth 20000 in
theorem am_mm191 : am_okN 191 := am_mb_ok (6, 203) (1, 20) (by decide) rfl (by decide +kernel)
set_option maxRecDepth 20000 in
theorem am_mm192 : am_okN 192 := am_mb_ok (6, 207) (1, 20) (by decide) rfl (by decide +kernel)
set_option maxRecDepth 20000 in
theorem am_mm193 : am_okN 193 := am_mb_ok (6, 211) (1, 20) (by decide) rfl (by decide +kernel)
set_option maxRecDepth 20000 in
theorem am_mm194 : am_okN 194 := am_mb_ok (6, 215) (1, 20) (by decide) rfl (by decide +kernel)
set_option maxRecDepth 20000 in
theorem am_mm195 : am_okN 195 := am_mb_ok (6, 219) (1, 20) (by decide) rfl (by decide +kernel)
set_option maxRecDepth 20000 in
theorem am_mm196 : am_okN 196 := am_mb_ok (6, 223) (1, 20) (by decide) rfl (by decide +kernel)
set_option maxRecDepth 20000 in
theorem am_mm197 : am_okN 197 := am_mb_ok (6, 227) (1, 20) (by decide) rfl (by decide +kernel)
set_option maxRecDepth 20000 in
theorem am_mm198 : am_okN 198 := am_mb_ok (6, 231) (1, 20) (by decide) rfl (by decide +kernel)
set_option maxRecDepth 20000 in
theorem am_mm199 : am_okN 199 := am_mb_ok (6, 235) (1, 20) (by decide) rfl (by decide +kernel)
set_option maxRecDepth 20000 in
theorem am_mm200 : am_okN 200 := am_mb_ok (6, 239) (1, 20) (by decide) rfl (by decide +kernel)
set_option maxRecDepth 20000 in
theorem am_mm201 : am_okN 201 := am_mb_ok (7, 3) (1, 20) (by decide) rfl (by decide +kernel)
set_option maxRecDepth 20000 in
theorem am_mm202 : am_okN 202 := am_mb_ok (7, 7) (1, 20) (by decide) rfl (by decide +kernel)
set_option maxRecDepth 20000 in
theorem am_mm203 : am_okN 203 := am_mb_ok (7, 10) (1, 20) (by decide) rfl (by decide +kernel)
set_option maxRecDepth 20000 in
theorem am_mm204 : am_okN 204 := am_mb_ok (7, 14) (1, 20) (by decide) rfl (by decide +kernel)
set_option maxRecDepth 20000 in
theorem am_mm205 : am_okN 205 := am_mb_ok (7, 18) (1, 20) (by decide) rfl (by decide +kernel)
set_option maxRecDepth 20000 in
theorem am_mm206 : am_okN 206 := am_mb_ok (7, 22) (1, 20) (by decide) rfl (by decide +kernel)
set_option maxRecDepth 20000 in
theorem am_mm207 : am_okN 207 := am_mb_ok (7, 26) (1, 20) (by decide) rfl (by decide +kernel)
set_option maxRecDepth 20000 in
theorem am_mm208 : am_okN 208 := am_mb_ok (7, 29) (1, 20) (by decide) rfl (by decide +kernel)
set_option maxRecDepth 20000 in
theorem am_mm209 : am_okN 209 := am_mb_ok (7, 33) (1, 20) (by decide) rfl (by decide +kernel)
set_option maxRecDepth 20000 in
theorem am_mm210 : am_okN 210 := am_mb_ok (7, 37) (1, 20) (by decide) rfl (by decide +kernel)
set_option maxRecDepth 20000 in
theorem am_mm211 : am_okN 211 := am_mb_ok (7, 41) (1, 20) (by decide) rfl (by decide +kernel)
set_option maxRecDepth 20000 in
theorem am_mm212 : am_okN 212 := am_mb_ok (7, 45) (1, 20) (by decide) rfl (by decide +kernel)
set_option maxRecDepth 20000 in
theorem am_mm213 : am_okN 213 := am_mb_ok (7, 49) (1, 20) (by decide) rfl (by decide +kernel)
set_option maxRecDepth 20000 in
theorem am_mm214 : am_okN 214 := am_mb_ok (7, 53) (1, 20) (by decide) rfl (by decide +kernel)
set_option maxRecDepth 20000 in
theorem am_mm215 : am_okN 215 := am_mb_ok (7, 57) (1, 20) (by decide) rfl (by decide +kernel)
set_option maxRecDepth 20000 in
theorem am_mm216 : am_okN 216 := am_mb_ok (7, 61) (1, 20) (by decide) rfl (by decide +kernel)
set_option maxRecDepth 20000 in
theorem am_mm217 : am_okN 217 := am_mb_ok (7, 65) (1, 20) (by decide) rfl (by decide +kernel)
set_option maxRecDepth 20000 in
theorem am_mm218 : am_okN 218 := am_mb_ok (7, 69) (1, 20) (by decide) rfl (by decide +kernel)
set_option maxRecDepth 20000 in
theorem am_mm219 : am_okN 219 := am_mb_ok (7, 73) (1, 20) (by decide) rfl (by decide +kernel)
set_option maxRecDepth 20000 in
theorem am_mm220 : am_okN 220 := am_mb_ok (7, 77) (1, 20) (by decide) rfl (by decide +kernel)
set_option maxRecDepth 20000 in
theorem am_mm221 : am_okN 221 := am_mb_ok (7, 81) (1, 20) (by decide) rfl (by decide +kernel)
set_option maxRecDepth 20000 in
theorem am_mm222 : am_okN 222 := am_mb_ok (7, 85) (1, 20) (by decide) rfl (by decide +kernel)
set_option maxRecDepth 20000 in
theorem am_mm223 : am_okN 223 := am_mb_ok (7, 89) (1, 20) (by decide) rfl (by decide +kernel)
set_option maxRecDepth 20000 in
theorem am_mm224 : am_okN 224 := am_mb_ok (7, 93) (1, 20) (by decide) rfl (by decide +kernel)
set_option maxRecDepth 20000 in
theorem am_mm225 : am_okN 225 := am_mb_ok (7, 97) (1, 20) (by decide) rfl (by decide +kernel)
set_option maxRecDepth 20000 in
theorem am_mm226 : am_okN 226 := am_mb_ok (7, 100) (1, 20) (by decide) rfl (by decide +kernel)
set_option maxRecDepth 20000 in
theorem am_mm227 : am_okN 227 := am_mb_ok (7, 104) (1, 20) (by decide) rfl (by decide +kernel)
set_option maxRecDepth 20000 in
theorem am_mm228 : am_okN 228 := am_mb_ok (7, 108) (1, 20) (by decide) rfl (by decide +kernel)
set_option maxRecDepth 20000 in
theorem am_mm229 : am_okN 229 := am_mb_ok (7, 112) (1, 20) (by decide) rfl (by decide +kernel)
set_option maxRecDepth 20000 in
theorem am_mm230 : am_okN 230 := am_mb_ok (7, 116) (1, 20) (by decide) rfl (by decide +kernel)
set_option maxRecDepth 20000 in
theorem am_mm231 : am_okN 231 := am_mb_ok (7, 120) (1, 20) (by decide) rfl (by decide +kernel)
set_option maxRecDepth 20000 in
theorem am_mm232 : am_okN 232 := am_mb_ok (7, 124) (1, 20) (by decide) rfl (by decide +kernel)
set_option maxRecDepth 20000 in
theorem am_mm233 : am_okN 233 := am_mb_ok (7, 128) (1, 20) (by decide) rfl (by decide +kernel)
set_option maxRecDepth 20000 in
theorem am_mm234 : am_okN 234 := am_mb_ok (7, 132) (1, 20) (by decide) rfl (by decide +kernel)
set_option maxRecDepth 20000 in
theorem am_mm235 : am_okN 235 := am_mb_ok (7, 136) (1, 20) (by decide) rfl (by decide +kernel)
set_option maxRecDepth 20000 in
theorem am_mm236 : am_okN 236 := am_mb_ok (7, 140) (1, 20) (by decide) rfl (by decide +kernel)
set_option maxRecDepth 20000 in
theorem am_mm237 : am_okN 237 := am_mb_ok (7, 144) (1, 20) (by decide) rfl (by decide +kernel)
set_option maxRecDepth 20000 in
theorem am_mm238 : am_okN 238 := am_mb_ok (7, 148) (1, 20) (by decide) rfl (by decide +kernel)
set_option maxRecDepth 20000 in
theorem am_mm239 : am_okN 239 := am_mb_ok (7, 152) (1, 20) (by decide) rfl (by decide +kernel)
set_option maxRecDepth 20000 in
theorem am_mm240 : am_okN 240 := am_mb_ok (7, 156) (1, 20) (by decide) rfl (by decide +kernel)
set_option maxRecDepth 20000 in
theorem am_mm241 : am_okN 241 := am_mb_ok (7, 160) (1, 20) (by decide) rfl (by decide +kernel)
set_option maxRecDepth 20000 in
theorem am_mm242 : am_okN 242 := am_mb_ok (7, 164) (1, 20) (by decide) rfl (by decide +kernel)
set_option maxRecDepth 20000 in
theorem am_mm243 : am_okN 243 := am_mb_ok (7, 168) (1, 20) (by decide) rfl (by decide +kernel)
set_option maxRecDepth 20000 in
theorem am_mm244 : am_okN 244 := am_mb_ok (7, 172) (1, 20) (by decide) rfl (by decide +kernel)
set_option maxRecDepth 20000 in
theorem am_mm245 : am_okN 245 := am_mb_ok (7, 176) (1, 20) (by decide) rfl (by decide +kernel)
set_option maxRecDepth 20000 in
theorem am_mm246 : am_okN 246 := am_mb_ok (7, 180) (1, 20) (by decide) rfl (by decide +kernel)
set_option maxRecDepth 20000 in
theorem am_mm247 : am_okN 247 := am_mb_ok (7, 184) (1, 20) (by decide) rfl (by decide +kernel)
set_option maxRecDepth 20000 in
theorem am_mm248 : am_okN 248 := am_mb_ok (7, 188) (1, 20) (by decide) rfl (by decide +kernel)
set_option maxRecDepth 20000 in
theorem am_mm249 : am_okN 249 := am_mb_ok (7, 192) (1, 20) (by decide) rfl (by decide +kernel)
set_option maxRecDepth 20000 in
theorem am_mm250 : am_okN 250 := am_mb_ok (7, 196) (1, 20) (by decide) rfl (by decide +kernel)
set_option maxRecDepth 20000 in
theorem am_mm251 : am_okN 251 := am_mb_ok (7, 200) (1, 20) (by decide) rfl (by decide +kernel)
set_option maxRecDepth 20000 in
theorem am_mm252 : am_okN 252 := am_mb_ok (7, 204) (1, 20) (by decide) rfl (by decide +kernel)
set_option maxRecDepth 20000 in
theorem am_mm253 : am_okN 253 := am_mb_ok (7, 208) (1, 20) (by decide) rfl (by decide +kernel)
set_option maxRecDepth 20000 in
theorem am_mm254 : am_okN 254 := am_mb_ok (7, 212) (1, 20) (by decide) rfl (by decide +kernel)
set_option maxRecDepth 20000 in
theorem am_mm255 : am_okN 255 := am_mb_ok (7, 216) (1, 20) (by decide) rfl (by decide +kernel)
set_option maxRecDepth 20000 in
theorem am_mm256 : am_okN 256 := am_mb_ok (7, 220) (1, 20) (by decide) rfl (by decide +kernel)
set_option maxRecDepth 20000 in
theorem am_mm257 : am_okN 257 := am_mb_ok (7, 224) (1, 20) (by decide) rfl (by decide +kernel)
set_option maxRecDepth 20000 in
theorem am_mm258 : am_okN 258 := am_mb_ok (7, 228) (1, 20) (by decide) rfl (by decide +kernel)
set_option maxRecDepth 20000 in
theorem am_mm259 : am_okN 259 := am_mb_ok (7, 232) (1, 20) (by decide) rfl (by decide +kernel)
set_option maxRecDepth 20000 in
theorem am_mm260 : am_okN 260 := am_mb_ok (7, 236) (1, 20) (by decide) rfl (by decide +kernel)
set_option maxRecDepth 20000 in
theorem am_mm261 : am_okN 261 := am_mb_ok (8, 0) (1, 20) (by decide) rfl (by decide +kernel)
set_option maxRecDepth 20000 in
theorem am_mm262 : am_okN 262 := am_mb_ok (8, 4) (1, 20) (by decide) rfl (by decide +kernel)
set_option maxRecDepth 20000 in
theorem am_mm263 : am_okN 263 := am_mb_ok (8, 8) (1, 20) (by decide) rfl (by decide +kernel)
set_option maxRecDepth 20000 in
theorem am_mm264 : am_okN 264 := am_mb_ok (8, 12) (1, 20) (by decide) rfl (by decide +kernel)
set_option maxRecDepth 20000 in
theorem am_mm265 : am_okN 265 := am_mb_ok (8, 16) (1, 20) (by decide) rfl (by decide +kernel)
set_option maxRecDepth 20000 in
theorem am_mm266 : am_okN 266 := am_mb_ok (8, 20) (1, 20) (by decide) rfl (by decide +kernel)
set_option maxRecDepth 20000 in
theorem am_mm267 : am_okN 267 := am_mb_ok (8, 24) (1, 20) (by decide) rfl (by decide +kernel)
set_option maxRecDepth 20000 in
theorem am_mm268 : am_okN 268 := am_mb_ok (8, 28) (1, 20) (by decide) rfl (by decide +kernel)
set_option maxRecDepth 20000 in
theorem am_mm269 : am_okN 269 := am_mb_ok (8, 32) (1, 20) (by decide) rfl (by decide +kernel)
set_option maxRecDepth 20000 in
theorem am_mm270 : am_okN 270 := am_mb_ok (8, 36) (1, 20) (by decide) rfl (by decide +kernel)
set_option maxRecDepth 20000 in
theorem am_mm271 : am_okN 271 := am_mb_ok (8, 40) (1, 20) (by decide) rfl (by decide +kernel)
set_option maxRecDepth 20000 in
theorem am_mm272 : am_okN 272 := am_mb_ok (8, 44) (1, 20) (by decide) rfl (by decide +kernel)
set_option maxRecDepth 20000 in
theorem am_mm273 : am_okN 273 := am_mb_ok (8, 48) (1, 20) (by decide) rfl (by decide +kernel)
set_option maxRecDepth 20000 in
theorem am_mm274 : am_okN 274 := am_mb_ok (8, 51) (1, 20) (by decide) rfl (by decide +kernel)
set_option maxRecDepth 20000 in
theorem am_mm275 : am_okN 275 := am_mb_ok (8, 55) (1, 20) (by decide) rfl (by decide +kernel)
set_option maxRecDepth 20000 in
theorem am_mm276 : am_okN 276 := am_mb_ok (8, 59) (1, 20) (by decide) rfl (by decide +kernel)
set_option maxRecDepth 20000 in
theorem am_mm277 : am_okN 277 := am_mb_ok (8, 62) (1, 20) (by decide) rfl (by decide +kernel)
def am_mc0 : List Nat := [0, 1, 2, 3, 4, 5, 6, 7, 8, 9, 10, 11, 12, 13, 14, 15, 16, 17, 18, 19]
theorem am_mr0 : ∀ M ∈ am_mc0, am_okN M := List.forall_mem_cons.mpr ⟨am_mm0, List.forall_mem_cons.mpr ⟨am_mm1, List.forall_mem_cons.mpr ⟨am_mm2, List.forall_mem_cons.mpr ⟨am_mm3, List.forall_mem_cons.mpr ⟨am_mm4, List.forall_mem_cons.mpr ⟨am_mm5, List.forall_mem_cons.mpr ⟨am_mm6, List.forall_mem_cons.mpr ⟨am_mm7, List.forall_mem_cons.mpr ⟨am_mm8, List.forall_mem_cons.mpr ⟨am_mm9, List.forall_mem_cons.mpr ⟨am_mm10, List.forall_mem_cons.mpr ⟨am_mm11, List.forall_mem_cons.mpr ⟨am_mm12, List.forall_mem_cons.mpr ⟨am_mm13, List.forall_mem_cons.mpr ⟨am_mm14, List.forall_mem_cons.mpr ⟨am_mm15, List.forall_mem_cons.mpr ⟨am_mm16, List.forall_mem_cons.mpr ⟨am_mm17, List.forall_mem_cons.mpr ⟨am_mm18, List.forall_mem_cons.mpr ⟨am_mm19, fun _ h => nomatch h⟩⟩⟩⟩⟩⟩⟩⟩⟩⟩⟩⟩⟩⟩⟩⟩⟩⟩⟩⟩
def am_mc1 : List Nat := [20, 21, 22, 23, 24, 25, 26, 27, 28, 29, 30, 31, 32, 33, 34, 35, 36, 37, 39, 40]
theorem am_mr1 : ∀ M ∈ am_mc1, am_okN M := List.forall_mem_cons.mpr ⟨am_mm20, List.forall_mem_cons.mpr ⟨am_mm21, List.forall_mem_cons.mpr ⟨am_mm22, List.forall_mem_cons.mpr ⟨am_mm23, List.forall_mem_cons.mpr ⟨am_mm24, List.forall_mem_cons.mpr ⟨am_mm25, List.forall_mem_cons.mpr ⟨am_mm26, List.forall_mem_cons.mpr ⟨am_mm27, List.forall_mem_cons.mpr ⟨am_mm28, List.forall_mem_cons.mpr ⟨am_mm29, List.forall_mem_cons.mpr ⟨am_mm30, List.forall_mem_cons.mpr ⟨am_mm31, List.forall_mem_cons.mpr ⟨am_mm32, List.forall_mem_cons.mpr ⟨am_mm33, List.forall_mem_cons.mpr ⟨am_mm34, List.forall_mem_cons.mpr ⟨am_mm35, List.forall_mem_cons.mpr ⟨am_mm36, List.forall_mem_cons.mpr ⟨am_mm37, List.forall_mem_cons.mpr ⟨am_mm39, List.forall_mem_cons.mpr ⟨am_mm40, fun _ h => nomatch h⟩⟩⟩⟩⟩⟩⟩⟩⟩⟩⟩⟩⟩⟩⟩⟩⟩⟩⟩⟩
def am_mc2 : List Nat := [41, 42, 43, 44, 45, 46, 47, 48, 49, 50, 51, 52, 53, 54, 55, 56, 57, 58, 59, 60]
theorem am_mr2 : ∀ M ∈ am_mc2, am_okN M := List.forall_mem_cons.mpr ⟨am_mm41, List.forall_mem_cons.mpr ⟨am_mm42, List.forall_mem_cons.mpr ⟨am_mm43, List.forall_mem_cons.mpr ⟨am_mm44, List.forall_mem_cons.mpr ⟨am_mm45, List.forall_mem_cons.mpr ⟨am_mm46, List.forall_mem_cons.mpr ⟨am_mm47, List.forall_mem_cons.mpr ⟨am_mm48, List.forall_mem_cons.mpr ⟨am_mm49, List.forall_mem_cons.mpr ⟨am_mm50, List.forall_mem_cons.mpr ⟨am_mm51, List.forall_mem_cons.mpr ⟨am_mm52, List.forall_mem_cons.mpr ⟨am_mm53, List.forall_mem_cons.mpr ⟨am_mm54, List.forall_mem_cons.mpr ⟨am_mm55, List.forall_mem_cons.mpr ⟨am_mm56, List.forall_mem_cons.mpr ⟨am_mm57, List.forall_mem_cons.mpr ⟨am_mm58, List.forall_mem_cons.mpr ⟨am_mm59, List.forall_mem_cons.mpr ⟨am_mm60, fun _ h => nomatch h⟩⟩⟩⟩⟩⟩⟩⟩⟩⟩⟩⟩⟩⟩⟩⟩⟩⟩⟩⟩
def am_mc3 : List Nat := [61, 62, 63, 64, 65, 66, 67, 68, 69, 70, 71, 72, 73, 74, 75, 76, 77, 78, 79, 80]
theorem am_mr3 : ∀ M ∈ am_mc3, am_okN M := List.forall_mem_cons.mpr ⟨am_mm61, List.forall_mem_cons.mpr ⟨am_mm62, List.forall_mem_cons.mpr ⟨am_mm63, List.forall_mem_cons.mpr ⟨am_mm64, List.forall_mem_cons.mpr ⟨am_mm65, List.forall_mem_cons.mpr ⟨am_mm66, List.forall_mem_cons.mpr ⟨am_mm67, List.forall_mem_cons.mpr ⟨am_mm68, List.forall_mem_cons.mpr ⟨am_mm69, List.forall_mem_cons.mpr ⟨am_mm70, List.forall_mem_cons.mpr ⟨am_mm71, List.forall_mem_cons.mpr ⟨am_mm72, List.forall_mem_cons.mpr ⟨am_mm73, List.forall_mem_cons.mpr ⟨am_mm74, List.forall_mem_cons.mpr ⟨am_mm75, List.forall_mem_cons.mpr ⟨am_mm76, List.forall_mem_cons.mpr ⟨am_mm77, List.forall_mem_cons.mpr ⟨am_mm78, List.forall_mem_cons.mpr ⟨am_mm79, List.forall_mem_cons.mpr ⟨am_mm80, fun _ h => nomatch h⟩⟩⟩⟩⟩⟩⟩⟩⟩⟩⟩⟩⟩⟩⟩⟩⟩⟩⟩⟩
def am_mc4 : List Nat := [81, 82, 83, 84, 85, 86, 87, 88, 89, 90, 91, 92, 93, 94, 95, 96, 97, 98, 99, 100]
theorem am_mr4 : ∀ M ∈ am_mc4, am_okN M := List.forall_mem_cons.mpr ⟨am_mm81, List.forall_mem_cons.mpr ⟨am_mm82, List.forall_mem_cons.mpr ⟨am_mm83, List.forall_mem_cons.mpr ⟨am_mm84, List.forall_mem_cons.mpr ⟨am_mm85, List.forall_mem_cons.mpr ⟨am_mm86, List.forall_mem_cons.mpr ⟨am_mm87, List.forall_mem_cons.mpr ⟨am_mm88, List.forall_mem_cons.mpr ⟨am_mm89, List.forall_mem_cons.mpr ⟨am_mm90, List.forall_mem_cons.mpr ⟨am_mm91, List.forall_mem_cons.mpr ⟨am_mm92, List.forall_mem_cons.mpr ⟨am_mm93, List.forall_mem_cons.mpr ⟨am_mm94, List.forall_mem_cons.mpr ⟨am_mm95, List.forall_mem_cons.mpr ⟨am_mm96, List.forall_mem_cons.mpr ⟨am_mm97, List.forall_mem_cons.mpr ⟨am_mm98, List.forall_mem_cons.mpr ⟨am_mm99, List.forall_mem_cons.mpr ⟨am_mm100, fun _ h => nomatch h⟩⟩⟩⟩⟩⟩⟩⟩⟩⟩⟩⟩⟩⟩⟩⟩⟩⟩⟩⟩
def am_mc5 : List Nat := [101, 102, 103, 104, 105, 106, 107, 108, 109, 110, 111, 112, 113, 114, 115, 116, 117, 118, 119, 120]
theorem am_mr5 : ∀ M ∈ am_mc5, am_okN M := List.forall_mem_cons.mpr ⟨am_mm101, List.forall_mem_cons.mpr ⟨am_mm102, List.forall_mem_cons.mpr ⟨am_mm103, List.forall_mem_cons.mpr ⟨am_mm104, List.forall_mem_cons.mpr ⟨am_mm105, List.forall_mem_cons.mpr ⟨am_mm106, List.forall_mem_cons.mpr ⟨am_mm107, List.forall_mem_cons.mpr ⟨am_mm108, List.forall_mem_cons.mpr ⟨am_mm109, List.forall_mem_cons.mpr ⟨am_mm110, List.forall_mem_cons.mpr ⟨am_mm111, List.forall_mem_cons.mpr ⟨am_mm112, List.forall_mem_cons.mpr ⟨am_mm113, List.forall_mem_cons.mpr ⟨am_mm114, List.forall_mem_cons.mpr ⟨am_mm115, List.forall_mem_cons.mpr ⟨am_mm116, List.forall_mem_cons.mpr ⟨am_mm117, List.forall_mem_cons.mpr ⟨am_mm118, List.forall_mem_cons.mpr ⟨am_mm119, List.forall_mem_cons.mpr ⟨am_mm120, fun _ h => nomatch h⟩⟩⟩⟩⟩⟩⟩⟩⟩⟩⟩⟩⟩⟩⟩⟩⟩⟩⟩⟩
def am_mc6 : List Nat := [121, 122, 123, 124, 125, 126, 127, 128, 129, 130, 131, 132, 133, 134, 135, 136, 137, 138, 139, 140]
theorem am_mr6 : ∀ M ∈ am_mc6, am_okN M := List.forall_mem_cons.mpr ⟨am_mm121, List.forall_mem_cons.mpr ⟨am_mm122, List.forall_mem_cons.mpr ⟨am_mm123, List.forall_mem_cons.mpr ⟨am_mm124, List.forall_mem_cons.mpr ⟨am_mm125, List.forall_mem_cons.mpr ⟨am_mm126, List.forall_mem_cons.mpr ⟨am_mm127, List.forall_mem_cons.mpr ⟨am_mm128, List.forall_mem_cons.mpr ⟨am_mm129, List.forall_mem_cons.mpr ⟨am_mm130, List.forall_mem_cons.mpr ⟨am_mm131, List.forall_mem_cons.mpr ⟨am_mm132, List.forall_mem_cons.mpr ⟨am_mm133, List.forall_mem_cons.mpr ⟨am_mm134, List.forall_mem_cons.mpr ⟨am_mm135, List.forall_mem_cons.mpr ⟨am_mm136, List.forall_mem_cons.mpr ⟨am_mm137, List.forall_mem_cons.mpr ⟨am_mm138, List.forall_mem_cons.mpr ⟨am_mm139, List.forall_mem_cons.mpr ⟨am_mm140, fun _ h => nomatch h⟩⟩⟩⟩⟩⟩⟩⟩⟩⟩⟩⟩⟩⟩⟩⟩⟩⟩⟩⟩
def am_mc7 : List Nat := [141, 142, 143, 144, 145, 146, 147, 148, 149, 150, 151, 152, 153, 154, 155, 156, 157, 158, 159, 160]
theorem am_mr7 : ∀ M ∈ am_mc7, am_okN M := List.forall_mem_cons.mpr ⟨am_mm141, List.forall_mem_cons.mpr ⟨am_mm142, List.forall_mem_cons.mpr ⟨am_mm143, List.forall_mem_cons.mpr ⟨am_mm144, List.forall_mem_cons.mpr ⟨am_mm145, List.forall_mem_cons.mpr ⟨am_mm146, List.forall_mem_cons.mpr ⟨am_mm147, List.forall_mem_cons.mpr ⟨am_mm148, List.forall_mem_cons.mpr ⟨am_mm149, List.forall_mem_cons.mpr ⟨am_mm150, List.forall_mem_cons.mpr ⟨am_mm151, List.forall_mem_cons.mpr ⟨am_mm152, List.forall_mem_cons.mpr ⟨am_mm153, List.forall_mem_cons.mpr ⟨am_mm154, List.forall_mem_cons.mpr ⟨am_mm155, List.forall_mem_cons.mpr ⟨am_mm156, List.forall_mem_cons.mpr ⟨am_mm157, List.forall_mem_cons.mpr ⟨am_mm158, List.forall_mem_cons.mpr ⟨am_mm159, List.forall_mem_cons.mpr ⟨am_mm160, fun _ h => nomatch h⟩⟩⟩⟩⟩⟩⟩⟩⟩⟩⟩⟩⟩⟩⟩⟩⟩⟩⟩⟩
def am_mc8 : List Nat := [161, 162, 163, 164, 165, 166, 167, 168, 169, 170, 171, 172, 173, 174, 175, 176, 177, 178, 179, 180]
theorem am_mr8 : ∀ M ∈ am_mc8, am_okN M := List.forall_mem_cons.mpr ⟨am_mm161, List.forall_mem_cons.mpr ⟨am_mm162, List.forall_mem_cons.mpr ⟨am_mm163, List.forall_mem_cons.mpr ⟨am_mm164, List.forall_mem_cons.mpr ⟨am_mm165, List.forall_mem_cons.mpr ⟨am_mm166, List.forall_mem_cons.mpr ⟨am_mm167, List.forall_mem_cons.mpr ⟨am_mm168, List.forall_mem_cons.mpr ⟨am_mm169, List.forall_mem_cons.mpr ⟨am_mm170, List.forall_mem_cons.mpr ⟨am_mm171, List.forall_mem_cons.mpr ⟨am_mm172, List.forall_mem_cons.mpr ⟨am_mm173, List.forall_mem_cons.mpr ⟨am_mm174, List.forall_mem_cons.mpr ⟨am_mm175, List.forall_mem_cons.mpr ⟨am_mm176, List.forall_mem_cons.mpr ⟨am_mm177, List.forall_mem_cons.mpr ⟨am_mm178, List.forall_mem_cons.mpr ⟨am_mm179, List.forall_mem_cons.mpr ⟨am_mm180, fun _ h => nomatch h⟩⟩⟩⟩⟩⟩⟩⟩⟩⟩⟩⟩⟩⟩⟩⟩⟩⟩⟩⟩
def am_mc9 : List Nat := [181, 182, 183, 184, 185, 186, 187, 188, 189, 190, 191, 192, 193, 194, 195, 196, 197, 198, 199, 200]
theorem am_mr9 : ∀ M ∈ am_mc9, am_okN M := List.forall_mem_cons.mpr ⟨am_mm181, List.forall_mem_cons.mpr ⟨am_mm182, List.forall_mem_cons.mpr ⟨am_mm183, List.forall_mem_cons.mpr ⟨am_mm184, List.forall_mem_cons.mpr ⟨am_mm185, List.forall_mem_cons.mpr ⟨am_mm186, List.forall_mem_cons.mpr ⟨am_mm187, List.forall_mem_cons.mpr ⟨am_mm188, List.forall_mem_cons.mpr ⟨am_mm189, List.forall_mem_cons.mpr ⟨am_mm190, List.forall_mem_cons.mpr ⟨am_mm191, List.forall_mem_cons.mpr ⟨am_mm192, List.forall_mem_cons.mpr ⟨am_mm193, List.forall_mem_cons.mpr ⟨am_mm194, List.forall_mem_cons.mpr ⟨am_mm195, List.forall_mem_cons.mpr ⟨am_mm196, List.forall_mem_cons.mpr ⟨am_mm197, List.forall_mem_cons.mpr ⟨am_mm198, List.forall_mem_cons.mpr ⟨am_mm199, List.forall_mem_cons.mpr ⟨am_mm200, fun _ h => nomatch h⟩⟩⟩⟩⟩⟩⟩⟩⟩⟩⟩⟩⟩⟩⟩⟩⟩⟩⟩⟩
def am_mc10 : List Nat := [201, 202, 203, 204, 205, 206, 207, 208, 209, 210, 211, 212, 213, 214, 215, 216, 217, 218, 219, 220]
theorem am_mr10 : ∀ M ∈ am_mc10, am_okN M := List.forall_mem_cons.mpr ⟨am_mm201, List.forall_mem_cons.mpr ⟨am_mm202, List.forall_mem_cons.mpr ⟨am_mm203, List.forall_mem_cons.mpr ⟨am_mm204, List.forall_mem_cons.mpr ⟨am_mm205, List.forall_mem_cons.mpr ⟨am_mm206, List.forall_mem_cons.mpr ⟨am_mm207, List.forall_mem_cons.mpr ⟨am_mm208, List.forall_mem_cons.mpr ⟨am_mm209, List.forall_mem_cons.mpr ⟨am_mm210, List.forall_mem_cons.mpr ⟨am_mm211, List.forall_mem_cons.mpr ⟨am_mm212, List.forall_mem_cons.mpr ⟨am_mm213, List.forall_mem_cons.mpr ⟨am_mm214, List.forall_mem_cons.mpr ⟨am_mm215, List.forall_mem_cons.mpr ⟨am_mm216, List.forall_mem_cons.mpr ⟨am_mm217, List.forall_mem_cons.mpr ⟨am_mm218, List.forall_mem_cons.mpr ⟨am_mm219, List.forall_mem_cons.mpr ⟨am_mm220, fun _ h => nomatch h⟩⟩⟩⟩⟩⟩⟩⟩⟩⟩⟩⟩⟩⟩⟩⟩⟩⟩⟩⟩
def am_mc11 : List Nat := [221, 222, 223, 224, 225, 226, 227, 228, 229, 230, 231, 232, 233, 234, 235, 236, 237, 238, 239, 240]
theorem am_mr11 : ∀ M ∈ am_mc11, am_okN M := List.forall_mem_cons.mpr ⟨am_mm221, List.forall_mem_cons.mpr ⟨am_mm222, List.forall_mem_cons.mpr ⟨am_mm223, List.forall_mem_cons.mpr ⟨am_mm224, List.forall_mem_cons.mpr ⟨am_mm225, List.forall_mem_cons.mpr ⟨am_mm226, List.forall_mem_cons.mpr ⟨am_mm227, List.forall_mem_cons.mpr ⟨am_mm228, List.forall_mem_cons.mpr ⟨am_mm229, List.forall_mem_cons.mpr ⟨am_mm230, List.forall_mem_cons.mpr ⟨am_mm231, List.forall_mem_cons.mpr ⟨am_mm232, List.forall_mem_cons.mpr ⟨am_mm233, List.forall_mem_cons.mpr ⟨am_mm234, List.forall_mem_cons.mpr ⟨am_mm235, List.forall_mem_cons.mpr ⟨am_mm236, List.forall_mem_cons.mpr ⟨am_mm237, List.forall_mem_cons.mpr ⟨am_mm238, List.forall_mem_cons.mpr ⟨am_mm239, List.forall_mem_cons.mpr ⟨am_mm240, fun _ h => nomatch h⟩⟩⟩⟩⟩⟩⟩⟩⟩⟩⟩⟩⟩⟩⟩⟩⟩⟩⟩⟩
def am_mc12 : List Nat := [241, 242, 243, 244, 245, 246, 247, 248, 249, 250, 251, 252, 253, 254, 255, 256, 257, 258, 259, 260]
theorem am_mr12 : ∀ M ∈ am_mc12, am_okN M := List.forall_mem_cons.mpr ⟨am_mm241, List.forall_mem_cons.mpr ⟨am_mm242, List.forall_mem_cons.mpr ⟨am_mm243, List.forall_mem_cons.mpr ⟨am_mm244, List.forall_mem_cons.mpr ⟨am_mm245, List.forall_mem_cons.mpr ⟨am_mm246, List.forall_mem_cons.mpr ⟨am_mm247, List.forall_mem_cons.mpr ⟨am_mm248, List.forall_mem_cons.mpr ⟨am_mm249, List.forall_mem_cons.mpr ⟨am_mm250, List.forall_mem_cons.mpr ⟨am_mm251, List.forall_mem_cons.mpr ⟨am_mm252, List.forall_mem_cons.mpr ⟨am_mm253, List.forall_mem_cons.mpr ⟨am_mm254, List.forall_mem_cons.mpr ⟨am_mm255, List.forall_mem_cons.mpr ⟨am_mm256, List.forall_mem_cons.mpr ⟨am_mm257, List.forall_mem_cons.mpr ⟨am_mm258, List.forall_mem_cons.mpr ⟨am_mm259, List.forall_mem_cons.mpr ⟨am_mm260, fun _ h => nomatch h⟩⟩⟩⟩⟩⟩⟩⟩⟩⟩⟩⟩⟩⟩⟩⟩⟩⟩⟩⟩
def am_mc13 : List Nat := [261, 262, 263, 264, 265, 266, 267, 268, 269, 270, 271, 272, 273, 274, 275, 276, 277]
theorem am_mr13 : ∀ M ∈ am_mc13, am_okN M := List.forall_mem_cons.mpr ⟨am_mm261, List.forall_mem_cons.mpr ⟨am_mm262, List.forall_mem_cons.mpr ⟨am_mm263, List.forall_mem_cons.mpr ⟨am_mm264, List.forall_mem_cons.mpr ⟨am_mm265, List.forall_mem_cons.mpr ⟨am_mm266, List.forall_mem_cons.mpr ⟨am_mm267, List.forall_mem_cons.mpr ⟨am_mm268, List.forall_mem_cons.mpr ⟨am_mm269, List.forall_mem_cons.mpr ⟨am_mm270, List.forall_mem_cons.mpr ⟨am_mm271, List.forall_mem_cons.mpr ⟨am_mm272, List.forall_mem_cons.mpr ⟨am_mm273, List.forall_mem_cons.mpr ⟨am_mm274, List.forall_mem_cons.mpr ⟨am_mm275, List.forall_mem_cons.mpr ⟨am_mm276, List.forall_mem_cons.mpr ⟨am_mm277, fun _ h => nomatch h⟩⟩⟩⟩⟩⟩⟩⟩⟩⟩⟩⟩⟩⟩⟩⟩⟩
theorem am_mIn : ∀ M, M < 278 → M ≠ 38 → M ∈ am_mc0 ++ (am_mc1 ++ (am_mc2 ++ (am_mc3 ++ (am_mc4 ++ (am_mc5 ++ (am_mc6 ++ (am_mc7 ++ (am_mc8 ++ (am_mc9 ++ (am_mc10 ++ (am_mc11 ++ (am_mc12 ++ (am_mc13))))))))))))) := by decide +kernel
theorem am_mAll {M : Nat} (h : M < 278) (h2 : M ≠ 38) : am_okN M := by
  have q := am_mIn M h h2
  simp only [List.mem_append] at q
  rcases q with q | q | q | q | q | q | q | q | q | q | q | q | q | q
  · exact am_mr0 M q
  · exact am_mr1 M q
  · exact am_mr2 M q
  · exact am_mr3 M q
  · exact am_mr4 M q
  · exact am_mr5 M q
  · exact am_mr6 M q
  · exact am_mr7 M q
  · exact am_mr8 M q
  · exact am_mr9 M q
  · exact am_mr10 M q
  · exact am_mr11 M q
  · exact am_mr12 M q
  · exact am_mr13 M q
set_option maxRecDepth 20000 in
theorem am_mmC : am_okM am_P0 am_YY am_Ts 38 := by
  have h : am_mb 38 (1, 1) = true := by decide +kernel
  unfold am_mb at h
  simp only [Bool.and_eq_true, decide_eq_true_eq] at h
  obtain ⟨⟨⟨⟨h2, h3⟩, h4⟩, h5⟩, h6⟩ := h
  refine ⟨Or.inr ⟨(14, 21, 24, 91), am_iT_ok (q := (2, 215)) ?_, fun pc hp hq => ?_, by decide, am_iT_ok (q := (2, 216)) (by decide +kernel), fun pc h j hh => ?_⟩, am_iT_ok h2, ⟨h3, h4⟩, h5, h6⟩
  · unfold am_iT
    rw [show (am_tk (2, 215).1)[(2, 215).2]? = some (.codeWith (am_YY 38).1 (am_YY 38).2.1 (am_P0.2.2.1 38) (am_YY 38).2.2 [(14, 21, 24, 91)]) from rfl]
    simp only [decide_true, Bool.true_and]
    first | rfl | simp [am_gk, goodWord, Cond.onTables, Cond.keeps, Cond.steady]
  · have hp : am_hd 38 pc = none := hp
    unfold am_hd at hp
    rw [if_pos ⟨rfl, hq⟩] at hp
    cases hp
  · have hh : am_hd 38 pc = some (h, j) := hh
    unfold am_hd at hh
    split at hh
    · rename_i hq
      cases hh
      exact ⟨hq.2.1, hq.2.2, ⟨1, by decide +kernel, rfl⟩, rfl, by decide⟩
    · cases hh
theorem am_mOk {M : Nat} (h : M < 278) : am_okM am_P0 am_YY am_Ts M := by
  by_cases h2 : M = 38
  · rw [h2]; exact am_mmC
  · exact (am_mAll h h2).1
def am_hF : List (List ((Nat × Nat × Nat) × String × (Nat × Nat) × (Nat × Nat))) := [[((10, 0, 0), "ChunkCode", (2, 173), (0, 0)), ((21, 0, 1), "ChunkCode", (2, 174), (0, 0)), ((28, 0, 2), "ChunkCode", (2, 175), (0, 0)), ((37, 0, 3), "ChunkCode", (2, 176), (0, 0)), ((46, 0, 4), "ChunkCode", (2, 177), (0, 0)), ((54, 8, 5), "ChunkCode$Body", (1, 165), (0, 0)), ((60, 8, 0), "ChunkCode$Body", (1, 147), (0, 0)), ((99, 0, 5), "ChunkCode", (2, 178), (0, 0)), ((108, 8, 3), "ChunkCode$Body", (1, 160), (0, 0)), ((111, 8, 4), "ChunkCode$Body", (1, 163), (0, 0)), ((114, 8, 6), "ChunkCode$Body", (1, 170), (0, 0)), ((116, 8, 7), "ChunkCode$Body", (1, 172), (0, 0)), ((119, 8, 1), "ChunkCode$Body", (1, 152), (0, 0)), ((125, 8, 8), "ChunkCode$Body", (1, 177), (0, 0))],
  [((7, 1, 0), "ChunkCode$Faults", (1, 41), (0, 0)), ((13, 1, 1), "ChunkCode$Faults", (1, 42), (0, 0))],
  [((12, 2, 1), "ChunkCode$Words", (1, 69), (0, 0)), ((18, 2, 0), "ChunkCode$Words", (1, 68), (0, 0)), ((34, 2, 2), "ChunkCode$Words", (1, 70), (0, 0)), ((38, 2, 3), "ChunkCode$Words", (1, 71), (0, 0))],
  [((11, 3, 0), "ChunkCode$Table", (1, 60), (0, 0)), ((15, 3, 1), "ChunkCode$Table", (1, 61), (0, 0))],
  [((10, 4, 0), "ChunkCode$Bodies", (1, 113), (0, 0)), ((16, 4, 1), "ChunkCode$Bodies", (1, 114), (0, 0))],
  [((9, 5, 0), "java/util/ArrayList", (1, 101), (0, 0)), ((48, 5, 1), "java/util/ArrayList", (1, 102), (0, 0)), ((63, 5, 2), "java/util/ArrayList", (1, 104), (1, 105))],
  [((7, 5, 2), "java/util/AbstractList", (1, 103), (0, 0))],
  [],
  [((12, 6, 3), "ChunkCode$Reader", (2, 34), (0, 0)), ((18, 6, 4), "ChunkCode$Reader", (2, 35), (0, 0)), ((21, 6, 0), "ChunkCode$Reader", (2, 31), (0, 0)), ((25, 6, 1), "ChunkCode$Reader", (2, 32), (0, 0)), ((34, 6, 2), "ChunkCode$Reader", (2, 33), (0, 0)), ((54, 8, 5), "ChunkCode$Body", (1, 167), (0, 0)), ((72, 8, 6), "ChunkCode$Body", (1, 169), (0, 0)), ((176, 6, 6), "ChunkCode$Reader", (2, 37), (0, 0)), ((194, 6, 7), "ChunkCode$Reader", (2, 38), (0, 0)), ((212, 7, 0), "ChunkCode$Scope", (2, 0), (0, 0)), ((220, 8, 10), "ChunkCode$Body", (1, 182), (0, 0)), ((242, 8, 12), "ChunkCode$Body", (1, 187), (0, 0)), ((277, 8, 0), "ChunkCode$Body", (1, 150), (0, 0)), ((327, 6, 5), "ChunkCode$Reader", (2, 36), (0, 0)), ((346, 8, 2), "ChunkCode$Body", (1, 157), (0, 0)), ((349, 8, 4), "ChunkCode$Body", (1, 164), (0, 0))],
  [((12, 7, 3), "ChunkCode$Scope", (2, 3), (0, 0)), ((21, 7, 4), "ChunkCode$Scope", (2, 4), (0, 0)), ((25, 7, 5), "ChunkCode$Scope", (2, 5), (0, 0)), ((31, 7, 6), "ChunkCode$Scope", (2, 6), (0, 0)), ((35, 7, 1), "ChunkCode$Scope", (2, 1), (0, 0)), ((39, 7, 2), "ChunkCode$Scope", (2, 2), (0, 0)), ((48, 7, 0), "ChunkCode$Scope", (1, 239), (0, 0)), ((70, 8, 2), "ChunkCode$Body", (1, 155), (0, 0)), ((74, 8, 3), "ChunkCode$Body", (1, 159), (0, 0)), ((77, 8, 8), "ChunkCode$Body", (1, 176), (0, 0)), ((84, 8, 9), "ChunkCode$Body", (1, 179), (0, 0)), ((90, 8, 10), "ChunkCode$Body", (1, 181), (0, 0)), ((96, 8, 11), "ChunkCode$Body", (1, 184), (0, 0)), ((102, 8, 12), "ChunkCode$Body", (1, 186), (0, 0)), ((148, 8, 7), "ChunkCode$Body", (1, 174), (0, 0)), ((160, 7, 7), "ChunkCode$Scope", (2, 7), (0, 0)), ((163, 7, 8), "ChunkCode$Scope", (2, 8), (0, 0)), ((166, 7, 9), "ChunkCode$Scope", (2, 9), (0, 0))],
  [((10, 8, 0), "ChunkCode$Body", (1, 146), (0, 0)), ((16, 8, 1), "ChunkCode$Body", (1, 151), (0, 0)), ((19, 8, 2), "ChunkCode$Body", (1, 154), (0, 0)), ((23, 8, 3), "ChunkCode$Body", (1, 158), (0, 0)), ((26, 8, 8), "ChunkCode$Body", (1, 175), (0, 0)), ((29, 8, 4), "ChunkCode$Body", (1, 162), (0, 0)), ((32, 8, 5), "ChunkCode$Body", (1, 166), (0, 0)), ((35, 8, 6), "ChunkCode$Body", (1, 168), (0, 0)), ((38, 8, 7), "ChunkCode$Body", (1, 171), (0, 0)), ((41, 8, 9), "ChunkCode$Body", (1, 178), (0, 0)), ((44, 8, 10), "ChunkCode$Body", (1, 180), (0, 0)), ((47, 8, 11), "ChunkCode$Body", (1, 183), (0, 0)), ((50, 8, 12), "ChunkCode$Body", (1, 185), (0, 0))],
  [((10, 9, 1), "ChunkCode$Jumps", (1, 224), (0, 0)), ((16, 9, 2), "ChunkCode$Jumps", (1, 225), (0, 0)), ((19, 9, 3), "ChunkCode$Jumps", (1, 226), (0, 0)), ((22, 9, 4), "ChunkCode$Jumps", (1, 227), (0, 0)), ((25, 9, 0), "ChunkCode$Jumps", (1, 223), (0, 0)), ((67, 8, 0), "ChunkCode$Body", (1, 149), (0, 0))],
  [((7, 10, 0), "ChunkCode$Audit", (2, 62), (0, 0)), ((13, 8, 0), "ChunkCode$Body", (1, 148), (0, 0)), ((64, 8, 7), "ChunkCode$Body", (1, 173), (0, 0)), ((68, 8, 1), "ChunkCode$Body", (1, 153), (0, 0)), ((78, 8, 3), "ChunkCode$Body", (1, 161), (0, 0)), ((81, 8, 2), "ChunkCode$Body", (1, 156), (0, 0))],
  [],
  [],
  [],
  [],
  [],
  [],
  [],
  [((7, 11, 1), "ChunkCodeModel", (5, 141), (0, 0)), ((13, 11, 2), "ChunkCodeModel", (5, 142), (0, 0)), ((17, 11, 11), "ChunkCodeModel", (5, 151), (0, 0)), ((20, 11, 12), "ChunkCodeModel", (5, 152), (0, 0)), ((23, 11, 13), "ChunkCodeModel", (5, 153), (0, 0)), ((26, 11, 14), "ChunkCodeModel", (5, 154), (0, 0)), ((30, 11, 16), "ChunkCodeModel", (5, 156), (0, 0)), ((33, 11, 17), "ChunkCodeModel", (5, 157), (0, 0)), ((36, 11, 18), "ChunkCodeModel", (5, 158), (0, 0)), ((39, 11, 21), "ChunkCodeModel", (5, 161), (0, 0)), ((42, 11, 22), "ChunkCodeModel", (5, 162), (0, 0)), ((45, 11, 23), "ChunkCodeModel", (5, 163), (0, 0)), ((48, 11, 25), "ChunkCodeModel", (5, 165), (0, 0)), ((51, 11, 26), "ChunkCodeModel", (5, 166), (0, 0)), ((54, 11, 27), "ChunkCodeModel", (5, 167), (0, 0)), ((57, 11, 28), "ChunkCodeModel", (5, 168), (0, 0)), ((61, 11, 29), "ChunkCodeModel", (5, 169), (0, 0)), ((64, 11, 30), "ChunkCodeModel", (5, 170), (0, 0)), ((67, 11, 33), "ChunkCodeModel", (5, 173), (0, 0)), ((70, 11, 34), "ChunkCodeModel", (5, 174), (0, 0)), ((73, 11, 35), "ChunkCodeModel", (5, 175), (0, 0)), ((76, 11, 36), "ChunkCodeModel", (5, 176), (0, 0)), ((79, 11, 38), "ChunkCodeModel", (5, 178), (0, 0)), ((82, 11, 39), "ChunkCodeModel", (5, 179), (0, 0)), ((85, 11, 40), "ChunkCodeModel", (5, 180), (0, 0)), ((88, 11, 41), "ChunkCodeModel", (5, 181), (0, 0)), ((91, 11, 42), "ChunkCodeModel", (5, 182), (0, 0)), ((94, 11, 43), "ChunkCodeModel", (5, 183), (0, 0)), ((97, 11, 45), "ChunkCodeModel", (5, 185), (0, 0)), ((100, 11, 46), "ChunkCodeModel", (5, 186), (0, 0)), ((103, 11, 47), "ChunkCodeModel", (5, 187), (0, 0)), ((106, 11, 49), "ChunkCodeModel", (5, 189), (0, 0)), ((109, 11, 50), "ChunkCodeModel", (5, 190), (0, 0)), ((112, 11, 51), "ChunkCodeModel", (5, 191), (0, 0)), ((115, 11, 52), "ChunkCodeModel", (5, 192), (0, 0)), ((118, 11, 53), "ChunkCodeModel", (5, 193), (0, 0)), ((122, 11, 54), "ChunkCodeModel", (5, 194), (0, 0)), ((125, 11, 55), "ChunkCodeModel", (5, 195), (0, 0)), ((128, 11, 56), "ChunkCodeModel", (5, 196), (0, 0)), ((131, 11, 57), "ChunkCodeModel", (5, 197), (0, 0)), ((134, 11, 58), "ChunkCodeModel", (5, 198), (0, 0)), ((137, 11, 59), "ChunkCodeModel", (5, 199), (0, 0)), ((140, 11, 60), "ChunkCodeModel", (5, 200), (0, 0)), ((143, 11, 61), "ChunkCodeModel", (5, 201), (0, 0)), ((146, 11, 63), "ChunkCodeModel", (5, 203), (0, 0)), ((149, 11, 64), "ChunkCodeModel", (5, 204), (0, 0)), ((152, 11, 65), "ChunkCodeModel", (5, 205), (0, 0)), ((155, 11, 66), "ChunkCodeModel", (5, 206), (0, 0)), ((158, 11, 67), "ChunkCodeModel", (5, 207), (0, 0)), ((161, 11, 68), "ChunkCodeModel", (5, 208), (0, 0)), ((164, 11, 69), "ChunkCodeModel", (5, 209), (0, 0)), ((167, 11, 70), "ChunkCodeModel", (5, 210), (0, 0)), ((170, 11, 71), "ChunkCodeModel", (5, 211), (0, 0)), ((173, 11, 72), "ChunkCodeModel", (5, 212), (0, 0)), ((176, 11, 73), "ChunkCodeModel", (5, 213), (0, 0)), ((179, 11, 74), "ChunkCodeModel", (5, 214), (0, 0)), ((182, 11, 0), "ChunkCodeModel", (5, 140), (0, 0)), ((185, 11, 4), "ChunkCodeModel", (5, 144), (0, 0)), ((192, 11, 6), "ChunkCodeModel", (5, 146), (0, 0)), ((195, 11, 7), "ChunkCodeModel", (5, 147), (0, 0)), ((198, 11, 10), "ChunkCodeModel", (5, 150), (0, 0)), ((201, 11, 8), "ChunkCodeModel", (5, 148), (0, 0)), ((204, 11, 9), "ChunkCodeModel", (5, 149), (0, 0)), ((215, 11, 5), "ChunkCodeModel", (5, 145), (0, 0)), ((221, 11, 32), "ChunkCodeModel", (5, 172), (0, 0)), ((224, 11, 24), "ChunkCodeModel", (5, 164), (0, 0)), ((234, 11, 31), "ChunkCodeModel", (5, 171), (0, 0)), ((241, 11, 62), "ChunkCodeModel", (5, 202), (0, 0)), ((247, 11, 75), "ChunkCodeModel", (5, 215), (0, 0)), ((254, 11, 37), "ChunkCodeModel", (5, 177), (0, 0)), ((257, 11, 44), "ChunkCodeModel", (5, 184), (0, 0)), ((260, 11, 48), "ChunkCodeModel", (5, 188), (0, 0)), ((293, 11, 15), "ChunkCodeModel", (5, 155), (0, 0)), ((314, 11, 20), "ChunkCodeModel", (5, 160), (0, 0)), ((361, 11, 19), "ChunkCodeModel", (5, 159), (0, 0)), ((380, 11, 76), "ChunkCodeModel", (5, 216), (0, 0)), ((525, 11, 3), "ChunkCodeModel", (5, 143), (0, 0))],
  []]
def am_fb (oc : Nat) (q : (Nat × Nat × Nat) × String × (Nat × Nat) × (Nat × Nat)) : Bool := match am_cl[q.1.2.1]? with
  | some c => decide (q.1.2.2 < c.2.2) && am_iT q.2.2.1 (.fieldLink (am_nm oc) q.1.1 q.2.1 (c.2.1 q.1.2.2).2.1 (c.2.1 q.1.2.2).2.2.1) && (decide (q.2.1 = (c.2.1 q.1.2.2).1) || am_iT q.2.2.2 (.sameField q.2.1 (c.2.1 q.1.2.2).1 (c.2.1 q.1.2.2).2.1 (c.2.1 q.1.2.2).2.2.1))
  | none => false
theorem am_fb_ok {oc : Nat} {q : (Nat × Nat × Nat) × String × (Nat × Nat) × (Nat × Nat)} (h : am_fb oc q = true) : am_okF am_cl am_Ts (am_nm oc) q.1.1 q.1.2.1 q.1.2.2 := by
  unfold am_fb at h
  split at h
  · rename_i c hc
    simp only [Bool.and_eq_true, Bool.or_eq_true, decide_eq_true_eq] at h
    obtain ⟨⟨h1, h2⟩, h3⟩ := h
    exact ⟨c.1, c.2.1, c.2.2, q.2.1, hc, h1, am_iT_ok h2, h3.elim Or.inl (fun z => Or.inr (am_iT_ok z))⟩
  · cases h
set_option maxRecDepth 100000 in
theorem am_hF_eq : am_LF = am_hF.map (fun l => l.map (fun q => q.1)) := by decide +kernel
set_option maxRecDepth 100000 in
theorem am_hF_ok : (List.range 22).all (fun o => ((am_hF[o]?).getD []).all (am_fb o)) = true := by decide +kernel
def am_hK : List (List ((Nat × Nat × Nat × Nat) × String × (Nat × Nat) × (Nat × Nat) × (Nat × Nat))) := [[((9, 1, 1, 1), "ChunkCode", (1, 37), (1, 38), (0, 0)), ((18, 2, 2, 1), "", (1, 50), (1, 51), (0, 0)), ((27, 4, 1, 1), "ChunkCode", (1, 83), (1, 84), (0, 0)), ((34, 8, 4, 1), "", (1, 122), (1, 123), (0, 0)), ((43, 12, 2, 1), "", (2, 58), (2, 59), (0, 0)), ((50, 13, 1, 6), "", (2, 66), (2, 67), (2, 68)), ((66, 31, 5, 5), "", (2, 158), (2, 159), (2, 160)), ((71, 34, 1, 0), "", (2, 196), (2, 197), (0, 0)), ((77, 35, 1, 4), "", (2, 199), (2, 200), (2, 201)), ((81, 37, 3, 4), "", (2, 207), (2, 208), (2, 209)), ((84, 39, 1, 3), "", (2, 217), (2, 218), (2, 219)), ((87, 40, 1, 6), "", (2, 221), (2, 222), (2, 223)), ((88, 41, 1, 8), "", (2, 225), (2, 226), (2, 227)), ((93, 152, 1, 3), "", (5, 42), (5, 43), (5, 44)), ((96, 153, 1, 3), "", (5, 46), (5, 47), (5, 48)), ((102, 154, 1, 4), "", (5, 50), (5, 51), (5, 52)), ((103, 155, 1, 6), "", (5, 55), (5, 56), (5, 57)), ((104, 159, 2, 6), "", (5, 71), (5, 72), (5, 73)), ((122, 36, 1, 5), "", (5, 75), (2, 204), (2, 205)), ((128, 161, 2, 5), "", (5, 80), (5, 81), (5, 82)), ((131, 54, 3, 5), "", (5, 84), (3, 46), (3, 47)), ((134, 164, 2, 12), "", (5, 93), (5, 94), (5, 95)), ((138, 167, 1, 12), "", (5, 107), (5, 108), (5, 109))],
  [],
  [((11, 3, 1, 1), "ChunkCode", (1, 56), (1, 57), (0, 0)), ((22, 31, 5, 5), "", (2, 211), (2, 159), (2, 160)), ((26, 36, 1, 5), "", (2, 203), (2, 204), (2, 205)), ((30, 30, 2, 5), "", (5, 54), (2, 155), (2, 156)), ((41, 54, 3, 5), "", (3, 45), (3, 46), (3, 47)), ((47, 58, 3, 3), "", (3, 59), (3, 60), (3, 61)), ((51, 65, 2, 4), "", (3, 148), (3, 149), (3, 150)), ((54, 55, 1, 4), "", (3, 152), (3, 50), (3, 51)), ((57, 56, 1, 0), "", (3, 53), (3, 54), (0, 0)), ((63, 57, 1, 0), "", (3, 56), (3, 57), (0, 0)), ((66, 93, 2, 4), "", (4, 148), (4, 35), (4, 36)), ((70, 121, 1, 0), "", (4, 149), (4, 150), (0, 0))],
  [((20, 32, 2, 0), "", (2, 163), (2, 164), (0, 0))],
  [((9, 5, 1, 1), "", (1, 89), (1, 90), (0, 0)), ((20, 14, 1, 7), "", (2, 70), (2, 71), (2, 72)), ((24, 25, 2, 7), "", (2, 136), (2, 137), (2, 138)), ((30, 10, 1, 1), "ChunkCode", (2, 75), (1, 141), (0, 0)), ((31, 15, 2, 7), "", (2, 76), (2, 77), (2, 78)), ((35, 29, 2, 10), "", (2, 150), (2, 151), (2, 152))],
  [((1, 6, 1, 1), "", (1, 92), (1, 93), (0, 0)), ((66, 22, 2, 0), "", (2, 102), (2, 103), (0, 0)), ((69, 18, 2, 7), "", (2, 88), (2, 90), (0, 2)), ((73, 19, 3, 0), "", (2, 92), (2, 93), (0, 0)), ((79, 20, 2, 0), "", (2, 134), (2, 96), (0, 0)), ((118, 26, 2, 0), "", (2, 140), (2, 141), (0, 0)), ((123, 28, 2, 7), "", (2, 146), (2, 147), (2, 148)), ((129, 17, 1, 7), "", (2, 84), (2, 86), (0, 1)), ((131, 16, 4, 7), "", (2, 80), (2, 82), (0, 0)), ((144, 90, 3, 7), "", (4, 21), (4, 23), (0, 18))],
  [((1, 7, 1, 1), "", (1, 95), (1, 96), (0, 0))],
  [],
  [((11, 3, 1, 1), "ChunkCode", (1, 127), (1, 57), (0, 0)), ((31, 9, 3, 1), "", (1, 130), (1, 131), (0, 0)), ((38, 42, 1, 4), "", (2, 229), (2, 230), (2, 231)), ((43, 43, 1, 9), "", (2, 233), (2, 234), (2, 235)), ((46, 30, 2, 5), "", (3, 7), (2, 155), (2, 156)), ((50, 46, 2, 9), "", (3, 8), (3, 9), (3, 10)), ((60, 52, 1, 8), "", (3, 37), (3, 39), (0, 3)), ((65, 65, 2, 4), "", (5, 40), (3, 149), (3, 150)), ((68, 35, 1, 4), "", (5, 41), (2, 200), (2, 201)), ((76, 78, 5, 8), "", (3, 210), (3, 212), (0, 15)), ((80, 80, 1, 9), "", (3, 218), (3, 219), (3, 220)), ((83, 53, 1, 4), "", (3, 41), (3, 42), (3, 43)), ((86, 55, 1, 4), "", (3, 49), (3, 50), (3, 51)), ((89, 59, 1, 8), "", (3, 124), (3, 126), (0, 5)), ((92, 119, 1, 8), "", (4, 139), (4, 141), (0, 37)), ((95, 123, 1, 8), "", (4, 157), (4, 159), (0, 38)), ((98, 126, 1, 8), "", (4, 170), (4, 172), (0, 39)), ((101, 128, 1, 8), "", (4, 178), (4, 180), (0, 40)), ((104, 64, 2, 4), "", (3, 144), (3, 145), (3, 146)), ((108, 130, 1, 8), "", (4, 189), (4, 191), (0, 41)), ((111, 133, 1, 8), "", (4, 202), (4, 204), (0, 42)), ((114, 134, 1, 8), "", (4, 206), (4, 208), (0, 43)), ((117, 63, 1, 4), "", (3, 140), (3, 141), (3, 142)), ((120, 93, 2, 4), "", (4, 34), (4, 35), (4, 36)), ((123, 138, 1, 8), "", (4, 222), (4, 224), (0, 47)), ((126, 144, 1, 8), "", (5, 7), (5, 9), (0, 52)), ((129, 145, 1, 8), "", (5, 11), (5, 13), (0, 53)), ((132, 146, 1, 8), "", (5, 15), (5, 17), (0, 54)), ((135, 147, 1, 8), "", (5, 19), (5, 21), (0, 55)), ((138, 150, 1, 8), "", (5, 31), (5, 33), (0, 57)), ((141, 51, 1, 9), "", (4, 182), (3, 33), (3, 34)), ((144, 129, 1, 9), "", (4, 183), (4, 184), (4, 185)), ((148, 82, 1, 9), "", (4, 187), (3, 227), (3, 228)), ((151, 81, 1, 9), "", (4, 188), (3, 223), (3, 224)), ((154, 60, 1, 8), "", (3, 128), (3, 130), (0, 6)), ((157, 99, 3, 8), "", (4, 59), (4, 61), (0, 25)), ((161, 36, 1, 5), "", (3, 179), (2, 204), (2, 205)), ((164, 113, 2, 8), "", (4, 116), (4, 118), (0, 33)), ((167, 112, 1, 8), "", (4, 112), (4, 114), (0, 32)), ((170, 117, 3, 8), "", (4, 131), (4, 133), (0, 35)), ((173, 118, 2, 8), "", (4, 135), (4, 137), (0, 36)), ((179, 114, 2, 8), "", (4, 120), (4, 122), (0, 34)), ((182, 101, 1, 9), "", (4, 67), (4, 68), (4, 69)), ((185, 116, 1, 0), "", (4, 128), (4, 129), (0, 0)), ((188, 102, 1, 9), "", (4, 71), (4, 72), (4, 73)), ((191, 31, 5, 5), "", (3, 187), (2, 159), (2, 160)), ((199, 58, 3, 3), "", (4, 84), (3, 60), (3, 61)), ((202, 115, 1, 9), "", (4, 124), (4, 125), (4, 126)), ((205, 76, 3, 3), "", (4, 83), (3, 201), (3, 202)), ((208, 54, 3, 5), "", (4, 57), (3, 46), (3, 47)), ((216, 79, 1, 9), "", (3, 214), (3, 215), (3, 216)), ((223, 84, 3, 11), "", (4, 143), (3, 236), (3, 237)), ((228, 98, 1, 8), "", (4, 53), (4, 55), (0, 24)), ((231, 75, 1, 9), "", (3, 209), (3, 197), (3, 198)), ((232, 120, 1, 4), "", (4, 144), (4, 145), (4, 146)), ((235, 122, 5, 11), "", (4, 152), (4, 153), (4, 154)), ((239, 50, 1, 11), "", (4, 161), (3, 28), (3, 29)), ((245, 124, 1, 11), "", (4, 162), (4, 163), (4, 164)), ((248, 125, 2, 11), "", (4, 166), (4, 167), (4, 168)), ((251, 127, 5, 11), "", (4, 174), (4, 175), (4, 176)), ((255, 70, 1, 8), "", (3, 175), (3, 177), (0, 11)), ((258, 131, 2, 11), "", (4, 193), (4, 194), (4, 195)), ((261, 109, 3, 10), "", (4, 99), (4, 100), (4, 101)), ((264, 132, 2, 11), "", (4, 197), (4, 198), (4, 199)), ((268, 135, 1, 8), "", (4, 210), (4, 212), (0, 44)), ((271, 136, 3, 8), "", (4, 214), (4, 216), (0, 45)), ((274, 137, 2, 8), "", (4, 218), (4, 220), (0, 46)), ((280, 139, 1, 8), "", (4, 226), (4, 228), (0, 48)), ((283, 140, 4, 8), "", (4, 230), (4, 232), (0, 49)), ((287, 142, 3, 8), "", (4, 239), (5, 1), (0, 50)), ((290, 143, 1, 8), "", (5, 3), (5, 5), (0, 51)), ((293, 74, 4, 9), "", (3, 192), (3, 193), (3, 194)), ((297, 141, 2, 9), "", (4, 234), (4, 235), (4, 236)), ((300, 104, 2, 4), "", (4, 79), (4, 80), (4, 81)), ((303, 62, 1, 8), "", (3, 136), (3, 138), (0, 8)), ((306, 100, 2, 8), "", (4, 63), (4, 65), (0, 26)), ((309, 110, 1, 8), "", (4, 104), (4, 106), (0, 30)), ((312, 73, 3, 8), "", (3, 188), (3, 190), (0, 13)), ((316, 148, 2, 8), "", (5, 23), (5, 25), (0, 56)), ((320, 149, 2, 9), "", (5, 27), (5, 28), (5, 29)), ((323, 121, 1, 0), "", (5, 35), (4, 150), (0, 0)), ((331, 97, 1, 8), "", (4, 49), (4, 51), (0, 23)), ((334, 151, 1, 9), "", (5, 36), (5, 37), (5, 38)), ((337, 86, 4, 5), "", (4, 58), (4, 4), (4, 5)), ((340, 96, 1, 8), "", (4, 45), (4, 47), (0, 22)), ((343, 77, 2, 8), "", (3, 205), (3, 207), (0, 14)), ((352, 71, 1, 8), "", (3, 180), (3, 182), (0, 12)), ((355, 91, 1, 8), "", (4, 26), (4, 28), (0, 19)), ((358, 103, 1, 8), "", (4, 75), (4, 77), (0, 27)), ((361, 105, 2, 8), "", (4, 85), (4, 87), (0, 28)), ((364, 108, 3, 8), "", (4, 95), (4, 97), (0, 29)), ((367, 72, 1, 0), "", (3, 184), (3, 185), (0, 0)), ((370, 106, 1, 0), "", (4, 89), (4, 90), (0, 0)), ((373, 107, 1, 0), "", (4, 92), (4, 93), (0, 0)), ((376, 61, 1, 8), "", (3, 132), (3, 134), (0, 7)), ((379, 111, 2, 8), "", (4, 108), (4, 110), (0, 31)), ((382, 66, 2, 9), "", (3, 153), (3, 154), (3, 155)), ((385, 92, 2, 8), "", (4, 30), (4, 32), (0, 20)), ((388, 95, 1, 0), "", (4, 42), (4, 43), (0, 0)), ((391, 94, 1, 8), "", (4, 38), (4, 40), (0, 21))],
  [((11, 5, 1, 1), "", (1, 135), (1, 90), (0, 0)), ((20, 3, 1, 1), "ChunkCode", (1, 137), (1, 57), (0, 0)), ((30, 10, 1, 1), "ChunkCode", (1, 140), (1, 141), (0, 0)), ((45, 11, 2, 1), "", (1, 217), (1, 218), (0, 0)), ((52, 44, 1, 11), "", (2, 237), (2, 238), (2, 239)), ((55, 45, 1, 7), "", (3, 2), (3, 3), (3, 4)), ((56, 30, 2, 5), "", (3, 6), (2, 155), (2, 156)), ((60, 13, 1, 6), "", (3, 12), (2, 67), (2, 68)), ((66, 47, 1, 7), "", (3, 13), (3, 14), (3, 15)), ((80, 36, 1, 5), "", (3, 17), (2, 204), (2, 205)), ((87, 48, 1, 11), "", (3, 18), (3, 19), (3, 20)), ((93, 49, 1, 11), "", (3, 23), (3, 24), (3, 25)), ((99, 50, 1, 11), "", (3, 27), (3, 28), (3, 29)), ((105, 15, 2, 7), "", (3, 31), (2, 77), (2, 78)), ((108, 51, 1, 9), "", (3, 32), (3, 33), (3, 34)), ((111, 81, 1, 9), "", (3, 222), (3, 223), (3, 224)), ((114, 88, 2, 11), "", (4, 13), (4, 14), (4, 15)), ((117, 14, 1, 7), "", (3, 166), (2, 71), (2, 72)), ((120, 89, 2, 7), "", (4, 17), (4, 18), (4, 19)), ((124, 25, 2, 7), "", (3, 167), (2, 137), (2, 138)), ((127, 31, 5, 5), "", (3, 36), (2, 159), (2, 160)), ((130, 54, 3, 5), "", (3, 161), (3, 46), (3, 47)), ((133, 75, 1, 9), "", (3, 196), (3, 197), (3, 198)), ((136, 82, 1, 9), "", (3, 226), (3, 227), (3, 228)), ((139, 83, 5, 11), "", (3, 230), (3, 231), (3, 232)), ((144, 76, 3, 3), "", (3, 200), (3, 201), (3, 202)), ((151, 20, 2, 0), "", (3, 204), (2, 96), (0, 0)), ((156, 86, 4, 5), "", (4, 238), (4, 4), (4, 5)), ((170, 67, 2, 9), "", (3, 157), (3, 159), (0, 9)), ((176, 68, 2, 9), "", (3, 162), (3, 164), (0, 10)), ((179, 69, 3, 10), "", (3, 168), (3, 169), (3, 170))],
  [((9, 3, 1, 1), "ChunkCode", (1, 145), (1, 57), (0, 0)), ((53, 30, 2, 5), "", (2, 154), (2, 155), (2, 156)), ((57, 36, 1, 5), "", (3, 172), (2, 204), (2, 205)), ((61, 86, 4, 5), "", (4, 103), (4, 4), (4, 5)), ((65, 54, 3, 5), "", (3, 173), (3, 46), (3, 47)), ((69, 31, 5, 5), "", (3, 174), (2, 159), (2, 160))],
  [((9, 3, 1, 1), "ChunkCode", (1, 222), (1, 57), (0, 0)), ((29, 30, 2, 5), "", (3, 1), (2, 155), (2, 156)), ((33, 36, 1, 5), "", (3, 22), (2, 204), (2, 205)), ((37, 54, 3, 5), "", (3, 234), (3, 46), (3, 47)), ((41, 31, 5, 5), "", (4, 156), (2, 159), (2, 160)), ((45, 84, 3, 11), "", (3, 235), (3, 236), (3, 237)), ((48, 85, 4, 11), "", (3, 239), (4, 1), (0, 16)), ((52, 87, 4, 11), "", (4, 8), (4, 10), (0, 17)), ((58, 76, 3, 3), "", (4, 7), (3, 201), (3, 202)), ((64, 109, 3, 10), "", (4, 201), (4, 100), (4, 101)), ((70, 86, 4, 5), "", (4, 3), (4, 4), (4, 5)), ((73, 24, 2, 0), "", (4, 12), (2, 129), (0, 0))],
  [((19, 36, 1, 5), "", (5, 97), (2, 204), (2, 205)), ((25, 165, 2, 0), "", (5, 98), (5, 99), (0, 0)), ((29, 20, 2, 0), "", (5, 102), (2, 96), (0, 0)), ((35, 155, 1, 6), "", (5, 111), (5, 56), (5, 57)), ((40, 159, 2, 6), "", (5, 112), (5, 72), (5, 73)), ((44, 168, 2, 12), "", (5, 113), (5, 115), (0, 58)), ((48, 54, 3, 5), "", (5, 101), (3, 46), (3, 47)), ((53, 169, 2, 0), "", (5, 117), (5, 118), (0, 0)), ((57, 170, 3, 12), "", (5, 120), (5, 122), (0, 59)), ((60, 171, 3, 0), "", (5, 124), (5, 125), (0, 0)), ((71, 161, 2, 5), "", (5, 127), (5, 81), (5, 82)), ((75, 172, 3, 12), "", (5, 128), (5, 130), (0, 60))],
  [((194, 20, 2, 0), "", (2, 95), (2, 96), (0, 0)), ((201, 21, 2, 0), "", (2, 99), (2, 100), (0, 0))],
  [],
  [((300, 23, 3, 0), "", (2, 122), (2, 123), (0, 0)), ((304, 24, 2, 0), "", (2, 128), (2, 129), (0, 0))],
  [((105, 27, 3, 0), "", (2, 143), (2, 144), (0, 0))],
  [],
  [],
  [],
  [((188, 184, 2, 13), "", (6, 173), (6, 175), (0, 69)), ((207, 183, 1, 13), "", (6, 169), (6, 171), (0, 68)), ((211, 194, 2, 13), "", (6, 212), (6, 214), (0, 78)), ((218, 200, 2, 13), "", (6, 236), (6, 238), (0, 84)), ((227, 197, 1, 13), "", (6, 224), (6, 226), (0, 81)), ((230, 191, 3, 13), "", (6, 200), (6, 202), (0, 75)), ((237, 196, 5, 13), "", (6, 220), (6, 222), (0, 80)), ((244, 206, 2, 13), "", (7, 19), (7, 21), (0, 89)), ((250, 207, 5, 13), "", (7, 23), (7, 25), (0, 90)), ((263, 243, 1, 13), "", (7, 165), (7, 167), (0, 124)), ((267, 232, 1, 13), "", (7, 121), (7, 123), (0, 113)), ((270, 189, 5, 13), "", (6, 192), (6, 194), (0, 73)), ((273, 224, 1, 13), "", (7, 90), (7, 92), (0, 106)), ((276, 210, 1, 13), "", (7, 34), (7, 36), (0, 92)), ((279, 230, 2, 13), "", (7, 113), (7, 115), (0, 111)), ((282, 231, 1, 13), "", (7, 117), (7, 119), (0, 112)), ((285, 179, 5, 13), "", (6, 153), (6, 155), (0, 64)), ((289, 186, 2, 13), "", (6, 180), (6, 182), (0, 70)), ((296, 205, 2, 13), "", (7, 15), (7, 17), (0, 88)), ((299, 204, 1, 13), "", (7, 11), (7, 13), (0, 87)), ((302, 216, 1, 13), "", (7, 58), (7, 60), (0, 98)), ((305, 217, 1, 13), "", (7, 62), (7, 64), (0, 99)), ((308, 209, 1, 13), "", (7, 30), (7, 32), (0, 91)), ((311, 240, 2, 13), "", (7, 153), (7, 155), (0, 121)), ((317, 203, 1, 0), "", (7, 8), (7, 9), (0, 0)), ((320, 185, 1, 0), "", (6, 177), (6, 178), (0, 0)), ((323, 187, 2, 13), "", (6, 184), (6, 186), (0, 71)), ((326, 190, 4, 13), "", (6, 196), (6, 198), (0, 74)), ((330, 188, 3, 13), "", (6, 188), (6, 190), (0, 72)), ((333, 192, 1, 13), "", (6, 204), (6, 206), (0, 76)), ((336, 193, 2, 13), "", (6, 208), (6, 210), (0, 77)), ((339, 195, 3, 13), "", (6, 216), (6, 218), (0, 79)), ((343, 201, 1, 13), "", (7, 0), (7, 2), (0, 85)), ((346, 208, 1, 0), "", (7, 27), (7, 28), (0, 0)), ((349, 212, 2, 13), "", (7, 42), (7, 44), (0, 94)), ((352, 213, 4, 13), "", (7, 46), (7, 48), (0, 95)), ((355, 199, 2, 13), "", (6, 232), (6, 234), (0, 83)), ((358, 214, 1, 13), "", (7, 50), (7, 52), (0, 96)), ((364, 220, 2, 13), "", (7, 74), (7, 76), (0, 102)), ((367, 177, 2, 13), "", (6, 145), (6, 147), (0, 62)), ((371, 198, 2, 13), "", (6, 228), (6, 230), (0, 82)), ((374, 178, 1, 13), "", (6, 149), (6, 151), (0, 63)), ((377, 223, 1, 13), "", (7, 86), (7, 88), (0, 105)), ((383, 226, 1, 0), "", (7, 98), (7, 99), (0, 0)), ((386, 227, 1, 13), "", (7, 101), (7, 103), (0, 108)), ((389, 228, 2, 13), "", (7, 105), (7, 107), (0, 109)), ((392, 229, 2, 13), "", (7, 109), (7, 111), (0, 110)), ((395, 233, 2, 13), "", (7, 125), (7, 127), (0, 114)), ((398, 234, 3, 13), "", (7, 129), (7, 131), (0, 115)), ((401, 235, 2, 13), "", (7, 133), (7, 135), (0, 116)), ((404, 236, 2, 13), "", (7, 137), (7, 139), (0, 117)), ((407, 238, 2, 13), "", (7, 145), (7, 147), (0, 119)), ((410, 262, 1, 13), "", (8, 1), (8, 3), (0, 143)), ((413, 242, 1, 13), "", (7, 161), (7, 163), (0, 123)), ((416, 246, 1, 13), "", (7, 177), (7, 179), (0, 127)), ((419, 253, 2, 13), "", (7, 205), (7, 207), (0, 134)), ((422, 254, 4, 13), "", (7, 209), (7, 211), (0, 135)), ((426, 256, 2, 13), "", (7, 217), (7, 219), (0, 137)), ((429, 258, 3, 13), "", (7, 225), (7, 227), (0, 139)), ((432, 250, 2, 13), "", (7, 193), (7, 195), (0, 131)), ((435, 237, 2, 13), "", (7, 141), (7, 143), (0, 118)), ((438, 239, 4, 13), "", (7, 149), (7, 151), (0, 120)), ((441, 241, 3, 13), "", (7, 157), (7, 159), (0, 122)), ((444, 181, 4, 13), "", (6, 161), (6, 163), (0, 66)), ((447, 225, 1, 13), "", (7, 94), (7, 96), (0, 107)), ((450, 244, 2, 13), "", (7, 169), (7, 171), (0, 125)), ((453, 245, 3, 13), "", (7, 173), (7, 175), (0, 126)), ((456, 247, 2, 13), "", (7, 181), (7, 183), (0, 128)), ((459, 248, 2, 13), "", (7, 185), (7, 187), (0, 129)), ((462, 249, 3, 13), "", (7, 189), (7, 191), (0, 130)), ((465, 251, 2, 13), "", (7, 197), (7, 199), (0, 132)), ((468, 252, 2, 13), "", (7, 201), (7, 203), (0, 133)), ((471, 255, 4, 13), "", (7, 213), (7, 215), (0, 136)), ((474, 257, 4, 13), "", (7, 221), (7, 223), (0, 138)), ((477, 259, 4, 13), "", (7, 229), (7, 231), (0, 140)), ((480, 260, 4, 13), "", (7, 233), (7, 235), (0, 141)), ((483, 261, 2, 13), "", (7, 237), (7, 239), (0, 142)), ((486, 263, 1, 13), "", (8, 5), (8, 7), (0, 144)), ((489, 264, 3, 13), "", (8, 9), (8, 11), (0, 145)), ((492, 265, 3, 13), "", (8, 13), (8, 15), (0, 146)), ((495, 182, 2, 13), "", (6, 165), (6, 167), (0, 67)), ((498, 202, 2, 13), "", (7, 4), (7, 6), (0, 86)), ((501, 211, 1, 13), "", (7, 38), (7, 40), (0, 93)), ((504, 215, 3, 13), "", (7, 54), (7, 56), (0, 97)), ((507, 218, 2, 13), "", (7, 66), (7, 68), (0, 100)), ((510, 219, 2, 13), "", (7, 70), (7, 72), (0, 101)), ((513, 221, 3, 13), "", (7, 78), (7, 80), (0, 103)), ((516, 222, 2, 13), "", (7, 82), (7, 84), (0, 104)), ((519, 176, 1, 13), "", (6, 141), (6, 143), (0, 61)), ((522, 180, 5, 13), "", (6, 157), (6, 159), (0, 65)), ((528, 266, 1, 13), "", (8, 17), (8, 19), (0, 147)), ((531, 270, 2, 13), "", (8, 33), (8, 35), (0, 148)), ((534, 274, 3, 0), "", (8, 49), (8, 50), (0, 0)), ((538, 277, 3, 0), "", (8, 60), (8, 61), (0, 0)), ((542, 276, 5, 13), "", (8, 56), (8, 58), (0, 149))],
  [((9, 0, 1, 1), "", (1, 29), (1, 30), (0, 0)), ((12, 173, 1, 1), "", (5, 134), (5, 135), (0, 0)), ((13, 33, 3, 2), "", (2, 192), (2, 193), (2, 194)), ((17, 174, 3, 13), "", (6, 133), (6, 134), (6, 135)), ((18, 38, 1, 2), "", (2, 212), (2, 213), (2, 214)), ((22, 175, 1, 13), "", (6, 137), (6, 138), (6, 139)), ((23, 156, 1, 2), "", (5, 59), (5, 60), (5, 61)), ((26, 267, 1, 13), "", (8, 21), (8, 22), (8, 23)), ((27, 157, 1, 2), "", (5, 63), (5, 64), (5, 65)), ((30, 268, 1, 13), "", (8, 25), (8, 26), (8, 27)), ((31, 158, 3, 2), "", (5, 67), (5, 68), (5, 69)), ((34, 269, 3, 13), "", (8, 29), (8, 30), (8, 31)), ((35, 160, 4, 2), "", (5, 76), (5, 77), (5, 78)), ((39, 271, 4, 13), "", (8, 37), (8, 38), (8, 39)), ((40, 162, 4, 2), "", (5, 85), (5, 86), (5, 87)), ((43, 272, 4, 13), "", (8, 41), (8, 42), (8, 43)), ((44, 163, 2, 2), "", (5, 89), (5, 90), (5, 91)), ((48, 273, 2, 13), "", (8, 45), (8, 46), (8, 47)), ((49, 166, 1, 2), "", (5, 103), (5, 104), (5, 105)), ((52, 275, 1, 13), "", (8, 52), (8, 53), (8, 54))]]
def am_pn (desc : String) (n : Nat) : Bool := match parseMethodDescriptor desc with
  | some sig => decide (n = sig.parameters.length)
  | none => false
theorem am_pn_ok {desc : String} {n : Nat} (h : am_pn desc n = true) : ∀ sig, parseMethodDescriptor desc = some sig → n = sig.parameters.length := by
  intro sig hs
  unfold am_pn at h
  rw [hs] at h
  exact of_decide_eq_true h
def am_kv (oc : Nat) (q : (Nat × Nat × Nat × Nat) × String × (Nat × Nat) × (Nat × Nat) × (Nat × Nat)) (k : Nat) : Bool := match am_cl[k]? with
    | some c => am_iT q.2.2.1 (.methodLink (am_nm oc) q.1.1 (am_YY q.1.2.1).1) && am_iT q.2.2.2.1 (.instanceMethod (am_YY q.1.2.1).1) && am_iT q.2.2.2.2 (.selects c.1 (am_YY q.1.2.1).1 (am_YY q.1.2.1).1) && decide (1 ≤ q.1.2.2.1) && am_pn (am_YY q.1.2.1).1.desc (q.1.2.2.1 - 1)
    | none => false
def am_kb (oc : Nat) (q : (Nat × Nat × Nat × Nat) × String × (Nat × Nat) × (Nat × Nat) × (Nat × Nat)) : Bool := decide (q.1.2.1 < 278) && match q.1.2.2.2 with
  | 0 => decide (q.1.2.1 ≠ 38) && am_iT q.2.2.1 (.methodLink (am_nm oc) q.1.1 (am_YY q.1.2.1).1) && am_iT q.2.2.2.1 (.static (am_YY q.1.2.1).1) && am_pn (am_YY q.1.2.1).1.desc q.1.2.2.1
  | 1 => decide (q.1.2.1 ≠ 38) && (am_iT q.2.2.1 (.methodLink (am_nm oc) q.1.1 (am_YY q.1.2.1).1) || am_iT q.2.2.1 (.methodLinkNest (am_nm oc) q.1.1 (am_YY q.1.2.1).1 q.2.1)) && am_iT q.2.2.2.1 (.instanceMethod (am_YY q.1.2.1).1) && decide ((am_YY q.1.2.1).1.name = "<init>") && decide ((am_YY q.1.2.1).2.2 = none) && decide (1 ≤ q.1.2.2.1) && am_pn (am_YY q.1.2.1).1.desc (q.1.2.2.1 - 1)
  | k + 2 => am_kv oc q k
theorem am_kb_ok {oc : Nat} {q : (Nat × Nat × Nat × Nat) × String × (Nat × Nat) × (Nat × Nat) × (Nat × Nat)} (h : am_kb oc q = true) : am_okK am_P0 am_YY am_cl am_Ts (am_nm oc) q.1.1 q.1.2.1 q.1.2.2.1 q.1.2.2.2 := by
  obtain ⟨⟨idx, a, b, c⟩, host, p1, p2, p3⟩ := q
  unfold am_kb at h
  dsimp only at h ⊢
  simp only [Bool.and_eq_true] at h
  have ha := of_decide_eq_true h.1
  refine ⟨am_mOk ha, ?_⟩
  have h := h.2
  match c, h with
  | 0, h =>
    simp only [Bool.and_eq_true, decide_eq_true_eq] at h
    exact ⟨(am_mAll ha h.1.1.1).2, am_iT_ok h.1.1.2, am_iT_ok h.1.2, am_pn_ok h.2⟩
  | 1, h =>
    simp only [Bool.and_eq_true, Bool.or_eq_true, decide_eq_true_eq] at h
    obtain ⟨⟨⟨⟨⟨⟨h0, h1⟩, h2⟩, h3⟩, h4⟩, h5⟩, h6⟩ := h
    refine ⟨(am_mAll ha h0).2, h1.elim (fun z => Or.inl (am_iT_ok z)) (fun z => Or.inr ⟨host, am_iT_ok z⟩), am_iT_ok h2, h3, h4, fun sig hs => ?_⟩
    have := am_pn_ok h6 sig hs
    omega
  | k + 2, h =>
    have h : am_kv oc ((idx, a, b, k + 2), host, p1, p2, p3) k = true := h
    unfold am_kv at h
    split at h
    · rename_i c hc
      simp only [Bool.and_eq_true, decide_eq_true_eq] at h
      obtain ⟨⟨⟨⟨h1, h2⟩, h3⟩, h4⟩, h5⟩ := h
      refine ⟨c.1, c.2.1, c.2.2, hc, am_iT_ok h1, am_iT_ok h2, am_iT_ok h3, fun sig hs => ?_⟩
      have := am_pn_ok h5 sig hs
      omega
    · cases h
set_option maxRecDepth 100000 in
theorem am_hK_eq : am_LKc = am_hK.map (fun l => l.map (fun q => q.1)) := by decide +kernel
set_option maxRecDepth 100000 in
theorem am_hK_ok : (List.range 22).all (fun o => ((am_hK[o]?).getD []).all (am_kb o)) = true := by decide +kernel
