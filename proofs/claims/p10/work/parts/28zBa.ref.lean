/-! THE REFERENCE: what each method does (printed by wip/p5/lw.py) -/
def k174_39 (s : kS) (y1 : Int32) (y2 : Int32) (z0 : Int32) : kS × Int32 := if z0 ≠ 0 then if (s.1 0) ≠ 16384 then (kf (ka (ka s 1 (s.1 0) y1) 2 (s.1 0) y2) 0 ((s.1 0) + 1), (s.1 0) + 1) else (s, (-3)) else (s, (-1))
theorem lt174_39 {sc : Nat × (Nat → Int32)} {N d : Nat} {S0 S : am_S} {s : kS} {y1 : Int32} {y2 : Int32} {z0 : Int32} {o3 : Option Value} (hS : MK S0 S s) : am_L (am_PP sc) N d 174 39 [some (.ref 39), some (.int y1), some (.int y2), o3] [.int z0] S (fun o S1 => o = some (some (.int ((k174_39 s y1 y2 z0).2))) ∧ MK S0 S1 (k174_39 s y1 y2 z0).1) := by
  refine l3 (ls' := [some (.ref 39), some (.int y1), some (.int y2), some (.int z0)]) hi_174_39 (Nat.le_of_ble_eq_true rfl) rfl ?_
  refine l1 (v := z0) hi_174_40 rfl ?_
  by_cases c1 : z0 ≠ 0
  · refine l12t hi_174_41 (decide_eq_true c1) ?_
    refine l2 (v := 39) hi_174_46 rfl ?_
    refine l20 (v := .int (s.1 0)) hS hi_174_47 rfl ?_
    refine l0 hi_174_50 ?_
    by_cases c2 : (s.1 0) ≠ 16384
    · refine l13t hi_174_53 (decide_eq_true c2) ?_
      refine l2 (v := 39) hi_174_59 rfl ?_
      refine l20 (v := .ref 40) hS hi_174_60 rfl ?_
      refine l2 (v := 39) hi_174_63 rfl ?_
      refine l20 (v := .int (s.1 0)) hS hi_174_64 rfl ?_
      refine l1 (v := y1) hi_174_67 rfl ?_
      refine l26 hS ma_1 hi_174_68 fun S5 h6 g3 g4 => ?_
      refine l2 (v := 39) hi_174_69 rfl ?_
      refine l20 (v := .ref 41) h6 hi_174_70 rfl ?_
      refine l2 (v := 39) hi_174_73 rfl ?_
      refine l20 (v := .int (s.1 0)) h6 hi_174_74 rfl ?_
      refine l1 (v := y2) hi_174_77 rfl ?_
      refine l26 h6 ma_2 hi_174_78 fun S9 h10 g7 g8 => ?_
      refine l2 (v := 39) hi_174_79 rfl ?_
      refine l7 hi_174_80 ?_
      refine l20 (v := .int (s.1 0)) h10 hi_174_81 rfl ?_
      refine l0 hi_174_84 ?_
      refine l10 hi_174_85 ?_
      show am_L _ _ _ _ _ [some (.ref 39), some (.int y1), some (.int y2), some (.int z0)] [.int ((s.1 0) + 1), .ref 39] _ _
      refine l21 h10 hi_174_86 ms_0 fun S11 h12 => ?_
      refine l2 (v := 39) hi_174_89 rfl ?_
      refine l20 (v := .int ((s.1 0) + 1)) h12 hi_174_90 rfl ?_
      refine l33 hi_174_93 ⟨?_, ?_⟩
      · unfold k174_39; rw [if_pos c1]; rw [if_pos c2]
      · unfold k174_39; rw [if_pos c1]; rw [if_pos c2]; exact h12
    · refine l13f hi_174_53 (decide_eq_false c2) ?_
      refine l0 hi_174_56 ?_
      refine l33 hi_174_58 ⟨?_, ?_⟩
      · unfold k174_39; rw [if_pos c1]; rw [if_neg c2]
      · unfold k174_39; rw [if_pos c1]; rw [if_neg c2]; exact hS
  · refine l12f hi_174_41 (decide_eq_false c1) ?_
    refine l0 hi_174_44 ?_
    refine l33 hi_174_45 ⟨?_, ?_⟩
    · unfold k174_39; rw [if_neg c1]
    · unfold k174_39; rw [if_neg c1]; exact hS
def k174_38 (s : kS) (y1 : Int32) (y2 : Int32) : kS × Int32 := k174_39 s y1 y2 0
theorem lt174_38 {sc : Nat × (Nat → Int32)} {N d : Nat} {S0 S : am_S} {s : kS} {y1 : Int32} {y2 : Int32} {o3 : Option Value} (hS : MK S0 S s) : am_L (am_PP sc) N d 174 38 [some (.ref 39), some (.int y1), some (.int y2), o3] [] S (fun o S1 => o = some (some (.int ((k174_38 s y1 y2).2))) ∧ MK S0 S1 (k174_38 s y1 y2).1) := by
  refine l0 hi_174_38 ?_
  refine am_L.mono (lt174_39 hS) ?_
  rintro o S1 ⟨e, h⟩
  have q : k174_38 s y1 y2 = k174_39 s y1 y2 0 := rfl
  rw [q]; exact ⟨e, h⟩
def k174_34 (s : kS) (y1 : Int32) (y2 : Int32) : kS × Int32 := k174_39 s y1 y2 1
theorem lt174_34 {sc : Nat × (Nat → Int32)} {N d : Nat} {S0 S : am_S} {s : kS} {y1 : Int32} {y2 : Int32} {o3 : Option Value} (hS : MK S0 S s) : am_L (am_PP sc) N d 174 34 [some (.ref 39), some (.int y1), some (.int y2), o3] [] S (fun o S1 => o = some (some (.int ((k174_34 s y1 y2).2))) ∧ MK S0 S1 (k174_34 s y1 y2).1) := by
  refine l0 hi_174_34 ?_
  refine l18 hi_174_35 ?_
  refine am_L.mono (lt174_39 hS) ?_
  rintro o S1 ⟨e, h⟩
  have q : k174_34 s y1 y2 = k174_39 s y1 y2 1 := rfl
  rw [q]; exact ⟨e, h⟩
def k174_22 (s : kS) (y1 : Int32) (y2 : Int32) : kS × Int32 := if y1 < 40 then k174_38 s y1 y2 else if 72 < y1 then k174_38 s y1 y2 else k174_34 s y1 y2
theorem lt174_22 {sc : Nat × (Nat → Int32)} {N d : Nat} {S0 S : am_S} {s : kS} {y1 : Int32} {y2 : Int32} {o3 : Option Value} (hS : MK S0 S s) : am_L (am_PP sc) N d 174 22 [some (.ref 39), some (.int y1), some (.int y2), o3] [] S (fun o S1 => o = some (some (.int ((k174_22 s y1 y2).2))) ∧ MK S0 S1 (k174_22 s y1 y2).1) := by
  refine l1 (v := y1) hi_174_22 rfl ?_
  refine l0 hi_174_23 ?_
  by_cases c1 : y1 < 40
  · refine l13t hi_174_25 (decide_eq_true c1) ?_
    refine am_L.mono (lt174_38 hS) ?_
    rintro o S1 ⟨e, h⟩
    have q : k174_22 s y1 y2 = k174_38 s y1 y2 := by unfold k174_22; rw [if_pos c1]
    rw [q]; exact ⟨e, h⟩
  · refine l13f hi_174_25 (decide_eq_false c1) ?_
    refine l1 (v := y1) hi_174_28 rfl ?_
    refine l0 hi_174_29 ?_
    by_cases c2 : 72 < y1
    · refine l13t hi_174_31 (decide_eq_true c2) ?_
      refine am_L.mono (lt174_38 hS) ?_
      rintro o S1 ⟨e, h⟩
      have q : k174_22 s y1 y2 = k174_38 s y1 y2 := by unfold k174_22; rw [if_neg c1]; rw [if_pos c2]
      rw [q]; exact ⟨e, h⟩
    · refine l13f hi_174_31 (decide_eq_false c2) ?_
      refine am_L.mono (lt174_34 hS) ?_
      rintro o S1 ⟨e, h⟩
      have q : k174_22 s y1 y2 = k174_34 s y1 y2 := by unfold k174_22; rw [if_neg c1]; rw [if_neg c2]
      rw [q]; exact ⟨e, h⟩
def k174_10 (s : kS) (y1 : Int32) (y2 : Int32) : kS × Int32 := if y1 < 10 then k174_22 s y1 y2 else if y1 ≤ 31 then k174_34 s y1 y2 else k174_22 s y1 y2
theorem lt174_10 {sc : Nat × (Nat → Int32)} {N d : Nat} {S0 S : am_S} {s : kS} {y1 : Int32} {y2 : Int32} {o3 : Option Value} (hS : MK S0 S s) : am_L (am_PP sc) N d 174 10 [some (.ref 39), some (.int y1), some (.int y2), o3] [] S (fun o S1 => o = some (some (.int ((k174_10 s y1 y2).2))) ∧ MK S0 S1 (k174_10 s y1 y2).1) := by
  refine l1 (v := y1) hi_174_10 rfl ?_
  refine l0 hi_174_11 ?_
  by_cases c1 : y1 < 10
  · refine l13t hi_174_13 (decide_eq_true c1) ?_
    refine am_L.mono (lt174_22 hS) ?_
    rintro o S1 ⟨e, h⟩
    have q : k174_10 s y1 y2 = k174_22 s y1 y2 := by unfold k174_10; rw [if_pos c1]
    rw [q]; exact ⟨e, h⟩
  · refine l13f hi_174_13 (decide_eq_false c1) ?_
    refine l1 (v := y1) hi_174_16 rfl ?_
    refine l0 hi_174_17 ?_
    by_cases c2 : y1 ≤ 31
    · refine l13t hi_174_19 (decide_eq_true c2) ?_
      refine am_L.mono (lt174_34 hS) ?_
      rintro o S1 ⟨e, h⟩
      have q : k174_10 s y1 y2 = k174_34 s y1 y2 := by unfold k174_10; rw [if_neg c1]; rw [if_pos c2]
      rw [q]; exact ⟨e, h⟩
    · refine l13f hi_174_19 (decide_eq_false c2) ?_
      refine am_L.mono (lt174_22 hS) ?_
      rintro o S1 ⟨e, h⟩
      have q : k174_10 s y1 y2 = k174_22 s y1 y2 := by unfold k174_10; rw [if_neg c1]; rw [if_neg c2]
      rw [q]; exact ⟨e, h⟩
/-- word(II)I -/
def k174 (s : kS) (x1 : Int32) (x2 : Int32) : kS × Int32 := if x1 < 1 then k174_10 s x1 x2 else if x1 ≤ 3 then k174_34 s x1 x2 else k174_10 s x1 x2
theorem lt174 {sc : Nat × (Nat → Int32)} {N d : Nat} {S0 S : am_S} {s : kS} {x1 : Int32} {x2 : Int32} (hS : MK S0 S s) : am_L (am_PP sc) N d 174 0 [some (.ref 39), some (.int x1), some (.int x2), none] [] S (fun o S1 => o = some (some (.int ((k174 s x1 x2).2))) ∧ MK S0 S1 (k174 s x1 x2).1) := by
  refine l1 (v := x1) hi_174_0 rfl ?_
  refine l0 hi_174_1 ?_
  by_cases c1 : x1 < 1
  · refine l13t hi_174_2 (decide_eq_true c1) ?_
    refine am_L.mono (lt174_10 hS) ?_
    rintro o S1 ⟨e, h⟩
    have q : k174 s x1 x2 = k174_10 s x1 x2 := by unfold k174; rw [if_pos c1]
    rw [q]; exact ⟨e, h⟩
  · refine l13f hi_174_2 (decide_eq_false c1) ?_
    refine l1 (v := x1) hi_174_5 rfl ?_
    refine l0 hi_174_6 ?_
    by_cases c2 : x1 ≤ 3
    · refine l13t hi_174_7 (decide_eq_true c2) ?_
      refine am_L.mono (lt174_34 hS) ?_
      rintro o S1 ⟨e, h⟩
      have q : k174 s x1 x2 = k174_34 s x1 x2 := by unfold k174; rw [if_neg c1]; rw [if_pos c2]
      rw [q]; exact ⟨e, h⟩
    · refine l13f hi_174_7 (decide_eq_false c2) ?_
      refine am_L.mono (lt174_10 hS) ?_
      rintro o S1 ⟨e, h⟩
      have q : k174 s x1 x2 = k174_10 s x1 x2 := by unfold k174; rw [if_neg c1]; rw [if_neg c2]
      rw [q]; exact ⟨e, h⟩
/-- begin()V -/
def k176 (s : kS) : kS × Int32 := (kf (kf (ka (ka (ka (ka (ka (ka (ka (kf (kf (kf (kf (ka (ka (ka (ka (kf (kf (kf (kf (kf (kf (kf (kf (kf (kf s 4 0) 5 0) 6 0) 8 0) 10 0) 15 0) 20 0) 24 0) 31 0) 32 0) 33 0 0) 34 0 0) 35 0 0) 36 0 0) 37 0) 44 0) 48 0) 53 1) 54 0 (-1)) 59 0 (-1)) 55 0 0) 56 0 1) 58 0 0) 60 0 0) 67 0 0) 62 0) 68 0, 0)
theorem lt176 {sc : Nat × (Nat → Int32)} {N d : Nat} {S0 S : am_S} {s : kS} (hS : MK S0 S s) : am_L (am_PP sc) N d 176 0 [some (.ref 39)] [] S (fun o S1 => o = some none ∧ MK S0 S1 (k176 s).1) := by
  refine l2 (v := 39) hi_176_0 rfl ?_
  refine l0 hi_176_1 ?_
  refine l21 hS hi_176_2 ms_4 fun S1 h2 => ?_
  refine l2 (v := 39) hi_176_5 rfl ?_
  refine l0 hi_176_6 ?_
  refine l21 h2 hi_176_7 ms_5 fun S3 h4 => ?_
  refine l2 (v := 39) hi_176_10 rfl ?_
  refine l0 hi_176_11 ?_
  refine l21 h4 hi_176_12 ms_6 fun S5 h6 => ?_
  refine l2 (v := 39) hi_176_15 rfl ?_
  refine l0 hi_176_16 ?_
  refine l21 h6 hi_176_17 ms_8 fun S7 h8 => ?_
  refine l2 (v := 39) hi_176_20 rfl ?_
  refine l0 hi_176_21 ?_
  refine l21 h8 hi_176_22 ms_10 fun S9 h10 => ?_
  refine l2 (v := 39) hi_176_25 rfl ?_
  refine l0 hi_176_26 ?_
  refine l21 h10 hi_176_27 ms_15 fun S11 h12 => ?_
  refine l2 (v := 39) hi_176_30 rfl ?_
  refine l0 hi_176_31 ?_
  refine l21 h12 hi_176_32 ms_20 fun S13 h14 => ?_
  refine l2 (v := 39) hi_176_35 rfl ?_
  refine l0 hi_176_36 ?_
  refine l21 h14 hi_176_37 ms_24 fun S15 h16 => ?_
  refine l2 (v := 39) hi_176_40 rfl ?_
  refine l0 hi_176_41 ?_
  refine l21 h16 hi_176_42 ms_31 fun S17 h18 => ?_
  refine l2 (v := 39) hi_176_45 rfl ?_
  refine l0 hi_176_46 ?_
  refine l21 h18 hi_176_47 ms_32 fun S19 h20 => ?_
  refine l2 (v := 39) hi_176_50 rfl ?_
  refine l20 (v := .ref 58) h20 hi_176_51 rfl ?_
  refine l0 hi_176_54 ?_
  refine l0 hi_176_55 ?_
  refine l26 h20 ma_33 hi_176_56 fun S23 h24 g21 g22 => ?_
  refine l2 (v := 39) hi_176_57 rfl ?_
  refine l20 (v := .ref 59) h24 hi_176_58 rfl ?_
  refine l0 hi_176_61 ?_
  refine l0 hi_176_62 ?_
  refine l26 h24 ma_34 hi_176_63 fun S27 h28 g25 g26 => ?_
  refine l2 (v := 39) hi_176_64 rfl ?_
  refine l20 (v := .ref 60) h28 hi_176_65 rfl ?_
  refine l0 hi_176_68 ?_
  refine l0 hi_176_69 ?_
  refine l26 h28 ma_35 hi_176_70 fun S31 h32 g29 g30 => ?_
  refine l2 (v := 39) hi_176_71 rfl ?_
  refine l20 (v := .ref 61) h32 hi_176_72 rfl ?_
  refine l0 hi_176_75 ?_
  refine l0 hi_176_76 ?_
  refine l26 h32 ma_36 hi_176_77 fun S35 h36 g33 g34 => ?_
  refine l2 (v := 39) hi_176_78 rfl ?_
  refine l0 hi_176_79 ?_
  refine l21 h36 hi_176_80 ms_37 fun S37 h38 => ?_
  refine l2 (v := 39) hi_176_83 rfl ?_
  refine l0 hi_176_84 ?_
  refine l21 h38 hi_176_85 ms_44 fun S39 h40 => ?_
  refine l2 (v := 39) hi_176_88 rfl ?_
  refine l0 hi_176_89 ?_
  refine l21 h40 hi_176_90 ms_48 fun S41 h42 => ?_
  refine l2 (v := 39) hi_176_93 rfl ?_
  refine l0 hi_176_94 ?_
  refine l21 h42 hi_176_95 ms_53 fun S43 h44 => ?_
  refine l2 (v := 39) hi_176_98 rfl ?_
  refine l20 (v := .ref 75) h44 hi_176_99 rfl ?_
  refine l0 hi_176_102 ?_
  refine l0 hi_176_103 ?_
  refine l26 h44 ma_54 hi_176_104 fun S47 h48 g45 g46 => ?_
  refine l2 (v := 39) hi_176_105 rfl ?_
  refine l20 (v := .ref 80) h48 hi_176_106 rfl ?_
  refine l0 hi_176_109 ?_
  refine l0 hi_176_110 ?_
  refine l26 h48 ma_59 hi_176_111 fun S51 h52 g49 g50 => ?_
  refine l2 (v := 39) hi_176_112 rfl ?_
  refine l20 (v := .ref 76) h52 hi_176_113 rfl ?_
  refine l0 hi_176_116 ?_
  refine l0 hi_176_117 ?_
  refine l26 h52 ma_55 hi_176_118 fun S55 h56 g53 g54 => ?_
  refine l2 (v := 39) hi_176_119 rfl ?_
  refine l20 (v := .ref 77) h56 hi_176_120 rfl ?_
  refine l0 hi_176_123 ?_
  refine l0 hi_176_124 ?_
  refine l26 h56 ma_56 hi_176_125 fun S59 h60 g57 g58 => ?_
  refine l2 (v := 39) hi_176_126 rfl ?_
  refine l20 (v := .ref 79) h60 hi_176_127 rfl ?_
  refine l0 hi_176_130 ?_
  refine l0 hi_176_131 ?_
  refine l26 h60 ma_58 hi_176_132 fun S63 h64 g61 g62 => ?_
  refine l2 (v := 39) hi_176_133 rfl ?_
  refine l20 (v := .ref 81) h64 hi_176_134 rfl ?_
  refine l0 hi_176_137 ?_
  refine l0 hi_176_138 ?_
  refine l26 h64 ma_60 hi_176_139 fun S67 h68 g65 g66 => ?_
  refine l2 (v := 39) hi_176_140 rfl ?_
  refine l20 (v := .ref 87) h68 hi_176_141 rfl ?_
  refine l0 hi_176_144 ?_
  refine l0 hi_176_145 ?_
  refine l26 h68 ma_67 hi_176_146 fun S71 h72 g69 g70 => ?_
  refine l2 (v := 39) hi_176_147 rfl ?_
  refine l0 hi_176_148 ?_
  refine l21 h72 hi_176_149 ms_62 fun S73 h74 => ?_
  refine l2 (v := 39) hi_176_152 rfl ?_
  refine l0 hi_176_153 ?_
  refine l21 h74 hi_176_154 ms_68 fun S75 h76 => ?_
  refine l35 hi_176_157 ⟨rfl, ?_⟩
  exact h76
/-- beginBlock(Z)V -/
def k177 (s : kS) (x1 : Int32) : kS × Int32 := (kf (ka (ka (ka (ka (ka (ka s 38 (s.1 37) (s.1 24)) 39 (s.1 37) (s.1 44)) 40 (s.1 37) (s.1 48)) 41 (s.1 37) (s.1 32)) 42 (s.1 37) x1) 43 (s.1 37) 0) 37 ((s.1 37) + 1), 0)
theorem lt177 {sc : Nat × (Nat → Int32)} {N d : Nat} {S0 S : am_S} {s : kS} {x1 : Int32} (hS : MK S0 S s) : am_L (am_PP sc) N d 177 0 [some (.ref 39), some (.int x1)] [] S (fun o S1 => o = some none ∧ MK S0 S1 (k177 s x1).1) := by
  refine l2 (v := 39) hi_177_0 rfl ?_
  refine l20 (v := .ref 62) hS hi_177_1 rfl ?_
  refine l2 (v := 39) hi_177_4 rfl ?_
  refine l20 (v := .int (s.1 37)) hS hi_177_5 rfl ?_
  refine l2 (v := 39) hi_177_8 rfl ?_
  refine l20 (v := .int (s.1 24)) hS hi_177_9 rfl ?_
  refine l26 hS ma_38 hi_177_12 fun S3 h4 g1 g2 => ?_
  refine l2 (v := 39) hi_177_13 rfl ?_
  refine l20 (v := .ref 63) h4 hi_177_14 rfl ?_
  refine l2 (v := 39) hi_177_17 rfl ?_
  refine l20 (v := .int (s.1 37)) h4 hi_177_18 rfl ?_
  refine l2 (v := 39) hi_177_21 rfl ?_
  refine l20 (v := .int (s.1 44)) h4 hi_177_22 rfl ?_
  refine l26 h4 ma_39 hi_177_25 fun S7 h8 g5 g6 => ?_
  refine l2 (v := 39) hi_177_26 rfl ?_
  refine l20 (v := .ref 64) h8 hi_177_27 rfl ?_
  refine l2 (v := 39) hi_177_30 rfl ?_
  refine l20 (v := .int (s.1 37)) h8 hi_177_31 rfl ?_
  refine l2 (v := 39) hi_177_34 rfl ?_
  refine l20 (v := .int (s.1 48)) h8 hi_177_35 rfl ?_
  refine l26 h8 ma_40 hi_177_38 fun S11 h12 g9 g10 => ?_
  refine l2 (v := 39) hi_177_39 rfl ?_
  refine l20 (v := .ref 65) h12 hi_177_40 rfl ?_
  refine l2 (v := 39) hi_177_43 rfl ?_
  refine l20 (v := .int (s.1 37)) h12 hi_177_44 rfl ?_
  refine l2 (v := 39) hi_177_47 rfl ?_
  refine l20 (v := .int (s.1 32)) h12 hi_177_48 rfl ?_
  refine l26 h12 ma_41 hi_177_51 fun S15 h16 g13 g14 => ?_
  refine l2 (v := 39) hi_177_52 rfl ?_
  refine l20 (v := .ref 66) h16 hi_177_53 rfl ?_
  refine l2 (v := 39) hi_177_56 rfl ?_
  refine l20 (v := .int (s.1 37)) h16 hi_177_57 rfl ?_
  refine l1 (v := x1) hi_177_60 rfl ?_
  refine l26 h16 ma_42 hi_177_61 fun S19 h20 g17 g18 => ?_
  refine l2 (v := 39) hi_177_62 rfl ?_
  refine l20 (v := .ref 67) h20 hi_177_63 rfl ?_
  refine l2 (v := 39) hi_177_66 rfl ?_
  refine l20 (v := .int (s.1 37)) h20 hi_177_67 rfl ?_
  refine l0 hi_177_70 ?_
  refine l26 h20 ma_43 hi_177_71 fun S23 h24 g21 g22 => ?_
  refine l2 (v := 39) hi_177_72 rfl ?_
  refine l7 hi_177_73 ?_
  refine l20 (v := .int (s.1 37)) h24 hi_177_74 rfl ?_
  refine l0 hi_177_77 ?_
  refine l10 hi_177_78 ?_
  show am_L _ _ _ _ _ [some (.ref 39), some (.int x1)] [.int ((s.1 37) + 1), .ref 39] _ _
  refine l21 h24 hi_177_79 ms_37 fun S25 h26 => ?_
  refine l35 hi_177_82 ⟨rfl, ?_⟩
  exact h26
/-- pile(IIII)V -/
def k179 (s : kS) (x1 : Int32) (x2 : Int32) (x3 : Int32) (x4 : Int32) : kS × Int32 := (kf (ka (ka (ka (ka s 11 (s.1 10) x1) 12 (s.1 10) x2) 13 (s.1 10) x3) 14 (s.1 10) x4) 10 ((s.1 10) + 1), 0)
theorem lt179 {sc : Nat × (Nat → Int32)} {N d : Nat} {S0 S : am_S} {s : kS} {x1 : Int32} {x2 : Int32} {x3 : Int32} {x4 : Int32} (hS : MK S0 S s) : am_L (am_PP sc) N d 179 0 [some (.ref 39), some (.int x1), some (.int x2), some (.int x3), some (.int x4)] [] S (fun o S1 => o = some none ∧ MK S0 S1 (k179 s x1 x2 x3 x4).1) := by
  refine l2 (v := 39) hi_179_0 rfl ?_
  refine l20 (v := .ref 42) hS hi_179_1 rfl ?_
  refine l2 (v := 39) hi_179_4 rfl ?_
  refine l20 (v := .int (s.1 10)) hS hi_179_5 rfl ?_
  refine l1 (v := x1) hi_179_8 rfl ?_
  refine l26 hS ma_11 hi_179_9 fun S3 h4 g1 g2 => ?_
  refine l2 (v := 39) hi_179_10 rfl ?_
  refine l20 (v := .ref 43) h4 hi_179_11 rfl ?_
  refine l2 (v := 39) hi_179_14 rfl ?_
  refine l20 (v := .int (s.1 10)) h4 hi_179_15 rfl ?_
  refine l1 (v := x2) hi_179_18 rfl ?_
  refine l26 h4 ma_12 hi_179_19 fun S7 h8 g5 g6 => ?_
  refine l2 (v := 39) hi_179_20 rfl ?_
  refine l20 (v := .ref 44) h8 hi_179_21 rfl ?_
  refine l2 (v := 39) hi_179_24 rfl ?_
  refine l20 (v := .int (s.1 10)) h8 hi_179_25 rfl ?_
  refine l1 (v := x3) hi_179_28 rfl ?_
  refine l26 h8 ma_13 hi_179_29 fun S11 h12 g9 g10 => ?_
  refine l2 (v := 39) hi_179_30 rfl ?_
  refine l20 (v := .ref 45) h12 hi_179_31 rfl ?_
  refine l2 (v := 39) hi_179_34 rfl ?_
  refine l20 (v := .int (s.1 10)) h12 hi_179_35 rfl ?_
  refine l1 (v := x4) hi_179_38 rfl ?_
  refine l26 h12 ma_14 hi_179_40 fun S15 h16 g13 g14 => ?_
  refine l2 (v := 39) hi_179_41 rfl ?_
  refine l7 hi_179_42 ?_
  refine l20 (v := .int (s.1 10)) h16 hi_179_43 rfl ?_
  refine l0 hi_179_46 ?_
  refine l10 hi_179_47 ?_
  show am_L _ _ _ _ _ [some (.ref 39), some (.int x1), some (.int x2), some (.int x3), some (.int x4)] [.int ((s.1 10) + 1), .ref 39] _ _
  refine l21 h16 hi_179_48 ms_10 fun S17 h18 => ?_
  refine l35 hi_179_51 ⟨rfl, ?_⟩
  exact h18
/-- expectBlock()V -/
def k178 (s : kS) : kS × Int32 := ((k179 s 1 0 0 0).1, 0)
theorem lt178 {sc : Nat × (Nat → Int32)} {N d : Nat} {S0 S : am_S} {s : kS} (hS : MK S0 S s) : am_L (am_PP sc) N d 178 0 [some (.ref 39)] [] S (fun o S1 => o = some none ∧ MK S0 S1 (k178 s).1) := by
  refine l2 (v := 39) hi_178_0 rfl ?_
  refine l0 hi_178_1 ?_
  refine l0 hi_178_2 ?_
  refine l0 hi_178_3 ?_
  refine l0 hi_178_4 ?_
  refine l32 (as := [.ref 39, .int 1, .int 0, .int 0, .int 0]) (la := [some (.ref 39), some (.int 1), some (.int 0), some (.int 0), some (.int 0)]) (rest := []) hi_178_5 (am_hd0 (M := 178) (by decide) 5) rfl rfl rfl (fun N' d' _ => lt179 (N := N') (d := d') hS) ?_ (fun _ q => nomatch q.1)
  rintro v3 S1 ⟨ev3, h2⟩
  cases ev3
  show am_L _ _ _ _ _ [some (.ref 39)] [] _ _
  refine l35 hi_178_8 ⟨rfl, ?_⟩
  exact h2
/-- kindAt(I)I -/
def k184 (s : kS) (x1 : Int32) : Int32 := if (s.1 0) ≤ x1 then (-1) else kr s 1 x1
theorem lt184 {sc : Nat × (Nat → Int32)} {N d : Nat} {S0 S : am_S} {s : kS} {x1 : Int32} (hS : MK S0 S s) : am_L (am_PP sc) N d 184 0 [some (.ref 39), some (.int x1)] [] S (fun o S1 => o = some (some (.int (k184 s x1))) ∧ MK S0 S1 s) := by
  refine l1 (v := x1) hi_184_0 rfl ?_
  refine l2 (v := 39) hi_184_1 rfl ?_
  refine l20 (v := .int (s.1 0)) hS hi_184_2 rfl ?_
  by_cases c1 : (s.1 0) ≤ x1
  · refine l13t hi_184_5 (decide_eq_true c1) ?_
    refine l0 hi_184_17 ?_
    refine l33 hi_184_18 ⟨?_, ?_⟩
    · unfold k184; rw [if_pos c1]
    · exact hS
  · refine l13f hi_184_5 (decide_eq_false c1) ?_
    refine l2 (v := 39) hi_184_8 rfl ?_
    refine l20 (v := .ref 40) hS hi_184_9 rfl ?_
    refine l1 (v := x1) hi_184_12 rfl ?_
    refine l25 hS ma_1 hi_184_13 fun g2 g3 => ?_
    show am_L _ _ _ _ _ [some (.ref 39), some (.int x1)] [.int (kr s 1 x1)] _ _
    refine l18 hi_184_14 ?_
    refine l33 hi_184_18 ⟨?_, ?_⟩
    · unfold k184; rw [if_neg c1]
    · exact hS
/-- next()I -/
def k183 (s : kS) : Int32 := k184 s (s.1 4)
theorem lt183 {sc : Nat × (Nat → Int32)} {N d : Nat} {S0 S : am_S} {s : kS} (hS : MK S0 S s) : am_L (am_PP sc) N d 183 0 [some (.ref 39)] [] S (fun o S1 => o = some (some (.int (k183 s))) ∧ MK S0 S1 s) := by
  refine l2 (v := 39) hi_183_0 rfl ?_
  refine l2 (v := 39) hi_183_1 rfl ?_
  refine l20 (v := .int (s.1 4)) hS hi_183_2 rfl ?_
  refine l32 (as := [.ref 39, .int (s.1 4)]) (la := [some (.ref 39), some (.int (s.1 4))]) (rest := []) hi_183_5 (am_hd0 (M := 183) (by decide) 5) rfl rfl rfl (fun N' d' _ => lt184 (N := N') (d := d') hS) ?_ (fun _ q => nomatch q.1)
  rintro v3 S1 ⟨ev3, h2⟩
  cases ev3
  show am_L _ _ _ _ _ [some (.ref 39)] [.int (k184 s (s.1 4))] _ _
  refine l33 hi_183_8 ⟨?_, ?_⟩
  · rfl
  · exact h2
/-- isUnary(I)Z -/
def k185 (s : kS) (x1 : Int32) : Int32 := if x1 = 24 then 1 else if x1 = 46 then 1 else if x1 = 41 then 1 else if x1 ≠ 48 then 0 else 1
theorem lt185 {sc : Nat × (Nat → Int32)} {N d : Nat} {S0 S : am_S} {s : kS} {x1 : Int32} (hS : MK S0 S s) : am_L (am_PP sc) N d 185 0 [some (.int x1)] [] S (fun o S1 => o = some (some (.int (k185 s x1))) ∧ MK S0 S1 s) := by
  refine l1 (v := x1) hi_185_0 rfl ?_
  refine l0 hi_185_1 ?_
  by_cases c1 : x1 = 24
  · refine l13t hi_185_3 (decide_eq_true c1) ?_
    refine l0 hi_185_24 ?_
    refine l18 hi_185_25 ?_
    refine l36 hi_185_29 fun _ => ⟨?_, ?_⟩
    · unfold k185; rw [if_pos c1]
    · exact hS
  · refine l13f hi_185_3 (decide_eq_false c1) ?_
    refine l1 (v := x1) hi_185_6 rfl ?_
    refine l0 hi_185_7 ?_
    by_cases c2 : x1 = 46
    · refine l13t hi_185_9 (decide_eq_true c2) ?_
      refine l0 hi_185_24 ?_
      refine l18 hi_185_25 ?_
      refine l36 hi_185_29 fun _ => ⟨?_, ?_⟩
      · unfold k185; rw [if_neg c1]; rw [if_pos c2]
      · exact hS
    · refine l13f hi_185_9 (decide_eq_false c2) ?_
      refine l1 (v := x1) hi_185_12 rfl ?_
      refine l0 hi_185_13 ?_
      by_cases c3 : x1 = 41
      · refine l13t hi_185_15 (decide_eq_true c3) ?_
        refine l0 hi_185_24 ?_
        refine l18 hi_185_25 ?_
        refine l36 hi_185_29 fun _ => ⟨?_, ?_⟩
        · unfold k185; rw [if_neg c1]; rw [if_neg c2]; rw [if_pos c3]
        · exact hS
      · refine l13f hi_185_15 (decide_eq_false c3) ?_
        refine l1 (v := x1) hi_185_18 rfl ?_
        refine l0 hi_185_19 ?_
        by_cases c4 : x1 ≠ 48
        · refine l13t hi_185_21 (decide_eq_true c4) ?_
          refine l0 hi_185_28 ?_
          refine l36 hi_185_29 fun _ => ⟨?_, ?_⟩
          · unfold k185; rw [if_neg c1]; rw [if_neg c2]; rw [if_neg c3]; rw [if_pos c4]
          · exact hS
        · refine l13f hi_185_21 (decide_eq_false c4) ?_
          refine l0 hi_185_24 ?_
          refine l18 hi_185_25 ?_
          refine l36 hi_185_29 fun _ => ⟨?_, ?_⟩
          · unfold k185; rw [if_neg c1]; rw [if_neg c2]; rw [if_neg c3]; rw [if_neg c4]
          · exact hS
/-- expect(I)V -/
def k186 (s : kS) (x1 : Int32) : kS × Int32 := ((k179 s 23 x1 0 0).1, 0)
theorem lt186 {sc : Nat × (Nat → Int32)} {N d : Nat} {S0 S : am_S} {s : kS} {x1 : Int32} (hS : MK S0 S s) : am_L (am_PP sc) N d 186 0 [some (.ref 39), some (.int x1)] [] S (fun o S1 => o = some none ∧ MK S0 S1 (k186 s x1).1) := by
  refine l2 (v := 39) hi_186_0 rfl ?_
  refine l0 hi_186_1 ?_
  refine l1 (v := x1) hi_186_3 rfl ?_
  refine l0 hi_186_4 ?_
  refine l0 hi_186_5 ?_
  refine l32 (as := [.ref 39, .int 23, .int x1, .int 0, .int 0]) (la := [some (.ref 39), some (.int 23), some (.int x1), some (.int 0), some (.int 0)]) (rest := []) hi_186_6 (am_hd0 (M := 186) (by decide) 6) rfl rfl rfl (fun N' d' _ => lt179 (N := N') (d := d') hS) ?_ (fun _ q => nomatch q.1)
  rintro v3 S1 ⟨ev3, h2⟩
  cases ev3
  show am_L _ _ _ _ _ [some (.ref 39), some (.int x1)] [] _ _
  refine l35 hi_186_9 ⟨rfl, ?_⟩
  exact h2
def k189_78 (s : kS) : kS × Int32 := (ka s 60 (kr s 33 (s.1 32)) ((kr s 60 (kr s 33 (s.1 32))) + 1), (s.1 68) - 1)
theorem lt189_78 {sc : Nat × (Nat → Int32)} {N d : Nat} {S0 S : am_S} {s : kS} {o1 : Option Value} {o2 : Option Value} {o3 : Option Value} {o4 : Option Value} (hS : MK S0 S s) : am_L (am_PP sc) N d 189 78 [some (.ref 39), o1, o2, o3, o4] [] S (fun o S1 => o = some (some (.int ((k189_78 s).2))) ∧ MK S0 S1 (k189_78 s).1) := by
  refine l2 (v := 39) hi_189_78 rfl ?_
  refine l20 (v := .ref 81) hS hi_189_79 rfl ?_
  refine l2 (v := 39) hi_189_82 rfl ?_
  refine l20 (v := .ref 58) hS hi_189_83 rfl ?_
  refine l2 (v := 39) hi_189_86 rfl ?_
  refine l20 (v := .int (s.1 32)) hS hi_189_87 rfl ?_
  refine l25 hS ma_33 hi_189_90 fun g1 g2 => ?_
  show am_L _ _ _ _ _ [some (.ref 39), o1, o2, o3, o4] [.int (kr s 33 (s.1 32)), .ref 81] _ _
  refine l8 hi_189_91 ?_
  refine l25 hS ma_60 hi_189_92 fun g3 g4 => ?_
  show am_L _ _ _ _ _ [some (.ref 39), o1, o2, o3, o4] [.int (kr s 60 (kr s 33 (s.1 32))), .int (kr s 33 (s.1 32)), .ref 81] _ _
  refine l0 hi_189_93 ?_
  refine l10 hi_189_94 ?_
  show am_L _ _ _ _ _ [some (.ref 39), o1, o2, o3, o4] [.int ((kr s 60 (kr s 33 (s.1 32))) + 1), .int (kr s 33 (s.1 32)), .ref 81] _ _
  refine l26 hS ma_60 hi_189_95 fun S7 h8 g5 g6 => ?_
  refine l2 (v := 39) hi_189_96 rfl ?_
  refine l20 (v := .int (s.1 68)) h8 hi_189_97 rfl ?_
  refine l0 hi_189_100 ?_
  refine l10 hi_189_101 ?_
  show am_L _ _ _ _ _ [some (.ref 39), o1, o2, o3, o4] [.int ((s.1 68) - 1)] _ _
  refine l33 hi_189_102 ⟨?_, ?_⟩
  · rfl
  · exact h8
/-- put(IIII)I -/
def k189 (s : kS) (x1 : Int32) (x2 : Int32) (x3 : Int32) (x4 : Int32) : kS × Int32 := if 65536 ≤ (s.1 68) then k189_78 s else k189_78 (kf (ka (ka (ka (ka (ka s 69 (s.1 68) (kr s 33 (s.1 32))) 70 (s.1 68) x1) 71 (s.1 68) x2) 72 (s.1 68) x3) 73 (s.1 68) x4) 68 ((s.1 68) + 1))
theorem lt189 {sc : Nat × (Nat → Int32)} {N d : Nat} {S0 S : am_S} {s : kS} {x1 : Int32} {x2 : Int32} {x3 : Int32} {x4 : Int32} (hS : MK S0 S s) : am_L (am_PP sc) N d 189 0 [some (.ref 39), some (.int x1), some (.int x2), some (.int x3), some (.int x4)] [] S (fun o S1 => o = some (some (.int ((k189 s x1 x2 x3 x4).2))) ∧ MK S0 S1 (k189 s x1 x2 x3 x4).1) := by
  refine l2 (v := 39) hi_189_0 rfl ?_
  refine l20 (v := .int (s.1 68)) hS hi_189_1 rfl ?_
  refine l0 hi_189_4 ?_
  by_cases c1 : 65536 ≤ (s.1 68)
  · refine l13t hi_189_6 (decide_eq_true c1) ?_
    refine am_L.mono (lt189_78 hS) ?_
    rintro o S1 ⟨e, h⟩
    have q : k189 s x1 x2 x3 x4 = k189_78 s := by unfold k189; rw [if_pos c1]
    rw [q]; exact ⟨e, h⟩
  · refine l13f hi_189_6 (decide_eq_false c1) ?_
    refine l2 (v := 39) hi_189_9 rfl ?_
    refine l20 (v := .ref 88) hS hi_189_10 rfl ?_
    refine l2 (v := 39) hi_189_13 rfl ?_
    refine l20 (v := .int (s.1 68)) hS hi_189_14 rfl ?_
    refine l2 (v := 39) hi_189_17 rfl ?_
    refine l20 (v := .ref 58) hS hi_189_18 rfl ?_
    refine l2 (v := 39) hi_189_21 rfl ?_
    refine l20 (v := .int (s.1 32)) hS hi_189_22 rfl ?_
    refine l25 hS ma_33 hi_189_25 fun g2 g3 => ?_
    show am_L _ _ _ _ _ [some (.ref 39), some (.int x1), some (.int x2), some (.int x3), some (.int x4)] [.int (kr s 33 (s.1 32)), .int (s.1 68), .ref 88] _ _
    refine l26 hS ma_69 hi_189_26 fun S6 h7 g4 g5 => ?_
    refine l2 (v := 39) hi_189_27 rfl ?_
    refine l20 (v := .ref 89) h7 hi_189_28 rfl ?_
    refine l2 (v := 39) hi_189_31 rfl ?_
    refine l20 (v := .int (s.1 68)) h7 hi_189_32 rfl ?_
    refine l1 (v := x1) hi_189_35 rfl ?_
    refine l26 h7 ma_70 hi_189_36 fun S10 h11 g8 g9 => ?_
    refine l2 (v := 39) hi_189_37 rfl ?_
    refine l20 (v := .ref 90) h11 hi_189_38 rfl ?_
    refine l2 (v := 39) hi_189_41 rfl ?_
    refine l20 (v := .int (s.1 68)) h11 hi_189_42 rfl ?_
    refine l1 (v := x2) hi_189_45 rfl ?_
    refine l26 h11 ma_71 hi_189_46 fun S14 h15 g12 g13 => ?_
    refine l2 (v := 39) hi_189_47 rfl ?_
    refine l20 (v := .ref 91) h15 hi_189_48 rfl ?_
    refine l2 (v := 39) hi_189_51 rfl ?_
    refine l20 (v := .int (s.1 68)) h15 hi_189_52 rfl ?_
    refine l1 (v := x3) hi_189_55 rfl ?_
    refine l26 h15 ma_72 hi_189_56 fun S18 h19 g16 g17 => ?_
    refine l2 (v := 39) hi_189_57 rfl ?_
    refine l20 (v := .ref 92) h19 hi_189_58 rfl ?_
    refine l2 (v := 39) hi_189_61 rfl ?_
    refine l20 (v := .int (s.1 68)) h19 hi_189_62 rfl ?_
    refine l1 (v := x4) hi_189_65 rfl ?_
    refine l26 h19 ma_73 hi_189_67 fun S22 h23 g20 g21 => ?_
    refine l2 (v := 39) hi_189_68 rfl ?_
    refine l7 hi_189_69 ?_
    refine l20 (v := .int (s.1 68)) h23 hi_189_70 rfl ?_
    refine l0 hi_189_73 ?_
    refine l10 hi_189_74 ?_
    show am_L _ _ _ _ _ [some (.ref 39), some (.int x1), some (.int x2), some (.int x3), some (.int x4)] [.int ((s.1 68) + 1), .ref 39] _ _
    refine l21 h23 hi_189_75 ms_68 fun S24 h25 => ?_
    refine am_L.mono (lt189_78 h25) ?_
    rintro o S1 ⟨e, h⟩
    have q : k189 s x1 x2 x3 x4 = k189_78 (kf (ka (ka (ka (ka (ka s 69 (s.1 68) (kr s 33 (s.1 32))) 70 (s.1 68) x1) 71 (s.1 68) x2) 72 (s.1 68) x3) 73 (s.1 68) x4) 68 ((s.1 68) + 1)) := by unfold k189; rw [if_neg c1]
    rw [q]; exact ⟨e, h⟩
/-- value(III)V -/
def k190 (s : kS) (x1 : Int32) (x2 : Int32) (x3 : Int32) : kS × Int32 := (kf (ka (ka (ka s 16 (s.1 15) x1) 17 (s.1 15) x2) 18 (s.1 15) x3) 15 ((s.1 15) + 1), 0)
theorem lt190 {sc : Nat × (Nat → Int32)} {N d : Nat} {S0 S : am_S} {s : kS} {x1 : Int32} {x2 : Int32} {x3 : Int32} (hS : MK S0 S s) : am_L (am_PP sc) N d 190 0 [some (.ref 39), some (.int x1), some (.int x2), some (.int x3)] [] S (fun o S1 => o = some none ∧ MK S0 S1 (k190 s x1 x2 x3).1) := by
  refine l2 (v := 39) hi_190_0 rfl ?_
  refine l20 (v := .ref 46) hS hi_190_1 rfl ?_
  refine l2 (v := 39) hi_190_4 rfl ?_
  refine l20 (v := .int (s.1 15)) hS hi_190_5 rfl ?_
  refine l1 (v := x1) hi_190_8 rfl ?_
  refine l26 hS ma_16 hi_190_9 fun S3 h4 g1 g2 => ?_
  refine l2 (v := 39) hi_190_10 rfl ?_
  refine l20 (v := .ref 47) h4 hi_190_11 rfl ?_
  refine l2 (v := 39) hi_190_14 rfl ?_
  refine l20 (v := .int (s.1 15)) h4 hi_190_15 rfl ?_
  refine l1 (v := x2) hi_190_18 rfl ?_
  refine l26 h4 ma_17 hi_190_19 fun S7 h8 g5 g6 => ?_
  refine l2 (v := 39) hi_190_20 rfl ?_
  refine l20 (v := .ref 48) h8 hi_190_21 rfl ?_
  refine l2 (v := 39) hi_190_24 rfl ?_
  refine l20 (v := .int (s.1 15)) h8 hi_190_25 rfl ?_
  refine l1 (v := x3) hi_190_28 rfl ?_
  refine l26 h8 ma_18 hi_190_29 fun S11 h12 g9 g10 => ?_
  refine l2 (v := 39) hi_190_30 rfl ?_
  refine l7 hi_190_31 ?_
  refine l20 (v := .int (s.1 15)) h12 hi_190_32 rfl ?_
  refine l0 hi_190_35 ?_
  refine l10 hi_190_36 ?_
  show am_L _ _ _ _ _ [some (.ref 39), some (.int x1), some (.int x2), some (.int x3)] [.int ((s.1 15) + 1), .ref 39] _ _
  refine l21 h12 hi_190_37 ms_15 fun S13 h14 => ?_
  refine l35 hi_190_40 ⟨rfl, ?_⟩
  exact h14
def k188_16 (s : kS) : kS × Int32 := (kf s 4 ((s.1 4) + 1), 0)
theorem lt188_16 {sc : Nat × (Nat → Int32)} {N d : Nat} {S0 S : am_S} {s : kS} {o1 : Option Value} {o2 : Option Value} (hS : MK S0 S s) : am_L (am_PP sc) N d 188 16 [some (.ref 39), o1, o2] [] S (fun o S1 => o = some none ∧ MK S0 S1 (k188_16 s).1) := by
  refine l2 (v := 39) hi_188_16 rfl ?_
  refine l7 hi_188_17 ?_
  refine l20 (v := .int (s.1 4)) hS hi_188_18 rfl ?_
  refine l0 hi_188_21 ?_
  refine l10 hi_188_22 ?_
  show am_L _ _ _ _ _ [some (.ref 39), o1, o2] [.int ((s.1 4) + 1), .ref 39] _ _
  refine l21 hS hi_188_23 ms_4 fun S1 h2 => ?_
  refine l35 hi_188_26 ⟨rfl, ?_⟩
  exact h2
def k188_8 (s : kS) (z0 : Int32) : kS × Int32 := k188_16 ((k190 s 0 0 0).1)
theorem lt188_8 {sc : Nat × (Nat → Int32)} {N d : Nat} {S0 S : am_S} {s : kS} {z0 : Int32} {o1 : Option Value} {o2 : Option Value} (hS : MK S0 S s) : am_L (am_PP sc) N d 188 8 [some (.ref 39), o1, o2] [.int z0] S (fun o S1 => o = some none ∧ MK S0 S1 (k188_8 s z0).1) := by
  refine l6i hi_188_8 ?_
  refine l2 (v := 39) hi_188_9 rfl ?_
  refine l0 hi_188_10 ?_
  refine l0 hi_188_11 ?_
  refine l0 hi_188_12 ?_
  refine l32 (as := [.ref 39, .int 0, .int 0, .int 0]) (la := [some (.ref 39), some (.int 0), some (.int 0), some (.int 0)]) (rest := []) hi_188_13 (am_hd0 (M := 188) (by decide) 13) rfl rfl rfl (fun N' d' _ => lt190 (N := N') (d := d') hS) ?_ (fun _ q => nomatch q.1)
  rintro v3 S1 ⟨ev3, h2⟩
  cases ev3
  show am_L _ _ _ _ _ [some (.ref 39), o1, o2] [] _ _
  refine am_L.mono (lt188_16 h2) ?_
  rintro o S1 ⟨e, h⟩
  have q : k188_8 s z0 = k188_16 ((k190 s 0 0 0).1) := rfl
  rw [q]; exact ⟨e, h⟩
/-- constant(II)V -/
def k188 (s : kS) (x1 : Int32) (x2 : Int32) : kS × Int32 := k188_8 ((k189 s x1 x2 0 0).1) ((k189 s x1 x2 0 0).2)
theorem lt188 {sc : Nat × (Nat → Int32)} {N d : Nat} {S0 S : am_S} {s : kS} {x1 : Int32} {x2 : Int32} (hS : MK S0 S s) : am_L (am_PP sc) N d 188 0 [some (.ref 39), some (.int x1), some (.int x2)] [] S (fun o S1 => o = some none ∧ MK S0 S1 (k188 s x1 x2).1) := by
  refine l2 (v := 39) hi_188_0 rfl ?_
  refine l1 (v := x1) hi_188_1 rfl ?_
  refine l1 (v := x2) hi_188_2 rfl ?_
  refine l0 hi_188_3 ?_
  refine l0 hi_188_4 ?_
  refine l32 (as := [.ref 39, .int x1, .int x2, .int 0, .int 0]) (la := [some (.ref 39), some (.int x1), some (.int x2), some (.int 0), some (.int 0)]) (rest := []) hi_188_5 (am_hd0 (M := 188) (by decide) 5) rfl rfl rfl (fun N' d' _ => lt189 (N := N') (d := d') hS) ?_ (fun _ q => nomatch q.1)
  rintro v3 S1 ⟨ev3, h2⟩
  cases ev3
  show am_L _ _ _ _ _ [some (.ref 39), some (.int x1), some (.int x2)] [.int ((k189 s x1 x2 0 0).2)] _ _
  refine am_L.mono (lt188_8 h2) ?_
  rintro o S1 ⟨e, h⟩
  have q : k188 s x1 x2 = k188_8 ((k189 s x1 x2 0 0).1) ((k189 s x1 x2 0 0).2) := rfl
  rw [q]; exact ⟨e, h⟩
def k191_15 (s : kS) (y1 : Int32) (y2 : Int32) : kS × Int32 := (kf (kf s 8 y1) 9 y2, 0)
theorem lt191_15 {sc : Nat × (Nat → Int32)} {N d : Nat} {S0 S : am_S} {s : kS} {y1 : Int32} {y2 : Int32} (hS : MK S0 S s) : am_L (am_PP sc) N d 191 15 [some (.ref 39), some (.int y1), some (.int y2)] [] S (fun o S1 => o = some none ∧ MK S0 S1 (k191_15 s y1 y2).1) := by
  refine l2 (v := 39) hi_191_15 rfl ?_
  refine l1 (v := y1) hi_191_16 rfl ?_
  refine l21 hS hi_191_17 ms_8 fun S1 h2 => ?_
  refine l2 (v := 39) hi_191_20 rfl ?_
  refine l1 (v := y2) hi_191_21 rfl ?_
  refine l21 h2 hi_191_22 ms_9 fun S3 h4 => ?_
  refine l35 hi_191_25 ⟨rfl, ?_⟩
  exact h4
/-- failName(II)V -/
def k191 (s : kS) (x1 : Int32) (x2 : Int32) : kS × Int32 := if (s.1 8) = 0 then k191_15 s x1 x2 else if (s.1 9) ≤ x2 then (s, 0) else k191_15 s x1 x2
theorem lt191 {sc : Nat × (Nat → Int32)} {N d : Nat} {S0 S : am_S} {s : kS} {x1 : Int32} {x2 : Int32} (hS : MK S0 S s) : am_L (am_PP sc) N d 191 0 [some (.ref 39), some (.int x1), some (.int x2)] [] S (fun o S1 => o = some none ∧ MK S0 S1 (k191 s x1 x2).1) := by
  refine l2 (v := 39) hi_191_0 rfl ?_
  refine l20 (v := .int (s.1 8)) hS hi_191_1 rfl ?_
  by_cases c1 : (s.1 8) = 0
  · refine l12t hi_191_4 (decide_eq_true c1) ?_
    refine am_L.mono (lt191_15 hS) ?_
    rintro o S1 ⟨e, h⟩
    have q : k191 s x1 x2 = k191_15 s x1 x2 := by unfold k191; rw [if_pos c1]
    rw [q]; exact ⟨e, h⟩
  · refine l12f hi_191_4 (decide_eq_false c1) ?_
    refine l1 (v := x2) hi_191_7 rfl ?_
    refine l2 (v := 39) hi_191_8 rfl ?_
    refine l20 (v := .int (s.1 9)) hS hi_191_9 rfl ?_
    by_cases c2 : (s.1 9) ≤ x2
    · refine l13t hi_191_12 (decide_eq_true c2) ?_
      refine l35 hi_191_25 ⟨rfl, ?_⟩
      unfold k191; rw [if_neg c1]; rw [if_pos c2]; exact hS
    · refine l13f hi_191_12 (decide_eq_false c2) ?_
      refine am_L.mono (lt191_15 hS) ?_
      rintro o S1 ⟨e, h⟩
      have q : k191 s x1 x2 = k191_15 s x1 x2 := by unfold k191; rw [if_neg c1]; rw [if_neg c2]
      rw [q]; exact ⟨e, h⟩
def k194_20 (s : kS) : kS × Int32 := (kf s 10 0, 0)
theorem lt194_20 {sc : Nat × (Nat → Int32)} {N d : Nat} {S0 S : am_S} {s : kS} {o1 : Option Value} (hS : MK S0 S s) : am_L (am_PP sc) N d 194 20 [some (.ref 39), o1] [] S (fun o S1 => o = some (some (.int ((k194_20 s).2))) ∧ MK S0 S1 (k194_20 s).1) := by
  refine l2 (v := 39) hi_194_20 rfl ?_
  refine l0 hi_194_21 ?_
  refine l21 hS hi_194_22 ms_10 fun S1 h2 => ?_
  refine l0 hi_194_25 ?_
  refine l36 hi_194_26 fun _ => ⟨?_, ?_⟩
  · rfl
  · exact h2
/-- fail(I)Z -/
def k194 (s : kS) (x1 : Int32) : kS × Int32 := if (s.1 6) ≠ 0 then k194_20 s else k194_20 (kf (kf s 6 x1) 7 (s.1 4))
theorem lt194 {sc : Nat × (Nat → Int32)} {N d : Nat} {S0 S : am_S} {s : kS} {x1 : Int32} (hS : MK S0 S s) : am_L (am_PP sc) N d 194 0 [some (.ref 39), some (.int x1)] [] S (fun o S1 => o = some (some (.int ((k194 s x1).2))) ∧ MK S0 S1 (k194 s x1).1) := by
  refine l2 (v := 39) hi_194_0 rfl ?_
  refine l20 (v := .int (s.1 6)) hS hi_194_1 rfl ?_
  by_cases c1 : (s.1 6) ≠ 0
  · refine l12t hi_194_4 (decide_eq_true c1) ?_
    refine am_L.mono (lt194_20 hS) ?_
    rintro o S1 ⟨e, h⟩
    have q : k194 s x1 = k194_20 s := by unfold k194; rw [if_pos c1]
    rw [q]; exact ⟨e, h⟩
  · refine l12f hi_194_4 (decide_eq_false c1) ?_
    refine l2 (v := 39) hi_194_7 rfl ?_
    refine l1 (v := x1) hi_194_8 rfl ?_
    refine l21 hS hi_194_9 ms_6 fun S2 h3 => ?_
    refine l2 (v := 39) hi_194_12 rfl ?_
    refine l2 (v := 39) hi_194_13 rfl ?_
    refine l20 (v := .int (s.1 4)) h3 hi_194_14 rfl ?_
    refine l21 h3 hi_194_17 ms_7 fun S4 h5 => ?_
    refine am_L.mono (lt194_20 h5) ?_
    rintro o S1 ⟨e, h⟩
    have q : k194 s x1 = k194_20 (kf (kf s 6 x1) 7 (s.1 4)) := by unfold k194; rw [if_neg c1]
    rw [q]; exact ⟨e, h⟩
/-- enter(I)Z -/
def k193 (s : kS) (x1 : Int32) : kS × Int32 := if (k183 s) = x1 then if (s.1 5) ≠ 48 then (kf (kf s 5 ((s.1 5) + 1)) 4 ((s.1 4) + 1), 1) else ((k194 s 8).1, (k194 s 8).2) else ((k194 s 7).1, (k194 s 7).2)
theorem lt193 {sc : Nat × (Nat → Int32)} {N d : Nat} {S0 S : am_S} {s : kS} {x1 : Int32} (hS : MK S0 S s) : am_L (am_PP sc) N d 193 0 [some (.ref 39), some (.int x1)] [] S (fun o S1 => o = some (some (.int ((k193 s x1).2))) ∧ MK S0 S1 (k193 s x1).1) := by
  refine l2 (v := 39) hi_193_0 rfl ?_
  refine l32 (as := [.ref 39]) (la := [some (.ref 39)]) (rest := []) hi_193_1 (am_hd0 (M := 193) (by decide) 1) rfl rfl rfl (fun N' d' _ => lt183 (N := N') (d := d') hS) ?_ (fun _ q => nomatch q.1)
  rintro v3 S1 ⟨ev3, h2⟩
  cases ev3
  show am_L _ _ _ _ _ [some (.ref 39), some (.int x1)] [.int (k183 s)] _ _
  refine l1 (v := x1) hi_193_4 rfl ?_
  by_cases c4 : (k183 s) = x1
  · refine l13t hi_193_5 (decide_eq_true c4) ?_
    refine l2 (v := 39) hi_193_15 rfl ?_
    refine l20 (v := .int (s.1 5)) h2 hi_193_16 rfl ?_
    refine l0 hi_193_19 ?_
    by_cases c5 : (s.1 5) ≠ 48
    · refine l13t hi_193_21 (decide_eq_true c5) ?_
      refine l2 (v := 39) hi_193_31 rfl ?_
      refine l7 hi_193_32 ?_
      refine l20 (v := .int (s.1 5)) h2 hi_193_33 rfl ?_
      refine l0 hi_193_36 ?_
      refine l10 hi_193_37 ?_
      show am_L _ _ _ _ _ [some (.ref 39), some (.int x1)] [.int ((s.1 5) + 1), .ref 39] _ _
      refine l21 h2 hi_193_38 ms_5 fun S6 h7 => ?_
      refine l2 (v := 39) hi_193_41 rfl ?_
      refine l7 hi_193_42 ?_
      refine l20 (v := .int (s.1 4)) h7 hi_193_43 rfl ?_
      refine l0 hi_193_46 ?_
      refine l10 hi_193_47 ?_
      show am_L _ _ _ _ _ [some (.ref 39), some (.int x1)] [.int ((s.1 4) + 1), .ref 39] _ _
      refine l21 h7 hi_193_48 ms_4 fun S8 h9 => ?_
      refine l0 hi_193_51 ?_
      refine l36 hi_193_52 fun _ => ⟨?_, ?_⟩
      · unfold k193; rw [if_pos c4]; rw [if_pos c5]
      · unfold k193; rw [if_pos c4]; rw [if_pos c5]; exact h9
    · refine l13f hi_193_21 (decide_eq_false c5) ?_
      refine l2 (v := 39) hi_193_24 rfl ?_
      refine l0 hi_193_25 ?_
      refine l32 (as := [.ref 39, .int 8]) (la := [some (.ref 39), some (.int 8)]) (rest := []) hi_193_27 (am_hd0 (M := 193) (by decide) 27) rfl rfl rfl (fun N' d' _ => lt194 (N := N') (d := d') h2) ?_ (fun _ q => nomatch q.1)
      rintro v12 S10 ⟨ev12, h11⟩
      cases ev12
      show am_L _ _ _ _ _ [some (.ref 39), some (.int x1)] [.int ((k194 s 8).2)] _ _
      refine l36 hi_193_30 fun _ => ⟨?_, ?_⟩
      · unfold k193; rw [if_pos c4]; rw [if_neg c5]
      · unfold k193; rw [if_pos c4]; rw [if_neg c5]; exact h11
  · refine l13f hi_193_5 (decide_eq_false c4) ?_
    refine l2 (v := 39) hi_193_8 rfl ?_
    refine l0 hi_193_9 ?_
    refine l32 (as := [.ref 39, .int 7]) (la := [some (.ref 39), some (.int 7)]) (rest := []) hi_193_11 (am_hd0 (M := 193) (by decide) 11) rfl rfl rfl (fun N' d' _ => lt194 (N := N') (d := d') h2) ?_ (fun _ q => nomatch q.1)
    rintro v15 S13 ⟨ev15, h14⟩
    cases ev15
    show am_L _ _ _ _ _ [some (.ref 39), some (.int x1)] [.int ((k194 s 7).2)] _ _
    refine l36 hi_193_14 fun _ => ⟨?_, ?_⟩
    · unfold k193; rw [if_neg c4]
    · unfold k193; rw [if_neg c4]; exact h14
def k192_32 (s : kS) : kS × Int32 := ((k179 s 35 0 0 0).1, 0)
theorem lt192_32 {sc : Nat × (Nat → Int32)} {N d : Nat} {S0 S : am_S} {s : kS} {o1 : Option Value} (hS : MK S0 S s) : am_L (am_PP sc) N d 192 32 [some (.ref 39), o1] [] S (fun o S1 => o = some none ∧ MK S0 S1 (k192_32 s).1) := by
  refine l2 (v := 39) hi_192_32 rfl ?_
  refine l0 hi_192_33 ?_
  refine l0 hi_192_35 ?_
  refine l0 hi_192_36 ?_
  refine l0 hi_192_37 ?_
  refine l32 (as := [.ref 39, .int 35, .int 0, .int 0, .int 0]) (la := [some (.ref 39), some (.int 35), some (.int 0), some (.int 0), some (.int 0)]) (rest := []) hi_192_38 (am_hd0 (M := 192) (by decide) 38) rfl rfl rfl (fun N' d' _ => lt179 (N := N') (d := d') hS) ?_ (fun _ q => nomatch q.1)
  rintro v3 S1 ⟨ev3, h2⟩
  cases ev3
  show am_L _ _ _ _ _ [some (.ref 39), o1] [] _ _
  refine l35 hi_192_41 ⟨rfl, ?_⟩
  exact h2
def k192_24 (s : kS) (z0 : Int32) : kS × Int32 := k192_32 ((k190 s 0 0 0).1)
theorem lt192_24 {sc : Nat × (Nat → Int32)} {N d : Nat} {S0 S : am_S} {s : kS} {z0 : Int32} {o1 : Option Value} (hS : MK S0 S s) : am_L (am_PP sc) N d 192 24 [some (.ref 39), o1] [.int z0] S (fun o S1 => o = some none ∧ MK S0 S1 (k192_24 s z0).1) := by
  refine l6i hi_192_24 ?_
  refine l2 (v := 39) hi_192_25 rfl ?_
  refine l0 hi_192_26 ?_
  refine l0 hi_192_27 ?_
  refine l0 hi_192_28 ?_
  refine l32 (as := [.ref 39, .int 0, .int 0, .int 0]) (la := [some (.ref 39), some (.int 0), some (.int 0), some (.int 0)]) (rest := []) hi_192_29 (am_hd0 (M := 192) (by decide) 29) rfl rfl rfl (fun N' d' _ => lt190 (N := N') (d := d') hS) ?_ (fun _ q => nomatch q.1)
  rintro v3 S1 ⟨ev3, h2⟩
  cases ev3
  show am_L _ _ _ _ _ [some (.ref 39), o1] [] _ _
  refine am_L.mono (lt192_32 h2) ?_
  rintro o S1 ⟨e, h⟩
  have q : k192_24 s z0 = k192_32 ((k190 s 0 0 0).1) := rfl
  rw [q]; exact ⟨e, h⟩
def k192_11 (s : kS) (y1 : Int32) (z0 : Int32) : kS × Int32 := if z0 ≠ 0 then k192_24 ((k189 s 20 0 0 y1).1) ((k189 s 20 0 0 y1).2) else (s, 0)
theorem lt192_11 {sc : Nat × (Nat → Int32)} {N d : Nat} {S0 S : am_S} {s : kS} {y1 : Int32} {z0 : Int32} (hS : MK S0 S s) : am_L (am_PP sc) N d 192 11 [some (.ref 39), some (.int y1)] [.int z0] S (fun o S1 => o = some none ∧ MK S0 S1 (k192_11 s y1 z0).1) := by
  by_cases c1 : z0 ≠ 0
  · refine l12t hi_192_11 (decide_eq_true c1) ?_
    refine l2 (v := 39) hi_192_15 rfl ?_
    refine l0 hi_192_16 ?_
    refine l0 hi_192_18 ?_
    refine l0 hi_192_19 ?_
    refine l1 (v := y1) hi_192_20 rfl ?_
    refine l32 (as := [.ref 39, .int 20, .int 0, .int 0, .int y1]) (la := [some (.ref 39), some (.int 20), some (.int 0), some (.int 0), some (.int y1)]) (rest := []) hi_192_21 (am_hd0 (M := 192) (by decide) 21) rfl rfl rfl (fun N' d' _ => lt189 (N := N') (d := d') hS) ?_ (fun _ q => nomatch q.1)
    rintro v4 S2 ⟨ev4, h3⟩
    cases ev4
    show am_L _ _ _ _ _ [some (.ref 39), some (.int y1)] [.int ((k189 s 20 0 0 y1).2)] _ _
    refine am_L.mono (lt192_24 h3) ?_
    rintro o S1 ⟨e, h⟩
    have q : k192_11 s y1 z0 = k192_24 ((k189 s 20 0 0 y1).1) ((k189 s 20 0 0 y1).2) := by unfold k192_11; rw [if_pos c1]
    rw [q]; exact ⟨e, h⟩
  · refine l12f hi_192_11 (decide_eq_false c1) ?_
    refine l35 hi_192_14 ⟨rfl, ?_⟩
    unfold k192_11; rw [if_neg c1]; exact hS
/-- table()V -/
def k192 (s : kS) : kS × Int32 := k192_11 ((k193 s 62).1) (s.1 4) ((k193 s 62).2)
theorem lt192 {sc : Nat × (Nat → Int32)} {N d : Nat} {S0 S : am_S} {s : kS} (hS : MK S0 S s) : am_L (am_PP sc) N d 192 0 [some (.ref 39), none] [] S (fun o S1 => o = some none ∧ MK S0 S1 (k192 s).1) := by
  refine l2 (v := 39) hi_192_0 rfl ?_
  refine l20 (v := .int (s.1 4)) hS hi_192_1 rfl ?_
  refine l3 (ls' := [some (.ref 39), some (.int (s.1 4))]) hi_192_4 (Nat.le_of_ble_eq_true rfl) rfl ?_
  refine l2 (v := 39) hi_192_5 rfl ?_
  refine l0 hi_192_6 ?_
  refine l32 (as := [.ref 39, .int 62]) (la := [some (.ref 39), some (.int 62)]) (rest := []) hi_192_8 (am_hd0 (M := 192) (by decide) 8) rfl rfl rfl (fun N' d' _ => lt193 (N := N') (d := d') hS) ?_ (fun _ q => nomatch q.1)
  rintro v3 S1 ⟨ev3, h2⟩
  cases ev3
  show am_L _ _ _ _ _ [some (.ref 39), some (.int (s.1 4))] [.int ((k193 s 62).2)] _ _
  refine am_L.mono (lt192_11 h2) ?_
  rintro o S1 ⟨e, h⟩
  have q : k192 s = k192_11 ((k193 s 62).1) (s.1 4) ((k193 s 62).2) := rfl
  rw [q]; exact ⟨e, h⟩
/-- count()I -/
def k197 (s : kS) : Int32 := (s.1 24) - (kr s 34 (s.1 32))
theorem lt197 {sc : Nat × (Nat → Int32)} {N d : Nat} {S0 S : am_S} {s : kS} (hS : MK S0 S s) : am_L (am_PP sc) N d 197 0 [some (.ref 39)] [] S (fun o S1 => o = some (some (.int (k197 s))) ∧ MK S0 S1 s) := by
  refine l2 (v := 39) hi_197_0 rfl ?_
  refine l20 (v := .int (s.1 24)) hS hi_197_1 rfl ?_
  refine l2 (v := 39) hi_197_4 rfl ?_
  refine l20 (v := .ref 59) hS hi_197_5 rfl ?_
  refine l2 (v := 39) hi_197_8 rfl ?_
  refine l20 (v := .int (s.1 32)) hS hi_197_9 rfl ?_
  refine l25 hS ma_34 hi_197_12 fun g1 g2 => ?_
  show am_L _ _ _ _ _ [some (.ref 39)] [.int (kr s 34 (s.1 32)), .int (s.1 24)] _ _
  refine l10 hi_197_13 ?_
  show am_L _ _ _ _ _ [some (.ref 39)] [.int ((s.1 24) - (kr s 34 (s.1 32)))] _ _
  refine l33 hi_197_14 ⟨?_, ?_⟩
  · rfl
  · exact hS
def k196_18 (s : kS) (y1 : Int32) (y2 : Int32) (y3 : Int32) : kS × Int32 := if (k197 (kf (kf (ka (ka (ka (ka (ka (ka s 25 (s.1 24) y1) 28 (s.1 24) 0) 26 (s.1 24) (s.1 32)) 27 (s.1 24) (s.1 31)) 29 (s.1 24) y2) 30 (s.1 24) y3) 31 ((s.1 31) + 1)) 24 ((s.1 24) + 1))) ≤ (kr s 58 (kr s 33 (s.1 32))) then (ka (kf (kf (ka (ka (ka (ka (ka (ka s 25 (s.1 24) y1) 28 (s.1 24) 0) 26 (s.1 24) (s.1 32)) 27 (s.1 24) (s.1 31)) 29 (s.1 24) y2) 30 (s.1 24) y3) 31 ((s.1 31) + 1)) 24 ((s.1 24) + 1)) 58 (kr s 33 (s.1 32)) (kr s 58 (kr s 33 (s.1 32))), 0) else (ka (kf (kf (ka (ka (ka (ka (ka (ka s 25 (s.1 24) y1) 28 (s.1 24) 0) 26 (s.1 24) (s.1 32)) 27 (s.1 24) (s.1 31)) 29 (s.1 24) y2) 30 (s.1 24) y3) 31 ((s.1 31) + 1)) 24 ((s.1 24) + 1)) 58 (kr s 33 (s.1 32)) (k197 (kf (kf (ka (ka (ka (ka (ka (ka s 25 (s.1 24) y1) 28 (s.1 24) 0) 26 (s.1 24) (s.1 32)) 27 (s.1 24) (s.1 31)) 29 (s.1 24) y2) 30 (s.1 24) y3) 31 ((s.1 31) + 1)) 24 ((s.1 24) + 1))), 0)
theorem lt196_18 {sc : Nat × (Nat → Int32)} {N d : Nat} {S0 S : am_S} {s : kS} {y1 : Int32} {y2 : Int32} {y3 : Int32} {o4 : Option Value} {o5 : Option Value} (hS : MK S0 S s) : am_L (am_PP sc) N d 196 18 [some (.ref 39), some (.int y1), some (.int y2), some (.int y3), o4, o5] [] S (fun o S1 => o = some none ∧ MK S0 S1 (k196_18 s y1 y2 y3).1) := by
  refine l2 (v := 39) hi_196_18 rfl ?_
  refine l20 (v := .ref 52) hS hi_196_19 rfl ?_
  refine l2 (v := 39) hi_196_22 rfl ?_
  refine l20 (v := .int (s.1 24)) hS hi_196_23 rfl ?_
  refine l1 (v := y1) hi_196_26 rfl ?_
  refine l26 hS ma_25 hi_196_27 fun S3 h4 g1 g2 => ?_
  refine l2 (v := 39) hi_196_28 rfl ?_
  refine l20 (v := .ref 55) h4 hi_196_29 rfl ?_
  refine l2 (v := 39) hi_196_32 rfl ?_
  refine l20 (v := .int (s.1 24)) h4 hi_196_33 rfl ?_
  refine l0 hi_196_36 ?_
  refine l26 h4 ma_28 hi_196_37 fun S7 h8 g5 g6 => ?_
  refine l2 (v := 39) hi_196_38 rfl ?_
  refine l20 (v := .ref 53) h8 hi_196_39 rfl ?_
  refine l2 (v := 39) hi_196_42 rfl ?_
  refine l20 (v := .int (s.1 24)) h8 hi_196_43 rfl ?_
  refine l2 (v := 39) hi_196_46 rfl ?_
  refine l20 (v := .int (s.1 32)) h8 hi_196_47 rfl ?_
  refine l26 h8 ma_26 hi_196_50 fun S11 h12 g9 g10 => ?_
  refine l2 (v := 39) hi_196_51 rfl ?_
  refine l20 (v := .ref 54) h12 hi_196_52 rfl ?_
  refine l2 (v := 39) hi_196_55 rfl ?_
  refine l20 (v := .int (s.1 24)) h12 hi_196_56 rfl ?_
  refine l2 (v := 39) hi_196_59 rfl ?_
  refine l20 (v := .int (s.1 31)) h12 hi_196_60 rfl ?_
  refine l26 h12 ma_27 hi_196_63 fun S15 h16 g13 g14 => ?_
  refine l2 (v := 39) hi_196_64 rfl ?_
  refine l20 (v := .ref 56) h16 hi_196_65 rfl ?_
  refine l2 (v := 39) hi_196_68 rfl ?_
  refine l20 (v := .int (s.1 24)) h16 hi_196_69 rfl ?_
  refine l1 (v := y2) hi_196_72 rfl ?_
  refine l26 h16 ma_29 hi_196_73 fun S19 h20 g17 g18 => ?_
  refine l2 (v := 39) hi_196_74 rfl ?_
  refine l20 (v := .ref 57) h20 hi_196_75 rfl ?_
  refine l2 (v := 39) hi_196_78 rfl ?_
  refine l20 (v := .int (s.1 24)) h20 hi_196_79 rfl ?_
  refine l1 (v := y3) hi_196_82 rfl ?_
  refine l26 h20 ma_30 hi_196_83 fun S23 h24 g21 g22 => ?_
  refine l2 (v := 39) hi_196_84 rfl ?_
  refine l7 hi_196_85 ?_
  refine l20 (v := .int (s.1 31)) h24 hi_196_86 rfl ?_
  refine l0 hi_196_89 ?_
  refine l10 hi_196_90 ?_
  show am_L _ _ _ _ _ [some (.ref 39), some (.int y1), some (.int y2), some (.int y3), o4, o5] [.int ((s.1 31) + 1), .ref 39] _ _
  refine l21 h24 hi_196_91 ms_31 fun S25 h26 => ?_
  refine l2 (v := 39) hi_196_94 rfl ?_
  refine l7 hi_196_95 ?_
  refine l20 (v := .int (s.1 24)) h26 hi_196_96 rfl ?_
  refine l0 hi_196_99 ?_
  refine l10 hi_196_100 ?_
  show am_L _ _ _ _ _ [some (.ref 39), some (.int y1), some (.int y2), some (.int y3), o4, o5] [.int ((s.1 24) + 1), .ref 39] _ _
  refine l21 h26 hi_196_101 ms_24 fun S27 h28 => ?_
  refine l2 (v := 39) hi_196_104 rfl ?_
  refine l20 (v := .ref 58) h28 hi_196_105 rfl ?_
  refine l2 (v := 39) hi_196_108 rfl ?_
  refine l20 (v := .int (s.1 32)) h28 hi_196_109 rfl ?_
  refine l25 h28 ma_33 hi_196_112 fun g29 g30 => ?_
  show am_L _ _ _ _ _ [some (.ref 39), some (.int y1), some (.int y2), some (.int y3), o4, o5] [.int (kr s 33 (s.1 32))] _ _
  refine l3 (ls' := [some (.ref 39), some (.int y1), some (.int y2), some (.int y3), o4, some (.int (kr s 33 (s.1 32)))]) hi_196_113 (Nat.le_of_ble_eq_true rfl) rfl ?_
  refine l2 (v := 39) hi_196_115 rfl ?_
  refine l20 (v := .ref 79) h28 hi_196_116 rfl ?_
  refine l1 (v := kr s 33 (s.1 32)) hi_196_119 rfl ?_
  refine l2 (v := 39) hi_196_121 rfl ?_
  refine l32 (as := [.ref 39]) (la := [some (.ref 39)]) (rest := [.int (kr s 33 (s.1 32)), .ref 79]) hi_196_122 (am_hd0 (M := 196) (by decide) 122) rfl rfl rfl (fun N' d' _ => lt197 (N := N') (d := d') h28) ?_ (fun _ q => nomatch q.1)
  rintro v33 S31 ⟨ev33, h32⟩
  cases ev33
  show am_L _ _ _ _ _ [some (.ref 39), some (.int y1), some (.int y2), some (.int y3), o4, some (.int (kr s 33 (s.1 32)))] [.int (k197 (kf (kf (ka (ka (ka (ka (ka (ka s 25 (s.1 24) y1) 28 (s.1 24) 0) 26 (s.1 24) (s.1 32)) 27 (s.1 24) (s.1 31)) 29 (s.1 24) y2) 30 (s.1 24) y3) 31 ((s.1 31) + 1)) 24 ((s.1 24) + 1))), .int (kr s 33 (s.1 32)), .ref 79] _ _
  refine l2 (v := 39) hi_196_125 rfl ?_
  refine l20 (v := .ref 79) h32 hi_196_126 rfl ?_
  refine l1 (v := kr s 33 (s.1 32)) hi_196_129 rfl ?_
  refine l25 h32 ma_58 hi_196_131 fun g34 g35 => ?_
  show am_L _ _ _ _ _ [some (.ref 39), some (.int y1), some (.int y2), some (.int y3), o4, some (.int (kr s 33 (s.1 32)))] [.int (kr s 58 (kr s 33 (s.1 32))), .int (k197 (kf (kf (ka (ka (ka (ka (ka (ka s 25 (s.1 24) y1) 28 (s.1 24) 0) 26 (s.1 24) (s.1 32)) 27 (s.1 24) (s.1 31)) 29 (s.1 24) y2) 30 (s.1 24) y3) 31 ((s.1 31) + 1)) 24 ((s.1 24) + 1))), .int (kr s 33 (s.1 32)), .ref 79] _ _
  by_cases c36 : (k197 (kf (kf (ka (ka (ka (ka (ka (ka s 25 (s.1 24) y1) 28 (s.1 24) 0) 26 (s.1 24) (s.1 32)) 27 (s.1 24) (s.1 31)) 29 (s.1 24) y2) 30 (s.1 24) y3) 31 ((s.1 31) + 1)) 24 ((s.1 24) + 1))) ≤ (kr s 58 (kr s 33 (s.1 32)))
  · refine l13t hi_196_132 (decide_eq_true c36) ?_
    refine l2 (v := 39) hi_196_142 rfl ?_
    refine l20 (v := .ref 79) h32 hi_196_143 rfl ?_
    refine l1 (v := kr s 33 (s.1 32)) hi_196_146 rfl ?_
    refine l25 h32 ma_58 hi_196_148 fun g37 g38 => ?_
    show am_L _ _ _ _ _ [some (.ref 39), some (.int y1), some (.int y2), some (.int y3), o4, some (.int (kr s 33 (s.1 32)))] [.int (kr s 58 (kr s 33 (s.1 32))), .int (kr s 33 (s.1 32)), .ref 79] _ _
    refine l26 h32 ma_58 hi_196_149 fun S41 h42 g39 g40 => ?_
    refine l35 hi_196_150 ⟨rfl, ?_⟩
    unfold k196_18; rw [if_pos c36]; exact h42
  · refine l13f hi_196_132 (decide_eq_false c36) ?_
    refine l2 (v := 39) hi_196_135 rfl ?_
    refine l32 (as := [.ref 39]) (la := [some (.ref 39)]) (rest := [.int (kr s 33 (s.1 32)), .ref 79]) hi_196_136 (am_hd0 (M := 196) (by decide) 136) rfl rfl rfl (fun N' d' _ => lt197 (N := N') (d := d') h32) ?_ (fun _ q => nomatch q.1)
    rintro v45 S43 ⟨ev45, h44⟩
    cases ev45
    show am_L _ _ _ _ _ [some (.ref 39), some (.int y1), some (.int y2), some (.int y3), o4, some (.int (kr s 33 (s.1 32)))] [.int (k197 (kf (kf (ka (ka (ka (ka (ka (ka s 25 (s.1 24) y1) 28 (s.1 24) 0) 26 (s.1 24) (s.1 32)) 27 (s.1 24) (s.1 31)) 29 (s.1 24) y2) 30 (s.1 24) y3) 31 ((s.1 31) + 1)) 24 ((s.1 24) + 1))), .int (kr s 33 (s.1 32)), .ref 79] _ _
    refine l18 hi_196_139 ?_
    refine l26 h44 ma_58 hi_196_149 fun S48 h49 g46 g47 => ?_
    refine l35 hi_196_150 ⟨rfl, ?_⟩
    unfold k196_18; rw [if_neg c36]; exact h49
/-- declare(IZZI)V -/
def k196 (s : kS) (x1 : Int32) (x2 : Int32) (x3 : Int32) (x4 : Int32) : kS × Int32 := if (k197 s) < 200 then k196_18 s x1 x2 x3 else k196_18 ((k191 s 16 x4).1) x1 x2 x3
theorem lt196 {sc : Nat × (Nat → Int32)} {N d : Nat} {S0 S : am_S} {s : kS} {x1 : Int32} {x2 : Int32} {x3 : Int32} {x4 : Int32} (hS : MK S0 S s) : am_L (am_PP sc) N d 196 0 [some (.ref 39), some (.int x1), some (.int x2), some (.int x3), some (.int x4), none] [] S (fun o S1 => o = some none ∧ MK S0 S1 (k196 s x1 x2 x3 x4).1) := by
  refine l2 (v := 39) hi_196_0 rfl ?_
  refine l32 (as := [.ref 39]) (la := [some (.ref 39)]) (rest := []) hi_196_1 (am_hd0 (M := 196) (by decide) 1) rfl rfl rfl (fun N' d' _ => lt197 (N := N') (d := d') hS) ?_ (fun _ q => nomatch q.1)
  rintro v3 S1 ⟨ev3, h2⟩
  cases ev3
  show am_L _ _ _ _ _ [some (.ref 39), some (.int x1), some (.int x2), some (.int x3), some (.int x4), none] [.int (k197 s)] _ _
  refine l0 hi_196_4 ?_
  by_cases c4 : (k197 s) < 200
  · refine l13t hi_196_7 (decide_eq_true c4) ?_
    refine am_L.mono (lt196_18 h2) ?_
    rintro o S1 ⟨e, h⟩
    have q : k196 s x1 x2 x3 x4 = k196_18 s x1 x2 x3 := by unfold k196; rw [if_pos c4]
    rw [q]; exact ⟨e, h⟩
  · refine l13f hi_196_7 (decide_eq_false c4) ?_
    refine l2 (v := 39) hi_196_10 rfl ?_
    refine l0 hi_196_11 ?_
    refine l1 (v := x4) hi_196_13 rfl ?_
    refine l32 (as := [.ref 39, .int 16, .int x4]) (la := [some (.ref 39), some (.int 16), some (.int x4)]) (rest := []) hi_196_15 (am_hd0 (M := 196) (by decide) 15) rfl rfl rfl (fun N' d' _ => lt191 (N := N') (d := d') h2) ?_ (fun _ q => nomatch q.1)
    rintro v7 S5 ⟨ev7, h6⟩
    cases ev7
    show am_L _ _ _ _ _ [some (.ref 39), some (.int x1), some (.int x2), some (.int x3), some (.int x4), none] [] _ _
    refine am_L.mono (lt196_18 h6) ?_
    rintro o S1 ⟨e, h⟩
    have q : k196 s x1 x2 x3 x4 = k196_18 ((k191 s 16 x4).1) x1 x2 x3 := by unfold k196; rw [if_neg c4]
    rw [q]; exact ⟨e, h⟩
def k198b2 (y1 : Int32) (t : kS × Int32) : Nat × (kS × Int32) := if t.2 = 0 then (3, (t.1, t.2)) else if (k183 t.1) ≠ 72 then if (k183 t.1) = 1 then if (k183 (kf ((k196 (ka t.1 55 y1 ((kr t.1 55 y1) + 1)) (kr t.1 2 (t.1.1 4)) 0 0 (t.1.1 4)).1) 4 ((((k196 (ka t.1 55 y1 ((kr t.1 55 y1) + 1)) (kr t.1 2 (t.1.1 4)) 0 0 (t.1.1 4)).1).1 4) + 1))) ≠ 69 then (0, (kf (kf ((k196 (ka t.1 55 y1 ((kr t.1 55 y1) + 1)) (kr t.1 2 (t.1.1 4)) 0 0 (t.1.1 4)).1) 4 ((((k196 (ka t.1 55 y1 ((kr t.1 55 y1) + 1)) (kr t.1 2 (t.1.1 4)) 0 0 (t.1.1 4)).1).1 4) + 1)) 4 (((((k196 (ka t.1 55 y1 ((kr t.1 55 y1) + 1)) (kr t.1 2 (t.1.1 4)) 0 0 (t.1.1 4)).1).1 4) + 1) + 0), 0)) else (0, (kf (kf ((k196 (ka t.1 55 y1 ((kr t.1 55 y1) + 1)) (kr t.1 2 (t.1.1 4)) 0 0 (t.1.1 4)).1) 4 ((((k196 (ka t.1 55 y1 ((kr t.1 55 y1) + 1)) (kr t.1 2 (t.1.1 4)) 0 0 (t.1.1 4)).1).1 4) + 1)) 4 (((((k196 (ka t.1 55 y1 ((kr t.1 55 y1) + 1)) (kr t.1 2 (t.1.1 4)) 0 0 (t.1.1 4)).1).1 4) + 1) + 1), 1)) else (2, (t.1, t.2)) else (1, (t.1, t.2))
theorem lb198_2 {sc : Nat × (Nat → Int32)} {d : Nat} {S0 : am_S} {y1 : Int32} {Q : Option (Option Value) → am_S → Prop} : ∀ (N : Nat) (S : am_S) (t : kS × Int32), MK S0 S t.1 → (∀ m S1, (kwh (k198b2 y1) m t).1 = 1 → MK S0 S1 (kwh (k198b2 y1) m t).2.1 → am_L (am_PP sc) N d 198 15 [some (.ref 39), some (.int y1), some (.int ((kwh (k198b2 y1) m t).2.2))] [] S1 Q) → (∀ m S1, (kwh (k198b2 y1) m t).1 = 2 → MK S0 S1 (kwh (k198b2 y1) m t).2.1 → am_L (am_PP sc) N d 198 42 [some (.ref 39), some (.int y1), some (.int ((kwh (k198b2 y1) m t).2.2))] [] S1 Q) → (∀ m S1, (kwh (k198b2 y1) m t).1 = 3 → MK S0 S1 (kwh (k198b2 y1) m t).2.1 → am_L (am_PP sc) N d 198 124 [some (.ref 39), some (.int y1), some (.int ((kwh (k198b2 y1) m t).2.2))] [] S1 Q) → am_L (am_PP sc) N d 198 2 [some (.ref 39), some (.int y1), some (.int t.2)] [] S Q := by
  intro N
  induction N with
  | zero => intros; exact l_zero
  | succ N ih =>
    intro S t hS kx15 kx42 kx124
    refine l1d (v := t.2) hi_198_2 rfl ?_
    by_cases c1 : t.2 = 0
    · refine l12t hi_198_3 (decide_eq_true c1) ?_
      have e0 : (k198b2 y1) t = (3, (t.1, t.2)) := by unfold k198b2; rw [if_pos c1]
      have e1 : kwh (k198b2 y1) 1 t = (3, (t.1, t.2)) := by rw [kwh_out (by rw [e0]; exact Nat.succ_ne_zero _), e0]
      have q := kx124 1 _  (by rw [e1]) (by rw [e1]; exact hS)
      try rw [e1] at q
      exact q.less (Nat.le_succ N)
    · refine l12f hi_198_3 (decide_eq_false c1) ?_
      refine l2 (v := 39) hi_198_6 rfl ?_
      refine l32 (as := [.ref 39]) (la := [some (.ref 39)]) (rest := []) hi_198_7 (am_hd0 (M := 198) (by decide) 7) rfl rfl rfl (fun N' d' _ => lt183 (N := N') (d := d') hS) ?_ (fun _ q => nomatch q.1)
      rintro v4 S2 ⟨ev4, h3⟩
      cases ev4
      show am_L _ _ _ _ _ [some (.ref 39), some (.int y1), some (.int t.2)] [.int (k183 t.1)] _ _
      refine l0 hi_198_10 ?_
      by_cases c5 : (k183 t.1) ≠ 72
      · refine l13t hi_198_12 (decide_eq_true c5) ?_
        refine l2 (v := 39) hi_198_34 rfl ?_
        refine l32 (as := [.ref 39]) (la := [some (.ref 39)]) (rest := []) hi_198_35 (am_hd0 (M := 198) (by decide) 35) rfl rfl rfl (fun N' d' _ => lt183 (N := N') (d := d') h3) ?_ (fun _ q => nomatch q.1)
        rintro v8 S6 ⟨ev8, h7⟩
        cases ev8
        show am_L _ _ _ _ _ [some (.ref 39), some (.int y1), some (.int t.2)] [.int (k183 t.1)] _ _
        refine l0 hi_198_38 ?_
        by_cases c9 : (k183 t.1) = 1
        · refine l13t hi_198_39 (decide_eq_true c9) ?_
          refine l2 (v := 39) hi_198_49 rfl ?_
          refine l20 (v := .ref 76) h7 hi_198_50 rfl ?_
          refine l1 (v := y1) hi_198_53 rfl ?_
          refine l8 hi_198_54 ?_
          refine l25 h7 ma_55 hi_198_55 fun g10 g11 => ?_
          show am_L _ _ _ _ _ [some (.ref 39), some (.int y1), some (.int t.2)] [.int (kr t.1 55 y1), .int y1, .ref 76] _ _
          refine l0 hi_198_56 ?_
          refine l10 hi_198_57 ?_
          show am_L _ _ _ _ _ [some (.ref 39), some (.int y1), some (.int t.2)] [.int ((kr t.1 55 y1) + 1), .int y1, .ref 76] _ _
          refine l26 h7 ma_55 hi_198_58 fun S14 h15 g12 g13 => ?_
          refine l2 (v := 39) hi_198_59 rfl ?_
          refine l2 (v := 39) hi_198_60 rfl ?_
          refine l20 (v := .ref 41) h15 hi_198_61 rfl ?_
          refine l2 (v := 39) hi_198_64 rfl ?_
          refine l20 (v := .int (t.1.1 4)) h15 hi_198_65 rfl ?_
          refine l25 h15 ma_2 hi_198_68 fun g16 g17 => ?_
          show am_L _ _ _ _ _ [some (.ref 39), some (.int y1), some (.int t.2)] [.int (kr t.1 2 (t.1.1 4)), .ref 39] _ _
          refine l0 hi_198_69 ?_
          refine l0 hi_198_70 ?_
          refine l2 (v := 39) hi_198_71 rfl ?_
          refine l20 (v := .int (t.1.1 4)) h15 hi_198_72 rfl ?_
          refine l32 (as := [.ref 39, .int (kr t.1 2 (t.1.1 4)), .int 0, .int 0, .int (t.1.1 4)]) (la := [some (.ref 39), some (.int (kr t.1 2 (t.1.1 4))), some (.int 0), some (.int 0), some (.int (t.1.1 4)), none]) (rest := []) hi_198_75 (am_hd0 (M := 198) (by decide) 75) rfl rfl rfl (fun N' d' _ => lt196 (N := N') (d := d') h15) ?_ (fun _ q => nomatch q.1)
          rintro v20 S18 ⟨ev20, h19⟩
          cases ev20
          show am_L _ _ _ _ _ [some (.ref 39), some (.int y1), some (.int t.2)] [] _ _
          refine l2 (v := 39) hi_198_78 rfl ?_
          refine l7 hi_198_79 ?_
          refine l20 (v := .int (((k196 (ka t.1 55 y1 ((kr t.1 55 y1) + 1)) (kr t.1 2 (t.1.1 4)) 0 0 (t.1.1 4)).1).1 4)) h19 hi_198_80 rfl ?_
          refine l0 hi_198_83 ?_
          refine l10 hi_198_84 ?_
          show am_L _ _ _ _ _ [some (.ref 39), some (.int y1), some (.int t.2)] [.int ((((k196 (ka t.1 55 y1 ((kr t.1 55 y1) + 1)) (kr t.1 2 (t.1.1 4)) 0 0 (t.1.1 4)).1).1 4) + 1), .ref 39] _ _
          refine l21 h19 hi_198_85 ms_4 fun S21 h22 => ?_
          refine l2 (v := 39) hi_198_88 rfl ?_
          refine l32 (as := [.ref 39]) (la := [some (.ref 39)]) (rest := []) hi_198_89 (am_hd0 (M := 198) (by decide) 89) rfl rfl rfl (fun N' d' _ => lt183 (N := N') (d := d') h22) ?_ (fun _ q => nomatch q.1)
          rintro v25 S23 ⟨ev25, h24⟩
          cases ev25
          show am_L _ _ _ _ _ [some (.ref 39), some (.int y1), some (.int t.2)] [.int (k183 (kf ((k196 (ka t.1 55 y1 ((kr t.1 55 y1) + 1)) (kr t.1 2 (t.1.1 4)) 0 0 (t.1.1 4)).1) 4 ((((k196 (ka t.1 55 y1 ((kr t.1 55 y1) + 1)) (kr t.1 2 (t.1.1 4)) 0 0 (t.1.1 4)).1).1 4) + 1)))] _ _
          refine l0 hi_198_92 ?_
          by_cases c26 : (k183 (kf ((k196 (ka t.1 55 y1 ((kr t.1 55 y1) + 1)) (kr t.1 2 (t.1.1 4)) 0 0 (t.1.1 4)).1) 4 ((((k196 (ka t.1 55 y1 ((kr t.1 55 y1) + 1)) (kr t.1 2 (t.1.1 4)) 0 0 (t.1.1 4)).1).1 4) + 1))) ≠ 69
          · refine l13t hi_198_94 (decide_eq_true c26) ?_
            refine l0 hi_198_101 ?_
            refine l3 (ls' := [some (.ref 39), some (.int y1), some (.int 0)]) hi_198_102 (Nat.le_of_ble_eq_true rfl) rfl ?_
            refine l2 (v := 39) hi_198_103 rfl ?_
            refine l7 hi_198_104 ?_
            refine l20 (v := .int ((((k196 (ka t.1 55 y1 ((kr t.1 55 y1) + 1)) (kr t.1 2 (t.1.1 4)) 0 0 (t.1.1 4)).1).1 4) + 1)) h24 hi_198_105 rfl ?_
            refine l1 (v := 0) hi_198_108 rfl ?_
            refine l12t hi_198_109 (by decide) ?_
            refine l0 hi_198_116 ?_
            refine l10 hi_198_117 ?_
            show am_L _ _ _ _ _ [some (.ref 39), some (.int y1), some (.int 0)] [.int (((((k196 (ka t.1 55 y1 ((kr t.1 55 y1) + 1)) (kr t.1 2 (t.1.1 4)) 0 0 (t.1.1 4)).1).1 4) + 1) + 0), .ref 39] _ _
            refine l21 h24 hi_198_118 ms_4 fun S27 h28 => ?_
            refine l18 hi_198_121 ?_
            have e0 : (k198b2 y1) t = (0, (kf (kf ((k196 (ka t.1 55 y1 ((kr t.1 55 y1) + 1)) (kr t.1 2 (t.1.1 4)) 0 0 (t.1.1 4)).1) 4 ((((k196 (ka t.1 55 y1 ((kr t.1 55 y1) + 1)) (kr t.1 2 (t.1.1 4)) 0 0 (t.1.1 4)).1).1 4) + 1)) 4 (((((k196 (ka t.1 55 y1 ((kr t.1 55 y1) + 1)) (kr t.1 2 (t.1.1 4)) 0 0 (t.1.1 4)).1).1 4) + 1) + 0), 0)) := by unfold k198b2; rw [if_neg c1]; rw [if_pos c5]; rw [if_pos c9]; rw [if_pos c26]
            have e1 : ∀ m, kwh (k198b2 y1) (m + 1) t = kwh (k198b2 y1) m (kf (kf ((k196 (ka t.1 55 y1 ((kr t.1 55 y1) + 1)) (kr t.1 2 (t.1.1 4)) 0 0 (t.1.1 4)).1) 4 ((((k196 (ka t.1 55 y1 ((kr t.1 55 y1) + 1)) (kr t.1 2 (t.1.1 4)) 0 0 (t.1.1 4)).1).1 4) + 1)) 4 (((((k196 (ka t.1 55 y1 ((kr t.1 55 y1) + 1)) (kr t.1 2 (t.1.1 4)) 0 0 (t.1.1 4)).1).1 4) + 1) + 0), 0) := fun m => by rw [kwh_go (by rw [e0]), e0]
            exact ih _  (kf (kf ((k196 (ka t.1 55 y1 ((kr t.1 55 y1) + 1)) (kr t.1 2 (t.1.1 4)) 0 0 (t.1.1 4)).1) 4 ((((k196 (ka t.1 55 y1 ((kr t.1 55 y1) + 1)) (kr t.1 2 (t.1.1 4)) 0 0 (t.1.1 4)).1).1 4) + 1)) 4 (((((k196 (ka t.1 55 y1 ((kr t.1 55 y1) + 1)) (kr t.1 2 (t.1.1 4)) 0 0 (t.1.1 4)).1).1 4) + 1) + 0), 0) h28 (fun m S1 hm h1 => by have q := kx15 (m + 1) S1 (by rw [e1]; exact hm) (by rw [e1]; exact h1); (try rw [e1] at q); exact q.less (Nat.le_succ N)) (fun m S1 hm h1 => by have q := kx42 (m + 1) S1 (by rw [e1]; exact hm) (by rw [e1]; exact h1); (try rw [e1] at q); exact q.less (Nat.le_succ N)) (fun m S1 hm h1 => by have q := kx124 (m + 1) S1 (by rw [e1]; exact hm) (by rw [e1]; exact h1); (try rw [e1] at q); exact q.less (Nat.le_succ N))
          · refine l13f hi_198_94 (decide_eq_false c26) ?_
            refine l0 hi_198_97 ?_
            refine l18 hi_198_98 ?_
            refine l3 (ls' := [some (.ref 39), some (.int y1), some (.int 1)]) hi_198_102 (Nat.le_of_ble_eq_true rfl) rfl ?_
            refine l2 (v := 39) hi_198_103 rfl ?_
            refine l7 hi_198_104 ?_
            refine l20 (v := .int ((((k196 (ka t.1 55 y1 ((kr t.1 55 y1) + 1)) (kr t.1 2 (t.1.1 4)) 0 0 (t.1.1 4)).1).1 4) + 1)) h24 hi_198_105 rfl ?_
            refine l1 (v := 1) hi_198_108 rfl ?_
            refine l12f hi_198_109 (by decide) ?_
            refine l0 hi_198_112 ?_
            refine l18 hi_198_113 ?_
            refine l10 hi_198_117 ?_
            show am_L _ _ _ _ _ [some (.ref 39), some (.int y1), some (.int 1)] [.int (((((k196 (ka t.1 55 y1 ((kr t.1 55 y1) + 1)) (kr t.1 2 (t.1.1 4)) 0 0 (t.1.1 4)).1).1 4) + 1) + 1), .ref 39] _ _
            refine l21 h24 hi_198_118 ms_4 fun S29 h30 => ?_
            refine l18 hi_198_121 ?_
            have e0 : (k198b2 y1) t = (0, (kf (kf ((k196 (ka t.1 55 y1 ((kr t.1 55 y1) + 1)) (kr t.1 2 (t.1.1 4)) 0 0 (t.1.1 4)).1) 4 ((((k196 (ka t.1 55 y1 ((kr t.1 55 y1) + 1)) (kr t.1 2 (t.1.1 4)) 0 0 (t.1.1 4)).1).1 4) + 1)) 4 (((((k196 (ka t.1 55 y1 ((kr t.1 55 y1) + 1)) (kr t.1 2 (t.1.1 4)) 0 0 (t.1.1 4)).1).1 4) + 1) + 1), 1)) := by unfold k198b2; rw [if_neg c1]; rw [if_pos c5]; rw [if_pos c9]; rw [if_neg c26]
            have e1 : ∀ m, kwh (k198b2 y1) (m + 1) t = kwh (k198b2 y1) m (kf (kf ((k196 (ka t.1 55 y1 ((kr t.1 55 y1) + 1)) (kr t.1 2 (t.1.1 4)) 0 0 (t.1.1 4)).1) 4 ((((k196 (ka t.1 55 y1 ((kr t.1 55 y1) + 1)) (kr t.1 2 (t.1.1 4)) 0 0 (t.1.1 4)).1).1 4) + 1)) 4 (((((k196 (ka t.1 55 y1 ((kr t.1 55 y1) + 1)) (kr t.1 2 (t.1.1 4)) 0 0 (t.1.1 4)).1).1 4) + 1) + 1), 1) := fun m => by rw [kwh_go (by rw [e0]), e0]
            exact ih _  (kf (kf ((k196 (ka t.1 55 y1 ((kr t.1 55 y1) + 1)) (kr t.1 2 (t.1.1 4)) 0 0 (t.1.1 4)).1) 4 ((((k196 (ka t.1 55 y1 ((kr t.1 55 y1) + 1)) (kr t.1 2 (t.1.1 4)) 0 0 (t.1.1 4)).1).1 4) + 1)) 4 (((((k196 (ka t.1 55 y1 ((kr t.1 55 y1) + 1)) (kr t.1 2 (t.1.1 4)) 0 0 (t.1.1 4)).1).1 4) + 1) + 1), 1) h30 (fun m S1 hm h1 => by have q := kx15 (m + 1) S1 (by rw [e1]; exact hm) (by rw [e1]; exact h1); (try rw [e1] at q); exact q.less (Nat.le_succ N)) (fun m S1 hm h1 => by have q := kx42 (m + 1) S1 (by rw [e1]; exact hm) (by rw [e1]; exact h1); (try rw [e1] at q); exact q.less (Nat.le_succ N)) (fun m S1 hm h1 => by have q := kx124 (m + 1) S1 (by rw [e1]; exact hm) (by rw [e1]; exact h1); (try rw [e1] at q); exact q.less (Nat.le_succ N))
        · refine l13f hi_198_39 (decide_eq_false c9) ?_
          have e0 : (k198b2 y1) t = (2, (t.1, t.2)) := by unfold k198b2; rw [if_neg c1]; rw [if_pos c5]; rw [if_neg c9]
          have e1 : kwh (k198b2 y1) 1 t = (2, (t.1, t.2)) := by rw [kwh_out (by rw [e0]; exact Nat.succ_ne_zero _), e0]
          have q := kx42 1 _  (by rw [e1]) (by rw [e1]; exact h7)
          try rw [e1] at q
          exact q.less (Nat.le_succ N)
      · refine l13f hi_198_12 (decide_eq_false c5) ?_
        have e0 : (k198b2 y1) t = (1, (t.1, t.2)) := by unfold k198b2; rw [if_neg c1]; rw [if_neg c5]
        have e1 : kwh (k198b2 y1) 1 t = (1, (t.1, t.2)) := by rw [kwh_out (by rw [e0]; exact Nat.succ_ne_zero _), e0]
        have q := kx15 1 _  (by rw [e1]) (by rw [e1]; exact h3)
        try rw [e1] at q
        exact q.less (Nat.le_succ N)
/-- parameters(I)Z -/
noncomputable def k198 (s : kS) (x1 : Int32) : kS × Int32 := if (kfin (k198b2 x1) (s, 1)).1 = 1 then (kf (ka ((kfin (k198b2 x1) (s, 1)).2.1) 56 x1 1) 4 ((((kfin (k198b2 x1) (s, 1)).2.1).1 4) + 1), 1) else if (kfin (k198b2 x1) (s, 1)).1 = 2 then ((k194 ((kfin (k198b2 x1) (s, 1)).2.1) 7).1, (k194 ((kfin (k198b2 x1) (s, 1)).2.1) 7).2) else ((kfin (k198b2 x1) (s, 1)).2.1, 1)
theorem lt198 {sc : Nat × (Nat → Int32)} {N d : Nat} {S0 S : am_S} {s : kS} {x1 : Int32} (hS : MK S0 S s) : am_L (am_PP sc) N d 198 0 [some (.ref 39), some (.int x1), none] [] S (fun o S1 => o = some (some (.int ((k198 s x1).2))) ∧ MK S0 S1 (k198 s x1).1) := by
  refine l0 hi_198_0 ?_
  refine l3 (ls' := [some (.ref 39), some (.int x1), some (.int 1)]) hi_198_1 (Nat.le_of_ble_eq_true rfl) rfl ?_
  refine lb198_2 N _  (s, 1) hS ?_ ?_ ?_
  · intro m1 S2  hm3 h4
    have hf5 : kfin (k198b2 x1) (s, 1) = kwh (k198b2 x1) m1 (s, 1) := kfin_eq (by rw [hm3]; decide)
    rw [← hf5] at hm3 h4
    try rw [← hf5]
    refine l2 (v := 39) hi_198_15 rfl ?_
    refine l20 (v := .ref 77) h4 hi_198_16 rfl ?_
    refine l1 (v := x1) hi_198_19 rfl ?_
    refine l0 hi_198_20 ?_
    refine l26 h4 ma_56 hi_198_21 fun S8 h9 g6 g7 => ?_
    refine l2 (v := 39) hi_198_22 rfl ?_
    refine l7 hi_198_23 ?_
    refine l20 (v := .int (((kfin (k198b2 x1) (s, 1)).2.1).1 4)) h9 hi_198_24 rfl ?_
    refine l0 hi_198_27 ?_
    refine l10 hi_198_28 ?_
    show am_L _ _ _ _ _ [some (.ref 39), some (.int x1), some (.int ((kfin (k198b2 x1) (s, 1)).2.2))] [.int ((((kfin (k198b2 x1) (s, 1)).2.1).1 4) + 1), .ref 39] _ _
    refine l21 h9 hi_198_29 ms_4 fun S10 h11 => ?_
    refine l0 hi_198_32 ?_
    refine l36 hi_198_33 fun _ => ⟨?_, ?_⟩
    · unfold k198; rw [if_pos hm3]
    · unfold k198; rw [if_pos hm3]; exact h11
  · intro m12 S13  hm14 h15
    have hf16 : kfin (k198b2 x1) (s, 1) = kwh (k198b2 x1) m12 (s, 1) := kfin_eq (by rw [hm14]; decide)
    rw [← hf16] at hm14 h15
    try rw [← hf16]
    have c17 : ¬ (kfin (k198b2 x1) (s, 1)).1 = 1 := by rw [hm14]; decide
    refine l2 (v := 39) hi_198_42 rfl ?_
    refine l0 hi_198_43 ?_
    refine l32 (as := [.ref 39, .int 7]) (la := [some (.ref 39), some (.int 7)]) (rest := []) hi_198_45 (am_hd0 (M := 198) (by decide) 45) rfl rfl rfl (fun N' d' _ => lt194 (N := N') (d := d') h15) ?_ (fun _ q => nomatch q.1)
    rintro v20 S18 ⟨ev20, h19⟩
    cases ev20
    show am_L _ _ _ _ _ [some (.ref 39), some (.int x1), some (.int ((kfin (k198b2 x1) (s, 1)).2.2))] [.int ((k194 ((kfin (k198b2 x1) (s, 1)).2.1) 7).2)] _ _
    refine l36 hi_198_48 fun _ => ⟨?_, ?_⟩
    · unfold k198; rw [if_neg c17]; rw [if_pos hm14]
    · unfold k198; rw [if_neg c17]; rw [if_pos hm14]; exact h19
  · intro m21 S22  hm23 h24
    have hf25 : kfin (k198b2 x1) (s, 1) = kwh (k198b2 x1) m21 (s, 1) := kfin_eq (by rw [hm23]; decide)
    rw [← hf25] at hm23 h24
    try rw [← hf25]
    have c26 : ¬ (kfin (k198b2 x1) (s, 1)).1 = 1 := by rw [hm23]; decide
    have c27 : ¬ (kfin (k198b2 x1) (s, 1)).1 = 2 := by rw [hm23]; decide
    refine l0 hi_198_124 ?_
    refine l36 hi_198_125 fun _ => ⟨?_, ?_⟩
    · unfold k198; rw [if_neg c26]; rw [if_neg c27]
    · unfold k198; rw [if_neg c26]; rw [if_neg c27]; exact h24
/-- take(I)Z -/
def k200 (s : kS) (x1 : Int32) : kS × Int32 := if (k183 s) = x1 then (kf s 4 ((s.1 4) + 1), 1) else ((k194 s 7).1, (k194 s 7).2)
theorem lt200 {sc : Nat × (Nat → Int32)} {N d : Nat} {S0 S : am_S} {s : kS} {x1 : Int32} (hS : MK S0 S s) : am_L (am_PP sc) N d 200 0 [some (.ref 39), some (.int x1)] [] S (fun o S1 => o = some (some (.int ((k200 s x1).2))) ∧ MK S0 S1 (k200 s x1).1) := by
  refine l2 (v := 39) hi_200_0 rfl ?_
  refine l32 (as := [.ref 39]) (la := [some (.ref 39)]) (rest := []) hi_200_1 (am_hd0 (M := 200) (by decide) 1) rfl rfl rfl (fun N' d' _ => lt183 (N := N') (d := d') hS) ?_ (fun _ q => nomatch q.1)
  rintro v3 S1 ⟨ev3, h2⟩
  cases ev3
  show am_L _ _ _ _ _ [some (.ref 39), some (.int x1)] [.int (k183 s)] _ _
  refine l1 (v := x1) hi_200_4 rfl ?_
  by_cases c4 : (k183 s) = x1
  · refine l13t hi_200_5 (decide_eq_true c4) ?_
    refine l2 (v := 39) hi_200_15 rfl ?_
    refine l7 hi_200_16 ?_
    refine l20 (v := .int (s.1 4)) h2 hi_200_17 rfl ?_
    refine l0 hi_200_20 ?_
    refine l10 hi_200_21 ?_
    show am_L _ _ _ _ _ [some (.ref 39), some (.int x1)] [.int ((s.1 4) + 1), .ref 39] _ _
    refine l21 h2 hi_200_22 ms_4 fun S5 h6 => ?_
    refine l0 hi_200_25 ?_
    refine l36 hi_200_26 fun _ => ⟨?_, ?_⟩
    · unfold k200; rw [if_pos c4]
    · unfold k200; rw [if_pos c4]; exact h6
  · refine l13f hi_200_5 (decide_eq_false c4) ?_
    refine l2 (v := 39) hi_200_8 rfl ?_
    refine l0 hi_200_9 ?_
    refine l32 (as := [.ref 39, .int 7]) (la := [some (.ref 39), some (.int 7)]) (rest := []) hi_200_11 (am_hd0 (M := 200) (by decide) 11) rfl rfl rfl (fun N' d' _ => lt194 (N := N') (d := d') h2) ?_ (fun _ q => nomatch q.1)
    rintro v9 S7 ⟨ev9, h8⟩
    cases ev9
    show am_L _ _ _ _ _ [some (.ref 39), some (.int x1)] [.int ((k194 s 7).2)] _ _
    refine l36 hi_200_14 fun _ => ⟨?_, ?_⟩
    · unfold k200; rw [if_neg c4]
    · unfold k200; rw [if_neg c4]; exact h8
def k199_5 (s : kS) (z0 : Int32) : kS × Int32 := if z0 ≠ 0 then (kf s 5 ((s.1 5) - 1), 1) else (s, 0)
theorem lt199_5 {sc : Nat × (Nat → Int32)} {N d : Nat} {S0 S : am_S} {s : kS} {z0 : Int32} {o1 : Option Value} (hS : MK S0 S s) : am_L (am_PP sc) N d 199 5 [some (.ref 39), o1] [.int z0] S (fun o S1 => o = some (some (.int ((k199_5 s z0).2))) ∧ MK S0 S1 (k199_5 s z0).1) := by
  by_cases c1 : z0 ≠ 0
  · refine l12t hi_199_5 (decide_eq_true c1) ?_
    refine l2 (v := 39) hi_199_10 rfl ?_
    refine l7 hi_199_11 ?_
    refine l20 (v := .int (s.1 5)) hS hi_199_12 rfl ?_
    refine l0 hi_199_15 ?_
    refine l10 hi_199_16 ?_
    show am_L _ _ _ _ _ [some (.ref 39), o1] [.int ((s.1 5) - 1), .ref 39] _ _
    refine l21 hS hi_199_17 ms_5 fun S2 h3 => ?_
    refine l0 hi_199_20 ?_
    refine l36 hi_199_21 fun _ => ⟨?_, ?_⟩
    · unfold k199_5; rw [if_pos c1]
    · unfold k199_5; rw [if_pos c1]; exact h3
  · refine l12f hi_199_5 (decide_eq_false c1) ?_
    refine l0 hi_199_8 ?_
    refine l36 hi_199_9 fun _ => ⟨?_, ?_⟩
    · unfold k199_5; rw [if_neg c1]
    · unfold k199_5; rw [if_neg c1]; exact hS
/-- leave(I)Z -/
def k199 (s : kS) (x1 : Int32) : kS × Int32 := k199_5 ((k200 s x1).1) ((k200 s x1).2)
theorem lt199 {sc : Nat × (Nat → Int32)} {N d : Nat} {S0 S : am_S} {s : kS} {x1 : Int32} (hS : MK S0 S s) : am_L (am_PP sc) N d 199 0 [some (.ref 39), some (.int x1)] [] S (fun o S1 => o = some (some (.int ((k199 s x1).2))) ∧ MK S0 S1 (k199 s x1).1) := by
  refine l2 (v := 39) hi_199_0 rfl ?_
  refine l1 (v := x1) hi_199_1 rfl ?_
  refine l32 (as := [.ref 39, .int x1]) (la := [some (.ref 39), some (.int x1)]) (rest := []) hi_199_2 (am_hd0 (M := 199) (by decide) 2) rfl rfl rfl (fun N' d' _ => lt200 (N := N') (d := d') hS) ?_ (fun _ q => nomatch q.1)
  rintro v3 S1 ⟨ev3, h2⟩
  cases ev3
  show am_L _ _ _ _ _ [some (.ref 39), some (.int x1)] [.int ((k200 s x1).2)] _ _
  refine am_L.mono (lt199_5 h2) ?_
  rintro o S1 ⟨e, h⟩
  have q : k199 s x1 = k199_5 ((k200 s x1).1) ((k200 s x1).2) := rfl
  rw [q]; exact ⟨e, h⟩
noncomputable def k195_207 (s : kS) (y3 : Int32) (z0 : Int32) : kS × Int32 := if z0 ≠ 0 then ((k178 ((k179 s 40 y3 0 0).1)).1, 0) else (s, 0)
theorem lt195_207 {sc : Nat × (Nat → Int32)} {N d : Nat} {S0 S : am_S} {s : kS} {y3 : Int32} {z0 : Int32} {o1 : Option Value} {o2 : Option Value} {o4 : Option Value} (hS : MK S0 S s) : am_L (am_PP sc) N d 195 207 [some (.ref 39), o1, o2, some (.int y3), o4] [.int z0] S (fun o S1 => o = some none ∧ MK S0 S1 (k195_207 s y3 z0).1) := by
  by_cases c1 : z0 ≠ 0
  · refine l12t hi_195_207 (decide_eq_true c1) ?_
    refine l2 (v := 39) hi_195_211 rfl ?_
    refine l0 hi_195_212 ?_
    refine l1 (v := y3) hi_195_214 rfl ?_
    refine l0 hi_195_215 ?_
    refine l0 hi_195_216 ?_
    refine l32 (as := [.ref 39, .int 40, .int y3, .int 0, .int 0]) (la := [some (.ref 39), some (.int 40), some (.int y3), some (.int 0), some (.int 0)]) (rest := []) hi_195_217 (am_hd0 (M := 195) (by decide) 217) rfl rfl rfl (fun N' d' _ => lt179 (N := N') (d := d') hS) ?_ (fun _ q => nomatch q.1)
    rintro v4 S2 ⟨ev4, h3⟩
    cases ev4
    show am_L _ _ _ _ _ [some (.ref 39), o1, o2, some (.int y3), o4] [] _ _
    refine l2 (v := 39) hi_195_220 rfl ?_
    refine l32 (as := [.ref 39]) (la := [some (.ref 39)]) (rest := []) hi_195_221 (am_hd0 (M := 195) (by decide) 221) rfl rfl rfl (fun N' d' _ => lt178 (N := N') (d := d') h3) ?_ (fun _ q => nomatch q.1)
    rintro v7 S5 ⟨ev7, h6⟩
    cases ev7
    show am_L _ _ _ _ _ [some (.ref 39), o1, o2, some (.int y3), o4] [] _ _
    refine l35 hi_195_224 ⟨rfl, ?_⟩
    unfold k195_207; rw [if_pos c1]; exact h6
  · refine l12f hi_195_207 (decide_eq_false c1) ?_
    refine l35 hi_195_210 ⟨rfl, ?_⟩
    unfold k195_207; rw [if_neg c1]; exact hS
noncomputable def k195_201 (s : kS) (y3 : Int32) : kS × Int32 := k195_207 ((k199 s 61).1) y3 ((k199 s 61).2)
theorem lt195_201 {sc : Nat × (Nat → Int32)} {N d : Nat} {S0 S : am_S} {s : kS} {y3 : Int32} {o1 : Option Value} {o2 : Option Value} {o4 : Option Value} (hS : MK S0 S s) : am_L (am_PP sc) N d 195 201 [some (.ref 39), o1, o2, some (.int y3), o4] [] S (fun o S1 => o = some none ∧ MK S0 S1 (k195_201 s y3).1) := by
  refine l2 (v := 39) hi_195_201 rfl ?_
  refine l0 hi_195_202 ?_
  refine l32 (as := [.ref 39, .int 61]) (la := [some (.ref 39), some (.int 61)]) (rest := []) hi_195_204 (am_hd0 (M := 195) (by decide) 204) rfl rfl rfl (fun N' d' _ => lt199 (N := N') (d := d') hS) ?_ (fun _ q => nomatch q.1)
  rintro v3 S1 ⟨ev3, h2⟩
  cases ev3
  show am_L _ _ _ _ _ [some (.ref 39), o1, o2, some (.int y3), o4] [.int ((k199 s 61).2)] _ _
  refine am_L.mono (lt195_207 h2) ?_
  rintro o S1 ⟨e, h⟩
  have q : k195_201 s y3 = k195_207 ((k199 s 61).1) y3 ((k199 s 61).2) := rfl
  rw [q]; exact ⟨e, h⟩
noncomputable def k195_198 (s : kS) (y3 : Int32) (z0 : Int32) : kS × Int32 := if z0 = 0 then (s, 0) else k195_201 s y3
theorem lt195_198 {sc : Nat × (Nat → Int32)} {N d : Nat} {S0 S : am_S} {s : kS} {y3 : Int32} {z0 : Int32} {o1 : Option Value} {o2 : Option Value} {o4 : Option Value} (hS : MK S0 S s) : am_L (am_PP sc) N d 195 198 [some (.ref 39), o1, o2, some (.int y3), o4] [.int z0] S (fun o S1 => o = some none ∧ MK S0 S1 (k195_198 s y3 z0).1) := by
  by_cases c1 : z0 = 0
  · refine l12t hi_195_198 (decide_eq_true c1) ?_
    refine l35 hi_195_224 ⟨rfl, ?_⟩
    unfold k195_198; rw [if_pos c1]; exact hS
  · refine l12f hi_195_198 (decide_eq_false c1) ?_
    refine am_L.mono (lt195_201 hS) ?_
    rintro o S1 ⟨e, h⟩
    have q : k195_198 s y3 z0 = k195_201 s y3 := by unfold k195_198; rw [if_neg c1]
    rw [q]; exact ⟨e, h⟩
noncomputable def k195_183 (s : kS) (y3 : Int32) (y4 : Int32) : kS × Int32 := if (k183 s) = 61 then k195_201 s y3 else k195_198 ((k198 s y4).1) y3 ((k198 s y4).2)
theorem lt195_183 {sc : Nat × (Nat → Int32)} {N d : Nat} {S0 S : am_S} {s : kS} {y3 : Int32} {y4 : Int32} {o1 : Option Value} {o2 : Option Value} (hS : MK S0 S s) : am_L (am_PP sc) N d 195 183 [some (.ref 39), o1, o2, some (.int y3), some (.int y4)] [] S (fun o S1 => o = some none ∧ MK S0 S1 (k195_183 s y3 y4).1) := by
  refine l2 (v := 39) hi_195_183 rfl ?_
  refine l32 (as := [.ref 39]) (la := [some (.ref 39)]) (rest := []) hi_195_184 (am_hd0 (M := 195) (by decide) 184) rfl rfl rfl (fun N' d' _ => lt183 (N := N') (d := d') hS) ?_ (fun _ q => nomatch q.1)
  rintro v3 S1 ⟨ev3, h2⟩
  cases ev3
  show am_L _ _ _ _ _ [some (.ref 39), o1, o2, some (.int y3), some (.int y4)] [.int (k183 s)] _ _
  refine l0 hi_195_187 ?_
  by_cases c4 : (k183 s) = 61
  · refine l13t hi_195_189 (decide_eq_true c4) ?_
    refine am_L.mono (lt195_201 h2) ?_
    rintro o S1 ⟨e, h⟩
    have q : k195_183 s y3 y4 = k195_201 s y3 := by unfold k195_183; rw [if_pos c4]
    rw [q]; exact ⟨e, h⟩
  · refine l13f hi_195_189 (decide_eq_false c4) ?_
    refine l2 (v := 39) hi_195_192 rfl ?_
    refine l1 (v := y4) hi_195_193 rfl ?_
    refine l32 (as := [.ref 39, .int y4]) (la := [some (.ref 39), some (.int y4), none]) (rest := []) hi_195_195 (am_hd0 (M := 195) (by decide) 195) rfl rfl rfl (fun N' d' _ => lt198 (N := N') (d := d') h2) ?_ (fun _ q => nomatch q.1)
    rintro v7 S5 ⟨ev7, h6⟩
    cases ev7
    show am_L _ _ _ _ _ [some (.ref 39), o1, o2, some (.int y3), some (.int y4)] [.int ((k198 s y4).2)] _ _
    refine am_L.mono (lt195_198 h6) ?_
    rintro o S1 ⟨e, h⟩
    have q : k195_183 s y3 y4 = k195_198 ((k198 s y4).1) y3 ((k198 s y4).2) := by unfold k195_183; rw [if_neg c4]
    rw [q]; exact ⟨e, h⟩
noncomputable def k195_160 (s : kS) (y1 : Int32) (y3 : Int32) (y4 : Int32) : kS × Int32 := if y1 = 0 then k195_183 s y3 y4 else k195_183 ((k196 (ka s 55 y4 ((kr s 55 y4) + 1)) (-1) 0 0 y3).1) y3 y4
theorem lt195_160 {sc : Nat × (Nat → Int32)} {N d : Nat} {S0 S : am_S} {s : kS} {y1 : Int32} {y3 : Int32} {y4 : Int32} {o2 : Option Value} (hS : MK S0 S s) : am_L (am_PP sc) N d 195 160 [some (.ref 39), some (.int y1), o2, some (.int y3), some (.int y4)] [] S (fun o S1 => o = some none ∧ MK S0 S1 (k195_160 s y1 y3 y4).1) := by
  refine l1 (v := y1) hi_195_160 rfl ?_
  by_cases c1 : y1 = 0
  · refine l12t hi_195_161 (decide_eq_true c1) ?_
    refine am_L.mono (lt195_183 hS) ?_
    rintro o S1 ⟨e, h⟩
    have q : k195_160 s y1 y3 y4 = k195_183 s y3 y4 := by unfold k195_160; rw [if_pos c1]
    rw [q]; exact ⟨e, h⟩
  · refine l12f hi_195_161 (decide_eq_false c1) ?_
    refine l2 (v := 39) hi_195_164 rfl ?_
    refine l20 (v := .ref 76) hS hi_195_165 rfl ?_
    refine l1 (v := y4) hi_195_168 rfl ?_
    refine l8 hi_195_170 ?_
    refine l25 hS ma_55 hi_195_171 fun g2 g3 => ?_
    show am_L _ _ _ _ _ [some (.ref 39), some (.int y1), o2, some (.int y3), some (.int y4)] [.int (kr s 55 y4), .int y4, .ref 76] _ _
    refine l0 hi_195_172 ?_
    refine l10 hi_195_173 ?_
    show am_L _ _ _ _ _ [some (.ref 39), some (.int y1), o2, some (.int y3), some (.int y4)] [.int ((kr s 55 y4) + 1), .int y4, .ref 76] _ _
    refine l26 hS ma_55 hi_195_174 fun S6 h7 g4 g5 => ?_
    refine l2 (v := 39) hi_195_175 rfl ?_
    refine l0 hi_195_176 ?_
    refine l0 hi_195_177 ?_
    refine l0 hi_195_178 ?_
    refine l1 (v := y3) hi_195_179 rfl ?_
    refine l32 (as := [.ref 39, .int (-1), .int 0, .int 0, .int y3]) (la := [some (.ref 39), some (.int (-1)), some (.int 0), some (.int 0), some (.int y3), none]) (rest := []) hi_195_180 (am_hd0 (M := 195) (by decide) 180) rfl rfl rfl (fun N' d' _ => lt196 (N := N') (d := d') h7) ?_ (fun _ q => nomatch q.1)
    rintro v10 S8 ⟨ev10, h9⟩
    cases ev10
    show am_L _ _ _ _ _ [some (.ref 39), some (.int y1), o2, some (.int y3), some (.int y4)] [] _ _
    refine am_L.mono (lt195_183 h9) ?_
    rintro o S1 ⟨e, h⟩
    have q : k195_160 s y1 y3 y4 = k195_183 ((k196 (ka s 55 y4 ((kr s 55 y4) + 1)) (-1) 0 0 y3).1) y3 y4 := by unfold k195_160; rw [if_neg c1]
    rw [q]; exact ⟨e, h⟩
noncomputable def k195_11 (s : kS) (y1 : Int32) (y2 : Int32) (y3 : Int32) (z0 : Int32) : kS × Int32 := if z0 ≠ 0 then k195_160 ((k177 (ka (ka (ka (ka (kf (ka (ka (ka (ka (ka (ka (ka (kf s 53 ((s.1 53) + 1)) 54 (s.1 53) (kr s 33 (s.1 32))) 59 (s.1 53) y2) 55 (s.1 53) 0) 56 (s.1 53) 0) 58 (s.1 53) 0) 60 (s.1 53) 0) 67 (s.1 53) 0) 32 ((s.1 32) + 1)) 33 ((s.1 32) + 1) (s.1 53)) 34 ((s.1 32) + 1) (s.1 24)) 35 ((s.1 32) + 1) (s.1 44)) 36 ((s.1 32) + 1) (s.1 48)) 0).1) y1 y3 (s.1 53) else (s, 0)
theorem lt195_11 {sc : Nat × (Nat → Int32)} {N d : Nat} {S0 S : am_S} {s : kS} {y1 : Int32} {y2 : Int32} {y3 : Int32} {z0 : Int32} {o4 : Option Value} (hS : MK S0 S s) : am_L (am_PP sc) N d 195 11 [some (.ref 39), some (.int y1), some (.int y2), some (.int y3), o4] [.int z0] S (fun o S1 => o = some none ∧ MK S0 S1 (k195_11 s y1 y2 y3 z0).1) := by
  by_cases c1 : z0 ≠ 0
  · refine l12t hi_195_11 (decide_eq_true c1) ?_
    refine l2 (v := 39) hi_195_15 rfl ?_
    refine l20 (v := .int (s.1 53)) hS hi_195_16 rfl ?_
    refine l3 (ls' := [some (.ref 39), some (.int y1), some (.int y2), some (.int y3), some (.int (s.1 53))]) hi_195_19 (Nat.le_of_ble_eq_true rfl) rfl ?_
    refine l2 (v := 39) hi_195_21 rfl ?_
    refine l7 hi_195_22 ?_
    refine l20 (v := .int (s.1 53)) hS hi_195_23 rfl ?_
    refine l0 hi_195_26 ?_
    refine l10 hi_195_27 ?_
    show am_L _ _ _ _ _ [some (.ref 39), some (.int y1), some (.int y2), some (.int y3), some (.int (s.1 53))] [.int ((s.1 53) + 1), .ref 39] _ _
    refine l21 hS hi_195_28 ms_53 fun S2 h3 => ?_
    refine l2 (v := 39) hi_195_31 rfl ?_
    refine l20 (v := .ref 75) h3 hi_195_32 rfl ?_
    refine l1 (v := s.1 53) hi_195_35 rfl ?_
    refine l2 (v := 39) hi_195_37 rfl ?_
    refine l20 (v := .ref 58) h3 hi_195_38 rfl ?_
    refine l2 (v := 39) hi_195_41 rfl ?_
    refine l20 (v := .int (s.1 32)) h3 hi_195_42 rfl ?_
    refine l25 h3 ma_33 hi_195_45 fun g4 g5 => ?_
    show am_L _ _ _ _ _ [some (.ref 39), some (.int y1), some (.int y2), some (.int y3), some (.int (s.1 53))] [.int (kr s 33 (s.1 32)), .int (s.1 53), .ref 75] _ _
    refine l26 h3 ma_54 hi_195_46 fun S8 h9 g6 g7 => ?_
    refine l2 (v := 39) hi_195_47 rfl ?_
    refine l20 (v := .ref 80) h9 hi_195_48 rfl ?_
    refine l1 (v := s.1 53) hi_195_51 rfl ?_
    refine l1 (v := y2) hi_195_53 rfl ?_
    refine l26 h9 ma_59 hi_195_54 fun S12 h13 g10 g11 => ?_
    refine l2 (v := 39) hi_195_55 rfl ?_
    refine l20 (v := .ref 76) h13 hi_195_56 rfl ?_
    refine l1 (v := s.1 53) hi_195_59 rfl ?_
    refine l0 hi_195_61 ?_
    refine l26 h13 ma_55 hi_195_62 fun S16 h17 g14 g15 => ?_
    refine l2 (v := 39) hi_195_63 rfl ?_
    refine l20 (v := .ref 77) h17 hi_195_64 rfl ?_
    refine l1 (v := s.1 53) hi_195_67 rfl ?_
    refine l0 hi_195_69 ?_
    refine l26 h17 ma_56 hi_195_70 fun S20 h21 g18 g19 => ?_
    refine l2 (v := 39) hi_195_71 rfl ?_
    refine l20 (v := .ref 79) h21 hi_195_72 rfl ?_
    refine l1 (v := s.1 53) hi_195_75 rfl ?_
    refine l0 hi_195_77 ?_
    refine l26 h21 ma_58 hi_195_78 fun S24 h25 g22 g23 => ?_
    refine l2 (v := 39) hi_195_79 rfl ?_
    refine l20 (v := .ref 81) h25 hi_195_80 rfl ?_
    refine l1 (v := s.1 53) hi_195_83 rfl ?_
    refine l0 hi_195_85 ?_
    refine l26 h25 ma_60 hi_195_86 fun S28 h29 g26 g27 => ?_
    refine l2 (v := 39) hi_195_87 rfl ?_
    refine l20 (v := .ref 87) h29 hi_195_88 rfl ?_
    refine l1 (v := s.1 53) hi_195_91 rfl ?_
    refine l0 hi_195_93 ?_
    refine l26 h29 ma_67 hi_195_94 fun S32 h33 g30 g31 => ?_
    refine l2 (v := 39) hi_195_95 rfl ?_
    refine l7 hi_195_96 ?_
    refine l20 (v := .int (s.1 32)) h33 hi_195_97 rfl ?_
    refine l0 hi_195_100 ?_
    refine l10 hi_195_101 ?_
    show am_L _ _ _ _ _ [some (.ref 39), some (.int y1), some (.int y2), some (.int y3), some (.int (s.1 53))] [.int ((s.1 32) + 1), .ref 39] _ _
    refine l21 h33 hi_195_102 ms_32 fun S34 h35 => ?_
    refine l2 (v := 39) hi_195_105 rfl ?_
    refine l20 (v := .ref 58) h35 hi_195_106 rfl ?_
    refine l2 (v := 39) hi_195_109 rfl ?_
    refine l20 (v := .int ((s.1 32) + 1)) h35 hi_195_110 rfl ?_
    refine l1 (v := s.1 53) hi_195_113 rfl ?_
    refine l26 h35 ma_33 hi_195_115 fun S38 h39 g36 g37 => ?_
    refine l2 (v := 39) hi_195_116 rfl ?_
    refine l20 (v := .ref 59) h39 hi_195_117 rfl ?_
    refine l2 (v := 39) hi_195_120 rfl ?_
    refine l20 (v := .int ((s.1 32) + 1)) h39 hi_195_121 rfl ?_
    refine l2 (v := 39) hi_195_124 rfl ?_
    refine l20 (v := .int (s.1 24)) h39 hi_195_125 rfl ?_
    refine l26 h39 ma_34 hi_195_128 fun S42 h43 g40 g41 => ?_
    refine l2 (v := 39) hi_195_129 rfl ?_
    refine l20 (v := .ref 60) h43 hi_195_130 rfl ?_
    refine l2 (v := 39) hi_195_133 rfl ?_
    refine l20 (v := .int ((s.1 32) + 1)) h43 hi_195_134 rfl ?_
    refine l2 (v := 39) hi_195_137 rfl ?_
    refine l20 (v := .int (s.1 44)) h43 hi_195_138 rfl ?_
    refine l26 h43 ma_35 hi_195_141 fun S46 h47 g44 g45 => ?_
    refine l2 (v := 39) hi_195_142 rfl ?_
    refine l20 (v := .ref 61) h47 hi_195_143 rfl ?_
    refine l2 (v := 39) hi_195_146 rfl ?_
    refine l20 (v := .int ((s.1 32) + 1)) h47 hi_195_147 rfl ?_
    refine l2 (v := 39) hi_195_150 rfl ?_
    refine l20 (v := .int (s.1 48)) h47 hi_195_151 rfl ?_
    refine l26 h47 ma_36 hi_195_154 fun S50 h51 g48 g49 => ?_
    refine l2 (v := 39) hi_195_155 rfl ?_
    refine l0 hi_195_156 ?_
    refine l32 (as := [.ref 39, .int 0]) (la := [some (.ref 39), some (.int 0)]) (rest := []) hi_195_157 (am_hd0 (M := 195) (by decide) 157) rfl rfl rfl (fun N' d' _ => lt177 (N := N') (d := d') h51) ?_ (fun _ q => nomatch q.1)
    rintro v54 S52 ⟨ev54, h53⟩
    cases ev54
    show am_L _ _ _ _ _ [some (.ref 39), some (.int y1), some (.int y2), some (.int y3), some (.int (s.1 53))] [] _ _
    refine am_L.mono (lt195_160 h53) ?_
    rintro o S1 ⟨e, h⟩
    have q : k195_11 s y1 y2 y3 z0 = k195_160 ((k177 (ka (ka (ka (ka (kf (ka (ka (ka (ka (ka (ka (ka (kf s 53 ((s.1 53) + 1)) 54 (s.1 53) (kr s 33 (s.1 32))) 59 (s.1 53) y2) 55 (s.1 53) 0) 56 (s.1 53) 0) 58 (s.1 53) 0) 60 (s.1 53) 0) 67 (s.1 53) 0) 32 ((s.1 32) + 1)) 33 ((s.1 32) + 1) (s.1 53)) 34 ((s.1 32) + 1) (s.1 24)) 35 ((s.1 32) + 1) (s.1 44)) 36 ((s.1 32) + 1) (s.1 48)) 0).1) y1 y3 (s.1 53) := by unfold k195_11; rw [if_pos c1]
    rw [q]; exact ⟨e, h⟩
  · refine l12f hi_195_11 (decide_eq_false c1) ?_
    refine l35 hi_195_14 ⟨rfl, ?_⟩
    unfold k195_11; rw [if_neg c1]; exact hS
/-- body(ZI)V -/
noncomputable def k195 (s : kS) (x1 : Int32) (x2 : Int32) : kS × Int32 := k195_11 ((k193 s 60).1) x1 x2 (s.1 4) ((k193 s 60).2)
theorem lt195 {sc : Nat × (Nat → Int32)} {N d : Nat} {S0 S : am_S} {s : kS} {x1 : Int32} {x2 : Int32} (hS : MK S0 S s) : am_L (am_PP sc) N d 195 0 [some (.ref 39), some (.int x1), some (.int x2), none, none] [] S (fun o S1 => o = some none ∧ MK S0 S1 (k195 s x1 x2).1) := by
  refine l2 (v := 39) hi_195_0 rfl ?_
  refine l20 (v := .int (s.1 4)) hS hi_195_1 rfl ?_
  refine l3 (ls' := [some (.ref 39), some (.int x1), some (.int x2), some (.int (s.1 4)), none]) hi_195_4 (Nat.le_of_ble_eq_true rfl) rfl ?_
  refine l2 (v := 39) hi_195_5 rfl ?_
  refine l0 hi_195_6 ?_
  refine l32 (as := [.ref 39, .int 60]) (la := [some (.ref 39), some (.int 60)]) (rest := []) hi_195_8 (am_hd0 (M := 195) (by decide) 8) rfl rfl rfl (fun N' d' _ => lt193 (N := N') (d := d') hS) ?_ (fun _ q => nomatch q.1)
  rintro v3 S1 ⟨ev3, h2⟩
  cases ev3
  show am_L _ _ _ _ _ [some (.ref 39), some (.int x1), some (.int x2), some (.int (s.1 4)), none] [.int ((k193 s 60).2)] _ _
  refine am_L.mono (lt195_11 h2) ?_
  rintro o S1 ⟨e, h⟩
  have q : k195 s x1 x2 = k195_11 ((k193 s 60).1) x1 x2 (s.1 4) ((k193 s 60).2) := rfl
  rw [q]; exact ⟨e, h⟩
def k201_49 (s : kS) : kS × Int32 := ((k186 s 0).1, 0)
theorem lt201_49 {sc : Nat × (Nat → Int32)} {N d : Nat} {S0 S : am_S} {s : kS} (hS : MK S0 S s) : am_L (am_PP sc) N d 201 49 [some (.ref 39)] [] S (fun o S1 => o = some none ∧ MK S0 S1 (k201_49 s).1) := by
  refine l2 (v := 39) hi_201_49 rfl ?_
  refine l0 hi_201_50 ?_
  refine l32 (as := [.ref 39, .int 0]) (la := [some (.ref 39), some (.int 0)]) (rest := []) hi_201_51 (am_hd0 (M := 201) (by decide) 51) rfl rfl rfl (fun N' d' _ => lt186 (N := N') (d := d') hS) ?_ (fun _ q => nomatch q.1)
  rintro v3 S1 ⟨ev3, h2⟩
  cases ev3
  show am_L _ _ _ _ _ [some (.ref 39)] [] _ _
  refine l35 hi_201_54 ⟨rfl, ?_⟩
  exact h2
def k201_37 (s : kS) (z0 : Int32) : kS × Int32 := if z0 = 0 then (s, 0) else k201_49 ((k179 s 29 0 0 0).1)
theorem lt201_37 {sc : Nat × (Nat → Int32)} {N d : Nat} {S0 S : am_S} {s : kS} {z0 : Int32} (hS : MK S0 S s) : am_L (am_PP sc) N d 201 37 [some (.ref 39)] [.int z0] S (fun o S1 => o = some none ∧ MK S0 S1 (k201_37 s z0).1) := by
  by_cases c1 : z0 = 0
  · refine l12t hi_201_37 (decide_eq_true c1) ?_
    refine l35 hi_201_54 ⟨rfl, ?_⟩
    unfold k201_37; rw [if_pos c1]; exact hS
  · refine l12f hi_201_37 (decide_eq_false c1) ?_
    refine l2 (v := 39) hi_201_40 rfl ?_
    refine l0 hi_201_41 ?_
    refine l0 hi_201_43 ?_
    refine l0 hi_201_44 ?_
    refine l0 hi_201_45 ?_
    refine l32 (as := [.ref 39, .int 29, .int 0, .int 0, .int 0]) (la := [some (.ref 39), some (.int 29), some (.int 0), some (.int 0), some (.int 0)]) (rest := []) hi_201_46 (am_hd0 (M := 201) (by decide) 46) rfl rfl rfl (fun N' d' _ => lt179 (N := N') (d := d') hS) ?_ (fun _ q => nomatch q.1)
    rintro v4 S2 ⟨ev4, h3⟩
    cases ev4
    show am_L _ _ _ _ _ [some (.ref 39)] [] _ _
    refine am_L.mono (lt201_49 h3) ?_
    rintro o S1 ⟨e, h⟩
    have q : k201_37 s z0 = k201_49 ((k179 s 29 0 0 0).1) := by unfold k201_37; rw [if_neg c1]
    rw [q]; exact ⟨e, h⟩
def k201_18 (s : kS) : kS × Int32 := (kf s 4 ((s.1 4) + 1), 0)
theorem lt201_18 {sc : Nat × (Nat → Int32)} {N d : Nat} {S0 S : am_S} {s : kS} (hS : MK S0 S s) : am_L (am_PP sc) N d 201 18 [some (.ref 39)] [] S (fun o S1 => o = some none ∧ MK S0 S1 (k201_18 s).1) := by
  refine l2 (v := 39) hi_201_18 rfl ?_
  refine l7 hi_201_19 ?_
  refine l20 (v := .int (s.1 4)) hS hi_201_20 rfl ?_
  refine l0 hi_201_23 ?_
  refine l10 hi_201_24 ?_
  show am_L _ _ _ _ _ [some (.ref 39)] [.int ((s.1 4) + 1), .ref 39] _ _
  refine l21 hS hi_201_25 ms_4 fun S1 h2 => ?_
  refine l18 hi_201_28 ?_
  refine l35 hi_201_54 ⟨rfl, ?_⟩
  exact h2
/-- primary()V -/
def k201 (s : kS) : kS × Int32 := if (k183 s) ≠ 1 then k201_37 ((k193 s 60).1) ((k193 s 60).2) else k201_18 ((k190 s 3 0 (s.1 4)).1)
theorem lt201 {sc : Nat × (Nat → Int32)} {N d : Nat} {S0 S : am_S} {s : kS} (hS : MK S0 S s) : am_L (am_PP sc) N d 201 0 [some (.ref 39)] [] S (fun o S1 => o = some none ∧ MK S0 S1 (k201 s).1) := by
  refine l2 (v := 39) hi_201_0 rfl ?_
  refine l32 (as := [.ref 39]) (la := [some (.ref 39)]) (rest := []) hi_201_1 (am_hd0 (M := 201) (by decide) 1) rfl rfl rfl (fun N' d' _ => lt183 (N := N') (d := d') hS) ?_ (fun _ q => nomatch q.1)
  rintro v3 S1 ⟨ev3, h2⟩
  cases ev3
  show am_L _ _ _ _ _ [some (.ref 39)] [.int (k183 s)] _ _
  refine l0 hi_201_4 ?_
  by_cases c4 : (k183 s) ≠ 1
  · refine l13t hi_201_5 (decide_eq_true c4) ?_
    refine l2 (v := 39) hi_201_31 rfl ?_
    refine l0 hi_201_32 ?_
    refine l32 (as := [.ref 39, .int 60]) (la := [some (.ref 39), some (.int 60)]) (rest := []) hi_201_34 (am_hd0 (M := 201) (by decide) 34) rfl rfl rfl (fun N' d' _ => lt193 (N := N') (d := d') h2) ?_ (fun _ q => nomatch q.1)
    rintro v7 S5 ⟨ev7, h6⟩
    cases ev7
    show am_L _ _ _ _ _ [some (.ref 39)] [.int ((k193 s 60).2)] _ _
    refine am_L.mono (lt201_37 h6) ?_
    rintro o S1 ⟨e, h⟩
    have q : k201 s = k201_37 ((k193 s 60).1) ((k193 s 60).2) := by unfold k201; rw [if_pos c4]
    rw [q]; exact ⟨e, h⟩
  · refine l13f hi_201_5 (decide_eq_false c4) ?_
    refine l2 (v := 39) hi_201_8 rfl ?_
    refine l0 hi_201_9 ?_
    refine l0 hi_201_10 ?_
    refine l2 (v := 39) hi_201_11 rfl ?_
    refine l20 (v := .int (s.1 4)) h2 hi_201_12 rfl ?_
    refine l32 (as := [.ref 39, .int 3, .int 0, .int (s.1 4)]) (la := [some (.ref 39), some (.int 3), some (.int 0), some (.int (s.1 4))]) (rest := []) hi_201_15 (am_hd0 (M := 201) (by decide) 15) rfl rfl rfl (fun N' d' _ => lt190 (N := N') (d := d') h2) ?_ (fun _ q => nomatch q.1)
    rintro v10 S8 ⟨ev10, h9⟩
    cases ev10
    show am_L _ _ _ _ _ [some (.ref 39)] [] _ _
    refine am_L.mono (lt201_18 h9) ?_
    rintro o S1 ⟨e, h⟩
    have q : k201 s = k201_18 ((k190 s 3 0 (s.1 4)).1) := by unfold k201; rw [if_neg c4]
    rw [q]; exact ⟨e, h⟩
noncomputable def k187_224 (s : kS) (y2 : Int32) : kS × Int32 := ((k195 s 0 y2).1, 0)
theorem lt187_224 {sc : Nat × (Nat → Int32)} {N d : Nat} {S0 S : am_S} {s : kS} {y2 : Int32} {o1 : Option Value} (hS : MK S0 S s) : am_L (am_PP sc) N d 187 224 [some (.ref 39), o1, some (.int y2)] [] S (fun o S1 => o = some none ∧ MK S0 S1 (k187_224 s y2).1) := by
  refine l2 (v := 39) hi_187_224 rfl ?_
  refine l0 hi_187_225 ?_
  refine l1 (v := y2) hi_187_226 rfl ?_
  refine l32 (as := [.ref 39, .int 0, .int y2]) (la := [some (.ref 39), some (.int 0), some (.int y2), none, none]) (rest := []) hi_187_227 (am_hd0 (M := 187) (by decide) 227) rfl rfl rfl (fun N' d' _ => lt195 (N := N') (d := d') hS) ?_ (fun _ q => nomatch q.1)
  rintro v3 S1 ⟨ev3, h2⟩
  cases ev3
  show am_L _ _ _ _ _ [some (.ref 39), o1, some (.int y2)] [] _ _
  refine l18 hi_187_230 ?_
  refine l35 hi_187_246 ⟨rfl, ?_⟩
  exact h2
noncomputable def k187_209 (s : kS) (y2 : Int32) (z0 : Int32) : kS × Int32 := if z0 ≠ 0 then k187_224 ((k179 s 41 y2 0 0).1) y2 else (s, 0)
theorem lt187_209 {sc : Nat × (Nat → Int32)} {N d : Nat} {S0 S : am_S} {s : kS} {y2 : Int32} {z0 : Int32} {o1 : Option Value} (hS : MK S0 S s) : am_L (am_PP sc) N d 187 209 [some (.ref 39), o1, some (.int y2)] [.int z0] S (fun o S1 => o = some none ∧ MK S0 S1 (k187_209 s y2 z0).1) := by
  by_cases c1 : z0 ≠ 0
  · refine l12t hi_187_209 (decide_eq_true c1) ?_
    refine l2 (v := 39) hi_187_215 rfl ?_
    refine l0 hi_187_216 ?_
    refine l1 (v := y2) hi_187_218 rfl ?_
    refine l0 hi_187_219 ?_
    refine l0 hi_187_220 ?_
    refine l32 (as := [.ref 39, .int 41, .int y2, .int 0, .int 0]) (la := [some (.ref 39), some (.int 41), some (.int y2), some (.int 0), some (.int 0)]) (rest := []) hi_187_221 (am_hd0 (M := 187) (by decide) 221) rfl rfl rfl (fun N' d' _ => lt179 (N := N') (d := d') hS) ?_ (fun _ q => nomatch q.1)
    rintro v4 S2 ⟨ev4, h3⟩
    cases ev4
    show am_L _ _ _ _ _ [some (.ref 39), o1, some (.int y2)] [] _ _
    refine am_L.mono (lt187_224 h3) ?_
    rintro o S1 ⟨e, h⟩
    have q : k187_209 s y2 z0 = k187_224 ((k179 s 41 y2 0 0).1) y2 := by unfold k187_209; rw [if_pos c1]
    rw [q]; exact ⟨e, h⟩
  · refine l12f hi_187_209 (decide_eq_false c1) ?_
    refine l18 hi_187_212 ?_
    refine l35 hi_187_246 ⟨rfl, ?_⟩
    unfold k187_209; rw [if_neg c1]; exact hS
noncomputable def k187_183 (s : kS) : kS × Int32 := (kf s 4 ((s.1 4) + 1), 0)
theorem lt187_183 {sc : Nat × (Nat → Int32)} {N d : Nat} {S0 S : am_S} {s : kS} {o1 : Option Value} {o2 : Option Value} (hS : MK S0 S s) : am_L (am_PP sc) N d 187 183 [some (.ref 39), o1, o2] [] S (fun o S1 => o = some none ∧ MK S0 S1 (k187_183 s).1) := by
  refine l2 (v := 39) hi_187_183 rfl ?_
  refine l7 hi_187_184 ?_
  refine l20 (v := .int (s.1 4)) hS hi_187_185 rfl ?_
  refine l0 hi_187_188 ?_
  refine l10 hi_187_189 ?_
  show am_L _ _ _ _ _ [some (.ref 39), o1, o2] [.int ((s.1 4) + 1), .ref 39] _ _
  refine l21 hS hi_187_190 ms_4 fun S1 h2 => ?_
  refine l18 hi_187_193 ?_
  refine l35 hi_187_246 ⟨rfl, ?_⟩
  exact h2
noncomputable def k187_179 (s : kS) (z0 : Int32) (z1 : Int32) : kS × Int32 := k187_183 ((k190 s z1 z0 0).1)
theorem lt187_179 {sc : Nat × (Nat → Int32)} {N d : Nat} {S0 S : am_S} {s : kS} {z0 : Int32} {z1 : Int32} {o1 : Option Value} {o2 : Option Value} (hS : MK S0 S s) : am_L (am_PP sc) N d 187 179 [some (.ref 39), o1, o2] [.int z0, .int z1, .ref 39] S (fun o S1 => o = some none ∧ MK S0 S1 (k187_179 s z0 z1).1) := by
  refine l0 hi_187_179 ?_
  refine l32 (as := [.ref 39, .int z1, .int z0, .int 0]) (la := [some (.ref 39), some (.int z1), some (.int z0), some (.int 0)]) (rest := []) hi_187_180 (am_hd0 (M := 187) (by decide) 180) rfl rfl rfl (fun N' d' _ => lt190 (N := N') (d := d') hS) ?_ (fun _ q => nomatch q.1)
  rintro v3 S1 ⟨ev3, h2⟩
  cases ev3
  show am_L _ _ _ _ _ [some (.ref 39), o1, o2] [] _ _
  refine am_L.mono (lt187_183 h2) ?_
  rintro o S1 ⟨e, h⟩
  have q : k187_179 s z0 z1 = k187_183 ((k190 s z1 z0 0).1) := rfl
  rw [q]; exact ⟨e, h⟩
noncomputable def k187_168 (s : kS) : kS × Int32 := k187_179 ((k189 s 6 0 1 0).1) ((k189 s 6 0 1 0).2) 2
theorem lt187_168 {sc : Nat × (Nat → Int32)} {N d : Nat} {S0 S : am_S} {s : kS} {o1 : Option Value} {o2 : Option Value} (hS : MK S0 S s) : am_L (am_PP sc) N d 187 168 [some (.ref 39), o1, o2] [] S (fun o S1 => o = some none ∧ MK S0 S1 (k187_168 s).1) := by
  refine l2 (v := 39) hi_187_168 rfl ?_
  refine l0 hi_187_169 ?_
  refine l2 (v := 39) hi_187_170 rfl ?_
  refine l0 hi_187_171 ?_
  refine l0 hi_187_173 ?_
  refine l0 hi_187_174 ?_
  refine l0 hi_187_175 ?_
  refine l32 (as := [.ref 39, .int 6, .int 0, .int 1, .int 0]) (la := [some (.ref 39), some (.int 6), some (.int 0), some (.int 1), some (.int 0)]) (rest := [.int 2, .ref 39]) hi_187_176 (am_hd0 (M := 187) (by decide) 176) rfl rfl rfl (fun N' d' _ => lt189 (N := N') (d := d') hS) ?_ (fun _ q => nomatch q.1)
  rintro v3 S1 ⟨ev3, h2⟩
  cases ev3
  show am_L _ _ _ _ _ [some (.ref 39), o1, o2] [.int ((k189 s 6 0 1 0).2), .int 2, .ref 39] _ _
  refine am_L.mono (lt187_179 h2) ?_
  rintro o S1 ⟨e, h⟩
  have q : k187_168 s = k187_179 ((k189 s 6 0 1 0).1) ((k189 s 6 0 1 0).2) 2 := rfl
  rw [q]; exact ⟨e, h⟩
/-- simple(I)V -/
noncomputable def k187 (s : kS) (x1 : Int32) : kS × Int32 := if x1 = 2 then ((k188 s 4 (kr s 2 (s.1 4))).1, 0) else if x1 = 3 then ((k188 s 5 (kr s 2 (s.1 4))).1, 0) else if x1 = 16 then ((k188 s 2 0).1, 0) else if x1 = 18 then (k187_209 ((k193 s 18).1) (s.1 4) ((k193 s 18).2)) else if x1 = 23 then ((k188 s 1 0).1, 0) else if x1 = 29 then ((k188 s 3 0).1, 0) else if x1 = 62 then ((k192 s).1, 0) else if x1 = 72 then (if (kr s 56 (kr s 33 (s.1 32))) ≠ 0 then k187_168 s else k187_168 ((k191 s 15 (s.1 4)).1)) else ((k201 ((k179 s 28 0 0 0).1)).1, 0)
theorem lt187 {sc : Nat × (Nat → Int32)} {N d : Nat} {S0 S : am_S} {s : kS} {x1 : Int32} (hS : MK S0 S s) : am_L (am_PP sc) N d 187 0 [some (.ref 39), some (.int x1), none] [] S (fun o S1 => o = some none ∧ MK S0 S1 (k187 s x1).1) := by
  refine l2 (v := 39) hi_187_0 rfl ?_
  refine l20 (v := .int (s.1 4)) hS hi_187_1 rfl ?_
  refine l3 (ls' := [some (.ref 39), some (.int x1), some (.int (s.1 4))]) hi_187_4 (Nat.le_of_ble_eq_true rfl) rfl ?_
  refine l1 (v := x1) hi_187_5 rfl ?_
  by_cases c1 : x1 = 2
  · refine l19 (t := 107) hi_187_6 (by rw [c1]; decide) ?_
    refine l2 (v := 39) hi_187_107 rfl ?_
    refine l0 hi_187_108 ?_
    refine l2 (v := 39) hi_187_109 rfl ?_
    refine l20 (v := .ref 41) hS hi_187_110 rfl ?_
    refine l2 (v := 39) hi_187_113 rfl ?_
    refine l20 (v := .int (s.1 4)) hS hi_187_114 rfl ?_
    refine l25 hS ma_2 hi_187_117 fun g2 g3 => ?_
    show am_L _ _ _ _ _ [some (.ref 39), some (.int x1), some (.int (s.1 4))] [.int (kr s 2 (s.1 4)), .int 4, .ref 39] _ _
    refine l32 (as := [.ref 39, .int 4, .int (kr s 2 (s.1 4))]) (la := [some (.ref 39), some (.int 4), some (.int (kr s 2 (s.1 4)))]) (rest := []) hi_187_118 (am_hd0 (M := 187) (by decide) 118) rfl rfl rfl (fun N' d' _ => lt188 (N := N') (d := d') hS) ?_ (fun _ q => nomatch q.1)
    rintro v6 S4 ⟨ev6, h5⟩
    cases ev6
    show am_L _ _ _ _ _ [some (.ref 39), some (.int x1), some (.int (s.1 4))] [] _ _
    refine l18 hi_187_121 ?_
    refine l35 hi_187_246 ⟨rfl, ?_⟩
    unfold k187; rw [if_pos c1]; exact h5
  by_cases c7 : x1 = 3
  · refine l19 (t := 124) hi_187_6 (by rw [c7]; decide) ?_
    refine l2 (v := 39) hi_187_124 rfl ?_
    refine l0 hi_187_125 ?_
    refine l2 (v := 39) hi_187_126 rfl ?_
    refine l20 (v := .ref 41) hS hi_187_127 rfl ?_
    refine l2 (v := 39) hi_187_130 rfl ?_
    refine l20 (v := .int (s.1 4)) hS hi_187_131 rfl ?_
    refine l25 hS ma_2 hi_187_134 fun g8 g9 => ?_
    show am_L _ _ _ _ _ [some (.ref 39), some (.int x1), some (.int (s.1 4))] [.int (kr s 2 (s.1 4)), .int 5, .ref 39] _ _
    refine l32 (as := [.ref 39, .int 5, .int (kr s 2 (s.1 4))]) (la := [some (.ref 39), some (.int 5), some (.int (kr s 2 (s.1 4)))]) (rest := []) hi_187_135 (am_hd0 (M := 187) (by decide) 135) rfl rfl rfl (fun N' d' _ => lt188 (N := N') (d := d') hS) ?_ (fun _ q => nomatch q.1)
    rintro v12 S10 ⟨ev12, h11⟩
    cases ev12
    show am_L _ _ _ _ _ [some (.ref 39), some (.int x1), some (.int (s.1 4))] [] _ _
    refine l18 hi_187_138 ?_
    refine l35 hi_187_246 ⟨rfl, ?_⟩
    unfold k187; rw [if_neg c1]; rw [if_pos c7]; exact h11
  by_cases c13 : x1 = 16
  · refine l19 (t := 89) hi_187_6 (by rw [c13]; decide) ?_
    refine l2 (v := 39) hi_187_89 rfl ?_
    refine l0 hi_187_90 ?_
    refine l0 hi_187_91 ?_
    refine l32 (as := [.ref 39, .int 2, .int 0]) (la := [some (.ref 39), some (.int 2), some (.int 0)]) (rest := []) hi_187_92 (am_hd0 (M := 187) (by decide) 92) rfl rfl rfl (fun N' d' _ => lt188 (N := N') (d := d') hS) ?_ (fun _ q => nomatch q.1)
    rintro v16 S14 ⟨ev16, h15⟩
    cases ev16
    show am_L _ _ _ _ _ [some (.ref 39), some (.int x1), some (.int (s.1 4))] [] _ _
    refine l18 hi_187_95 ?_
    refine l35 hi_187_246 ⟨rfl, ?_⟩
    unfold k187; rw [if_neg c1]; rw [if_neg c7]; rw [if_pos c13]; exact h15
  by_cases c17 : x1 = 18
  · refine l19 (t := 203) hi_187_6 (by rw [c17]; decide) ?_
    refine l2 (v := 39) hi_187_203 rfl ?_
    refine l0 hi_187_204 ?_
    refine l32 (as := [.ref 39, .int 18]) (la := [some (.ref 39), some (.int 18)]) (rest := []) hi_187_206 (am_hd0 (M := 187) (by decide) 206) rfl rfl rfl (fun N' d' _ => lt193 (N := N') (d := d') hS) ?_ (fun _ q => nomatch q.1)
    rintro v20 S18 ⟨ev20, h19⟩
    cases ev20
    show am_L _ _ _ _ _ [some (.ref 39), some (.int x1), some (.int (s.1 4))] [.int ((k193 s 18).2)] _ _
    refine am_L.mono (lt187_209 h19) ?_
    rintro o S1 ⟨e, h⟩
    have q : k187 s x1 = k187_209 ((k193 s 18).1) (s.1 4) ((k193 s 18).2) := by unfold k187; rw [if_neg c1]; rw [if_neg c7]; rw [if_neg c13]; rw [if_pos c17]
    rw [q]; exact ⟨e, h⟩
  by_cases c21 : x1 = 23
  · refine l19 (t := 80) hi_187_6 (by rw [c21]; decide) ?_
    refine l2 (v := 39) hi_187_80 rfl ?_
    refine l0 hi_187_81 ?_
    refine l0 hi_187_82 ?_
    refine l32 (as := [.ref 39, .int 1, .int 0]) (la := [some (.ref 39), some (.int 1), some (.int 0)]) (rest := []) hi_187_83 (am_hd0 (M := 187) (by decide) 83) rfl rfl rfl (fun N' d' _ => lt188 (N := N') (d := d') hS) ?_ (fun _ q => nomatch q.1)
    rintro v24 S22 ⟨ev24, h23⟩
    cases ev24
    show am_L _ _ _ _ _ [some (.ref 39), some (.int x1), some (.int (s.1 4))] [] _ _
    refine l18 hi_187_86 ?_
    refine l35 hi_187_246 ⟨rfl, ?_⟩
    unfold k187; rw [if_neg c1]; rw [if_neg c7]; rw [if_neg c13]; rw [if_neg c17]; rw [if_pos c21]; exact h23
  by_cases c25 : x1 = 29
  · refine l19 (t := 98) hi_187_6 (by rw [c25]; decide) ?_
    refine l2 (v := 39) hi_187_98 rfl ?_
    refine l0 hi_187_99 ?_
    refine l0 hi_187_100 ?_
    refine l32 (as := [.ref 39, .int 3, .int 0]) (la := [some (.ref 39), some (.int 3), some (.int 0)]) (rest := []) hi_187_101 (am_hd0 (M := 187) (by decide) 101) rfl rfl rfl (fun N' d' _ => lt188 (N := N') (d := d') hS) ?_ (fun _ q => nomatch q.1)
    rintro v28 S26 ⟨ev28, h27⟩
    cases ev28
    show am_L _ _ _ _ _ [some (.ref 39), some (.int x1), some (.int (s.1 4))] [] _ _
    refine l18 hi_187_104 ?_
    refine l35 hi_187_246 ⟨rfl, ?_⟩
    unfold k187; rw [if_neg c1]; rw [if_neg c7]; rw [if_neg c13]; rw [if_neg c17]; rw [if_neg c21]; rw [if_pos c25]; exact h27
  by_cases c29 : x1 = 62
  · refine l19 (t := 196) hi_187_6 (by rw [c29]; decide) ?_
    refine l2 (v := 39) hi_187_196 rfl ?_
    refine l32 (as := [.ref 39]) (la := [some (.ref 39), none]) (rest := []) hi_187_197 (am_hd0 (M := 187) (by decide) 197) rfl rfl rfl (fun N' d' _ => lt192 (N := N') (d := d') hS) ?_ (fun _ q => nomatch q.1)
    rintro v32 S30 ⟨ev32, h31⟩
    cases ev32
    show am_L _ _ _ _ _ [some (.ref 39), some (.int x1), some (.int (s.1 4))] [] _ _
    refine l18 hi_187_200 ?_
    refine l35 hi_187_246 ⟨rfl, ?_⟩
    unfold k187; rw [if_neg c1]; rw [if_neg c7]; rw [if_neg c13]; rw [if_neg c17]; rw [if_neg c21]; rw [if_neg c25]; rw [if_pos c29]; exact h31
  by_cases c33 : x1 = 72
  · refine l19 (t := 141) hi_187_6 (by rw [c33]; decide) ?_
    refine l2 (v := 39) hi_187_141 rfl ?_
    refine l20 (v := .ref 77) hS hi_187_142 rfl ?_
    refine l2 (v := 39) hi_187_145 rfl ?_
    refine l20 (v := .ref 58) hS hi_187_146 rfl ?_
    refine l2 (v := 39) hi_187_149 rfl ?_
    refine l20 (v := .int (s.1 32)) hS hi_187_150 rfl ?_
    refine l25 hS ma_33 hi_187_153 fun g34 g35 => ?_
    show am_L _ _ _ _ _ [some (.ref 39), some (.int x1), some (.int (s.1 4))] [.int (kr s 33 (s.1 32)), .ref 77] _ _
    refine l25 hS ma_56 hi_187_154 fun g36 g37 => ?_
    show am_L _ _ _ _ _ [some (.ref 39), some (.int x1), some (.int (s.1 4))] [.int (kr s 56 (kr s 33 (s.1 32)))] _ _
    by_cases c38 : (kr s 56 (kr s 33 (s.1 32))) ≠ 0
    · refine l12t hi_187_155 (decide_eq_true c38) ?_
      refine am_L.mono (lt187_168 hS) ?_
      rintro o S1 ⟨e, h⟩
      have q : k187 s x1 = k187_168 s := by unfold k187; rw [if_neg c1]; rw [if_neg c7]; rw [if_neg c13]; rw [if_neg c17]; rw [if_neg c21]; rw [if_neg c25]; rw [if_neg c29]; rw [if_pos c33]; rw [if_pos c38]
      rw [q]; exact ⟨e, h⟩
    · refine l12f hi_187_155 (decide_eq_false c38) ?_
      refine l2 (v := 39) hi_187_158 rfl ?_
      refine l0 hi_187_159 ?_
      refine l2 (v := 39) hi_187_161 rfl ?_
      refine l20 (v := .int (s.1 4)) hS hi_187_162 rfl ?_
      refine l32 (as := [.ref 39, .int 15, .int (s.1 4)]) (la := [some (.ref 39), some (.int 15), some (.int (s.1 4))]) (rest := []) hi_187_165 (am_hd0 (M := 187) (by decide) 165) rfl rfl rfl (fun N' d' _ => lt191 (N := N') (d := d') hS) ?_ (fun _ q => nomatch q.1)
      rintro v41 S39 ⟨ev41, h40⟩
      cases ev41
      show am_L _ _ _ _ _ [some (.ref 39), some (.int x1), some (.int (s.1 4))] [] _ _
      refine am_L.mono (lt187_168 h40) ?_
      rintro o S1 ⟨e, h⟩
      have q : k187 s x1 = k187_168 ((k191 s 15 (s.1 4)).1) := by unfold k187; rw [if_neg c1]; rw [if_neg c7]; rw [if_neg c13]; rw [if_neg c17]; rw [if_neg c21]; rw [if_neg c25]; rw [if_neg c29]; rw [if_pos c33]; rw [if_neg c38]
      rw [q]; exact ⟨e, h⟩
  refine l19 (t := 233) hi_187_6 (sw_not (ks := [2, 3, 16, 18, 23, 29, 62, 72]) (by decide) (by intro k hk; simp only [List.mem_cons, List.not_mem_nil, or_false] at hk; rcases hk with rfl | rfl | rfl | rfl | rfl | rfl | rfl | rfl <;> first | exact c1 | exact c7 | exact c13 | exact c17 | exact c21 | exact c25 | exact c29 | exact c33)) ?_
  refine l2 (v := 39) hi_187_233 rfl ?_
  refine l0 hi_187_234 ?_
  refine l0 hi_187_236 ?_
  refine l0 hi_187_237 ?_
  refine l0 hi_187_238 ?_
  refine l32 (as := [.ref 39, .int 28, .int 0, .int 0, .int 0]) (la := [some (.ref 39), some (.int 28), some (.int 0), some (.int 0), some (.int 0)]) (rest := []) hi_187_239 (am_hd0 (M := 187) (by decide) 239) rfl rfl rfl (fun N' d' _ => lt179 (N := N') (d := d') hS) ?_ (fun _ q => nomatch q.1)
  rintro v44 S42 ⟨ev44, h43⟩
  cases ev44
  show am_L _ _ _ _ _ [some (.ref 39), some (.int x1), some (.int (s.1 4))] [] _ _
  refine l2 (v := 39) hi_187_242 rfl ?_
  refine l32 (as := [.ref 39]) (la := [some (.ref 39)]) (rest := []) hi_187_243 (am_hd0 (M := 187) (by decide) 243) rfl rfl rfl (fun N' d' _ => lt201 (N := N') (d := d') h43) ?_ (fun _ q => nomatch q.1)
  rintro v47 S45 ⟨ev47, h46⟩
  cases ev47
  show am_L _ _ _ _ _ [some (.ref 39), some (.int x1), some (.int (s.1 4))] [] _ _
  refine l35 hi_187_246 ⟨rfl, ?_⟩
  unfold k187; rw [if_neg c1]; rw [if_neg c7]; rw [if_neg c13]; rw [if_neg c17]; rw [if_neg c21]; rw [if_neg c25]; rw [if_neg c29]; rw [if_neg c33]; exact h46
noncomputable def k182_33 (s : kS) : kS × Int32 := ((k186 (kf s 4 ((s.1 4) + 1)) 12).1, 0)
theorem lt182_33 {sc : Nat × (Nat → Int32)} {N d : Nat} {S0 S : am_S} {s : kS} {o1 : Option Value} {o2 : Option Value} (hS : MK S0 S s) : am_L (am_PP sc) N d 182 33 [some (.ref 39), o1, o2] [] S (fun o S1 => o = some none ∧ MK S0 S1 (k182_33 s).1) := by
  refine l2 (v := 39) hi_182_33 rfl ?_
  refine l7 hi_182_34 ?_
  refine l20 (v := .int (s.1 4)) hS hi_182_35 rfl ?_
  refine l0 hi_182_38 ?_
  refine l10 hi_182_39 ?_
  show am_L _ _ _ _ _ [some (.ref 39), o1, o2] [.int ((s.1 4) + 1), .ref 39] _ _
  refine l21 hS hi_182_40 ms_4 fun S1 h2 => ?_
  refine l2 (v := 39) hi_182_43 rfl ?_
  refine l0 hi_182_44 ?_
  refine l32 (as := [.ref 39, .int 12]) (la := [some (.ref 39), some (.int 12)]) (rest := []) hi_182_46 (am_hd0 (M := 182) (by decide) 46) rfl rfl rfl (fun N' d' _ => lt186 (N := N') (d := d') h2) ?_ (fun _ q => nomatch q.1)
  rintro v5 S3 ⟨ev5, h4⟩
  cases ev5
  show am_L _ _ _ _ _ [some (.ref 39), o1, o2] [] _ _
  refine l18 hi_182_49 ?_
  refine l35 hi_182_57 ⟨rfl, ?_⟩
  exact h4
noncomputable def k182_14 (s : kS) (y2 : Int32) : kS × Int32 := if (k185 s y2) = 0 then ((k187 s y2).1, 0) else k182_33 ((k179 s 27 y2 (s.1 4) 0).1)
theorem lt182_14 {sc : Nat × (Nat → Int32)} {N d : Nat} {S0 S : am_S} {s : kS} {y2 : Int32} {o1 : Option Value} (hS : MK S0 S s) : am_L (am_PP sc) N d 182 14 [some (.ref 39), o1, some (.int y2)] [] S (fun o S1 => o = some none ∧ MK S0 S1 (k182_14 s y2).1) := by
  refine l1 (v := y2) hi_182_14 rfl ?_
  refine l32 (as := [.int y2]) (la := [some (.int y2)]) (rest := []) hi_182_15 (am_hd0 (M := 182) (by decide) 15) rfl rfl rfl (fun N' d' _ => lt185 (N := N') (d := d') hS) ?_ (fun _ q => nomatch q.1)
  rintro v3 S1 ⟨ev3, h2⟩
  cases ev3
  show am_L _ _ _ _ _ [some (.ref 39), o1, some (.int y2)] [.int (k185 s y2)] _ _
  by_cases c4 : (k185 s y2) = 0
  · refine l12t hi_182_18 (decide_eq_true c4) ?_
    refine l2 (v := 39) hi_182_52 rfl ?_
    refine l1 (v := y2) hi_182_53 rfl ?_
    refine l32 (as := [.ref 39, .int y2]) (la := [some (.ref 39), some (.int y2), none]) (rest := []) hi_182_54 (am_hd0 (M := 182) (by decide) 54) rfl rfl rfl (fun N' d' _ => lt187 (N := N') (d := d') h2) ?_ (fun _ q => nomatch q.1)
    rintro v7 S5 ⟨ev7, h6⟩
    cases ev7
    show am_L _ _ _ _ _ [some (.ref 39), o1, some (.int y2)] [] _ _
    refine l35 hi_182_57 ⟨rfl, ?_⟩
    unfold k182_14; rw [if_pos c4]; exact h6
  · refine l12f hi_182_18 (decide_eq_false c4) ?_
    refine l2 (v := 39) hi_182_21 rfl ?_
    refine l0 hi_182_22 ?_
    refine l1 (v := y2) hi_182_24 rfl ?_
    refine l2 (v := 39) hi_182_25 rfl ?_
    refine l20 (v := .int (s.1 4)) h2 hi_182_26 rfl ?_
    refine l0 hi_182_29 ?_
    refine l32 (as := [.ref 39, .int 27, .int y2, .int (s.1 4), .int 0]) (la := [some (.ref 39), some (.int 27), some (.int y2), some (.int (s.1 4)), some (.int 0)]) (rest := []) hi_182_30 (am_hd0 (M := 182) (by decide) 30) rfl rfl rfl (fun N' d' _ => lt179 (N := N') (d := d') h2) ?_ (fun _ q => nomatch q.1)
    rintro v10 S8 ⟨ev10, h9⟩
    cases ev10
    show am_L _ _ _ _ _ [some (.ref 39), o1, some (.int y2)] [] _ _
    refine am_L.mono (lt182_33 h9) ?_
    rintro o S1 ⟨e, h⟩
    have q : k182_14 s y2 = k182_33 ((k179 s 27 y2 (s.1 4) 0).1) := by unfold k182_14; rw [if_neg c4]
    rw [q]; exact ⟨e, h⟩
/-- expression(I)V -/
noncomputable def k182 (s : kS) (x1 : Int32) : kS × Int32 := k182_14 ((k179 s 24 x1 0 0).1) (k183 s)
theorem lt182 {sc : Nat × (Nat → Int32)} {N d : Nat} {S0 S : am_S} {s : kS} {x1 : Int32} (hS : MK S0 S s) : am_L (am_PP sc) N d 182 0 [some (.ref 39), some (.int x1), none] [] S (fun o S1 => o = some none ∧ MK S0 S1 (k182 s x1).1) := by
  refine l2 (v := 39) hi_182_0 rfl ?_
  refine l32 (as := [.ref 39]) (la := [some (.ref 39)]) (rest := []) hi_182_1 (am_hd0 (M := 182) (by decide) 1) rfl rfl rfl (fun N' d' _ => lt183 (N := N') (d := d') hS) ?_ (fun _ q => nomatch q.1)
  rintro v3 S1 ⟨ev3, h2⟩
  cases ev3
  show am_L _ _ _ _ _ [some (.ref 39), some (.int x1), none] [.int (k183 s)] _ _
  refine l3 (ls' := [some (.ref 39), some (.int x1), some (.int (k183 s))]) hi_182_4 (Nat.le_of_ble_eq_true rfl) rfl ?_
  refine l2 (v := 39) hi_182_5 rfl ?_
  refine l0 hi_182_6 ?_
  refine l1 (v := x1) hi_182_8 rfl ?_
  refine l0 hi_182_9 ?_
  refine l0 hi_182_10 ?_
  refine l32 (as := [.ref 39, .int 24, .int x1, .int 0, .int 0]) (la := [some (.ref 39), some (.int 24), some (.int x1), some (.int 0), some (.int 0)]) (rest := []) hi_182_11 (am_hd0 (M := 182) (by decide) 11) rfl rfl rfl (fun N' d' _ => lt179 (N := N') (d := d') h2) ?_ (fun _ q => nomatch q.1)
  rintro v6 S4 ⟨ev6, h5⟩
  cases ev6
  show am_L _ _ _ _ _ [some (.ref 39), some (.int x1), some (.int (k183 s))] [] _ _
  refine am_L.mono (lt182_14 h5) ?_
  rintro o S1 ⟨e, h⟩
  have q : k182 s x1 = k182_14 ((k179 s 24 x1 0 0).1) (k183 s) := rfl
  rw [q]; exact ⟨e, h⟩
/-- left(I)I -/
def k203 (s : kS) (x1 : Int32) : Int32 := if x1 = 10 then 2 else if x1 = 25 then 1 else if x1 = 40 then 10 else if x1 = 41 then 10 else if x1 = 42 then 11 else if x1 = 43 then 11 else if x1 = 44 then 11 else if x1 = 45 then 14 else if x1 = 47 then 6 else if x1 = 48 then 5 else if x1 = 49 then 4 else if x1 = 50 then 7 else if x1 = 51 then 7 else if x1 = 52 then 11 else if x1 = 53 then 3 else if x1 = 54 then 3 else if x1 = 55 then 3 else if x1 = 56 then 3 else if x1 = 57 then 3 else if x1 = 58 then 3 else if x1 = 71 then 9 else 0
theorem lt203 {sc : Nat × (Nat → Int32)} {N d : Nat} {S0 S : am_S} {s : kS} {x1 : Int32} (hS : MK S0 S s) : am_L (am_PP sc) N d 203 0 [some (.int x1)] [] S (fun o S1 => o = some (some (.int (k203 s x1))) ∧ MK S0 S1 s) := by
  refine l1 (v := x1) hi_203_0 rfl ?_
  by_cases c1 : x1 = 10
  · refine l19 (t := 266) hi_203_1 (by rw [c1]; decide) ?_
    refine l0 hi_203_266 ?_
    refine l33 hi_203_267 ⟨?_, ?_⟩
    · unfold k203; rw [if_pos c1]
    · exact hS
  by_cases c2 : x1 = 25
  · refine l19 (t := 264) hi_203_1 (by rw [c2]; decide) ?_
    refine l0 hi_203_264 ?_
    refine l33 hi_203_265 ⟨?_, ?_⟩
    · unfold k203; rw [if_neg c1]; rw [if_pos c2]
    · exact hS
  by_cases c3 : x1 = 40
  · refine l19 (t := 283) hi_203_1 (by rw [c3]; decide) ?_
    refine l0 hi_203_283 ?_
    refine l33 hi_203_285 ⟨?_, ?_⟩
    · unfold k203; rw [if_neg c1]; rw [if_neg c2]; rw [if_pos c3]
    · exact hS
  by_cases c4 : x1 = 41
  · refine l19 (t := 283) hi_203_1 (by rw [c4]; decide) ?_
    refine l0 hi_203_283 ?_
    refine l33 hi_203_285 ⟨?_, ?_⟩
    · unfold k203; rw [if_neg c1]; rw [if_neg c2]; rw [if_neg c3]; rw [if_pos c4]
    · exact hS
  by_cases c5 : x1 = 42
  · refine l19 (t := 286) hi_203_1 (by rw [c5]; decide) ?_
    refine l0 hi_203_286 ?_
    refine l33 hi_203_288 ⟨?_, ?_⟩
    · unfold k203; rw [if_neg c1]; rw [if_neg c2]; rw [if_neg c3]; rw [if_neg c4]; rw [if_pos c5]
    · exact hS
  by_cases c6 : x1 = 43
  · refine l19 (t := 286) hi_203_1 (by rw [c6]; decide) ?_
    refine l0 hi_203_286 ?_
    refine l33 hi_203_288 ⟨?_, ?_⟩
    · unfold k203; rw [if_neg c1]; rw [if_neg c2]; rw [if_neg c3]; rw [if_neg c4]; rw [if_neg c5]; rw [if_pos c6]
    · exact hS
  by_cases c7 : x1 = 44
  · refine l19 (t := 286) hi_203_1 (by rw [c7]; decide) ?_
    refine l0 hi_203_286 ?_
    refine l33 hi_203_288 ⟨?_, ?_⟩
    · unfold k203; rw [if_neg c1]; rw [if_neg c2]; rw [if_neg c3]; rw [if_neg c4]; rw [if_neg c5]; rw [if_neg c6]; rw [if_pos c7]
    · exact hS
  by_cases c8 : x1 = 45
  · refine l19 (t := 289) hi_203_1 (by rw [c8]; decide) ?_
    refine l0 hi_203_289 ?_
    refine l33 hi_203_291 ⟨?_, ?_⟩
    · unfold k203; rw [if_neg c1]; rw [if_neg c2]; rw [if_neg c3]; rw [if_neg c4]; rw [if_neg c5]; rw [if_neg c6]; rw [if_neg c7]; rw [if_pos c8]
    · exact hS
  by_cases c9 : x1 = 47
  · refine l19 (t := 274) hi_203_1 (by rw [c9]; decide) ?_
    refine l0 hi_203_274 ?_
    refine l33 hi_203_276 ⟨?_, ?_⟩
    · unfold k203; rw [if_neg c1]; rw [if_neg c2]; rw [if_neg c3]; rw [if_neg c4]; rw [if_neg c5]; rw [if_neg c6]; rw [if_neg c7]; rw [if_neg c8]; rw [if_pos c9]
    · exact hS
  by_cases c10 : x1 = 48
  · refine l19 (t := 272) hi_203_1 (by rw [c10]; decide) ?_
    refine l0 hi_203_272 ?_
    refine l33 hi_203_273 ⟨?_, ?_⟩
    · unfold k203; rw [if_neg c1]; rw [if_neg c2]; rw [if_neg c3]; rw [if_neg c4]; rw [if_neg c5]; rw [if_neg c6]; rw [if_neg c7]; rw [if_neg c8]; rw [if_neg c9]; rw [if_pos c10]
    · exact hS
  by_cases c11 : x1 = 49
  · refine l19 (t := 270) hi_203_1 (by rw [c11]; decide) ?_
    refine l0 hi_203_270 ?_
    refine l33 hi_203_271 ⟨?_, ?_⟩
    · unfold k203; rw [if_neg c1]; rw [if_neg c2]; rw [if_neg c3]; rw [if_neg c4]; rw [if_neg c5]; rw [if_neg c6]; rw [if_neg c7]; rw [if_neg c8]; rw [if_neg c9]; rw [if_neg c10]; rw [if_pos c11]
    · exact hS
  by_cases c12 : x1 = 50
  · refine l19 (t := 277) hi_203_1 (by rw [c12]; decide) ?_
    refine l0 hi_203_277 ?_
    refine l33 hi_203_279 ⟨?_, ?_⟩
    · unfold k203; rw [if_neg c1]; rw [if_neg c2]; rw [if_neg c3]; rw [if_neg c4]; rw [if_neg c5]; rw [if_neg c6]; rw [if_neg c7]; rw [if_neg c8]; rw [if_neg c9]; rw [if_neg c10]; rw [if_neg c11]; rw [if_pos c12]
    · exact hS
  by_cases c13 : x1 = 51
  · refine l19 (t := 277) hi_203_1 (by rw [c13]; decide) ?_
    refine l0 hi_203_277 ?_
    refine l33 hi_203_279 ⟨?_, ?_⟩
    · unfold k203; rw [if_neg c1]; rw [if_neg c2]; rw [if_neg c3]; rw [if_neg c4]; rw [if_neg c5]; rw [if_neg c6]; rw [if_neg c7]; rw [if_neg c8]; rw [if_neg c9]; rw [if_neg c10]; rw [if_neg c11]; rw [if_neg c12]; rw [if_pos c13]
    · exact hS
  by_cases c14 : x1 = 52
  · refine l19 (t := 286) hi_203_1 (by rw [c14]; decide) ?_
    refine l0 hi_203_286 ?_
    refine l33 hi_203_288 ⟨?_, ?_⟩
    · unfold k203; rw [if_neg c1]; rw [if_neg c2]; rw [if_neg c3]; rw [if_neg c4]; rw [if_neg c5]; rw [if_neg c6]; rw [if_neg c7]; rw [if_neg c8]; rw [if_neg c9]; rw [if_neg c10]; rw [if_neg c11]; rw [if_neg c12]; rw [if_neg c13]; rw [if_pos c14]
    · exact hS
  by_cases c15 : x1 = 53
  · refine l19 (t := 268) hi_203_1 (by rw [c15]; decide) ?_
    refine l0 hi_203_268 ?_
    refine l33 hi_203_269 ⟨?_, ?_⟩
    · unfold k203; rw [if_neg c1]; rw [if_neg c2]; rw [if_neg c3]; rw [if_neg c4]; rw [if_neg c5]; rw [if_neg c6]; rw [if_neg c7]; rw [if_neg c8]; rw [if_neg c9]; rw [if_neg c10]; rw [if_neg c11]; rw [if_neg c12]; rw [if_neg c13]; rw [if_neg c14]; rw [if_pos c15]
    · exact hS
  by_cases c16 : x1 = 54
  · refine l19 (t := 268) hi_203_1 (by rw [c16]; decide) ?_
    refine l0 hi_203_268 ?_
    refine l33 hi_203_269 ⟨?_, ?_⟩
    · unfold k203; rw [if_neg c1]; rw [if_neg c2]; rw [if_neg c3]; rw [if_neg c4]; rw [if_neg c5]; rw [if_neg c6]; rw [if_neg c7]; rw [if_neg c8]; rw [if_neg c9]; rw [if_neg c10]; rw [if_neg c11]; rw [if_neg c12]; rw [if_neg c13]; rw [if_neg c14]; rw [if_neg c15]; rw [if_pos c16]
    · exact hS
  by_cases c17 : x1 = 55
  · refine l19 (t := 268) hi_203_1 (by rw [c17]; decide) ?_
    refine l0 hi_203_268 ?_
    refine l33 hi_203_269 ⟨?_, ?_⟩
    · unfold k203; rw [if_neg c1]; rw [if_neg c2]; rw [if_neg c3]; rw [if_neg c4]; rw [if_neg c5]; rw [if_neg c6]; rw [if_neg c7]; rw [if_neg c8]; rw [if_neg c9]; rw [if_neg c10]; rw [if_neg c11]; rw [if_neg c12]; rw [if_neg c13]; rw [if_neg c14]; rw [if_neg c15]; rw [if_neg c16]; rw [if_pos c17]
    · exact hS
  by_cases c18 : x1 = 56
  · refine l19 (t := 268) hi_203_1 (by rw [c18]; decide) ?_
    refine l0 hi_203_268 ?_
    refine l33 hi_203_269 ⟨?_, ?_⟩
    · unfold k203; rw [if_neg c1]; rw [if_neg c2]; rw [if_neg c3]; rw [if_neg c4]; rw [if_neg c5]; rw [if_neg c6]; rw [if_neg c7]; rw [if_neg c8]; rw [if_neg c9]; rw [if_neg c10]; rw [if_neg c11]; rw [if_neg c12]; rw [if_neg c13]; rw [if_neg c14]; rw [if_neg c15]; rw [if_neg c16]; rw [if_neg c17]; rw [if_pos c18]
    · exact hS
  by_cases c19 : x1 = 57
  · refine l19 (t := 268) hi_203_1 (by rw [c19]; decide) ?_
    refine l0 hi_203_268 ?_
    refine l33 hi_203_269 ⟨?_, ?_⟩
    · unfold k203; rw [if_neg c1]; rw [if_neg c2]; rw [if_neg c3]; rw [if_neg c4]; rw [if_neg c5]; rw [if_neg c6]; rw [if_neg c7]; rw [if_neg c8]; rw [if_neg c9]; rw [if_neg c10]; rw [if_neg c11]; rw [if_neg c12]; rw [if_neg c13]; rw [if_neg c14]; rw [if_neg c15]; rw [if_neg c16]; rw [if_neg c17]; rw [if_neg c18]; rw [if_pos c19]
    · exact hS
  by_cases c20 : x1 = 58
  · refine l19 (t := 268) hi_203_1 (by rw [c20]; decide) ?_
    refine l0 hi_203_268 ?_
    refine l33 hi_203_269 ⟨?_, ?_⟩
    · unfold k203; rw [if_neg c1]; rw [if_neg c2]; rw [if_neg c3]; rw [if_neg c4]; rw [if_neg c5]; rw [if_neg c6]; rw [if_neg c7]; rw [if_neg c8]; rw [if_neg c9]; rw [if_neg c10]; rw [if_neg c11]; rw [if_neg c12]; rw [if_neg c13]; rw [if_neg c14]; rw [if_neg c15]; rw [if_neg c16]; rw [if_neg c17]; rw [if_neg c18]; rw [if_neg c19]; rw [if_pos c20]
    · exact hS
  by_cases c21 : x1 = 71
  · refine l19 (t := 280) hi_203_1 (by rw [c21]; decide) ?_
    refine l0 hi_203_280 ?_
    refine l33 hi_203_282 ⟨?_, ?_⟩
    · unfold k203; rw [if_neg c1]; rw [if_neg c2]; rw [if_neg c3]; rw [if_neg c4]; rw [if_neg c5]; rw [if_neg c6]; rw [if_neg c7]; rw [if_neg c8]; rw [if_neg c9]; rw [if_neg c10]; rw [if_neg c11]; rw [if_neg c12]; rw [if_neg c13]; rw [if_neg c14]; rw [if_neg c15]; rw [if_neg c16]; rw [if_neg c17]; rw [if_neg c18]; rw [if_neg c19]; rw [if_neg c20]; rw [if_pos c21]
    · exact hS
  refine l19 (t := 292) hi_203_1 (sw_not (ks := [10, 25, 40, 41, 42, 43, 44, 45, 47, 48, 49, 50, 51, 52, 53, 54, 55, 56, 57, 58, 71]) (by decide) (by intro k hk; simp only [List.mem_cons, List.not_mem_nil, or_false] at hk; rcases hk with rfl | rfl | rfl | rfl | rfl | rfl | rfl | rfl | rfl | rfl | rfl | rfl | rfl | rfl | rfl | rfl | rfl | rfl | rfl | rfl | rfl <;> first | exact c1 | exact c2 | exact c3 | exact c4 | exact c5 | exact c6 | exact c7 | exact c8 | exact c9 | exact c10 | exact c11 | exact c12 | exact c13 | exact c14 | exact c15 | exact c16 | exact c17 | exact c18 | exact c19 | exact c20 | exact c21)) ?_
  refine l0 hi_203_292 ?_
  refine l33 hi_203_293 ⟨?_, ?_⟩
  · unfold k203; rw [if_neg c1]; rw [if_neg c2]; rw [if_neg c3]; rw [if_neg c4]; rw [if_neg c5]; rw [if_neg c6]; rw [if_neg c7]; rw [if_neg c8]; rw [if_neg c9]; rw [if_neg c10]; rw [if_neg c11]; rw [if_neg c12]; rw [if_neg c13]; rw [if_neg c14]; rw [if_neg c15]; rw [if_neg c16]; rw [if_neg c17]; rw [if_neg c18]; rw [if_neg c19]; rw [if_neg c20]; rw [if_neg c21]
  · exact hS
def k206b7 (s : kS) (y1 : Int32) (t : Int32) : Nat × (Int32) := if t < 0 then (1, t) else if (kr s 25 t) ≠ y1 then (0, (t + (-1))) else if (kr s 28 t) = 0 then (1, t) else (0, (t + (-1)))
theorem lb206_7 {sc : Nat × (Nat → Int32)} {d : Nat} {S0 : am_S} {s : kS} {y1 : Int32} {Q : Option (Option Value) → am_S → Prop} : ∀ (N : Nat) (S : am_S) (t : Int32), MK S0 S s → (∀ m S1, (kwh (k206b7 s y1) m t).1 = 1 → MK S0 S1 s → am_L (am_PP sc) N d 206 36 [some (.ref 39), some (.int y1), some (.int ((kwh (k206b7 s y1) m t).2))] [] S1 Q) → am_L (am_PP sc) N d 206 7 [some (.ref 39), some (.int y1), some (.int t)] [] S Q := by
  intro N
  induction N with
  | zero => intros; exact l_zero
  | succ N ih =>
    intro S t hS kx36
    refine l1d (v := t) hi_206_7 rfl ?_
    by_cases c1 : t < 0
    · refine l12t hi_206_8 (decide_eq_true c1) ?_
      have e0 : (k206b7 s y1) t = (1, t) := by unfold k206b7; rw [if_pos c1]
      have e1 : kwh (k206b7 s y1) 1 t = (1, t) := by rw [kwh_out (by rw [e0]; exact Nat.succ_ne_zero _), e0]
      have q := kx36 1 _  (by rw [e1]) (by exact hS)
      try rw [e1] at q
      exact q.less (Nat.le_succ N)
    · refine l12f hi_206_8 (decide_eq_false c1) ?_
      refine l2 (v := 39) hi_206_11 rfl ?_
      refine l20 (v := .ref 52) hS hi_206_12 rfl ?_
      refine l1 (v := t) hi_206_15 rfl ?_
      refine l25 hS ma_25 hi_206_16 fun g2 g3 => ?_
      show am_L _ _ _ _ _ [some (.ref 39), some (.int y1), some (.int t)] [.int (kr s 25 t)] _ _
      refine l1 (v := y1) hi_206_17 rfl ?_
      by_cases c4 : (kr s 25 t) ≠ y1
      · refine l13t hi_206_18 (decide_eq_true c4) ?_
        refine l5 (v := t) (ls' := [some (.ref 39), some (.int y1), some (.int (t + (-1)))]) hi_206_30 rfl rfl ?_
        refine l18 hi_206_33 ?_
        have e0 : (k206b7 s y1) t = (0, (t + (-1))) := by unfold k206b7; rw [if_neg c1]; rw [if_pos c4]
        have e1 : ∀ m, kwh (k206b7 s y1) (m + 1) t = kwh (k206b7 s y1) m (t + (-1)) := fun m => by rw [kwh_go (by rw [e0]), e0]
        exact ih _  (t + (-1)) hS (fun m S1 hm h1 => by have q := kx36 (m + 1) S1 (by rw [e1]; exact hm) (by exact h1); (try rw [e1] at q); exact q.less (Nat.le_succ N))
      · refine l13f hi_206_18 (decide_eq_false c4) ?_
        refine l2 (v := 39) hi_206_21 rfl ?_
        refine l20 (v := .ref 55) hS hi_206_22 rfl ?_
        refine l1 (v := t) hi_206_25 rfl ?_
        refine l25 hS ma_28 hi_206_26 fun g5 g6 => ?_
        show am_L _ _ _ _ _ [some (.ref 39), some (.int y1), some (.int t)] [.int (kr s 28 t)] _ _
        by_cases c7 : (kr s 28 t) = 0
        · refine l12t hi_206_27 (decide_eq_true c7) ?_
          have e0 : (k206b7 s y1) t = (1, t) := by unfold k206b7; rw [if_neg c1]; rw [if_neg c4]; rw [if_pos c7]
          have e1 : kwh (k206b7 s y1) 1 t = (1, t) := by rw [kwh_out (by rw [e0]; exact Nat.succ_ne_zero _), e0]
          have q := kx36 1 _  (by rw [e1]) (by exact hS)
          try rw [e1] at q
          exact q.less (Nat.le_succ N)
        · refine l12f hi_206_27 (decide_eq_false c7) ?_
          refine l5 (v := t) (ls' := [some (.ref 39), some (.int y1), some (.int (t + (-1)))]) hi_206_30 rfl rfl ?_
          refine l18 hi_206_33 ?_
          have e0 : (k206b7 s y1) t = (0, (t + (-1))) := by unfold k206b7; rw [if_neg c1]; rw [if_neg c4]; rw [if_neg c7]
          have e1 : ∀ m, kwh (k206b7 s y1) (m + 1) t = kwh (k206b7 s y1) m (t + (-1)) := fun m => by rw [kwh_go (by rw [e0]), e0]
          exact ih _  (t + (-1)) hS (fun m S1 hm h1 => by have q := kx36 (m + 1) S1 (by rw [e1]; exact hm) (by exact h1); (try rw [e1] at q); exact q.less (Nat.le_succ N))
/-- find(I)I -/
noncomputable def k206 (s : kS) (x1 : Int32) : Int32 := (kfin (k206b7 s x1) ((s.1 24) - 1)).2
theorem lt206 {sc : Nat × (Nat → Int32)} {N d : Nat} {S0 S : am_S} {s : kS} {x1 : Int32} (hS : MK S0 S s) : am_L (am_PP sc) N d 206 0 [some (.ref 39), some (.int x1), none] [] S (fun o S1 => o = some (some (.int (k206 s x1))) ∧ MK S0 S1 s) := by
  refine l2 (v := 39) hi_206_0 rfl ?_
  refine l20 (v := .int (s.1 24)) hS hi_206_1 rfl ?_
  refine l0 hi_206_4 ?_
  refine l10 hi_206_5 ?_
  show am_L _ _ _ _ _ [some (.ref 39), some (.int x1), none] [.int ((s.1 24) - 1)] _ _
  refine l3 (ls' := [some (.ref 39), some (.int x1), some (.int ((s.1 24) - 1))]) hi_206_6 (Nat.le_of_ble_eq_true rfl) rfl ?_
  refine lb206_7 N _  ((s.1 24) - 1) hS ?_
  · intro m1 S2  hm3 h4
    have hf5 : kfin (k206b7 s x1) ((s.1 24) - 1) = kwh (k206b7 s x1) m1 ((s.1 24) - 1) := kfin_eq (by rw [hm3]; decide)
    rw [← hf5] at hm3
    try rw [← hf5]
    refine l1 (v := (kfin (k206b7 s x1) ((s.1 24) - 1)).2) hi_206_36 rfl ?_
    refine l33 hi_206_37 ⟨?_, ?_⟩
    · rfl
    · exact h4
def k207b6 (s : kS) (y1 : Int32) (y2 : Int32) (y3 : Int32) (y4 : Int32) (t : Int32 × Int32) : Nat × (Int32 × Int32) := if (s.1 62) ≤ t.2 then (2, (t.1, t.2)) else if (kr s 63 t.2) ≠ y1 then (0, (t.1, t.2 + 1)) else if (kr s 64 t.2) ≠ y2 then (0, (t.1 + 1, t.2 + 1)) else (1, (t.1, t.2))
theorem lb207_6 {sc : Nat × (Nat → Int32)} {d : Nat} {S0 : am_S} {s : kS} {y1 : Int32} {y2 : Int32} {y3 : Int32} {y4 : Int32} {Q : Option (Option Value) → am_S → Prop} : ∀ (N : Nat) (S : am_S) (t : Int32 × Int32), MK S0 S s → (∀ m S1, (kwh (k207b6 s y1 y2 y3 y4) m t).1 = 1 → MK S0 S1 s → am_L (am_PP sc) N d 207 37 [some (.ref 39), some (.int y1), some (.int y2), some (.int y3), some (.int y4), some (.int ((kwh (k207b6 s y1 y2 y3 y4) m t).2.1)), some (.int ((kwh (k207b6 s y1 y2 y3 y4) m t).2.2))] [] S1 Q) → (∀ m S1, (kwh (k207b6 s y1 y2 y3 y4) m t).1 = 2 → MK S0 S1 s → am_L (am_PP sc) N d 207 49 [some (.ref 39), some (.int y1), some (.int y2), some (.int y3), some (.int y4), some (.int ((kwh (k207b6 s y1 y2 y3 y4) m t).2.1)), some (.int ((kwh (k207b6 s y1 y2 y3 y4) m t).2.2))] [] S1 Q) → am_L (am_PP sc) N d 207 6 [some (.ref 39), some (.int y1), some (.int y2), some (.int y3), some (.int y4), some (.int t.1), some (.int t.2)] [] S Q := by
  intro N
  induction N with
  | zero => intros; exact l_zero
  | succ N ih =>
    intro S t hS kx37 kx49
    refine l1d (v := t.2) hi_207_6 rfl ?_
    refine l2 (v := 39) hi_207_8 rfl ?_
    refine l20 (v := .int (s.1 62)) hS hi_207_9 rfl ?_
    by_cases c1 : (s.1 62) ≤ t.2
    · refine l13t hi_207_12 (decide_eq_true c1) ?_
      have e0 : (k207b6 s y1 y2 y3 y4) t = (2, (t.1, t.2)) := by unfold k207b6; rw [if_pos c1]
      have e1 : kwh (k207b6 s y1 y2 y3 y4) 1 t = (2, (t.1, t.2)) := by rw [kwh_out (by rw [e0]; exact Nat.succ_ne_zero _), e0]
      have q := kx49 1 _  (by rw [e1]) (by exact hS)
      try rw [e1] at q
      exact q.less (Nat.le_succ N)
    · refine l13f hi_207_12 (decide_eq_false c1) ?_
      refine l2 (v := 39) hi_207_15 rfl ?_
      refine l20 (v := .ref 83) hS hi_207_16 rfl ?_
      refine l1 (v := t.2) hi_207_19 rfl ?_
      refine l25 hS ma_63 hi_207_21 fun g2 g3 => ?_
      show am_L _ _ _ _ _ [some (.ref 39), some (.int y1), some (.int y2), some (.int y3), some (.int y4), some (.int t.1), some (.int t.2)] [.int (kr s 63 t.2)] _ _
      refine l1 (v := y1) hi_207_22 rfl ?_
      by_cases c4 : (kr s 63 t.2) ≠ y1
      · refine l13t hi_207_23 (decide_eq_true c4) ?_
        refine l5 (v := t.2) (ls' := [some (.ref 39), some (.int y1), some (.int y2), some (.int y3), some (.int y4), some (.int t.1), some (.int (t.2 + 1))]) hi_207_43 rfl rfl ?_
        refine l18 hi_207_46 ?_
        have e0 : (k207b6 s y1 y2 y3 y4) t = (0, (t.1, t.2 + 1)) := by unfold k207b6; rw [if_neg c1]; rw [if_pos c4]
        have e1 : ∀ m, kwh (k207b6 s y1 y2 y3 y4) (m + 1) t = kwh (k207b6 s y1 y2 y3 y4) m (t.1, t.2 + 1) := fun m => by rw [kwh_go (by rw [e0]), e0]
        exact ih _  (t.1, t.2 + 1) hS (fun m S1 hm h1 => by have q := kx37 (m + 1) S1 (by rw [e1]; exact hm) (by exact h1); (try rw [e1] at q); exact q.less (Nat.le_succ N)) (fun m S1 hm h1 => by have q := kx49 (m + 1) S1 (by rw [e1]; exact hm) (by exact h1); (try rw [e1] at q); exact q.less (Nat.le_succ N))
      · refine l13f hi_207_23 (decide_eq_false c4) ?_
        refine l2 (v := 39) hi_207_26 rfl ?_
        refine l20 (v := .ref 84) hS hi_207_27 rfl ?_
        refine l1 (v := t.2) hi_207_30 rfl ?_
        refine l25 hS ma_64 hi_207_32 fun g5 g6 => ?_
        show am_L _ _ _ _ _ [some (.ref 39), some (.int y1), some (.int y2), some (.int y3), some (.int y4), some (.int t.1), some (.int t.2)] [.int (kr s 64 t.2)] _ _
        refine l1 (v := y2) hi_207_33 rfl ?_
        by_cases c7 : (kr s 64 t.2) ≠ y2
        · refine l13t hi_207_34 (decide_eq_true c7) ?_
          refine l5 (v := t.1) (ls' := [some (.ref 39), some (.int y1), some (.int y2), some (.int y3), some (.int y4), some (.int (t.1 + 1)), some (.int t.2)]) hi_207_40 rfl rfl ?_
          refine l5 (v := t.2) (ls' := [some (.ref 39), some (.int y1), some (.int y2), some (.int y3), some (.int y4), some (.int (t.1 + 1)), some (.int (t.2 + 1))]) hi_207_43 rfl rfl ?_
          refine l18 hi_207_46 ?_
          have e0 : (k207b6 s y1 y2 y3 y4) t = (0, (t.1 + 1, t.2 + 1)) := by unfold k207b6; rw [if_neg c1]; rw [if_neg c4]; rw [if_pos c7]
          have e1 : ∀ m, kwh (k207b6 s y1 y2 y3 y4) (m + 1) t = kwh (k207b6 s y1 y2 y3 y4) m (t.1 + 1, t.2 + 1) := fun m => by rw [kwh_go (by rw [e0]), e0]
          exact ih _  (t.1 + 1, t.2 + 1) hS (fun m S1 hm h1 => by have q := kx37 (m + 1) S1 (by rw [e1]; exact hm) (by exact h1); (try rw [e1] at q); exact q.less (Nat.le_succ N)) (fun m S1 hm h1 => by have q := kx49 (m + 1) S1 (by rw [e1]; exact hm) (by exact h1); (try rw [e1] at q); exact q.less (Nat.le_succ N))
        · refine l13f hi_207_34 (decide_eq_false c7) ?_
          have e0 : (k207b6 s y1 y2 y3 y4) t = (1, (t.1, t.2)) := by unfold k207b6; rw [if_neg c1]; rw [if_neg c4]; rw [if_neg c7]
          have e1 : kwh (k207b6 s y1 y2 y3 y4) 1 t = (1, (t.1, t.2)) := by rw [kwh_out (by rw [e0]; exact Nat.succ_ne_zero _), e0]
          have q := kx37 1 _  (by rw [e1]) (by exact hS)
          try rw [e1] at q
          exact q.less (Nat.le_succ N)
/-- outerOf(IIII)I -/
noncomputable def k207 (s : kS) (x1 : Int32) (x2 : Int32) (x3 : Int32) (x4 : Int32) : kS × Int32 := if (kfin (k207b6 s x1 x2 x3 x4) (0, 0)).1 = 1 then (s, (kfin (k207b6 s x1 x2 x3 x4) (0, 0)).2.1) else (ka (kf (ka (ka (ka (ka s 63 (s.1 62) x1) 64 (s.1 62) x2) 65 (s.1 62) x3) 66 (s.1 62) x4) 62 ((s.1 62) + 1)) 67 x1 ((kr s 67 x1) + 1), (kfin (k207b6 s x1 x2 x3 x4) (0, 0)).2.1)
theorem lt207 {sc : Nat × (Nat → Int32)} {N d : Nat} {S0 S : am_S} {s : kS} {x1 : Int32} {x2 : Int32} {x3 : Int32} {x4 : Int32} (hS : MK S0 S s) : am_L (am_PP sc) N d 207 0 [some (.ref 39), some (.int x1), some (.int x2), some (.int x3), some (.int x4), none, none] [] S (fun o S1 => o = some (some (.int ((k207 s x1 x2 x3 x4).2))) ∧ MK S0 S1 (k207 s x1 x2 x3 x4).1) := by
  refine l0 hi_207_0 ?_
  refine l3 (ls' := [some (.ref 39), some (.int x1), some (.int x2), some (.int x3), some (.int x4), some (.int 0), none]) hi_207_1 (Nat.le_of_ble_eq_true rfl) rfl ?_
  refine l0 hi_207_3 ?_
  refine l3 (ls' := [some (.ref 39), some (.int x1), some (.int x2), some (.int x3), some (.int x4), some (.int 0), some (.int 0)]) hi_207_4 (Nat.le_of_ble_eq_true rfl) rfl ?_
  refine lb207_6 N _  (0, 0) hS ?_ ?_
  · intro m1 S2  hm3 h4
    have hf5 : kfin (k207b6 s x1 x2 x3 x4) (0, 0) = kwh (k207b6 s x1 x2 x3 x4) m1 (0, 0) := kfin_eq (by rw [hm3]; decide)
    rw [← hf5] at hm3
    try rw [← hf5]
    refine l1 (v := (kfin (k207b6 s x1 x2 x3 x4) (0, 0)).2.1) hi_207_37 rfl ?_
    refine l33 hi_207_39 ⟨?_, ?_⟩
    · unfold k207; rw [if_pos hm3]
    · unfold k207; rw [if_pos hm3]; exact h4
  · intro m6 S7  hm8 h9
    have hf10 : kfin (k207b6 s x1 x2 x3 x4) (0, 0) = kwh (k207b6 s x1 x2 x3 x4) m6 (0, 0) := kfin_eq (by rw [hm8]; decide)
    rw [← hf10] at hm8
    try rw [← hf10]
    have c11 : ¬ (kfin (k207b6 s x1 x2 x3 x4) (0, 0)).1 = 1 := by rw [hm8]; decide
    refine l2 (v := 39) hi_207_49 rfl ?_
    refine l20 (v := .ref 83) h9 hi_207_50 rfl ?_
    refine l2 (v := 39) hi_207_53 rfl ?_
    refine l20 (v := .int (s.1 62)) h9 hi_207_54 rfl ?_
    refine l1 (v := x1) hi_207_57 rfl ?_
    refine l26 h9 ma_63 hi_207_58 fun S14 h15 g12 g13 => ?_
    refine l2 (v := 39) hi_207_59 rfl ?_
    refine l20 (v := .ref 84) h15 hi_207_60 rfl ?_
    refine l2 (v := 39) hi_207_63 rfl ?_
    refine l20 (v := .int (s.1 62)) h15 hi_207_64 rfl ?_
    refine l1 (v := x2) hi_207_67 rfl ?_
    refine l26 h15 ma_64 hi_207_68 fun S18 h19 g16 g17 => ?_
    refine l2 (v := 39) hi_207_69 rfl ?_
    refine l20 (v := .ref 85) h19 hi_207_70 rfl ?_
    refine l2 (v := 39) hi_207_73 rfl ?_
    refine l20 (v := .int (s.1 62)) h19 hi_207_74 rfl ?_
    refine l1 (v := x3) hi_207_77 rfl ?_
    refine l26 h19 ma_65 hi_207_78 fun S22 h23 g20 g21 => ?_
    refine l2 (v := 39) hi_207_79 rfl ?_
    refine l20 (v := .ref 86) h23 hi_207_80 rfl ?_
    refine l2 (v := 39) hi_207_83 rfl ?_
    refine l20 (v := .int (s.1 62)) h23 hi_207_84 rfl ?_
    refine l1 (v := x4) hi_207_87 rfl ?_
    refine l26 h23 ma_66 hi_207_89 fun S26 h27 g24 g25 => ?_
    refine l2 (v := 39) hi_207_90 rfl ?_
    refine l7 hi_207_91 ?_
    refine l20 (v := .int (s.1 62)) h27 hi_207_92 rfl ?_
    refine l0 hi_207_95 ?_
    refine l10 hi_207_96 ?_
    show am_L _ _ _ _ _ [some (.ref 39), some (.int x1), some (.int x2), some (.int x3), some (.int x4), some (.int ((kfin (k207b6 s x1 x2 x3 x4) (0, 0)).2.1)), some (.int ((kfin (k207b6 s x1 x2 x3 x4) (0, 0)).2.2))] [.int ((s.1 62) + 1), .ref 39] _ _
    refine l21 h27 hi_207_97 ms_62 fun S28 h29 => ?_
    refine l2 (v := 39) hi_207_100 rfl ?_
    refine l20 (v := .ref 87) h29 hi_207_101 rfl ?_
    refine l1 (v := x1) hi_207_104 rfl ?_
    refine l8 hi_207_105 ?_
    refine l25 h29 ma_67 hi_207_106 fun g30 g31 => ?_
    show am_L _ _ _ _ _ [some (.ref 39), some (.int x1), some (.int x2), some (.int x3), some (.int x4), some (.int ((kfin (k207b6 s x1 x2 x3 x4) (0, 0)).2.1)), some (.int ((kfin (k207b6 s x1 x2 x3 x4) (0, 0)).2.2))] [.int (kr s 67 x1), .int x1, .ref 87] _ _
    refine l0 hi_207_107 ?_
    refine l10 hi_207_108 ?_
    show am_L _ _ _ _ _ [some (.ref 39), some (.int x1), some (.int x2), some (.int x3), some (.int x4), some (.int ((kfin (k207b6 s x1 x2 x3 x4) (0, 0)).2.1)), some (.int ((kfin (k207b6 s x1 x2 x3 x4) (0, 0)).2.2))] [.int ((kr s 67 x1) + 1), .int x1, .ref 87] _ _
    refine l26 h29 ma_67 hi_207_109 fun S34 h35 g32 g33 => ?_
    refine l1 (v := (kfin (k207b6 s x1 x2 x3 x4) (0, 0)).2.1) hi_207_110 rfl ?_
    refine l33 hi_207_112 ⟨?_, ?_⟩
    · unfold k207; rw [if_neg c11]
    · unfold k207; rw [if_neg c11]; exact h35
noncomputable def k205b61 (y2 : Int32) (y3 : Int32) (t : kS × Int32) : Nat × (kS × Int32) := if (t.1.1 32) < t.2 then (1, (t.1, t.2)) else if t.2 ≠ (y3 + 1) then (0, (kf ((k207 t.1 (kr t.1 33 t.2) (kr t.1 27 y2) 0 (t.1.1 75)).1) 75 ((k207 t.1 (kr t.1 33 t.2) (kr t.1 27 y2) 0 (t.1.1 75)).2), t.2 + 1)) else (0, (kf ((k207 t.1 (kr t.1 33 t.2) (kr t.1 27 y2) 1 (t.1.1 75)).1) 75 ((k207 t.1 (kr t.1 33 t.2) (kr t.1 27 y2) 1 (t.1.1 75)).2), t.2 + 1))
theorem lb205_61 {sc : Nat × (Nat → Int32)} {d : Nat} {S0 : am_S} {y2 : Int32} {y3 : Int32} {Q : Option (Option Value) → am_S → Prop} : ∀ (N : Nat) (S : am_S) (o1 : Option Value) (t : kS × Int32), MK S0 S t.1 → (∀ m S1 (p1 : Option Value), (kwh (k205b61 y2 y3) m t).1 = 1 → MK S0 S1 (kwh (k205b61 y2 y3) m t).2.1 → am_L (am_PP sc) N d 205 114 [some (.ref 39), p1, some (.int y2), some (.int y3), some (.int ((kwh (k205b61 y2 y3) m t).2.2))] [] S1 Q) → am_L (am_PP sc) N d 205 61 [some (.ref 39), o1, some (.int y2), some (.int y3), some (.int t.2)] [] S Q := by
  intro N
  induction N with
  | zero => intros; exact l_zero
  | succ N ih =>
    intro S o1 t hS kx114
    refine l1d (v := t.2) hi_205_61 rfl ?_
    refine l2 (v := 39) hi_205_63 rfl ?_
    refine l20 (v := .int (t.1.1 32)) hS hi_205_64 rfl ?_
    by_cases c1 : (t.1.1 32) < t.2
    · refine l13t hi_205_67 (decide_eq_true c1) ?_
      have e0 : (k205b61 y2 y3) t = (1, (t.1, t.2)) := by unfold k205b61; rw [if_pos c1]
      have e1 : kwh (k205b61 y2 y3) 1 t = (1, (t.1, t.2)) := by rw [kwh_out (by rw [e0]; exact Nat.succ_ne_zero _), e0]
      have q := kx114 1 _ o1 (by rw [e1]) (by rw [e1]; exact hS)
      try rw [e1] at q
      exact q.less (Nat.le_succ N)
    · refine l13f hi_205_67 (decide_eq_false c1) ?_
      refine l2 (v := 39) hi_205_70 rfl ?_
      refine l2 (v := 39) hi_205_71 rfl ?_
      refine l2 (v := 39) hi_205_72 rfl ?_
      refine l20 (v := .ref 58) hS hi_205_73 rfl ?_
      refine l1 (v := t.2) hi_205_76 rfl ?_
      refine l25 hS ma_33 hi_205_78 fun g2 g3 => ?_
      show am_L _ _ _ _ _ [some (.ref 39), o1, some (.int y2), some (.int y3), some (.int t.2)] [.int (kr t.1 33 t.2), .ref 39, .ref 39] _ _
      refine l2 (v := 39) hi_205_79 rfl ?_
      refine l20 (v := .ref 54) hS hi_205_80 rfl ?_
      refine l1 (v := y2) hi_205_83 rfl ?_
      refine l25 hS ma_27 hi_205_84 fun g4 g5 => ?_
      show am_L _ _ _ _ _ [some (.ref 39), o1, some (.int y2), some (.int y3), some (.int t.2)] [.int (kr t.1 27 y2), .int (kr t.1 33 t.2), .ref 39, .ref 39] _ _
      refine l1 (v := t.2) hi_205_85 rfl ?_
      refine l1 (v := y3) hi_205_87 rfl ?_
      refine l0 hi_205_88 ?_
      refine l10 hi_205_89 ?_
      show am_L _ _ _ _ _ [some (.ref 39), o1, some (.int y2), some (.int y3), some (.int t.2)] [.int (y3 + 1), .int t.2, .int (kr t.1 27 y2), .int (kr t.1 33 t.2), .ref 39, .ref 39] _ _
      by_cases c6 : t.2 ≠ (y3 + 1)
      · refine l13t hi_205_90 (decide_eq_true c6) ?_
        refine l0 hi_205_97 ?_
        refine l2 (v := 39) hi_205_98 rfl ?_
        refine l20 (v := .int (t.1.1 75)) hS hi_205_99 rfl ?_
        refine l32 (as := [.ref 39, .int (kr t.1 33 t.2), .int (kr t.1 27 y2), .int 0, .int (t.1.1 75)]) (la := [some (.ref 39), some (.int (kr t.1 33 t.2)), some (.int (kr t.1 27 y2)), some (.int 0), some (.int (t.1.1 75)), none, none]) (rest := [.ref 39]) hi_205_102 (am_hd0 (M := 205) (by decide) 102) rfl rfl rfl (fun N' d' _ => lt207 (N := N') (d := d') hS) ?_ (fun _ q => nomatch q.1)
        rintro v9 S7 ⟨ev9, h8⟩
        cases ev9
        show am_L _ _ _ _ _ [some (.ref 39), o1, some (.int y2), some (.int y3), some (.int t.2)] [.int ((k207 t.1 (kr t.1 33 t.2) (kr t.1 27 y2) 0 (t.1.1 75)).2), .ref 39] _ _
        refine l21 h8 hi_205_105 ms_75 fun S10 h11 => ?_
        refine l5 (v := t.2) (ls' := [some (.ref 39), o1, some (.int y2), some (.int y3), some (.int (t.2 + 1))]) hi_205_108 rfl rfl ?_
        refine l18 hi_205_111 ?_
        have e0 : (k205b61 y2 y3) t = (0, (kf ((k207 t.1 (kr t.1 33 t.2) (kr t.1 27 y2) 0 (t.1.1 75)).1) 75 ((k207 t.1 (kr t.1 33 t.2) (kr t.1 27 y2) 0 (t.1.1 75)).2), t.2 + 1)) := by unfold k205b61; rw [if_neg c1]; rw [if_pos c6]
        have e1 : ∀ m, kwh (k205b61 y2 y3) (m + 1) t = kwh (k205b61 y2 y3) m (kf ((k207 t.1 (kr t.1 33 t.2) (kr t.1 27 y2) 0 (t.1.1 75)).1) 75 ((k207 t.1 (kr t.1 33 t.2) (kr t.1 27 y2) 0 (t.1.1 75)).2), t.2 + 1) := fun m => by rw [kwh_go (by rw [e0]), e0]
        exact ih _ o1 (kf ((k207 t.1 (kr t.1 33 t.2) (kr t.1 27 y2) 0 (t.1.1 75)).1) 75 ((k207 t.1 (kr t.1 33 t.2) (kr t.1 27 y2) 0 (t.1.1 75)).2), t.2 + 1) h11 (fun m S1 p1 hm h1 => by have q := kx114 (m + 1) S1 p1 (by rw [e1]; exact hm) (by rw [e1]; exact h1); (try rw [e1] at q); exact q.less (Nat.le_succ N))
      · refine l13f hi_205_90 (decide_eq_false c6) ?_
        refine l0 hi_205_93 ?_
        refine l18 hi_205_94 ?_
        refine l2 (v := 39) hi_205_98 rfl ?_
        refine l20 (v := .int (t.1.1 75)) hS hi_205_99 rfl ?_
        refine l32 (as := [.ref 39, .int (kr t.1 33 t.2), .int (kr t.1 27 y2), .int 1, .int (t.1.1 75)]) (la := [some (.ref 39), some (.int (kr t.1 33 t.2)), some (.int (kr t.1 27 y2)), some (.int 1), some (.int (t.1.1 75)), none, none]) (rest := [.ref 39]) hi_205_102 (am_hd0 (M := 205) (by decide) 102) rfl rfl rfl (fun N' d' _ => lt207 (N := N') (d := d') hS) ?_ (fun _ q => nomatch q.1)
        rintro v14 S12 ⟨ev14, h13⟩
        cases ev14
        show am_L _ _ _ _ _ [some (.ref 39), o1, some (.int y2), some (.int y3), some (.int t.2)] [.int ((k207 t.1 (kr t.1 33 t.2) (kr t.1 27 y2) 1 (t.1.1 75)).2), .ref 39] _ _
        refine l21 h13 hi_205_105 ms_75 fun S15 h16 => ?_
        refine l5 (v := t.2) (ls' := [some (.ref 39), o1, some (.int y2), some (.int y3), some (.int (t.2 + 1))]) hi_205_108 rfl rfl ?_
        refine l18 hi_205_111 ?_
        have e0 : (k205b61 y2 y3) t = (0, (kf ((k207 t.1 (kr t.1 33 t.2) (kr t.1 27 y2) 1 (t.1.1 75)).1) 75 ((k207 t.1 (kr t.1 33 t.2) (kr t.1 27 y2) 1 (t.1.1 75)).2), t.2 + 1)) := by unfold k205b61; rw [if_neg c1]; rw [if_neg c6]
        have e1 : ∀ m, kwh (k205b61 y2 y3) (m + 1) t = kwh (k205b61 y2 y3) m (kf ((k207 t.1 (kr t.1 33 t.2) (kr t.1 27 y2) 1 (t.1.1 75)).1) 75 ((k207 t.1 (kr t.1 33 t.2) (kr t.1 27 y2) 1 (t.1.1 75)).2), t.2 + 1) := fun m => by rw [kwh_go (by rw [e0]), e0]
        exact ih _ o1 (kf ((k207 t.1 (kr t.1 33 t.2) (kr t.1 27 y2) 1 (t.1.1 75)).1) 75 ((k207 t.1 (kr t.1 33 t.2) (kr t.1 27 y2) 1 (t.1.1 75)).2), t.2 + 1) h16 (fun m S1 p1 hm h1 => by have q := kx114 (m + 1) S1 p1 (by rw [e1]; exact hm) (by rw [e1]; exact h1); (try rw [e1] at q); exact q.less (Nat.le_succ N))
/-- resolve(I)I -/
noncomputable def k205 (s : kS) (x1 : Int32) : kS × Int32 := if 0 ≤ (k206 s (kr s 2 x1)) then if (kr s 26 (k206 s (kr s 2 x1))) ≠ (s.1 32) then ((kfin (k205b61 (k206 s (kr s 2 x1)) (kr s 26 (k206 s (kr s 2 x1)))) (kf (kf s 75 (kr s 2 x1)) 75 ((k206 s (kr s 2 x1)) - (kr s 34 (kr s 26 (k206 s (kr s 2 x1))))), (kr s 26 (k206 s (kr s 2 x1))) + 1)).2.1, 1) else (kf (kf s 75 (kr s 2 x1)) 75 ((k206 s (kr s 2 x1)) - (kr s 34 (kr s 26 (k206 s (kr s 2 x1))))), 0) else (kf s 75 (kr s 2 x1), 2)
theorem lt205 {sc : Nat × (Nat → Int32)} {N d : Nat} {S0 S : am_S} {s : kS} {x1 : Int32} (hS : MK S0 S s) : am_L (am_PP sc) N d 205 0 [some (.ref 39), some (.int x1), none, none, none] [] S (fun o S1 => o = some (some (.int ((k205 s x1).2))) ∧ MK S0 S1 (k205 s x1).1) := by
  refine l2 (v := 39) hi_205_0 rfl ?_
  refine l2 (v := 39) hi_205_1 rfl ?_
  refine l20 (v := .ref 41) hS hi_205_2 rfl ?_
  refine l1 (v := x1) hi_205_5 rfl ?_
  refine l25 hS ma_2 hi_205_6 fun g1 g2 => ?_
  show am_L _ _ _ _ _ [some (.ref 39), some (.int x1), none, none, none] [.int (kr s 2 x1), .ref 39] _ _
  refine l32 (as := [.ref 39, .int (kr s 2 x1)]) (la := [some (.ref 39), some (.int (kr s 2 x1)), none]) (rest := []) hi_205_7 (am_hd0 (M := 205) (by decide) 7) rfl rfl rfl (fun N' d' _ => lt206 (N := N') (d := d') hS) ?_ (fun _ q => nomatch q.1)
  rintro v5 S3 ⟨ev5, h4⟩
  cases ev5
  show am_L _ _ _ _ _ [some (.ref 39), some (.int x1), none, none, none] [.int (k206 s (kr s 2 x1))] _ _
  refine l3 (ls' := [some (.ref 39), some (.int x1), some (.int (k206 s (kr s 2 x1))), none, none]) hi_205_10 (Nat.le_of_ble_eq_true rfl) rfl ?_
  refine l2 (v := 39) hi_205_11 rfl ?_
  refine l2 (v := 39) hi_205_12 rfl ?_
  refine l20 (v := .ref 41) h4 hi_205_13 rfl ?_
  refine l1 (v := x1) hi_205_16 rfl ?_
  refine l25 h4 ma_2 hi_205_17 fun g6 g7 => ?_
  show am_L _ _ _ _ _ [some (.ref 39), some (.int x1), some (.int (k206 s (kr s 2 x1))), none, none] [.int (kr s 2 x1), .ref 39] _ _
  refine l21 h4 hi_205_18 ms_75 fun S8 h9 => ?_
  refine l1 (v := k206 s (kr s 2 x1)) hi_205_21 rfl ?_
  by_cases c10 : 0 ≤ (k206 s (kr s 2 x1))
  · refine l12t hi_205_22 (decide_eq_true c10) ?_
    refine l2 (v := 39) hi_205_27 rfl ?_
    refine l20 (v := .ref 53) h9 hi_205_28 rfl ?_
    refine l1 (v := k206 s (kr s 2 x1)) hi_205_31 rfl ?_
    refine l25 h9 ma_26 hi_205_32 fun g11 g12 => ?_
    show am_L _ _ _ _ _ [some (.ref 39), some (.int x1), some (.int (k206 s (kr s 2 x1))), none, none] [.int (kr s 26 (k206 s (kr s 2 x1)))] _ _
    refine l3 (ls' := [some (.ref 39), some (.int x1), some (.int (k206 s (kr s 2 x1))), some (.int (kr s 26 (k206 s (kr s 2 x1)))), none]) hi_205_33 (Nat.le_of_ble_eq_true rfl) rfl ?_
    refine l2 (v := 39) hi_205_34 rfl ?_
    refine l1 (v := k206 s (kr s 2 x1)) hi_205_35 rfl ?_
    refine l2 (v := 39) hi_205_36 rfl ?_
    refine l20 (v := .ref 59) h9 hi_205_37 rfl ?_
    refine l1 (v := kr s 26 (k206 s (kr s 2 x1))) hi_205_40 rfl ?_
    refine l25 h9 ma_34 hi_205_41 fun g13 g14 => ?_
    show am_L _ _ _ _ _ [some (.ref 39), some (.int x1), some (.int (k206 s (kr s 2 x1))), some (.int (kr s 26 (k206 s (kr s 2 x1)))), none] [.int (kr s 34 (kr s 26 (k206 s (kr s 2 x1)))), .int (k206 s (kr s 2 x1)), .ref 39] _ _
    refine l10 hi_205_42 ?_
    show am_L _ _ _ _ _ [some (.ref 39), some (.int x1), some (.int (k206 s (kr s 2 x1))), some (.int (kr s 26 (k206 s (kr s 2 x1)))), none] [.int ((k206 s (kr s 2 x1)) - (kr s 34 (kr s 26 (k206 s (kr s 2 x1))))), .ref 39] _ _
    refine l21 h9 hi_205_43 ms_75 fun S15 h16 => ?_
    refine l1 (v := kr s 26 (k206 s (kr s 2 x1))) hi_205_46 rfl ?_
    refine l2 (v := 39) hi_205_47 rfl ?_
    refine l20 (v := .int (s.1 32)) h16 hi_205_48 rfl ?_
    by_cases c17 : (kr s 26 (k206 s (kr s 2 x1))) ≠ (s.1 32)
    · refine l13t hi_205_51 (decide_eq_true c17) ?_
      refine l1 (v := kr s 26 (k206 s (kr s 2 x1))) hi_205_56 rfl ?_
      refine l0 hi_205_57 ?_
      refine l10 hi_205_58 ?_
      show am_L _ _ _ _ _ [some (.ref 39), some (.int x1), some (.int (k206 s (kr s 2 x1))), some (.int (kr s 26 (k206 s (kr s 2 x1)))), none] [.int ((kr s 26 (k206 s (kr s 2 x1))) + 1)] _ _
      refine l3 (ls' := [some (.ref 39), some (.int x1), some (.int (k206 s (kr s 2 x1))), some (.int (kr s 26 (k206 s (kr s 2 x1)))), some (.int ((kr s 26 (k206 s (kr s 2 x1))) + 1))]) hi_205_59 (Nat.le_of_ble_eq_true rfl) rfl ?_
      refine lb205_61 N _ (some (.int x1)) (kf (kf s 75 (kr s 2 x1)) 75 ((k206 s (kr s 2 x1)) - (kr s 34 (kr s 26 (k206 s (kr s 2 x1))))), (kr s 26 (k206 s (kr s 2 x1))) + 1) h16 ?_
      · intro m18 S19 p23 hm20 h21
        have hf22 : kfin (k205b61 (k206 s (kr s 2 x1)) (kr s 26 (k206 s (kr s 2 x1)))) (kf (kf s 75 (kr s 2 x1)) 75 ((k206 s (kr s 2 x1)) - (kr s 34 (kr s 26 (k206 s (kr s 2 x1))))), (kr s 26 (k206 s (kr s 2 x1))) + 1) = kwh (k205b61 (k206 s (kr s 2 x1)) (kr s 26 (k206 s (kr s 2 x1)))) m18 (kf (kf s 75 (kr s 2 x1)) 75 ((k206 s (kr s 2 x1)) - (kr s 34 (kr s 26 (k206 s (kr s 2 x1))))), (kr s 26 (k206 s (kr s 2 x1))) + 1) := kfin_eq (by rw [hm20]; decide)
        rw [← hf22] at hm20 h21
        try rw [← hf22]
        refine l0 hi_205_114 ?_
        refine l33 hi_205_115 ⟨?_, ?_⟩
        · unfold k205; rw [if_pos c10]; rw [if_pos c17]
        · unfold k205; rw [if_pos c10]; rw [if_pos c17]; exact h21
    · refine l13f hi_205_51 (decide_eq_false c17) ?_
      refine l0 hi_205_54 ?_
      refine l33 hi_205_55 ⟨?_, ?_⟩
      · unfold k205; rw [if_pos c10]; rw [if_neg c17]
      · unfold k205; rw [if_pos c10]; rw [if_neg c17]; exact h16
  · refine l12f hi_205_22 (decide_eq_false c10) ?_
    refine l0 hi_205_25 ?_
    refine l33 hi_205_26 ⟨?_, ?_⟩
    · unfold k205; rw [if_neg c10]
    · unfold k205; rw [if_neg c10]; exact h9
noncomputable def k204_103 (s : kS) (y1 : Int32) : kS × Int32 := (ka s 16 y1 0, 0)
theorem lt204_103 {sc : Nat × (Nat → Int32)} {N d : Nat} {S0 S : am_S} {s : kS} {y1 : Int32} {o2 : Option Value} {o3 : Option Value} (hS : MK S0 S s) : am_L (am_PP sc) N d 204 103 [some (.ref 39), some (.int y1), o2, o3] [] S (fun o S1 => o = some none ∧ MK S0 S1 (k204_103 s y1).1) := by
  refine l2 (v := 39) hi_204_103 rfl ?_
  refine l20 (v := .ref 46) hS hi_204_104 rfl ?_
  refine l1 (v := y1) hi_204_107 rfl ?_
  refine l0 hi_204_108 ?_
  refine l26 hS ma_16 hi_204_109 fun S3 h4 g1 g2 => ?_
  refine l35 hi_204_110 ⟨rfl, ?_⟩
  exact h4
noncomputable def k204_68 (s : kS) (y1 : Int32) (z0 : Int32) : kS × Int32 := k204_103 s y1
theorem lt204_68 {sc : Nat × (Nat → Int32)} {N d : Nat} {S0 S : am_S} {s : kS} {y1 : Int32} {z0 : Int32} {o2 : Option Value} {o3 : Option Value} (hS : MK S0 S s) : am_L (am_PP sc) N d 204 68 [some (.ref 39), some (.int y1), o2, o3] [.int z0] S (fun o S1 => o = some none ∧ MK S0 S1 (k204_68 s y1 z0).1) := by
  refine l6i hi_204_68 ?_
  refine l18 hi_204_69 ?_
  refine am_L.mono (lt204_103 hS) ?_
  rintro o S1 ⟨e, h⟩
  have q : k204_68 s y1 z0 = k204_103 s y1 := rfl
  rw [q]; exact ⟨e, h⟩
noncomputable def k204_53 (s : kS) (y1 : Int32) (y2 : Int32) (z0 : Int32) : kS × Int32 := k204_68 ((k189 s (8 + z0) (s.1 75) 0 y2).1) y1 ((k189 s (8 + z0) (s.1 75) 0 y2).2)
theorem lt204_53 {sc : Nat × (Nat → Int32)} {N d : Nat} {S0 S : am_S} {s : kS} {y1 : Int32} {y2 : Int32} {z0 : Int32} {o3 : Option Value} (hS : MK S0 S s) : am_L (am_PP sc) N d 204 53 [some (.ref 39), some (.int y1), some (.int y2), o3] [.int z0] S (fun o S1 => o = some none ∧ MK S0 S1 (k204_53 s y1 y2 z0).1) := by
  refine l3 (ls' := [some (.ref 39), some (.int y1), some (.int y2), some (.int z0)]) hi_204_53 (Nat.le_of_ble_eq_true rfl) rfl ?_
  refine l2 (v := 39) hi_204_54 rfl ?_
  refine l0 hi_204_55 ?_
  refine l1 (v := z0) hi_204_57 rfl ?_
  refine l10 hi_204_58 ?_
  show am_L _ _ _ _ _ [some (.ref 39), some (.int y1), some (.int y2), some (.int z0)] [.int (8 + z0), .ref 39] _ _
  refine l2 (v := 39) hi_204_59 rfl ?_
  refine l20 (v := .int (s.1 75)) hS hi_204_60 rfl ?_
  refine l0 hi_204_63 ?_
  refine l1 (v := y2) hi_204_64 rfl ?_
  refine l32 (as := [.ref 39, .int (8 + z0), .int (s.1 75), .int 0, .int y2]) (la := [some (.ref 39), some (.int (8 + z0)), some (.int (s.1 75)), some (.int 0), some (.int y2)]) (rest := []) hi_204_65 (am_hd0 (M := 204) (by decide) 65) rfl rfl rfl (fun N' d' _ => lt189 (N := N') (d := d') hS) ?_ (fun _ q => nomatch q.1)
  rintro v3 S1 ⟨ev3, h2⟩
  cases ev3
  show am_L _ _ _ _ _ [some (.ref 39), some (.int y1), some (.int y2), some (.int z0)] [.int ((k189 s (8 + z0) (s.1 75) 0 y2).2)] _ _
  refine am_L.mono (lt204_68 h2) ?_
  rintro o S1 ⟨e, h⟩
  have q : k204_53 s y1 y2 z0 = k204_68 ((k189 s (8 + z0) (s.1 75) 0 y2).1) y1 ((k189 s (8 + z0) (s.1 75) 0 y2).2) := rfl
  rw [q]; exact ⟨e, h⟩
