/-! THE CLASS: what each method does (printed by wip/p5/cw_run.py) -/
set_option maxRecDepth 4096
def c152 (s : cS) : Int32 := s.f 1 0
theorem lc152 {sc : Nat × (Nat → Int32)} {N d : Nat} {A : Nat → Nat} {K : Nat} {S : am_S} {s : cS} (hS : CM A K S s) : am_L (am_PP sc) N d 152 0 [some (.ref 1)] [] S (fun o S1 => o = some (some (.int (c152 s))) ∧ CM A K S1 s) := by
  refine l2 (v := 1) hi_152_0 rfl ?_
  refine l20s (v := .int (s.f 1 0)) hS cs_1 hi_152_1 rfl ?_
  refine l33 hi_152_4 ⟨?_, ?_⟩
  · rfl
  · exact hS
def c153 (s : cS) : Int32 := s.f 1 1
theorem lc153 {sc : Nat × (Nat → Int32)} {N d : Nat} {A : Nat → Nat} {K : Nat} {S : am_S} {s : cS} (hS : CM A K S s) : am_L (am_PP sc) N d 153 0 [some (.ref 1)] [] S (fun o S1 => o = some (some (.int (c153 s))) ∧ CM A K S1 s) := by
  refine l2 (v := 1) hi_153_0 rfl ?_
  refine l20s (v := .int (s.f 1 1)) hS cs_1 hi_153_1 rfl ?_
  refine l33 hi_153_4 ⟨?_, ?_⟩
  · rfl
  · exact hS
def c154 (s : cS) : cS × Int32 := (tct s (.s 3) 0, 0)
theorem lc154 {sc : Nat × (Nat → Int32)} {N d : Nat} {A : Nat → Nat} {K : Nat} {S : am_S} {s : cS} (hS : CM A K S s) : am_L (am_PP sc) N d 154 0 [some (.ref 2)] [] S (fun o S1 => o = some none ∧ CM A K S1 (c154 s).1) := by
  refine l2 (v := 2) hi_154_0 rfl ?_
  refine l20s (v := .ref 3) hS cs_2 hi_154_1 rfl ?_
  refine l0 hi_154_4 ?_
  refine l32 (as := [.ref 3, .int 0]) (la := [some (.ref 3), some (.int 0)]) (rest := []) hi_154_5 (am_hd0 (M := 154) (by decide) 5) rfl rfl rfl (fun N' d' _ => lc30 (N := N') (d := d') (t := (.s 3)) hS ct_3) ?_ (fun _ q => nomatch q.1)
  rintro v3 S1 ⟨ev3, h2⟩
  cases ev3
  show am_L _ _ _ _ _ [some (.ref 2)] [] _ _
  refine l35 hi_154_8 ⟨rfl, ?_⟩
  exact h2
def c155 (s : cS) : Int32 := s.f 5 1
theorem lc155 {sc : Nat × (Nat → Int32)} {N d : Nat} {A : Nat → Nat} {K : Nat} {S : am_S} {s : cS} (hS : CM A K S s) : am_L (am_PP sc) N d 155 0 [some (.ref 5)] [] S (fun o S1 => o = some (some (.int (c155 s))) ∧ CM A K S1 s) := by
  refine l2 (v := 5) hi_155_0 rfl ?_
  refine l20s (v := .int (s.f 5 1)) hS cs_5 hi_155_1 rfl ?_
  refine l33 hi_155_4 ⟨?_, ?_⟩
  · rfl
  · exact hS
def c156 (s : cS) : Int32 := s.f 0 5
theorem lc156 {sc : Nat × (Nat → Int32)} {N d : Nat} {A : Nat → Nat} {K : Nat} {S : am_S} {s : cS} (hS : CM A K S s) : am_L (am_PP sc) N d 156 0 [some (.ref 0)] [] S (fun o S1 => o = some (some (.int (c156 s))) ∧ CM A K S1 s) := by
  refine l2 (v := 0) hi_156_0 rfl ?_
  refine l20s (v := .int (s.f 0 5)) hS cs_0 hi_156_1 rfl ?_
  refine l33 hi_156_4 ⟨?_, ?_⟩
  · rfl
  · exact hS
def c157 (s : cS) : Int32 := c155 s
theorem lc157 {sc : Nat × (Nat → Int32)} {N d : Nat} {A : Nat → Nat} {K : Nat} {S : am_S} {s : cS} (hS : CM A K S s) : am_L (am_PP sc) N d 157 0 [some (.ref 0)] [] S (fun o S1 => o = some (some (.int (c157 s))) ∧ CM A K S1 s) := by
  refine l2 (v := 0) hi_157_0 rfl ?_
  refine l20s (v := .ref 5) hS cs_0 hi_157_1 rfl ?_
  refine l32 (as := [.ref 5]) (la := [some (.ref 5)]) (rest := []) hi_157_4 (am_hd0 (M := 157) (by decide) 4) rfl rfl rfl (fun N' d' _ => lc155 (N := N') (d := d') hS ) ?_ (fun _ q => nomatch q.1)
  rintro v3 S1 ⟨ev3, h2⟩
  cases ev3
  show am_L _ _ _ _ _ [some (.ref 0)] [.int (c155 s)] _ _
  refine l33 hi_157_7 ⟨?_, ?_⟩
  · rfl
  · exact h2
