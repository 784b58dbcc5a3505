/-! NAMES AND FAULTS OF BOTH SIDES: a function begins -/
section RNB
variable {s : cS} {k : kS} {f : xF} {r : List xF}
theorem npush_6 {x y : Nat} : (nn (npush s x) y).f 6 1 = s.f 6 1 := by
  show (nf s 13 1 (s.f 13 1 + 1)).f 6 1 = _
  rw [nf_ne (by decide)]
theorem c46_30_6 {y1 z0 : Int32} {y2 : Nat} : (c46_30 s y1 y2 z0 y2).1.f 6 1 = s.f 6 1 := by
  unfold c46_30 c46_90
  dsimp only
  rw [(fr_c51 _).1 6 1 (by decide) (Nat.zero_testBit _), npush_6]
  rfl
theorem c13_6 (h : (s.f 5 1).toInt ≤ (s.f 6 1).toInt) : (c13 s).1.f 6 1 = s.f 6 1 ∧ s.f 5 1 < s.f 6 1 ∨ (c13 s).1.f 6 1 = s.f 5 1 + 1 := by
  by_cases c1 : s.f 5 1 < s.f 6 1
  · refine Or.inl ⟨?_, c1⟩
    unfold c13
    rw [if_pos c1]
    show (nf _ 5 1 _).f 6 1 = _
    rw [nf_ne (by decide), c29_o.2.2.2.2.2.1]
  · refine Or.inr ?_
    have e : s.f 6 1 = s.f 5 1 := by
      rw [i_lt] at c1
      exact Int32.toInt_inj.mp (by omega)
    unfold c13
    rw [if_neg c1]
    show (nf _ 5 1 _).f 6 1 = _
    rw [nf_ne (by decide), c29_o.2.2.2.2.2.1]
    show (nf s 6 1 (s.f 6 1 + 1)).f 6 1 = _
    rw [nf_at, e]
theorem SZ_bg {n : Nat} {X : List xF} (hz : SZ (((n, [], [], [], 0) : xF) :: X)) : SZ X := by
  unfold SZ at hz ⊢
  have e1 : (fL (((n, [], [], [], 0) : xF) :: X)).length = (fL X).length := by show (fL X ++ ([] ++ [])).length = _; rw [List.append_nil, List.append_nil]
  have e2 : (fBl (((n, [], [], [], 0) : xF) :: X)).length = (fBl X).length := by show (fBl X ++ []).length = _; rw [List.append_nil]
  have e3 : (fLab (((n, [], [], [], 0) : xF) :: X)).length = (fLab X).length := by show (fLab X ++ []).length = _; rw [List.append_nil]
  have e4 : (fGo (((n, [], [], [], 0) : xF) :: X)).length = (fGo X).length := by show (fGo X ++ []).length = _; rw [List.append_nil]
  have e5 : fLp (((n, [], [], [], 0) : xF) :: X) = fLp X := rfl
  have e6 : (((n, [], [], [], 0) : xF) :: X).length = X.length + 1 := rfl
  rw [e1, e2, e3, e4, e5, e6] at hz
  omega
/-- a function in a function begins -/
theorem RN.bgn {n : Nat} {w y2 ar : Int32} (h : RN s k (f :: r)) (hm : k.1 53 = xn n) (hn : n < 100000) (hz : SZ (((n + 1, [], [], [], 0) : xF) :: f :: r)) : RN (c46 s w).1 (k177 (ka (ka (ka (ka (kf (ka (ka (ka (ka (ka (ka (ka (kf k 53 ((k.1 53) + 1)) 54 (k.1 53) ar) 59 (k.1 53) y2) 55 (k.1 53) 0) 56 (k.1 53) 0) 58 (k.1 53) 0) 60 (k.1 53) 0) 67 (k.1 53) 0) 32 ((k.1 32) + 1)) 33 ((k.1 32) + 1) (k.1 53)) 34 ((k.1 32) + 1) (k.1 24)) 35 ((k.1 32) + 1) (k.1 44)) 36 ((k.1 32) + 1) (k.1 48)) 0).1 (((n + 1, [], [], [(0, [], [], 0)], 0) : xF) :: f :: r) ∧ (c46 s w).2 = n + 1 ∧ (c46 s w).1.f 2 = s.f 2 ∧ (c46 s w).1.b (n + 1) 2 = xn n := by
  obtain ⟨h1, h2, h3, h4, h5, ⟨n', h6, h7, h8⟩, h9⟩ := h
  have en : n' = n := by
    have : (xn n').toInt = (xn n).toInt := by rw [← h6, hm]
    rw [xn_i (by omega), xn_i (by omega)] at this
    omega
  subst en
  have e5 : s.f 5 1 = xn n' := h5.trans hm
  have e5i : (s.f 5 1).toInt = n' := by rw [e5, xn_i (by omega)]
  have e5n : (s.f 5 1).toInt.toNat = n' := by omega
  obtain ⟨x1, x2, x3, x4, x5, x6⟩ := h1.bgn (w := w) (SZ_bg hz) (fun g hg => by have := h8 g hg; omega) (fun g hg => by have := h8 g hg; omega)
  rw [e5n] at x1 x2 x6
  have y1 := h2.bgn (y2 := y2) (ar := ar) hz hm (by omega) h8
  refine ⟨⟨x1, y1, ⟨⟨Nat.le_refl _, fun l hl => absurd hl List.not_mem_nil, fun g hg => absurd hg List.not_mem_nil, fun _ => ⟨rfl, rfl⟩, fun _ => rfl, trivial⟩, List.cons_ne_nil _ _, fun q hq => absurd hq List.not_mem_nil, h3⟩, ?_, ?_, ⟨n' + 1, ?_, by omega, ?_⟩, ?_⟩, x2, x4, by rw [x6, e5]⟩
  · unfold FA at h4 ⊢
    rw [(fr_k177 _ _).1 8 rfl]
    show (k.1 8 ≠ 0 ∨ _) ↔ _
    rw [show (c46 s w).1.f 1 0 = s.f 1 0 from congrFun x3 0, ovX_c (r := f :: r), lmX_c (r := f :: r)]
    constructor
    · rintro (z | z | z)
      · rcases h4.mp (Or.inl z) with z | z
        · exact Or.inl z
        · exact Or.inr (Or.inr z)
      · exact absurd rfl z.1
      · rcases h4.mp (Or.inr z) with z | z
        · exact Or.inl z
        · exact Or.inr (Or.inr z)
    · rintro (z | ⟨b, hb, g, hg, -⟩ | z)
      · rcases h4.mpr (Or.inl z) with z | z
        · exact Or.inl z
        · exact Or.inr (Or.inr z)
      · rw [List.mem_singleton.mp hb] at hg
        exact absurd hg List.not_mem_nil
      · rcases h4.mpr (Or.inr z) with z | z
        · exact Or.inl z
        · exact Or.inr (Or.inr z)
  · rw [(fr_k177 _ _).1 53 rfl]
    show (c46 s w).1.f 5 1 = k.1 53 + 1
    rw [x5, h5]
  · rw [(fr_k177 _ _).1 53 rfl]
    show k.1 53 + 1 = _
    rw [hm, xn_succ (by omega)]
  · intro g hg
    rcases List.mem_cons.mp hg with rfl | hg
    · exact ⟨Nat.succ_le_succ (Nat.zero_le _), Nat.le_refl _⟩
    · have := h8 g hg
      exact ⟨this.1, by omega⟩
  · rw [x5]
    have q : (c46 s w).1.f 6 1 = (c13 s).1.f 6 1 := by
      unfold c46 c46_7
      split <;> exact c46_30_6
    rw [q]
    rcases c13_6 h9 with ⟨z1, z2⟩ | z
    · rw [z1, e5, xn_succ (by omega), xn_i (by omega)]
      rw [i_lt, e5i] at z2
      omega
    · rw [z]
      exact Int.le_refl _
end RNB
