/-! NAMES AND FAULTS OF BOTH SIDES: constants, dots, locals that wait -/
section RNW
variable {s : cS} {k : kS} {f : xF} {r : List xF} {X : List xF}
theorem WFx.wv : ∀ {X : List xF}, WFx X → WV X := by
  intro X
  induction X with
  | nil => intro _; trivial
  | cons f r ih =>
    rintro ⟨w1, w2, w3, w4⟩
    refine ⟨fun q hq => ?_, ih w4⟩
    rcases (w3 q hq).1 with z | z | z <;> rw [z] <;> decide
/-- a fault of names that both note -/
theorem RN.nte {a a' w w' : Int32} (h : RN s k X) (ha : a ≠ 0) (ha' : a' ≠ 0) : RN (c76 s a w).1 (k191 k a' w').1 X := by
  obtain ⟨h1, h2, h3, h4, h5⟩ := h
  have hc := fr_c76 s a w
  have hk := fr_k191 k a' w'
  have f1 : (c76 s a w).1.f 1 0 ≠ 0 := c76_f ha
  have f2 : (k191 k a' w').1.1 8 ≠ 0 := k191_f ha'
  exact ⟨h1.fr hc rfl rfl rfl rfl, h2.frs hk rfl rfl (fun z => absurd z f2), h3, h4.both (P := True) ⟨fun _ => Or.inr trivial, fun _ => f1⟩ ⟨fun _ => Or.inr trivial, fun _ => f2⟩, h5.same (hc.1 5 1 (by decide) rfl) (hc.1 6 1 (by decide) rfl) (hk.1 53 rfl) (fun g hg => ⟨g, hg, rfl⟩)⟩
/-- a name is set: is it a constant -/
theorem RN.con {w w' : Int32} (h : RN s k X) (hz : SZ X) (hx : s.f 12 9 ≠ 0 ↔ xcon X (kr k 2 w')) : RN (c114 s w).1 (k237 k w').1 X := by
  obtain ⟨h1, h2, h3, h4, h5⟩ := h
  have hc := fr_c114 s w
  have hk := fr_k237 k w'
  obtain ⟨y1, y2⟩ := k237_c (w := w') h2 hz
  refine ⟨h1.fr hc rfl rfl rfl rfl, y1, h3, h4.both ?_ y2, h5.same (hc.1 5 1 (by decide) rfl) (hc.1 6 1 (by decide) rfl) (hk.1 53 rfl) (fun g hg => ⟨g, hg, rfl⟩)⟩
  rw [← hx]
  unfold c114
  by_cases c : c115 s = 0
  · rw [if_pos c]
    exact ⟨Or.inl, fun z => z.resolve_right (fun q => q c)⟩
  · rw [if_neg c]
    exact ⟨fun _ => Or.inr c, fun _ => c76_f (by decide)⟩
/-- may dots be here: both read the same -/
theorem RN.dot (h : RN s k (f :: r)) (hz : SZ (f :: r)) : kr k 56 (kr k 33 (k.1 32)) = s.b s.now 5 := by
  obtain ⟨h1, h2, h3, h4, h5, ⟨n, h6, h7, h8⟩, h9⟩ := h
  have zz := hz.l
  have hlen : (f :: r).length = r.length + 1 := rfl
  have hi := h8 f List.mem_cons_self
  have e1 : s.b s.now 5 = f.2.2.2.2 := by
    rw [h1.nw f r rfl]
    exact h1.xf.2.2.2.2.2.1
  have hf := h2.2.2.2.2.2
  have e2 : kr k 33 (k.1 32) = xn (f.1 - 1) := by
    show k.2 33 (k.1 32).toNatClampNeg = _
    rw [h2.dp hz, xn_nat (by omega)]
    exact xn_eq (by have := hf.1; omega) (by omega)
  rw [e1, e2]
  show k.2 56 (xn (f.1 - 1)).toNatClampNeg = _
  rw [xn_nat (by omega)]
  exact hf.2.2.2.2.1
/-- a local that waits -/
theorem RN.dcw {t w : Int32} (h : RN s k (f :: r)) (hz : SZ (f :: r)) : RN (c74 s t 0 w).1 k (xw f (t, 0, 0, 0) :: r) := by
  obtain ⟨h1, h2, ⟨w1, w2, w3, w4⟩, h4, h5⟩ := h
  have hc := fr_c74 s t 0 w
  have x2 := c74_ff (t := t) (st := 0) (w := w) h1 hz
  refine ⟨h1.dclw hz, h2.pnd, ⟨w1, w2, fun q hq => ?_, w4⟩, ?_, h5.same (hc.1 5 1 (by decide) rfl) (hc.1 6 1 (by decide) rfl) rfl (hd_same rfl)⟩
  · rcases List.mem_append.mp hq with a | a
    · exact w3 q a
    · rw [List.mem_singleton.mp a]
      exact ⟨Or.inl rfl, rfl⟩
  · unfold FA at h4 ⊢
    have e1 : ovX (xw f (t, 0, 0, 0) :: r) ↔ ovX (f :: r) := by rw [ovX_c, ovX_c]; exact Iff.rfl
    have e2 : lmX (xw f (t, 0, 0, 0) :: r) ↔ lmX (f :: r) ∨ 200 ≤ (f.2.1 ++ f.2.2.1).length := by
      rw [lmX_c, lmX_c]
      have l1 : (f.2.1 ++ (f.2.2.1 ++ [((t, 0, 0, 0) : xR)])).length = (f.2.1 ++ f.2.2.1).length + 1 := by
        rw [← List.append_assoc, List.length_append (as := f.2.1 ++ f.2.2.1)]
        rfl
      have l2 : lmF (xw f (t, 0, 0, 0)) ↔ 200 ≤ (f.2.1 ++ f.2.2.1).length := by
        show (f.2.2.1 ++ [_] ≠ [] ∧ 200 < (f.2.1 ++ (f.2.2.1 ++ [((t, 0, 0, 0) : xR)])).length) ↔ _
        rw [l1]
        refine ⟨fun z => by have := z.2; omega, fun z => ⟨fun q => ?_, by omega⟩⟩
        have := congrArg List.length q
        rw [List.length_append] at this
        cases this
      rw [l2]
      constructor
      · rintro (z | z)
        · exact Or.inr z
        · exact Or.inl (Or.inr z)
      · rintro ((z | z) | z)
        · exact Or.inl (by have := z.2; omega)
        · exact Or.inr z
        · exact Or.inl z
    rw [x2, e1, e2]
    constructor
    · rintro (z | z | z)
      · rcases h4.mp (Or.inl z) with z | z
        · exact Or.inl (Or.inl z)
        · exact Or.inr z
      · rcases h4.mp (Or.inr z) with z | z
        · exact Or.inl (Or.inl z)
        · exact Or.inr z
      · exact Or.inl (Or.inr z)
    · rintro ((z | z) | z)
      · rcases h4.mpr (Or.inl z) with z | z
        · exact Or.inl z
        · exact Or.inr (Or.inl z)
      · exact Or.inr (Or.inr z)
      · rcases h4.mpr (Or.inr z) with z | z
        · exact Or.inl z
        · exact Or.inr (Or.inl z)
/-- its attribute -/
theorem RN.mrk {q : xR} {p : List xR} {v : Int32} (h : RN s k (f :: r)) (hz : SZ (f :: r)) (hp : f.2.2.1 = p ++ [q]) (hq : q.2.1 = 0) (hv : v = 2 ∨ v = 6) : RN (c141 s v).1 k ((f.1, f.2.1, p ++ [(q.1, v, q.2.2)], f.2.2.2.1, f.2.2.2.2) :: r) := by
  obtain ⟨h1, h2, ⟨w1, w2, w3, w4⟩, h4, h5⟩ := h
  have hc := fr_c141 s v
  have x1 := h1.mrk (v := v) hz hp
  have ev : q.2.1 ||| v = v := by
    rw [hq]
    rcases hv with rfl | rfl <;> decide
  rw [ev] at x1
  refine ⟨x1, h2.pnd, ⟨w1, w2, fun q' hq' => ?_, w4⟩, ?_, h5.same (hc.1 5 1 (by decide) (Nat.zero_testBit _)) (hc.1 6 1 (by decide) (Nat.zero_testBit _)) rfl (hd_same rfl)⟩
  · rcases List.mem_append.mp hq' with a | a
    · exact w3 q' (by rw [hp]; exact List.mem_append_left _ a)
    · rw [List.mem_singleton.mp a]
      exact ⟨Or.inr hv, (w3 q (by rw [hp]; exact List.mem_append_right _ (List.mem_singleton.mpr rfl))).2⟩
  · unfold FA at h4 ⊢
    have e1 : ovX (((f.1, f.2.1, p ++ [(q.1, v, q.2.2)], f.2.2.2.1, f.2.2.2.2) : xF) :: r) ↔ ovX (f :: r) := by rw [ovX_c, ovX_c]
    have e2 : lmX (((f.1, f.2.1, p ++ [(q.1, v, q.2.2)], f.2.2.2.1, f.2.2.2.2) : xF) :: r) ↔ lmX (f :: r) := by
      rw [lmX_c, lmX_c]
      have : lmF (f.1, f.2.1, p ++ [(q.1, v, q.2.2)], f.2.2.2.1, f.2.2.2.2) ↔ lmF f := by
        unfold lmF
        rw [hp]
        simp only [List.length_append, List.length_singleton, ne_eq, List.append_eq_nil_iff, List.cons_ne_self, and_false, not_false_eq_true, true_and, reduceCtorEq]
      rw [this]
    rw [hc.1 1 0 (by decide) (Nat.zero_testBit _), e1, e2]
    exact h4
/-- those that waited are there -/
theorem RN.rvl {w : Int32} {n : Nat} (h : RN s k (f :: r)) (hz : SZ (f :: r)) (hs : SZ (xdn f (f.2.2.1.map rev1) :: r)) (hw : WA k n f.2.2.1) (h20 : k.1 20 = xn (n + f.2.2.1.length)) (hn : n + f.2.2.1.length ≤ 1000000) : RN (c149 s (xn f.2.1.length)).1 (k241 k w (xn n)).1 (xrv f :: r) ∧ (k241 k w (xn n)).1.1 20 = xn n := by
  obtain ⟨h1, h2, ⟨w1, w2, w3, w4⟩, h4, h5⟩ := h
  have hc := fr_c149 s (xn f.2.1.length)
  have hk := fr_k241 k w (xn n)
  obtain ⟨y1, y2, y3⟩ := h2.lend (w := w) hs hw h20 hn
  refine ⟨⟨h1.rvl hz, y1, ⟨WFb.mono ?_ w1, w2, fun q hq => absurd hq List.not_mem_nil, w4⟩, ?_, h5.same (hc.1 5 1 (by decide) (Nat.zero_testBit _)) (hc.1 6 1 (by decide) (Nat.zero_testBit _)) (hk.1 53 rfl) (hd_same rfl)⟩, y3⟩
  · show f.2.1.length ≤ (f.2.1 ++ f.2.2.1.map rev1).length
    rw [List.length_append]
    omega
  · unfold FA at h4 ⊢
    have e1 : ovX (xrv f :: r) ↔ ovX (f :: r) := by rw [ovX_c, ovX_c]; exact Iff.rfl
    have e2 : (lmX (xrv f :: r) ∨ ∃ j, j < f.2.2.1.length ∧ 200 ≤ f.2.1.length + j) ↔ lmX (f :: r) := by
      rw [lmX_c, lmX_c]
      constructor
      · rintro ((z | z) | ⟨j, z1, z2⟩)
        · exact absurd rfl z.1
        · exact Or.inr z
        · refine Or.inl ⟨fun q => ?_, ?_⟩
          · rw [q] at z1
            exact absurd z1 (Nat.not_lt_zero _)
          · rw [List.length_append]
            omega
      · rintro (⟨z1, z2⟩ | z)
        · rw [List.length_append] at z2
          have : f.2.2.1.length ≠ 0 := fun q => z1 (List.eq_nil_of_length_eq_zero q)
          exact Or.inr ⟨f.2.2.1.length - 1, by omega, by omega⟩
        · exact Or.inl (Or.inr z)
    rw [hc.1 1 0 (by decide) (Nat.zero_testBit _), y2, e1, ← h4, ← e2]
    constructor
    · rintro ((z | z) | z)
      · exact Or.inl z
      · exact Or.inr (Or.inr z)
      · exact Or.inr (Or.inl z)
    · rintro (z | z | z)
      · exact Or.inl (Or.inl z)
      · exact Or.inr z
      · exact Or.inl (Or.inr z)
end RNW
