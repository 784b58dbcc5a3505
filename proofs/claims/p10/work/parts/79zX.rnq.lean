/-! NAMES AND FAULTS OF BOTH SIDES: blocks begin, locals, gotos, breaks, constants -/
section RNQ
variable {s : cS} {k : kS} {f : xF} {r : List xF} {b : xB} {bs : List xB}
theorem NB.same {s' : cS} {k' : kS} {X X' : List xF} (h : NB s k X) (e1 : s'.f 5 1 = s.f 5 1) (e2 : s'.f 6 1 = s.f 6 1) (e3 : k'.1 53 = k.1 53) (hx : ∀ g ∈ X', ∃ g' ∈ X, g'.1 = g.1) : NB s' k' X' := by
  obtain ⟨h5, ⟨n, h6, h7, h8⟩, h9⟩ := h
  refine ⟨by rw [e1, e3]; exact h5, ⟨n, by rw [e3]; exact h6, h7, fun g hg => ?_⟩, by rw [e1, e2]; exact h9⟩
  obtain ⟨g', q1, q2⟩ := hx g hg
  rw [← q2]
  exact h8 g' q1
theorem hd_same {f' : xF} (e : f'.1 = f.1) : ∀ g ∈ f' :: r, ∃ g' ∈ f :: r, g'.1 = g.1 := by
  intro g hg
  rcases List.mem_cons.mp hg with rfl | hg
  · exact ⟨f, List.mem_cons_self, e.symm⟩
  · exact ⟨g, List.mem_cons_of_mem _ hg, rfl⟩
theorem RN.opn (h : RN s k (f :: r)) (hz : SZ (f :: r)) (hp : f.2.2.1 = []) : RN (c51 s).1 (k177 k 0).1 (xo f 0 :: r) := by
  obtain ⟨h1, h2, ⟨w1, w2, w3, w4⟩, h4, h5⟩ := h
  have hc := fr_c51 s
  have hk := fr_k177 k 0
  refine ⟨h1.opn hz (by decide), h2.opn hz hp (by decide) rfl, ⟨⟨?_, fun l hl => absurd hl List.not_mem_nil, fun g hg => absurd hg List.not_mem_nil, fun q => absurd q w2, fun _ => rfl, ?_⟩, List.cons_ne_nil _ _, w3, w4⟩, ?_, h5.same (hc.1 5 1 (by decide) (Nat.zero_testBit _)) (hc.1 6 1 (by decide) (Nat.zero_testBit _)) (hk.1 53 rfl) (hd_same rfl)⟩
  · show (f.2.1 ++ f.2.2.1).length ≤ f.2.1.length
    rw [hp, List.append_nil]
    exact Nat.le_refl _
  · show WFb (f.2.1 ++ f.2.2.1).length f.2.2.2.1
    rw [hp, List.append_nil]
    exact w1
  · unfold FA at h4 ⊢
    rw [hc.1 1 0 (by decide) (Nat.zero_testBit _), hk.1 8 rfl]
    have e1 : ovX (xo f 0 :: r) ↔ ovX (f :: r) := by
      rw [ovX_c, ovX_c]
      show ovB (((f.2.1 ++ f.2.2.1).length, [], [], 0) :: f.2.2.2.1) ∨ _ ↔ _
      rw [ovB_c]
      constructor
      · rintro ((⟨g, hg, -⟩ | z) | z)
        · exact absurd hg List.not_mem_nil
        · exact Or.inl z
        · exact Or.inr z
      · rintro (z | z)
        · exact Or.inl (Or.inr z)
        · exact Or.inr z
    have e2 : lmX (xo f 0 :: r) ↔ lmX (f :: r) := by rw [lmX_c, lmX_c]; exact Iff.rfl
    rw [e1, e2]
    exact h4
theorem RN.dcl {t st w c cl w' : Int32} (h : RN s k (f :: r)) (hz : SZ (f :: r)) (hp : f.2.2.1 = []) (hv : st &&& 1 ≠ 0) (hc0 : c ≠ 0 ↔ st &&& 2 ≠ 0) : RN (c74 s t st w).1 (k196 k t c cl w').1 (xd f (t, st, 0, 0) :: r) := by
  obtain ⟨h1, h2, ⟨w1, w2, w3, w4⟩, h4, h5⟩ := h
  have hc := fr_c74 s t st w
  have hk := fr_k196 k t c cl w'
  obtain ⟨y1, y2⟩ := k196_k (t := t) (cl := cl) (w := w') h2 hz hv (fun _ => hc0)
  have x2 := c74_ff (t := t) (st := st) (w := w) h1 hz
  rw [hp, List.append_nil] at x2
  refine ⟨h1.dcl hz hp, y1, ⟨WFb.mono ?_ w1, w2, w3, w4⟩, ?_, h5.same (hc.1 5 1 (by decide) rfl) (hc.1 6 1 (by decide) rfl) (hk.1 53 rfl) (hd_same rfl)⟩
  · show f.2.1.length ≤ (f.2.1 ++ [_]).length
    rw [List.length_append]
    omega
  · unfold FA at h4 ⊢
    have e1 : ovX (xd f (t, st, 0, 0) :: r) ↔ ovX (f :: r) := by rw [ovX_c, ovX_c]; exact Iff.rfl
    have e2 : lmX (xd f (t, st, 0, 0) :: r) ↔ lmX (f :: r) := by
      rw [lmX_c, lmX_c]
      exact ⟨fun z => Or.inr (z.resolve_left (lmF_no hp)), fun z => Or.inr (z.resolve_left (lmF_no hp))⟩
    rw [y2, x2, e1, e2]
    constructor
    · rintro ((z | z) | z)
      · rcases h4.mp (Or.inl z) with z | z
        · exact Or.inl (Or.inl z)
        · exact Or.inr z
      · exact Or.inl (Or.inr z)
      · rcases h4.mp (Or.inr z) with z | z
        · exact Or.inl (Or.inl z)
        · exact Or.inr z
    · rintro ((z | z) | z)
      · rcases h4.mpr (Or.inl z) with z | z
        · exact Or.inl (Or.inl z)
        · exact Or.inr z
      · exact Or.inl (Or.inr z)
      · rcases h4.mpr (Or.inr z) with z | z
        · exact Or.inl (Or.inl z)
        · exact Or.inr z
theorem RN.gto {w nm lv : Int32} (h : RN s k (f :: r)) (hz : SZ (f :: r)) (hb : f.2.2.2.1 = b :: bs) (hp : f.2.2.1 = []) : RN (c127 s (kr k 2 nm) w lv (c75 s)).1 (k234 k w nm).1 (xgo f (kr k 2 nm, w, lv, xn f.2.1.length) :: r) := by
  obtain ⟨h1, h2, ⟨w1, w2, w3, w4⟩, h4, h5⟩ := h
  have zz := hz.l
  have ec : c75 s = xn f.2.1.length := by
    have := h1.cnt hz
    rw [hp, List.append_nil] at this
    exact this
  have hl : f.2.1.length ≤ 1000000 := by
    have : (fL (f :: r)).length = (fL r).length + (f.2.1 ++ f.2.2.1).length := by show (fL r ++ (f.2.1 ++ f.2.2.1)).length = _; rw [List.length_append]
    rw [hp, List.append_nil] at this
    omega
  have hc := fr_c127 s (kr k 2 nm) w lv (c75 s)
  have hk := fr_k234 k w nm
  obtain ⟨y1, y2⟩ := k234_k (w := w) (nm := nm) (lv := lv) h2 hz hb
  have hwb : WFb f.2.1.length (b :: bs) := by rw [← hb]; exact w1
  have ex : xgo f (kr k 2 nm, w, lv, xn f.2.1.length) = (f.1, f.2.1, f.2.2.1, (b.1, b.2.1, b.2.2.1 ++ [(kr k 2 nm, w, lv, xn f.2.1.length)], b.2.2.2) :: bs, f.2.2.2.2) := by unfold xgo; rw [hb]
  refine ⟨?_, y1, ?_, ?_, h5.same (hc.1 5 1 (by decide) (Nat.zero_testBit _)) (hc.1 6 1 (by decide) (Nat.zero_testBit _)) (hk.1 53 rfl) (hd_same (by rw [ex]))⟩
  · rw [ec]
    exact h1.gto hz hb
  · rw [ex]
    obtain ⟨v1, v2, v3, v4, v5, v6⟩ := hwb
    refine ⟨⟨v1, v2, fun g hg => ?_, v4, v5, v6⟩, List.cons_ne_nil _ _, w3, w4⟩
    rcases List.mem_append.mp hg with a | a
    · exact v3 g a
    · rw [List.mem_singleton.mp a]
      exact ⟨f.2.1.length, rfl, v1, hl⟩
  · unfold FA at h4 ⊢
    have e1 : ovX (xgo f (kr k 2 nm, w, lv, xn f.2.1.length) :: r) ↔ ovX (f :: r) := by
      rw [ovX_c, ovX_c, hb, ex]
      show ovB ((b.1, b.2.1, b.2.2.1 ++ [(kr k 2 nm, w, lv, xn f.2.1.length)], b.2.2.2) :: bs) ∨ _ ↔ _
      rw [ovB_c, ovB_c]
      have key : (∃ g ∈ b.2.2.1 ++ [(kr k 2 nm, w, lv, xn f.2.1.length)], ovr b.2.1 g) ↔ ∃ g ∈ b.2.2.1, ovr b.2.1 g := by
        constructor
        · rintro ⟨g, hg, l, q1, q2, q3⟩
          rcases List.mem_append.mp hg with a | a
          · exact ⟨g, a, l, q1, q2, q3⟩
          · exfalso
            rw [List.mem_singleton.mp a] at q1 q2
            obtain ⟨n', a1, a2, a3⟩ := hwb.2.1 l (List.mem_of_find?_eq_some q1)
            apply q2
            rw [a1, i_le]
            show (xn n').toInt ≤ (xn f.2.1.length).toInt
            rw [xn_i (by omega), xn_i (by omega)]
            omega
        · rintro ⟨g, hg, q⟩
          exact ⟨g, List.mem_append_left _ hg, q⟩
      show ((∃ g ∈ b.2.2.1 ++ [(kr k 2 nm, w, lv, xn f.2.1.length)], ovr b.2.1 g) ∨ ovB bs) ∨ _ ↔ _
      rw [key]
    have e2 : lmX (xgo f (kr k 2 nm, w, lv, xn f.2.1.length) :: r) ↔ lmX (f :: r) := by
      rw [lmX_c, lmX_c, ex]
      exact Iff.rfl
    rw [hc.1 1 0 (by decide) (Nat.zero_testBit _), y2, e1, e2]
    exact h4
/-- a fault that both note at once -/
theorem FA.both {s' : cS} {k' : kS} {X : List xF} {P : Prop} (h : FA s k X) (h1 : s'.f 1 0 ≠ 0 ↔ s.f 1 0 ≠ 0 ∨ P) (h2 : k'.1 8 ≠ 0 ↔ k.1 8 ≠ 0 ∨ P) : FA s' k' X := by
  unfold FA at h ⊢
  rw [h1, h2]
  constructor
  · rintro ((z | z) | z)
    · rcases h.mp (Or.inl z) with z | z
      · exact Or.inl (Or.inl z)
      · exact Or.inr z
    · exact Or.inl (Or.inr z)
    · rcases h.mp (Or.inr z) with z | z
      · exact Or.inl (Or.inl z)
      · exact Or.inr z
  · rintro ((z | z) | z)
    · rcases h.mpr (Or.inl z) with z | z
      · exact Or.inl (Or.inl z)
      · exact Or.inr z
    · exact Or.inl (Or.inr z)
    · rcases h.mpr (Or.inr z) with z | z
      · exact Or.inl (Or.inl z)
      · exact Or.inr z
theorem RN.brk {y z w : Int32} (h : RN s k (f :: r)) (hz : SZ (f :: r)) : RN (c123_15 s y z).1 (k233 k w).1 (f :: r) := by
  obtain ⟨h1, h2, h3, h4, h5⟩ := h
  have hc := fr_c123_15 s y z
  have hk := fr_k233 k w
  obtain ⟨y1, y2⟩ := k233_k (w := w) h2 hz
  exact ⟨h1.fr hc rfl rfl rfl rfl, y1, h3, h4.both (c123_f h1 hz) y2, h5.same (hc.1 5 1 (by decide) rfl) (hc.1 6 1 (by decide) rfl) (hk.1 53 rfl) (hd_same rfl)⟩
end RNQ
