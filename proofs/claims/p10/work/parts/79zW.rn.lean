/-! NAMES AND FAULTS OF BOTH SIDES TOGETHER -/
def ovB (bs : List xB) : Prop := ∃ b ∈ bs, ∃ g ∈ b.2.2.1, ovr b.2.1 g
def ovX (X : List xF) : Prop := ∃ f ∈ X, ovB f.2.2.2.1
def lmF (f : xF) : Prop := f.2.2.1 ≠ [] ∧ 200 < (f.2.1 ++ f.2.2.1).length
def lmX (X : List xF) : Prop := ∃ f ∈ X, lmF f
def WFb (top : Nat) : List xB → Prop
  | [] => True
  | b :: r => b.1 ≤ top ∧ (∀ l ∈ b.2.1, ∃ n, l.2.2.1 = xn n ∧ b.1 ≤ n ∧ n ≤ top) ∧ (∀ g ∈ b.2.2.1, ∃ n, g.2.2.2 = xn n ∧ b.1 ≤ n ∧ n ≤ 1000000) ∧ (r = [] → b.1 = 0 ∧ b.2.2.2 = 0) ∧ (b.2.2.2 = 2 → b.2.1 = []) ∧ WFb b.1 r
def WFx : List xF → Prop
  | [] => True
  | f :: r => WFb f.2.1.length f.2.2.2.1 ∧ f.2.2.2.1 ≠ [] ∧ (∀ q ∈ f.2.2.1, (q.2.1 = 0 ∨ q.2.1 = 2 ∨ q.2.1 = 6) ∧ q.2.2 = (0, 0)) ∧ WFx r
theorem ovX_c {f : xF} {r : List xF} : ovX (f :: r) ↔ ovB f.2.2.2.1 ∨ ovX r := by
  constructor
  · rintro ⟨g, hg, h⟩
    rcases List.mem_cons.mp hg with rfl | hg
    · exact Or.inl h
    · exact Or.inr ⟨g, hg, h⟩
  · rintro (h | ⟨g, hg, h⟩)
    · exact ⟨f, List.mem_cons_self, h⟩
    · exact ⟨g, List.mem_cons_of_mem _ hg, h⟩
theorem lmX_c {f : xF} {r : List xF} : lmX (f :: r) ↔ lmF f ∨ lmX r := by
  constructor
  · rintro ⟨g, hg, h⟩
    rcases List.mem_cons.mp hg with rfl | hg
    · exact Or.inl h
    · exact Or.inr ⟨g, hg, h⟩
  · rintro (h | ⟨g, hg, h⟩)
    · exact ⟨f, List.mem_cons_self, h⟩
    · exact ⟨g, List.mem_cons_of_mem _ hg, h⟩
theorem ovB_c {b : xB} {r : List xB} : ovB (b :: r) ↔ (∃ g ∈ b.2.2.1, ovr b.2.1 g) ∨ ovB r := by
  constructor
  · rintro ⟨g, hg, h⟩
    rcases List.mem_cons.mp hg with rfl | hg
    · exact Or.inl h
    · exact Or.inr ⟨g, hg, h⟩
  · rintro (h | ⟨g, hg, h⟩)
    · exact ⟨b, List.mem_cons_self, h⟩
    · exact ⟨g, List.mem_cons_of_mem _ hg, h⟩
theorem lmF_no {f : xF} (h : f.2.2.1 = []) : ¬ lmF f := fun q => q.1 h
theorem WFb.mono {t t' : Nat} (ht : t ≤ t') : ∀ {bs : List xB}, WFb t bs → WFb t' bs := by
  intro bs
  cases bs with
  | nil => intro _; trivial
  | cons b r =>
    rintro ⟨h1, h2, h3, h4, h5, h6⟩
    refine ⟨Nat.le_trans h1 ht, fun l hl => ?_, h3, h4, h5, h6⟩
    obtain ⟨n, a, b, c⟩ := h2 l hl
    exact ⟨n, a, b, Nat.le_trans c ht⟩
/-- what both sides hold of names, and their faults -/
def FA (s : cS) (k : kS) (X : List xF) : Prop := (k.1 8 ≠ 0 ∨ lmX X) ↔ (s.f 1 0 ≠ 0 ∨ ovX X)
def NB (s : cS) (k : kS) (X : List xF) : Prop := s.f 5 1 = k.1 53 ∧ (∃ n, k.1 53 = xn n ∧ n ≤ 100000 ∧ ∀ f ∈ X, 1 ≤ f.1 ∧ f.1 ≤ n) ∧ (s.f 5 1).toInt ≤ (s.f 6 1).toInt
def RN (s : cS) (k : kS) (X : List xF) : Prop := XC 0 s X ∧ XK k X ∧ WFx X ∧ FA s k X ∧ NB s k X
theorem RN.frm {F T B G F' A' : Nat} {s s' : cS} {k k' : kS} {X : List xF} (h : RN s k X) (hc : cFr F T B G s s') (hk : kFr F' A' k k') (c2 : F.testBit 209 = false) (c3 : F.testBit 16 = false) (c4 : F.testBit 81 = false) (c5 : F.testBit 97 = false) (c6 : T &&& 352403456 = 0) (c7 : B &&& 7712 = 0) (c8 : G &&& 3 = 0) (k1 : F' &&& 299208913453056 = 0) (k2 : A' &&& 78434616289001472 = 0) (k3 : F'.testBit 8 = false) (k4 : F'.testBit 53 = false) : RN s' k' X := by
  obtain ⟨h1, h2, h3, h4, h5, ⟨n, h6, h7, h8⟩, h9⟩ := h
  have e10 := hc.1 1 0 (by decide) c3
  have e51 := hc.1 5 1 (by decide) c4
  have e61 := hc.1 6 1 (by decide) c5
  have e8 := hk.1 8 k3
  have e53 := hk.1 53 k4
  refine ⟨h1.fr hc c2 c6 c7 c8, h2.fr hk k1 k2 k3, h3, ?_, ?_, ?_, ?_⟩
  · unfold FA
    rw [e10, e8]
    exact h4
  · rw [e51, e53]; exact h5
  · exact ⟨n, by rw [e53]; exact h6, h7, h8⟩
  · rw [e51, e61]; exact h9
section RNP
variable {s : cS} {k : kS} {f : xF} {r : List xF} {b b2 : xB} {bs : List xB}
theorem min_xn {n m : Nat} (h1 : m ≤ n) (h2 : n ≤ 1000000) : xmin (xn n) (xn m) = xn m := by
  unfold xmin
  by_cases e : n = m
  · subst e
    rw [if_pos (Int32.le_refl _)]
  · rw [if_neg (by rw [i_le, xn_i (by omega), xn_i (by omega)]; omega)]
theorem xcb_loc {top : Nat} (h : WFb top (b :: bs)) : ∀ g ∈ xcb b, g.2.2.2 = xn b.1 := by
  intro g hg
  unfold xcb mvd at hg
  obtain ⟨g', h1, rfl⟩ := List.mem_map.mp hg
  obtain ⟨n, a1, a2, a3⟩ := h.2.2.1 g' (List.mem_filter.mp h1).1
  show xmin g'.2.2.2 (xn b.1) = _
  rw [a1]
  exact min_xn a2 a3
/-- a block in a block is closed -/
theorem RN.cls (h : RN s k (f :: r)) (hz : SZ (f :: r)) (hb : f.2.2.2.1 = b :: b2 :: bs) (hp : f.2.2.1 = []) (hk : b.2.2.2 = 0) : RN (c81 s).1 (k224 k).1 (xc f :: r) := by
  obtain ⟨h1, h2, ⟨w1, w2, w3, w4⟩, h4, h5, ⟨n, h6, h7, h8⟩, h9⟩ := h
  have zz := hz.l
  have hwb : WFb f.2.1.length (b :: b2 :: bs) := by rw [← hb]; exact w1
  obtain ⟨x1, x2⟩ := h1.cls hz hb hp hwb.1
  obtain ⟨y1, y2⟩ := h2.cls hz hb (by rw [hk]; decide) hwb.1
  rw [hk, if_neg (by decide)] at x1
  have hc := fr_c81 s
  have hkf := fr_k224 k
  have ex : xc f = (f.1, f.2.1.take b.1, [], (b2.1, b2.2.1, b2.2.2.1 ++ xcb b, b2.2.2.2) :: bs, f.2.2.2.2) := by
    unfold xc
    rw [hb]
  obtain ⟨v1, v2, v3, v4, v5, v6⟩ := hwb
  obtain ⟨u1, u2, u3, u4, u5, u6⟩ := v6
  have hov : ovX (f :: r) ↔ (∃ g ∈ b.2.2.1, ovr b.2.1 g) ∨ ovX (xc f :: r) := by
    rw [ovX_c, ovX_c, hb, ex, ovB_c, ovB_c]
    show _ ↔ _ ∨ (ovB ((b2.1, b2.2.1, b2.2.2.1 ++ xcb b, b2.2.2.2) :: bs) ∨ ovX r)
    rw [ovB_c]
    show _ ↔ _ ∨ (((∃ g ∈ b2.2.2.1 ++ xcb b, ovr b2.2.1 g) ∨ ovB bs) ∨ ovX r)
    have key : (∃ g ∈ b2.2.2.1 ++ xcb b, ovr b2.2.1 g) ↔ (∃ g ∈ b2.2.2.1, ovr b2.2.1 g) := by
      constructor
      · rintro ⟨g, hg, l, q1, q2, q3⟩
        rcases List.mem_append.mp hg with a | a
        · exact ⟨g, a, l, q1, q2, q3⟩
        · exfalso
          have hl : l ∈ b2.2.1 := List.mem_of_find?_eq_some q1
          obtain ⟨n', a1, a2, a3⟩ := u2 l hl
          have := xcb_loc (top := f.2.1.length) (b := b) (bs := b2 :: bs) ⟨v1, v2, v3, v4, v5, u1, u2, u3, u4, u5, u6⟩ g a
          rw [a1, this] at q2
          apply q2
          have hbl : b.1 ≤ 1000000 := by
            have : (fL (f :: r)).length = (fL r).length + (f.2.1 ++ f.2.2.1).length := by show (fL r ++ (f.2.1 ++ f.2.2.1)).length = _; rw [List.length_append]
            rw [hp, List.append_nil] at this
            omega
          rw [i_le, xn_i (by omega), xn_i (by omega)]
          omega
      · rintro ⟨g, hg, q⟩
        exact ⟨g, List.mem_append_left _ hg, q⟩
    rw [key]
    constructor
    · rintro ((z | z | z) | z)
      · exact Or.inl z
      · exact Or.inr (Or.inl (Or.inl z))
      · exact Or.inr (Or.inl (Or.inr z))
      · exact Or.inr (Or.inr z)
    · rintro (z | (z | z) | z)
      · exact Or.inl (Or.inl z)
      · exact Or.inl (Or.inr (Or.inl z))
      · exact Or.inl (Or.inr (Or.inr z))
      · exact Or.inr z
  have hlm : lmX (xc f :: r) ↔ lmX (f :: r) := by
    rw [lmX_c, lmX_c, ex]
    exact ⟨fun z => Or.inr (z.resolve_left (lmF_no rfl)), fun z => Or.inr (z.resolve_left (lmF_no hp))⟩
  refine ⟨x1, y1, ?_, ?_, ?_, ⟨n, ?_, h7, ?_⟩, ?_⟩
  · have tl : (f.2.1.take b.1).length = b.1 := by rw [List.length_take]; exact Nat.min_eq_left v1
    rw [ex]
    refine ⟨?_, List.cons_ne_nil _ _, fun q hq => absurd hq List.not_mem_nil, w4⟩
    show WFb (f.2.1.take b.1).length ((b2.1, b2.2.1, b2.2.2.1 ++ xcb b, b2.2.2.2) :: bs)
    rw [tl]
    refine ⟨u1, u2, fun g hg => ?_, u4, u5, u6⟩
    rcases List.mem_append.mp hg with a | a
    · exact u3 g a
    · have hbl : b.1 ≤ 1000000 := by
        have : (fL (f :: r)).length = (fL r).length + (f.2.1 ++ f.2.2.1).length := by show (fL r ++ (f.2.1 ++ f.2.2.1)).length = _; rw [List.length_append]
        rw [hp, List.append_nil] at this
        omega
      exact ⟨b.1, xcb_loc (top := f.2.1.length) (b := b) (bs := b2 :: bs) ⟨v1, v2, v3, v4, v5, u1, u2, u3, u4, u5, u6⟩ g a, u1, hbl⟩
  · unfold FA at h4 ⊢
    rw [y2, x2, hlm, h4, hov]
    constructor
    · rintro (z | z | z)
      · exact Or.inl (Or.inl z)
      · exact Or.inl (Or.inr z)
      · exact Or.inr z
    · rintro ((z | z) | z)
      · exact Or.inl z
      · exact Or.inr (Or.inl z)
      · exact Or.inr (Or.inr z)
  · rw [hc.1 5 1 (by decide) rfl, hkf.1 53 rfl]; exact h5
  · rw [hkf.1 53 rfl]; exact h6
  · intro g hg
    rcases List.mem_cons.mp hg with rfl | hg
    · rw [ex]
      exact h8 f List.mem_cons_self
    · exact h8 g (List.mem_cons_of_mem _ hg)
  · rw [hc.1 5 1 (by decide) rfl, hc.1 6 1 (by decide) rfl]; exact h9
end RNP
