/-! NAMES AND FAULTS OF BOTH SIDES: loops -/
/-- e loops have no block yet -/
def RE (e : Nat) (s : cS) (k : kS) (X : List xF) : Prop := XC e s X ∧ XK k X ∧ WFx X ∧ FA s k X ∧ NB s k X
section REP
variable {e : Nat} {s : cS} {k : kS} {f : xF} {r : List xF} {b b2 : xB} {bs : List xB}
theorem RE.of {X : List xF} (h : RN s k X) : RE 0 s k X := h
theorem RE.to {X : List xF} (h : RE 0 s k X) : RN s k X := h
theorem RE.frm {F T B G F' A' : Nat} {s' : cS} {k' : kS} {X : List xF} (h : RE e s k X) (hc : cFr F T B G s s') (hk : kFr F' A' k k') (c2 : F.testBit 209 = false) (c3 : F.testBit 16 = false) (c4 : F.testBit 81 = false) (c5 : F.testBit 97 = false) (c6 : T &&& 352403456 = 0) (c7 : B &&& 7712 = 0) (c8 : G &&& 3 = 0) (k1 : F' &&& 299208913453056 = 0) (k2 : A' &&& 78434616289001472 = 0) (k3 : F'.testBit 8 = false) (k4 : F'.testBit 53 = false) : RE e s' k' X := by
  obtain ⟨h1, h2, h3, h4, h5⟩ := h
  refine ⟨h1.fr hc c2 c6 c7 c8, h2.fr hk k1 k2 k3, h3, ?_, h5.same (hc.1 5 1 (by decide) c4) (hc.1 6 1 (by decide) c5) (hk.1 53 k4) (fun g hg => ⟨g, hg, rfl⟩)⟩
  unfold FA
  rw [hc.1 1 0 (by decide) c3, hk.1 8 k3]
  exact h4
theorem RE.lop {a : Int32} {X : List xF} (h : RE e s k X) (hz : fLp X + e < 1048576) : RE (e + 1) (c131 s a).1 k X := by
  obtain ⟨h1, h2, h3, h4, h5⟩ := h
  have hc := fr_c131 s a
  refine ⟨h1.lop hz, h2, h3, ?_, h5.same (hc.1 5 1 (by decide) (Nat.zero_testBit _)) (hc.1 6 1 (by decide) (Nat.zero_testBit _)) rfl (fun g hg => ⟨g, hg, rfl⟩)⟩
  unfold FA
  rw [hc.1 1 0 (by decide) (Nat.zero_testBit _)]
  exact h4
theorem RE.lcl {x : Nat} {X : List xF} (h : RE (e + 1) s k X) (hz : fLp X + e < 1048576) : RE e (c132 s x).1 k X := by
  obtain ⟨h1, h2, h3, h4, h5⟩ := h
  have hc := fr_c132 s x
  refine ⟨h1.lcl hz, h2, h3, ?_, h5.same (hc.1 5 1 (by decide) (Nat.zero_testBit _)) (hc.1 6 1 (by decide) (Nat.zero_testBit _)) rfl (fun g hg => ⟨g, hg, rfl⟩)⟩
  unfold FA
  rw [hc.1 1 0 (by decide) (Nat.zero_testBit _)]
  exact h4
theorem ov_xo {kd : Nat} : ovX (xo f kd :: r) ↔ ovX (f :: r) := by
  rw [ovX_c, ovX_c]
  show ovB (((f.2.1 ++ f.2.2.1).length, [], [], kd) :: f.2.2.2.1) ∨ _ ↔ _
  rw [ovB_c]
  constructor
  · rintro ((⟨g, hg, -⟩ | z) | z)
    · exact absurd hg List.not_mem_nil
    · exact Or.inl z
    · exact Or.inr z
  · rintro (z | z)
    · exact Or.inl (Or.inr z)
    · exact Or.inr z
theorem lm_xo {kd : Nat} : lmX (xo f kd :: r) ↔ lmX (f :: r) := by rw [lmX_c, lmX_c]; exact Iff.rfl
theorem wf_xo {kd : Nat} (h : WFx (f :: r)) (hp : f.2.2.1 = []) : WFx (xo f kd :: r) := by
  obtain ⟨w1, w2, w3, w4⟩ := h
  refine ⟨⟨?_, fun l hl => absurd hl List.not_mem_nil, fun g hg => absurd hg List.not_mem_nil, fun q => absurd q w2, fun _ => rfl, ?_⟩, List.cons_ne_nil _ _, w3, w4⟩
  · show (f.2.1 ++ f.2.2.1).length ≤ f.2.1.length
    rw [hp, List.append_nil]
    exact Nat.le_refl _
  · show WFb (f.2.1 ++ f.2.2.1).length f.2.2.2.1
    rw [hp, List.append_nil]
    exact w1
/-- the loop's block begins -/
theorem RE.opl (h : RE (e + 1) s k (f :: r)) (hz : SZ (f :: r)) (hp : f.2.2.1 = []) : RE e (c51 s).1 (k177 k 1).1 (xo f 1 :: r) := by
  obtain ⟨h1, h2, h3, h4, h5⟩ := h
  have hc := fr_c51 s
  have hk := fr_k177 k 1
  refine ⟨h1.opl hz, h2.opn hz hp (by decide) rfl, wf_xo h3 hp, ?_, h5.same (hc.1 5 1 (by decide) (Nat.zero_testBit _)) (hc.1 6 1 (by decide) (Nat.zero_testBit _)) (hk.1 53 rfl) (hd_same rfl)⟩
  unfold FA at h4 ⊢
  rw [hc.1 1 0 (by decide) (Nat.zero_testBit _), hk.1 8 rfl, ov_xo, lm_xo]
  exact h4
theorem XK.oph (h : XK k (f :: r)) : XK k (xo f 2 :: r) := by
  obtain ⟨h1, ⟨h3, h4⟩, ⟨h5, h6⟩, ⟨h7, h8⟩, h9, h10⟩ := h
  have eB : fkBl (xo f 2 :: r) = fkBl (f :: r) := rfl
  have eLab : fLab (xo f 2 :: r) = fLab (f :: r) := by
    show fLab r ++ (bLab f.2.2.2.1 ++ []) = fLab r ++ bLab f.2.2.2.1
    rw [List.append_nil]
  have eUm : fUm (xo f 2 :: r) = fUm (f :: r) := by
    show fUm r ++ (bUm f.2.2.2.1 ++ []) = fUm r ++ bUm f.2.2.2.1
    rw [List.append_nil]
  exact ⟨h1, ⟨by rw [eB]; exact h3, by rw [eB]; exact h4⟩, ⟨by rw [eLab]; exact h5, by rw [eLab]; exact h6⟩, ⟨by rw [eUm]; exact h7, by rw [eUm]; exact h8⟩, h9, h10⟩
/-- the class closes a block; the reference has done so -/
theorem RE.clsg {k' : kS} (h : RE e s k (f :: r)) (hz : SZ (f :: r)) (hb : f.2.2.2.1 = b :: b2 :: bs) (hp : f.2.2.1 = []) (y1 : XK k' (xc f :: r)) (y2 : k'.1 8 = k.1 8) (y3 : k'.1 53 = k.1 53) : RE (e + (if b.2.2.2 = 1 then 1 else 0)) (c81 s).1 k' (xc f :: r) := by
  obtain ⟨h1, h2, ⟨w1, w2, w3, w4⟩, h4, h5⟩ := h
  have zz := hz.l
  have hwb : WFb f.2.1.length (b :: b2 :: bs) := by rw [← hb]; exact w1
  obtain ⟨x1, x2⟩ := h1.cls hz hb hp hwb.1
  have hc := fr_c81 s
  have ex : xc f = (f.1, f.2.1.take b.1, [], (b2.1, b2.2.1, b2.2.2.1 ++ xcb b, b2.2.2.2) :: bs, f.2.2.2.2) := by
    unfold xc
    rw [hb]
  have hbl : b.1 ≤ 1000000 := by
    have : (fL (f :: r)).length = (fL r).length + (f.2.1 ++ f.2.2.1).length := by show (fL r ++ (f.2.1 ++ f.2.2.1)).length = _; rw [List.length_append]
    rw [hp, List.append_nil] at this
    have := hwb.1
    omega
  have hloc := xcb_loc hwb
  obtain ⟨v1, v2, v3, v4, v5, v6⟩ := hwb
  obtain ⟨u1, u2, u3, u4, u5, u6⟩ := v6
  have hov : ovX (f :: r) ↔ (∃ g ∈ b.2.2.1, ovr b.2.1 g) ∨ ovX (xc f :: r) := by
    rw [ovX_c, ovX_c, hb, ex, ovB_c, ovB_c]
    show _ ↔ _ ∨ (ovB ((b2.1, b2.2.1, b2.2.2.1 ++ xcb b, b2.2.2.2) :: bs) ∨ ovX r)
    rw [ovB_c]
    show _ ↔ _ ∨ (((∃ g ∈ b2.2.2.1 ++ xcb b, ovr b2.2.1 g) ∨ ovB bs) ∨ ovX r)
    have key : (∃ g ∈ b2.2.2.1 ++ xcb b, ovr b2.2.1 g) ↔ (∃ g ∈ b2.2.2.1, ovr b2.2.1 g) := by
      constructor
      · rintro ⟨g, hg, l, q1, q2, q3⟩
        rcases List.mem_append.mp hg with a | a
        · exact ⟨g, a, l, q1, q2, q3⟩
        · exfalso
          have hl : l ∈ b2.2.1 := List.mem_of_find?_eq_some q1
          obtain ⟨n', a1, a2, a3⟩ := u2 l hl
          have := hloc g a
          rw [a1, this] at q2
          apply q2
          rw [i_le, xn_i (by omega), xn_i (by omega)]
          omega
      · rintro ⟨g, hg, q⟩
        exact ⟨g, List.mem_append_left _ hg, q⟩
    rw [key]
    constructor
    · rintro ((z | z | z) | z)
      · exact Or.inl z
      · exact Or.inr (Or.inl (Or.inl z))
      · exact Or.inr (Or.inl (Or.inr z))
      · exact Or.inr (Or.inr z)
    · rintro (z | (z | z) | z)
      · exact Or.inl (Or.inl z)
      · exact Or.inl (Or.inr (Or.inl z))
      · exact Or.inl (Or.inr (Or.inr z))
      · exact Or.inr z
  have hlm : lmX (xc f :: r) ↔ lmX (f :: r) := by
    rw [lmX_c, lmX_c, ex]
    exact ⟨fun z => Or.inr (z.resolve_left (lmF_no rfl)), fun z => Or.inr (z.resolve_left (lmF_no hp))⟩
  refine ⟨x1, y1, ?_, ?_, h5.same (hc.1 5 1 (by decide) rfl) (hc.1 6 1 (by decide) rfl) y3 (hd_same (by rw [ex]))⟩
  · have tl : (f.2.1.take b.1).length = b.1 := by rw [List.length_take]; exact Nat.min_eq_left v1
    rw [ex]
    refine ⟨?_, List.cons_ne_nil _ _, fun q hq => absurd hq List.not_mem_nil, w4⟩
    show WFb (f.2.1.take b.1).length ((b2.1, b2.2.1, b2.2.2.1 ++ xcb b, b2.2.2.2) :: bs)
    rw [tl]
    refine ⟨u1, u2, fun g hg => ?_, u4, u5, u6⟩
    rcases List.mem_append.mp hg with a | a
    · exact u3 g a
    · exact ⟨b.1, hloc g a, u1, hbl⟩
  · unfold FA at h4 ⊢
    rw [y2, x2, hlm, h4, hov]
    constructor
    · rintro (z | z | z)
      · exact Or.inl (Or.inl z)
      · exact Or.inl (Or.inr z)
      · exact Or.inr z
    · rintro ((z | z) | z)
      · exact Or.inl z
      · exact Or.inr (Or.inl z)
      · exact Or.inr (Or.inr z)
theorem RE.wb (h : RE e s k (f :: r)) (hb : f.2.2.2.1 = b :: bs) : WFb f.2.1.length (b :: bs) := by
  have := h.2.2.1.1
  rw [hb] at this
  exact this
/-- a loop's block is closed: the loop is still there -/
theorem RE.cll (h : RE e s k (f :: r)) (hz : SZ (f :: r)) (hb : f.2.2.2.1 = b :: b2 :: bs) (hp : f.2.2.1 = []) (hk : b.2.2.2 = 1) : RE (e + 1) (c81 s).1 (k224 k).1 (xc f :: r) := by
  obtain ⟨y1, y2⟩ := h.2.1.cls hz hb (by rw [hk]; decide) (h.wb hb).1
  have := h.clsg hz hb hp y1 y2 ((fr_k224 k).1 53 rfl)
  rw [hk, if_pos rfl] at this
  exact this
/-- a for's hidden block is closed -/
theorem RE.clh (h : RE e s k (f :: r)) (hz : SZ (f :: r)) (hb : f.2.2.2.1 = b :: b2 :: bs) (hp : f.2.2.1 = []) (hk : b.2.2.2 = 2) (hst : kr k 40 (k.1 37) = xn ((fUm r).length + (bUm (b2 :: bs)).length)) : RE e (c81 s).1 (k256 k (xn b.1)).1 (xc f :: r) := by
  have hw := h.wb hb
  obtain ⟨y1, y2⟩ := h.2.1.unh hz hb hk (hw.2.2.2.2.1 hk) hw.1 hst
  have := h.clsg hz hb hp y1 y2 ((fr_k256 k (xn b.1)).1 53 rfl)
  rw [hk, if_neg (by decide)] at this
  exact this
end REP
