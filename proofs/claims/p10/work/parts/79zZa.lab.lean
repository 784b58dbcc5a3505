/-! NAMES AND FAULTS OF BOTH SIDES: a label -/
section RNL
variable {s : cS} {k : kS} {f : xF} {r : List xF} {b : xB} {bs : List xB}
theorem c84_seen {y : Int32} (h : XC 0 s (f :: r)) (hz : SZ (f :: r)) : c84 s y (s.b s.now 10) < 0 ↔ seen (bLab f.2.2.2.1) y = false := by
  have zz := hz.l
  have e10 : s.b s.now 10 = xn (fLab r).length := by rw [h.nw f r rfl]; exact h.xf.2.2.1
  have hL : TR s (.s 24) (fLab r ++ bLab f.2.2.2.1) := h.la
  have hzl : (fLab r ++ bLab f.2.2.2.1).length ≤ 1000000 := zz.2.2.1
  have hs : (flab (bLab f.2.2.2.1) y).isNone = !(seen (bLab f.2.2.2.1) y) := flab_seen
  rw [e10]
  rcases lab_of (t := y) hL hzl with ⟨j, l, q1, q2, q3⟩ | ⟨q1, q2⟩
  · have jl := (List.getElem?_eq_some_iff.mp q1).1
    rw [List.length_append] at hzl
    rw [q3]
    rw [q2] at hs
    have hs' : seen (bLab f.2.2.2.1) y = true := by
      cases hq : seen (bLab f.2.2.2.1) y with
      | true => rfl
      | false => rw [hq] at hs; cases hs
    rw [hs']
    refine ⟨fun z => ?_, fun z => nomatch z⟩
    rw [i_lt, xn_i (by omega)] at z
    have e0 : (0 : Int32).toInt = 0 := rfl
    omega
  · rw [q2]
    rw [q1] at hs
    have hs' : seen (bLab f.2.2.2.1) y = false := by
      cases hq : seen (bLab f.2.2.2.1) y with
      | true => rw [hq] at hs; cases hs
      | false => rfl
    exact ⟨fun _ => hs', fun _ => by decide⟩
theorem ovr_snoc {L : List xR} {l g : xR} (hl : flab L l.1 = none) : ovr (L ++ [l]) g ↔ ovr L g ∨ (g.1 = l.1 ∧ ¬ l.2.2.1 ≤ g.2.2.2 ∧ l.2.2.2 = 0) := by
  have e : flab (L ++ [l]) g.1 = match flab L g.1 with | some q => some q | none => if l.1 = g.1 then some l else none := by
    unfold flab
    rw [List.find?_append]
    cases List.find? (fun l => decide (l.1 = g.1)) L with
    | some q => rfl
    | none =>
      rw [Option.none_or, List.find?_cons]
      by_cases c : l.1 = g.1
      · rw [decide_eq_true c, if_pos c]
      · rw [decide_eq_false c, if_neg c]
        rfl
  unfold ovr
  rw [e]
  cases hq : flab L g.1 with
  | some q =>
    constructor
    · exact Or.inl
    · rintro (z | ⟨z1, z2, z3⟩)
      · exact z
      · rw [z1, hl] at hq
        cases hq
  | none =>
    dsimp only
    constructor
    · rintro ⟨q, z1, z2, z3⟩
      by_cases c : l.1 = g.1
      · rw [if_pos c] at z1
        cases z1
        exact Or.inr ⟨c.symm, z2, z3⟩
      · rw [if_neg c] at z1
        cases z1
    · rintro (⟨q, z1, -⟩ | ⟨z1, z2, z3⟩)
      · cases z1
      · exact ⟨l, by rw [if_pos z1.symm], z2, z3⟩
/-- a label: the class's row, the reference's -/
theorem RN.lab {y1 y2 z0 w : Int32} (h : RN s k (f :: r)) (hz : SZ (f :: r)) (hb : f.2.2.2.1 = b :: bs) (hp : f.2.2.1 = []) (hk : b.2.2.2 ≠ 2) (ht : kr k 2 w = y2) (hae : ∀ s' : cS, cFr 196608 0 0 0 s s' → c120 s' = k231 k) (hke : ∀ k' : kS, kFr 768 0 k k' → k231 k' = k231 k) (h01 : k231 k = 0 ∨ k231 k = 1) : ∃ q, (c119_34 s y1 y2 z0).2 = some 0 ∧ RN (c119_34 s y1 y2 z0).1 (k229 k w).1 (xla f q :: r) := by
  obtain ⟨h1, h2, ⟨w1, w2, w3, w4⟩, h4, h5⟩ := h
  have zz := hz.l
  have hl : f.2.1.length ≤ 1000000 := by
    have : (fL (f :: r)).length = (fL r).length + (f.2.1 ++ f.2.2.1).length := by show (fL r ++ (f.2.1 ++ f.2.2.1)).length = _; rw [List.length_append]
    rw [hp, List.append_nil] at this
    omega
  have hwb : WFb f.2.1.length (b :: bs) := by rw [← hb]; exact w1
  have hs := c84_seen (y := y2) h1 hz
  have hks := k230_k (y := y2) h2 hz
  have hc := fr_c119_34 s y1 y2 z0
  have hkf := fr_k229 k w
  -- the class
  have cl : ∃ s1 i1, cFr 196608 0 0 0 s s1 ∧ (s1.f 1 0 ≠ 0 ↔ s.f 1 0 ≠ 0 ∨ seen (bLab f.2.2.2.1) y2 = true) ∧ c119_34 s y1 y2 z0 = ((tad s1 (.s 24) y2 i1 (xn f.2.1.length) (k231 k)).1, some 0) := by
    have row : ∀ s1 : cS, cFr 196608 0 0 0 s s1 → c119_69 s1 y2 = ((tad s1 (.s 24) y2 (c98 s1) (xn f.2.1.length) (k231 k)).1, some 0) := fun s1 hf => by
      have e75 : c75 s1 = xn f.2.1.length := by
        have := (h1.fr hf rfl rfl rfl rfl).cnt hz
        rw [hp, List.append_nil] at this
        exact this
      unfold c119_69 c122
      rw [e75, hae s1 hf]
      rcases h01 with e | e
      · rw [e, if_pos rfl]
      · rw [e, if_neg (by decide)]
    unfold c119_34
    by_cases c : c84 s y2 (s.b s.now 10) < 0
    · rw [if_pos c]
      refine ⟨s, c98 s, cFr.refl, ?_, row s cFr.refl⟩
      have := hs.mp c
      rw [this]
      exact ⟨Or.inl, fun z => z.resolve_right (fun q => nomatch q)⟩
    · rw [if_neg c]
      refine ⟨(c76 s 13 y1).1, _, fr_c76 s 13 y1, ⟨fun _ => Or.inr ?_, fun _ => c76_f (by decide)⟩, row _ (fr_c76 s 13 y1)⟩
      cases hq : seen (bLab f.2.2.2.1) y2 with
      | true => rfl
      | false => exact absurd (hs.mpr hq) c
  obtain ⟨s1, i1, a1, a2, a3⟩ := cl
  -- the reference
  have e232 : ∀ k' : kS, XK k' (f :: r) → k232 k' = xn b.1 := fun k' hx => by
    have hzk := hz.k
    have eB : fkBl (f :: r) = (fkBl r ++ kBl (kL r).length (fLab r).length (fUm r).length r.length bs) ++ [(xn ((kL r).length + b.1), xn ((fLab r).length + (bLab bs).length), xn ((fUm r).length + (bUm bs).length), xn r.length, if b.2.2.2 = 1 then 1 else 0)] := by
      show fkBl r ++ kBl _ _ _ _ f.2.2.2.1 = _
      rw [hb]
      show fkBl r ++ (if b.2.2.2 = 2 then _ else _) = _
      rw [if_neg hk, List.append_assoc]
    generalize hB0 : fkBl r ++ kBl (kL r).length (fLab r).length (fUm r).length r.length bs = B0 at eB
    have zB : (fkBl (f :: r)).length = B0.length + 1 := by rw [eB, List.length_append]; rfl
    have hrow := hx.2.1.2 B0.length _ (by rw [eB, List.getElem?_append_right (Nat.le_refl _), Nat.sub_self]; rfl)
    have e37 : k'.1 37 - 1 = xn B0.length := by
      rw [hx.2.1.1, zB]
      have := xn_sub (n := 1) (m := B0.length) (by omega)
      rw [Nat.add_comm 1] at this
      exact this
    have zL : (kL (f :: r)).length = (kL r).length + f.2.1.length := by show (kL r ++ f.2.1).length = _; rw [List.length_append]
    show k'.2 38 (k'.1 37 - 1).toNatClampNeg - k'.2 34 (k'.1 32).toNatClampNeg = _
    rw [e37, xn_nat (by omega), hrow.1, hx.dp hz, xn_nat (by have : (f :: r).length = r.length + 1 := rfl; omega), hx.2.2.2.2.2.2.1]
    exact xn_sub (by have := hwb.1; omega)
  have rf : ∃ k1, kFr 768 0 k k1 ∧ (k1.1 8 ≠ 0 ↔ k.1 8 ≠ 0 ∨ seen (bLab f.2.2.2.1) y2 = true) ∧ k229 k w = k229_40 k1 y2 (if k231 k = 0 then xn f.2.1.length else xn b.1) := by
    have row : ∀ k1 : kS, kFr 768 0 k k1 → (k1.1 8 = 0 → k.1 8 = 0) → k229_22 k1 y2 = k229_40 k1 y2 (if k231 k = 0 then xn f.2.1.length else xn b.1) := fun k1 hf hs => by
      have hx : XK k1 (f :: r) := h2.frs hf rfl rfl hs
      unfold k229_22
      rw [hke k1 hf, hx.cnt hz, e232 k1 hx]
      split <;> rfl
    unfold k229
    rw [ht]
    by_cases c : k230 k y2 < 0
    · rw [if_pos c]
      refine ⟨k, kFr.refl, ?_, row k kFr.refl id⟩
      have := hks.mp c
      rw [this]
      exact ⟨Or.inl, fun z => z.resolve_right (fun q => nomatch q)⟩
    · rw [if_neg c]
      refine ⟨(k191 k 13 w).1, fr_k191 k 13 w, ⟨fun _ => Or.inr ?_, fun _ => k191_f (by decide)⟩, row _ (fr_k191 k 13 w) (fun z => absurd z (k191_f (by decide)))⟩
      cases hq : seen (bLab f.2.2.2.1) y2 with
      | true => rfl
      | false => exact absurd (hks.mpr hq) c
  obtain ⟨k1, b1, b2', b3⟩ := rf
  have hx1 : XK k1 (f :: r) := h2.frs b1 rfl rfl (fun z => Classical.byContradiction (fun y => b2'.mpr (Or.inl y) z))
  obtain ⟨c1, c2⟩ := k229_40_k (y := y2) (z := if k231 k = 0 then xn f.2.1.length else xn b.1) (i1 := i1) (i2 := k231 k) hx1 hz hb hk
  have hs1 : XC 0 s1 (f :: r) := h1.fr a1 rfl rfl rfl rfl
  have ex : xla f (y2, i1, xn f.2.1.length, k231 k) = (f.1, f.2.1, f.2.2.1, (b.1, b.2.1 ++ [(y2, i1, xn f.2.1.length, k231 k)], b.2.2.1, b.2.2.2) :: bs, f.2.2.2.2) := by unfold xla; rw [hb]
  refine ⟨(y2, i1, xn f.2.1.length, k231 k), by rw [a3], ?_⟩
  rw [a3, b3]
  have f24 : cFr 0 16777216 0 0 s1 (tad s1 (.s 24) y2 i1 (xn f.2.1.length) (k231 k)).1 := cFr.refl.tads rfl
  refine ⟨hs1.lba hz hb, c1, ?_, ?_, h5.same ?_ ?_ ?_ (hd_same (by rw [ex]))⟩
  · rw [ex]
    obtain ⟨v1, v2, v3, v4, v5, v6⟩ := hwb
    refine ⟨⟨v1, fun l hl' => ?_, v3, v4, fun z => absurd z hk, v6⟩, List.cons_ne_nil _ _, w3, w4⟩
    rcases List.mem_append.mp hl' with z | z
    · exact v2 l z
    · rw [List.mem_singleton.mp z]
      exact ⟨f.2.1.length, rfl, v1, Nat.le_refl _⟩
  · have elm : lmX (xla f (y2, i1, xn f.2.1.length, k231 k) :: r) ↔ lmX (f :: r) := by
      rw [lmX_c, lmX_c, ex]
      exact Iff.rfl
    unfold FA at h4 ⊢
    rw [f24.1 1 0 (by decide) (Nat.zero_testBit _), a2, elm]
    by_cases sn : seen (bLab f.2.2.2.1) y2 = true
    · refine ⟨fun _ => Or.inl (Or.inr sn), fun _ => Or.inl (c2.mpr (Or.inl (b2'.mpr (Or.inr sn))))⟩
    · have sn' : seen (bLab f.2.2.2.1) y2 = false := by rw [Bool.not_eq_true] at sn; exact sn
      have sb : seen (bLab (b :: bs)) y2 = false := by rw [← hb]; exact sn'
      have sl : flab b.2.1 y2 = none := by
        have h0 : seen (bLab bs ++ b.2.1) y2 = false := sb
        rw [seen_app] at h0
        have h9 : seen b.2.1 y2 = false := by
          cases hq : seen b.2.1 y2 with
          | true => rw [hq, Bool.or_true] at h0; cases h0
          | false => rfl
        have := flab_seen (L := b.2.1) (t := y2)
        rw [h9] at this
        cases hq : flab b.2.1 y2 with
        | none => rfl
        | some l => rw [hq] at this; cases this
      -- what the label newly makes a fault
      have eE : (∃ g ∈ b.2.2.1.filter (fun g => !(seen (bLab (b :: bs)) g.1)), g.1 = y2 ∧ ¬ (if k231 k = 0 then xn f.2.1.length else xn b.1) ≤ g.2.2.2) ↔ ∃ g ∈ b.2.2.1, g.1 = y2 ∧ ¬ xn f.2.1.length ≤ g.2.2.2 ∧ k231 k = 0 := by
        constructor
        · rintro ⟨g, g1, g2, g3⟩
          have g1' := (List.mem_filter.mp g1).1
          by_cases c : k231 k = 0
          · rw [if_pos c] at g3
            exact ⟨g, g1', g2, g3, c⟩
          · exfalso
            rw [if_neg c] at g3
            obtain ⟨n, n1, n2, n3⟩ := hwb.2.2.1 g g1'
            apply g3
            rw [n1, i_le, xn_i (by omega), xn_i (by omega)]
            omega
        · rintro ⟨g, g1, g2, g3, g4⟩
          refine ⟨g, List.mem_filter.mpr ⟨g1, ?_⟩, g2, by rw [if_pos g4]; exact g3⟩
          rw [g2, sb]
          rfl
      have eov : ovX (xla f (y2, i1, xn f.2.1.length, k231 k) :: r) ↔ ovX (f :: r) ∨ ∃ g ∈ b.2.2.1, g.1 = y2 ∧ ¬ xn f.2.1.length ≤ g.2.2.2 ∧ k231 k = 0 := by
        rw [ovX_c, ovX_c, hb, ex]
        show ovB ((b.1, b.2.1 ++ [(y2, i1, xn f.2.1.length, k231 k)], b.2.2.1, b.2.2.2) :: bs) ∨ _ ↔ _
        rw [ovB_c, ovB_c]
        show ((∃ g ∈ b.2.2.1, ovr (b.2.1 ++ [(y2, i1, xn f.2.1.length, k231 k)]) g) ∨ ovB bs) ∨ ovX r ↔ _
        constructor
        · rintro ((⟨g, g1, g2⟩ | z) | z)
          · rcases (ovr_snoc (l := (y2, i1, xn f.2.1.length, k231 k)) sl).mp g2 with q | q
            · exact Or.inl (Or.inl (Or.inl ⟨g, g1, q⟩))
            · exact Or.inr ⟨g, g1, q.1, q.2.1, q.2.2⟩
          · exact Or.inl (Or.inl (Or.inr z))
          · exact Or.inl (Or.inr z)
        · rintro (((⟨g, g1, g2⟩ | z) | z) | ⟨g, g1, g2, g3, g4⟩)
          · exact Or.inl (Or.inl ⟨g, g1, (ovr_snoc (l := (y2, i1, xn f.2.1.length, k231 k)) sl).mpr (Or.inl g2)⟩)
          · exact Or.inl (Or.inr z)
          · exact Or.inr z
          · exact Or.inl (Or.inl ⟨g, g1, (ovr_snoc (l := (y2, i1, xn f.2.1.length, k231 k)) sl).mpr (Or.inr ⟨g2, g3, g4⟩)⟩)
      rw [c2, b2', eE, eov]
      constructor
      · rintro (((z | z) | z) | z)
        · rcases h4.mp (Or.inl z) with q | q
          · exact Or.inl (Or.inl q)
          · exact Or.inr (Or.inl q)
        · exact absurd z sn
        · exact Or.inr (Or.inr z)
        · rcases h4.mp (Or.inr z) with q | q
          · exact Or.inl (Or.inl q)
          · exact Or.inr (Or.inl q)
      · rintro ((z | z) | (z | z))
        · rcases h4.mpr (Or.inl z) with q | q
          · exact Or.inl (Or.inl (Or.inl q))
          · exact Or.inr q
        · exact absurd z sn
        · rcases h4.mpr (Or.inr z) with q | q
          · exact Or.inl (Or.inl (Or.inl q))
          · exact Or.inr q
        · exact Or.inl (Or.inr z)
  · rw [f24.1 5 1 (by decide) (Nat.zero_testBit _), a1.1 5 1 (by decide) rfl]
  · rw [f24.1 6 1 (by decide) (Nat.zero_testBit _), a1.1 6 1 (by decide) rfl]
  · rw [← b3]
    exact hkf.1 53 rfl
end RNL
