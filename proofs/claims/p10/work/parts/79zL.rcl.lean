/-! THE REFERENCE OVER NAMES: a block is closed -/
theorem k196_k {k : kS} {f : xF} {r : List xF} {t c cl w st : Int32} (h : XK k (f :: r)) (hz : SZ (f :: r)) (hv : st &&& 1 ≠ 0) (hc : k.1 8 = 0 → (c ≠ 0 ↔ st &&& 2 ≠ 0)) : XK (k196 k t c cl w).1 (xd f (t, st, 0, 0) :: r) ∧ ((k196 k t c cl w).1.1 8 ≠ 0 ↔ k.1 8 ≠ 0 ∨ 200 ≤ f.2.1.length) := by
  have hcnt := h.cnt hz
  have hl : f.2.1.length ≤ 1000000 := by
    have h1 := hz.k.1
    have : (kL (f :: r)).length = (kL r).length + f.2.1.length := by
      show (kL r ++ f.2.1).length = _
      rw [List.length_append]
    omega
  have e200 : (200 : Int32).toInt = 200 := rfl
  unfold k196
  by_cases c1 : k197 k < 200
  · rw [if_pos c1]
    obtain ⟨q1, q2⟩ := k196_18_k (t := t) (cl := cl) h hz hv hc
    refine ⟨q1, ?_⟩
    rw [q2]
    rw [hcnt, i_lt, xn_i (by omega), e200] at c1
    exact ⟨Or.inl, fun q => q.resolve_right (by omega)⟩
  · rw [if_neg c1]
    obtain ⟨q1, q2⟩ := k196_18_k (t := t) (cl := cl) (h.frs (fr_k191 k 16 w) rfl rfl (fun z => absurd z (k191_f (by decide)))) hz hv (fun z => absurd z (k191_f (by decide)))
    refine ⟨q1, ?_⟩
    rw [q2]
    rw [hcnt, i_lt, xn_i (by omega), e200] at c1
    exact ⟨fun _ => Or.inr (by omega), fun _ => k191_f (by decide)⟩
/-- gotos' locals are made smaller -/
theorem clamp_go {b : kS × Int32 → Nat × (kS × Int32)} {B : kS → Int32} (hb : ∀ k i, b (k, i) = if k.1 48 ≤ i then (1, (k, i)) else (0, (ka k 52 i (xmin (kr k 52 i) (B k)), i + 1))) (hB : ∀ k i v, B (ka k 52 i v) = B k) : ∀ (G P : List xR) (k : kS), k.1 48 = xn (P ++ G).length → (P ++ G).length ≤ 1000000 → (∀ i q, (P ++ G)[i]? = some q → k.2 52 i = q.2.2.2) → ∃ m k', kwh b m (k, xn P.length) = (1, (k', xn (P.length + G.length))) ∧ kFr 0 4503599627370496 k k' ∧ ∀ i q, (P ++ G.map (xmv (B k)))[i]? = some q → k'.2 52 i = q.2.2.2 := by
  intro G
  induction G with
  | nil =>
    intro P k h1 hz h2
    rw [List.append_nil] at h1 hz
    have e : b (k, xn P.length) = (1, (k, xn P.length)) := by
      rw [hb, if_pos (by rw [h1]; exact Int32.le_refl _)]
    refine ⟨1, k, by rw [kwh_out (by rw [e]; exact Nat.succ_ne_zero _), e]; rfl, kFr.refl, h2⟩
  | cons g G ih =>
    intro P k h1 hz h2
    have hlen : (P ++ g :: G).length = P.length + (G.length + 1) := by rw [List.length_append]; rfl
    have hg : k.2 52 P.length = g.2.2.2 := h2 P.length g (by rw [List.getElem?_append_right (Nat.le_refl _), Nat.sub_self]; rfl)
    have e : b (k, xn P.length) = (0, (ka k 52 (xn P.length) (xmin g.2.2.2 (B k)), xn (P.length + 1))) := by
      rw [hb, if_neg (by rw [h1, i_le, xn_i (by omega), xn_i (by omega)]; omega), xn_succ (by omega)]
      have : kr k 52 (xn P.length) = g.2.2.2 := by
        show k.2 52 (xn P.length).toNatClampNeg = _
        rw [xn_nat (by omega)]
        exact hg
      rw [this]
    have hl1 : (P ++ [xmv (B k) g]).length = P.length + 1 := by rw [List.length_append]; rfl
    have zz : (P ++ [xmv (B k) g] ++ G).length = (P ++ g :: G).length := by
      rw [List.length_append, hl1, hlen]
      omega
    obtain ⟨m, k', r1, r2, r3⟩ := ih (P ++ [xmv (B k) g]) (ka k 52 (xn P.length) (xmin g.2.2.2 (B k))) (by show k.1 48 = _; rw [h1, zz]) (by rw [zz]; exact hz) (fun i q hq => by
      show upd (k.2 52) (xn P.length).toNatClampNeg (xmin g.2.2.2 (B k)) i = q.2.2.2
      rw [xn_nat (by omega)]
      unfold upd
      by_cases e2 : i = P.length
      · rw [if_pos e2]
        subst e2
        rw [List.append_assoc, List.getElem?_append_right (Nat.le_refl _), Nat.sub_self] at hq
        cases hq
        rfl
      · rw [if_neg e2]
        refine h2 i q ?_
        rcases Nat.lt_or_ge i P.length with hi | hi
        · rw [List.append_assoc, List.getElem?_append_left hi] at hq
          rw [List.getElem?_append_left hi]
          exact hq
        · rw [List.getElem?_append_right (by omega), hl1] at hq
          rw [List.getElem?_append_right hi, show i - P.length = (i - (P.length + 1)) + 1 by omega, List.getElem?_cons_succ]
          exact hq)
    rw [hl1] at r1
    refine ⟨m + 1, k', ?_, (kFr.sa kFr.refl rfl : kFr 0 4503599627370496 k _).trans r2, ?_⟩
    · rw [kwh_go (by rw [e]), e]
      show kwh b m (_, xn (P.length + 1)) = _
      rw [r1, show P.length + 1 + G.length = P.length + (g :: G).length by simp only [List.length_cons]; omega]
    · intro i q hq
      refine r3 i q ?_
      rw [hB]
      rw [show P ++ [xmv (B k) g] ++ G.map (xmv (B k)) = P ++ (g :: G).map (xmv (B k)) by simp only [List.map_cons, List.append_assoc, List.cons_append, List.nil_append]]
      exact hq
theorem seen_app {A B : List xR} {t : Int32} : seen (A ++ B) t = (seen A t || seen B t) := by
  unfold seen
  rw [List.any_append]
theorem flab_seen {L : List xR} {t : Int32} : (flab L t).isNone = !(seen L t) := by
  unfold flab seen
  induction L with
  | nil => rfl
  | cons l L ih =>
    rw [List.find?_cons, List.any_cons]
    by_cases e : l.1 = t
    · rw [decide_eq_true e]
      rfl
    · rw [decide_eq_false e]
      exact ih
theorem um_eq {b : xB} {A : List xR} : ∀ G : List xR, (G.filter (fun g => !(seen (A ++ b.2.1) g.1))).map (xmv (xn b.1)) = (mvd b.2.1 (xn b.1) G).filter (fun g => !(seen A g.1)) := by
  intro G
  unfold mvd
  induction G with
  | nil => rfl
  | cons g G ih =>
    by_cases h1 : seen b.2.1 g.1 = true
    · rw [List.filter_cons_of_neg (by rw [seen_app, h1, Bool.or_true]; exact Bool.false_ne_true), List.filter_cons_of_neg (by rw [flab_seen, h1]; exact Bool.false_ne_true)]
      exact ih
    · have h1' : seen b.2.1 g.1 = false := by rw [Bool.not_eq_true] at h1; exact h1
      by_cases h2 : seen A g.1 = true
      · rw [List.filter_cons_of_neg (by rw [seen_app, h2, Bool.true_or]; exact Bool.false_ne_true), List.filter_cons_of_pos (by rw [flab_seen, h1']; rfl), List.map_cons, List.filter_cons_of_neg (by show ¬ (!(seen A g.1)) = true; rw [h2]; exact Bool.false_ne_true)]
        exact ih
      · have h2' : seen A g.1 = false := by rw [Bool.not_eq_true] at h2; exact h2
        rw [List.filter_cons_of_pos (by rw [seen_app, h1', h2']; rfl), List.filter_cons_of_pos (by rw [flab_seen, h1']; rfl), List.map_cons, List.map_cons, List.filter_cons_of_pos (by show (!(seen A g.1)) = true; rw [h2']; rfl)]
        rw [ih]
section XKC
variable {k : kS} {f : xF} {r : List xF} {b b2 : xB} {bs : List xB}
theorem k224b_eq (k : kS) (i : Int32) : k224b20 (k, i) = if k.1 48 ≤ i then (1, (k, i)) else (0, (ka k 52 i (xmin (kr k 52 i) ((kr k 38 (k.1 37)) - (kr k 34 (k.1 32)))), i + 1)) := by
  unfold k224b20 xmin
  dsimp only
  split
  · rfl
  · split <;> rfl
/-- what dropBlock does -/
theorem k224_tr (h : XK k (f :: r)) (hz : SZ (f :: r)) (hb : f.2.2.2.1 = b :: bs) (hk : b.2.2.2 ≠ 2) (hn : b.1 ≤ f.2.1.length) : ∃ k', (k224 k).1 = kf (kf k' 24 (xn ((kL r).length + b.1))) 44 (xn ((fLab r).length + (bLab bs).length)) ∧ kFr 137438953472 4503599627370496 k k' ∧ k'.1 37 = xn (fkBl r ++ kBl (kL r).length (fLab r).length (fUm r).length r.length bs).length ∧ ∀ i q, (fUm r ++ bUm bs ++ (b.2.2.1.filter (fun g => !(seen (bLab (b :: bs)) g.1))).map (xmv (xn b.1)))[i]? = some q → k'.2 52 i = q.2.2.2 := by
  have hzk := hz.k
  have hd := h.dp hz
  have hcnt : (kL (f :: r)).length = (kL r).length + f.2.1.length := by show (kL r ++ f.2.1).length = _; rw [List.length_append]
  obtain ⟨⟨h1, h2⟩, ⟨h3, h4⟩, ⟨h5, h6⟩, ⟨h7, h8⟩, h9, h10⟩ := h
  generalize hB0 : fkBl r ++ kBl (kL r).length (fLab r).length (fUm r).length r.length bs = B0
  have eB : fkBl (f :: r) = B0 ++ [(xn ((kL r).length + b.1), xn ((fLab r).length + (bLab bs).length), xn ((fUm r).length + (bUm bs).length), xn r.length, if b.2.2.2 = 1 then 1 else 0)] := by
    show fkBl r ++ kBl _ _ _ _ f.2.2.2.1 = _
    rw [hb, ← hB0]
    show fkBl r ++ (if b.2.2.2 = 2 then _ else _) = _
    rw [if_neg hk, List.append_assoc]
  have zB : (fkBl (f :: r)).length = B0.length + 1 := by rw [eB, List.length_append]; rfl
  have hrow := h4 B0.length _ (by rw [eB, List.getElem?_append_right (Nat.le_refl _), Nat.sub_self]; rfl)
  obtain ⟨w1, w2, w3, w4, w5⟩ := hrow
  have e37 : k.1 37 - 1 = xn B0.length := by
    rw [h3, zB]
    have := xn_sub (n := 1) (m := B0.length) (by omega)
    rw [Nat.add_comm 1] at this
    exact this
  have eG : fUm (f :: r) = (fUm r ++ bUm bs) ++ b.2.2.1.filter (fun g => !(seen (bLab (b :: bs)) g.1)) := by
    show fUm r ++ bUm f.2.2.2.1 = _
    rw [hb, List.append_assoc]
    rfl
  have zP : (fUm r ++ bUm bs).length = (fUm r).length + (bUm bs).length := List.length_append
  obtain ⟨m, k', r1, r2, r3⟩ := clamp_go k224b_eq (fun _ _ _ => rfl) (b.2.2.1.filter (fun g => !(seen (bLab (b :: bs)) g.1))) (fUm r ++ bUm bs) (kf k 37 (xn B0.length)) (by show k.1 48 = _; rw [h7, eG]) (by rw [← eG]; omega) (fun i q hq => (h8 i q (by rw [eG]; exact hq)).2.2)
  have e38 : kr (kf k 37 (xn B0.length)) 38 ((kf k 37 (xn B0.length)).1 37) = xn ((kL r).length + b.1) := by
    show k.2 38 (xn B0.length).toNatClampNeg = _
    rw [xn_nat (by omega)]
    exact w1
  have e34 : kr (kf k 37 (xn B0.length)) 34 ((kf k 37 (xn B0.length)).1 32) = xn (kL r).length := by
    show k.2 34 (k.1 32).toNatClampNeg = _
    rw [hd, xn_nat (by have : (f :: r).length = r.length + 1 := rfl; omega)]
    exact h10.2.1
  rw [e38, e34, xn_sub (by omega)] at r3
  have e40 : kr k 40 (xn B0.length) = xn (fUm r ++ bUm bs).length := by
    show k.2 40 (xn B0.length).toNatClampNeg = _
    rw [xn_nat (by omega), zP]
    exact w3
  have hk' := kfin_of ⟨m, r1⟩ (Nat.succ_ne_zero 0)
  have f37 : k'.1 37 = xn B0.length := r2.1 37 (Nat.zero_testBit _)
  refine ⟨k', ?_, (kFr.sf kFr.refl rfl : kFr 137438953472 4503599627370496 k (kf k 37 (xn B0.length))).trans (r2.mono rfl rfl), f37, r3⟩
  have e24 : kr k' 38 (k'.1 37) = xn ((kL r).length + b.1) := by
    rw [f37]
    show k'.2 38 (xn B0.length).toNatClampNeg = _
    rw [r2.2 38 rfl, xn_nat (by omega)]
    exact w1
  have e44 : kr k' 39 (k'.1 37) = xn ((fLab r).length + (bLab bs).length) := by
    rw [f37]
    show k'.2 39 (xn B0.length).toNatClampNeg = _
    rw [r2.2 39 rfl, xn_nat (by omega)]
    exact w2
  unfold k224
  rw [e37, e40, hk']
  show kf (kf k' 24 (kr k' 38 (k'.1 37))) 44 (kr k' 39 (k'.1 37)) = _
  rw [e24, e44]
theorem XK.cls (h : XK k (f :: r)) (hz : SZ (f :: r)) (hb : f.2.2.2.1 = b :: b2 :: bs) (hk : b.2.2.2 ≠ 2) (hn : b.1 ≤ f.2.1.length) : XK (k224 k).1 (xc f :: r) ∧ (k224 k).1.1 8 = k.1 8 := by
  obtain ⟨k', e1, e2, e3, e4⟩ := k224_tr h hz hb hk hn
  have hzk := hz.k
  obtain ⟨⟨h1, h2⟩, ⟨h3, h4⟩, ⟨h5, h6⟩, ⟨h7, h8⟩, h9, h10⟩ := h
  have ex : xc f = (f.1, f.2.1.take b.1, [], (b2.1, b2.2.1, b2.2.2.1 ++ xcb b, b2.2.2.2) :: bs, f.2.2.2.2) := by
    unfold xc
    rw [hb]
  have eUm : fUm (xc f :: r) = fUm r ++ bUm (b2 :: bs) ++ (b.2.2.1.filter (fun g => !(seen (bLab (b :: b2 :: bs)) g.1))).map (xmv (xn b.1)) := by
    rw [ex]
    show fUm r ++ (bUm bs ++ (b2.2.2.1 ++ xcb b).filter (fun g => !(seen (bLab (b2 :: bs)) g.1))) = _
    rw [List.filter_append]
    have := um_eq (b := b) (A := bLab (b2 :: bs)) b.2.2.1
    show _ = fUm r ++ (bUm bs ++ b2.2.2.1.filter (fun g => !(seen (bLab (b2 :: bs)) g.1))) ++ (b.2.2.1.filter (fun g => !(seen (bLab (b2 :: bs) ++ b.2.1) g.1))).map (xmv (xn b.1))
    rw [this]
    unfold xcb
    simp only [List.append_assoc]
  have eUm0 : fUm (f :: r) = fUm r ++ bUm (b2 :: bs) ++ b.2.2.1.filter (fun g => !(seen (bLab (b :: b2 :: bs)) g.1)) := by
    show fUm r ++ bUm f.2.2.2.1 = _
    rw [hb, List.append_assoc]
    rfl
  have eLab : fLab (xc f :: r) = fLab r ++ bLab (b2 :: bs) := by
    rw [ex]
    rfl
  have eLab0 : fLab (f :: r) = (fLab r ++ bLab (b2 :: bs)) ++ b.2.1 := by
    show fLab r ++ bLab f.2.2.2.1 = _
    rw [hb, List.append_assoc]
    rfl
  have eB : fkBl (xc f :: r) = fkBl r ++ kBl (kL r).length (fLab r).length (fUm r).length r.length (b2 :: bs) := by
    rw [ex]
    rfl
  have eB0 : ∃ z, fkBl (f :: r) = (fkBl r ++ kBl (kL r).length (fLab r).length (fUm r).length r.length (b2 :: bs)) ++ [z] := by
    refine ⟨(xn ((kL r).length + b.1), xn ((fLab r).length + (bLab (b2 :: bs)).length), xn ((fUm r).length + (bUm (b2 :: bs)).length), xn r.length, if b.2.2.2 = 1 then 1 else 0), ?_⟩
    show fkBl r ++ kBl _ _ _ _ f.2.2.2.1 = _
    rw [hb]
    show fkBl r ++ (if b.2.2.2 = 2 then _ else _) = _
    rw [if_neg hk, List.append_assoc]
  obtain ⟨z, eB0⟩ := eB0
  have eL : kL (xc f :: r) = kL r ++ f.2.1.take b.1 := by
    rw [ex]
    rfl
  rw [e1]
  refine ⟨⟨⟨?_, fun i q hq => ?_⟩, ⟨?_, fun i q hq => ?_⟩, ⟨?_, fun i q hq => ?_⟩, ⟨?_, fun i q hq => ?_⟩, ?_, ?_⟩, ?_⟩
  · show xn ((kL r).length + b.1) = _
    rw [eL, List.length_append, List.length_take, Nat.min_eq_left hn]
  · rw [eL] at hq
    have hq2 : (kL (f :: r))[i]? = some q := by
      show (kL r ++ f.2.1)[i]? = some q
      rcases Nat.lt_or_ge i (kL r).length with hi | hi
      · rw [List.getElem?_append_left hi] at hq ⊢
        exact hq
      · rw [List.getElem?_append_right hi] at hq ⊢
        rw [List.getElem?_take] at hq
        split at hq
        · exact hq
        · cases hq
    have := h2 i q hq2
    unfold xlok at this ⊢
    show k'.2 25 i = q.1 ∧ (k'.2 28 i = 0 ↔ q.2.1 &&& 1 ≠ 0) ∧ (k'.1 8 = 0 → q.2.1 &&& 1 ≠ 0 → (k'.2 29 i ≠ 0 ↔ q.2.1 &&& 2 ≠ 0))
    rw [e2.2 25 rfl, e2.2 28 rfl, e2.2 29 rfl, e2.1 8 rfl]
    exact this
  · show k'.1 37 = _
    rw [eB]
    exact e3
  · rw [eB] at hq
    show k'.2 38 i = q.1 ∧ k'.2 39 i = q.2.1 ∧ k'.2 40 i = q.2.2.1 ∧ k'.2 41 i = q.2.2.2.1 ∧ k'.2 42 i = q.2.2.2.2
    rw [e2.2 38 rfl, e2.2 39 rfl, e2.2 40 rfl, e2.2 41 rfl, e2.2 42 rfl]
    refine h4 i q ?_
    rw [eB0, List.getElem?_append_left (List.getElem?_eq_some_iff.mp hq).1]
    exact hq
  · show xn ((fLab r).length + (bLab (b2 :: bs)).length) = _
    rw [eLab, List.length_append]
  · rw [eLab] at hq
    show k'.2 45 i = q.1 ∧ k'.2 47 i = q.2.2.1
    rw [e2.2 45 rfl, e2.2 47 rfl]
    refine h6 i q ?_
    rw [eLab0, List.getElem?_append_left (List.getElem?_eq_some_iff.mp hq).1]
    exact hq
  · show k'.1 48 = _
    rw [e2.1 48 rfl, h7, eUm, eUm0]
    rw [List.length_append, List.length_append (bs := List.map _ _), List.length_map]
  · have h52 : k'.2 52 i = q.2.2.2 := e4 i q (by rw [eUm] at hq; exact hq)
    show k'.2 49 i = q.1 ∧ k'.2 50 i = q.2.1 ∧ k'.2 52 i = q.2.2.2
    rw [e2.2 49 rfl, e2.2 50 rfl]
    rw [eUm] at hq
    rcases Nat.lt_or_ge i (fUm r ++ bUm (b2 :: bs)).length with hi | hi
    · rw [List.getElem?_append_left hi] at hq
      have := h8 i q (by rw [eUm0, List.getElem?_append_left hi]; exact hq)
      exact ⟨this.1, this.2.1, h52⟩
    · rw [List.getElem?_append_right hi, List.getElem?_map] at hq
      cases hg : (b.2.2.1.filter (fun g => !(seen (bLab (b :: b2 :: bs)) g.1)))[i - (fUm r ++ bUm (b2 :: bs)).length]? with
      | none => rw [hg] at hq; cases hq
      | some g =>
        rw [hg] at hq
        cases hq
        have := h8 i g (by rw [eUm0, List.getElem?_append_right hi]; exact hg)
        exact ⟨this.1, this.2.1, h52⟩
  · show (k'.1 32).toInt + 1 = _
    rw [e2.1 32 rfl]
    exact h9
  · have h11 : XKF (kf (kf k' 24 (xn ((kL r).length + b.1))) 44 (xn ((fLab r).length + (bLab (b2 :: bs)).length))) (f :: r) := XKF.same (k := k) h10 (fun j hj => by
      rcases hj with rfl | rfl | rfl | rfl | rfl
      · exact e2.2 33 rfl
      · exact e2.2 34 rfl
      · exact e2.2 35 rfl
      · exact e2.2 36 rfl
      · exact e2.2 56 rfl)
    rw [ex]
    exact ⟨h11.1, h11.2.1, h11.2.2.1, h11.2.2.2.1, h11.2.2.2.2.1, h11.2.2.2.2.2⟩
  · show k'.1 8 = _
    exact e2.1 8 rfl
end XKC
