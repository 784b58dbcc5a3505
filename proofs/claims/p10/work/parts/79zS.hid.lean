/-! THE REFERENCE OVER NAMES: a loop's hidden locals are dropped -/
section XKU
variable {k : kS} {f : xF} {r : List xF} {b b2 : xB} {bs : List xB}
theorem k224_st (h : XK k (f :: r)) (hz : SZ (f :: r)) (hb : f.2.2.2.1 = b :: bs) (hk : b.2.2.2 ≠ 2) (hn : b.1 ≤ f.2.1.length) : kr (k224 k).1 40 ((k224 k).1.1 37) = xn ((fUm r).length + (bUm bs).length) := by
  obtain ⟨k', e1, e2, e3, e4⟩ := k224_tr h hz hb hk hn
  have hzk := hz.k
  have eB : fkBl (f :: r) = (fkBl r ++ kBl (kL r).length (fLab r).length (fUm r).length r.length bs) ++ [(xn ((kL r).length + b.1), xn ((fLab r).length + (bLab bs).length), xn ((fUm r).length + (bUm bs).length), xn r.length, if b.2.2.2 = 1 then 1 else 0)] := by
    show fkBl r ++ kBl _ _ _ _ f.2.2.2.1 = _
    rw [hb]
    show fkBl r ++ (if b.2.2.2 = 2 then _ else _) = _
    rw [if_neg hk, List.append_assoc]
  have zB : (fkBl (f :: r)).length = (fkBl r ++ kBl (kL r).length (fLab r).length (fUm r).length r.length bs).length + 1 := by rw [eB, List.length_append]; rfl
  have hrow := h.2.1.2 _ _ (show (fkBl (f :: r))[(fkBl r ++ kBl (kL r).length (fLab r).length (fUm r).length r.length bs).length]? = _ by rw [eB, List.getElem?_append_right (Nat.le_refl _), Nat.sub_self]; rfl)
  rw [e1]
  show k'.2 40 (k'.1 37).toNatClampNeg = _
  rw [e2.2 40 rfl, e3, xn_nat (by omega)]
  exact hrow.2.2.1
theorem k256b_eq (x1 : Int32) (k : kS) (i : Int32) : k256b25 x1 (k, i) = if k.1 48 ≤ i then (1, (k, i)) else (0, (ka k 52 i (xmin (kr k 52 i) x1), i + 1)) := by
  unfold k256b25 xmin
  dsimp only
  split
  · rfl
  · split <;> rfl
theorem XK.unh (h : XK k (f :: r)) (hz : SZ (f :: r)) (hb : f.2.2.2.1 = b :: b2 :: bs) (hk : b.2.2.2 = 2) (hl : b.2.1 = []) (hn : b.1 ≤ f.2.1.length) (hst : kr k 40 (k.1 37) = xn ((fUm r).length + (bUm (b2 :: bs)).length)) : XK (k256 k (xn b.1)).1 (xc f :: r) ∧ (k256 k (xn b.1)).1.1 8 = k.1 8 := by
  have hzk := hz.k
  have hd := h.dp hz
  have zlen : (f :: r).length = r.length + 1 := rfl
  obtain ⟨⟨h1, h2⟩, ⟨h3, h4⟩, ⟨h5, h6⟩, ⟨h7, h8⟩, h9, h10⟩ := h
  have zL : (kL (f :: r)).length = (kL r).length + f.2.1.length := by show (kL r ++ f.2.1).length = _; rw [List.length_append]
  have ex : xc f = (f.1, f.2.1.take b.1, [], (b2.1, b2.2.1, b2.2.2.1 ++ xcb b, b2.2.2.2) :: bs, f.2.2.2.2) := by
    unfold xc
    rw [hb]
  have eUm : fUm (xc f :: r) = fUm r ++ bUm (b2 :: bs) ++ (b.2.2.1.filter (fun g => !(seen (bLab (b :: b2 :: bs)) g.1))).map (xmv (xn b.1)) := by
    rw [ex]
    show fUm r ++ (bUm bs ++ (b2.2.2.1 ++ xcb b).filter (fun g => !(seen (bLab (b2 :: bs)) g.1))) = _
    rw [List.filter_append]
    have := um_eq (b := b) (A := bLab (b2 :: bs)) b.2.2.1
    show _ = fUm r ++ (bUm bs ++ b2.2.2.1.filter (fun g => !(seen (bLab (b2 :: bs)) g.1))) ++ (b.2.2.1.filter (fun g => !(seen (bLab (b2 :: bs) ++ b.2.1) g.1))).map (xmv (xn b.1))
    rw [this]
    unfold xcb
    simp only [List.append_assoc]
  have eUm0 : fUm (f :: r) = fUm r ++ bUm (b2 :: bs) ++ b.2.2.1.filter (fun g => !(seen (bLab (b :: b2 :: bs)) g.1)) := by
    show fUm r ++ bUm f.2.2.2.1 = _
    rw [hb, List.append_assoc]
    rfl
  have eLab : fLab (xc f :: r) = fLab (f :: r) := by
    rw [ex]
    show fLab r ++ bLab (b2 :: bs) = fLab r ++ bLab f.2.2.2.1
    rw [hb]
    show _ = fLab r ++ (bLab (b2 :: bs) ++ b.2.1)
    rw [hl, List.append_nil]
  have eB : fkBl (xc f :: r) = fkBl (f :: r) := by
    rw [ex]
    show fkBl r ++ kBl (kL r).length (fLab r).length (fUm r).length r.length (b2 :: bs) = fkBl r ++ kBl _ _ _ _ f.2.2.2.1
    rw [hb]
    show _ = fkBl r ++ (if b.2.2.2 = 2 then _ else _)
    rw [if_pos hk]
  have eL : kL (xc f :: r) = kL r ++ f.2.1.take b.1 := by
    rw [ex]
    rfl
  have e34 : kr k 34 (k.1 32) = xn (kL r).length := by
    show k.2 34 (k.1 32).toNatClampNeg = _
    rw [hd, xn_nat (by omega)]
    exact h10.2.1
  have e24 : kr k 34 (k.1 32) + xn b.1 = xn ((kL r).length + b.1) := by
    rw [e34]
    exact xn_add (by omega)
  have zP : (fUm r ++ bUm (b2 :: bs)).length = (fUm r).length + (bUm (b2 :: bs)).length := List.length_append
  obtain ⟨m, k', r1, r2, r3⟩ := clamp_go (B := fun _ => xn b.1) (k256b_eq (xn b.1)) (fun _ _ _ => rfl) (b.2.2.1.filter (fun g => !(seen (bLab (b :: b2 :: bs)) g.1))) (fUm r ++ bUm (b2 :: bs)) (kf k 24 (xn ((kL r).length + b.1))) (by show k.1 48 = _; rw [h7, eUm0]) (by rw [← eUm0]; omega) (fun i q hq => (h8 i q (by rw [eUm0]; exact hq)).2.2)
  have hk' := kfin_of ⟨m, r1⟩ (Nat.succ_ne_zero 0)
  have ek : (k256 k (xn b.1)).1 = k' := by
    unfold k256
    rw [e24, hst, ← zP, hk']
  have e2 : kFr 16777216 4503599627370496 k k' := (kFr.sf kFr.refl rfl : kFr 16777216 4503599627370496 k (kf k 24 (xn ((kL r).length + b.1)))).trans (r2.mono rfl rfl)
  rw [ek]
  refine ⟨⟨⟨?_, fun i q hq => ?_⟩, ⟨?_, fun i q hq => ?_⟩, ⟨?_, fun i q hq => ?_⟩, ⟨?_, fun i q hq => ?_⟩, ?_, ?_⟩, ?_⟩
  · rw [r2.1 24 (Nat.zero_testBit _)]
    show xn ((kL r).length + b.1) = _
    rw [eL, List.length_append, List.length_take, Nat.min_eq_left hn]
  · rw [eL] at hq
    have hq2 : (kL (f :: r))[i]? = some q := by
      show (kL r ++ f.2.1)[i]? = some q
      rcases Nat.lt_or_ge i (kL r).length with hi | hi
      · rw [List.getElem?_append_left hi] at hq ⊢
        exact hq
      · rw [List.getElem?_append_right hi] at hq ⊢
        rw [List.getElem?_take] at hq
        split at hq
        · exact hq
        · cases hq
    have := h2 i q hq2
    unfold xlok at this ⊢
    rw [e2.2 25 rfl, e2.2 28 rfl, e2.2 29 rfl, e2.1 8 rfl]
    exact this
  · rw [eB, e2.1 37 rfl]
    exact h3
  · rw [eB] at hq
    rw [e2.2 38 rfl, e2.2 39 rfl, e2.2 40 rfl, e2.2 41 rfl, e2.2 42 rfl]
    exact h4 i q hq
  · rw [eLab, e2.1 44 rfl]
    exact h5
  · rw [eLab] at hq
    rw [e2.2 45 rfl, e2.2 47 rfl]
    exact h6 i q hq
  · rw [e2.1 48 rfl, h7, eUm, eUm0]
    rw [List.length_append, List.length_append (bs := List.map _ _), List.length_map]
  · rw [eUm] at hq
    have h52 : k'.2 52 i = q.2.2.2 := r3 i q hq
    rw [e2.2 49 rfl, e2.2 50 rfl]
    rcases Nat.lt_or_ge i (fUm r ++ bUm (b2 :: bs)).length with hi | hi
    · rw [List.getElem?_append_left hi] at hq
      have := h8 i q (by rw [eUm0, List.getElem?_append_left hi]; exact hq)
      exact ⟨this.1, this.2.1, h52⟩
    · rw [List.getElem?_append_right hi, List.getElem?_map] at hq
      cases hg : (b.2.2.1.filter (fun g => !(seen (bLab (b :: b2 :: bs)) g.1)))[i - (fUm r ++ bUm (b2 :: bs)).length]? with
      | none => rw [hg] at hq; cases hq
      | some g =>
        rw [hg] at hq
        cases hq
        have := h8 i g (by rw [eUm0, List.getElem?_append_right hi]; exact hg)
        exact ⟨this.1, this.2.1, h52⟩
  · rw [e2.1 32 rfl]
    exact h9
  · have h11 : XKF k' (f :: r) := XKF.same (k := k) h10 (fun j hj => by
      rcases hj with rfl | rfl | rfl | rfl | rfl
      · exact e2.2 33 rfl
      · exact e2.2 34 rfl
      · exact e2.2 35 rfl
      · exact e2.2 36 rfl
      · exact e2.2 56 rfl)
    rw [ex]
    exact ⟨h11.1, h11.2.1, h11.2.2.1, h11.2.2.2.1, h11.2.2.2.2.1, h11.2.2.2.2.2⟩
  · exact e2.1 8 rfl
end XKU
/-! SEVERAL HIDDEN LOCALS -/
def xdn (f : xF) : List xR → xF
  | [] => f
  | q :: l => xdn (xd f q) l
theorem k254_go {w y : Int32} {r : List xF} : ∀ (l : List xR) (n : Nat) (f : xF) (k : kS), XK k (f :: r) → SZ (xdn f l :: r) → (∀ q ∈ l, q.1 = 0 ∧ q.2.1 &&& 1 = 0 ∧ q.2.2 = (0, 0)) → n + l.length ≤ 1000 → ∃ m k', kwh (k254b3 (xn (n + l.length)) y w) m (k, xn n) = (1, (k', xn (n + l.length))) ∧ XK k' (xdn f l :: r) ∧ (k'.1 8 ≠ 0 ↔ k.1 8 ≠ 0 ∨ ∃ j, j < l.length ∧ 200 ≤ f.2.1.length + j) := by
  intro l
  induction l with
  | nil =>
    intro n f k h hz hq hn
    have e : k254b3 (xn (n + ([] : List xR).length)) y w (k, xn n) = (1, (k, xn n)) := by
      unfold k254b3
      rw [if_pos (by show xn (n + 0) ≤ xn n; exact Int32.le_refl _)]
    exact ⟨1, k, by rw [kwh_out (by rw [e]; exact Nat.succ_ne_zero _), e]; rfl, h, ⟨Or.inl, fun q => q.resolve_right (fun ⟨j, hj, _⟩ => absurd hj (Nat.not_lt_zero _))⟩⟩
  | cons q l ih =>
    intro n f k h hz hq hn
    have hl : (q :: l).length = l.length + 1 := rfl
    obtain ⟨qt, qs, qr⟩ := hq q List.mem_cons_self
    have eq : q = (0, q.2.1, 0, 0) := by
      obtain ⟨a, b, c⟩ := q
      cases qt
      cases qr
      rfl
    have hz0 : SZ (f :: r) := by
      have len : ∀ (l : List xR) (f : xF), (fL (f :: r)).length ≤ (fL (xdn f l :: r)).length ∧ (fBl (xdn f l :: r)).length = (fBl (f :: r)).length ∧ (fLab (xdn f l :: r)).length = (fLab (f :: r)).length ∧ (fGo (xdn f l :: r)).length = (fGo (f :: r)).length ∧ fLp (xdn f l :: r) = fLp (f :: r) := by
        intro l
        induction l with
        | nil => intro f; exact ⟨Nat.le_refl _, rfl, rfl, rfl, rfl⟩
        | cons q l ih =>
          intro f
          obtain ⟨i1, i2, i3, i4, i5⟩ := ih (xd f q)
          refine ⟨Nat.le_trans ?_ i1, i2, i3, i4, i5⟩
          show (fL r ++ (f.2.1 ++ f.2.2.1)).length ≤ (fL r ++ ((f.2.1 ++ [q]) ++ f.2.2.1)).length
          simp only [List.length_append]
          omega
      obtain ⟨i1, i2, i3, i4, i5⟩ := len (q :: l) f
      unfold SZ at hz ⊢
      have e1 : (xdn f (q :: l) :: r).length = (f :: r).length := rfl
      omega
    have step : ∃ k1, k254b3 (xn (n + (q :: l).length)) y w (k, xn n) = (0, (k1, xn (n + 1))) ∧ XK k1 (xd f q :: r) ∧ (k1.1 8 ≠ 0 ↔ k.1 8 ≠ 0 ∨ 200 ≤ f.2.1.length) := by
      have hc : ¬ xn (n + (q :: l).length) ≤ xn n := by rw [i_le, xn_i (by omega), xn_i (by omega)]; omega
      unfold k254b3
      dsimp only
      rw [if_neg hc, xn_succ (by omega)]
      rw [eq]
      by_cases c1 : y = 0
      · rw [if_pos c1]
        obtain ⟨a1, a2⟩ := k196_h (c := 1) (cl := 0) (w := w) (st := q.2.1) h hz0 qs
        exact ⟨_, rfl, a1, a2⟩
      · rw [if_neg c1]
        split
        · obtain ⟨a1, a2⟩ := k196_h (c := 1) (cl := 0) (w := w) (st := q.2.1) h hz0 qs
          exact ⟨_, rfl, a1, a2⟩
        · obtain ⟨a1, a2⟩ := k196_h (c := 1) (cl := 1) (w := w) (st := q.2.1) h hz0 qs
          exact ⟨_, rfl, a1, a2⟩
    obtain ⟨k1, e, x1, f1⟩ := step
    have ea : n + (q :: l).length = n + 1 + l.length := by omega
    obtain ⟨m, k', r1, r2, r3⟩ := ih (n + 1) (xd f q) k1 x1 hz (fun q' hq' => hq q' (List.mem_cons_of_mem _ hq')) (by omega)
    rw [← ea] at r1
    refine ⟨m + 1, k', by rw [kwh_go (by rw [e]), e]; exact r1, r2, ?_⟩
    have el : (xd f q).2.1.length = f.2.1.length + 1 := by show (f.2.1 ++ [q]).length = _; rw [List.length_append]; rfl
    rw [r3, f1, el]
    constructor
    · rintro ((z | z) | ⟨j, z1, z2⟩)
      · exact Or.inl z
      · exact Or.inr ⟨0, by omega, by omega⟩
      · exact Or.inr ⟨j + 1, by omega, by omega⟩
    · rintro (z | ⟨j, z1, z2⟩)
      · exact Or.inl (Or.inl z)
      · by_cases e0 : j = 0
        · exact Or.inl (Or.inr (by omega))
        · exact Or.inr ⟨j - 1, by omega, by omega⟩
