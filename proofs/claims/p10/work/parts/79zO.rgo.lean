/-! THE REFERENCE OVER NAMES: a goto; functions end -/
section XKG
variable {k : kS} {f f2 : xF} {r : List xF} {b : xB} {bs : List xB}
theorem XK.put {a1 a2 a3 a4 : Int32} {X : List xF} (h : XK k X) : XK (k189 k a1 a2 a3 a4).1 X := h.fr (fr_k189 k a1 a2 a3 a4) rfl rfl
theorem k234_67_k {w nm l y4 z0 lv : Int32} (h : XK k (f :: r)) (hz : SZ (f :: r)) (hb : f.2.2.2.1 = b :: bs) (hl : l < 0 ↔ seen (bLab f.2.2.2.1) (kr k 2 nm) = false) : XK (k234_67 k w nm l y4 z0).1 (xgo f (kr k 2 nm, w, lv, xn f.2.1.length) :: r) ∧ (k234_67 k w nm l y4 z0).1.1 8 = k.1 8 := by
  have hzk := hz.k
  have hcnt := h.cnt hz
  have hX := h
  obtain ⟨⟨h1, h2⟩, ⟨h3, h4⟩, ⟨h5, h6⟩, ⟨h7, h8⟩, h9, h10⟩ := h
  have ex : xgo f (kr k 2 nm, w, lv, xn f.2.1.length) = (f.1, f.2.1, f.2.2.1, (b.1, b.2.1, b.2.2.1 ++ [(kr k 2 nm, w, lv, xn f.2.1.length)], b.2.2.2) :: bs, f.2.2.2.2) := by unfold xgo; rw [hb]
  have eLab : fLab (xgo f (kr k 2 nm, w, lv, xn f.2.1.length) :: r) = fLab (f :: r) := by
    rw [ex]
    show fLab r ++ (bLab bs ++ b.2.1) = fLab r ++ bLab f.2.2.2.1
    rw [hb]
    rfl
  have eB2 : fkBl (xgo f (kr k 2 nm, w, lv, xn f.2.1.length) :: r) = fkBl (f :: r) := by
    rw [ex]
    show fkBl r ++ kBl _ _ _ _ _ = fkBl r ++ kBl _ _ _ _ f.2.2.2.1
    rw [hb]
    rfl
  have eL : kL (xgo f (kr k 2 nm, w, lv, xn f.2.1.length) :: r) = kL (f :: r) := by
    rw [ex]
    rfl
  have eU0 : fUm (f :: r) = fUm r ++ (bUm bs ++ b.2.2.1.filter (fun g => !(seen (bLab (b :: bs)) g.1))) := by
    show fUm r ++ bUm f.2.2.2.1 = _
    rw [hb]
    rfl
  have eU : fUm (xgo f (kr k 2 nm, w, lv, xn f.2.1.length) :: r) = fUm (f :: r) ++ [(kr k 2 nm, w, lv, xn f.2.1.length)].filter (fun g => !(seen (bLab (b :: bs)) g.1)) := by
    rw [ex, eU0]
    show fUm r ++ (bUm bs ++ (b.2.2.1 ++ [_]).filter (fun g => !(seen (bLab (b :: bs)) g.1))) = _
    rw [List.filter_append]
    simp only [List.append_assoc]
  rw [hb] at hl
  unfold k234_67
  by_cases c : l < 0
  · rw [if_pos c]
    have hs := hl.mp c
    have eU1 : fUm (xgo f (kr k 2 nm, w, lv, xn f.2.1.length) :: r) = fUm (f :: r) ++ [(kr k 2 nm, w, lv, xn f.2.1.length)] := by
      rw [eU, List.filter_cons_of_pos (by rw [hs]; rfl)]
      rfl
    have n48 : (k.1 48).toNatClampNeg = (fUm (f :: r)).length := by rw [h7]; exact xn_nat (by omega)
    have ec : k197 (ka (ka (ka k 49 (k.1 48) (kr k 2 nm)) 50 (k.1 48) w) 51 (k.1 48) y4) = xn f.2.1.length := hcnt
    rw [ec]
    refine ⟨⟨⟨by rw [eL]; exact h1, fun i q hq => h2 i q (by rw [eL] at hq; exact hq)⟩, ⟨by rw [eB2]; exact h3, fun i q hq => h4 i q (by rw [eB2] at hq; exact hq)⟩, ⟨by rw [eLab]; exact h5, fun i q hq => h6 i q (by rw [eLab] at hq; exact hq)⟩, ⟨?_, fun i q hq => ?_⟩, h9, ?_⟩, rfl⟩
    · show k.1 48 + 1 = _
      rw [eU1, h7, xn_succ (by omega), List.length_append]
      rfl
    · show upd (k.2 49) (k.1 48).toNatClampNeg (kr k 2 nm) i = q.1 ∧ upd (k.2 50) (k.1 48).toNatClampNeg w i = q.2.1 ∧ upd (k.2 52) (k.1 48).toNatClampNeg (xn f.2.1.length) i = q.2.2.2
      rw [eU1] at hq
      rw [n48]
      unfold upd
      rcases push_get hq with ⟨q1, q2⟩ | ⟨q1, q2⟩
      · rw [if_neg (by omega), if_neg (by omega), if_neg (by omega)]
        exact h8 i q q2
      · rw [if_pos q1, if_pos q1, if_pos q1, q2]
        exact ⟨rfl, rfl, rfl⟩
    · rw [ex]
      have h11 : XKF (kf (ka (ka (ka (ka k 49 (k.1 48) (kr k 2 nm)) 50 (k.1 48) w) 51 (k.1 48) y4) 52 (k.1 48) (xn f.2.1.length)) 48 (k.1 48 + 1)) (f :: r) := XKF.same (k := k) h10 (fun j hj => by rcases hj with rfl | rfl | rfl | rfl | rfl <;> rfl)
      exact ⟨h11.1, h11.2.1, h11.2.2.1, h11.2.2.2.1, h11.2.2.2.2.1, h11.2.2.2.2.2⟩
  · rw [if_neg c]
    have hs : seen (bLab (b :: bs)) (kr k 2 nm) = true := by
      cases hq : seen (bLab (b :: bs)) (kr k 2 nm) with
      | true => rfl
      | false => exact absurd (hl.mpr hq) c
    have eU1 : fUm (xgo f (kr k 2 nm, w, lv, xn f.2.1.length) :: r) = fUm (f :: r) := by
      rw [eU, List.filter_cons_of_neg (by rw [hs]; exact Bool.false_ne_true), List.filter_nil, List.append_nil]
    refine ⟨⟨⟨by rw [eL]; exact h1, fun i q hq => h2 i q (by rw [eL] at hq; exact hq)⟩, ⟨by rw [eB2]; exact h3, fun i q hq => h4 i q (by rw [eB2] at hq; exact hq)⟩, ⟨by rw [eLab]; exact h5, fun i q hq => h6 i q (by rw [eLab] at hq; exact hq)⟩, ⟨by rw [eU1]; exact h7, fun i q hq => h8 i q (by rw [eU1] at hq; exact hq)⟩, h9, ?_⟩, rfl⟩
    rw [ex]
    exact ⟨h10.1, h10.2.1, h10.2.2.1, h10.2.2.2.1, h10.2.2.2.2.1, h10.2.2.2.2.2⟩
theorem k234_k {w nm lv : Int32} (h : XK k (f :: r)) (hz : SZ (f :: r)) (hb : f.2.2.2.1 = b :: bs) : XK (k234 k w nm).1 (xgo f (kr k 2 nm, w, lv, xn f.2.1.length) :: r) ∧ (k234 k w nm).1.1 8 = k.1 8 := by
  have p1 := fr_k189 k 34 0 0 w
  have e1 : kr (k189 k 34 0 0 w).1 2 nm = kr k 2 nm := by show (k189 k 34 0 0 w).1.2 2 _ = k.2 2 _; rw [p1.2 2 rfl]
  have f1 : (k189 k 34 0 0 w).1.1 8 = k.1 8 := p1.1 8 rfl
  have h1 : XK (k189 k 34 0 0 w).1 (f :: r) := h.put
  have hl := k230_k (y := kr k 2 nm) h1 hz
  show XK (k234_9 (k189 k 34 0 0 w).1 w nm (k189 k 34 0 0 w).2).1 _ ∧ (k234_9 (k189 k 34 0 0 w).1 w nm (k189 k 34 0 0 w).2).1.1 8 = _
  generalize (k189 k 34 0 0 w).1 = k1 at *
  generalize (k189 k 34 0 0 w).2 = zz at *
  have fin : ∀ (k2 : kS) (l y4 z0 z1 : Int32), XK k2 (f :: r) → kr k2 2 nm = kr k 2 nm → k2.1 8 = k.1 8 → l = k230 k1 (kr k 2 nm) → XK (k234_62 k2 w nm l y4 z0 z1).1 (xgo f (kr k 2 nm, w, lv, xn f.2.1.length) :: r) ∧ (k234_62 k2 w nm l y4 z0 z1).1.1 8 = k.1 8 := by
    intro k2 l y4 z0 z1 q1 q2 q3 q4
    have p3 := fr_k189 k2 z1 z0 0 0
    have e3 : kr (k189 k2 z1 z0 0 0).1 2 nm = kr k 2 nm := by show (k189 k2 z1 z0 0 0).1.2 2 _ = _; rw [p3.2 2 rfl]; exact q2
    have := k234_67_k (w := w) (nm := nm) (l := l) (y4 := y4) (z0 := (k189 k2 z1 z0 0 0).2) (lv := lv) (q1.put (a1 := z1) (a2 := z0) (a3 := 0) (a4 := 0)) hz hb (by rw [e3, q4]; exact hl)
    rw [e3] at this
    exact ⟨this.1, this.2.trans ((p3.1 8 rfl).trans q3)⟩
  have mid : ∀ (l z0 z1 : Int32), l = k230 k1 (kr k 2 nm) → XK (k234_38 k1 w nm l z0 z1).1 (xgo f (kr k 2 nm, w, lv, xn f.2.1.length) :: r) ∧ (k234_38 k1 w nm l z0 z1).1.1 8 = k.1 8 := by
    intro l z0 z1 q4
    have p2 := fr_k189 k1 z1 z0 0 0
    have e2 : kr (k189 k1 z1 z0 0 0).1 2 nm = kr k 2 nm := by show (k189 k1 z1 z0 0 0).1.2 2 _ = _; rw [p2.2 2 rfl]; exact e1
    show XK (k234_43 (k189 k1 z1 z0 0 0).1 w nm l (k189 k1 z1 z0 0 0).2).1 _ ∧ (k234_43 (k189 k1 z1 z0 0 0).1 w nm l (k189 k1 z1 z0 0 0).2).1.1 8 = _
    unfold k234_43
    split
    · exact fin _ l _ _ _ h1.put e2 ((p2.1 8 rfl).trans f1) q4
    · exact fin _ l _ _ _ h1.put e2 ((p2.1 8 rfl).trans f1) q4
  unfold k234_9
  rw [e1]
  split
  · exact mid _ _ _ rfl
  · exact mid _ _ _ rfl
/-- gotos without a label are faults -/
theorem lg_go : ∀ (G P : List xR) (k : kS), k.1 48 = xn (P ++ G).length → (P ++ G).length ≤ 1000000 → ∃ m k', kwh k223b10 m (k, xn P.length) = (1, (k', xn (P.length + G.length))) ∧ kFr 768 0 k k' ∧ (k'.1 8 ≠ 0 ↔ k.1 8 ≠ 0 ∨ G ≠ []) := by
  intro G
  induction G with
  | nil =>
    intro P k h1 hz
    rw [List.append_nil] at h1 hz
    have e : k223b10 (k, xn P.length) = (1, (k, xn P.length)) := by
      unfold k223b10
      rw [if_pos (by show k.1 48 ≤ xn P.length; rw [h1]; exact Int32.le_refl _)]
    exact ⟨1, k, by rw [kwh_out (by rw [e]; exact Nat.succ_ne_zero _), e]; rfl, kFr.refl, ⟨Or.inl, fun q => q.resolve_right (fun z => z rfl)⟩⟩
  | cons g G ih =>
    intro P k h1 hz
    have hlen : (P ++ g :: G).length = P.length + (G.length + 1) := by rw [List.length_append]; rfl
    have e : k223b10 (k, xn P.length) = (0, ((k191 k 12 (kr k 50 (xn P.length))).1, xn (P.length + 1))) := by
      unfold k223b10
      rw [if_neg (by show ¬ k.1 48 ≤ xn P.length; rw [h1, i_le, xn_i (by omega), xn_i (by omega)]; omega)]
      show (0, ((k191 k 12 (kr k 50 (xn P.length))).1, xn P.length + 1)) = _
      rw [xn_succ (by omega)]
    have hf := fr_k191 k 12 (kr k 50 (xn P.length))
    have hl1 : (P ++ [g]).length = P.length + 1 := by rw [List.length_append]; rfl
    obtain ⟨m, k', r1, r2, r3⟩ := ih (P ++ [g]) (k191 k 12 (kr k 50 (xn P.length))).1 (by rw [hf.1 48 rfl, h1, List.append_assoc]; rfl) (by rw [List.append_assoc]; exact hz)
    rw [hl1] at r1
    refine ⟨m + 1, k', ?_, hf.trans r2, ?_⟩
    · rw [kwh_go (by rw [e]), e]
      show kwh _ m (_, xn (P.length + 1)) = _
      rw [r1, show P.length + 1 + G.length = P.length + (g :: G).length by simp only [List.length_cons]; omega]
    · rw [r3]
      exact ⟨fun _ => Or.inr (by intro q; cases q), fun _ => Or.inl (k191_f (by decide))⟩
/-- the function's gotos are gone -/
def xlo (f : xF) (b : xB) : xF := (f.1, f.2.1, f.2.2.1, [(b.1, b.2.1, [], b.2.2.2)], f.2.2.2.2)
theorem XK.los (h : XK k (f :: r)) (hz : SZ (f :: r)) (hb : f.2.2.2.1 = [b]) : XK (k223 k).1 (xlo f b :: r) ∧ ((k223 k).1.1 8 ≠ 0 ↔ k.1 8 ≠ 0 ∨ bUm [b] ≠ []) := by
  have hzk := hz.k
  have hd := h.dp hz
  obtain ⟨⟨h1, h2⟩, ⟨h3, h4⟩, ⟨h5, h6⟩, ⟨h7, h8⟩, h9, h10⟩ := h
  have eU0 : fUm (f :: r) = fUm r ++ bUm [b] := by
    show fUm r ++ bUm f.2.2.2.1 = _
    rw [hb]
  have hQ : kr k 36 (k.1 32) = xn (fUm r).length := by
    show k.2 36 (k.1 32).toNatClampNeg = _
    rw [hd, xn_nat (by have : (f :: r).length = r.length + 1 := rfl; omega)]
    exact h10.2.2.2.1
  obtain ⟨m, k', r1, r2, r3⟩ := lg_go (bUm [b]) (fUm r) k (by rw [← eU0]; exact h7) (by rw [← eU0]; omega)
  have hk := kfin_of ⟨m, r1⟩ (Nat.succ_ne_zero 0)
  have e : (k223 k).1 = kf k' 48 (xn (fUm r).length) := by
    unfold k223
    rw [hQ, hk]
    show kf k' 48 (k'.2 36 (k'.1 32).toNatClampNeg) = _
    rw [r2.2 36 (Nat.zero_testBit _), r2.1 32 rfl]
    show kf k' 48 (kr k 36 (k.1 32)) = _
    rw [hQ]
  have eU : fUm (xlo f b :: r) = fUm r := by
    show fUm r ++ ([] ++ []) = _
    rw [List.append_nil, List.append_nil]
  have eB2 : fkBl (xlo f b :: r) = fkBl (f :: r) := by
    show fkBl r ++ kBl _ _ _ _ _ = fkBl r ++ kBl _ _ _ _ f.2.2.2.1
    rw [hb]
    rfl
  have eLab : fLab (xlo f b :: r) = fLab (f :: r) := by
    show fLab r ++ ([] ++ b.2.1) = fLab r ++ bLab f.2.2.2.1
    rw [hb]
    rfl
  rw [e]
  refine ⟨⟨⟨?_, fun i q hq => ?_⟩, ⟨?_, fun i q hq => ?_⟩, ⟨?_, fun i q hq => ?_⟩, ⟨?_, fun i q hq => ?_⟩, ?_, ?_⟩, r3⟩
  · show k'.1 24 = _
    rw [r2.1 24 rfl]; exact h1
  · unfold xlok
    show k'.2 25 i = q.1 ∧ (k'.2 28 i = 0 ↔ q.2.1 &&& 1 ≠ 0) ∧ (k'.1 8 = 0 → q.2.1 &&& 1 ≠ 0 → (k'.2 29 i ≠ 0 ↔ q.2.1 &&& 2 ≠ 0))
    rw [r2.2 25 (Nat.zero_testBit _), r2.2 28 (Nat.zero_testBit _), r2.2 29 (Nat.zero_testBit _)]
    obtain ⟨a1, a2, a3⟩ := h2 i q hq
    exact ⟨a1, a2, fun z => a3 (Classical.byContradiction (fun y => r3.mpr (Or.inl y) z))⟩
  · show k'.1 37 = _
    rw [eB2, r2.1 37 rfl]; exact h3
  · rw [eB2] at hq
    show k'.2 38 i = q.1 ∧ k'.2 39 i = q.2.1 ∧ k'.2 40 i = q.2.2.1 ∧ k'.2 41 i = q.2.2.2.1 ∧ k'.2 42 i = q.2.2.2.2
    rw [r2.2 38 (Nat.zero_testBit _), r2.2 39 (Nat.zero_testBit _), r2.2 40 (Nat.zero_testBit _), r2.2 41 (Nat.zero_testBit _), r2.2 42 (Nat.zero_testBit _)]
    exact h4 i q hq
  · show k'.1 44 = _
    rw [eLab, r2.1 44 rfl]; exact h5
  · rw [eLab] at hq
    show k'.2 45 i = q.1 ∧ k'.2 47 i = q.2.2.1
    rw [r2.2 45 (Nat.zero_testBit _), r2.2 47 (Nat.zero_testBit _)]
    exact h6 i q hq
  · show xn _ = _
    rw [eU]
  · rw [eU] at hq
    show k'.2 49 i = q.1 ∧ k'.2 50 i = q.2.1 ∧ k'.2 52 i = q.2.2.2
    rw [r2.2 49 (Nat.zero_testBit _), r2.2 50 (Nat.zero_testBit _), r2.2 52 (Nat.zero_testBit _)]
    refine h8 i q ?_
    rw [eU0, List.getElem?_append_left (List.getElem?_eq_some_iff.mp hq).1]
    exact hq
  · show (k'.1 32).toInt + 1 = _
    rw [r2.1 32 rfl]
    exact h9
  · have h11 : XKF (kf k' 48 (xn (fUm r).length)) (f :: r) := XKF.same (k := k) h10 (fun j hj => r2.2 j (Nat.zero_testBit _))
    exact ⟨h11.1, h11.2.1, h11.2.2.1, h11.2.2.2.1, h11.2.2.2.2.1, h11.2.2.2.2.2⟩
/-- the function's block is dropped, and its depth -/
theorem XK.drp {y : Int32} (h : XK k (f :: f2 :: r)) (hz : SZ (f :: f2 :: r)) (hb : f.2.2.2.1 = [b]) (hk : b.2.2.2 ≠ 2) (hn : b.1 = 0) (hg : b.2.2.1 = []) : XK (k222_54 (k224 k).1 y).1 (f2 :: r) ∧ (k222_54 (k224 k).1 y).1.1 8 = k.1 8 := by
  have hzk := hz.k
  have hd := h.dp hz
  obtain ⟨k', e1, e2, e3, e4⟩ := k224_tr h hz hb hk (by omega)
  obtain ⟨⟨h1, h2⟩, ⟨h3, h4⟩, ⟨h5, h6⟩, ⟨h7, h8⟩, h9, h10⟩ := h
  have ek : (k222_54 (k224 k).1 y).1 = kf (kf (kf (kf k' 24 (xn (kL (f2 :: r)).length)) 44 (xn (fLab (f2 :: r)).length)) 32 (k'.1 32 - 1)) 76 y := by
    show kf (kf (k224 k).1 32 ((k224 k).1.1 32 - 1)) 76 y = _
    rw [e1, hn]
    rfl
  have eU0 : fUm (f :: f2 :: r) = fUm (f2 :: r) := by
    show fUm (f2 :: r) ++ bUm f.2.2.2.1 = _
    rw [hb]
    show fUm (f2 :: r) ++ ([] ++ b.2.2.1.filter _) = _
    rw [hg]
    exact List.append_nil _
  have eB : fkBl (f2 :: r) ++ kBl (kL (f2 :: r)).length (fLab (f2 :: r)).length (fUm (f2 :: r)).length (f2 :: r).length [] = fkBl (f2 :: r) := List.append_nil _
  rw [eB] at e3
  rw [hg] at e4
  have e4' : ∀ i q, (fUm (f2 :: r))[i]? = some q → k'.2 52 i = q.2.2.2 := fun i q hq => e4 i q (by
    show (fUm (f2 :: r) ++ [] ++ [])[i]? = some q
    rw [List.append_nil, List.append_nil]
    exact hq)
  have hlen : (f :: f2 :: r).length = r.length + 2 := rfl
  rw [ek]
  refine ⟨⟨⟨rfl, fun i q hq => ?_⟩, ⟨e3, fun i q hq => ?_⟩, ⟨rfl, fun i q hq => ?_⟩, ⟨?_, fun i q hq => ?_⟩, ?_, ?_⟩, ?_⟩
  · have hq2 : (kL (f :: f2 :: r))[i]? = some q := by
      show (kL (f2 :: r) ++ f.2.1)[i]? = some q
      rw [List.getElem?_append_left (List.getElem?_eq_some_iff.mp hq).1]
      exact hq
    have := h2 i q hq2
    unfold xlok at this ⊢
    show k'.2 25 i = q.1 ∧ (k'.2 28 i = 0 ↔ q.2.1 &&& 1 ≠ 0) ∧ (k'.1 8 = 0 → q.2.1 &&& 1 ≠ 0 → (k'.2 29 i ≠ 0 ↔ q.2.1 &&& 2 ≠ 0))
    rw [e2.2 25 rfl, e2.2 28 rfl, e2.2 29 rfl, e2.1 8 rfl]
    exact this
  · show k'.2 38 i = q.1 ∧ k'.2 39 i = q.2.1 ∧ k'.2 40 i = q.2.2.1 ∧ k'.2 41 i = q.2.2.2.1 ∧ k'.2 42 i = q.2.2.2.2
    rw [e2.2 38 rfl, e2.2 39 rfl, e2.2 40 rfl, e2.2 41 rfl, e2.2 42 rfl]
    refine h4 i q ?_
    show (fkBl (f2 :: r) ++ kBl _ _ _ _ f.2.2.2.1)[i]? = some q
    rw [List.getElem?_append_left (List.getElem?_eq_some_iff.mp hq).1]
    exact hq
  · show k'.2 45 i = q.1 ∧ k'.2 47 i = q.2.2.1
    rw [e2.2 45 rfl, e2.2 47 rfl]
    refine h6 i q ?_
    show (fLab (f2 :: r) ++ bLab f.2.2.2.1)[i]? = some q
    rw [List.getElem?_append_left (List.getElem?_eq_some_iff.mp hq).1]
    exact hq
  · show k'.1 48 = _
    rw [e2.1 48 rfl, h7, eU0]
  · show k'.2 49 i = q.1 ∧ k'.2 50 i = q.2.1 ∧ k'.2 52 i = q.2.2.2
    rw [e2.2 49 rfl, e2.2 50 rfl]
    have := h8 i q (by rw [eU0]; exact hq)
    exact ⟨this.1, this.2.1, e4' i q hq⟩
  · show (k'.1 32 - 1).toInt + 1 = _
    have hl2 : (f2 :: r).length = r.length + 1 := rfl
    rw [e2.1 32 rfl, hd, i_sub (xn_i (by omega)) (show (1 : Int32).toInt = 1 from rfl) (by omega) (by omega)]
    omega
  · exact XKF.same (k := k) h10.2.2.2.2.2 (fun j hj => by
      rcases hj with rfl | rfl | rfl | rfl | rfl
      · exact e2.2 33 rfl
      · exact e2.2 34 rfl
      · exact e2.2 35 rfl
      · exact e2.2 36 rfl
      · exact e2.2 56 rfl)
  · show k'.1 8 = _
    exact e2.1 8 rfl
end XKG
