/-! THE REFERENCE OVER NAMES: labels and gotos in a block -/
theorem fil_lab {A L : List xR} {q : xR} : ∀ G : List xR, G.filter (fun g => !(seen (A ++ (L ++ [q])) g.1)) = fne q.1 (G.filter (fun g => !(seen (A ++ L) g.1))) := by
  intro G
  unfold fne
  induction G with
  | nil => rfl
  | cons g G ih =>
    have e : seen (A ++ (L ++ [q])) g.1 = (seen (A ++ L) g.1 || decide (q.1 = g.1)) := by
      rw [← List.append_assoc, seen_app]
      show (_ || (decide (q.1 = g.1) || false)) = _
      rw [Bool.or_false]
    by_cases h1 : seen (A ++ L) g.1 = true
    · rw [List.filter_cons_of_neg (by rw [e, h1, Bool.true_or]; exact Bool.false_ne_true), List.filter_cons_of_neg (by rw [h1]; exact Bool.false_ne_true)]
      exact ih
    · have h1' : seen (A ++ L) g.1 = false := by rw [Bool.not_eq_true] at h1; exact h1
      rw [List.filter_cons_of_pos (p := fun g : xR => !(seen (A ++ L) g.1)) (by rw [h1']; rfl)]
      by_cases h2 : q.1 = g.1
      · rw [List.filter_cons_of_neg (by rw [e, h1', decide_eq_true h2]; exact Bool.false_ne_true), List.filter_cons_of_neg (by rw [decide_eq_false (fun z => z h2.symm)]; exact Bool.false_ne_true)]
        exact ih
      · rw [List.filter_cons_of_pos (by rw [e, h1', decide_eq_false h2]; rfl), List.filter_cons_of_pos (p := fun g : xR => decide (g.1 ≠ q.1)) (decide_eq_true (fun z : g.1 = q.1 => h2 z.symm)), ih]
section XKL
variable {k : kS} {f : xF} {r : List xF} {b : xB} {bs : List xB}
theorem k229_40_k {y z i1 i2 : Int32} (h : XK k (f :: r)) (hz : SZ (f :: r)) (hb : f.2.2.2.1 = b :: bs) (hk : b.2.2.2 ≠ 2) : XK (k229_40 k y z).1 (xla f (y, i1, xn f.2.1.length, i2) :: r) ∧ ((k229_40 k y z).1.1 8 ≠ 0 ↔ k.1 8 ≠ 0 ∨ ∃ g ∈ b.2.2.1.filter (fun g => !(seen (bLab (b :: bs)) g.1)), g.1 = y ∧ ¬ z ≤ g.2.2.2) := by
  have hzk := hz.k
  have hcnt := h.cnt hz
  have hd := h.dp hz
  have hX := h
  obtain ⟨⟨h1, h2⟩, ⟨h3, h4⟩, ⟨h5, h6⟩, ⟨h7, h8⟩, h9, h10⟩ := h
  generalize hB0 : fkBl r ++ kBl (kL r).length (fLab r).length (fUm r).length r.length bs = B0
  have eB : fkBl (f :: r) = B0 ++ [(xn ((kL r).length + b.1), xn ((fLab r).length + (bLab bs).length), xn ((fUm r).length + (bUm bs).length), xn r.length, if b.2.2.2 = 1 then 1 else 0)] := by
    show fkBl r ++ kBl _ _ _ _ f.2.2.2.1 = _
    rw [hb, ← hB0]
    show fkBl r ++ (if b.2.2.2 = 2 then _ else _) = _
    rw [if_neg hk, List.append_assoc]
  have zB : (fkBl (f :: r)).length = B0.length + 1 := by rw [eB, List.length_append]; rfl
  have hrow := h4 B0.length _ (by rw [eB, List.getElem?_append_right (Nat.le_refl _), Nat.sub_self]; rfl)
  have e37 : k.1 37 - 1 = xn B0.length := by
    rw [h3, zB]
    have := xn_sub (n := 1) (m := B0.length) (by omega)
    rw [Nat.add_comm 1] at this
    exact this
  have zP : (fUm r ++ bUm bs).length = (fUm r).length + (bUm bs).length := List.length_append
  have e40 : kr k 40 (k.1 37 - 1) = xn (fUm r ++ bUm bs).length := by
    rw [e37]
    show k.2 40 (xn B0.length).toNatClampNeg = _
    rw [xn_nat (by omega), zP]
    exact hrow.2.2.1
  have eG : fUm (f :: r) = (fUm r ++ bUm bs) ++ [] ++ b.2.2.1.filter (fun g => !(seen (bLab (b :: bs)) g.1)) := by
    show fUm r ++ bUm f.2.2.2.1 = _
    rw [hb, List.append_nil, List.append_assoc]
    rfl
  obtain ⟨m, k', W', r1, r2, r3, r4⟩ := la_go (y := y) (z := z) (b.2.2.1.filter (fun g => !(seen (bLab (b :: bs)) g.1))) (fUm r ++ bUm bs) [] k (by rw [← eG]; exact h7) (by rw [← eG]; omega) (by rw [← eG]; exact h8)
  have hk' : kfin (k229b58 y z) (k, kr k 40 (k.1 37 - 1), kr k 40 (k.1 37 - 1)) = (1, (k', xn ((fUm r ++ bUm bs).length + (fne y (b.2.2.1.filter (fun g => !(seen (bLab (b :: bs)) g.1)))).length), xn ((fUm r ++ bUm bs).length + ([] : List xR).length + (b.2.2.1.filter (fun g => !(seen (bLab (b :: bs)) g.1))).length))) := by
    rw [e40]
    exact kfin_of ⟨m, r1⟩ (Nat.succ_ne_zero 0)
  obtain ⟨hh, hrr⟩ : ∃ hh, (k229_40 k y z).1 = kf (ka (ka (ka (kf k' 48 (xn ((fUm r ++ bUm bs).length + (fne y (b.2.2.1.filter (fun g => !(seen (bLab (b :: bs)) g.1)))).length))) 45 (k'.1 44) y) 46 (k'.1 44) hh) 47 (k'.1 44) (k197 k')) 44 (k'.1 44 + 1) := by
    refine ⟨k210 (ka (kf k' 48 (xn ((fUm r ++ bUm bs).length + (fne y (b.2.2.1.filter (fun g => !(seen (bLab (b :: bs)) g.1)))).length))) 45 (k'.1 44) y), ?_⟩
    unfold k229_40
    rw [hk']
    rfl
  have c197 : k197 k' = xn f.2.1.length := by
    rw [← hcnt]
    show k'.1 24 - k'.2 34 (k'.1 32).toNatClampNeg = k.1 24 - k.2 34 (k.1 32).toNatClampNeg
    rw [r3.1 24 rfl, r3.1 32 rfl, r3.2 34 rfl]
  have e44 : k'.1 44 = xn (fLab (f :: r)).length := by rw [r3.1 44 rfl]; exact h5
  have n44 : (k'.1 44).toNatClampNeg = (fLab (f :: r)).length := by rw [e44]; exact xn_nat (by omega)
  have ex : xla f (y, i1, xn f.2.1.length, i2) = (f.1, f.2.1, f.2.2.1, (b.1, b.2.1 ++ [(y, i1, xn f.2.1.length, i2)], b.2.2.1, b.2.2.2) :: bs, f.2.2.2.2) := by unfold xla; rw [hb]
  have eLab : fLab (xla f (y, i1, xn f.2.1.length, i2) :: r) = fLab (f :: r) ++ [(y, i1, xn f.2.1.length, i2)] := by
    rw [ex]
    show fLab r ++ (bLab bs ++ (b.2.1 ++ [_])) = (fLab r ++ bLab f.2.2.2.1) ++ [_]
    rw [hb]
    show _ = (fLab r ++ (bLab bs ++ b.2.1)) ++ [_]
    simp only [List.append_assoc]
  have eUm : fUm (xla f (y, i1, xn f.2.1.length, i2) :: r) = fUm r ++ bUm bs ++ fne y (b.2.2.1.filter (fun g => !(seen (bLab (b :: bs)) g.1))) := by
    rw [ex]
    show fUm r ++ (bUm bs ++ b.2.2.1.filter (fun g => !(seen (bLab bs ++ (b.2.1 ++ [(y, i1, xn f.2.1.length, i2)])) g.1))) = _
    rw [fil_lab, List.append_assoc]
    rfl
  have eB2 : fkBl (xla f (y, i1, xn f.2.1.length, i2) :: r) = fkBl (f :: r) := by
    rw [ex]
    show fkBl r ++ kBl _ _ _ _ _ = fkBl r ++ kBl _ _ _ _ f.2.2.2.1
    rw [hb]
    rfl
  have eL : kL (xla f (y, i1, xn f.2.1.length, i2) :: r) = kL (f :: r) := by
    rw [ex]
    rfl
  rw [hrr, c197]
  refine ⟨⟨⟨?_, fun i q hq => ?_⟩, ⟨?_, fun i q hq => ?_⟩, ⟨?_, fun i q hq => ?_⟩, ⟨?_, fun i q hq => ?_⟩, ?_, ?_⟩, ?_⟩
  · show k'.1 24 = _
    rw [eL, r3.1 24 rfl]; exact h1
  · rw [eL] at hq
    unfold xlok
    show k'.2 25 i = q.1 ∧ (k'.2 28 i = 0 ↔ q.2.1 &&& 1 ≠ 0) ∧ (k'.1 8 = 0 → q.2.1 &&& 1 ≠ 0 → (k'.2 29 i ≠ 0 ↔ q.2.1 &&& 2 ≠ 0))
    rw [r3.2 25 rfl, r3.2 28 rfl, r3.2 29 rfl]
    obtain ⟨a1, a2, a3⟩ := h2 i q hq
    exact ⟨a1, a2, fun z => a3 (Classical.byContradiction (fun y' => r4.mpr (Or.inl y') z))⟩
  · show k'.1 37 = _
    rw [eB2, r3.1 37 rfl]; exact h3
  · rw [eB2] at hq
    show k'.2 38 i = q.1 ∧ k'.2 39 i = q.2.1 ∧ k'.2 40 i = q.2.2.1 ∧ k'.2 41 i = q.2.2.2.1 ∧ k'.2 42 i = q.2.2.2.2
    rw [r3.2 38 rfl, r3.2 39 rfl, r3.2 40 rfl, r3.2 41 rfl, r3.2 42 rfl]
    exact h4 i q hq
  · show k'.1 44 + 1 = _
    rw [eLab, e44, xn_succ (by omega), List.length_append]
    rfl
  · show upd (k'.2 45) (k'.1 44).toNatClampNeg y i = q.1 ∧ upd (k'.2 47) (k'.1 44).toNatClampNeg (xn f.2.1.length) i = q.2.2.1
    rw [eLab] at hq
    rw [n44]
    unfold upd
    rcases push_get hq with ⟨q1, q2⟩ | ⟨q1, q2⟩
    · rw [if_neg (by omega), if_neg (by omega), r3.2 45 rfl, r3.2 47 rfl]
      exact h6 i q q2
    · rw [if_pos q1, if_pos q1, q2]
      exact ⟨rfl, rfl⟩
  · show xn _ = _
    rw [eUm, List.length_append (as := fUm r ++ bUm bs)]
  · rw [eUm] at hq
    have := r2 i q (by rw [List.getElem?_append_left (List.getElem?_eq_some_iff.mp hq).1]; exact hq)
    exact this
  · show (k'.1 32).toInt + 1 = _
    rw [r3.1 32 rfl]
    exact h9
  · rw [ex]
    have h11 : XKF (kf (ka (ka (ka (kf k' 48 (xn ((fUm r ++ bUm bs).length + (fne y (b.2.2.1.filter (fun g => !(seen (bLab (b :: bs)) g.1)))).length))) 45 (k'.1 44) y) 46 (k'.1 44) hh) 47 (k'.1 44) (xn f.2.1.length)) 44 (k'.1 44 + 1)) (f :: r) := XKF.same (k := k) h10 (fun j hj => by
      rcases hj with rfl | rfl | rfl | rfl | rfl
      · exact r3.2 33 rfl
      · exact r3.2 34 rfl
      · exact r3.2 35 rfl
      · exact r3.2 36 rfl
      · exact r3.2 56 rfl)
    exact ⟨h11.1, h11.2.1, h11.2.2.1, h11.2.2.2.1, h11.2.2.2.2.1, h11.2.2.2.2.2⟩
  · exact r4
end XKL
/-! is a label there -/
theorem lf_go {k : kS} {y : Int32} {Q : List xR} (hQ : kr k 35 (k.1 32) = xn Q.length) : ∀ (n : Nat) (L : List xR) (x : Int32), L.length = n → (Q ++ L).length ≤ 1000000 → (∀ i q, (Q ++ L)[i]? = some q → k.2 45 i = q.1) → x.toInt + 1 = (Q ++ L).length → ∃ m v, kwh (k230b7 k y) m x = (1, v) ∧ (v < xn Q.length ↔ seen L y = false) := by
  intro n
  induction n with
  | zero =>
    intro L x hL hz h hx
    have e0 : L = [] := List.eq_nil_of_length_eq_zero hL
    subst e0
    rw [List.append_nil] at hx hz
    have e : k230b7 k y x = (1, x) := by
      unfold k230b7
      rw [hQ, if_pos (by rw [i_lt, xn_i (by omega)]; omega)]
    exact ⟨1, x, by rw [kwh_out (by rw [e]; exact Nat.succ_ne_zero _), e], ⟨fun _ => rfl, fun _ => by rw [i_lt, xn_i (by omega)]; omega⟩⟩
  | succ n ih =>
    intro L x hL hz h hx
    obtain ⟨L', l, rfl⟩ : ∃ L' l, L = L' ++ [l] := by
      refine ⟨L.dropLast, L.getLast (by intro e; rw [e] at hL; cases hL), ?_⟩
      exact (List.dropLast_concat_getLast _).symm
    have hL' : L'.length = n := by
      rw [List.length_append] at hL
      have : [l].length = 1 := rfl
      omega
    have hlen : (Q ++ (L' ++ [l])).length = Q.length + n + 1 := by
      rw [List.length_append, List.length_append, hL']
      have : [l].length = 1 := rfl
      omega
    rw [hlen] at hx hz
    have hl : k.2 45 (Q.length + n) = l.1 := h (Q.length + n) l (by
      rw [← List.append_assoc, List.getElem?_append_right (by rw [List.length_append]; omega), List.length_append, hL', Nat.sub_self]
      rfl)
    have hr : kr k 45 x = l.1 := by
      show k.2 45 x.toInt.toNat = _
      rw [show x.toInt.toNat = Q.length + n by omega]
      exact hl
    have hc : ¬ x < kr k 35 (k.1 32) := by rw [hQ, i_lt, xn_i (by omega)]; omega
    have es : seen (L' ++ [l]) y = (seen L' y || decide (l.1 = y)) := by
      rw [seen_app]
      show (_ || (decide (l.1 = y) || false)) = _
      rw [Bool.or_false]
    by_cases c1 : l.1 = y
    · have e : k230b7 k y x = (1, x) := by
        unfold k230b7
        rw [if_neg hc, if_pos (by rw [hr]; exact c1)]
      refine ⟨1, x, by rw [kwh_out (by rw [e]; exact Nat.succ_ne_zero _), e], ⟨fun q => ?_, fun q => ?_⟩⟩
      · rw [i_lt, xn_i (by omega)] at q
        omega
      · rw [es, decide_eq_true c1, Bool.or_true] at q
        cases q
    · have e : k230b7 k y x = (0, x + (-1)) := by
        unfold k230b7
        rw [if_neg hc, if_neg (by rw [hr]; exact c1)]
      have ex1 : (x + (-1)).toInt = x.toInt + (-1) := i_add rfl (show (-1 : Int32).toInt = -1 from rfl) (by omega) (by omega)
      obtain ⟨m, v, r1, r2⟩ := ih L' (x + (-1)) hL' (by rw [List.length_append, hL']; omega) (fun i q hq => h i q (by rw [← List.append_assoc, List.getElem?_append_left (List.getElem?_eq_some_iff.mp hq).1]; exact hq)) (by rw [ex1, List.length_append, hL']; omega)
      refine ⟨m + 1, v, ?_, ?_⟩
      · rw [kwh_go (by rw [e]), e]
        exact r1
      · rw [r2, es, decide_eq_false c1, Bool.or_false]
theorem k230_k {k : kS} {f : xF} {r : List xF} {y : Int32} (h : XK k (f :: r)) (hz : SZ (f :: r)) : k230 k y < 0 ↔ seen (bLab f.2.2.2.1) y = false := by
  have hzk := hz.k
  have hd := h.dp hz
  have hQ : kr k 35 (k.1 32) = xn (fLab r).length := by
    show k.2 35 (k.1 32).toNatClampNeg = _
    rw [hd, xn_nat (by have : (f :: r).length = r.length + 1 := rfl; omega)]
    exact h.2.2.2.2.2.2.2.1
  have hlen : (fLab (f :: r)).length = (fLab r ++ bLab f.2.2.2.1).length := rfl
  have zz : (fLab r).length ≤ 1000000 := by rw [List.length_append] at hlen; omega
  have e0 : (0 : Int32).toInt = 0 := rfl
  obtain ⟨m, v, r1, r2⟩ := lf_go (y := y) hQ _ (bLab f.2.2.2.1) (k.1 44 - 1) rfl (by rw [← hlen]; omega) (fun i q hq => (h.2.2.1.2 i q hq).1) (by
    rw [h.2.2.1.1, i_sub (xn_i (by omega)) (show (1 : Int32).toInt = 1 from rfl) (by omega) (by omega), ← hlen]
    omega)
  have hk := kfin_of ⟨m, r1⟩ (Nat.succ_ne_zero 0)
  unfold k230
  rw [hk]
  unfold k230_36
  rw [hQ]
  show (if v < xn (fLab r).length then (-1) else v) < 0 ↔ _
  rw [← r2]
  by_cases c : v < xn (fLab r).length
  · rw [if_pos c]
    exact ⟨fun _ => c, fun _ => by decide⟩
  · rw [if_neg c]
    refine ⟨fun q => ?_, fun q => absurd q c⟩
    rw [i_lt, xn_i (by omega)] at c
    rw [i_lt, e0] at q
    omega
