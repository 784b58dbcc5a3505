/-! JUMPS THAT WAIT: a goto and a label on both sides -/
section GTL
variable {H : List hE} {s s' : cS} {k k' : kS} {f : xF} {r : List xF} {b : xB} {bs : List xB}
theorem jx_go {q : xR} (hb : f.2.2.2.1 = b :: bs) : jx (xgo f q :: r) = (f.1, (b.2.1, b.2.2.1 ++ [q], b.2.2.2) :: jb bs) :: jx r := by
  unfold xgo
  rw [hb]
  rfl
theorem jx_la {q : xR} (hb : f.2.2.2.1 = b :: bs) : jx (xla f q :: r) = (f.1, (b.2.1 ++ [q], b.2.2.1, b.2.2.2) :: jb bs) :: jx r := by
  unfold xla
  rw [hb]
  rfl
theorem fUm_l (hb : f.2.2.2.1 = b :: bs) : (fUm (f :: r)).length = (jfUm (jx r)).length + (jUm (jb bs)).length + (b.2.2.1.filter (fun g => !(seen (jLab (jb (b :: bs))) g.1))).length := by
  show (fUm r ++ bUm f.2.2.2.1).length = _
  rw [hb, List.length_append, ← jfUm_x, ← jUm_b]
  show _ + (jUm (jb bs) ++ b.2.2.1.filter _).length = _
  rw [List.length_append]
  show _ + (_ + (b.2.2.1.filter (fun g => !(seen (jLab (jb (b :: bs))) g.1))).length) = _
  omega
/-- a goto whose two rows wait becomes one of the block's -/
theorem NR.gtx {q : xR} {i1 i2 g1 g2 F T B G F' A' : Nat} {V1 V2 : Int32} (h : NR 0 ([], []) ((f.1 - 1, i2, 1, g2, 0, V2) :: (f.1 - 1, i1, 1, g1, 0, V1) :: H) s k (f :: r)) (hb : f.2.2.2.1 = b :: bs) (hi : lvg q = i1) (hc : k.1 8 = 0 → (k.1 68).toInt < 65536 → FL s k → i2 = i1 + 1 ∧ g2 = g1 + 1 ∧ g1 ≤ 65536 ∧ q.2.2.1.toInt = i1 ∧ i1 ≤ 1048576) (hl : (seen (bLab f.2.2.2.1) q.1 = true ∧ k'.2 51 = k.2 51 ∧ ∃ j l, (bLab f.2.2.2.1)[j]? = some l ∧ l.1 = q.1 ∧ V1 = l.2.2.1 ∧ V2 = k.2 46 ((fLab r).length + j)) ∨ (seen (bLab f.2.2.2.1) q.1 = false ∧ (∀ i, i < (fUm (f :: r)).length → k'.2 51 i = k.2 51 i) ∧ (k.1 8 = 0 → (k.1 68).toInt < 65536 → FL s k → k'.2 51 (fUm (f :: r)).length = xn g1))) (fc : cFr F T B G s s') (fk : kFr F' A' k k') (c2 : T &&& 1342177280 = 0 := by rfl) (c4 : G &&& 21 = 0 := by rfl) (k1 : F' &&& 295156912378607567104 = 0 := by rfl) (k2 : A' &&& 18300323121789319249920 = 0 := by rfl) : NR 0 ([], []) H s' k' (xgo f q :: r) := by
  have hr := fc.2.2.2.2.2.2.1 (tb0 c4 (by decide))
  have e53 := fk.1 53 (tb0 k1 (by decide))
  have e68 := fk.1 68 (tb0 k1 (by decide))
  have e8 := fk.1 8 (tb0 k1 (by decide))
  have e43 := fk.2 43 (tb0 k2 (by decide))
  have e46 := fk.2 46 (tb0 k2 (by decide))
  refine ⟨fun x => by rw [hr]; exact h.1 x, fun z => ?_⟩
  rw [e8] at z
  obtain ⟨h0, h1⟩ := h.2 z
  refine ⟨by rw [e68]; exact h0, fun h6 hf => ?_⟩
  rw [e68] at h6
  have hf := hf.same hr e53
  obtain ⟨p, Hd, hpn, ⟨Hg, Gs, ⟨d1, d2, d3⟩, ⟨Hr, Hf, x1, x2, x3⟩, d5, d6⟩, h3⟩ := h1 h6 hf
  have p0 : p = [] := by
    rcases hpn with ⟨-, z⟩ | ⟨z, -⟩ | ⟨z, -⟩
    · exact z
    · exact absurd z (by decide)
    · exact absurd z (by decide)
  subst p0
  obtain ⟨w1, w2, w3, w4, w5⟩ := hc z h6 hf
  subst w1 w2
  have x3 : GB k (f.1 - 1) (jfUm (jx r)).length (jb f.2.2.2.1) Hf := x3
  rw [hb] at x3
  obtain ⟨Hbs, Hb, t1, t2, t3⟩ := x3
  have t3 : GL k (f.1 - 1) (jLab (jb (b :: bs))) ((jfUm (jx r)).length + (jUm (jb bs)).length) b.2.2.1 Hb := t3
  have eL : jLab (jb (b :: bs)) = bLab f.2.2.2.1 := by rw [hb]; exact jLab_b
  have el := fUm_l (r := r) hb
  have e51 : ∀ i, i < (fUm (f :: r)).length → k'.2 51 i = k.2 51 i := by
    rcases hl with ⟨-, q2, -⟩ | ⟨-, q2, -⟩
    · intro i _
      rw [q2]
    · exact q2
  have one : GL k' (f.1 - 1) (jLab (jb (b :: bs))) ((jfUm (jx r)).length + (jUm (jb bs)).length + (b.2.2.1.filter (fun g => !(seen (jLab (jb (b :: bs))) g.1))).length) [q] [(f.1 - 1, lvg q, 1, g1, 0, V1), (f.1 - 1, lvg q + 1, 1, g1 + 1, 0, V2)] := by
    refine GL.one ⟨by rw [w4, hi], by omega⟩ ?_
    rw [eL]
    rcases hl with ⟨q1, q2, j, l, q3, q4, q5, q6⟩ | ⟨q1, q2, q3⟩
    · refine Or.inl ⟨q1, l, List.mem_of_getElem? q3, q4, q5, ?_⟩
      rw [q6]
      refine d2 _ l ?_
      rw [jfLab_x]
      show (fLab r ++ bLab f.2.2.2.1)[(fLab r).length + j]? = some l
      rw [List.getElem?_append_right (by omega), Nat.add_sub_cancel_left]
      exact q3
    · refine Or.inr ⟨q1, ?_, w3⟩
      rw [← eL, ← el]
      exact q3 z h6 hf
  rw [hi] at one
  have eC : H ++ ((Hr ++ (Hbs ++ (Hb ++ [(f.1 - 1, i1, 1, g1, 0, V1), (f.1 - 1, i1 + 1, 1, g1 + 1, 0, V2)]))) ++ (Gs ++ []).flatten) = H ++ (Hg ++ ((f.1 - 1, i1, 1, g1, 0, V1) :: (f.1 - 1, i1 + 1, 1, g1 + 1, 0, V2) :: (Gs ++ []).flatten)) := by
    rw [x1, t1]
    simp only [List.append_assoc, List.cons_append, List.nil_append]
  refine ⟨[], _, Or.inl ⟨rfl, rfl⟩, ⟨Hr ++ (Hbs ++ (Hb ++ [(f.1 - 1, i1, 1, g1, 0, V1), (f.1 - 1, i1 + 1, 1, g1 + 1, 0, V2)])), Gs, ⟨rfl, ?_, ?_⟩, ?_, ?_, d6.same (fc.2.1 28 (tb0 c2 (by decide))) (fc.2.1 30 (tb0 c2 (by decide)))⟩, ?_⟩
  · rw [jx_go hb, e46]
    intro i l hq
    refine d2 i l ?_
    show (jfLab (jx r) ++ jLab (jb f.2.2.2.1))[i]? = some l
    rw [hb]
    exact hq
  · rw [jx_go hb]
    intro g hg
    rcases List.mem_cons.mp hg with e | e
    · rw [e]
      have := d3 (f.1, jb f.2.2.2.1) List.mem_cons_self
      rw [hb] at this
      exact this
    · exact d3 g (List.mem_cons_of_mem _ e)
  · rw [jx_go hb]
    refine ⟨Hr, Hbs ++ (Hb ++ _), rfl, x2.fb (fun i hi => e51 i (by omega)), Hbs, Hb ++ _, rfl, t2.fb (fun i hi => e51 i (by omega)), ?_⟩
    exact (t3.fb (fun i _ hi => e51 i (by omega))).app one
  · rw [jx_go hb]
    have d5 := d5.fr e43
    obtain ⟨Gr, Gf, b1, b2, b3⟩ := d5
    have b3 : BGr k' (f.1 - 1) (jfK (jx r)) (jb f.2.2.2.1) Gf := b3
    rw [hb] at b3
    exact ⟨Gr, Gf, b1, b2, b3⟩
  · rw [eC]
    have h3' : RWS ([], []) (H ++ (Hg ++ ((f.1 - 1, i1, 1, g1, 0, V1) :: (f.1 - 1, i1 + 1, 1, g1 + 1, 0, V2) :: (Gs ++ []).flatten))) s k := by
      rw [d1] at h3
      exact (h3.perm (List.Perm.swap _ _ _)).perm pm2.symm
    exact h3'.same hr (fc.2.2.2.2.2.1 (tb0 c4 (by decide))) (fc.2.2.2.1 (tb0 c4 (by decide))) (fun z => e8 ▸ z) e53 e68 (fk.2 60 (tb0 k2 (by decide))) (fun j h1 h2 => by
      have : j = 69 ∨ j = 70 ∨ j = 71 ∨ j = 72 ∨ j = 73 := by omega
      rcases this with e | e | e | e | e <;> (subst e; exact fk.2 _ (tb0 k2 (by decide))))
end GTL
/-! the label that is found -/
theorem lf_at {k : kS} {y : Int32} {Q : List xR} (hQ : kr k 35 (k.1 32) = xn Q.length) : ∀ (n : Nat) (L : List xR) (x : Int32), L.length = n → (Q ++ L).length ≤ 1000000 → (∀ i q, (Q ++ L)[i]? = some q → k.2 45 i = q.1) → x.toInt + 1 = (Q ++ L).length → ∃ m v, kwh (k230b7 k y) m x = (1, v) ∧ (v < xn Q.length ∨ ∃ j l, L[j]? = some l ∧ l.1 = y ∧ v = xn (Q.length + j)) := by
  intro n
  induction n with
  | zero =>
    intro L x hL hz h hx
    have e0 : L = [] := List.eq_nil_of_length_eq_zero hL
    subst e0
    rw [List.append_nil] at hx hz
    have hl : x < xn Q.length := by rw [i_lt, xn_i (by omega)]; omega
    have e : k230b7 k y x = (1, x) := by
      unfold k230b7
      rw [hQ, if_pos hl]
    exact ⟨1, x, by rw [kwh_out (by rw [e]; exact Nat.succ_ne_zero _), e], Or.inl hl⟩
  | succ n ih =>
    intro L x hL hz h hx
    obtain ⟨L', l, rfl⟩ : ∃ L' l, L = L' ++ [l] := by
      refine ⟨L.dropLast, L.getLast (by intro e; rw [e] at hL; cases hL), ?_⟩
      exact (List.dropLast_concat_getLast _).symm
    have hL' : L'.length = n := by
      rw [List.length_append] at hL
      have : [l].length = 1 := rfl
      omega
    have hlen : (Q ++ (L' ++ [l])).length = Q.length + n + 1 := by
      rw [List.length_append, List.length_append, hL']
      have : [l].length = 1 := rfl
      omega
    rw [hlen] at hx hz
    have hl : k.2 45 (Q.length + n) = l.1 := h (Q.length + n) l (by
      rw [← List.append_assoc, List.getElem?_append_right (by rw [List.length_append]; omega), List.length_append, hL', Nat.sub_self]
      rfl)
    have hr : kr k 45 x = l.1 := by
      show k.2 45 x.toInt.toNat = _
      rw [show x.toInt.toNat = Q.length + n by omega]
      exact hl
    have hc : ¬ x < kr k 35 (k.1 32) := by rw [hQ, i_lt, xn_i (by omega)]; omega
    by_cases c1 : l.1 = y
    · have e : k230b7 k y x = (1, x) := by
        unfold k230b7
        rw [if_neg hc, if_pos (by rw [hr]; exact c1)]
      refine ⟨1, x, by rw [kwh_out (by rw [e]; exact Nat.succ_ne_zero _), e], Or.inr ⟨n, l, ?_, c1, xn_eq (by omega) (by omega)⟩⟩
      rw [← hL', List.getElem?_append_right (Nat.le_refl _), Nat.sub_self]
      rfl
    · have e : k230b7 k y x = (0, x + (-1)) := by
        unfold k230b7
        rw [if_neg hc, if_neg (by rw [hr]; exact c1)]
      have ex1 : (x + (-1)).toInt = x.toInt + (-1) := i_add rfl (show (-1 : Int32).toInt = -1 from rfl) (by omega) (by omega)
      obtain ⟨m, v, r1, r2⟩ := ih L' (x + (-1)) hL' (by rw [List.length_append, hL']; omega) (fun i q hq => h i q (by rw [← List.append_assoc, List.getElem?_append_left (List.getElem?_eq_some_iff.mp hq).1]; exact hq)) (by rw [ex1, List.length_append, hL']; omega)
      refine ⟨m + 1, v, ?_, ?_⟩
      · rw [kwh_go (by rw [e]), e]
        exact r1
      · rcases r2 with r2 | ⟨j, l', q1, q2⟩
        · exact Or.inl r2
        · exact Or.inr ⟨j, l', by rw [List.getElem?_append_left (List.getElem?_eq_some_iff.mp q1).1]; exact q1, q2⟩
theorem k230_at {k : kS} {f : xF} {r : List xF} {y : Int32} (h : XK k (f :: r)) (hz : SZ (f :: r)) (hc : 0 ≤ k230 k y) : ∃ j l, (bLab f.2.2.2.1)[j]? = some l ∧ l.1 = y ∧ k230 k y = xn ((fLab r).length + j) ∧ kr k 47 (k230 k y) = l.2.2.1 ∧ ∀ k' : kS, kr k' 46 (k230 k y) = k'.2 46 ((fLab r).length + j) := by
  have hzk := hz.k
  have hd := h.dp hz
  have hQ : kr k 35 (k.1 32) = xn (fLab r).length := by
    show k.2 35 (k.1 32).toNatClampNeg = _
    rw [hd, xn_nat (by have : (f :: r).length = r.length + 1 := rfl; omega)]
    exact h.2.2.2.2.2.2.2.1
  have hlen : (fLab (f :: r)).length = (fLab r ++ bLab f.2.2.2.1).length := rfl
  have zz : (fLab r).length ≤ 1000000 := by rw [List.length_append] at hlen; omega
  obtain ⟨m, v, r1, r2⟩ := lf_at (y := y) hQ _ (bLab f.2.2.2.1) (k.1 44 - 1) rfl (by rw [← hlen]; omega) (fun i q hq => (h.2.2.1.2 i q hq).1) (by
    rw [h.2.2.1.1, i_sub (xn_i (by omega)) (show (1 : Int32).toInt = 1 from rfl) (by omega) (by omega), ← hlen]
    omega)
  have hk := kfin_of ⟨m, r1⟩ (Nat.succ_ne_zero 0)
  have e : k230 k y = if v < xn (fLab r).length then -1 else v := by
    unfold k230
    rw [hk]
    unfold k230_36
    rw [hQ]
  by_cases c : v < xn (fLab r).length
  · rw [if_pos c] at e
    rw [e] at hc
    exact absurd hc (by decide)
  · rw [if_neg c] at e
    rcases r2 with r2 | ⟨j, l, q1, q2, q3⟩
    · exact absurd r2 c
    · have jl := (List.getElem?_eq_some_iff.mp q1).1
      rw [List.length_append] at hlen
      have en : (xn ((fLab r).length + j)).toNatClampNeg = (fLab r).length + j := xn_nat (by omega)
      refine ⟨j, l, q1, q2, e.trans q3, ?_, fun k' => ?_⟩
      · rw [e, q3]
        show k.2 47 (xn _).toNatClampNeg = _
        rw [en]
        refine (h.2.2.1.2 _ l ?_).2
        show (fLab r ++ bLab f.2.2.2.1)[(fLab r).length + j]? = some l
        rw [List.getElem?_append_right (by omega), Nat.add_sub_cancel_left]
        exact q1
      · rw [e, q3]
        show k'.2 46 (xn _).toNatClampNeg = _
        rw [en]
