/-! CLOSING A BLOCK in the class: what holds while its gotos are gone through -/
theorem cb_ind {x : Nat} {v : Int32} {Q L : List xR} {Ψ : cS → List xR → List xR → Prop} (hl : ∀ (s : cS) (K G : List xR) (g l : xR) (i j : Int32), Ψ s K (g :: G) → flab L g.1 = some l → tg s (.s 26) i 2 = g.2.2.1 → tg s (.s 24) j 2 = l.2.2.1 → tg s (.s 24) j 1 = l.2.1 → Ψ (c85 s x i j).1 K G) (hk : ∀ (s : cS) (K G : List xR) (g : xR) (i j : Int32), Ψ s K (g :: G) → flab L g.1 = none → Ψ (c87 s i j v).1 (K ++ [g]) G) : ∀ (G P W K : List xR) (s : cS), TR s (.s 26) (P ++ W ++ G) → TR s (.s 24) (Q ++ L) → (P ++ W ++ G).length ≤ 1000000 → (Q ++ L).length ≤ 1000000 → Ψ s K G → ∃ m R, kwh (c83b6 x (xn Q.length) v) m (s, xn P.length, xn (P.length + W.length)) = (1, R) ∧ Ψ R.1 (K ++ G.filter (fun g => (flab L g.1).isNone)) [] := by
  intro G
  induction G with
  | nil =>
    intro P W K s h1 h2 z1 z2 hP
    rw [List.append_nil] at h1 z1
    have hlen : (P ++ W).length = P.length + W.length := List.length_append
    have e : c83b6 x (xn Q.length) v (s, xn P.length, xn (P.length + W.length)) = (1, (s, xn P.length, xn (P.length + W.length))) := by
      unfold c83b6
      rw [if_pos (by show s.r (.s 26) ≤ xn (P.length + W.length); rw [i_le, h1.1, xn_i (by omega)]; omega)]
    refine ⟨1, (s, xn P.length, xn (P.length + W.length)), ?_, ?_⟩
    · rw [kwh_out (by rw [e]; exact Nat.succ_ne_zero _), e]
    · rw [List.filter_nil, List.append_nil]
      exact hP
  | cons g G ih =>
    intro P W K s h1 h2 z1 z2 hP
    have hlen : (P ++ W ++ g :: G).length = P.length + W.length + (G.length + 1) := by rw [List.length_append, List.length_append]; rfl
    have hPW : (P ++ W).length = P.length + W.length := List.length_append
    have hi : (P ++ W ++ g :: G)[P.length + W.length]? = some g := by
      rw [← hPW, List.getElem?_append_right (Nat.le_refl _), Nat.sub_self]; rfl
    have ei : (xn (P.length + W.length)).toInt = (P.length + W.length : Nat) := xn_i (by omega)
    have hc : ¬ s.r (.s 26) ≤ xn (P.length + W.length) := by rw [i_le, h1.1, ei]; omega
    have ht := h1.g0 ei hi
    have ht2 := h1.g2 ei hi
    rcases lab_of (t := g.1) h2 z2 with ⟨j, l, q1, q2, q3⟩ | ⟨q1, q2⟩
    · -- led
      have jl := (List.getElem?_eq_some_iff.mp q1).1
      have zQ : (Q ++ L).length = Q.length + L.length := List.length_append
      have e : c83b6 x (xn Q.length) v (s, xn P.length, xn (P.length + W.length)) = (0, ((c85 s x (xn (P.length + W.length)) (xn (Q.length + j))).1, xn P.length, xn (P.length + W.length + 1))) := by
        unfold c83b6
        show (if s.r (.s 26) ≤ xn (P.length + W.length) then _ else if c84 s (tg s (.s 26) (xn (P.length + W.length)) 0) (xn Q.length) < 0 then _ else (0, ((c85 s x (xn (P.length + W.length)) (c84 s (tg s (.s 26) (xn (P.length + W.length)) 0) (xn Q.length))).1, xn P.length, xn (P.length + W.length) + 1))) = _
        rw [if_neg hc, ht, q3, if_neg (by rw [i_lt, xn_i (by omega)]; have e0 : (0 : Int32).toInt = 0 := rfl; omega), xn_succ (by omega)]
      have hll : (Q ++ L)[Q.length + j]? = some l := by rw [List.getElem?_append_right (by omega)]; rw [show Q.length + j - Q.length = j by omega]; exact q1
      have ejl : (xn (Q.length + j)).toInt = (Q.length + j : Nat) := xn_i (by omega)
      have hP1 := hl s K G g l (xn (P.length + W.length)) (xn (Q.length + j)) hP q2 ht2 (h2.g2 ejl hll) (h2.g1 ejl hll)
      have hT : TR (c85 s x (xn (P.length + W.length)) (xn (Q.length + j))).1 (.s 26) (P ++ (W ++ [g]) ++ G) := by
        have h3 := h1.fr (fr_c85 s x (xn (P.length + W.length)) (xn (Q.length + j))) rfl
        rw [show P ++ (W ++ [g]) ++ G = P ++ W ++ g :: G by simp only [List.append_assoc, List.cons_append, List.nil_append]]
        exact h3
      have hW1 : (W ++ [g]).length = W.length + 1 := by rw [List.length_append]; rfl
      obtain ⟨m, R, r1, r2⟩ := ih P (W ++ [g]) K _ hT (h2.fr (fr_c85 s x (xn (P.length + W.length)) (xn (Q.length + j))) rfl) (by rw [show P ++ (W ++ [g]) ++ G = P ++ W ++ g :: G by simp only [List.append_assoc, List.cons_append, List.nil_append]]; exact z1) z2 hP1
      have hm : (g :: G).filter (fun g => (flab L g.1).isNone) = G.filter (fun g => (flab L g.1).isNone) := List.filter_cons_of_neg (by rw [q2]; exact Bool.false_ne_true)
      rw [hW1] at r1
      refine ⟨m + 1, R, ?_, by rw [hm]; exact r2⟩
      rw [kwh_go (by rw [e]), e]
      show kwh _ m (_, xn P.length, xn (P.length + W.length + 1)) = _
      rw [Nat.add_assoc P.length W.length 1, r1]
    · -- kept
      have e : c83b6 x (xn Q.length) v (s, xn P.length, xn (P.length + W.length)) = (0, ((c87 s (xn (P.length + W.length)) (xn P.length) v).1, xn (P.length + 1), xn (P.length + W.length + 1))) := by
        unfold c83b6
        show (if s.r (.s 26) ≤ xn (P.length + W.length) then _ else if c84 s (tg s (.s 26) (xn (P.length + W.length)) 0) (xn Q.length) < 0 then (0, ((c87 s (xn (P.length + W.length)) (xn P.length) v).1, xn P.length + 1, xn (P.length + W.length) + 1)) else _) = _
        rw [if_neg hc, ht, q2, if_pos (by decide), xn_succ (by omega), xn_succ (by omega)]
      have hP2 := hk s K G g (xn (P.length + W.length)) (xn P.length) hP q1
      have hT : ∃ W1, TR (c87 s (xn (P.length + W.length)) (xn P.length) v).1 (.s 26) ((P ++ [xmv v g]) ++ W1 ++ G) ∧ W1.length = W.length := by
        cases W with
        | nil =>
          have hi' : (P ++ [] ++ g :: G)[P.length]? = some g := hi
          have h3 := c87_tr (v := v) h1 z1 hi' hi'
          refine ⟨[], ?_, rfl⟩
          have e2 : (P ++ [] ++ g :: G).set P.length (xmv v g) = (P ++ [xmv v g]) ++ [] ++ G := by
            rw [List.append_nil, List.set_append_right _ _ (Nat.le_refl _), Nat.sub_self, List.set_cons_zero, List.append_nil, List.append_assoc]
            rfl
          rw [e2] at h3
          exact h3
        | cons w W =>
          have hj : (P ++ (w :: W) ++ g :: G)[P.length]? = some w := by
            rw [List.append_assoc, List.getElem?_append_right (Nat.le_refl _), Nat.sub_self]; rfl
          have h3 := c87_tr (v := v) h1 z1 hi hj
          refine ⟨W ++ [g], ?_, by rw [List.length_append]; rfl⟩
          have e2 : (P ++ (w :: W) ++ g :: G).set P.length (xmv v g) = (P ++ [xmv v g]) ++ (W ++ [g]) ++ G := by
            rw [List.append_assoc, List.set_append_right _ _ (Nat.le_refl _), Nat.sub_self, List.cons_append, List.set_cons_zero]
            simp only [List.append_assoc, List.cons_append, List.nil_append]
          rw [e2] at h3
          exact h3
      obtain ⟨W1, hT, hW1⟩ := hT
      have hP1 : (P ++ [xmv v g]).length = P.length + 1 := by rw [List.length_append]; rfl
      obtain ⟨m, R, r1, r2⟩ := ih (P ++ [xmv v g]) W1 (K ++ [g]) _ hT (h2.fr (fr_c87 s (xn (P.length + W.length)) (xn P.length) v) rfl) (by simp only [List.length_append, List.length_cons, List.length_nil]; omega) z2 hP2
      have hm : (g :: G).filter (fun g => (flab L g.1).isNone) = g :: G.filter (fun g => (flab L g.1).isNone) := List.filter_cons_of_pos (by rw [q1]; rfl)
      rw [hP1, hW1] at r1
      refine ⟨m + 1, R, ?_, ?_⟩
      · rw [kwh_go (by rw [e]), e]
        show kwh _ m (_, xn (P.length + 1), xn (P.length + W.length + 1)) = _
        rw [show P.length + W.length + 1 = P.length + 1 + W.length by omega, r1]
      · rw [hm, show K ++ g :: G.filter (fun g => (flab L g.1).isNone) = K ++ [g] ++ G.filter (fun g => (flab L g.1).isNone) by rw [List.append_assoc]; rfl]
        exact r2
