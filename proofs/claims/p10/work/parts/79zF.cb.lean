/-- a fault is noted -/
theorem c76_f {s : cS} {a b : Int32} (ha : a ≠ 0) : (c76 s a b).1.f 1 0 ≠ 0 := by
  unfold c76
  by_cases h : s.f 1 0 = 0
  · rw [if_pos h]
    show (nf (nf s 1 0 a) 1 1 b).f 1 0 ≠ 0
    rw [nf_eq]
    show upd ((nf s 1 0 a).f 1) 1 b 0 ≠ 0
    unfold upd
    rw [if_neg (by decide), nf_eq]
    show upd (s.f 1) 0 a 0 ≠ 0
    unfold upd
    rw [if_pos rfl]
    exact ha
  · rw [if_neg h]
    split
    · exact h
    · show (nf (nf s 1 0 a) 1 1 b).f 1 0 ≠ 0
      rw [nf_eq]
      show upd ((nf s 1 0 a).f 1) 1 b 0 ≠ 0
      unfold upd
      rw [if_neg (by decide), nf_eq]
      show upd (s.f 1) 0 a 0 ≠ 0
      unfold upd
      rw [if_pos rfl]
      exact ha
/-- a goto is led to a label -/
theorem c85_f {s : cS} {x i : Nat} {l g : xR} {lb G : List xR} {j : Nat} (hG : TR s (.s 26) G) (hL : TR s (.s 24) lb) (hzG : G.length ≤ 1000000) (hzL : lb.length ≤ 1000000) (hg : G[i]? = some g) (hl : lb[j]? = some l) : (c85 s x (xn i) (xn j)).1.f 1 0 ≠ 0 ↔ (s.f 1 0 ≠ 0 ∨ (¬ l.2.2.1 ≤ g.2.2.2 ∧ l.2.2.2 = 0)) := by
  have il := (List.getElem?_eq_some_iff.mp hg).1
  have jl := (List.getElem?_eq_some_iff.mp hl).1
  have ei : (xn i).toInt = i := xn_i (by omega)
  have ej : (xn j).toInt = j := xn_i (by omega)
  have hf : cFr 0 0 0 4 s (ts (ts s (.i x) (tg s (.s 26) (xn i) 2) 1 (tg s (.s 24) (xn j) 2)) (.i x) (tg s (.s 26) (xn i) 2 + 1) 1 (tg (ts s (.i x) (tg s (.s 26) (xn i) 2) 1 (tg s (.s 24) (xn j) 2)) (.s 24) (xn j) 1)) := (cFr.refl.tsb rfl).tsb rfl
  show (c85_51 (ts (ts s (.i x) (tg s (.s 26) (xn i) 2) 1 (tg s (.s 24) (xn j) 2)) (.i x) (tg s (.s 26) (xn i) 2 + 1) 1 (tg (ts s (.i x) (tg s (.s 26) (xn i) 2) 1 (tg s (.s 24) (xn j) 2)) (.s 24) (xn j) 1)) (xn i) (xn j)).1.f 1 0 ≠ 0 ↔ _
  generalize ts (ts s (.i x) (tg s (.s 26) (xn i) 2) 1 (tg s (.s 24) (xn j) 2)) (.i x) (tg s (.s 26) (xn i) 2 + 1) 1 (tg (ts s (.i x) (tg s (.s 26) (xn i) 2) 1 (tg s (.s 24) (xn j) 2)) (.s 24) (xn j) 1) = s1 at hf
  have hG1 := hG.fr hf rfl
  have hL1 := hL.fr hf rfl
  have e0 : s1.f 1 0 = s.f 1 0 := hf.1 1 0 (by decide) (Nat.zero_testBit _)
  unfold c85_51
  rw [hL1.g2 ej hl, hG1.g3 ei hg, hL1.g3 ej hl]
  by_cases c1 : l.2.2.1 ≤ g.2.2.2
  · rw [if_pos c1]
    show s1.f 1 0 ≠ 0 ↔ _
    rw [e0]
    exact ⟨Or.inl, fun h => h.resolve_right (fun q => q.1 c1)⟩
  · rw [if_neg c1]
    by_cases c2 : l.2.2.2 ≠ 0
    · rw [if_pos c2]
      show s1.f 1 0 ≠ 0 ↔ _
      rw [e0]
      exact ⟨Or.inl, fun h => h.resolve_right (fun q => c2 q.2)⟩
    · rw [if_neg c2]
      exact ⟨fun _ => Or.inr ⟨c1, Decidable.of_not_not c2⟩, fun _ => c76_f (by decide)⟩
theorem flab_in {L : List xR} {t : Int32} {l : xR} (h : flab L t = some l) : l.1 = t := by
  unfold flab at h
  exact of_decide_eq_true (List.find?_some (p := fun l : xR => decide (l.1 = t)) h)
/-- the gotos of a block -/
theorem cb_go {x : Nat} {v : Int32} {Q L : List xR} : ∀ (G P W : List xR) (s : cS), TR s (.s 26) (P ++ W ++ G) → TR s (.s 24) (Q ++ L) → (P ++ W ++ G).length ≤ 1000000 → (Q ++ L).length ≤ 1000000 → ∃ m s' W', kwh (c83b6 x (xn Q.length) v) m (s, xn P.length, xn (P.length + W.length)) = (1, (s', xn (P.length + (mvd L v G).length), xn (P.length + W.length + G.length))) ∧ TR s' (.s 26) (P ++ mvd L v G ++ W') ∧ TR s' (.s 24) (Q ++ L) ∧ cFr 196608 67108864 0 4 s s' ∧ (s'.f 1 0 ≠ 0 ↔ s.f 1 0 ≠ 0 ∨ ∃ g ∈ G, ovr L g) := by
  intro G
  induction G with
  | nil =>
    intro P W s h1 h2 z1 z2
    rw [List.append_nil] at h1 z1
    have hlen : (P ++ W).length = P.length + W.length := List.length_append
    have e : c83b6 x (xn Q.length) v (s, xn P.length, xn (P.length + W.length)) = (1, (s, xn P.length, xn (P.length + W.length))) := by
      unfold c83b6
      rw [if_pos (by show s.r (.s 26) ≤ xn (P.length + W.length); rw [i_le, h1.1, xn_i (by omega)]; omega)]
    refine ⟨1, s, W, ?_, ?_, h2, cFr.refl, ?_⟩
    · rw [kwh_out (by rw [e]; exact Nat.succ_ne_zero _), e]
      rfl
    · show TR s (.s 26) (P ++ [] ++ W)
      rw [List.append_nil]
      exact h1
    · exact ⟨Or.inl, fun q => q.resolve_right (fun ⟨g, hg, _⟩ => absurd hg List.not_mem_nil)⟩
  | cons g G ih =>
    intro P W s h1 h2 z1 z2
    have hlen : (P ++ W ++ g :: G).length = P.length + W.length + (G.length + 1) := by rw [List.length_append, List.length_append]; rfl
    have hPW : (P ++ W).length = P.length + W.length := List.length_append
    have hi : (P ++ W ++ g :: G)[P.length + W.length]? = some g := by
      rw [← hPW, List.getElem?_append_right (Nat.le_refl _), Nat.sub_self]; rfl
    have ei : (xn (P.length + W.length)).toInt = (P.length + W.length : Nat) := xn_i (by omega)
    have hc : ¬ s.r (.s 26) ≤ xn (P.length + W.length) := by rw [i_le, h1.1, ei]; omega
    have ht := h1.g0 ei hi
    rcases lab_of (t := g.1) h2 z2 with ⟨j, l, q1, q2, q3⟩ | ⟨q1, q2⟩
    · -- led
      have jl := (List.getElem?_eq_some_iff.mp q1).1
      have zQ : (Q ++ L).length = Q.length + L.length := List.length_append
      have e : c83b6 x (xn Q.length) v (s, xn P.length, xn (P.length + W.length)) = (0, ((c85 s x (xn (P.length + W.length)) (xn (Q.length + j))).1, xn P.length, xn (P.length + W.length + 1))) := by
        unfold c83b6
        show (if s.r (.s 26) ≤ xn (P.length + W.length) then _ else if c84 s (tg s (.s 26) (xn (P.length + W.length)) 0) (xn Q.length) < 0 then _ else (0, ((c85 s x (xn (P.length + W.length)) (c84 s (tg s (.s 26) (xn (P.length + W.length)) 0) (xn Q.length))).1, xn P.length, xn (P.length + W.length) + 1))) = _
        rw [if_neg hc, ht, q3, if_neg (by rw [i_lt, xn_i (by omega)]; have e0 : (0 : Int32).toInt = 0 := rfl; omega), xn_succ (by omega)]
      have hl : (Q ++ L)[Q.length + j]? = some l := by rw [List.getElem?_append_right (by omega)]; rw [show Q.length + j - Q.length = j by omega]; exact q1
      have hf : cFr 196608 67108864 0 4 s (c85 s x (xn (P.length + W.length)) (xn (Q.length + j))).1 := (fr_c85 s x _ _).mono rfl rfl rfl rfl
      have hff := c85_f (x := x) h1 h2 z1 z2 hi hl
      have hT : TR (c85 s x (xn (P.length + W.length)) (xn (Q.length + j))).1 (.s 26) (P ++ (W ++ [g]) ++ G) := by
        have h3 := h1.fr (fr_c85 s x (xn (P.length + W.length)) (xn (Q.length + j))) rfl
        rw [show P ++ (W ++ [g]) ++ G = P ++ W ++ g :: G by simp only [List.append_assoc, List.cons_append, List.nil_append]]
        exact h3
      have hW1 : (W ++ [g]).length = W.length + 1 := by rw [List.length_append]; rfl
      obtain ⟨m, s', W', r1, r2, r3, r4, r5⟩ := ih P (W ++ [g]) _ hT (h2.fr (fr_c85 s x (xn (P.length + W.length)) (xn (Q.length + j))) rfl) (by rw [show P ++ (W ++ [g]) ++ G = P ++ W ++ g :: G by simp only [List.append_assoc, List.cons_append, List.nil_append]]; exact z1) z2
      have hm : mvd L v (g :: G) = mvd L v G := by
        unfold mvd
        rw [List.filter_cons_of_neg (by rw [q2]; exact Bool.false_ne_true)]
      rw [hW1] at r1
      refine ⟨m + 1, s', W', ?_, by rw [hm]; exact r2, r3, hf.trans r4, ?_⟩
      · rw [kwh_go (by rw [e]), e, hm]
        show kwh _ m (_, xn P.length, xn (P.length + W.length + 1)) = _
        rw [Nat.add_assoc P.length W.length 1, r1]
        congr 4
        simp only [List.length_cons]
        omega
      · rw [r5, hff]
        constructor
        · rintro ((q | q) | ⟨g', q, q'⟩)
          · exact Or.inl q
          · exact Or.inr ⟨g, List.mem_cons_self, l, q2, q.1, q.2⟩
          · exact Or.inr ⟨g', List.mem_cons_of_mem _ q, q'⟩
        · rintro (q | ⟨g', q, l', p1, p2, p3⟩)
          · exact Or.inl (Or.inl q)
          · rcases List.mem_cons.mp q with rfl | q
            · rw [q2] at p1
              cases p1
              exact Or.inl (Or.inr ⟨p2, p3⟩)
            · exact Or.inr ⟨g', q, l', p1, p2, p3⟩
    · -- kept
      have e : c83b6 x (xn Q.length) v (s, xn P.length, xn (P.length + W.length)) = (0, ((c87 s (xn (P.length + W.length)) (xn P.length) v).1, xn (P.length + 1), xn (P.length + W.length + 1))) := by
        unfold c83b6
        show (if s.r (.s 26) ≤ xn (P.length + W.length) then _ else if c84 s (tg s (.s 26) (xn (P.length + W.length)) 0) (xn Q.length) < 0 then (0, ((c87 s (xn (P.length + W.length)) (xn P.length) v).1, xn P.length + 1, xn (P.length + W.length) + 1)) else _) = _
        rw [if_neg hc, ht, q2, if_pos (by decide), xn_succ (by omega), xn_succ (by omega)]
      have hf : cFr 196608 67108864 0 4 s (c87 s (xn (P.length + W.length)) (xn P.length) v).1 := (fr_c87 s _ _ _).mono rfl rfl rfl rfl
      have hf0 : (c87 s (xn (P.length + W.length)) (xn P.length) v).1.f 1 0 = s.f 1 0 := (fr_c87 s (xn (P.length + W.length)) (xn P.length) v).1 1 0 (by decide) rfl
      have hT : ∃ W1, TR (c87 s (xn (P.length + W.length)) (xn P.length) v).1 (.s 26) ((P ++ [xmv v g]) ++ W1 ++ G) ∧ W1.length = W.length := by
        cases W with
        | nil =>
          have hi' : (P ++ [] ++ g :: G)[P.length]? = some g := hi
          have h3 := c87_tr (v := v) h1 z1 hi' hi'
          refine ⟨[], ?_, rfl⟩
          have e2 : (P ++ [] ++ g :: G).set P.length (xmv v g) = (P ++ [xmv v g]) ++ [] ++ G := by
            rw [List.append_nil, List.set_append_right _ _ (Nat.le_refl _), Nat.sub_self, List.set_cons_zero, List.append_nil, List.append_assoc]
            rfl
          rw [e2] at h3
          exact h3
        | cons w W =>
          have hj : (P ++ (w :: W) ++ g :: G)[P.length]? = some w := by
            rw [List.append_assoc, List.getElem?_append_right (Nat.le_refl _), Nat.sub_self]; rfl
          have h3 := c87_tr (v := v) h1 z1 hi hj
          refine ⟨W ++ [g], ?_, by rw [List.length_append]; rfl⟩
          have e2 : (P ++ (w :: W) ++ g :: G).set P.length (xmv v g) = (P ++ [xmv v g]) ++ (W ++ [g]) ++ G := by
            rw [List.append_assoc, List.set_append_right _ _ (Nat.le_refl _), Nat.sub_self, List.cons_append, List.set_cons_zero]
            simp only [List.append_assoc, List.cons_append, List.nil_append]
          rw [e2] at h3
          exact h3
      obtain ⟨W1, hT, hW1⟩ := hT
      have hP1 : (P ++ [xmv v g]).length = P.length + 1 := by rw [List.length_append]; rfl
      obtain ⟨m, s', W', r1, r2, r3, r4, r5⟩ := ih (P ++ [xmv v g]) W1 _ hT (h2.fr (fr_c87 s (xn (P.length + W.length)) (xn P.length) v) rfl) (by simp only [List.length_append, List.length_cons, List.length_nil]; omega) z2
      have hm : mvd L v (g :: G) = xmv v g :: mvd L v G := by
        unfold mvd
        rw [List.filter_cons_of_pos (by rw [q1]; rfl), List.map_cons]
      rw [hP1, hW1] at r1
      refine ⟨m + 1, s', W', ?_, ?_, r3, hf.trans r4, ?_⟩
      · rw [kwh_go (by rw [e]), e, hm]
        show kwh _ m (_, xn (P.length + 1), xn (P.length + W.length + 1)) = _
        rw [show P.length + W.length + 1 = P.length + 1 + W.length by omega, r1]
        simp only [List.length_cons]
        rw [show P.length + 1 + (mvd L v G).length = P.length + ((mvd L v G).length + 1) by omega, show P.length + 1 + W.length + G.length = P.length + W.length + (G.length + 1) by omega]
      · rw [hm]
        rw [show P ++ xmv v g :: mvd L v G ++ W' = P ++ [xmv v g] ++ mvd L v G ++ W' by simp only [List.append_assoc, List.cons_append, List.nil_append]]
        exact r2
      · rw [r5, hf0]
        constructor
        · rintro (q | ⟨g', q, q'⟩)
          · exact Or.inl q
          · exact Or.inr ⟨g', List.mem_cons_of_mem _ q, q'⟩
        · rintro (q | ⟨g', q, l', p1, p2, p3⟩)
          · exact Or.inl q
          · rcases List.mem_cons.mp q with rfl | q
            · rw [q1] at p1
              cases p1
            · exact Or.inr ⟨g', q, l', p1, p2, p3⟩
