/-! THE REFERENCE OVER NAMES: a label -/
def GA (k : kS) (l : List xR) : Prop := ∀ i q, l[i]? = some q → k.2 49 i = q.1 ∧ k.2 50 i = q.2.1 ∧ k.2 52 i = q.2.2.2
theorem GA.fr {F A : Nat} {k k' : kS} {l : List xR} (h : GA k l) (hf : kFr F A k k') (h1 : A.testBit 49 = false) (h2 : A.testBit 50 = false) (h3 : A.testBit 52 = false) : GA k' l := by
  intro i q hq
  rw [hf.2 49 h1, hf.2 50 h2, hf.2 52 h3]
  exact h i q hq
theorem GA.set {k : kS} {l : List xR} {i j : Nat} {g w : xR} (h : GA k l) (hz : l.length ≤ 1000000) (hi : l[i]? = some g) (hj : l[j]? = some w) : GA (ka (ka (ka (ka k 49 (xn j) (kr k 49 (xn i))) 50 (xn j) (kr k 50 (xn i))) 51 (xn j) (kr k 51 (xn i))) 52 (xn j) (kr k 52 (xn i))) (l.set j g) := by
  have il := (List.getElem?_eq_some_iff.mp hi).1
  have jl := (List.getElem?_eq_some_iff.mp hj).1
  obtain ⟨g1, g2, g3⟩ := h i g hi
  intro i' q hq
  show upd (k.2 49) (xn j).toNatClampNeg (k.2 49 (xn i).toNatClampNeg) i' = q.1 ∧ upd (k.2 50) (xn j).toNatClampNeg (k.2 50 (xn i).toNatClampNeg) i' = q.2.1 ∧ upd (k.2 52) (xn j).toNatClampNeg (k.2 52 (xn i).toNatClampNeg) i' = q.2.2.2
  rw [xn_nat (by omega), xn_nat (by omega), g1, g2, g3]
  unfold upd
  by_cases e : i' = j
  · subst e
    rw [List.getElem?_set_self jl] at hq
    cases hq
    rw [if_pos rfl, if_pos rfl, if_pos rfl]
    exact ⟨rfl, rfl, rfl⟩
  · rw [List.getElem?_set_ne (fun z => e z.symm)] at hq
    rw [if_neg e, if_neg e, if_neg e]
    exact h i' q hq
def fne (y : Int32) (G : List xR) : List xR := G.filter (fun g => decide (g.1 ≠ y))
theorem la_go {y z : Int32} : ∀ (G P W : List xR) (k : kS), k.1 48 = xn (P ++ W ++ G).length → (P ++ W ++ G).length ≤ 1000000 → GA k (P ++ W ++ G) → ∃ m k' W', kwh (k229b58 y z) m (k, xn P.length, xn (P.length + W.length)) = (1, (k', xn (P.length + (fne y G).length), xn (P.length + W.length + G.length))) ∧ GA k' (P ++ fne y G ++ W') ∧ kFr 768 2361191685684123926528 k k' ∧ (k'.1 8 ≠ 0 ↔ k.1 8 ≠ 0 ∨ ∃ g ∈ G, g.1 = y ∧ ¬ z ≤ g.2.2.2) := by
  intro G
  induction G with
  | nil =>
    intro P W k h1 hz h2
    rw [List.append_nil] at h1 hz h2
    have hlen : (P ++ W).length = P.length + W.length := List.length_append
    have e : k229b58 y z (k, xn P.length, xn (P.length + W.length)) = (1, (k, xn P.length, xn (P.length + W.length))) := by
      unfold k229b58
      rw [if_pos (by show k.1 48 ≤ xn (P.length + W.length); rw [h1, hlen]; exact Int32.le_refl _)]
    refine ⟨1, k, W, by rw [kwh_out (by rw [e]; exact Nat.succ_ne_zero _), e]; rfl, ?_, kFr.refl, ⟨Or.inl, fun q => q.resolve_right (fun ⟨g, hg, _⟩ => absurd hg List.not_mem_nil)⟩⟩
    show GA k (P ++ [] ++ W)
    rw [List.append_nil]
    exact h2
  | cons g G ih =>
    intro P W k h1 hz h2
    have hlen : (P ++ W ++ g :: G).length = P.length + W.length + (G.length + 1) := by rw [List.length_append, List.length_append]; rfl
    have hPW : (P ++ W).length = P.length + W.length := List.length_append
    have hi : (P ++ W ++ g :: G)[P.length + W.length]? = some g := by
      rw [← hPW, List.getElem?_append_right (Nat.le_refl _), Nat.sub_self]; rfl
    obtain ⟨g1, g2, g3⟩ := h2 _ _ hi
    have r49 : kr k 49 (xn (P.length + W.length)) = g.1 := by show k.2 49 (xn _).toNatClampNeg = _; rw [xn_nat (by omega)]; exact g1
    have r52 : kr k 52 (xn (P.length + W.length)) = g.2.2.2 := by show k.2 52 (xn _).toNatClampNeg = _; rw [xn_nat (by omega)]; exact g3
    have hc : ¬ k.1 48 ≤ xn (P.length + W.length) := by rw [h1, i_le, xn_i (by omega), xn_i (by omega)]; omega
    by_cases c1 : g.1 ≠ y
    · have e : k229b58 y z (k, xn P.length, xn (P.length + W.length)) = (0, (ka (ka (ka (ka k 49 (xn P.length) (kr k 49 (xn (P.length + W.length)))) 50 (xn P.length) (kr k 50 (xn (P.length + W.length)))) 51 (xn P.length) (kr k 51 (xn (P.length + W.length)))) 52 (xn P.length) (kr k 52 (xn (P.length + W.length))), xn (P.length + 1), xn (P.length + W.length + 1))) := by
        unfold k229b58
        dsimp only
        rw [if_neg hc, if_pos (by rw [r49]; exact c1), xn_succ (by omega), xn_succ (by omega)]
      have hT : ∃ W1, GA (ka (ka (ka (ka k 49 (xn P.length) (kr k 49 (xn (P.length + W.length)))) 50 (xn P.length) (kr k 50 (xn (P.length + W.length)))) 51 (xn P.length) (kr k 51 (xn (P.length + W.length)))) 52 (xn P.length) (kr k 52 (xn (P.length + W.length)))) ((P ++ [g]) ++ W1 ++ G) ∧ W1.length = W.length := by
        cases W with
        | nil =>
          have hi' : (P ++ [] ++ g :: G)[P.length]? = some g := hi
          have h3 := h2.set hz hi hi'
          refine ⟨[], ?_, rfl⟩
          have e2 : (P ++ [] ++ g :: G).set P.length g = (P ++ [g]) ++ [] ++ G := by
            rw [List.append_nil, List.set_append_right _ _ (Nat.le_refl _), Nat.sub_self, List.set_cons_zero, List.append_nil, List.append_assoc]
            rfl
          rw [e2] at h3
          exact h3
        | cons w W =>
          have hj : (P ++ (w :: W) ++ g :: G)[P.length]? = some w := by
            rw [List.append_assoc, List.getElem?_append_right (Nat.le_refl _), Nat.sub_self]; rfl
          have h3 := h2.set hz hi hj
          refine ⟨W ++ [g], ?_, by rw [List.length_append]; rfl⟩
          have e2 : (P ++ (w :: W) ++ g :: G).set P.length g = (P ++ [g]) ++ (W ++ [g]) ++ G := by
            rw [List.append_assoc, List.set_append_right _ _ (Nat.le_refl _), Nat.sub_self, List.cons_append, List.set_cons_zero]
            simp only [List.append_assoc, List.cons_append, List.nil_append]
          rw [e2] at h3
          exact h3
      obtain ⟨W1, hT, hW1⟩ := hT
      have hP1 : (P ++ [g]).length = P.length + 1 := by rw [List.length_append]; rfl
      have zz : (P ++ [g] ++ W1 ++ G).length = (P ++ W ++ g :: G).length := by simp only [List.length_append, List.length_cons, List.length_nil]; omega
      obtain ⟨m, k', W', r1, r2, r3, r4⟩ := ih (P ++ [g]) W1 _ (by rw [zz]; exact h1) (by rw [zz]; exact hz) hT
      have hm : fne y (g :: G) = g :: fne y G := List.filter_cons_of_pos (decide_eq_true c1)
      rw [hP1, hW1] at r1
      have hf : kFr 768 2361191685684123926528 k (ka (ka (ka (ka k 49 (xn P.length) (kr k 49 (xn (P.length + W.length)))) 50 (xn P.length) (kr k 50 (xn (P.length + W.length)))) 51 (xn P.length) (kr k 51 (xn (P.length + W.length)))) 52 (xn P.length) (kr k 52 (xn (P.length + W.length)))) := kFr.sa (kFr.sa (kFr.sa (kFr.sa kFr.refl rfl) rfl) rfl) rfl
      refine ⟨m + 1, k', W', ?_, ?_, hf.trans r3, ?_⟩
      · rw [kwh_go (by rw [e]), e, hm]
        show kwh _ m (_, xn (P.length + 1), xn (P.length + W.length + 1)) = _
        rw [show P.length + W.length + 1 = P.length + 1 + W.length by omega, r1]
        simp only [List.length_cons]
        rw [show P.length + 1 + (fne y G).length = P.length + ((fne y G).length + 1) by omega, show P.length + 1 + W.length + G.length = P.length + W.length + (G.length + 1) by omega]
      · rw [hm, show P ++ g :: fne y G ++ W' = P ++ [g] ++ fne y G ++ W' by simp only [List.append_assoc, List.cons_append, List.nil_append]]
        exact r2
      · rw [r4]
        show (k.1 8 ≠ 0 ∨ _) ↔ _
        constructor
        · rintro (q | ⟨g', q, q'⟩)
          · exact Or.inl q
          · exact Or.inr ⟨g', List.mem_cons_of_mem _ q, q'⟩
        · rintro (q | ⟨g', q, p1, p2⟩)
          · exact Or.inl q
          · rcases List.mem_cons.mp q with rfl | q
            · exact absurd p1 c1
            · exact Or.inr ⟨g', q, p1, p2⟩
    · have c1' : g.1 = y := Decidable.of_not_not c1
      have hm : fne y (g :: G) = fne y G := List.filter_cons_of_neg (by rw [decide_eq_false c1]; exact Bool.false_ne_true)
      have hW1 : (W ++ [g]).length = W.length + 1 := by rw [List.length_append]; rfl
      have hl2 : P ++ (W ++ [g]) ++ G = P ++ W ++ g :: G := by simp only [List.append_assoc, List.cons_append, List.nil_append]
      have key : ∃ k1, k229b58 y z (k, xn P.length, xn (P.length + W.length)) = (0, (k1, xn P.length, xn (P.length + W.length + 1))) ∧ kFr 768 2361183241434822606848 k k1 ∧ (k1.1 8 ≠ 0 ↔ k.1 8 ≠ 0 ∨ ¬ z ≤ g.2.2.2) := by
        unfold k229b58
        dsimp only
        rw [if_neg hc, if_neg (by rw [r49]; exact c1), r52]
        by_cases c2 : z ≤ g.2.2.2
        · rw [if_pos c2, xn_succ (by omega)]
          exact ⟨_, rfl, kFr.sa (kFr.sa kFr.refl rfl) rfl, ⟨Or.inl, fun q => q.resolve_right (fun z => z c2)⟩⟩
        · rw [if_neg c2, xn_succ (by omega)]
          exact ⟨_, rfl, kFr.sa (kFr.sa ((fr_k191 k 14 (kr k 50 (xn (P.length + W.length)))).mono rfl rfl) rfl) rfl, ⟨fun _ => Or.inr c2, fun _ => k191_f (by decide)⟩⟩
      obtain ⟨k1, e, hf, hff⟩ := key
      obtain ⟨m, k', W', r1, r2, r3, r4⟩ := ih P (W ++ [g]) k1 (by rw [hl2, hf.1 48 rfl]; exact h1) (by rw [hl2]; exact hz) (by rw [hl2]; exact h2.fr hf rfl rfl rfl)
      rw [hW1] at r1
      refine ⟨m + 1, k', W', ?_, by rw [hm]; exact r2, (hf.mono rfl rfl).trans r3, ?_⟩
      · rw [kwh_go (by rw [e]), e, hm]
        show kwh _ m (_, xn P.length, xn (P.length + W.length + 1)) = _
        rw [Nat.add_assoc P.length W.length 1, r1]
        congr 4
        simp only [List.length_cons]
        omega
      · rw [r4, hff]
        constructor
        · rintro ((q | q) | ⟨g', q, q'⟩)
          · exact Or.inl q
          · exact Or.inr ⟨g, List.mem_cons_self, c1', q⟩
          · exact Or.inr ⟨g', List.mem_cons_of_mem _ q, q'⟩
        · rintro (q | ⟨g', q, p1, p2⟩)
          · exact Or.inl (Or.inl q)
          · rcases List.mem_cons.mp q with rfl | q
            · exact Or.inl (Or.inr p2)
            · exact Or.inr ⟨g', q, p1, p2⟩
