/-! THE WALK OVER BOTH: words that are values by themselves -/
section RWL
variable {H : List hE} {L : List xR} {a : Nat} {s s' : cS} {k k' : kS} {X : List xF} {t v w : Nat} {G : List gQ}
theorem val_psh {V : Nat} {x y z : Int32} (h : k.1 15 = xn V) (hV : V ≤ 1000000) (hv : v ≤ V) : (k190 k x y z).1.1 15 = xn (V + 1) ∧ KB t v w k (k190 k x y z).1 := by
  have ix : (k.1 15).toNatClampNeg = V := by rw [h]; exact xn_nat (by omega)
  refine ⟨?_, fun j i hj hi => ?_, fun j i hj hi => ?_, fun j i hj hi => ?_⟩
  · show k.1 15 + 1 = _
    rw [h, xn_succ (by omega)]
  · rcases hj with rfl | rfl | rfl | rfl <;> rfl
  · rcases hj with rfl | rfl | rfl
    · show upd (k.2 16) (k.1 15).toNatClampNeg x i = _
      rw [ix]; exact if_neg (by omega)
    · show upd (k.2 17) (k.1 15).toNatClampNeg y i = _
      rw [ix]; exact if_neg (by omega)
    · show upd (k.2 18) (k.1 15).toNatClampNeg z i = _
      rw [ix]; exact if_neg (by omega)
  · rcases hj with rfl | rfl | rfl <;> rfl
/-- the reference: code, a value, the word -/
theorem lit_k {k1 k2 : kS} {x y z : Int32} (ea : EA t G k1) (h10 : k1.1 10 = xn (t + 2 * G.length + 1)) (h15 : k1.1 15 = xn (v + n25 G)) (hv : v + n25 G ≤ 1000000) (hn : NV v G k1) (hf : kFr 295147905179352825856 18300323042624482050048 k1 k2) : ES t v G (kf (k190 k2 x y z).1 4 ((k190 k2 x y z).1.1 4 + 1)) ∧ (kf (k190 k2 x y z).1 4 ((k190 k2 x y z).1.1 4 + 1)).1 4 = k1.1 4 + 1 ∧ (∀ w, KB t v w k1 (kf (k190 k2 x y z).1 4 ((k190 k2 x y z).1.1 4 + 1))) ∧ kFr 295147905179352859664 18300323042624482539520 k1 (kf (k190 k2 x y z).1 4 ((k190 k2 x y z).1.1 4 + 1)) ∧ (kf (k190 k2 x y z).1 4 ((k190 k2 x y z).1.1 4 + 1)).2 16 (v + n25 G) = x ∧ (kf (k190 k2 x y z).1 4 ((k190 k2 x y z).1.1 4 + 1)).2 17 (v + n25 G) = y := by
  have ix : (k2.1 15).toNatClampNeg = v + n25 G := by rw [hf.1 15 rfl, h15]; exact xn_nat (by omega)
  have q15 : k2.1 15 = xn (v + n25 G) := (hf.1 15 rfl).trans h15
  have p := fun w => val_psh (t := t) (v := v) (w := w) (x := x) (y := y) (z := z) q15 hv (by omega)
  have e11 : (kf (k190 k2 x y z).1 4 ((k190 k2 x y z).1.1 4 + 1)).2 11 = k1.2 11 := hf.2 11 rfl
  have e12 : (kf (k190 k2 x y z).1 4 ((k190 k2 x y z).1.1 4 + 1)).2 12 = k1.2 12 := hf.2 12 rfl
  have e13 : (kf (k190 k2 x y z).1 4 ((k190 k2 x y z).1.1 4 + 1)).2 13 = k1.2 13 := hf.2 13 rfl
  refine ⟨⟨ea.same e11 e12 e13, ?_, ?_, fun i i1 i2 => ?_⟩, ?_, fun w => ?_, ?_, ?_, ?_⟩
  · show k2.1 10 = _
    rw [hf.1 10 rfl]; exact h10
  · exact (p 0).1
  · show upd (k2.2 16) (k2.1 15).toNatClampNeg x i = 0
    rw [ix]
    unfold upd
    rw [if_neg (by omega), hf.2 16 rfl]
    exact hn i i1 i2
  · show k2.1 4 + 1 = _
    rw [hf.1 4 rfl]
  · exact (KB.fr hf rfl).trans (p w).2
  · exact (hf.mono rfl rfl).trans (kFr.sf (kFr.sf (kFr.sa (kFr.sa (kFr.sa kFr.refl rfl) rfl) rfl) rfl) rfl)
  · show upd (k2.2 16) (k2.1 15).toNatClampNeg x (v + n25 G) = x
    rw [ix]
    exact if_pos rfl
  · show upd (k2.2 17) (k2.1 15).toNatClampNeg y (v + n25 G) = y
    rw [ix]
    exact if_pos rfl
/-- the class: the word is read -/
theorem lit_c {s1 : cS} {K x : Int32} (p1 : c55 s1 = (nf s1 2 2 (xn (a + 1)), some x)) : (c103_196 s1 K).1 = nf s1 2 2 (xn (a + 1)) ∧ (c103_196 s1 K).2 = some (if K ≠ 72 then 0 else 1) := by
  unfold c103_196
  rw [cbd_some (w := x) (by rw [p1])]
  unfold c103_203
  split
  · exact ⟨by rw [p1], rfl⟩
  · exact ⟨by rw [p1], rfl⟩
/-- numerals, texts, nil, false, true -/
theorem lit_ok {q : xR} (h : RW H L a s k X) (hp : PB t v G k) (hq : L[a]? = some q) (hK : q.1 = 2 ∨ q.1 = 3 ∨ q.1 = 16 ∨ q.1 = 23 ∨ q.1 = 29) (ht : t + 2 * G.length + 6 ≤ 1000000) (hv : v + n25 G ≤ 1000000) : (c103 s).2 = some 0 ∧ RWp (some (v + n25 G, true)) (D0 H) L (a + 1) (c103 s).1 (kst k) X ∧ (kst k).2 16 (v + n25 G) = 0 ∧ ES t v G (kst k) ∧ (kst k).1 20 = k.1 20 ∧ ∀ w, KB t v w k (kst k) := by
  obtain ⟨e1, e2⟩ : c53 s = q.1 ∧ k183 k = q.1 := by
    rcases h.1.kd with ⟨q', q1, q2, q3, -⟩ | ⟨q1, -⟩
    · rw [hq] at q1
      cases q1
      exact ⟨q2, q3⟩
    · exact absurd (List.getElem?_eq_some_iff.mp hq).1 (by omega)
  obtain ⟨k1, a1, a2, a3, a4, a5⟩ := pb_24 hp (by omega)
  have h15 : k1.1 15 = xn (v + n25 G) := (a5.1 15 rfl).trans hp.2.2.2.2.1
  have pl : ∀ s1 : cS, c56 s1 q.1 = 0 ∧ c57 s1 q.1 = 0 := fun s1 => by
    unfold c56 c57
    rcases hK with z | z | z | z | z <;> rw [z] <;> decide
  obtain ⟨et, ek⟩ : c104 s (c63 s) = q.2.1 ∧ kr k1 2 (k1.1 4) = q.2.1 := by
    rcases h.1.kd with ⟨q', q1, -, -, q4, q5, -⟩ | ⟨q1, -⟩
    · rw [hq] at q1
      cases q1
      refine ⟨q4, ?_⟩
      unfold kr at q5 ⊢
      rw [a5.2 2 rfl, a5.1 4 rfl]
      exact q5
    · exact absurd (List.getElem?_eq_some_iff.mp hq).1 (by omega)
  have hu : k185 k1 q.1 = 0 := by
    unfold k185
    rcases hK with z | z | z | z | z <;> rw [z] <;> decide
  have hcl : ∃ x y, c103 s = c103_196 (c78 s x y 0 0).1 q.1 ∧ kst k = (k188 k1 x y).1 ∧ wfo x = true := by
    rw [a1, e2]
    unfold c103 k182_14
    rw [if_pos hu, e1, et]
    unfold k187
    rw [ek]
    rcases hK with z | z | z | z | z
    · rw [if_pos z, if_pos z]
      exact ⟨_, _, rfl, rfl, rfl⟩
    · rw [if_neg (by rw [z]; decide), if_pos z, if_neg (by rw [z]; decide), if_pos z]
      exact ⟨_, _, rfl, rfl, rfl⟩
    · rw [if_neg (by rw [z]; decide), if_neg (by rw [z]; decide), if_pos z, if_neg (by rw [z]; decide), if_neg (by rw [z]; decide), if_pos z]
      exact ⟨_, _, rfl, rfl, rfl⟩
    · rw [if_neg (by rw [z]; decide), if_neg (by rw [z]; decide), if_neg (by rw [z]; decide), if_pos z, if_neg (by rw [z]; decide), if_neg (by rw [z]; decide), if_neg (by rw [z]; decide), if_neg (by rw [z]; decide), if_pos z]
      exact ⟨_, _, rfl, rfl, rfl⟩
    · rw [if_neg (by rw [z]; decide), if_neg (by rw [z]; decide), if_neg (by rw [z]; decide), if_neg (by rw [z]; decide), if_pos z, if_neg (by rw [z]; decide), if_neg (by rw [z]; decide), if_neg (by rw [z]; decide), if_neg (by rw [z]; decide), if_neg (by rw [z]; decide), if_pos z]
      exact ⟨_, _, rfl, rfl, rfl⟩
  obtain ⟨x, y, c2, d1, wx⟩ := hcl
  have hf := fr_k189 k1 x y 0 0
  obtain ⟨l1, l2, l3, l4, l5, -⟩ := lit_k (x := 0) (y := 0) (z := 0) a2 a3 h15 hv (NV.same hp.2.2.2.2.2 (a5.2 16 rfl)) hf
  have d2 : kst k = kf (k190 (k189 k1 x y 0 0).1 0 0 0).1 4 ((k190 (k189 k1 x y 0 0).1 0 0 0).1.1 4 + 1) := d1
  rw [← d2] at l1 l2 l3 l4 l5
  have hk : kFr 295147905179352859664 18300323042624482539520 k (kst k) := (a5.mono rfl rfl).trans l4
  have h1 := ((h.fr (cFr.refl (F := 0) (T := 0) (B := 0) (G := 0)) a5).cle (x := x) (y := y) (z := 0) (u := 0)).put (x := x) (y := y) (z := 0) (u := 0)
  have hk2 : kFr 32784 458752 (k189 k1 x y 0 0).1 (kf (k190 (k189 k1 x y 0 0).1 0 0 0).1 4 ((k190 (k189 k1 x y 0 0).1 0 0 0).1.1 4 + 1)) := kFr.sf (kFr.sf (kFr.sa (kFr.sa (kFr.sa kFr.refl rfl) rfl) rfl) rfl) rfl
  obtain ⟨p1, p2⟩ := h1.pl hq (pl _).1 (pl _).2 (cFr.refl (F := 0) (T := 0) (B := 0) (G := 0)) hk2 rfl
  rw [← d2] at p2
  obtain ⟨m1, m2⟩ := lit_c (K := q.1) p1
  have n72 : q.1 ≠ 72 := by rcases hK with z | z | z | z | z <;> rw [z] <;> decide
  rw [if_pos n72] at m2
  rw [c2, m1]
  exact ⟨m2, (p2.de0 rfl (wfl_1 wx)).los (Or.inl l5), l5, l1, hk.1 20 rfl, fun w => ((a4 w).mono (by omega) (Nat.le_refl _) (Nat.le_refl _)).trans (l3 w)⟩
end RWL
