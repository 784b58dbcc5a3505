/-! THE WALK OVER BOTH: operators -/
theorem kFr.at4 {F F' A : Nat} {k k' : kS} (h : kFr F A k k') (h4 : k'.1 4 = k.1 4 + 1) (hF : F &&& (F' ||| 16) = F) : kFr F' A (kf k 4 (k.1 4 + 1)) k' := by
  refine ⟨fun j hj => ?_, h.2⟩
  show k'.1 j = upd k.1 4 (k.1 4 + 1) j
  unfold upd
  by_cases c : j = 4
  · rw [if_pos c, c]
    exact h4
  · rw [if_neg c]
    refine h.1 j ?_
    have e16 : (16 : Nat).testBit j = false := by
      show (2 ^ 4 : Nat).testBit j = false
      rw [Nat.testBit_two_pow]
      exact decide_eq_false (fun z => c z.symm)
    rw [← hF, Nat.testBit_and, Nat.testBit_or, hj, e16]
    exact Bool.and_false _
section RWO
variable {L : List xR} {a : Nat} {s s' : cS} {k k' : kS} {X : List xF} {t v w : Nat} {G : List (Int32 × Int32)}
/-- the unary operators are the same, and plain words -/
theorem un_kd (h : WR L a s k) : (c72 s (c53 s) = 0 ∧ k185 k (k183 k) = 0) ∨ (c72 s (c53 s) ≠ 0 ∧ k185 k (k183 k) ≠ 0 ∧ ∃ q, L[a]? = some q ∧ c53 s = q.1 ∧ ∀ s1 : cS, c56 s1 q.1 = 0 ∧ c57 s1 q.1 = 0) := by
  rcases h.kd with ⟨q, q1, q2, q3, -⟩ | ⟨-, q2, q3⟩
  · rw [q2, q3]
    have e : k185 k q.1 = c72 s q.1 := rfl
    rw [e]
    by_cases c : c72 s q.1 = 0
    · exact Or.inl ⟨c, c⟩
    · refine Or.inr ⟨c, c, q, q1, rfl, fun s1 => ?_⟩
      have hk : q.1 = 24 ∨ q.1 = 46 ∨ q.1 = 41 ∨ q.1 = 48 := by
        unfold c72 at c
        split at c
        · exact Or.inl ‹_›
        · split at c
          · exact Or.inr (Or.inl ‹_›)
          · split at c
            · exact Or.inr (Or.inr (Or.inl ‹_›))
            · split at c
              · exact absurd rfl c
              · exact Or.inr (Or.inr (Or.inr (Decidable.not_not.mp ‹_›)))
      unfold c56 c57
      rcases hk with z | z | z | z <;> rw [z] <;> decide
  · rw [q2, q3]
    exact Or.inl ⟨by unfold c72; decide, by unfold k185; decide⟩
/-- all unary operators before a value -/
theorem un_all : ∀ (m : Nat) {a : Nat} {s : cS} {k : kS} {y : Int32} {G : List (Int32 × Int32)} {s' : cS} {o : Option Int32}, cfix m 71002 s 0 y 0 0 0 0 0 = some (s', o) → RW L a s k X → PB t v G k → 0 ≤ y.toInt → y.toInt ≤ a → t + 2 * G.length + 2 * (L.length - a) + 6 ≤ 1000000 → ∃ j a' G' , o = some 0 ∧ RW L a' s' (kit j k) X ∧ PB t v G' (kit j k) ∧ c72 s' (c53 s') = 0 ∧ a ≤ a' ∧ G'.length + a = G.length + a' ∧ n25 G' = n25 G ∧ (∀ w, KB t v w k (kit j k)) ∧ (kit j k).1 20 = k.1 20 := by
  intro m
  induction m with
  | zero => intro a s k y G s' o hm; cases hm
  | succ m ih =>
    intro a s k y G s' o hm h hp hy0 hy ht
    rw [cf71002] at hm
    unfold c71_2 at hm
    have hl : a ≤ L.length := h.1.2.2.1.2.2
    have h16 := h.1.1.2.1
    rcases un_kd h.1 with ⟨z1, z2⟩ | ⟨z1, z2, q, q1, q2, q3⟩
    · rw [if_pos z1] at hm
      cases hm
      exact ⟨0, a, G, rfl, h, hp, z1, Nat.le_refl _, rfl, rfl, fun w => KB.refl, rfl⟩
    · have hal : a < L.length := (List.getElem?_eq_some_iff.mp q1).1
      rw [if_neg z1, if_neg (by rw [i_lt]; have : (16384 : Int32).toInt = 16384 := rfl; omega)] at hm
      obtain ⟨u1, u2, u3, u4⟩ := pb_un hp (by omega) z2
      have hc : cFr 0 256 0 0 s (tad s (.s 8) 11 (c53 s) (c63 s) 0).1 := cFr.refl.tads rfl
      obtain ⟨p1, p2⟩ := h.pl q1 (q3 _).1 (q3 _).2 hc u4 u2
      unfold c71_46 at hm
      rw [rbd_th (by rw [p1])] at hm
      unfold c71_54 at hm
      rw [p1] at hm
      have y1 : (y + 1).toInt = y.toInt + 1 := i_add rfl (show (1 : Int32).toInt = 1 from rfl) (by omega) (by omega)
      obtain ⟨j, a', G', r1, r2, r3, r4, r5, r6, r7, r8, r9⟩ := ih hm p2 u1 (by omega) (by omega) (by show t + 2 * (G.length + 1) + _ + 6 ≤ _; omega)
      have hL : (((12, 27) : Int32 × Int32) :: G).length = G.length + 1 := rfl
      refine ⟨j + 1, a', G', r1, r2, r3, r4, by omega, by omega, ?_, fun w => (u3 w).trans (r8 w), ?_⟩
      · rw [r7]
        rfl
      · exact r9.trans (u4.1 20 rfl)
end RWO
