/-! THE WALK OVER BOTH: operators -/
theorem kFr.at4 {F F' A : Nat} {k k' : kS} (h : kFr F A k k') (h4 : k'.1 4 = k.1 4 + 1) (hF : F &&& (F' ||| 16) = F) : kFr F' A (kf k 4 (k.1 4 + 1)) k' := by
  refine ⟨fun j hj => ?_, h.2⟩
  show k'.1 j = upd k.1 4 (k.1 4 + 1) j
  unfold upd
  by_cases c : j = 4
  · rw [if_pos c, c]
    exact h4
  · rw [if_neg c]
    refine h.1 j ?_
    have e16 : (16 : Nat).testBit j = false := by
      show (2 ^ 4 : Nat).testBit j = false
      rw [Nat.testBit_two_pow]
      exact decide_eq_false (fun z => c z.symm)
    rw [← hF, Nat.testBit_and, Nat.testBit_or, hj, e16]
    exact Bool.and_false _
/-- the class's piles: operators and targets that wait; jumps that wait -/
abbrev PT : Type := List xR × List xR × List hE
/-- the function in hand -/
def xh (X : List xF) : Nat := match X with
  | f :: _ => f.1 - 1
  | [] => 0
/-- the tables of both are as they were -/
def TS (s s' : cS) : Prop := (s'.r (.s 8) = s.r (.s 8) ∧ s'.c (.s 8) = s.c (.s 8)) ∧ s'.r (.s 10) = s.r (.s 10) ∧ s'.c (.s 10) = s.c (.s 10)
theorem TS.of {F T B G : Nat} {s s' : cS} (h : cFr F T B G s s') (c : T &&& 1280 = 0) : TS s s' := ⟨h.2.1 8 (tb0 c (by decide)), h.2.1 10 (tb0 c (by decide))⟩
def CT (P : PT) (s : cS) : Prop := TR s (.s 8) P.1 ∧ TR s (.s 10) P.2.1
theorem CT.ts {P : PT} {s s' : cS} (h : CT P s) (e : TS s s') : CT P s' := ⟨h.1.same e.1.1 e.1.2, h.2.same e.2.1 e.2.2⟩
def CP (P : PT) (a : Nat) (s : cS) : Prop := CT P s ∧ P.1.length ≤ a ∧ P.2.1.length ≤ a
theorem CP.ts {P : PT} {a a' : Nat} {s s' : cS} (h : CP P a s) (e : TS s s') (ha : a ≤ a') : CP P a' s' := ⟨h.1.ts e, Nat.le_trans h.2.1 ha, Nat.le_trans h.2.2 ha⟩
/-- an operator that waits, on both sides -/
def OPe (q : gQ) (w : xR) : Prop := (q.2.1 = 26 ∧ (w.2.1 = 10 ∨ w.2.1 = 25) ∧ 0 ≤ w.2.2.2.toInt) ∨ (¬ (w.2.1 = 10 ∨ w.2.1 = 25) ∧ w.2.1 = q.2.2.1 ∧ w.2.2.1 = q.2.2.2 ∧ ((q.2.1 = 25 ∧ w.2.1 ≠ 24 ∧ w.1 ≠ 11) ∨ (q.2.1 = 27 ∧ w.1 = 11)))
def OPq : List gQ → List xR → Prop
  | [], [] => True
  | q :: G, w :: Q => RKr q.1 w.1 ∧ OPe q w ∧ OPq G Q
  | _, _ => False
theorem OPq.len : ∀ {G : List gQ} {Q : List xR}, OPq G Q → G.length = Q.length := by
  intro G
  induction G with
  | nil =>
    intro Q h
    cases Q with
    | nil => rfl
    | cons w Q => exact h.elim
  | cons q G ih =>
    intro Q h
    cases Q with
    | nil => exact h.elim
    | cons w Q =>
      show G.length + 1 = Q.length + 1
      rw [ih h.2.2]
/-- jumps of and, or that wait -/
def hO (x : Nat) : List gQ → List xR → List hE
  | q :: G, w :: Q => if q.2.1 = 26 then (x, w.2.2.2.toNatClampNeg, 1, q.2.2.1.toNatClampNeg, 0, 0) :: hO x G Q else hO x G Q
  | _, _ => []
/-- the operators that wait, in the class's table behind P -/
def OT (P : PT) (Q : List xR) (G : List gQ) (a : Nat) (s : cS) : Prop := TR s (.s 8) (P.1 ++ Q.reverse) ∧ OPq G Q ∧ P.1.length + Q.length ≤ a ∧ a ≤ 16384 ∧ TR s (.s 10) P.2.1 ∧ P.2.1.length ≤ a
theorem OT.fr {P : PT} {Q : List xR} {G : List gQ} {a a' : Nat} {s s' : cS} (h : OT P Q G a s) (e : TS s s') (ha : a ≤ a') (ha' : a' ≤ 16384) : OT P Q G a' s' := ⟨h.1.same e.1.1 e.1.2, h.2.1, by have := h.2.2.1; omega, ha', h.2.2.2.2.1.same e.2.1 e.2.2, Nat.le_trans h.2.2.2.2.2 ha⟩
theorem tad_n10 {s : cS} {x y z u : Int32} : (tad s (.s 8) x y z u).1.r (.s 10) = s.r (.s 10) ∧ (tad s (.s 8) x y z u).1.c (.s 10) = s.c (.s 10) := (cFr.tads (F := 0) (T := 256) (B := 0) (G := 0) cFr.refl rfl).2.1 10 rfl
theorem OT.psh {P : PT} {Q : List xR} {G : List gQ} {a : Nat} {s : cS} {q : gQ} {x y z u : Int32} (h : OT P Q G a s) (hq : RKr q.1 x) (he : OPe q (x, y, z, u)) (ha : a + 1 ≤ 16384) : OT P ((x, y, z, u) :: Q) (q :: G) (a + 1) (nf (tad s (.s 8) x y z u).1 2 2 (xn (a + 1))) := by
  obtain ⟨h1, h2, h3, h4, h5⟩ := h
  have hl : (P.1 ++ Q.reverse).length = P.1.length + Q.length := by rw [List.length_append, List.length_reverse]
  have t1 := (h1.add (a := x) (b := y) (c := z) (d := u) (by omega)).1
  have e : P.1 ++ ((x, y, z, u) :: Q).reverse = P.1 ++ Q.reverse ++ [(x, y, z, u)] := by rw [List.reverse_cons, List.append_assoc]
  refine ⟨?_, ⟨hq, he, h2⟩, ?_, ha, h5.1.same (tad_n10).1 (tad_n10).2, by have := h5.2; omega⟩
  · rw [e]
    exact t1.same rfl rfl
  · show P.1.length + (Q.length + 1) ≤ a + 1
    omega
theorem WR.w63 {L : List xR} {a : Nat} {s : cS} {k : kS} (h : WR L a s k) : c63 s = k.1 4 := h.2.2.1.1.trans h.2.2.1.2.1.symm
section RWO
variable {L : List xR} {a : Nat} {s s' : cS} {k k' : kS} {X : List xF} {t v w : Nat} {G : List gQ}
/-- the unary operators are the same, and plain words -/
theorem un_kd (h : WR L a s k) : (c72 s (c53 s) = 0 ∧ k185 k (k183 k) = 0) ∨ (c72 s (c53 s) ≠ 0 ∧ k185 k (k183 k) ≠ 0 ∧ ∃ q, L[a]? = some q ∧ c53 s = q.1 ∧ ∀ s1 : cS, c56 s1 q.1 = 0 ∧ c57 s1 q.1 = 0) := by
  rcases h.kd with ⟨q, q1, q2, q3, -⟩ | ⟨-, q2, q3⟩
  · rw [q2, q3]
    have e : k185 k q.1 = c72 s q.1 := rfl
    rw [e]
    by_cases c : c72 s q.1 = 0
    · exact Or.inl ⟨c, c⟩
    · refine Or.inr ⟨c, c, q, q1, rfl, fun s1 => ?_⟩
      have hk : q.1 = 24 ∨ q.1 = 46 ∨ q.1 = 41 ∨ q.1 = 48 := by
        unfold c72 at c
        split at c
        · exact Or.inl ‹_›
        · split at c
          · exact Or.inr (Or.inl ‹_›)
          · split at c
            · exact Or.inr (Or.inr (Or.inl ‹_›))
            · split at c
              · exact absurd rfl c
              · exact Or.inr (Or.inr (Or.inr (Decidable.not_not.mp ‹_›)))
      unfold c56 c57
      rcases hk with z | z | z | z <;> rw [z] <;> decide
  · rw [q2, q3]
    exact Or.inl ⟨by unfold c72; decide, by unfold k185; decide⟩
theorem kd_1 {q : xR} (h : WR L a s k) (hq : L[a]? = some q) : k183 k = q.1 := by
  rcases h.kd with ⟨q', q1, q2, q3, -⟩ | ⟨q1, -⟩
  · rw [hq] at q1
    cases q1
    exact q3
  · exact absurd (List.getElem?_eq_some_iff.mp hq).1 (by omega)
/-- all unary operators before a value -/
theorem un_all {P : PT} : ∀ (m : Nat) {a : Nat} {s : cS} {k : kS} {y : Int32} {G : List gQ} {Q : List xR} {s' : cS} {o : Option Int32}, cfix m 71002 s 0 y 0 0 0 0 0 = some (s', o) → RW (hO (xh X) G Q ++ P.2.2) L a s k X → PB t v G k → OT P Q G a s → 0 ≤ y.toInt → y.toInt ≤ a → t + 2 * G.length + 2 * (L.length - a) + 6 ≤ 1000000 → ∃ j a' G' Q', o = some 0 ∧ RW (hO (xh X) G' Q' ++ P.2.2) L a' s' (kit j k) X ∧ PB t v G' (kit j k) ∧ OT P Q' G' a' s' ∧ c72 s' (c53 s') = 0 ∧ a ≤ a' ∧ G'.length + a = G.length + a' ∧ n25 G' = n25 G ∧ (∀ w, KB t v w k (kit j k)) ∧ (kit j k).1 20 = k.1 20 := by
  intro m
  induction m with
  | zero => intro a s k y G Q s' o hm; cases hm
  | succ m ih =>
    intro a s k y G Q s' o hm h hp hO1 hy0 hy ht
    rw [cf71002] at hm
    unfold c71_2 at hm
    have hl : a ≤ L.length := h.1.2.2.1.2.2
    have h16 := h.1.1.2.1
    rcases un_kd h.1 with ⟨z1, z2⟩ | ⟨z1, z2, q, q1, q2, q3⟩
    · rw [if_pos z1] at hm
      cases hm
      exact ⟨0, a, G, Q, rfl, h, hp, hO1, z1, Nat.le_refl _, rfl, rfl, fun w => KB.refl, rfl⟩
    · have hal : a < L.length := (List.getElem?_eq_some_iff.mp q1).1
      rw [if_neg z1, if_neg (by rw [i_lt]; have : (16384 : Int32).toInt = 16384 := rfl; omega)] at hm
      obtain ⟨u1, u2, u3, u4⟩ := pb_un hp (by omega) z2
      have hc : cFr 0 256 0 0 s (tad s (.s 8) 11 (c53 s) (c63 s) 0).1 := cFr.refl.tads rfl
      obtain ⟨p1, p2⟩ := h.pl q1 (q3 _).1 (q3 _).2 hc u4 u2
      unfold c71_46 at hm
      rw [rbd_th (by rw [p1])] at hm
      unfold c71_54 at hm
      rw [p1] at hm
      have y1 : (y + 1).toInt = y.toInt + 1 := i_add rfl (show (1 : Int32).toInt = 1 from rfl) (by omega) (by omega)
      have e12 : hO (xh X) ((12, 27, k183 k, k.1 4) :: G) ((11, c53 s, c63 s, 0) :: Q) = hO (xh X) G Q := if_neg (show ¬ (27 : Int32) = 26 by decide)
      have hO2 : OT P ((11, c53 s, c63 s, 0) :: Q) ((12, 27, k183 k, k.1 4) :: G) (a + 1) (nf (tad s (.s 8) 11 (c53 s) (c63 s) 0).1 2 2 (xn (a + 1))) := by
        refine hO1.psh rk_un ?_ (by omega)
        have nk : ∀ x : Int32, c72 s x = 0 → c53 s ≠ x := fun x hx z => z1 (by rw [z]; exact hx)
        exact Or.inr ⟨fun z => z.elim (fun z => absurd z (nk 10 (by unfold c72; decide))) (fun z => absurd z (nk 25 (by unfold c72; decide))), q2.trans (kd_1 h.1 q1).symm, h.1.w63, Or.inr ⟨rfl, rfl⟩⟩
      obtain ⟨j, a', G', Q', r1, r2, r3, r10, r4, r5, r6, r7, r8, r9⟩ := ih hm (by rw [e12]; exact p2) u1 hO2 (by omega) (by omega) (by show t + 2 * (G.length + 1) + _ + 6 ≤ _; omega)
      have hL : (((12, 27, k183 k, k.1 4) : gQ) :: G).length = G.length + 1 := rfl
      refine ⟨j + 1, a', G', Q', r1, r2, r3, r10, r4, by omega, by omega, ?_, fun w => (u3 w).trans (r8 w), ?_⟩
      · rw [r7]
        rfl
      · exact r9.trans (u4.1 20 rfl)
end RWO
