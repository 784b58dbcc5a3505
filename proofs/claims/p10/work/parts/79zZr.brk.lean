/-! THE WALK OVER BOTH: an expression in brackets -/
section RWB2
variable {H : List hE} {L : List xR} {a : Nat} {s s' : cS} {k k' : kS} {X : List xF} {t v w V : Nat} {rc : cRC}
theorem k180_29 {s : kS} {x y z : Int32} : (k180 s 29 x y z).1 = (k199 (k204 s).1 61).1 := by
  unfold k180 k181
  rw [if_neg (by decide), if_neg (by decide), if_neg (by decide), if_neg (by decide), if_neg (by decide), if_neg (by decide), if_neg (by decide), if_pos rfl]
  rfl
/-- the closing bracket is due: goal 29 on top -/
theorem brk_end (h : RWp (some (v, true)) (D0 H) L a s k X) (hg : GT t 29 0 0 0 k) (h15 : k.1 15 = xn (v + 1)) (ht : t ≤ 1000000) (hv : v ≤ 1000000) : (∃ s1 x, c64 s 61 = (s1, some x) ∧ (RW H L (a + 1) s1 (kst k) X ∧ TS s s1) ∧ (kst k).1 10 = xn t ∧ (kst k).1 15 = xn (v + 1) ∧ (kst k).1 20 = k.1 20 ∧ (kst k).2 16 v = 0 ∧ ∀ w, KB t v w k (kst k)) ∨ ((c64 s 61).2 = none ∧ (kst k).1 6 ≠ 0) := by
  rw [kst_pop hg ht, k180_29]
  obtain ⟨k0, hk0⟩ : ∃ k0, k0 = kf k 10 (xn t) := ⟨_, rfl⟩
  rw [← hk0]
  have f0 : QF k k0 := by rw [hk0]; exact kFr.sf kFr.refl rfl
  have f00 : kFr 1024 0 k k0 := by rw [hk0]; exact kFr.sf kFr.refl rfl
  have e15 : k0.1 15 = xn (v + 1) := by rw [hk0]; exact h15
  have e10 : k0.1 10 = xn t := by rw [hk0]; rfl
  have e16 : ∀ i, i ≠ v → (k204 k0).1.2 16 i = k.2 16 i := fun i hi => by
    rw [k204_16 e15 hv hi, hk0]
    rfl
  have ev := k204_16v e15 hv
  have f1 : QF k (k204 k0).1 := kFr.trans f0 k204_q
  have s15 : (k204 k0).1.1 15 = xn (v + 1) := ((fr_k204 k0).1 15 rfl).trans e15
  have s10 : (k204 k0).1.1 10 = xn t := ((fr_k204 k0).1 10 rfl).trans e10
  have hb : ∀ w, KB t v w k (k204 k0).1 := fun w => KB.q f1 (fun i hi => e16 i (by omega))
  have h1 : RW H L a s (k204 k0).1 X := (h.fr (cFr.refl (F := 0) (T := 0) (B := 0) (G := 0)) f00).lod e15 hv
  generalize (k204 k0).1 = k2 at ev f1 s15 s10 hb h1
  rcases tk_le (K := 61) h1 (by decide) (by decide) (fun s => by unfold c56; decide) (fun s => by unfold c57; decide) with ⟨q, s1, k1, q1, q2, q3, q4, q5, q6, q7, q8⟩ | ⟨q1, q2, q3⟩
  · left
    refine ⟨s1, q.2.1, q3, ?_⟩
    rw [q4]
    refine ⟨⟨q5, TS.of q6 rfl⟩, (q7.1 10 rfl).trans s10, (q7.1 15 rfl).trans s15, (q7.1 20 rfl).trans (f1.1 20 rfl), ?_, fun w => (hb w).trans (KB.fr q7 rfl)⟩
    show k1.2 16 v = 0
    rw [q7.2 16 (Nat.zero_testBit _)]
    exact ev
  · exact Or.inr ⟨q1, q3⟩
end RWB2
