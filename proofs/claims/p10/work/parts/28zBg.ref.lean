/-! THE REFERENCE: what each method does (printed by wip/p5/lw.py) -/
noncomputable def k275b4 (s : kS) (t : Int32 × Int32) : Nat × (Int32 × Int32) := if (s.1 53) ≤ t.2 then (1, (t.1, t.2)) else (0, ((kfin (k275b17 s t.2) (t.1, 0, 0)).2.1, t.2 + 1))
theorem lb275_4 {sc : Nat × (Nat → Int32)} {d : Nat} {S0 : am_S} {s : kS} {Q : Option (Option Value) → am_S → Prop} : ∀ (N : Nat) (S : am_S) (o3 : Option Value) (o4 : Option Value) (o5 : Option Value) (o6 : Option Value) (o7 : Option Value) (t : Int32 × Int32), MK S0 S s → (∀ m S1 (p3 : Option Value) (p4 : Option Value) (p5 : Option Value) (p6 : Option Value) (p7 : Option Value), (kwh (k275b4 s) m t).1 = 1 → MK S0 S1 s → am_L (am_PP sc) N d 275 184 [some (.ref 39), some (.int ((kwh (k275b4 s) m t).2.1)), some (.int ((kwh (k275b4 s) m t).2.2)), p3, p4, p5, p6, p7] [] S1 Q) → am_L (am_PP sc) N d 275 4 [some (.ref 39), some (.int t.1), some (.int t.2), o3, o4, o5, o6, o7] [] S Q := by
  intro N
  induction N with
  | zero => intros; exact l_zero
  | succ N ih =>
    intro S o3 o4 o5 o6 o7 t hS kx184
    refine l1d (v := t.2) hi_275_4 rfl ?_
    refine l2 (v := 39) hi_275_5 rfl ?_
    refine l20 (v := .int (s.1 53)) hS hi_275_6 rfl ?_
    by_cases c1 : (s.1 53) ≤ t.2
    · refine l13t hi_275_9 (decide_eq_true c1) ?_
      have e0 : (k275b4 s) t = (1, (t.1, t.2)) := by unfold k275b4; rw [if_pos c1]
      have e1 : kwh (k275b4 s) 1 t = (1, (t.1, t.2)) := by rw [kwh_out (by rw [e0]; exact Nat.succ_ne_zero _), e0]
      have q := kx184 1 _ o3 o4 o5 o6 o7 (by rw [e1]) (by exact hS)
      try rw [e1] at q
      exact q.less (Nat.le_succ N)
    · refine l13f hi_275_9 (decide_eq_false c1) ?_
      refine l0 hi_275_12 ?_
      refine l3 (ls' := [some (.ref 39), some (.int t.1), some (.int t.2), some (.int 0), o4, o5, o6, o7]) hi_275_13 (Nat.le_of_ble_eq_true rfl) rfl ?_
      refine l0 hi_275_14 ?_
      refine l3 (ls' := [some (.ref 39), some (.int t.1), some (.int t.2), some (.int 0), some (.int 0), o5, o6, o7]) hi_275_15 (Nat.le_of_ble_eq_true rfl) rfl ?_
      refine lb275_17 N _ o5 o6 o7 (t.1, 0, 0) hS ?_
      · intro m2 S3 p7 p8 p9 hm4 h5
        have hf6 : kfin (k275b17 s t.2) (t.1, 0, 0) = kwh (k275b17 s t.2) m2 (t.1, 0, 0) := kfin_eq (by rw [hm4]; decide)
        rw [← hf6] at hm4
        try rw [← hf6]
        refine l5 (v := t.2) (ls' := [some (.ref 39), some (.int ((kfin (k275b17 s t.2) (t.1, 0, 0)).2.1)), some (.int (t.2 + 1)), some (.int ((kfin (k275b17 s t.2) (t.1, 0, 0)).2.2.1)), some (.int ((kfin (k275b17 s t.2) (t.1, 0, 0)).2.2.2)), p7, p8, p9]) hi_275_178 rfl rfl ?_
        refine l18 hi_275_181 ?_
        have e0 : (k275b4 s) t = (0, ((kfin (k275b17 s t.2) (t.1, 0, 0)).2.1, t.2 + 1)) := by unfold k275b4; rw [if_neg c1]
        have e1 : ∀ m, kwh (k275b4 s) (m + 1) t = kwh (k275b4 s) m ((kfin (k275b17 s t.2) (t.1, 0, 0)).2.1, t.2 + 1) := fun m => by rw [kwh_go (by rw [e0]), e0]
        exact ih _ (some (.int ((kfin (k275b17 s t.2) (t.1, 0, 0)).2.2.1))) (some (.int ((kfin (k275b17 s t.2) (t.1, 0, 0)).2.2.2))) p7 p8 p9 ((kfin (k275b17 s t.2) (t.1, 0, 0)).2.1, t.2 + 1) h5 (fun m S1 p3 p4 p5 p6 p7 hm h1 => by have q := kx184 (m + 1) S1 p3 p4 p5 p6 p7 (by rw [e1]; exact hm) (by exact h1); (try rw [e1] at q); exact q.less (Nat.le_succ N))
/-- flaws()I -/
noncomputable def k275 (s : kS) : Int32 := (kfin (k275b4 s) (0, 0)).2.1
theorem lt275 {sc : Nat × (Nat → Int32)} {N d : Nat} {S0 S : am_S} {s : kS} (hS : MK S0 S s) : am_L (am_PP sc) N d 275 0 [some (.ref 39), none, none, none, none, none, none, none] [] S (fun o S1 => o = some (some (.int (k275 s))) ∧ MK S0 S1 s) := by
  refine l0 hi_275_0 ?_
  refine l3 (ls' := [some (.ref 39), some (.int 0), none, none, none, none, none, none]) hi_275_1 (Nat.le_of_ble_eq_true rfl) rfl ?_
  refine l0 hi_275_2 ?_
  refine l3 (ls' := [some (.ref 39), some (.int 0), some (.int 0), none, none, none, none, none]) hi_275_3 (Nat.le_of_ble_eq_true rfl) rfl ?_
  refine lb275_4 N _ none none none none none (0, 0) hS ?_
  · intro m1 S2 p6 p7 p8 p9 p10 hm3 h4
    have hf5 : kfin (k275b4 s) (0, 0) = kwh (k275b4 s) m1 (0, 0) := kfin_eq (by rw [hm3]; decide)
    rw [← hf5] at hm3
    try rw [← hf5]
    refine l1 (v := (kfin (k275b4 s) (0, 0)).2.1) hi_275_184 rfl ?_
    refine l33 hi_275_185 ⟨?_, ?_⟩
    · rfl
    · exact h4
