/-! THE CLASS: the list of open bodies is emptied: its array's loop -/
theorem cf_lclear {sc : Nat × (Nat → Int32)} {d aw a n : Nat} {mc to : Int32} {Q : Option (Option Value) → am_S → Prop} (hto : to.toInt ≤ n) : ∀ (N : Nat) (S : am_S) (i : Int32), SH aw S → am_fs S 13 = some (5, [.ref a, .int 0, .int mc]) → am_rar S a = some n → 0 ≤ i.toInt → to.toInt - i.toInt < N → (∀ S1 i, Li aw 13 0 S S1 → iv S1 13 1 = 0 → am_E (am_PP sc) d 45 42 [some (.ref 13), some (.ref a), some (.int to), some (.int i)] [] S1 Q) → am_E (am_PP sc) d 45 27 [some (.ref 13), some (.ref a), some (.int to), some (.int i)] [] S Q := by
  intro N
  induction N with
  | zero =>
    intro S i h hfs hR h0 hN hx
    refine am_e1 (v := i) hi_45_27 rfl ?_
    refine am_e1 (v := to) hi_45_28 rfl ?_
    refine am_e13t hi_45_29 (am_cT (m := i.toInt) (n := to.toInt) rfl rfl (by simp only [am_cI]; omega)) ?_
    exact hx S i ⟨h, Ex.refl S, fun _ _ _ => rfl, ⟨rfl, rfl⟩, by omega⟩ (by unfold iv; rw [hfs]; rfl)
  | succ N ih =>
    intro S i h hfs hR h0 hN hx
    refine am_e1 (v := i) hi_45_27 rfl ?_
    refine am_e1 (v := to) hi_45_28 rfl ?_
    by_cases c1 : to.toInt ≤ i.toInt
    · refine am_e13t hi_45_29 (am_cT (m := i.toInt) (n := to.toInt) rfl rfl c1) ?_
      exact hx S i ⟨h, Ex.refl S, fun _ _ _ => rfl, ⟨rfl, rfl⟩, by omega⟩ (by unfold iv; rw [hfs]; rfl)
    · refine am_e13f hi_45_29 (am_cF (m := i.toInt) (n := to.toInt) rfl rfl c1) ?_
      refine am_e2 (v := a) hi_45_32 rfl ?_
      refine am_e1 (v := i) hi_45_33 rfl ?_
      refine am_e29 hi_45_34 ?_
      refine cm_40n (k := 13) h hi_45_35 hR h0 (by omega) (fun k' hk' sz mc' e => ?_) fun S1 g1 g2 g3 => ?_
      · by_cases e2 : k' = 13
        · subst e2
          rw [hfs] at e
          cases e
          exact h0
        · exact absurd e (SH.dis h (by decide) hfs k' hk' e2 _ _)
      · have hl := i32_le to
        obtain ⟨z, hz, tz⟩ := am_addI (x := i) (y := 1) (m := i.toInt) (n := (1 : Int)) rfl (by decide) (by omega) (by omega)
        refine am_e5 (v := i) (z := z) (ls' := [some (.ref 13), some (.ref a), some (.int to), some (.int z)]) hi_45_36 rfl hz rfl ?_
        refine am_e18 hi_45_39 ?_
        exact ih S1 z g1.1 (by rw [g2]; exact hfs) (by rw [g3]; exact hR) (by omega) (by omega) (fun S2 i2 q1 q2 => hx S2 i2 (g1.trans q1) q2)
