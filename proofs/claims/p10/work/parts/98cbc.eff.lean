/-! DEPTH: what both answer -/
theorem eff_eq {s : cS} {k : kS} {op a b : Int32} (h1 : 1 ≤ op) (hb : op = 13 → 0 ≤ b.toInt ∧ b.toInt ≤ 7) : (if op < 1 then c165_44 s op a b else if 10 < op then c165_44 s op a b else 1) = k274 k op a b := by
  have i1 : (1 : Int32).toInt = 1 := rfl
  rw [if_neg (by rw [i_le] at h1; rw [i_lt]; omega)]
  by_cases c : op ≤ 10
  · rw [if_neg (by rw [i_le] at c; rw [i_lt]; omega)]
    unfold k274
    rw [if_pos c]
  · rw [if_pos (by rw [i_le] at c; rw [i_lt]; omega)]
    unfold k274 c165_44
    rw [if_neg c]
    by_cases c14 : op = 14
    · subst c14
      rw [if_neg (show ¬ (14 : Int32) = 12 by decide), if_neg (show ¬ (14 : Int32) = 13 by decide), if_pos rfl, if_pos rfl]
    by_cases c20 : op = 20
    · subst c20
      rw [if_neg (show ¬ (20 : Int32) = 12 by decide), if_neg (show ¬ (20 : Int32) = 13 by decide), if_neg (show ¬ (20 : Int32) = 14 by decide), if_neg (show ¬ (20 : Int32) = 17 by decide), if_neg (show ¬ (20 : Int32) = 18 by decide), if_pos rfl, if_neg (show ¬ (20 : Int32) = 14 by decide), if_neg (show ¬ (20 : Int32) ≠ 20 by decide)]
    rw [if_neg c14, if_neg c14, if_neg c20, if_pos c20]
    by_cases c13 : op = 13
    · have hb' := hb c13
      subst c13
      rw [if_neg (show ¬ (13 : Int32) = 12 by decide), if_pos rfl, if_neg (show ¬ (13 : Int32) = 12 by decide), if_pos rfl]
      have hb8 : b = 0 ∨ b = 1 ∨ b = 2 ∨ b = 3 ∨ b = 4 ∨ b = 5 ∨ b = 6 ∨ b = 7 := by
        rcases (by omega : b.toInt = 0 ∨ b.toInt = 1 ∨ b.toInt = 2 ∨ b.toInt = 3 ∨ b.toInt = 4 ∨ b.toInt = 5 ∨ b.toInt = 6 ∨ b.toInt = 7) with y | y | y | y | y | y | y | y
        · exact Or.inl (Int32.toInt_inj.mp y)
        · exact Or.inr (Or.inl (Int32.toInt_inj.mp y))
        · exact Or.inr (Or.inr (Or.inl (Int32.toInt_inj.mp y)))
        · exact Or.inr (Or.inr (Or.inr (Or.inl (Int32.toInt_inj.mp y))))
        · exact Or.inr (Or.inr (Or.inr (Or.inr (Or.inl (Int32.toInt_inj.mp y)))))
        · exact Or.inr (Or.inr (Or.inr (Or.inr (Or.inr (Or.inl (Int32.toInt_inj.mp y))))))
        · exact Or.inr (Or.inr (Or.inr (Or.inr (Or.inr (Or.inr (Or.inl (Int32.toInt_inj.mp y)))))))
        · exact Or.inr (Or.inr (Or.inr (Or.inr (Or.inr (Or.inr (Or.inr (Int32.toInt_inj.mp y)))))))
      have key : (b &&& 6) = 0 ↔ b ≤ 1 := by rcases hb8 with rfl | rfl | rfl | rfl | rfl | rfl | rfl | rfl <;> decide
      by_cases cb : b ≤ 1
      · rw [if_pos (key.mpr cb), if_pos cb]
        rfl
      · rw [if_neg (fun z => cb (key.mp z)), if_neg cb]
        rfl
    · rw [if_neg c13, if_neg c13]
section DEP
variable {sc : Nat × (Nat → Int32)} {N d : Nat} {A : Nat → Nat} {K : Nat} {S : am_S} {s : cS} {x1 : Int32}
noncomputable def c163 (s : cS) (x1 : Int32) : Int32 := if ¬ c159 s x1 then -1 else c164 s (x1.toInt.toNat + 1)
theorem lc163 (hS : CM A K S s) : am_L (am_PP sc) N d 163 0 [some (.ref 0), some (.int x1), none] [] S (fun o S1 => o = some (some (.int (c163 s x1))) ∧ CM A K S1 s) := by
  refine l2 (v := 0) hi_163_0 rfl ?_
  refine l20s (v := .ref 5) hS cs_0 hi_163_1 rfl ?_
  refine l1 (v := x1) hi_163_4 rfl ?_
  refine l32 (as := [.ref 5, .int x1]) (la := [some (.ref 5), some (.int x1)]) (rest := []) hi_163_5 (am_hd0 (M := 163) (by decide) 5) rfl rfl rfl (fun N' d' _ => lc159 (N := N') (d := d') (x1 := x1) hS) ?_ (fun _ q => by rcases q.2 with z | z <;> exact nomatch z.2)
  rintro v3 S1 ⟨h2, (⟨g1, hk, ev3⟩ | ⟨g1, ev3⟩)⟩
  · cases ev3
    show am_L _ _ _ _ _ [some (.ref 0), some (.int x1), none] [.ref (A (x1.toInt.toNat + 1))] _ _
    refine l4 (ls' := [some (.ref 0), some (.int x1), some (.ref (A (x1.toInt.toNat + 1)))]) hi_163_8 (Nat.le_of_ble_eq_true rfl) rfl ?_
    refine l2 (v := A (x1.toInt.toNat + 1)) hi_163_9 rfl ?_
    refine l15r hi_163_10 ?_
    refine l2 (v := 0) hi_163_17 rfl ?_
    refine l20s (v := .ref 32) h2 cs_0 hi_163_18 rfl ?_
    refine l2 (v := A (x1.toInt.toNat + 1)) hi_163_21 rfl ?_
    refine l32 (as := [.ref 32, .ref (A (x1.toInt.toNat + 1))]) (la := [some (.ref 32), some (.ref (A (x1.toInt.toNat + 1))), none, none, none]) (rest := []) hi_163_22 (am_hd0 (M := 163) (by decide) 22) rfl rfl rfl (fun N' d' _ => lc164 (N := N') (d := d') h2 hk) ?_ (fun _ q => nomatch q.1)
    rintro v4 S2 ⟨ev4, h3⟩
    cases ev4
    show am_L _ _ _ _ _ [some (.ref 0), some (.int x1), some (.ref (A (x1.toInt.toNat + 1)))] [.int (c164 s (x1.toInt.toNat + 1))] _ _
    exact l33 hi_163_25 ⟨by unfold c163; rw [if_neg (fun z => z g1)], h3⟩
  · cases ev3
    show am_L _ _ _ _ _ [some (.ref 0), some (.int x1), none] [.null] _ _
    refine l4n (ls' := [some (.ref 0), some (.int x1), some .null]) hi_163_8 (Nat.le_of_ble_eq_true rfl) rfl ?_
    refine l2n hi_163_9 rfl ?_
    refine l15n hi_163_10 ?_
    refine l0 hi_163_13 ?_
    refine l18 hi_163_14 ?_
    exact l33 hi_163_25 ⟨by unfold c163; rw [if_pos g1], h2⟩
end DEP
