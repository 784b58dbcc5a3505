/-! DEPTH: both answers alike -/
theorem depth_eq {s : cS} {k : kS} {x1 : Int32} (hN : (k.1 53).toInt ≤ (s.f 6 1).toInt) (h53 : (k.1 53).toInt ≤ 1000000) (hc : CK s k) (h5 : s.f 5 1 = k.1 53) : c163 s x1 = k273 k x1 := by
  have z0 : (0 : Int32).toInt = 0 := rfl
  have k270e : k270 k x1 ≠ 0 ↔ c159 s x1 := by
    unfold k270 c159
    rw [h5]
    by_cases c1 : x1 < 0
    · rw [if_pos c1]
      exact ⟨fun z => absurd rfl z, fun z => absurd c1 z.1⟩
    · rw [if_neg c1]
      by_cases c2 : k.1 53 ≤ x1
      · rw [if_pos c2]
        exact ⟨fun z => absurd rfl z, fun z => absurd c2 z.2.1⟩
      · rw [if_neg c2]
        refine ⟨fun _ => ⟨c1, c2, ?_⟩, fun _ => by decide⟩
        rw [i_le] at c2 ⊢
        omega
  unfold c163 k273
  by_cases g1 : c159 s x1
  · rw [if_neg (fun z => z g1), if_pos (k270e.mpr g1)]
    obtain ⟨g2, g3, g4⟩ := g1
    rw [h5, i_le] at g3
    rw [i_lt] at g2
    obtain ⟨n, hn⟩ : ∃ n : Nat, x1.toInt = n := ⟨x1.toInt.toNat, by omega⟩
    have ex : x1 = xn n := xn_eq hn (by omega)
    have en : x1.toInt.toNat = n := by omega
    obtain ⟨U, B, ⟨u1, uw⟩, u2, u3, u4, u5, u6⟩ := hc n (by omega)
    have ek : ∀ j, kr k j x1 = k.2 j n := fun j => by
      rw [ex]
      show k.2 j (xn n).toNatClampNeg = _
      rw [xn_nat (by omega)]
    obtain ⟨m, R, r1, r2⟩ := dep_go (k := k) (x1 := x1) u1 u2 u3 ((ek 60).trans u4) ((ek 61).trans u5) u6 (fun u hu => (uw u hu).1) U.length 0 0 0 (Nat.zero_add _)
    have a1 : kfin (c164b7 s (n + 1)) (0, 0, 0) = (1, R) := kfin_of ⟨m, r1⟩ (Nat.succ_ne_zero 0)
    have a2 : kfin (k273b17 k x1) (0, 0, 0) = (1, R) := kfin_of ⟨m, r2⟩ (Nat.succ_ne_zero 0)
    rw [en]
    unfold c164
    rw [a1, a2]
  · rw [if_pos g1, if_neg (fun z => g1 (k270e.mp z))]
