/-! THE SORT AS A WHOLE -/
theorem k266_all {k : kS} {n N : Nat} (hN : N ≤ 1000000) (hn : n ≤ 65536) (h53 : k.1 53 = xn N) (h68 : k.1 68 = xn n) (how : ∀ i, i < n → ∃ x, x < N ∧ k.2 69 i = xn x) (h60 : ∀ x, x < N → k.2 60 x = xn (gx (k.2 69) x n).length) : SIv (k.2 69) n N n (k266 k).1 ∧ ∀ x, x < N → (k266 k).1.2 61 x = xn (sx (k.2 69) n x) := by
  obtain ⟨m1, k1, r1, r2, r3, r4⟩ := b9_go hN N 0 (ka k 61 0 0) h53 (Nat.zero_add _)
  have e9 : kfin k266b9 (ka k 61 0 0, 0) = (1, (k1, xn N)) := kfin_of ⟨m1, r1⟩ (Nat.succ_ne_zero 0)
  have f1 : kFr 0 2305843009213693952 (ka k 61 0 0) k1 := by
    have q := kfin_fr1 (t := ((ka k 61 0 0), (0 : Int32))) (fun t => fr_k266b9 t)
    rw [e9] at q
    exact q
  have a53 : k1.1 53 = xn N := (f1.1 53 (Nat.zero_testBit _)).trans h53
  have a68 : k1.1 68 = xn n := (f1.1 68 (Nat.zero_testBit _)).trans h68
  have a69 : k1.2 69 = k.2 69 := (f1.2 69 rfl).trans rfl
  have hs := (sx_le (ow := k.2 69) (n := n) N hN).1
  have a61 : ∀ x, x ≤ N → k1.2 61 x = xn (sx (k.2 69) n x) := by
    intro x
    induction x with
    | zero => intro _; exact r3 0 (Nat.le_refl _)
    | succ x ih =>
      intro hx
      have hm := sx_mono (ow := k.2 69) (n := n) (x := x) (y := N) (by omega)
      have e60 : (ka k 61 0 0).2 60 x = k.2 60 x := rfl
      rw [r4 x (Nat.zero_le _) (by omega), ih (by omega), e60, h60 x (by omega)]
      exact xn_plus (by omega)
  obtain ⟨m2, k2, s1, -, s3⟩ := b46_go hN N 0 k1 a53 (Nat.zero_add _)
  have e46 : kfin k266b46 (k1, 0) = (1, (k2, xn N)) := kfin_of ⟨m2, s1⟩ (Nat.succ_ne_zero 0)
  have f2 : kFr 0 1152921504606846976 k1 k2 := by
    have q := kfin_fr1 (t := (k1, (0 : Int32))) (fun t => fr_k266b46 t)
    rw [e46] at q
    exact q
  have b68 : k2.1 68 = xn n := (f2.1 68 (Nat.zero_testBit _)).trans a68
  have b69 : k2.2 69 = k.2 69 := (f2.2 69 rfl).trans a69
  have b61 : ∀ x, x < N → k2.2 61 x = xn (sx (k.2 69) n x) := fun x hx => by
    rw [f2.2 61 rfl]
    exact a61 x (by omega)
  obtain ⟨m3, k3, t1, t2⟩ := b69_go (ow := k.2 69) hN hn how n 0 k2 b68 b69 b61 (Nat.zero_add _) ⟨fun x hx => s3 x (Nat.zero_le _) hx, fun x hx i g hg => nomatch hg⟩
  have e69 : kfin k266b69 (k2, 0) = (1, (k3, xn n)) := kfin_of ⟨m3, t1⟩ (Nat.succ_ne_zero 0)
  have f3 : kFr 0 18890618852983187701760 k2 k3 := by
    have q := kfin_fr1 (t := (k2, (0 : Int32))) (fun t => fr_k266b69 t)
    rw [e69] at q
    exact q
  have ek : (k266 k).1 = k3 := by
    have e0 : k266 k = ((kfin k266b69 ((kfin k266b46 ((kfin k266b9 (ka k 61 0 0, 0)).2.1, 0)).2.1, 0)).2.1, 0) := rfl
    rw [e0, e9]
    show (kfin k266b69 ((kfin k266b46 (k1, 0)).2.1, 0)).2.1 = k3
    rw [e46]
    show (kfin k266b69 (k2, 0)).2.1 = k3
    rw [e69]
  rw [ek]
  exact ⟨t2, fun x hx => by rw [f3.2 61 rfl]; exact b61 x hx⟩
