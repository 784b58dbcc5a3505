/-! small helps -/
theorem tb0 {A M j : Nat} (ez : A &&& M = 0) (hj : M.testBit j = true) : A.testBit j = false := by
  have := congrArg (fun q => q.testBit j) ez
  simp only [Nat.testBit_and, hj, Bool.and_true, Nat.zero_testBit] at this
  exact this
theorem sub0 {A M N : Nat} (e1 : A &&& M = 0) (e2 : M &&& N = N) : A &&& N = 0 := by
  rw [← e2, ← Nat.and_assoc, e1, Nat.zero_and]
theorem XK.a24 {k : kS} {X : List xF} (h : XK k X) : k.1 24 = xn (kL X).length := h.1.1
theorem XK.a32 {k : kS} {f : xF} {r : List xF} (h : XK k (f :: r)) (hz : SZ (f :: r)) : k.1 32 = xn r.length := by
  have e := h.2.2.2.2.1
  have e1 : (f :: r).length = r.length + 1 := rfl
  have zg : (f :: r).length ≤ 1000000 := by unfold SZ at hz; omega
  exact xn_eq (by omega) (by omega)
theorem SZ.kl {X : List xF} (hz : SZ X) : (kL X).length ≤ 1000000 := hz.k.1
