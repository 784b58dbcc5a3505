/-! WHAT THE GOALS OF LOOPS AND LOCALS NEED OF THE ARRAYS -/
theorem mg_pa13 {f : Nat → Int32} {g : Nat → Nat → Int32} {gs : List mg_E} {bc : List (List Nat)} {fl : List Nat} {fk : Int} {pj : List Nat} {ba bl : Nat → Int32} {l1 : Int32} {th D B : Int} (hR : RJ f g gs bc fl fk pj) (hba : ba = g 34) (hbl : bl = upd (g 38) (f 37).toNatClampNeg l1) (hD : D = (f 32).toInt) (h0 : 0 ≤ (f 37).toInt) (hB : B = (f 37).toInt + 1) (hth : th = (f 24).toInt - (g 34 (f 32).toNatClampNeg).toInt) (h24 : 0 ≤ (f 24).toInt) (hl : (f 24).toInt ≤ l1.toInt) : 0 ≤ (ba D.toNat).toInt + th ∧ (ba D.toNat).toInt + th ≤ (bl (B - 1).toNat).toInt ∧ ∀ b : Nat, (b : Int) < B - 1 → (bl b).toInt ≤ (ba D.toNat).toInt + th := by
  subst hba hbl hD hB hth
  have e1 : (g 34 (f 32).toInt.toNat) = g 34 (f 32).toNatClampNeg := rfl
  rw [e1]
  have e2 : ((f 37).toInt + 1 - 1).toNat = (f 37).toNatClampNeg := by rw [cl_toNat]; congr 1; omega
  rw [e2, upd_eq]
  refine ⟨by omega, by omega, fun b hb => ?_⟩
  rw [upd_ne (by rw [cl_toNat]; omega)]
  have := (hR.2.2.2.2.1.2 b (by omega)).1
  omega
theorem ww_keep {a : Nat → Int32} {q v : Int32} {lo q1 : Int} (h0 : 0 ≤ q.toInt) (hv : 0 ≤ v.toInt ∧ v.toInt < 16384) (hB : ∀ i : Nat, lo ≤ (i : Int) → (i : Int) < q.toInt → 0 ≤ (a i).toInt ∧ (a i).toInt < 16384) (h1 : q1 = q.toInt + 1) : ∀ i : Nat, lo ≤ (i : Int) → (i : Int) < q1 → 0 ≤ (upd a q.toNatClampNeg v i).toInt ∧ (upd a q.toNatClampNeg v i).toInt < 16384 := by
  intro i hi hj
  by_cases e : i = q.toNatClampNeg
  · rw [e, upd_eq]; exact hv
  · rw [upd_ne e]
    refine hB i hi ?_
    rw [cl_toNat] at e
    omega
theorem ww_below {a g0 : Nat → Int32} {q v : Int32} {lo : Int} (h : lo ≤ q.toInt) (hA : ∀ i : Nat, (i : Int) < lo → a i = g0 i) : ∀ i : Nat, (i : Int) < lo → upd a q.toNatClampNeg v i = g0 i := by
  intro i hi
  rw [upd_ne (by rw [cl_toNat]; omega)]
  exact hA i hi
theorem i32_le (x : Int32) : x.toInt ≤ 2147483647 := by
  have := Int32.toInt_lt x
  omega
theorem i32_ge (x : Int32) : -2147483648 ≤ x.toInt := by
  have := Int32.le_toInt x
  omega
