/-! BETWEEN TWO CALLS: what holds of the reference -/
def RI (f : Nat → Int32) (g : Nat → Nat → Int32) : Prop :=
  mj_V (g 16) (g 17) (g 18) ∧ mj_U (g 26) (g 34) (g 35) (g 36) (g 38) (g 39) (g 40) (g 51) ∧ (0 ≤ (f 19).toInt ∧ (f 19).toInt ≤ 600) ∧ (0 ≤ (f 53).toInt ∧ (f 53).toInt ≤ 600) ∧ (0 ≤ (f 62).toInt ∧ (f 62).toInt ≤ 65000) ∧
  (∀ x : Nat, (x : Int) < (f 53).toInt → (g 67 x).toInt = mj_n (g 63) (f 62).toNatClampNeg x) ∧ (∀ x : Nat, (x : Int) < (f 53).toInt → 0 ≤ (g 61 x).toInt ∧ 0 ≤ (g 60 x).toInt ∧ (g 61 x).toInt + (g 60 x).toInt ≤ 65000) ∧ ∀ i : Nat, 0 ≤ (g 74 i).toInt ∧ (g 74 i).toInt < 65536
section RIL
variable {f : Nat → Int32} {g : Nat → Nat → Int32}
theorem RI.cb (h : RI f g) {i : Int32} (h0 : 0 ≤ i.toInt) (h1 : i.toInt < (f 53).toInt) : 0 ≤ (g 61 i.toNatClampNeg).toInt ∧ 0 ≤ (g 60 i.toNatClampNeg).toInt ∧ (g 61 i.toNatClampNeg).toInt + (g 60 i.toNatClampNeg).toInt ≤ 65000 := by
  obtain ⟨-, -, -, -, -, -, h7, -⟩ := h
  exact h7 i.toNatClampNeg (by rw [cl_toNat]; omega)
theorem RI.od (h : RI f g) (i : Nat) : 0 ≤ (g 74 i).toInt ∧ (g 74 i).toInt < 65536 := by
  obtain ⟨-, -, -, -, -, -, -, h8⟩ := h
  exact h8 i
theorem RI.oc (h : RI f g) {i : Int32} (h0 : 0 ≤ i.toInt) (h1 : i.toInt < (f 53).toInt) : (g 67 i.toNatClampNeg).toInt = mj_n (g 63) (f 62).toNatClampNeg i.toInt := by
  obtain ⟨-, -, -, -, -, h6, -, -⟩ := h
  have := h6 i.toNatClampNeg (by rw [cl_toNat]; omega)
  rw [this, cl_toNat, cl_toNat, Int.toNat_of_nonneg h0]
end RIL
/-- how many of the first n lie below m -/
def mj_s (a : Nat → Int32) (n : Nat) : Nat → Int
  | 0 => 0
  | m + 1 => mj_s a n m + mj_n a n m
theorem mj_s_zero {a : Nat → Int32} : ∀ m, mj_s a 0 m = 0 := by
  intro m
  induction m with
  | zero => rfl
  | succ m ih => simp only [mj_s, ih, mj_n]; rfl
theorem mj_s_succ {a : Nat → Int32} {n : Nat} : ∀ m, mj_s a (n + 1) m = mj_s a n m + if 0 ≤ (a n).toInt ∧ (a n).toInt < m then 1 else 0 := by
  intro m
  induction m with
  | zero =>
    simp only [mj_s]
    rw [if_neg (by omega)]
    rfl
  | succ m ih =>
    simp only [mj_s, mj_n, ih]
    by_cases h1 : (a n).toInt = (m : Int)
    · rw [if_pos h1, if_neg (by omega), if_pos (by omega)]
      omega
    · rw [if_neg h1]
      by_cases h2 : 0 ≤ (a n).toInt ∧ (a n).toInt < (m : Int)
      · rw [if_pos h2, if_pos (by omega)]
        omega
      · rw [if_neg h2, if_neg (by omega)]
        omega
theorem mj_s_le {a : Nat → Int32} {m : Nat} : ∀ n, 0 ≤ mj_s a n m ∧ mj_s a n m ≤ n := by
  intro n
  induction n with
  | zero => rw [mj_s_zero]; exact ⟨Int.le_refl _, Int.le_refl _⟩
  | succ n ih =>
    rw [mj_s_succ]
    split <;> omega
theorem mj_s_mono {a : Nat → Int32} {n : Nat} {m : Nat} : ∀ m', m ≤ m' → mj_s a n m ≤ mj_s a n m' := by
  intro m'
  induction m' with
  | zero => intro h; obtain rfl : m = 0 := by omega
            exact Int.le_refl _
  | succ k ih =>
    intro h
    rcases Nat.lt_or_ge k m with q | q
    · obtain rfl : m = k + 1 := by omega
      exact Int.le_refl _
    · have := ih q
      have h2 := (mj_n_le (a := a) n (k : Int)).1
      simp only [mj_s]
      omega
/-- the place of instruction i among its function's -/
theorem mj_place {a : Nat → Int32} {n i m : Nat} (hi : i < n) (hm : (a i).toInt = (m : Int)) : mj_s a n m + mj_n a i m < n := by
  have h1 := (mj_s_le (a := a) (m := m + 1) n).2
  have h2 : mj_n a (i + 1) m ≤ mj_n a n m := mj_mono n hi
  simp only [mj_s] at h1
  simp only [mj_n] at h2
  rw [if_pos hm] at h2
  omega
/-- a walk along the owners that has met fewer than there are is not at the end -/
theorem mj_find {a : Nat → Int32} {n i : Nat} {x v w : Int} (h : mj_n a i x + v = w) (hv : 0 ≤ v) (hw : w < mj_n a n x) : i < n := by
  rcases Nat.lt_or_ge i n with q | q
  · exact q
  · have := mj_mono (a := a) (x := x) i q
    omega
/-- what begin makes -/
theorem rj_zero {f : Nat → Int32} {g : Nat → Nat → Int32} (hV : mj_V (g 16) (g 17) (g 18)) (hU : mj_U (g 26) (g 34) (g 35) (g 36) (g 38) (g 39) (g 40) (g 51)) (h10 : (f 10).toInt = 0) (h32 : (f 32).toInt = 0) (h53 : (f 53).toInt = 1) (h37 : (f 37).toInt = 0) (h4 : (f 4).toInt = 0) (h48 : (f 48).toInt = 0) (h62 : (f 62).toInt = 0) (h68 : (f 68).toInt = 0) (g33 : (g 33 0).toInt = 0) (g36 : (g 36 0).toInt = 0) (g60 : (g 60 0).toInt = 0) (g67 : (g 67 0).toInt = 0) : RJ f g [] [] [] 0 [] := by
  refine ⟨⟨h10, fun i e h => by simp at h⟩, hV, hU, fun k hk => ?_, ⟨h37, fun b hb => by omega⟩, ⟨0, by omega, by omega, fun k hk => ?_, fun b hb => by omega, fun i hi => by omega⟩, fun e he => (nomatch he), fun i c h => by simp at h, ⟨List.nodup_nil, fun i hi => (nomatch hi)⟩, ⟨fun k hk => by omega, fun x hx => ?_⟩, ⟨fun k hk => by omega, fun x hx => ?_⟩, rfl, fun j hj => (nomatch hj)⟩
  · obtain rfl : k = 0 := by omega
    rw [g33, h53]
    exact ⟨Int.le_refl _, by decide⟩
  · obtain rfl : k = 0 := by omega
    omega
  · obtain rfl : x = 0 := by omega
    rw [g67, show (f 62).toNatClampNeg = 0 by rw [cl_toNat, h62]; rfl]
    rfl
  · obtain rfl : x = 0 := by omega
    rw [g60, show (f 68).toNatClampNeg = 0 by rw [cl_toNat, h68]; rfl]
    rfl
