/-! THE CLASS: words, levels, refusals -/
/-- what a word of kind k does to the levels -/
def c_dl (k : Int) : Int := (if k = 61 ∨ k = 65 ∨ k = 63 ∨ k = 15 ∨ k = 30 ∨ k = 14 ∨ k = 13 then -1 else 0) + (if k = 60 ∨ k = 64 ∨ k = 62 ∨ k = 12 ∨ k = 28 ∨ k = 13 ∨ k = 26 ∨ k = 18 then 1 else 0)
theorem kd_lt {aw : Nat} {S : am_S} (h : kd aw S ≠ 0) : 0 ≤ nx S ∧ nx S < wr S := by
  unfold kd kA at h
  by_cases e : 0 ≤ nx S ∧ nx S < wr S
  · exact e
  · rw [if_neg e] at h
    exact absurd rfl h
theorem th_new {aw : Nat} {S : am_S} (h : SH aw S) (h0 : 0 ≤ nx S) (h1 : nx S ≤ wr S) : TH aw 134 S (S.1, S.2.1 + 1, S.2.2 + 6) := by
  refine ⟨h, ⟨fun _ _ q => q, fun _ _ _ => rfl, Nat.le_refl _⟩, ⟨rfl, rfl⟩, h0, h1, ?_⟩
  have e : EN (S.1, S.2.1 + 1, S.2.2 + 6) = EN S + 134 := by
    unfold EN
    show 128 * ((S.2.1 + 1 : Nat) : Int) + ((S.2.2 + 6 : Nat) : Int) + c_sum (c_phi (am_fs S) (am_arq S)) S.1.length + 160 * iv S 8 1 + 320 * iv S 10 1 = _
    omega
  have e2 : nx (S.1, S.2.1 + 1, S.2.2 + 6) = nx S := rfl
  rw [e, e2]
  omega
theorem getw_in {aw : Nat} {S : am_S} {x y r z : Int32} {a : Nat} (ha : a = aw) (h0 : 0 ≤ x.toInt) (h1 : x.toInt < wr S) (hz : z.toInt = 4 * x.toInt + y.toInt) (hr : r = am_arf S a z.toNatClampNeg) : y.toInt = 0 → r.toInt = kA aw S x.toInt := by
  intro hy
  unfold kA
  rw [if_pos ⟨h0, h1⟩, hr, ha]
  have e : z.toNatClampNeg = (4 * x.toInt).toNat := by rw [cl_toNat]; omega
  rw [e]
theorem getw_out {aw : Nat} {S : am_S} {x y r : Int32} (h : x.toInt < 0 ∨ wr S ≤ x.toInt ∨ ¬ y.toInt = 0) (hr : r.toInt = 0) : y.toInt = 0 → r.toInt = kA aw S x.toInt := by
  intro hy
  unfold kA
  rw [if_neg (by omega), hr]
