/-! A BODY IS OPENED: one more function, one level of depth more -/
theorem mj_n_zero {a : Nat → Int32} {x : Int} : ∀ n, (∀ k : Nat, k < n → (a k).toInt ≠ x) → mj_n a n x = 0 := by
  intro n
  induction n with
  | zero => intro _; rfl
  | succ n ih =>
    intro h
    simp only [mj_n]
    rw [ih (fun k hk => h k (Nat.lt_succ_of_lt hk)), if_neg (h n (Nat.lt_succ_self n))]
    rfl
theorem mj_O_more {m many m1 : Int32} {ow ct : Nat → Int32} (h : mj_O m many ow ct) (h0 : 0 ≤ many.toInt) (hm : m1.toInt = many.toInt + 1) : mj_O m m1 ow (upd ct many.toNatClampNeg 0) := by
  refine ⟨fun k hk => ?_, fun x hx => ?_⟩
  · have q := h.1 k hk
    exact ⟨q.1, by omega⟩
  · by_cases e : x = many.toNatClampNeg
    · rw [e, upd_eq]
      show (0 : Int) = _
      refine (mj_n_zero _ fun k hk => ?_).symm
      have q := h.1 k (by rw [cl_toNat] at hk; omega)
      rw [cl_toNat]
      omega
    · rw [upd_ne e]
      exact h.2 x (by rw [cl_toNat] at e; omega)
theorem rj_body {f : Nat → Int32} {g G : Nat → Nat → Int32} {gs : List mg_E} {bc : List (List Nat)} {fl : List Nat} {fk : Int} {pj : List Nat} {m1 d1 : Int32} (h : RJ f g gs bc fl fk pj) (hm : m1.toInt = (f 53).toInt + 1) (hd : d1.toInt = (f 32).toInt + 1) (h0 : 0 ≤ (f 32).toInt) (hmn : 0 ≤ (f 53).toInt) (h1 : 0 ≤ (f 24).toInt) (h2 : 0 ≤ (f 44).toInt) (h3 : 0 ≤ (f 48).toInt)
    (eo : ∀ j ∈ [11, 12, 13, 14, 16, 17, 18, 26, 38, 39, 40, 43, 51, 63, 69, 71], G j = g j) (e33 : G 33 = upd (g 33) d1.toNatClampNeg (f 53)) (e34 : G 34 = upd (g 34) d1.toNatClampNeg (f 24)) (e35 : G 35 = upd (g 35) d1.toNatClampNeg (f 44)) (e36 : G 36 = upd (g 36) d1.toNatClampNeg (f 48)) (e60 : G 60 = upd (g 60) (f 53).toNatClampNeg 0) (e67 : G 67 = upd (g 67) (f 53).toNatClampNeg 0) :
    RJ (upd (upd f 32 d1) 53 m1) G gs bc fl fk pj := by
  obtain ⟨j1, j2, j3, j4, j5, ⟨gm, a1, a2, a3, a4, a5⟩, j7, j8, j9, j10, j11, j12, j13⟩ := h
  have hD : ((d1.toNatClampNeg : Nat) : Int) = d1.toInt := by rw [cl_toNat]; omega
  unfold RJ mj_S
  rw [eo 11 (by decide), eo 12 (by decide), eo 13 (by decide), eo 14 (by decide), eo 16 (by decide), eo 17 (by decide), eo 18 (by decide), eo 26 (by decide), eo 38 (by decide), eo 39 (by decide), eo 40 (by decide), eo 43 (by decide), eo 51 (by decide), eo 63 (by decide), eo 69 (by decide), eo 71 (by decide), e33, e34, e35, e36, e60, e67]
  refine ⟨j1, j2, fun k => ?_, fun k hk => ?_, j5, ⟨gm, a1, a2, fun k hk => ?_, a4, a5⟩, j7, j8, j9, mj_O_more j10 hmn hm, mj_O_more j11 hmn hm, j12, j13⟩
  · have q := j3 k
    refine ⟨q.1, ?_, ?_, ?_, q.2.2.2.2⟩
    · unfold upd; split
      · exact h1
      · exact q.2.1
    · unfold upd; split
      · exact h2
      · exact q.2.2.1
    · unfold upd; split
      · exact h3
      · exact q.2.2.2.1
  · have hk' : (k : Int) ≤ d1.toInt := hk
    show 0 ≤ (upd (g 33) d1.toNatClampNeg (f 53) k).toInt ∧ (upd (g 33) d1.toNatClampNeg (f 53) k).toInt < m1.toInt
    by_cases e : k = d1.toNatClampNeg
    · rw [e, upd_eq]; omega
    · rw [upd_ne e]
      have q := j4 k (by omega)
      omega
  · have hk' : (k : Int) ≤ d1.toInt := hk
    by_cases e : k = d1.toNatClampNeg
    · rw [e, upd_eq]; exact a1
    · rw [upd_ne e]; exact a3 k (by omega)
/-- a body is left -/
theorem rj_depth {f : Nat → Int32} {g : Nat → Nat → Int32} {gs : List mg_E} {bc : List (List Nat)} {fl : List Nat} {fk : Int} {pj : List Nat} {d1 : Int32} (h : RJ f g gs bc fl fk pj) (hd : d1.toInt ≤ (f 32).toInt) : RJ (upd f 32 d1) g gs bc fl fk pj := by
  obtain ⟨j1, j2, j3, j4, j5, ⟨gm, a1, a2, a3, a4, a5⟩, j7⟩ := h
  exact ⟨j1, j2, j3, fun k hk => j4 k (Int.le_trans hk hd), j5, ⟨gm, a1, a2, fun k hk => a3 k (Int.le_trans hk hd), a4, a5⟩, j7⟩
