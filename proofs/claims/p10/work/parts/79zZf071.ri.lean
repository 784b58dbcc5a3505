/-! BETWEEN TWO CALLS: what holds of the reference -/
def RI (f : Nat → Int32) (g : Nat → Nat → Int32) : Prop :=
  mj_V (g 16) (g 17) (g 18) ∧ mj_U (g 26) (g 34) (g 35) (g 36) (g 38) (g 39) (g 40) (g 51) ∧ (0 ≤ (f 19).toInt ∧ (f 19).toInt ≤ 600) ∧ (0 ≤ (f 53).toInt ∧ (f 53).toInt ≤ 600) ∧ (0 ≤ (f 62).toInt ∧ (f 62).toInt ≤ 65000) ∧
  (∀ x : Nat, (x : Int) < (f 53).toInt → (g 67 x).toInt = mj_n (g 63) (f 62).toNatClampNeg x) ∧ (∀ x : Nat, (x : Int) < (f 53).toInt → 0 ≤ (g 61 x).toInt ∧ 0 ≤ (g 60 x).toInt ∧ (g 61 x).toInt + (g 60 x).toInt ≤ 65000) ∧ ∀ x : Nat, (x : Int) < (f 53).toInt → ∀ j : Nat, (j : Int) < (g 60 x).toInt → 0 ≤ (g 74 ((g 61 x).toInt.toNat + j)).toInt ∧ (g 74 ((g 61 x).toInt.toNat + j)).toInt < 65536
section RIL
variable {f : Nat → Int32} {g : Nat → Nat → Int32}
theorem RI.cb (h : RI f g) {i : Int32} (h0 : 0 ≤ i.toInt) (h1 : i.toInt < (f 53).toInt) : 0 ≤ (g 61 i.toNatClampNeg).toInt ∧ 0 ≤ (g 60 i.toNatClampNeg).toInt ∧ (g 61 i.toNatClampNeg).toInt + (g 60 i.toNatClampNeg).toInt ≤ 65000 := by
  obtain ⟨-, -, -, -, -, -, h7, -⟩ := h
  exact h7 i.toNatClampNeg (by rw [cl_toNat]; omega)
theorem RI.od (h : RI f g) {x v z : Int32} (h0 : 0 ≤ x.toInt) (h1 : x.toInt < (f 53).toInt) (h2 : 0 ≤ v.toInt) (h3 : v.toInt < (g 60 x.toNatClampNeg).toInt) (hz : z.toInt = (g 61 x.toNatClampNeg).toInt + v.toInt) : 0 ≤ (g 74 z.toNatClampNeg).toInt ∧ (g 74 z.toNatClampNeg).toInt < 65536 := by
  have hb := RI.cb h h0 h1
  obtain ⟨-, -, -, -, -, -, -, h8⟩ := h
  have := h8 x.toNatClampNeg (by rw [cl_toNat]; omega) v.toNatClampNeg (by rw [cl_toNat]; omega)
  have e1 : z.toNatClampNeg = z.toInt.toNat := cl_toNat
  have e2 : v.toNatClampNeg = v.toInt.toNat := cl_toNat
  rw [show z.toNatClampNeg = (g 61 x.toNatClampNeg).toInt.toNat + v.toNatClampNeg from by omega]
  exact this
theorem RI.oc (h : RI f g) {i : Int32} (h0 : 0 ≤ i.toInt) (h1 : i.toInt < (f 53).toInt) : (g 67 i.toNatClampNeg).toInt = mj_n (g 63) (f 62).toNatClampNeg i.toInt := by
  obtain ⟨-, -, -, -, -, h6, -, -⟩ := h
  have := h6 i.toNatClampNeg (by rw [cl_toNat]; omega)
  rw [this, cl_toNat, cl_toNat, Int.toNat_of_nonneg h0]
end RIL
/-- how many of the first n lie below m -/
def mj_s (a : Nat → Int32) (n : Nat) : Nat → Int
  | 0 => 0
  | m + 1 => mj_s a n m + mj_n a n m
theorem mj_s_zero {a : Nat → Int32} : ∀ m, mj_s a 0 m = 0 := by
  intro m
  induction m with
  | zero => rfl
  | succ m ih => simp only [mj_s, ih, mj_n]; rfl
theorem mj_s_succ {a : Nat → Int32} {n : Nat} : ∀ m, mj_s a (n + 1) m = mj_s a n m + if 0 ≤ (a n).toInt ∧ (a n).toInt < m then 1 else 0 := by
  intro m
  induction m with
  | zero =>
    simp only [mj_s]
    rw [if_neg (by omega)]
    rfl
  | succ m ih =>
    simp only [mj_s, mj_n, ih]
    by_cases h1 : (a n).toInt = (m : Int)
    · rw [if_pos h1, if_neg (by omega), if_pos (by omega)]
      omega
    · rw [if_neg h1]
      by_cases h2 : 0 ≤ (a n).toInt ∧ (a n).toInt < (m : Int)
      · rw [if_pos h2, if_pos (by omega)]
        omega
      · rw [if_neg h2, if_neg (by omega)]
        omega
theorem mj_s_le {a : Nat → Int32} {m : Nat} : ∀ n, 0 ≤ mj_s a n m ∧ mj_s a n m ≤ n := by
  intro n
  induction n with
  | zero => rw [mj_s_zero]; exact ⟨Int.le_refl _, Int.le_refl _⟩
  | succ n ih =>
    rw [mj_s_succ]
    split <;> omega
theorem mj_s_mono {a : Nat → Int32} {n : Nat} {m : Nat} : ∀ m', m ≤ m' → mj_s a n m ≤ mj_s a n m' := by
  intro m'
  induction m' with
  | zero => intro h; obtain rfl : m = 0 := by omega
            exact Int.le_refl _
  | succ k ih =>
    intro h
    rcases Nat.lt_or_ge k m with q | q
    · obtain rfl : m = k + 1 := by omega
      exact Int.le_refl _
    · have := ih q
      have h2 := (mj_n_le (a := a) n (k : Int)).1
      simp only [mj_s]
      omega
/-- the place of instruction i among its function's -/
theorem mj_place {a : Nat → Int32} {n i m : Nat} (hi : i < n) (hm : (a i).toInt = (m : Int)) : mj_s a n m + mj_n a i m < n := by
  have h1 := (mj_s_le (a := a) (m := m + 1) n).2
  have h2 : mj_n a (i + 1) m ≤ mj_n a n m := mj_mono n hi
  simp only [mj_s] at h1
  simp only [mj_n] at h2
  rw [if_pos hm] at h2
  omega
/-- a walk along the owners that has met fewer than there are is not at the end -/
theorem mj_find {a : Nat → Int32} {n i : Nat} {x v w : Int} (h : mj_n a i x + v = w) (hv : 0 ≤ v) (hw : w < mj_n a n x) : i < n := by
  rcases Nat.lt_or_ge i n with q | q
  · exact q
  · have := mj_mono (a := a) (x := x) i q
    omega
/-- what begin makes -/
theorem rj_zero {f : Nat → Int32} {g : Nat → Nat → Int32} (hV : mj_V (g 16) (g 17) (g 18)) (hU : mj_U (g 26) (g 34) (g 35) (g 36) (g 38) (g 39) (g 40) (g 51)) (h10 : (f 10).toInt = 0) (h32 : (f 32).toInt = 0) (h53 : (f 53).toInt = 1) (h37 : (f 37).toInt = 0) (h4 : (f 4).toInt = 0) (h48 : (f 48).toInt = 0) (h62 : (f 62).toInt = 0) (h68 : (f 68).toInt = 0) (g33 : (g 33 0).toInt = 0) (g36 : (g 36 0).toInt = 0) (g60 : (g 60 0).toInt = 0) (g67 : (g 67 0).toInt = 0) : RJ f g [] [] [] 0 [] := by
  refine ⟨⟨h10, fun i e h => by simp at h⟩, hV, hU, fun k hk => ?_, ⟨h37, fun b hb => by omega⟩, ⟨0, by omega, by omega, fun k hk => ?_, fun b hb => by omega, fun i hi => by omega⟩, fun e he => (nomatch he), fun i c h => by simp at h, ⟨List.nodup_nil, fun i hi => (nomatch hi)⟩, ⟨fun k hk => by omega, fun x hx => ?_⟩, ⟨fun k hk => by omega, fun x hx => ?_⟩, rfl, fun j hj => (nomatch hj)⟩
  · obtain rfl : k = 0 := by omega
    rw [g33, h53]
    exact ⟨Int.le_refl _, by decide⟩
  · obtain rfl : k = 0 := by omega
    omega
  · obtain rfl : x = 0 := by omega
    rw [g67, show (f 62).toNatClampNeg = 0 by rw [cl_toNat, h62]; rfl]
    rfl
  · obtain rfl : x = 0 := by omega
    rw [g60, show (f 68).toNatClampNeg = 0 by rw [cl_toNat, h68]; rfl]
    rfl
/-! THE SORT BY FUNCTIONS -/
section SOR
variable {ow ct b c : Nat → Int32} {m many i : Int32}
theorem so_1 (hO : mj_O m many ow ct) (hm : 0 ≤ m.toInt ∧ m.toInt ≤ 65000) (hb : ∀ x : Nat, (x : Int) ≤ i.toInt → (b x).toInt = mj_s ow m.toNatClampNeg x) (h0 : 0 ≤ i.toInt) (h1 : i.toInt < many.toInt) : 0 ≤ (b i.toNatClampNeg).toInt ∧ 0 ≤ (ct i.toNatClampNeg).toInt ∧ (b i.toNatClampNeg).toInt + (ct i.toNatClampNeg).toInt ≤ 65000 := by
  have e1 := hb i.toNatClampNeg (by rw [cl_toNat]; omega)
  have e2 := hO.2 i.toNatClampNeg (by rw [cl_toNat]; omega)
  have e3 := (mj_s_le (a := ow) (m := i.toNatClampNeg) m.toNatClampNeg).1
  have e4 := (mj_s_le (a := ow) (m := i.toNatClampNeg + 1) m.toNatClampNeg).2
  have e5 := (mj_n_le (a := ow) m.toNatClampNeg (i.toNatClampNeg : Int)).1
  simp only [mj_s] at e4
  have e6 : ((m.toNatClampNeg : Nat) : Int) = m.toInt := by rw [cl_toNat]; omega
  rw [e1, e2]
  omega
theorem so_1n (hO : mj_O m many ow ct) (hb : ∀ x : Nat, (x : Int) ≤ i.toInt → (b x).toInt = mj_s ow m.toNatClampNeg x) (h0 : 0 ≤ i.toInt) (h1 : i.toInt < many.toInt) {z v : Int32} (hz : z.toInt = i.toInt + 1) (hv : v.toInt = (b i.toNatClampNeg).toInt + (ct i.toNatClampNeg).toInt) : ∀ x : Nat, (x : Int) ≤ z.toInt → (upd b z.toNatClampNeg v x).toInt = mj_s ow m.toNatClampNeg x := by
  intro x hx
  by_cases e : x = z.toNatClampNeg
  · rw [e, upd_eq, hv, hb i.toNatClampNeg (by rw [cl_toNat]; omega), hO.2 i.toNatClampNeg (by rw [cl_toNat]; omega)]
    have e2 : z.toNatClampNeg = i.toNatClampNeg + 1 := by rw [cl_toNat, cl_toNat]; omega
    rw [e2]
    rfl
  · rw [upd_ne e]
    rw [cl_toNat] at e
    exact hb x (by omega)
theorem so_2n (hz : ∀ x : Nat, (x : Int) < i.toInt → (c x).toInt = 0) (h0 : 0 ≤ i.toInt) {z : Int32} (hi : z.toInt = i.toInt + 1) : ∀ x : Nat, (x : Int) < z.toInt → (upd c i.toNatClampNeg 0 x).toInt = 0 := by
  intro x hx
  by_cases e : x = i.toNatClampNeg
  · rw [e, upd_eq]; rfl
  · rw [upd_ne e]
    rw [cl_toNat] at e
    exact hz x (by omega)
theorem so_3a (hO : mj_O m many ow ct) (h0 : 0 ≤ i.toInt) (h1 : i.toInt < m.toInt) : 0 ≤ (ow i.toNatClampNeg).toInt ∧ (ow i.toNatClampNeg).toInt < many.toInt := hO.1 i.toNatClampNeg (by rw [cl_toNat]; omega)
theorem so_3 (hO : mj_O m many ow ct) (hb : ∀ x : Nat, (x : Int) ≤ many.toInt → (b x).toInt = mj_s ow m.toNatClampNeg x) (hc : ∀ x : Nat, (x : Int) < many.toInt → (c x).toInt = mj_n ow i.toNatClampNeg x) (h0 : 0 ≤ i.toInt) (h1 : i.toInt < m.toInt) : 0 ≤ (b (ow i.toNatClampNeg).toNatClampNeg).toInt ∧ 0 ≤ (c (ow i.toNatClampNeg).toNatClampNeg).toInt ∧ (b (ow i.toNatClampNeg).toNatClampNeg).toInt + (c (ow i.toNatClampNeg).toNatClampNeg).toInt < m.toInt := by
  have hv := so_3a hO h0 h1
  have e1 := hb (ow i.toNatClampNeg).toNatClampNeg (by rw [cl_toNat]; omega)
  have e2 := hc (ow i.toNatClampNeg).toNatClampNeg (by rw [cl_toNat]; omega)
  have e3 := (mj_s_le (a := ow) (m := (ow i.toNatClampNeg).toNatClampNeg) m.toNatClampNeg).1
  have e5 := (mj_n_le (a := ow) i.toNatClampNeg ((ow i.toNatClampNeg).toNatClampNeg : Int)).1
  have e4 := mj_place (a := ow) (n := m.toNatClampNeg) (i := i.toNatClampNeg) (m := (ow i.toNatClampNeg).toNatClampNeg) (by rw [cl_toNat, cl_toNat]; omega) (by rw [cl_toNat (i := ow i.toNatClampNeg)]; omega)
  have e6 : ((m.toNatClampNeg : Nat) : Int) = m.toInt := by rw [cl_toNat]; omega
  rw [e1, e2]
  omega
theorem so_3n (hO : mj_O m many ow ct) (hc : ∀ x : Nat, (x : Int) < many.toInt → (c x).toInt = mj_n ow i.toNatClampNeg x) (h0 : 0 ≤ i.toInt) (h1 : i.toInt < m.toInt) {z v : Int32} (hz : z.toInt = i.toInt + 1) (hv : v.toInt = (c (ow i.toNatClampNeg).toNatClampNeg).toInt + 1) : ∀ x : Nat, (x : Int) < many.toInt → (upd c (ow i.toNatClampNeg).toNatClampNeg v x).toInt = mj_n ow z.toNatClampNeg x := by
  intro x hx
  have hv3 := so_3a hO h0 h1
  have e2 : z.toNatClampNeg = i.toNatClampNeg + 1 := by rw [cl_toNat, cl_toNat]; omega
  rw [e2]
  simp only [mj_n]
  by_cases e : x = (ow i.toNatClampNeg).toNatClampNeg
  · rw [e, upd_eq, hv, hc _ (by rw [cl_toNat]; omega), if_pos (by rw [cl_toNat (i := ow i.toNatClampNeg)]; omega)]
  · rw [upd_ne e, hc x hx, if_neg (by rw [cl_toNat] at e; omega)]
    omega
theorem so_4 (hm : 0 ≤ m.toInt ∧ m.toInt ≤ 65000) (hb : ∀ x : Nat, (x : Int) ≤ many.toInt → (b x).toInt = mj_s ow m.toNatClampNeg x) (hc : ∀ x : Nat, (x : Int) < many.toInt → (c x).toInt = mj_n ow i.toNatClampNeg x) (hi : i.toInt = m.toInt) : ∀ x : Nat, (x : Int) < many.toInt → 0 ≤ (b x).toInt ∧ 0 ≤ (c x).toInt ∧ (b x).toInt + (c x).toInt ≤ 65000 := by
  intro x hx
  have e1 := hb x (by omega)
  have e2 := hc x hx
  have hi2 : i.toNatClampNeg = m.toNatClampNeg := by rw [cl_toNat, cl_toNat, hi]
  rw [hi2] at e2
  have e3 := (mj_s_le (a := ow) (m := x) m.toNatClampNeg).1
  have e4 := (mj_s_le (a := ow) (m := x + 1) m.toNatClampNeg).2
  have e5 := (mj_n_le (a := ow) m.toNatClampNeg (x : Int)).1
  simp only [mj_s] at e4
  have e6 : ((m.toNatClampNeg : Nat) : Int) = m.toInt := by rw [cl_toNat]; omega
  rw [e1, e2]
  omega
theorem so_od {o b c : Nat → Int32} {M : Int} {w z : Nat} {cw i : Int32} (hd : ∀ x : Nat, (x : Int) < M → ∀ j : Nat, (j : Int) < (c x).toInt → 0 ≤ (o ((b x).toInt.toNat + j)).toInt ∧ (o ((b x).toInt.toNat + j)).toInt < 65536) (hc : 0 ≤ (c w).toInt) (hcw : cw.toInt = (c w).toInt + 1) (hz : z = (b w).toInt.toNat + (c w).toInt.toNat) (hv : 0 ≤ i.toInt ∧ i.toInt < 65536) : ∀ x : Nat, (x : Int) < M → ∀ j : Nat, (j : Int) < (upd c w cw x).toInt → 0 ≤ (upd o z i ((b x).toInt.toNat + j)).toInt ∧ (upd o z i ((b x).toInt.toNat + j)).toInt < 65536 := by
  intro x hx j hj
  by_cases e : (b x).toInt.toNat + j = z
  · rw [e, upd_eq]; exact hv
  · rw [upd_ne e]
    refine hd x hx j ?_
    by_cases e2 : x = w
    · subst e2
      rw [upd_eq] at hj
      omega
    · rw [upd_ne e2] at hj
      exact hj
theorem mj_U_zero {ld ba fl fg bl bb bg gc : Nat → Int32} (h : mj_U ld ba fl fg bl bb bg gc) : mj_U ld (upd ba 0 0) (upd fl 0 0) (upd fg 0 0) bl bb bg gc := by
  intro k
  obtain ⟨h1, h2, h3, h4, h5⟩ := h k
  by_cases e : k = 0
  · subst e
    rw [upd_eq, upd_eq, upd_eq]
    exact ⟨h1, by decide, by decide, by decide, h5⟩
  · rw [upd_ne e, upd_ne e, upd_ne e]
    exact ⟨h1, h2, h3, h4, h5⟩
theorem RJ.o2 {f : Nat → Int32} {g : Nat → Nat → Int32} {gs : List mg_E} {bc : List (List Nat)} {fl : List Nat} {fk : Int} {pj : List Nat} (h : RJ f g gs bc fl fk pj) : mj_O (f 68) (f 53) (g 69) (g 60) := by
  obtain ⟨-, -, -, -, -, -, -, -, -, -, j11, -⟩ := h
  exact j11
/-- the end of compile: nothing was wrong -/
theorem ri_good {f F : Nat → Int32} {g G : Nat → Nat → Int32} {gs : List mg_E} {bc : List (List Nat)} {fl : List Nat} {fk : Int} {pj : List Nat} (h : RJ f g gs bc fl fk pj) (h53 : F 53 = f 53) (h62 : F 62 = f 62) (h19 : 0 ≤ (F 19).toInt ∧ (F 19).toInt ≤ 600) (hm : 0 ≤ (F 53).toInt ∧ (F 53).toInt ≤ 600) (ho : 0 ≤ (F 62).toInt ∧ (F 62).toInt ≤ 65000) (hg : ∀ j, j ∉ [57, 60, 61, 74] → G j = g j) (hc : ∀ x : Nat, (x : Int) < (F 53).toInt → 0 ≤ (G 61 x).toInt ∧ 0 ≤ (G 60 x).toInt ∧ (G 61 x).toInt + (G 60 x).toInt ≤ 65000) (hd : ∀ x : Nat, (x : Int) < (F 53).toInt → ∀ j : Nat, (j : Int) < (G 60 x).toInt → 0 ≤ (G 74 ((G 61 x).toInt.toNat + j)).toInt ∧ (G 74 ((G 61 x).toInt.toNat + j)).toInt < 65536) : RI F G := by
  obtain ⟨-, j2, j3, -, -, -, -, -, -, j10, -, -⟩ := h
  refine ⟨?_, ?_, h19, hm, ho, ?_, hc, hd⟩
  · rw [hg 16 (by decide), hg 17 (by decide), hg 18 (by decide)]; exact j2
  · rw [hg 26 (by decide), hg 34 (by decide), hg 35 (by decide), hg 36 (by decide), hg 38 (by decide), hg 39 (by decide), hg 40 (by decide), hg 51 (by decide)]; exact j3
  · rw [hg 67 (by decide), hg 63 (by decide), h53, h62]; exact j10.2
/-- the end of compile: something was wrong, and there are no functions -/
theorem ri_bad {f F : Nat → Int32} {g G : Nat → Nat → Int32} {gs : List mg_E} {bc : List (List Nat)} {fl : List Nat} {fk : Int} {pj : List Nat} (h : RJ f g gs bc fl fk pj) (h53 : (F 53).toInt = 0) (h19 : 0 ≤ (F 19).toInt ∧ (F 19).toInt ≤ 600) (ho : 0 ≤ (F 62).toInt ∧ (F 62).toInt ≤ 65000) (hg : ∀ j, j ∉ [57, 60, 61, 74] → G j = g j) : RI F G := by
  obtain ⟨-, j2, j3, -⟩ := h
  refine ⟨?_, ?_, h19, by omega, ho, fun x hx => by omega, fun x hx => by omega, fun x hx => by omega⟩
  · rw [hg 16 (by decide), hg 17 (by decide), hg 18 (by decide)]; exact j2
  · rw [hg 26 (by decide), hg 34 (by decide), hg 35 (by decide), hg 36 (by decide), hg 38 (by decide), hg 39 (by decide), hg 40 (by decide), hg 51 (by decide)]; exact j3
end SOR
/-- kinds of words -/
abbrev mw_ok (k : Int) : Prop := (1 ≤ k ∧ k ≤ 3) ∨ (10 ≤ k ∧ k ≤ 31) ∨ (40 ≤ k ∧ k ≤ 72)
theorem mw_no {k n : Int} {r z : Int32} {m : Int} (h : ¬ mw_ok k) (hr : r.toInt = -1 := by decide) (hz : z.toInt = m := by rfl) : r.toInt = (if mw_ok k then n + 1 else -1) ∧ z.toInt = (if mw_ok k then n + 1 else m) := by
  rw [if_neg h, if_neg h]
  exact ⟨hr, hz⟩
theorem mw_yes {k n : Int} {r z : Int32} {m : Int} (h : mw_ok k) (hr : r.toInt = n + 1) (hz : z.toInt = n + 1) : r.toInt = (if mw_ok k then n + 1 else -1) ∧ z.toInt = (if mw_ok k then n + 1 else m) := by
  rw [if_pos h, if_pos h]
  exact ⟨hr, hz⟩
