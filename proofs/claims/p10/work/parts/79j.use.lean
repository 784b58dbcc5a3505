/-! WHAT THE PRINTED PARTS USE -/
theorem cs_0 : (0, 0) ∈ c_so := by decide
theorem cs_1 : (1, 1) ∈ c_so := by decide
theorem cs_2 : (2, 2) ∈ c_so := by decide
theorem cs_5 : (5, 4) ∈ c_so := by decide
theorem cs_7 : (7, 6) ∈ c_so := by decide
theorem cs_12 : (12, 7) ∈ c_so := by decide
theorem cs_23 : (23, 9) ∈ c_so := by decide
theorem cs_32 : (32, 10) ∈ c_so := by decide
theorem ct_3 {K : Nat} : cTl K (.s 3) := by show 3 ∈ c_st; decide
theorem ct_8 {K : Nat} : cTl K (.s 8) := by show 8 ∈ c_st; decide
theorem ct_10 {K : Nat} : cTl K (.s 10) := by show 10 ∈ c_st; decide
theorem ct_14 {K : Nat} : cTl K (.s 14) := by show 14 ∈ c_st; decide
theorem ct_16 {K : Nat} : cTl K (.s 16) := by show 16 ∈ c_st; decide
theorem ct_24 {K : Nat} : cTl K (.s 24) := by show 24 ∈ c_st; decide
theorem ct_26 {K : Nat} : cTl K (.s 26) := by show 26 ∈ c_st; decide
theorem ct_28 {K : Nat} : cTl K (.s 28) := by show 28 ∈ c_st; decide
theorem ct_30 {K : Nat} : cTl K (.s 30) := by show 30 ∈ c_st; decide
def cov (r : Option Int32) : Option (Option Value) := r.map (fun v => some (.int v))
def cow (r : Option Int32) : Option (Option Value) := r.map (fun _ => none)
theorem cov_some {v : Option Value} {r : Option Int32} (h : some v = cov r) : ∃ w, r = some w ∧ v = some (.int w) := by
  cases r with
  | none => cases h
  | some w => cases h; exact ⟨w, rfl, rfl⟩
theorem cow_some {v : Option Value} {r : Option Int32} (h : some v = cow r) : ∃ w, r = some w ∧ v = none := by
  cases r with
  | none => cases h
  | some w => cases h; exact ⟨w, rfl, rfl⟩
theorem cov_none {r : Option Int32} (h : none = cov r) : r = none := by
  cases r with
  | none => rfl
  | some w => cases h
theorem cow_none {r : Option Int32} (h : none = cow r) : r = none := by
  cases r with
  | none => rfl
  | some w => cases h
/-- behind a call that may throw -/
def cbd (r : cS × Option Int32) (f : cS → Int32 → cS × Option Int32) : cS × Option Int32 := match r.2 with
  | none => r
  | some w => f r.1 w
theorem cbd_none {r : cS × Option Int32} {f : cS → Int32 → cS × Option Int32} (h : r.2 = none) : cbd r f = r := by unfold cbd; rw [h]
theorem cbd_some {r : cS × Option Int32} {f : cS → Int32 → cS × Option Int32} {w : Int32} (h : r.2 = some w) : cbd r f = f r.1 w := by unfold cbd; rw [h]
/-- behind a call that may throw or has no end yet -/
def rbd (r : Option (cS × Option Int32)) (f : cS → Int32 → Option (cS × Option Int32)) : Option (cS × Option Int32) := match r with
  | none => none
  | some (s, none) => some (s, none)
  | some (s, some w) => f s w
theorem rbd_thn {r : cS × Option Int32} {f : cS → Int32 → Option (cS × Option Int32)} (h : r.2 = none) : rbd (some r) f = some (r.1, none) := by
  obtain ⟨s, o⟩ := r
  cases h
  rfl
theorem rbd_th {r : cS × Option Int32} {f : cS → Int32 → Option (cS × Option Int32)} {w : Int32} (h : r.2 = some w) : rbd (some r) f = f r.1 w := by
  obtain ⟨s, o⟩ := r
  cases h
  rfl
theorem rbd_n {r : Option (cS × Option Int32)} {f : cS → Int32 → Option (cS × Option Int32)} {s : cS} (h : r = some (s, none)) : rbd r f = some (s, none) := by rw [h]; rfl
theorem rbd_s {r : Option (cS × Option Int32)} {f : cS → Int32 → Option (cS × Option Int32)} {s : cS} {w : Int32} (h : r = some (s, some w)) : rbd r f = f s w := by rw [h]; rfl
/-- more bodies, those that were there stay -/
def cX (A : Nat → Nat) (K : Nat) (A' : Nat → Nat) (K' : Nat) : Prop := K ≤ K' ∧ ∀ x, x ≤ K → A' x = A x
theorem cX.rfl {A : Nat → Nat} {K : Nat} : cX A K A K := ⟨Nat.le_refl _, fun _ _ => Eq.refl _⟩
theorem cX.trans {A A1 A2 : Nat → Nat} {K K1 K2 : Nat} (h : cX A K A1 K1) (h' : cX A1 K1 A2 K2) : cX A K A2 K2 := ⟨Nat.le_trans h.1 h'.1, fun x hx => (h'.2 x (Nat.le_trans hx h.1)).trans (h.2 x hx)⟩
def CX (A : Nat → Nat) (K : Nat) (S : am_S) (s : cS) : Prop := ∃ A' K', cX A K A' K' ∧ CM A' K' S s
theorem lc79 {sc : Nat × (Nat → Int32)} {N d : Nat} {A : Nat → Nat} {K : Nat} {S : am_S} {s : cS} (hS : CM A K S s) : am_L (am_PP sc) N d 79 0 [some (.ref 12)] [] S (fun o S1 => o = some (some (.ref (A s.now))) ∧ CM A K S1 s) := by
  refine l2 (v := 12) hi_79_0 rfl ?_
  refine l20s (v := .ref (A s.now)) hS cs_12 hi_79_1 rfl ?_
  exact l34 hi_79_4 ⟨rfl, hS⟩
