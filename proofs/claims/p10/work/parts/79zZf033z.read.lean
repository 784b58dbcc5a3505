/-! WHAT IS READ OF BLOCKS AND FUNCTIONS -/
section RJR
variable {f : Nat → Int32} {g : Nat → Nat → Int32} {gs : List mg_E} {bc : List (List Nat)} {fl : List Nat} {fk : Int} {pj : List Nat}
theorem RJ.bg (h : RJ f g gs bc fl fk pj) {i : Int32} (h0 : 0 ≤ i.toInt) (h1 : i.toInt < (f 37).toInt) : 0 ≤ (g 40 i.toNatClampNeg).toInt ∧ (g 40 i.toNatClampNeg).toInt ≤ (f 4).toInt := by
  obtain ⟨-, -, j3, -, -, ⟨gm, a1, a2, a3, a4, a5⟩, -⟩ := h
  exact ⟨(j3 _).2.2.2.2.2.2.1, Int.le_trans (a4 i.toNatClampNeg (by rw [cl_toNat]; omega)).1 a2⟩
theorem RJ.bb (h : RJ f g gs bc fl fk pj) {i : Int32} (h0 : 0 ≤ i.toInt) (h1 : i.toInt < (f 37).toInt) : 0 ≤ (g 39 i.toNatClampNeg).toInt ∧ (g 39 i.toNatClampNeg).toInt ≤ (f 4).toInt := by
  obtain ⟨-, -, j3, -, -, ⟨gm, a1, a2, a3, a4, a5⟩, -⟩ := h
  exact ⟨(j3 _).2.2.2.2.2.1, (a4 i.toNatClampNeg (by rw [cl_toNat]; omega)).2⟩
theorem RJ.bl (h : RJ f g gs bc fl fk pj) {i : Int32} (h0 : 0 ≤ i.toInt) (h1 : i.toInt < (f 37).toInt) : 0 ≤ (g 38 i.toNatClampNeg).toInt ∧ (g 38 i.toNatClampNeg).toInt ≤ (f 24).toInt := by
  obtain ⟨-, -, j3, -, j5, -⟩ := h
  exact ⟨(j3 _).2.2.2.2.1, (j5.2 i.toNatClampNeg (by rw [cl_toNat]; omega)).1⟩
theorem RJ.ba (h : RJ f g gs bc fl fk pj) (k : Nat) : 0 ≤ (g 34 k).toInt := (h.2.2.1 k).2.1
theorem RJ.fl_ (h : RJ f g gs bc fl fk pj) (k : Nat) : 0 ≤ (g 35 k).toInt := (h.2.2.1 k).2.2.1
theorem RJ.bg0 (h : RJ f g gs bc fl fk pj) (k : Nat) : 0 ≤ (g 40 k).toInt := (h.2.2.1 k).2.2.2.2.2.2.1
theorem RJ.gc (h : RJ f g gs bc fl fk pj) (k : Nat) : 0 ≤ (g 51 k).toInt ∧ (g 51 k).toInt < 65535 := (h.2.2.1 k).2.2.2.2.2.2.2
theorem RJ.fg (h : RJ f g gs bc fl fk pj) {i : Int32} (h0 : 0 ≤ i.toInt) (h1 : i.toInt ≤ (f 32).toInt) : 0 ≤ (g 36 i.toNatClampNeg).toInt ∧ (g 36 i.toNatClampNeg).toInt ≤ (f 4).toInt := by
  obtain ⟨-, -, j3, -, -, ⟨gm, a1, a2, a3, a4, a5⟩, -⟩ := h
  exact ⟨(j3 _).2.2.2.1, Int.le_trans (a3 i.toNatClampNeg (by rw [cl_toNat]; omega)) a2⟩
/-- the gotos of a function that found no label are let go -/
theorem rj_lost {i v : Int32} (h : RJ f g gs bc fl fk pj) (h0 : 0 ≤ i.toInt) (h1 : i.toInt ≤ (f 32).toInt) (hv : v = g 36 i.toNatClampNeg) : RJ (upd f 48 v) g gs bc fl fk pj := by
  obtain ⟨j1, j2, j3, j4, j5, ⟨gm, a1, a2, a3, a4, a5⟩, j7⟩ := h
  exact ⟨j1, j2, j3, j4, j5, ⟨gm, by subst hv; exact a3 i.toNatClampNeg (by rw [cl_toNat]; omega), a2, a3, a4, a5⟩, j7⟩
/-- a goto's row is copied down -/
theorem rj_gcopy {i k : Nat} (h : RJ f g gs bc fl fk pj) (hk : (k : Int) < (f 48).toInt) : RJ f (upg g 51 i (g 51 k)) gs bc fl fk pj := by
  obtain ⟨j1, j2, j3, j4, j5, ⟨gm, a1, a2, a3, a4, a5⟩, j7⟩ := h
  refine ⟨j1, j2, fun u => ?_, j4, j5, ⟨gm, a1, a2, a3, a4, fun u hu => ?_⟩, j7⟩
  · have q := j3 u
    refine ⟨q.1, q.2.1, q.2.2.1, q.2.2.2.1, q.2.2.2.2.1, q.2.2.2.2.2.1, q.2.2.2.2.2.2.1, ?_⟩
    show 0 ≤ (upd (g 51) i (g 51 k) u).toInt ∧ (upd (g 51) i (g 51 k) u).toInt < 65535
    unfold upd; split
    · exact (j3 k).2.2.2.2.2.2.2
    · exact q.2.2.2.2.2.2.2
  · show (upd (g 51) i (g 51 k) u).toInt + 1 < (f 68).toInt ∧ (upd (g 51) i (g 51 k) u).toInt.toNat ∉ mj_all gs bc fl ∧ (upd (g 51) i (g 51 k) u).toInt.toNat + 1 ∉ mj_all gs bc fl
    by_cases e : u = i
    · rw [e, upd_eq]; exact a5 k (by omega)
    · rw [upd_ne e]; exact a5 u hu
/-- the gotos that are left -/
theorem rj_gotos {v : Int32} {b : Nat} (h : RJ f g gs bc fl fk pj) (hb : (b : Int) < (f 37).toInt) (hv : v.toInt ≤ (f 48).toInt ∨ v.toInt ≤ (g 40 b).toInt) : RJ (upd f 48 v) g gs bc fl fk pj := by
  obtain ⟨j1, j2, j3, j4, j5, ⟨gm, a1, a2, a3, a4, a5⟩, j7⟩ := h
  refine ⟨j1, j2, j3, j4, j5, ⟨gm, ?_, a2, a3, a4, a5⟩, j7⟩
  have := (a4 b hb).1
  show v.toInt ≤ gm
  omega
theorem RJ.go (h : RJ f g gs bc fl fk pj) {i : Nat} (hi : (i : Int) < (f 48).toInt) : (g 51 i).toInt + 1 < (f 68).toInt ∧ (g 51 i).toInt.toNat ∉ mj_all gs bc fl ∧ (g 51 i).toInt.toNat + 1 ∉ mj_all gs bc fl := by
  obtain ⟨-, -, -, -, -, ⟨gm, a1, a2, a3, a4, a5⟩, -⟩ := h
  exact a5 i (by omega)
/-- hidden locals go with their loop -/
theorem rj_locals {v : Int32} (h : RJ f g gs bc fl fk pj) (hv : ∀ b : Nat, (b : Int) < (f 37).toInt → (g 38 b).toInt ≤ v.toInt) : RJ (upd f 24 v) g gs bc fl fk pj := by
  obtain ⟨j1, j2, j3, j4, j5, j6⟩ := h
  exact ⟨j1, j2, j3, j4, ⟨j5.1, fun b hb => ⟨hv b hb, (j5.2 b hb).2⟩⟩, j6⟩
end RJR
