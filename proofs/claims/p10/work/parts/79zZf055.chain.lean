/-! GOALS THAT TAKE THE CHAIN IN HAND -/
theorem mj_e_8 {f : Nat → Int32} {g : Nat → Nat → Int32} {gs : List mg_E} {bc : List (List Nat)} {fl : List Nat} {fk : Int} {pj : List Nat} {k on tw th : Int} (hR : RJ f g gs bc fl fk pj) (h8 : k = 8) (hk : tw = fk) (h0 : 0 ≤ on) (hj : on.toNat ∈ pj) : mj_e (f 68) (g 71) (mj_all gs bc fl) (k, on, tw, th, fl) := by
  subst h8
  have hc := hR.ck
  obtain ⟨-, -, -, -, -, -, -, -, -, -, -, -, j13⟩ := hR
  have q := j13 _ hj
  refine ⟨?_, fun _ => ⟨h0, by show on < _; omega, q.2⟩, fun q => ?_⟩
  · show if (8 : Int) = 7 ∨ (8 : Int) = 9 then mj_c (g 71) fl on else if (8 : Int) = 8 then mj_c (g 71) fl tw else fl = []
    rw [if_neg (by decide), if_pos rfl, hk]
    exact hc
  · have q' : (8 : Int) = 13 ∨ (8 : Int) = 15 := q
    omega
theorem mj_e_79c {f : Nat → Int32} {g : Nat → Nat → Int32} {gs : List mg_E} {bc : List (List Nat)} {fl : List Nat} {fk : Int} {pj : List Nat} {k on tw th : Int} (hR : RJ f g gs bc fl fk pj) (h : k = 7 ∨ k = 9) (hk : on = fk) : mj_e (f 68) (g 71) (mj_all gs bc fl) (k, on, tw, th, fl) := by
  have hc := hR.ck
  refine ⟨?_, fun q => ?_, fun q => ?_⟩
  · show if k = 7 ∨ k = 9 then mj_c (g 71) fl on else if k = 8 then mj_c (g 71) fl tw else fl = []
    rw [if_pos h, hk]
    exact hc
  · have q' : k = 4 ∨ k = 8 ∨ k = 26 := q
    omega
  · have q' : k = 13 ∨ k = 15 := q
    omega
/-- a block is there -/
theorem RJ.bcons {f : Nat → Int32} {g : Nat → Nat → Int32} {gs : List mg_E} {bc : List (List Nat)} {fl : List Nat} {fk : Int} {pj : List Nat} (hR : RJ f g gs bc fl fk pj) (h : 1 ≤ (f 37).toInt) : ∃ c bc1, bc = c :: bc1 := by
  obtain ⟨-, -, -, -, j5, -⟩ := hR
  cases bc with
  | nil =>
    have := j5.1
    simp only [List.length_nil] at this
    omega
  | cons c r => exact ⟨c, r, rfl⟩
