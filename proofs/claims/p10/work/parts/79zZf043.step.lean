/-! ROWS FOR THE STEPS -/
theorem mg_cast {ba bl ww : Nat → Int32} {gs : List mg_E} {V W B D L V' W' B' D' L' : Int} (h : mg_good ba bl ww gs V W B D L) (h1 : V = V') (h2 : W = W') (h3 : B = B') (h4 : D = D') (h5 : L = L') : mg_good ba bl ww gs V' W' B' D' L' := by
  subst h1 h2 h3 h4 h5
  exact h
theorem mj_e_plain {size : Int32} {a : Nat → Int32} {al : List Nat} {k on tw th : Int} (h : ¬ k = 7 ∧ ¬ k = 9 ∧ ¬ k = 8 ∧ ¬ k = 4 ∧ ¬ k = 26 ∧ ¬ k = 13 ∧ ¬ k = 15) : mj_e size a al (k, on, tw, th, []) := by
  obtain ⟨h7, h9, h8, h4, h26, h13, h15⟩ := h
  refine ⟨?_, fun q => ?_, fun q => ?_⟩
  · show if k = 7 ∨ k = 9 then mj_c a [] on else if k = 8 then mj_c a [] tw else ([] : List Nat) = []
    rw [if_neg (by omega), if_neg h8]
  · have q' : k = 4 ∨ k = 8 ∨ k = 26 := q
    omega
  · have q' : k = 13 ∨ k = 15 := q
    omega
theorem mj_e_79 {size : Int32} {a : Nat → Int32} {al : List Nat} {k on tw th : Int} (h : k = 7 ∨ k = 9) (h0 : on = 0) : mj_e size a al (k, on, tw, th, []) := by
  refine ⟨?_, fun q => ?_, fun q => ?_⟩
  · show if k = 7 ∨ k = 9 then mj_c a [] on else if k = 8 then mj_c a [] tw else ([] : List Nat) = []
    rw [if_pos h]
    exact h0
  · have q' : k = 4 ∨ k = 8 ∨ k = 26 := q
    omega
  · have q' : k = 13 ∨ k = 15 := q
    omega
theorem mj_e_j {f : Nat → Int32} {g : Nat → Nat → Int32} {gs : List mg_E} {bc : List (List Nat)} {fl : List Nat} {fk : Int} {pj : List Nat} {k on tw th : Int} (hR : RJ f g gs bc fl fk pj) (h : k = 4 ∨ k = 26) (h0 : 0 ≤ on) (hj : on.toNat ∈ pj) : mj_e (f 68) (g 71) (mj_all gs bc fl) (k, on, tw, th, []) := by
  obtain ⟨-, -, -, -, -, -, -, -, -, -, -, -, j13⟩ := hR
  have q := j13 _ hj
  refine ⟨?_, fun _ => ⟨h0, by show on < _; omega, q.2⟩, fun q => ?_⟩
  · show if k = 7 ∨ k = 9 then mj_c (g 71) [] on else if k = 8 then mj_c (g 71) [] tw else ([] : List Nat) = []
    rw [if_neg (by omega), if_neg (by omega)]
  · have q' : k = 13 ∨ k = 15 := q
    omega
theorem mj_e_b {size : Int32} {a : Nat → Int32} {al : List Nat} {k on tw th : Int} (h : k = 13 ∨ k = 15) (h0 : 0 ≤ on) (h1 : on < size.toInt) : mj_e size a al (k, on, tw, th, []) := by
  refine ⟨?_, fun q => ?_, fun _ => ⟨h0, h1⟩⟩
  · show if k = 7 ∨ k = 9 then mj_c a [] on else if k = 8 then mj_c a [] tw else ([] : List Nat) = []
    rw [if_neg (by omega), if_neg (by omega)]
  · have q' : k = 4 ∨ k = 8 ∨ k = 26 := q
    omega
section STP
variable {f : Nat → Int32} {g : Nat → Nat → Int32} {gs : List mg_E} {bc : List (List Nat)} {fl : List Nat} {fk : Int} {pj : List Nat}
theorem RJ.pjn (h : RJ f g gs bc fl fk pj) {j : Nat} (hj : j ∈ pj) : j ∉ mj_all gs bc fl := by
  obtain ⟨-, -, -, -, -, -, -, -, -, -, -, -, j13⟩ := h
  exact (j13 j hj).2
theorem RJ.ck (h : RJ f g gs bc fl fk pj) : mj_c (g 71) fl fk := by
  obtain ⟨-, -, -, -, -, -, -, -, -, -, -, j12, -⟩ := h
  exact j12
theorem rj_pile0 {z go on tw th : Int32} (h : RJ f g gs bc fl fk pj) (hz : z.toInt = (f 10).toInt + 1) (he : mj_e (f 68) (g 71) (mj_all gs bc fl) (go.toInt, on.toInt, tw.toInt, th.toInt, [])) :
    RJ (upd f 10 z) (upg (upg (upg (upg g 11 (f 10).toNatClampNeg go) 12 (f 10).toNatClampNeg on) 13 (f 10).toNatClampNeg tw) 14 (f 10).toNatClampNeg th) ((go.toInt, on.toInt, tw.toInt, th.toInt, []) :: gs) bc fl fk pj :=
  rj_pile (c := []) h hz (Or.inl rfl) ⟨fk, h.ck⟩ he fk h.ck
theorem rj_pile1 {z go on tw th : Int32} (h : RJ f g gs bc fl fk pj) (hz : z.toInt = (f 10).toInt + 1) (he : mj_e (f 68) (g 71) (mj_all gs bc fl) (go.toInt, on.toInt, tw.toInt, th.toInt, fl)) :
    RJ (upd f 10 z) (upg (upg (upg (upg g 11 (f 10).toNatClampNeg go) 12 (f 10).toNatClampNeg on) 13 (f 10).toNatClampNeg tw) 14 (f 10).toNatClampNeg th) ((go.toInt, on.toInt, tw.toInt, th.toInt, fl) :: gs) bc [] 0 pj :=
  rj_pile (c := fl) (fl := []) (fk := fk) (by rw [List.append_nil]; exact h) hz (Or.inr rfl) ⟨0, rfl⟩ (by rw [List.append_nil]; exact he) 0 rfl
end STP
theorem rj_clear0 {f : Nat → Int32} {g : Nat → Nat → Int32} {gs : List mg_E} {bc : List (List Nat)} {fl : List Nat} {fk : Int} {pj : List Nat} (h : RJ f g gs bc fl fk pj) : RJ (upd f 10 0) g [] bc [] 0 [] := (rj_clear h).fewer (fun _ h => nomatch h)
/-- the end of a step that went on -/
def mg_on (f : Nat → Int32) (m : Int) (f' : Nat → Int32) (g' : Nat → Nat → Int32) (gs' : List mg_E) (bc' : List (List Nat)) : Prop := BI f' g' gs' bc' ∧ f' 0 = f 0 ∧ 100 * ((f 0).toInt - (f' 4).toInt) + mg_p3 gs' < m
/-- the end of a step that failed: no goal is left -/
def mg_off (f f' : Nat → Int32) (g' : Nat → Nat → Int32) (bc' : List (List Nat)) : Prop := RJ f' g' [] bc' [] 0 [] ∧ f' 0 = f 0 ∧ 0 ≤ (f' 4).toInt ∧ (f' 4).toInt ≤ (f 0).toInt ∧ 0 ≤ (f' 32).toInt ∧ (f' 32).toInt ≤ 63 ∧ 1 ≤ (f' 53).toInt ∧ (f' 53).toInt ≤ 600 ∧ 0 ≤ (f' 68).toInt ∧ (f' 68).toInt ≤ 60000 ∧ 0 ≤ (f' 48).toInt ∧ (f' 48).toInt ≤ 8000 ∧ 0 ≤ (f' 37).toInt ∧ (f' 37).toInt ≤ 128 ∧ 0 ≤ (f' 62).toInt ∧ (f' 62).toInt ≤ 65000 ∧ 0 ≤ (f' 19).toInt ∧ (f' 19).toInt ≤ 600 ∧ 0 ≤ (f' 6).toInt ∧ 0 ≤ (f' 8).toInt
theorem am_swD {b : Nat} {v : Int32} : ∀ {tab : List (Int32 × Nat)} {ks : List Int}, (tab.filter (fun q => !(Nat.beq q.2 b))).map (fun q => q.1.toInt) = ks → (∀ k ∈ ks, ¬ v.toInt = k) → am_sw tab b v = b := by
  intro tab
  induction tab with
  | nil => intro ks _ _; rfl
  | cons q r ih =>
    obtain ⟨k, t⟩ := q
    intro ks hk h
    rw [am_sw]
    by_cases e : v = k
    · rw [if_pos e]
      by_cases e2 : Nat.beq t b = true
      · exact Nat.eq_of_beq_eq_true e2
      · exfalso
        refine h k.toInt ?_ (by rw [e])
        rw [← hk]
        refine List.mem_map.mpr ⟨(k, t), List.mem_filter.mpr ⟨List.mem_cons_self, ?_⟩, rfl⟩
        simp only [Bool.not_eq_true] at e2
        simp only [e2, Bool.not_false]
    · rw [if_neg e]
      refine ih rfl fun x hx => h x ?_
      rw [← hk, List.filter_cons]
      split
      · exact List.mem_cons_of_mem _ hx
      · exact hx
theorem mg_b_le (k : Nat) : mg_b k ≤ 2 := by
  unfold mg_b
  split <;> first | decide | (split <;> decide)
theorem mg_v_nn (k : Nat) : 0 ≤ mg_v k := by
  unfold mg_v
  split <;> decide
theorem mg_basic {ba bl ww : Nat → Int32} {gs : List mg_E} {V W B D L : Int} (h : mg_good ba bl ww gs V W B D L) : 0 ≤ V ∧ 0 ≤ W ∧ 1 ≤ B ∧ 0 ≤ D ∧ D ≤ L ∧ L ≤ 48 ∧ B ≤ 2 * L + 2 := by
  cases gs with
  | nil => exact h
  | cons e r =>
    obtain ⟨⟨a0, a1, a2, a3, a4, a5, a6, a7, a8⟩, -⟩ := h
    have h1 := mg_b_le e.1.toNat
    have h2 := mg_v_nn e.1.toNat
    exact ⟨by omega, a2, a3, a4, a5, a6, by omega⟩
