/-! THE CONSTRUCTORS, RUN BY THE KERNEL; what lies in the heap behind them (printed by wip/p1/gen26.py) -/
def am_cI (k : Nat) (m n : Int) : Prop := match k with
  | 0 => m = n
  | 1 => ¬ m = n
  | 2 => m < n
  | 3 => n ≤ m
  | 4 => n < m
  | _ => m ≤ n
theorem am_cT {k : Nat} {x y : Int32} {m n : Int} (hx : x.toInt = m) (hy : y.toInt = n) (h : am_cI k m n) : am_cmp k x y = true := by
  subst hx hy
  rw [am_cmp_int]
  unfold am_cI at h
  split at h <;> simp only [decide_eq_true_eq] <;> exact h
theorem am_cF {k : Nat} {x y : Int32} {m n : Int} (hx : x.toInt = m) (hy : y.toInt = n) (h : ¬ am_cI k m n) : am_cmp k x y = false := by
  subst hx hy
  rw [am_cmp_int]
  unfold am_cI at h
  split at h <;> simp only [decide_eq_false_iff_not] <;> exact h
theorem am_swO {tab : List (Int32 × Nat)} {b : Nat} {v : Int32} {lo hi : Int} (h : tab.all (fun q => decide (lo ≤ q.1.toInt ∧ q.1.toInt ≤ hi)) = true) (hv : v.toInt < lo ∨ hi < v.toInt) : am_sw tab b v = b := by
  induction tab with
  | nil => rfl
  | cons q r ih =>
    obtain ⟨k, t⟩ := q
    simp only [List.all_cons, Bool.and_eq_true, decide_eq_true_eq] at h
    have hne : ¬ v = k := fun e => by subst e; omega
    rw [am_sw, if_neg hne]
    exact ih h.2
theorem am_q22 {P : am_P} {d M pc : Nat} {ls : am_V} {st : List Value} {S S' : am_S} {o : Option (Option Value)} {a b c nx : Nat} {x : Int32} {tab : List (Int32 × Nat)} {k : Nat} {S1 : am_S} (hi : P.1 M pc = some (22, a, b, c, x, nx, tab)) (hk : S.1.length = k) (hS : (S.1 ++ [.inr (.inr (a, P.2.1 a))], S.2.1 + 1, S.2.2 + (P.2.1 a).length) = S1) (kk : am_R P d M nx ls (.ref k :: st) S1 o S') : am_R P d M pc ls st S o S' := am_R.go hi (by decide) (by simp only [am_do]; rw [hk, hS]) kk
def am_tb : List (Int32 × Nat) → List (Int32 × Nat) → Bool
  | [], [] => true
  | (a, b) :: r, (c, d) :: q => decide (a = c) && Nat.beq b d && am_tb r q
  | _, _ => false
theorem am_tb_ok : ∀ r q, am_tb r q = true → r = q := by
  intro r
  induction r with
  | nil => intro q h; cases q with
    | nil => rfl
    | cons x q => cases h
  | cons x r ih =>
    intro q h
    obtain ⟨a, b⟩ := x
    cases q with
    | nil => cases h
    | cons y q =>
      obtain ⟨c, d⟩ := y
      simp only [am_tb, Bool.and_eq_true, decide_eq_true_eq] at h
      obtain ⟨⟨h1, h2⟩, h3⟩ := h
      rw [h1, Nat.eq_of_beq_eq_true h2, ih q h3]
def am_eI (i j : am_I) : Bool := Nat.beq i.1 j.1 && Nat.beq i.2.1 j.2.1 && Nat.beq i.2.2.1 j.2.2.1 && Nat.beq i.2.2.2.1 j.2.2.2.1 && decide (i.2.2.2.2.1 = j.2.2.2.2.1) && Nat.beq i.2.2.2.2.2.1 j.2.2.2.2.2.1 && am_tb i.2.2.2.2.2.2 j.2.2.2.2.2.2
def am_eM (M pc : Nat) (i : am_I) : Bool := match am_P0.1 M pc with
  | some j => am_eI j i
  | none => false
theorem am_h {sc : Nat × (Nat → Int32)} {M pc : Nat} {i : am_I} (h : am_eM M pc i = true) : (am_PP sc).1 M pc = some i := by
  unfold am_eM at h
  show am_P0.1 M pc = some i
  cases hq : am_P0.1 M pc with
  | none => rw [hq] at h; cases h
  | some j =>
    rw [hq] at h
    obtain ⟨a1, a2, a3, a4, a5, a6, a7⟩ := i
    obtain ⟨b1, b2, b3, b4, b5, b6, b7⟩ := j
    simp only [am_eI, Bool.and_eq_true, decide_eq_true_eq] at h
    obtain ⟨⟨⟨⟨⟨⟨h1, h2⟩, h3⟩, h4⟩, h5⟩, h6⟩, h7⟩ := h
    rw [Nat.eq_of_beq_eq_true h1, Nat.eq_of_beq_eq_true h2, Nat.eq_of_beq_eq_true h3, Nat.eq_of_beq_eq_true h4, h5, Nat.eq_of_beq_eq_true h6, am_tb_ok _ _ h7]
def am_oS (r : Option (Option (Option Value) × am_S)) : am_S := match r with
  | some q => q.2
  | none => ([], 0, 0)
theorem am_oS_R {P : am_P} {n d M pc : Nat} {ls : am_V} {st : List Value} {S : am_S} {o : Option (Option Value)} (h : (am_run P n d M pc ls st S).map (fun q => q.1) = some o) : am_R P d M pc ls st S o (am_oS (am_run P n d M pc ls st S)) := by
  refine ⟨n, ?_⟩
  cases hr : am_run P n d M pc ls st S with
  | none => rw [hr] at h; cases h
  | some q =>
    rw [hr] at h
    obtain ⟨o', S'⟩ := q
    cases h
    rfl
def am_z0 : am_S := ([.inr (.inr (0, am_nb 0))], 1, 6)
def am_S1 : am_S := am_oS (am_run am_X0 100000 59 0 0 [some (.ref 0), none] [] am_z0)
def am_z1 : am_S := (am_S1.1 ++ [.inr (.inr (11, am_nb 11))], am_S1.2.1 + 1, am_S1.2.2 + (am_nb 11).length)
def am_S2 : am_S := am_oS (am_run am_X0 100000 59 173 0 [some (.ref 39)] [] am_z1)
set_option maxRecDepth 100000 in
theorem am_new1 : (am_run am_X0 100000 59 0 0 [some (.ref 0), none] [] am_z0).map (fun q => q.1) = some (some none) ∧ am_S1.1.length = 39 := by decide +kernel
set_option maxRecDepth 100000 in
theorem am_new2 : (am_run am_X0 100000 59 173 0 [some (.ref 39)] [] am_z1).map (fun q => q.1) = some (some none) ∧ am_S2.2.1 = 94 ∧ am_S2.2.2 = 1291864 := by decide +kernel
/-- what the methods read of a new object -/
def am_F0 (S : am_S) : Prop := (am_arf S 35 0 = 45 ∧ am_arf S 35 1 = 0 ∧ am_arf S 35 2 = 0 ∧ am_arf S 35 3 = 0 ∧ am_arf S 75 0 = (-1) ∧ am_arf S 76 0 = 0 ∧ am_arf S 77 0 = 1 ∧ am_arf S 78 0 = 0 ∧ am_arf S 79 0 = 0 ∧ am_arf S 80 0 = (-1)) ∧ (am_arf S 81 0 = 1 ∧ am_arf S 82 0 = 0 ∧ am_arf S 87 0 = 0 ∧ am_arf S 89 0 = 45 ∧ am_arf S 90 0 = 0 ∧ am_arf S 91 0 = 0 ∧ am_arf S 92 0 = 0 ∧ am_arf S 93 0 = 0 ∧ am_rar S 38 = some 10 ∧ am_rrf S 38 0 = some 33) ∧ (am_fs S 0 = some (0, [.ref 1, .ref 2, .ref 5, .ref 7, .ref 32, .int 0]) ∧ am_fs S 2 = some (2, [.ref 1, .ref 3, .int 0, .int 0]) ∧ am_fs S 3 = some (3, [.ref 4, .int 0]) ∧ am_fs S 32 = some (10, [.ref 5]) ∧ am_fs S 33 = some (8, [.ref 34, .ref 36, .int 0, .int (-1), .int 0, .int 1, .int 0, .int 0, .int (-1), .int 0, .int 0, .int 0, .int 0]) ∧ am_fs S 34 = some (3, [.ref 35, .int 1]) ∧ am_fs S 36 = some (3, [.ref 37, .int 0]) ∧ am_fs S 39 = some (11, [.int 0, .ref 40, .ref 41, .int 0, .int 0, .int 0, .int 0, .int 0, .int 0, .int 0, .int 0, .ref 42, .ref 43, .ref 44, .ref 45, .int 0, .ref 46, .ref 47, .ref 48, .int 0, .int 0, .ref 49, .ref 50, .ref 51, .int 0, .ref 52, .ref 53, .ref 54, .ref 55, .ref 56, .ref 57, .int 0, .int 0, .ref 58, .ref 59, .ref 60, .ref 61, .int 0, .ref 62, .ref 63, .ref 64, .ref 65, .ref 66, .ref 67, .int 0, .ref 68, .ref 69, .ref 70, .int 0, .ref 71, .ref 72, .ref 73, .ref 74, .int 1, .ref 75, .ref 76, .ref 77, .ref 78, .ref 79, .ref 80, .ref 81, .ref 82, .int 0, .ref 83, .ref 84, .ref 85, .ref 86, .ref 87, .int 1, .ref 88, .ref 89, .ref 90, .ref 91, .ref 92, .ref 93, .int 0, .int 0]) ∧ am_fs S 5 = some (4, [.ref 6, .int 1]) ∧ am_fs S 6 = some (5, [.ref 38, .int 1, .int 1])) ∧ (am_arq S 35 = some (false, 32) ∧ am_arq S 4 = some (false, 32) ∧ am_arq S 40 = some (false, 16384) ∧ am_arq S 41 = some (false, 16384) ∧ am_arq S 75 = some (false, 4096) ∧ am_arq S 76 = some (false, 4096) ∧ am_arq S 77 = some (false, 4096) ∧ am_arq S 78 = some (false, 4096) ∧ am_arq S 79 = some (false, 4096) ∧ am_arq S 80 = some (false, 4096)) ∧ (am_arq S 81 = some (false, 4096) ∧ am_arq S 82 = some (false, 4097) ∧ am_arq S 87 = some (false, 4096) ∧ am_arq S 89 = some (false, 65536) ∧ am_arq S 90 = some (false, 65536) ∧ am_arq S 91 = some (false, 65536) ∧ am_arq S 92 = some (false, 65536) ∧ am_arq S 93 = some (false, 65536))
set_option maxRecDepth 100000 in
theorem am_F0_ok : am_F0 am_S2 := by
  refine ⟨?_, ?_, ?_, ?_, ?_⟩ <;> decide +kernel
def am_X_compile : am_S := am_oS (am_run am_X0 100000 59 38 0 [some (.ref 0), none] [] am_S2)
def am_Y_compile : am_S := am_oS (am_run am_X0 100000 59 175 0 [some (.ref 39), none] [] am_X_compile)
def am_v_compile : Int32 := match am_run am_X0 100000 59 38 0 [some (.ref 0), none] [] am_S2 with
  | some (some (some (.int v)), _) => v
  | _ => 0
set_option maxRecDepth 100000 in
theorem am_k_compile : (am_run am_X0 100000 59 38 0 [some (.ref 0), none] [] am_S2).map (fun q => q.1) = some (some (some (.int am_v_compile))) ∧ (am_run am_X0 100000 59 175 0 [some (.ref 39), none] [] am_X_compile).map (fun q => q.1) = some (some (some (.int am_v_compile))) ∧ (am_fs am_X_compile 39).map (fun q => q.1) = some 11 ∧ am_Y_compile.2.1 ≤ 60002 ∧ am_Y_compile.2.2 ≤ 8922232 := by decide +kernel
def am_X_place : am_S := am_oS (am_run am_X0 100000 59 156 0 [some (.ref 0)] [] am_S2)
def am_Y_place : am_S := am_oS (am_run am_X0 100000 59 267 0 [some (.ref 39)] [] am_X_place)
def am_v_place : Int32 := match am_run am_X0 100000 59 156 0 [some (.ref 0)] [] am_S2 with
  | some (some (some (.int v)), _) => v
  | _ => 0
set_option maxRecDepth 100000 in
theorem am_k_place : (am_run am_X0 100000 59 156 0 [some (.ref 0)] [] am_S2).map (fun q => q.1) = some (some (some (.int am_v_place))) ∧ (am_run am_X0 100000 59 267 0 [some (.ref 39)] [] am_X_place).map (fun q => q.1) = some (some (some (.int am_v_place))) ∧ (am_fs am_X_place 39).map (fun q => q.1) = some 11 ∧ am_Y_place.2.1 ≤ 60002 ∧ am_Y_place.2.2 ≤ 8922232 := by decide +kernel
def am_X_functions : am_S := am_oS (am_run am_X0 100000 59 157 0 [some (.ref 0)] [] am_S2)
def am_Y_functions : am_S := am_oS (am_run am_X0 100000 59 268 0 [some (.ref 39)] [] am_X_functions)
def am_v_functions : Int32 := match am_run am_X0 100000 59 157 0 [some (.ref 0)] [] am_S2 with
  | some (some (some (.int v)), _) => v
  | _ => 0
set_option maxRecDepth 100000 in
theorem am_k_functions : (am_run am_X0 100000 59 157 0 [some (.ref 0)] [] am_S2).map (fun q => q.1) = some (some (some (.int am_v_functions))) ∧ (am_run am_X0 100000 59 268 0 [some (.ref 39)] [] am_X_functions).map (fun q => q.1) = some (some (some (.int am_v_functions))) ∧ (am_fs am_X_functions 39).map (fun q => q.1) = some 11 ∧ am_Y_functions.2.1 ≤ 60002 ∧ am_Y_functions.2.2 ≤ 8922232 := by decide +kernel
def am_X_flaws : am_S := am_oS (am_run am_X0 100000 59 166 0 [some (.ref 0)] [] am_S2)
def am_Y_flaws : am_S := am_oS (am_run am_X0 100000 59 275 0 [some (.ref 39), none, none, none, none, none, none, none] [] am_X_flaws)
def am_v_flaws : Int32 := match am_run am_X0 100000 59 166 0 [some (.ref 0)] [] am_S2 with
  | some (some (some (.int v)), _) => v
  | _ => 0
set_option maxRecDepth 100000 in
theorem am_k_flaws : (am_run am_X0 100000 59 166 0 [some (.ref 0)] [] am_S2).map (fun q => q.1) = some (some (some (.int am_v_flaws))) ∧ (am_run am_X0 100000 59 275 0 [some (.ref 39), none, none, none, none, none, none, none] [] am_X_flaws).map (fun q => q.1) = some (some (some (.int am_v_flaws))) ∧ (am_fs am_X_flaws 39).map (fun q => q.1) = some 11 ∧ am_Y_flaws.2.1 ≤ 60002 ∧ am_Y_flaws.2.2 ≤ 8922232 := by decide +kernel
