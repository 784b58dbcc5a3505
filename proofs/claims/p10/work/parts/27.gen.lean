/-! COMPARISONS, SWITCHES, INSTRUCTIONS AS DATA (as in p1), and rules for calls without a throw -/
def am_cI (k : Nat) (m n : Int) : Prop := match k with
  | 0 => m = n
  | 1 => ¬ m = n
  | 2 => m < n
  | 3 => n ≤ m
  | 4 => n < m
  | _ => m ≤ n
theorem am_cT {k : Nat} {x y : Int32} {m n : Int} (hx : x.toInt = m) (hy : y.toInt = n) (h : am_cI k m n) : am_cmp k x y = true := by
  subst hx hy
  rw [am_cmp_int]
  unfold am_cI at h
  split at h <;> simp only [decide_eq_true_eq] <;> exact h
theorem am_cF {k : Nat} {x y : Int32} {m n : Int} (hx : x.toInt = m) (hy : y.toInt = n) (h : ¬ am_cI k m n) : am_cmp k x y = false := by
  subst hx hy
  rw [am_cmp_int]
  unfold am_cI at h
  split at h <;> simp only [decide_eq_false_iff_not] <;> exact h
theorem am_swO {tab : List (Int32 × Nat)} {b : Nat} {v : Int32} {lo hi : Int} (h : tab.all (fun q => decide (lo ≤ q.1.toInt ∧ q.1.toInt ≤ hi)) = true) (hv : v.toInt < lo ∨ hi < v.toInt) : am_sw tab b v = b := by
  induction tab with
  | nil => rfl
  | cons q r ih =>
    obtain ⟨k, t⟩ := q
    simp only [List.all_cons, Bool.and_eq_true, decide_eq_true_eq] at h
    have hne : ¬ v = k := fun e => by subst e; omega
    rw [am_sw, if_neg hne]
    exact ih h.2
theorem am_q22 {P : am_P} {d M pc : Nat} {ls : am_V} {st : List Value} {S S' : am_S} {o : Option (Option Value)} {a b c nx : Nat} {x : Int32} {tab : List (Int32 × Nat)} {k : Nat} {S1 : am_S} (hi : P.1 M pc = some (22, a, b, c, x, nx, tab)) (hk : S.1.length = k) (hS : (S.1 ++ [.inr (.inr (a, P.2.1 a))], S.2.1 + 1, S.2.2 + (P.2.1 a).length) = S1) (kk : am_R P d M nx ls (.ref k :: st) S1 o S') : am_R P d M pc ls st S o S' := am_R.go hi (by decide) (by simp only [am_do]; rw [hk, hS]) kk
def am_tb : List (Int32 × Nat) → List (Int32 × Nat) → Bool
  | [], [] => true
  | (a, b) :: r, (c, d) :: q => decide (a = c) && Nat.beq b d && am_tb r q
  | _, _ => false
theorem am_tb_ok : ∀ r q, am_tb r q = true → r = q := by
  intro r
  induction r with
  | nil => intro q h; cases q with
    | nil => rfl
    | cons x q => cases h
  | cons x r ih =>
    intro q h
    obtain ⟨a, b⟩ := x
    cases q with
    | nil => cases h
    | cons y q =>
      obtain ⟨c, d⟩ := y
      simp only [am_tb, Bool.and_eq_true, decide_eq_true_eq] at h
      obtain ⟨⟨h1, h2⟩, h3⟩ := h
      rw [h1, Nat.eq_of_beq_eq_true h2, ih q h3]
def am_eI (i j : am_I) : Bool := Nat.beq i.1 j.1 && Nat.beq i.2.1 j.2.1 && Nat.beq i.2.2.1 j.2.2.1 && Nat.beq i.2.2.2.1 j.2.2.2.1 && decide (i.2.2.2.2.1 = j.2.2.2.2.1) && Nat.beq i.2.2.2.2.2.1 j.2.2.2.2.2.1 && am_tb i.2.2.2.2.2.2 j.2.2.2.2.2.2
def am_eM (M pc : Nat) (i : am_I) : Bool := match am_P0.1 M pc with
  | some j => am_eI j i
  | none => false
theorem am_h {sc : Nat × (Nat → Int32)} {M pc : Nat} {i : am_I} (h : am_eM M pc i = true) : (am_PP sc).1 M pc = some i := by
  unfold am_eM at h
  show am_P0.1 M pc = some i
  cases hq : am_P0.1 M pc with
  | none => rw [hq] at h; cases h
  | some j =>
    rw [hq] at h
    obtain ⟨a1, a2, a3, a4, a5, a6, a7⟩ := i
    obtain ⟨b1, b2, b3, b4, b5, b6, b7⟩ := j
    simp only [am_eI, Bool.and_eq_true, decide_eq_true_eq] at h
    obtain ⟨⟨⟨⟨⟨⟨h1, h2⟩, h3⟩, h4⟩, h5⟩, h6⟩, h7⟩ := h
    rw [Nat.eq_of_beq_eq_true h1, Nat.eq_of_beq_eq_true h2, Nat.eq_of_beq_eq_true h3, Nat.eq_of_beq_eq_true h4, h5, Nat.eq_of_beq_eq_true h6, am_tb_ok _ _ h7]
def am_oS (r : Option (Option (Option Value) × am_S)) : am_S := match r with
  | some q => q.2
  | none => ([], 0, 0)
theorem am_oS_R {P : am_P} {n d M pc : Nat} {ls : am_V} {st : List Value} {S : am_S} {o : Option (Option Value)} (h : (am_run P n d M pc ls st S).map (fun q => q.1) = some o) : am_R P d M pc ls st S o (am_oS (am_run P n d M pc ls st S)) := by
  refine ⟨n, ?_⟩
  cases hr : am_run P n d M pc ls st S with
  | none => rw [hr] at h; cases h
  | some q =>
    rw [hr] at h
    obtain ⟨o', S'⟩ := q
    cases h
    rfl
theorem am_addI {x y : Int32} {m n : Int} (hx : x.toInt = m) (hy : y.toInt = n) (h1 : -2147483648 ≤ m + n) (h2 : m + n ≤ 2147483647) : ∃ z, am_bin 0 x y = z ∧ z.toInt = m + n := by
  subst hx hy
  refine ⟨x + y, rfl, ?_⟩
  rw [Int32.toInt_add]
  exact Int.bmod_eq_of_le (by omega) (by omega)
theorem am_subI {x y : Int32} {m n : Int} (hx : x.toInt = m) (hy : y.toInt = n) (h1 : -2147483648 ≤ m - n) (h2 : m - n ≤ 2147483647) : ∃ z, am_bin 1 x y = z ∧ z.toInt = m - n := by
  subst hx hy
  refine ⟨x - y, rfl, ?_⟩
  rw [Int32.toInt_sub]
  exact Int.bmod_eq_of_le (by omega) (by omega)
theorem am_mulI {x y : Int32} {m n : Int} (hx : x.toInt = m) (hy : y.toInt = n) (h1 : -2147483648 ≤ m * n) (h2 : m * n ≤ 2147483647) : ∃ z, am_bin 2 x y = z ∧ z.toInt = m * n := by
  subst hx hy
  refine ⟨x * y, rfl, ?_⟩
  rw [Int32.toInt_mul]
  exact Int.bmod_eq_of_le (by omega) (by omega)
theorem am_swI {tab : List (Int32 × Nat)} {b t : Nat} {v w : Int32} {n : Int} (ht : am_sw tab b w = t) (hn : w.toInt = n) (hv : v.toInt = n) : am_sw tab b v = t := by
  have e : v = w := Int32.toInt_inj.mp (by rw [hv, hn])
  rw [e]; exact ht
theorem am_swN {tab : List (Int32 × Nat)} {b : Nat} {v : Int32} (h : ∀ q ∈ tab, ¬ v.toInt = q.1.toInt) : am_sw tab b v = b := by
  induction tab with
  | nil => rfl
  | cons q r ih =>
    obtain ⟨k, t⟩ := q
    have hne : ¬ v = k := fun e => h (k, t) List.mem_cons_self (by rw [e])
    rw [am_sw, if_neg hne]
    exact ih fun q hq => h q (List.mem_cons_of_mem _ hq)
theorem upd_self {f : Nat → Int32} {j : Nat} : upd f j (f j) = f := by
  funext k
  unfold upd
  split
  · rename_i h; rw [h]
  · rfl
/-- an end by return alone -/
def am_N (R : Option Value → am_S → Prop) : Option (Option Value) → am_S → Prop := fun o S' => match o with
  | some v => R v S'
  | none => False
section AMN
variable {P : am_P} {d M pc : Nat} {ls : am_V} {st : List Value} {S : am_S} {Q : Option (Option Value) → am_S → Prop} {a b c nx : Nat} {x : Int32} {tab : List (Int32 × Nat)}
theorem am_e8 {v : Int32} {w : Nat} (hi : P.1 M pc = some (8, a, b, c, x, nx, tab)) (k : am_E P d M nx ls (.int v :: .ref w :: .int v :: .ref w :: st) S Q) : am_E P d M pc ls (.int v :: .ref w :: st) S Q := by
  obtain ⟨o, S', r, q⟩ := k
  exact ⟨o, S', am_R.go hi (by decide) rfl r, q⟩
/-- a call whose contract ends by return -/
theorem am_e32n {R : Option Value → am_S → Prop} {as rest : List Value} {la : am_V} (hi : P.1 M pc = some (32, a, b, c, x, nx, tab)) (hh : P.2.2.2.1 M pc = none) (hb : b ≤ st.length) (hb8 : st.length ≤ b + 8) (hm : b ≤ P.2.2.1 a) (has : (st.take b).reverse = as) (hr : am_recv c as S = true) (hla : am_in as (P.2.2.1 a) = la) (hrest : st.drop b = rest)
    (hc : am_E P d a 0 la [] S (am_N R)) (k : ∀ v S1, R v S1 → am_E P (d + 1) M nx ls (v.toList ++ rest) S1 Q) : am_E P (d + 1) M pc ls st S Q :=
  am_e32 hi hh hb hb8 hm has hr hla hrest hc k (fun _ h => h.elim)
/-- a call that is walked on the spot -/
theorem am_e32w {as rest : List Value} {la : am_V} (hi : P.1 M pc = some (32, a, b, c, x, nx, tab)) (hh : P.2.2.2.1 M pc = none) (hb : b ≤ st.length) (hb8 : st.length ≤ b + 8) (hm : b ≤ P.2.2.1 a) (has : (st.take b).reverse = as) (hr : am_recv c as S = true) (hla : am_in as (P.2.2.1 a) = la) (hrest : st.drop b = rest)
    (hc : am_E P d a 0 la [] S (am_N fun v S1 => am_E P (d + 1) M nx ls (v.toList ++ rest) S1 Q)) : am_E P (d + 1) M pc ls st S Q :=
  am_e32 hi hh hb hb8 hm has hr hla hrest hc (fun _ _ h => h) (fun _ h => h.elim)
end AMN
