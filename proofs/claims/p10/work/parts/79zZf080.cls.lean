/-! THE CLASS: what its cells are -/
abbrev c_F : Type := Nat → Option (Nat × List Value)
abbrev c_A : Type := Nat → Option (Bool × Nat)
abbrev c_R : Type := Nat → Option Nat
abbrev c_G : Type := Nat → Nat → Option Nat
def cl (F : c_F) (k : Nat) : Option Nat := (F k).map Prod.fst
/-- kinds of fields: 0 a number, 1 a truth, 2 the cells of a table, 3 the array of a list, 4 a small number, 13 a table of a body, 18 a body, 100 + a the object a itself -/
def c_ty (c : Nat) : List Nat := match c with
  | 0 => [101, 102, 105, 107, 132, 0]
  | 1 => [0, 0]
  | 2 => [101, 103, 0, 0]
  | 3 => [2, 0]
  | 4 => [106, 0]
  | 5 => [3, 0, 0]
  | 6 => [102, 101, 112, 108, 110, 1, 0, 0]
  | 7 => [123, 101, 105, 113, 114, 116, 18, 0, 0, 1]
  | 8 => [13, 13, 0, 0, 0, 0, 0, 0, 0, 4, 0, 0, 0]
  | 9 => [101, 124, 126, 128, 130]
  | 10 => [105]
  | _ => []
/-- tables that are bodies' own -/
def c_bt (k : Nat) : Prop := k = 19 ∨ k = 21 ∨ k = 34 ∨ k = 36 ∨ 94 ≤ k
def c_v (F : c_F) (A : c_A) (R : c_R) (t : Nat) (v : Value) : Prop := match t with
  | 0 => ∃ x, v = .int x
  | 1 => v = .int 0 ∨ v = .int 1
  | 2 => ∃ a n, v = .ref a ∧ A a = some (false, n) ∧ (a < 39 ∨ 94 ≤ a)
  | 3 => v = .long 0 ∨ ∃ a n, v = .ref a ∧ R a = some n
  | 4 => ∃ x, v = .int x ∧ 0 ≤ x.toInt ∧ x.toInt ≤ 2097154
  | 13 => ∃ k, v = .ref k ∧ cl F k = some 3 ∧ c_bt k
  | 18 => ∃ k, v = .ref k ∧ cl F k = some 8
  | t => v = .ref (t - 100)
def c_f (F : c_F) (A : c_A) (R : c_R) : List Nat → List Value → Prop
  | [], [] => True
  | t :: ts, v :: vs => c_v F A R t v ∧ c_f F A R ts vs
  | _, _ => False
/-- the objects that are there once, and their classes -/
def c_sg : List (Nat × Nat) := [(0, 0), (1, 1), (2, 2), (3, 3), (5, 4), (6, 5), (7, 6), (8, 3), (10, 3), (12, 7), (13, 5), (14, 3), (16, 3), (23, 9), (24, 3), (26, 3), (28, 3), (30, 3), (32, 10)]
/-- a list: its array holds bodies below its size -/
def c_al (F : c_F) (R : c_R) (G : c_G) (k : Nat) : Prop := ∃ ed sz mc, F k = some (5, [ed, .int sz, .int mc]) ∧ 0 ≤ sz.toInt ∧ sz.toInt ≤ 100000 ∧ ((ed = .long 0 ∧ sz.toInt = 0) ∨ ∃ a n, ed = .ref a ∧ R a = some n ∧ sz.toInt ≤ n ∧ n ≤ 1000000 ∧ ∀ i : Nat, (i : Int) < sz.toInt → (G a i).isSome = true)
def SHf (F : c_F) (A : c_A) (R : c_R) (G : c_G) (aw : Nat) : Prop :=
  (∀ k c fs, F k = some (c, fs) → c = 11 ∨ (c ≤ 10 ∧ c_f F A R (c_ty c) fs)) ∧
  (∀ p ∈ c_sg, cl F p.1 = some p.2) ∧
  (∀ k a r, F k = some (3, [.ref a, .int r]) → ∃ n, A a = some (false, n) ∧ 0 ≤ r.toInt ∧ 4 * r.toInt ≤ n ∧ 32 ≤ n ∧ n ≤ 8388616 ∧ (k ≠ 3 → a ≠ aw)) ∧
  (∃ r, F 3 = some (3, [.ref aw, .int r])) ∧
  (c_al F R G 6) ∧
  (c_al F R G 13) ∧
  (∀ a q1 q2 q3 q4, F 6 = some (5, [.ref a, q1, q2]) → F 13 ≠ some (5, [.ref a, q3, q4])) ∧
  (∀ a i b, G a i = some b → cl F b = some 8) ∧
  (∀ j c fs, F j = some (c, fs) → 39 ≤ j → j < 94 → c = 11) ∧
  (∀ a n, R a = some n → a < 39 ∨ 94 ≤ a) ∧
  (∃ k c m s q, F 5 = some (4, [k, .int c]) ∧ F 6 = some (5, [m, .int s, q]) ∧ 0 ≤ c.toInt ∧ c.toInt ≤ s.toInt)
theorem SHf.t {F : c_F} {A : c_A} {R : c_R} {G : c_G} {aw : Nat} (h : SHf F A R G aw) : ∀ k c fs, F k = some (c, fs) → c = 11 ∨ (c ≤ 10 ∧ c_f F A R (c_ty c) fs) := h.1
theorem SHf.s {F : c_F} {A : c_A} {R : c_R} {G : c_G} {aw : Nat} (h : SHf F A R G aw) : ∀ p ∈ c_sg, cl F p.1 = some p.2 := h.2.1
theorem SHf.tb {F : c_F} {A : c_A} {R : c_R} {G : c_G} {aw : Nat} (h : SHf F A R G aw) : ∀ k a r, F k = some (3, [.ref a, .int r]) → ∃ n, A a = some (false, n) ∧ 0 ≤ r.toInt ∧ 4 * r.toInt ≤ n ∧ 32 ≤ n ∧ n ≤ 8388616 ∧ (k ≠ 3 → a ≠ aw) := h.2.2.1
theorem SHf.aw {F : c_F} {A : c_A} {R : c_R} {G : c_G} {aw : Nat} (h : SHf F A R G aw) : ∃ r, F 3 = some (3, [.ref aw, .int r]) := h.2.2.2.1
theorem SHf.l6 {F : c_F} {A : c_A} {R : c_R} {G : c_G} {aw : Nat} (h : SHf F A R G aw) : c_al F R G 6 := h.2.2.2.2.1
theorem SHf.l13 {F : c_F} {A : c_A} {R : c_R} {G : c_G} {aw : Nat} (h : SHf F A R G aw) : c_al F R G 13 := h.2.2.2.2.2.1
theorem SHf.ld {F : c_F} {A : c_A} {R : c_R} {G : c_G} {aw : Nat} (h : SHf F A R G aw) : ∀ a q1 q2 q3 q4, F 6 = some (5, [.ref a, q1, q2]) → F 13 ≠ some (5, [.ref a, q3, q4]) := h.2.2.2.2.2.2.1
theorem SHf.rg {F : c_F} {A : c_A} {R : c_R} {G : c_G} {aw : Nat} (h : SHf F A R G aw) : ∀ a i b, G a i = some b → cl F b = some 8 := h.2.2.2.2.2.2.2.1
theorem SHf.rf {F : c_F} {A : c_A} {R : c_R} {G : c_G} {aw : Nat} (h : SHf F A R G aw) : ∀ j c fs, F j = some (c, fs) → 39 ≤ j → j < 94 → c = 11 := h.2.2.2.2.2.2.2.2.1
theorem SHf.rr {F : c_F} {A : c_A} {R : c_R} {G : c_G} {aw : Nat} (h : SHf F A R G aw) : ∀ a n, R a = some n → a < 39 ∨ 94 ≤ a := h.2.2.2.2.2.2.2.2.2.1
theorem SHf.ct {F : c_F} {A : c_A} {R : c_R} {G : c_G} {aw : Nat} (h : SHf F A R G aw) : ∃ k c m s q, F 5 = some (4, [k, .int c]) ∧ F 6 = some (5, [m, .int s, q]) ∧ 0 ≤ c.toInt ∧ c.toInt ≤ s.toInt := h.2.2.2.2.2.2.2.2.2.2
def SH (aw : Nat) (S : am_S) : Prop := SHf (am_fs S) (am_arq S) (am_rar S) (am_rrf S) aw ∧ 94 ≤ S.1.length
def iv (S : am_S) (k j : Nat) : Int := match am_fs S k with
  | some (_, fs) => match fs[j]? with
    | some (.int x) => x.toInt
    | _ => 0
  | none => 0
def nx (S : am_S) : Int := iv S 2 2
/-- the body in hand, the number of its first local, how many bodies are open -/
def nw (S : am_S) : Nat := match am_fs S 12 with
  | some (_, fs) => match fs[6]? with
    | some (Value.ref b) => b
    | _ => 0
  | none => 0
def fl (S : am_S) : Int := iv S (nw S) 9
/-- the lists and how many bodies there are -/
def os (S : am_S) := (am_fs S 5, am_fs S 6, am_fs S 13, am_rar S, am_rrf S)
def lv (S : am_S) : Int := iv S 2 3
def wr (S : am_S) : Int := iv S 3 1
/-- the kind of the word i, 0 where there is none -/
def kA (aw : Nat) (S : am_S) (i : Int) : Int := if 0 ≤ i ∧ i < wr S then (am_arf S aw (4 * i).toNat).toInt else 0
def kd (aw : Nat) (S : am_S) : Int := kA aw S (nx S)
def c_phi (F : c_F) (A : c_A) (k : Nat) : Int := match F k with
  | some (3, [.ref a, .int r]) => match A a with
    | some (_, n) => if 32 * r.toInt - 4 * (n : Int) ≤ 0 then 0 else 32 * r.toInt - 4 * (n : Int)
    | none => 0
  | _ => 0
def c_sum (f : Nat → Int) : Nat → Int
  | 0 => 0
  | n + 1 => c_sum f n + f n
/-- what the heap costs -/
def EN (S : am_S) : Int := 128 * (S.2.1 : Int) + S.2.2 + c_sum (c_phi (am_fs S) (am_arq S)) S.1.length + 160 * iv S 8 1 + 320 * iv S 10 1
/-- what a row costs beside its cells -/
def c_w (t : Nat) : Int := if t = 8 then 160 else if t = 10 then 320 else 0
theorem c_sum_ext {f f' : Nat → Int} : ∀ n, (∀ j, j < n → f' j = f j) → c_sum f' n = c_sum f n := by
  intro n
  induction n with
  | zero => intro _; rfl
  | succ n ih => intro h; simp only [c_sum]; rw [ih (fun j hj => h j (by omega)), h n (by omega)]
theorem c_sum_upd {f f' : Nat → Int} {k : Nat} : ∀ n, k < n → (∀ j, j ≠ k → f' j = f j) → c_sum f' n = c_sum f n - f k + f' k := by
  intro n
  induction n with
  | zero => intro h; omega
  | succ n ih =>
    intro hk h
    simp only [c_sum]
    by_cases e : k = n
    · subst e
      rw [c_sum_ext k (fun j hj => h j (by omega))]
      omega
    · rw [ih (by omega) h, h n (fun q => e q.symm)]
      omega
theorem c_phi_nn (F : c_F) (A : c_A) (k : Nat) : 0 ≤ c_phi F A k := by
  unfold c_phi
  split
  · split
    · split <;> omega
    · exact Int.le_refl _
  · exact Int.le_refl _
theorem c_sum_nn {f : Nat → Int} (h : ∀ k, 0 ≤ f k) : ∀ n, 0 ≤ c_sum f n := by
  intro n
  induction n with
  | zero => exact Int.le_refl _
  | succ n ih => simp only [c_sum]; have := h n; omega
/-- what stays: classes of objects, the reference's cells -/
def Ex (S S' : am_S) : Prop := (∀ k c, cl (am_fs S) k = some c → cl (am_fs S') k = some c) ∧ (∀ k, 39 ≤ k → k < 94 → S'.1[k]? = S.1[k]?) ∧ S.1.length ≤ S'.1.length
theorem os_5 {S S' : am_S} (h : os S' = os S) (i : Nat) : iv S' 5 i = iv S 5 i := by
  have e : am_fs S' 5 = am_fs S 5 := congrArg (fun q => q.1) h
  unfold iv
  rw [e]
theorem os_6 {S S' : am_S} (h : os S' = os S) (i : Nat) : iv S' 6 i = iv S 6 i := by
  have e : am_fs S' 6 = am_fs S 6 := congrArg (fun q => q.2.1) h
  unfold iv
  rw [e]
theorem os_13 {S S' : am_S} (h : os S' = os S) (i : Nat) : iv S' 13 i = iv S 13 i := by
  have e : am_fs S' 13 = am_fs S 13 := congrArg (fun q => q.2.2.1) h
  unfold iv
  rw [e]
theorem Ex.refl (S : am_S) : Ex S S := ⟨fun _ _ h => h, fun _ _ _ => rfl, Nat.le_refl _⟩
theorem Ex.trans {S S1 S2 : am_S} (h : Ex S S1) (h' : Ex S1 S2) : Ex S S2 := ⟨fun k c q => h'.1 k c (h.1 k c q), fun k a b => (h'.2.1 k a b).trans (h.2.1 k a b), Nat.le_trans h.2.2 h'.2.2⟩
theorem cl_of {F : c_F} {k c : Nat} (h : cl F k = some c) : ∃ fs, F k = some (c, fs) := by
  unfold cl at h
  cases hq : F k with
  | none => rw [hq] at h; cases h
  | some q =>
    rw [hq] at h
    obtain ⟨c', fs⟩ := q
    cases h
    exact ⟨fs, rfl⟩
theorem cl_mk {F : c_F} {k c : Nat} {fs : List Value} (h : F k = some (c, fs)) : cl F k = some c := by
  unfold cl
  rw [h]
  rfl
theorem c_f_get {F : c_F} {A : c_A} {R : c_R} : ∀ {ts : List Nat} {vs : List Value} {j t : Nat}, c_f F A R ts vs → ts[j]? = some t → ∃ v, vs[j]? = some v ∧ c_v F A R t v := by
  intro ts
  induction ts with
  | nil => intro vs j t _ h; simp at h
  | cons t0 ts ih =>
    intro vs j t h hj
    cases vs with
    | nil => exact h.elim
    | cons v vs =>
      cases j with
      | zero => simp only [List.getElem?_cons_zero, Option.some.injEq] at hj; subst hj; exact ⟨v, rfl, h.1⟩
      | succ j => simp only [List.getElem?_cons_succ] at hj ⊢; exact ih h.2 hj
theorem c_f_set {F : c_F} {A : c_A} {R : c_R} : ∀ {ts : List Nat} {vs : List Value} {j t : Nat} {v : Value}, c_f F A R ts vs → ts[j]? = some t → c_v F A R t v → c_f F A R ts (vs.set j v) := by
  intro ts
  induction ts with
  | nil => intro vs j t v _ h; simp at h
  | cons t0 ts ih =>
    intro vs j t v h hj hv
    cases vs with
    | nil => exact h.elim
    | cons w vs =>
      cases j with
      | zero => simp only [List.getElem?_cons_zero, Option.some.injEq] at hj; subst hj; exact ⟨hv, h.2⟩
      | succ j => simp only [List.getElem?_cons_succ] at hj; exact ⟨h.1, ih h.2 hj hv⟩
theorem c_f_len {F : c_F} {A : c_A} {R : c_R} : ∀ {ts : List Nat} {vs : List Value}, c_f F A R ts vs → vs.length = ts.length := by
  intro ts
  induction ts with
  | nil => intro vs h; cases vs with
    | nil => rfl
    | cons v vs => exact h.elim
  | cons t0 ts ih =>
    intro vs h
    cases vs with
    | nil => exact h.elim
    | cons w vs => simp only [List.length_cons]; rw [ih h.2]
theorem c_v_mono {F F' : c_F} {A A' : c_A} {R R' : c_R} (hF : ∀ k c, cl F k = some c → cl F' k = some c) (hA : ∀ a q, A a = some q → A' a = some q) (hR : ∀ a q, R a = some q → R' a = some q) {t : Nat} {v : Value} (h : c_v F A R t v) : c_v F' A' R' t v := by
  unfold c_v at h ⊢
  split at h
  · exact h
  · exact h
  · obtain ⟨a, n, h1, h2, h3⟩ := h
    exact ⟨a, n, h1, hA _ _ h2, h3⟩
  · rcases h with h | ⟨a, n, h1, h2⟩
    · exact Or.inl h
    · exact Or.inr ⟨a, n, h1, hR _ _ h2⟩
  · exact h
  · obtain ⟨k, h1, h2, h3⟩ := h
    exact ⟨k, h1, hF _ _ h2, h3⟩
  · obtain ⟨k, h1, h2⟩ := h
    exact ⟨k, h1, hF _ _ h2⟩
  · exact h
theorem c_f_mono {F F' : c_F} {A A' : c_A} {R R' : c_R} (hF : ∀ k c, cl F k = some c → cl F' k = some c) (hA : ∀ a q, A a = some q → A' a = some q) (hR : ∀ a q, R a = some q → R' a = some q) : ∀ {ts : List Nat} {vs : List Value}, c_f F A R ts vs → c_f F' A' R' ts vs := by
  intro ts
  induction ts with
  | nil => intro vs h; cases vs with
    | nil => trivial
    | cons v vs => exact h.elim
  | cons t0 ts ih =>
    intro vs h
    cases vs with
    | nil => exact h.elim
    | cons w vs => exact ⟨c_v_mono hF hA hR h.1, ih h.2⟩
/-! an object's cell is changed -/
def c_set (F : c_F) (k : Nat) (q : Nat × List Value) : c_F := fun j => if j = k then some q else F j
theorem c_set_eq {F : c_F} {k : Nat} {q : Nat × List Value} : c_set F k q k = some q := if_pos rfl
theorem c_set_ne {F : c_F} {k j : Nat} {q : Nat × List Value} (h : j ≠ k) : c_set F k q j = F j := if_neg h
theorem c_set_cl {F : c_F} {k c : Nat} {fs fs' : List Value} (h : F k = some (c, fs)) (j : Nat) : cl (c_set F k (c, fs')) j = cl F j := by
  by_cases e : j = k
  · subst e
    rw [cl_mk h, cl_mk c_set_eq]
  · unfold cl
    rw [c_set_ne e]
def am_so (S : am_S) (k : Nat) (q : Nat × List Value) : am_S := (S.1.set k (.inr (.inr q)), S.2.1, S.2.2)
section SO
variable {S : am_S} {k : Nat} {q0 q : Nat × List Value}
theorem so_fs (h : am_fs S k = some q0) : am_fs (am_so S k q) = c_set (am_fs S) k q := by
  funext j
  by_cases e : j = k
  · subst e
    rw [c_set_eq]
    exact am_fs_eq h
  · rw [c_set_ne e]
    unfold am_fs am_so
    rw [List.getElem?_set_ne (fun z => e z.symm)]
theorem so_other (h : am_fs S k = some q0) {j : Nat} : (j = k ∧ ∃ x y, S.1[j]? = some (.inr (.inr x)) ∧ (am_so S k q).1[j]? = some (.inr (.inr y))) ∨ (am_so S k q).1[j]? = S.1[j]? := by
  by_cases e : j = k
  · subst e
    left
    exact ⟨rfl, q0, q, am_fs_ok h, by show (S.1.set j _)[j]? = _; rw [List.getElem?_set_self (am_ltl (am_fs_ok h))]⟩
  · right
    show (S.1.set k _)[j]? = _
    rw [List.getElem?_set_ne (fun z => e z.symm)]
theorem so_arq (h : am_fs S k = some q0) : am_arq (am_so S k q) = am_arq S := by
  funext j
  unfold am_arq
  rcases so_other (q := q) h (j := j) with ⟨-, x, y, h1, h2⟩ | h1
  · rw [h1, h2]
  · rw [h1]
theorem so_arf (h : am_fs S k = some q0) : am_arf (am_so S k q) = am_arf S := by
  funext j
  unfold am_arf
  rcases so_other (q := q) h (j := j) with ⟨-, x, y, h1, h2⟩ | h1
  · rw [h1, h2]
  · rw [h1]
theorem so_rar (h : am_fs S k = some q0) : am_rar (am_so S k q) = am_rar S := by
  funext j
  unfold am_rar
  rcases so_other (q := q) h (j := j) with ⟨-, x, y, h1, h2⟩ | h1
  · rw [h1, h2]
  · rw [h1]
theorem so_rrf (h : am_fs S k = some q0) : am_rrf (am_so S k q) = am_rrf S := by
  funext j
  unfold am_rrf
  rcases so_other (q := q) h (j := j) with ⟨-, x, y, h1, h2⟩ | h1
  · rw [h1, h2]
  · rw [h1]
theorem so_os (h : am_fs S k = some q0) (h5 : 5 ≠ k) (h6 : 6 ≠ k) (h13 : 13 ≠ k) : os (am_so S k q) = os S := by
  unfold os
  rw [so_fs h, so_rar h, so_rrf h, c_set_ne h5, c_set_ne h6, c_set_ne h13]
theorem so_len : (am_so S k q).1.length = S.1.length := List.length_set
theorem so_ex {c : Nat} {fs fs' : List Value} (h : am_fs S k = some (c, fs)) (hk : c ≠ 11) (h11 : ∀ j c' fs', am_fs S j = some (c', fs') → 39 ≤ j → j < 94 → c' = 11) : Ex S (am_so S k (c, fs')) := by
  refine ⟨fun j c' hj => by rw [so_fs h, c_set_cl h]; exact hj, fun j h1 h2 => ?_, Nat.le_of_eq so_len.symm⟩
  rcases so_other (q := (c, fs')) h (j := j) with ⟨e, -⟩ | e
  · subst e
    exact absurd (h11 _ _ _ h h1 h2) hk
  · exact e
end SO
