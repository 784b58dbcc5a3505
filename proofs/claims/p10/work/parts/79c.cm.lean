/-! THE CLASS'S MEMORY BY ROLES -/
abbrev cT : Type := Nat ⊕ (Nat ⊕ Nat)
abbrev cT.s (k : Nat) : cT := Sum.inl k
abbrev cT.i (x : Nat) : cT := Sum.inr (Sum.inl x)
abbrev cT.u (x : Nat) : cT := Sum.inr (Sum.inr x)
/-- numbers of the objects that are there once and of the bodies, rows and cells of the tables, the body in hand, the bodies that are begun (0: the first body in hand, x + 1: the body x of the kept) -/
abbrev cS : Type := (Nat → Nat → Int32) × (Nat → Nat → Int32) × (cT → Int32) × (cT → Nat → Int32) × Nat × (Nat → Nat)
abbrev cS.f (s : cS) : Nat → Nat → Int32 := s.1
abbrev cS.b (s : cS) : Nat → Nat → Int32 := s.2.1
abbrev cS.r (s : cS) : cT → Int32 := s.2.2.1
abbrev cS.c (s : cS) : cT → Nat → Int32 := s.2.2.2.1
abbrev cS.now (s : cS) : Nat := s.2.2.2.2.1
abbrev cS.op (s : cS) : Nat → Nat := s.2.2.2.2.2
def c_st : List Nat := [3, 8, 10, 14, 16, 24, 26, 28, 30]
def cTl (K : Nat) (t : cT) : Prop := match t with
  | .inl k => k ∈ c_st
  | .inr (.inl x) => x ≤ K
  | .inr (.inr x) => x ≤ K
def cTa (A : Nat → Nat) (t : cT) : Nat := match t with
  | .inl k => k
  | .inr (.inl x) => A x + 1
  | .inr (.inr x) => A x + 3
def c_so : List (Nat × Nat) := [(0, 0), (1, 1), (2, 2), (5, 4), (7, 6), (12, 7), (23, 9), (32, 10)]
def c_fl (k n : Nat) (g : Nat → Int32) : List Value := match k with
  | 0 => [.ref 1, .ref 2, .ref 5, .ref 7, .ref 32, .int (g 5)]
  | 1 => [.int (g 0), .int (g 1)]
  | 2 => [.ref 1, .ref 3, .int (g 2), .int (g 3)]
  | 5 => [.ref 6, .int (g 1)]
  | 7 => [.ref 2, .ref 1, .ref 12, .ref 8, .ref 10, .int (g 5), .int (g 6), .int (g 7)]
  | 12 => [.ref 23, .ref 1, .ref 5, .ref 13, .ref 14, .ref 16, .ref n, .int (g 7), .int (g 8), .int (g 9)]
  | 23 => [.ref 1, .ref 24, .ref 26, .ref 28, .ref 30]
  | 32 => [.ref 5]
  | _ => []
def c_bl (p : Nat) (g : Nat → Int32) : List Value := [.ref (p + 1), .ref (p + 3), .int (g 2), .int (g 3), .int (g 4), .int (g 5), .int (g 6), .int (g 7), .int (g 8), .int (g 9), .int (g 10), .int (g 11), .int (g 12)]
def c_li (S : am_S) (A : Nat → Nat) (ed : Value) (n : Nat) (φ : Nat → Nat) : Prop := (ed = .long 0 ∧ n = 0) ∨ ∃ (a m : Nat) (g : Nat → Option Nat), ed = .ref a ∧ S.1[a]? = some (.inr (.inl (m, g))) ∧ n ≤ m ∧ m ≤ 16777216 ∧ (a < 39 ∨ 94 ≤ a) ∧ ∀ i, i < n → g i = some (A (φ i))
def CMB (A : Nat → Nat) (B : cT → Nat) (K : Nat) (S : am_S) (s : cS) : Prop :=
  (94 ≤ S.1.length) ∧
  (∀ k c, (k, c) ∈ c_so → am_fs S k = some (c, c_fl k (A s.now) (s.f k))) ∧
  (∀ x, x ≤ K → am_fs S (A x) = some (8, c_bl (A x) (s.b x))) ∧
  (∀ t, cTl K t → am_fs S (cTa A t) = some (3, [.ref (B t), .int (s.r t)])) ∧
  (∀ t, cTl K t → ∃ k g, S.1[B t]? = some (.inl (false, 32 * 2 ^ k, g)) ∧ k ≤ 17 ∧ 0 ≤ (s.r t).toInt ∧ 4 * (s.r t).toInt ≤ ((32 * 2 ^ k : Nat) : Int) ∧ ∀ j : Nat, (j : Int) < 4 * (s.r t).toInt → g j = s.c t j) ∧
  (∀ x, x ≤ K → A x = 18 ∨ A x = 33 ∨ 94 ≤ A x) ∧
  (∀ x y, x ≤ K → y ≤ K → x ≠ y → A x + 5 ≤ A y ∨ A y + 5 ≤ A x) ∧
  (∀ x, x ≤ K → A x + 5 ≤ S.1.length) ∧
  (∀ t t', cTl K t → cTl K t' → B t = B t' → t = t') ∧
  (∀ t, cTl K t → B t < 39 ∨ 94 ≤ B t) ∧
  ((s.f 6 1).toInt = K) ∧
  (∃ e6 m6 e13 m13, am_fs S 6 = some (5, [e6, .int (s.f 6 1), .int m6]) ∧ am_fs S 13 = some (5, [e13, .int (s.f 13 1), .int m13]) ∧ c_li S A e6 K (fun i => i + 1) ∧ 0 ≤ (s.f 13 1).toInt ∧ c_li S A e13 (s.f 13 1).toInt.toNat s.op ∧ ∀ a, e6 = .ref a → e13 = .ref a → False) ∧
  (∀ i : Nat, (i : Int) < (s.f 13 1).toInt → s.op i ≤ K) ∧
  (s.now ≤ K)
theorem CMB.len {A : Nat → Nat} {B : cT → Nat} {K : Nat} {S : am_S} {s : cS} (h : CMB A B K S s) : 94 ≤ S.1.length := h.1
theorem CMB.so {A : Nat → Nat} {B : cT → Nat} {K : Nat} {S : am_S} {s : cS} (h : CMB A B K S s) : ∀ k c, (k, c) ∈ c_so → am_fs S k = some (c, c_fl k (A s.now) (s.f k)) := h.2.1
theorem CMB.bo {A : Nat → Nat} {B : cT → Nat} {K : Nat} {S : am_S} {s : cS} (h : CMB A B K S s) : ∀ x, x ≤ K → am_fs S (A x) = some (8, c_bl (A x) (s.b x)) := h.2.2.1
theorem CMB.ta {A : Nat → Nat} {B : cT → Nat} {K : Nat} {S : am_S} {s : cS} (h : CMB A B K S s) : ∀ t, cTl K t → am_fs S (cTa A t) = some (3, [.ref (B t), .int (s.r t)]) := h.2.2.2.1
theorem CMB.ar {A : Nat → Nat} {B : cT → Nat} {K : Nat} {S : am_S} {s : cS} (h : CMB A B K S s) : ∀ t, cTl K t → ∃ k g, S.1[B t]? = some (.inl (false, 32 * 2 ^ k, g)) ∧ k ≤ 17 ∧ 0 ≤ (s.r t).toInt ∧ 4 * (s.r t).toInt ≤ ((32 * 2 ^ k : Nat) : Int) ∧ ∀ j : Nat, (j : Int) < 4 * (s.r t).toInt → g j = s.c t j := h.2.2.2.2.1
theorem CMB.ai {A : Nat → Nat} {B : cT → Nat} {K : Nat} {S : am_S} {s : cS} (h : CMB A B K S s) : ∀ x, x ≤ K → A x = 18 ∨ A x = 33 ∨ 94 ≤ A x := h.2.2.2.2.2.1
theorem CMB.aj {A : Nat → Nat} {B : cT → Nat} {K : Nat} {S : am_S} {s : cS} (h : CMB A B K S s) : ∀ x y, x ≤ K → y ≤ K → x ≠ y → A x + 5 ≤ A y ∨ A y + 5 ≤ A x := h.2.2.2.2.2.2.1
theorem CMB.al {A : Nat → Nat} {B : cT → Nat} {K : Nat} {S : am_S} {s : cS} (h : CMB A B K S s) : ∀ x, x ≤ K → A x + 5 ≤ S.1.length := h.2.2.2.2.2.2.2.1
theorem CMB.bi {A : Nat → Nat} {B : cT → Nat} {K : Nat} {S : am_S} {s : cS} (h : CMB A B K S s) : ∀ t t', cTl K t → cTl K t' → B t = B t' → t = t' := h.2.2.2.2.2.2.2.2.1
theorem CMB.bj {A : Nat → Nat} {B : cT → Nat} {K : Nat} {S : am_S} {s : cS} (h : CMB A B K S s) : ∀ t, cTl K t → B t < 39 ∨ 94 ≤ B t := h.2.2.2.2.2.2.2.2.2.1
theorem CMB.kk {A : Nat → Nat} {B : cT → Nat} {K : Nat} {S : am_S} {s : cS} (h : CMB A B K S s) : (s.f 6 1).toInt = K := h.2.2.2.2.2.2.2.2.2.2.1
theorem CMB.li {A : Nat → Nat} {B : cT → Nat} {K : Nat} {S : am_S} {s : cS} (h : CMB A B K S s) : ∃ e6 m6 e13 m13, am_fs S 6 = some (5, [e6, .int (s.f 6 1), .int m6]) ∧ am_fs S 13 = some (5, [e13, .int (s.f 13 1), .int m13]) ∧ c_li S A e6 K (fun i => i + 1) ∧ 0 ≤ (s.f 13 1).toInt ∧ c_li S A e13 (s.f 13 1).toInt.toNat s.op ∧ ∀ a, e6 = .ref a → e13 = .ref a → False := h.2.2.2.2.2.2.2.2.2.2.2.1
theorem CMB.ol {A : Nat → Nat} {B : cT → Nat} {K : Nat} {S : am_S} {s : cS} (h : CMB A B K S s) : ∀ i : Nat, (i : Int) < (s.f 13 1).toInt → s.op i ≤ K := h.2.2.2.2.2.2.2.2.2.2.2.2.1
theorem CMB.nl {A : Nat → Nat} {B : cT → Nat} {K : Nat} {S : am_S} {s : cS} (h : CMB A B K S s) : s.now ≤ K := h.2.2.2.2.2.2.2.2.2.2.2.2.2
def CM (A : Nat → Nat) (K : Nat) (S : am_S) (s : cS) : Prop := ∃ B, CMB A B K S s
def nf (s : cS) (k j : Nat) (v : Int32) : cS := (fun a => if a = k then upd (s.f a) j v else s.f a, s.2)
def nb (s : cS) (x j : Nat) (v : Int32) : cS := (s.1, fun a => if a = x then upd (s.b a) j v else s.b a, s.2.2)
def nn (s : cS) (x : Nat) : cS := (s.1, s.2.1, s.2.2.1, s.2.2.2.1, x, s.2.2.2.2.2)
def np (s : cS) (g : Nat → Nat) : cS := (s.1, s.2.1, s.2.2.1, s.2.2.2.1, s.2.2.2.2.1, g)
def nt (s : cS) (t : cT) (r : Int32) (g : Nat → Int32) : cS := (s.1, s.2.1, fun a => if a = t then r else s.r a, fun a => if a = t then g else s.c a, s.2.2.2.2)
/-! addresses -/
theorem ca_ne {A : Nat → Nat} {K : Nat} (ai : ∀ x, x ≤ K → A x = 18 ∨ A x = 33 ∨ 94 ≤ A x) (aj : ∀ x y, x ≤ K → y ≤ K → x ≠ y → A x + 5 ≤ A y ∨ A y + 5 ≤ A x) {t t' : cT} (h : cTl K t) (h' : cTl K t') (e : cTa A t = cTa A t') : t = t' := by
  rcases t with k | x | x
  ·
    rcases t' with k' | x | x
    · have e' : k = k' := e; rw [e']
    ·
      have e' : k = A x + 1 := e
      have h1 : k ∈ c_st := h
      have := ai x h'
      simp only [c_st, List.mem_cons, List.not_mem_nil, or_false] at h1
      omega
    ·
      have e' : k = A x + 3 := e
      have h1 : k ∈ c_st := h
      have := ai x h'
      simp only [c_st, List.mem_cons, List.not_mem_nil, or_false] at h1
      omega
  ·
    rcases t' with k | y | y
    ·
      have e' : A x + 1 = k := e
      have h1 : k ∈ c_st := h'
      have := ai x h
      simp only [c_st, List.mem_cons, List.not_mem_nil, or_false] at h1
      omega
    ·
      have e' : A x + 1 = A y + 1 := e
      by_cases q : x = y
      · rw [q]
      · have := aj x y h h' q; omega
    ·
      have e' : A x + 1 = A y + 3 := e
      by_cases q : x = y
      · rw [q] at e'; omega
      · have := aj x y h h' q; omega
  ·
    rcases t' with k | y | y
    ·
      have e' : A x + 3 = k := e
      have h1 : k ∈ c_st := h'
      have := ai x h
      simp only [c_st, List.mem_cons, List.not_mem_nil, or_false] at h1
      omega
    ·
      have e' : A x + 3 = A y + 1 := e
      by_cases q : x = y
      · rw [q] at e'; omega
      · have := aj x y h h' q; omega
    ·
      have e' : A x + 3 = A y + 3 := e
      by_cases q : x = y
      · rw [q]
      · have := aj x y h h' q; omega
theorem ca_st {A : Nat → Nat} {K : Nat} (ai : ∀ x, x ≤ K → A x = 18 ∨ A x = 33 ∨ 94 ≤ A x) {t : cT} (h : cTl K t) : cTa A t ∈ [3, 8, 10, 14, 16, 24, 26, 28, 30, 19, 21, 34, 36] ∨ 94 ≤ cTa A t := by
  rcases t with k | x | x
  ·
    have h1 : k ∈ c_st := h
    simp only [c_st, List.mem_cons, List.not_mem_nil, or_false] at h1
    simp only [cTa, List.mem_cons, List.not_mem_nil, or_false]
    omega
  ·
    have := ai x h
    simp only [cTa, List.mem_cons, List.not_mem_nil, or_false]
    omega
  ·
    have := ai x h
    simp only [cTa, List.mem_cons, List.not_mem_nil, or_false]
    omega
theorem c_so_in {k c : Nat} (h : (k, c) ∈ c_so) : (k = 0 ∧ c = 0) ∨ (k = 1 ∧ c = 1) ∨ (k = 2 ∧ c = 2) ∨ (k = 5 ∧ c = 4) ∨ (k = 7 ∧ c = 6) ∨ (k = 12 ∧ c = 7) ∨ (k = 23 ∧ c = 9) ∨ (k = 32 ∧ c = 10) := by
  simpa only [c_so, List.mem_cons, Prod.mk.injEq, List.not_mem_nil, or_false] using h
/-! one object's cell is changed: what else there is stays -/
def cm_so (S : am_S) (k : Nat) (q : Nat × List Value) : am_S := (S.1.set k (.inr (.inr q)), S.2.1, S.2.2)
theorem cso_fs {S : am_S} {k j : Nat} {q : Nat × List Value} (h : j ≠ k) : am_fs (cm_so S k q) j = am_fs S j := by
  unfold am_fs cm_so
  rw [List.getElem?_set_ne (fun z => h z.symm)]
theorem cso_eq {S : am_S} {k : Nat} {q0 q : Nat × List Value} (h : am_fs S k = some q0) : am_fs (cm_so S k q) k = some q := am_fs_eq h
theorem cso_a {S : am_S} {k j : Nat} {q0 q : Nat × List Value} {c : Bool × Nat × (Nat → Int32)} (h : am_fs S k = some q0) (hj : S.1[j]? = some (.inl c)) : (cm_so S k q).1[j]? = some (.inl c) := by
  show (S.1.set k _)[j]? = _
  rw [List.getElem?_set_ne]
  · exact hj
  · intro e
    rw [← e, am_fs_ok h] at hj
    cases hj
theorem cso_r {S : am_S} {k j : Nat} {q0 q : Nat × List Value} {c : Nat × (Nat → Option Nat)} (h : am_fs S k = some q0) (hj : S.1[j]? = some (.inr (.inl c))) : (cm_so S k q).1[j]? = some (.inr (.inl c)) := by
  show (S.1.set k _)[j]? = _
  rw [List.getElem?_set_ne]
  · exact hj
  · intro e
    rw [← e, am_fs_ok h] at hj
    cases hj
theorem cso_li {S : am_S} {k : Nat} {q0 q : Nat × List Value} {A : Nat → Nat} {ed : Value} {n : Nat} {φ : Nat → Nat} (h : am_fs S k = some q0) (hl : c_li S A ed n φ) : c_li (cm_so S k q) A ed n φ := by
  rcases hl with hl | ⟨a, m, g, h1, h2, h3⟩
  · exact Or.inl hl
  · exact Or.inr ⟨a, m, g, h1, cso_r h h2, h3⟩
section CMU
variable {A : Nat → Nat} {B : cT → Nat} {K : Nat} {S : am_S} {s : cS}
theorem CMB.thr {x y : Nat} (h : CMB A B K S s) : CMB A B K (S.1, x, y) s := ⟨h.len, h.so, h.bo, h.ta, h.ar, h.ai, h.aj, h.al, h.bi, h.bj, h.kk, h.li, h.ol, h.nl⟩
theorem CM.thr {x y : Nat} (h : CM A K S s) : CM A K (S.1, x, y) s := h.elim fun B h => ⟨B, h.thr⟩
theorem nf_ne {k j k' : Nat} {v : Int32} (h : k' ≠ k) : (nf s k j v).f k' = s.f k' := if_neg h
theorem nf_eq {k j : Nat} {v : Int32} : (nf s k j v).f k = upd (s.f k) j v := if_pos rfl
theorem nb_ne {x j x' : Nat} {v : Int32} (h : x' ≠ x) : (nb s x j v).b x' = s.b x' := if_neg h
theorem nb_eq {x j : Nat} {v : Int32} : (nb s x j v).b x = upd (s.b x) j v := if_pos rfl
/-- a number of an object that is there once -/
theorem CMB.num {k c j : Nat} {v : Int32} (h : CMB A B K S s) (hk : (k, c) ∈ c_so) (he : (c_fl k (A s.now) (s.f k)).set j (.int v) = c_fl k (A s.now) (upd (s.f k) j v)) : CMB A B K (cm_so S k (c, (c_fl k (A s.now) (s.f k)).set j (.int v))) (nf s k j v) := by
  have h0 := h.so k c hk
  have hki := c_so_in hk
  have h6 : (nf s k j v).f 6 = s.f 6 := nf_ne (by omega)
  have h13 : (nf s k j v).f 13 = s.f 13 := nf_ne (by omega)
  refine ⟨?_, fun k' c' hk' => ?_, fun x hx => ?_, fun t ht => ?_, fun t ht => ?_, h.ai, h.aj, ?_, h.bi, h.bj, ?_, ?_, ?_, h.nl⟩
  · show 94 ≤ (S.1.set _ _).length
    rw [List.length_set]
    exact h.len
  · show am_fs _ _ = some (c', c_fl k' (A s.now) ((nf s k j v).f k'))
    by_cases e : k' = k
    · subst e
      rw [nf_eq, cso_eq h0, he]
      have := c_so_in hk'
      have e2 : c' = c := by omega
      rw [e2]
    · rw [cso_fs e, nf_ne e]
      exact h.so k' c' hk'
  · rw [cso_fs (by have := h.ai x hx; omega)]
    exact h.bo x hx
  · rw [cso_fs (by have := ca_st h.ai ht; simp only [List.mem_cons, List.not_mem_nil, or_false] at this; omega)]
    exact h.ta t ht
  · obtain ⟨k1, g, h1, h2⟩ := h.ar t ht
    exact ⟨k1, g, cso_a h0 h1, h2⟩
  · intro x hx
    show _ ≤ (S.1.set _ _).length
    rw [List.length_set]
    exact h.al x hx
  · rw [h6]; exact h.kk
  · obtain ⟨e6, m6, e13, m13, g1, g2, g3, g4, g5, g6⟩ := h.li
    refine ⟨e6, m6, e13, m13, ?_, ?_, cso_li h0 g3, ?_, ?_, g6⟩
    · rw [cso_fs (by omega), h6]; exact g1
    · rw [cso_fs (by omega), h13]; exact g2
    · rw [h13]; exact g4
    · rw [h13]; exact cso_li h0 g5
  · intro i hi
    rw [h13] at hi
    exact h.ol i hi
/-- a number of a body -/
theorem CMB.bnum {x j : Nat} {v : Int32} (h : CMB A B K S s) (hx : x ≤ K) (he : (c_bl (A x) (s.b x)).set j (.int v) = c_bl (A x) (upd (s.b x) j v)) : CMB A B K (cm_so S (A x) (8, (c_bl (A x) (s.b x)).set j (.int v))) (nb s x j v) := by
  have h0 := h.bo x hx
  have hxi := h.ai x hx
  refine ⟨?_, fun k' c' hk' => ?_, fun y hy => ?_, fun t ht => ?_, fun t ht => ?_, h.ai, h.aj, ?_, h.bi, h.bj, h.kk, ?_, h.ol, h.nl⟩
  · show 94 ≤ (S.1.set _ _).length
    rw [List.length_set]
    exact h.len
  · have hki := c_so_in hk'
    rw [cso_fs (by omega)]
    exact h.so k' c' hk'
  · by_cases e : y = x
    · subst e
      rw [nb_eq, cso_eq h0, he]
    · rw [nb_ne e, cso_fs (by have := h.aj x y hx hy (fun q => e q.symm); omega)]
      exact h.bo y hy
  · rw [cso_fs ?_]
    · exact h.ta t ht
    · intro e
      have h1 := h.ta t ht
      rw [e, h0] at h1
      cases h1
  · obtain ⟨k1, g, h1, h2⟩ := h.ar t ht
    exact ⟨k1, g, cso_a h0 h1, h2⟩
  · intro x hx
    show _ ≤ (S.1.set _ _).length
    rw [List.length_set]
    exact h.al x hx
  · obtain ⟨e6, m6, e13, m13, g1, g2, g3, g4, g5, g6⟩ := h.li
    refine ⟨e6, m6, e13, m13, ?_, ?_, cso_li h0 g3, g4, cso_li h0 g5, g6⟩
    · rw [cso_fs (by omega)]; exact g1
    · rw [cso_fs (by omega)]; exact g2
/-- another body in hand -/
theorem CMB.inow {x : Nat} (h : CMB A B K S s) (hx : x ≤ K) : CMB A B K (cm_so S 12 (7, (c_fl 12 (A s.now) (s.f 12)).set 6 (.ref (A x)))) (nn s x) := by
  have h0 := h.so 12 7 (by decide)
  refine ⟨?_, fun k' c' hk' => ?_, fun y hy => ?_, fun t ht => ?_, fun t ht => ?_, h.ai, h.aj, ?_, h.bi, h.bj, h.kk, ?_, h.ol, hx⟩
  · show 94 ≤ (S.1.set _ _).length
    rw [List.length_set]
    exact h.len
  · have hki := c_so_in hk'
    by_cases e : k' = 12
    · subst e
      rw [cso_eq h0]
      have e2 : c' = 7 := by omega
      rw [e2]
      rfl
    · rw [cso_fs e, h.so k' c' hk']
      show some (c', c_fl k' (A s.now) (s.f k')) = some (c', c_fl k' (A x) (s.f k'))
      have : k' = 0 ∨ k' = 1 ∨ k' = 2 ∨ k' = 5 ∨ k' = 7 ∨ k' = 23 ∨ k' = 32 := by omega
      rcases this with rfl | rfl | rfl | rfl | rfl | rfl | rfl <;> rfl
  · rw [cso_fs (by have := h.ai y hy; omega)]
    exact h.bo y hy
  · rw [cso_fs (by have := ca_st h.ai ht; simp only [List.mem_cons, List.not_mem_nil, or_false] at this; omega)]
    exact h.ta t ht
  · obtain ⟨k1, g, h1, h2⟩ := h.ar t ht
    exact ⟨k1, g, cso_a h0 h1, h2⟩
  · intro x hx
    show _ ≤ (S.1.set _ _).length
    rw [List.length_set]
    exact h.al x hx
  · obtain ⟨e6, m6, e13, m13, g1, g2, g3, g4, g5, g6⟩ := h.li
    refine ⟨e6, m6, e13, m13, ?_, ?_, cso_li h0 g3, g4, cso_li h0 g5, g6⟩
    · rw [cso_fs (by omega)]; exact g1
    · rw [cso_fs (by omega)]; exact g2
end CMU
/-! a table is changed: its object and its array, or a new array -/
theorem fs_of {S S' : am_S} {k : Nat} (h : S'.1[k]? = S.1[k]?) : am_fs S' k = am_fs S k := by
  unfold am_fs
  rw [h]
theorem CMB.tab {A : Nat → Nat} {B : cT → Nat} {K : Nat} {S S' : am_S} {s : cS} {t : cT} {b' k' : Nat} {g' g2 : Nat → Int32} {r' : Int32} (h : CMB A B K S s) (ht : cTl K t) (hb : b' = B t ∨ S.1.length ≤ b') (hl : S.1.length ≤ S'.1.length) (hs : ∀ k, k < S.1.length → k ≠ cTa A t → k ≠ b' → S'.1[k]? = S.1[k]?) (ho : am_fs S' (cTa A t) = some (3, [.ref b', .int r'])) (ha : S'.1[b']? = some (.inl (false, 32 * 2 ^ k', g'))) (hk : k' ≤ 17) (h0 : 0 ≤ r'.toInt) (h4 : 4 * r'.toInt ≤ ((32 * 2 ^ k' : Nat) : Int)) (hg : ∀ j : Nat, (j : Int) < 4 * r'.toInt → g' j = g2 j) : CM A K S' (nt s t r' g2) := by
  have fso : ∀ k q, am_fs S k = some q → k ≠ cTa A t → S'.1[k]? = S.1[k]? := fun k q hq hk => by
    have h1 := am_fs_ok hq
    refine hs k (am_ltl h1) hk (fun e => ?_)
    rcases hb with e2 | e2
    · obtain ⟨k1, g, h2, -⟩ := h.ar t ht
      rw [← e2, ← e, h1] at h2
      cases h2
    · have := am_ltl h1
      omega
  have fsn : ∀ k q, am_fs S k = some q → k ≠ cTa A t → am_fs S' k = some q := fun k q hq hk => (fs_of (fso k q hq hk)).trans hq
  have rsn : ∀ (k : Nat) (c : Nat × (Nat → Option Nat)), S.1[k]? = some (.inr (.inl c)) → S'.1[k]? = some (.inr (.inl c)) := fun k c hq => by
    rw [hs k (am_ltl hq) (fun e => ?_) (fun e => ?_)]
    · exact hq
    · have h1 := am_fs_ok (h.ta t ht)
      rw [← e, hq] at h1
      cases h1
    · rcases hb with e2 | e2
      · obtain ⟨k1, g, h2, -⟩ := h.ar t ht
        rw [← e2, ← e, hq] at h2
        cases h2
      · have := am_ltl hq
        omega
  have lin : ∀ (ed : Value) (n : Nat) (φ : Nat → Nat), c_li S A ed n φ → c_li S' A ed n φ := fun ed n φ hl => by
    rcases hl with hl | ⟨a, m, g, h1, h2, h3⟩
    · exact Or.inl hl
    · exact Or.inr ⟨a, m, g, h1, rsn _ _ h2, h3⟩
  have ht2 := ca_st h.ai ht
  simp only [List.mem_cons, List.not_mem_nil, or_false] at ht2
  refine ⟨fun q => if q = t then b' else B q, ?_, fun k c hk' => ?_, fun x hx => ?_, fun q hq => ?_, fun q hq => ?_, h.ai, h.aj, ?_, fun q q' hq hq' e => ?_, fun q hq => ?_, h.kk, ?_, h.ol, h.nl⟩
  · exact Nat.le_trans h.len hl
  · exact fsn _ _ (h.so k c hk') (by have := c_so_in hk'; omega)
  · refine fsn _ _ (h.bo x hx) (fun e => ?_)
    have h1 := h.bo x hx
    rw [e, h.ta t ht] at h1
    cases h1
  · by_cases e : q = t
    · subst e
      show am_fs S' (cTa A q) = some (3, [.ref (if q = q then b' else B q), .int (if q = q then r' else s.r q)])
      rw [if_pos rfl, if_pos rfl]
      exact ho
    · show am_fs S' (cTa A q) = some (3, [.ref (if q = t then b' else B q), .int (if q = t then r' else s.r q)])
      rw [if_neg e, if_neg e]
      exact fsn _ _ (h.ta q hq) (fun e2 => e (ca_ne h.ai h.aj hq ht e2))
  · by_cases e : q = t
    · subst e
      refine ⟨k', g', ?_, hk, ?_, ?_, ?_⟩
      · show S'.1[if q = q then b' else B q]? = _
        rw [if_pos rfl]
        exact ha
      · show 0 ≤ (if q = q then r' else s.r q).toInt
        rw [if_pos rfl]
        exact h0
      · show 4 * (if q = q then r' else s.r q).toInt ≤ _
        rw [if_pos rfl]
        exact h4
      · intro j hj
        show g' j = (if q = q then g2 else s.c q) j
        rw [if_pos rfl]
        refine hg j ?_
        have hj' : (j : Int) < 4 * (if q = q then r' else s.r q).toInt := hj
        rw [if_pos rfl] at hj'
        exact hj'
    · obtain ⟨k1, g, h1, h2, h3, h5, h6⟩ := h.ar q hq
      refine ⟨k1, g, ?_, h2, ?_, ?_, ?_⟩
      · show S'.1[if q = t then b' else B q]? = _
        rw [if_neg e, hs (B q) (am_ltl h1) (fun e2 => ?_) (fun e2 => ?_)]
        · exact h1
        · have h7 := am_fs_ok (h.ta t ht)
          rw [← e2, h1] at h7
          cases h7
        · rcases hb with e3 | e3
          · exact e (h.bi q t hq ht (e2.trans e3))
          · have := am_ltl h1
            omega
      · show 0 ≤ (if q = t then r' else s.r q).toInt
        rw [if_neg e]
        exact h3
      · show 4 * (if q = t then r' else s.r q).toInt ≤ _
        rw [if_neg e]
        exact h5
      · intro j hj
        show g j = (if q = t then g2 else s.c q) j
        rw [if_neg e]
        refine h6 j ?_
        have hj' : (j : Int) < 4 * (if q = t then r' else s.r q).toInt := hj
        rw [if_neg e] at hj'
        exact hj'
  · intro x hx
    exact Nat.le_trans (h.al x hx) hl
  · have e' : (if q = t then b' else B q) = (if q' = t then b' else B q') := e
    have lt : ∀ z, cTl K z → B z < S.1.length := fun z hz => by
      obtain ⟨k1, g, h1, -⟩ := h.ar z hz
      exact am_ltl h1
    by_cases e1 : q = t
    · by_cases e2 : q' = t
      · rw [e1, e2]
      · rw [if_pos e1, if_neg e2] at e'
        rcases hb with e3 | e3
        · exact absurd (h.bi q' t hq' ht (e'.symm.trans e3)) e2
        · have := lt q' hq'
          omega
    · by_cases e2 : q' = t
      · rw [if_neg e1, if_pos e2] at e'
        rcases hb with e3 | e3
        · exact absurd (h.bi q t hq ht (e'.trans e3)) e1
        · have := lt q hq
          omega
      · rw [if_neg e1, if_neg e2] at e'
        exact h.bi q q' hq hq' e'
  · show (if q = t then b' else B q) < 39 ∨ 94 ≤ (if q = t then b' else B q)
    by_cases e : q = t
    · rw [if_pos e]
      rcases hb with e3 | e3
      · rw [e3]
        exact h.bj t ht
      · right
        have := h.len
        omega
    · rw [if_neg e]
      exact h.bj q hq
  · obtain ⟨e6, m6, e13, m13, g1, g2', g3, g4, g5, g6⟩ := h.li
    exact ⟨e6, m6, e13, m13, fsn _ _ g1 (by omega), fsn _ _ g2' (by omega), lin _ _ _ g3, g4, lin _ _ _ g5, g6⟩
