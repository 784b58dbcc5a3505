/-! THE CLASS: tables -/
theorem SH.tab {aw t : Nat} {S : am_S} (h : SH aw S) (ht : cl (am_fs S) t = some 3) : ∃ a r n, am_fs S t = some (3, [.ref a, .int r]) ∧ am_arq S a = some (false, n) ∧ 0 ≤ r.toInt ∧ 4 * r.toInt ≤ n ∧ 32 ≤ n ∧ n ≤ 8388616 ∧ (t ≠ 3 → a ≠ aw) ∧ (a < 39 ∨ 94 ≤ a) ∧ r.toInt = iv S t 1 ∧ (t = 3 → a = aw) := by
  obtain ⟨fs, hf⟩ := cl_of ht
  rcases h.1.t _ _ _ hf with e | ⟨-, e⟩
  · cases e
  · match fs, e, hf with
    | [v, w], e, hf =>
      obtain ⟨⟨a, n, h1, h2, h3⟩, ⟨r, h4⟩, -⟩ := e
      subst h1 h4
      obtain ⟨n', b1, b2, b3, b4, b5, b6⟩ := h.1.tb t a r hf
      rw [h2] at b1
      cases b1
      refine ⟨a, r, n, hf, h2, b2, b3, b4, b5, b6, h3, ?_, fun e3 => ?_⟩
      · unfold iv; rw [hf]; rfl
      · subst e3
        obtain ⟨r', hr⟩ := h.1.aw
        rw [hf] at hr
        cases hr
        rfl
    | [], e, _ => exact e.elim
    | [v], e, _ => exact e.2.elim
    | v :: w :: y :: z, e, _ => exact e.2.2.elim
/-- an array's numbers are changed -/
def am_sa (S : am_S) (a n : Nat) (f : Nat → Int32) : am_S := (S.1.set a (.inl (false, n, f)), S.2.1, S.2.2)
section SA
variable {S : am_S} {a n : Nat} {f : Nat → Int32}
theorem sa_other (h : am_arq S a = some (false, n)) {j : Nat} : (j = a ∧ S.1[j]? = some (.inl (false, n, am_arf S a)) ∧ (am_sa S a n f).1[j]? = some (.inl (false, n, f))) ∨ (j ≠ a ∧ (am_sa S a n f).1[j]? = S.1[j]?) := by
  by_cases e : j = a
  · subst e
    left
    exact ⟨rfl, am_arq_ok h, by show (S.1.set j _)[j]? = _; rw [List.getElem?_set_self (am_ltl (am_arq_ok h))]⟩
  · right
    refine ⟨e, ?_⟩
    show (S.1.set a _)[j]? = _
    rw [List.getElem?_set_ne (fun z => e z.symm)]
theorem sa_fs (h : am_arq S a = some (false, n)) : am_fs (am_sa S a n f) = am_fs S := by
  funext j
  unfold am_fs
  rcases sa_other (f := f) h (j := j) with ⟨-, h1, h2⟩ | ⟨-, h1⟩
  · rw [h1, h2]
  · rw [h1]
theorem sa_arq (h : am_arq S a = some (false, n)) : am_arq (am_sa S a n f) = am_arq S := by
  funext j
  unfold am_arq
  rcases sa_other (f := f) h (j := j) with ⟨-, h1, h2⟩ | ⟨-, h1⟩
  · rw [h1, h2]
  · rw [h1]
theorem sa_rar (h : am_arq S a = some (false, n)) : am_rar (am_sa S a n f) = am_rar S := by
  funext j
  unfold am_rar
  rcases sa_other (f := f) h (j := j) with ⟨-, h1, h2⟩ | ⟨-, h1⟩
  · rw [h1, h2]
  · rw [h1]
theorem sa_rrf (h : am_arq S a = some (false, n)) : am_rrf (am_sa S a n f) = am_rrf S := by
  funext j
  unfold am_rrf
  rcases sa_other (f := f) h (j := j) with ⟨-, h1, h2⟩ | ⟨-, h1⟩
  · rw [h1, h2]
  · rw [h1]
theorem sa_arf (h : am_arq S a = some (false, n)) {j : Nat} (hj : j ≠ a) : am_arf (am_sa S a n f) j = am_arf S j := by
  unfold am_arf
  rcases sa_other (f := f) h (j := j) with ⟨e, -⟩ | ⟨-, h1⟩
  · exact absurd e hj
  · rw [h1]
theorem sa_iv (h : am_arq S a = some (false, n)) : iv (am_sa S a n f) = iv S := by
  funext k j
  unfold iv
  rw [sa_fs h]
theorem sa_len : (am_sa S a n f).1.length = S.1.length := List.length_set
theorem sa_sh {aw : Nat} (h : am_arq S a = some (false, n)) (hS : SH aw S) : SH aw (am_sa S a n f) := by
  refine ⟨?_, by rw [sa_len]; exact hS.2⟩
  rw [sa_fs h, sa_arq h, sa_rar h, sa_rrf h]
  exact hS.1
theorem sa_en (h : am_arq S a = some (false, n)) : EN (am_sa S a n f) = EN S := by
  unfold EN
  rw [sa_fs h, sa_arq h, sa_len, sa_iv h]
  rfl
theorem sa_ex (h : am_arq S a = some (false, n)) (ha : a < 39 ∨ 94 ≤ a) : Ex S (am_sa S a n f) := by
  refine ⟨fun k c q => by rw [sa_fs h]; exact q, fun k h1 h2 => ?_, Nat.le_of_eq sa_len.symm⟩
  rcases sa_other (f := f) h (j := k) with ⟨e, -⟩ | ⟨-, h1⟩
  · omega
  · exact h1
theorem sa_nw (h : am_arq S a = some (false, n)) : nw (am_sa S a n f) = nw S := by
  unfold nw
  rw [sa_fs h]
theorem sa_os (h : am_arq S a = some (false, n)) : os (am_sa S a n f) = os S := by
  unfold os
  rw [sa_fs h, sa_rar h, sa_rrf h]
theorem sa_sm {aw : Nat} (h : am_arq S a = some (false, n)) (ha : a < 39 ∨ 94 ≤ a) (hw : a ≠ aw) (hS : SH aw S) : Sm aw S (am_sa S a n f) := by
  refine ⟨sa_sh h hS, sa_ex h ha, ⟨?_, ?_, ?_, ?_⟩, ⟨?_, sa_nw h, ?_⟩, fun t _ => by rw [sa_iv h], Int.le_of_eq (sa_en h)⟩
  · unfold nx; rw [sa_iv h]
  · unfold lv; rw [sa_iv h]
  · unfold wr; rw [sa_iv h]
  · funext i; unfold kA wr; rw [sa_iv h, sa_arf h (fun e => hw e.symm)]
  · exact sa_os h
  · unfold fl; rw [sa_iv h, sa_nw h]
end SA
/-- a new array of numbers -/
def am_na (S : am_S) (n : Nat) : am_S := (S.1 ++ [.inl (false, n, fun _ => 0)], S.2.1 + 1, S.2.2 + n)
section NA
variable {S : am_S} {n : Nat}
theorem na_get {j : Nat} : (am_na S n).1[j]? = if j = S.1.length then some (.inl (false, n, fun _ => 0)) else S.1[j]? := by
  show (S.1 ++ _)[j]? = _
  rcases Nat.lt_trichotomy j S.1.length with h | h | h
  · rw [List.getElem?_append_left h, if_neg (Nat.ne_of_lt h)]
  · rw [h, if_pos rfl, List.getElem?_append_right (Nat.le_refl _), Nat.sub_self]
    rfl
  · rw [if_neg (Nat.ne_of_gt h), List.getElem?_append_right (Nat.le_of_lt h), List.getElem?_eq_none (Nat.le_of_lt h)]
    rw [List.getElem?_eq_none]
    simp only [List.length_cons, List.length_nil]
    omega
theorem na_none {j : Nat} (h : j = S.1.length) : S.1[j]? = none := List.getElem?_eq_none (by omega)
theorem na_fs : am_fs (am_na S n) = am_fs S := by
  funext j
  unfold am_fs
  rw [na_get]
  by_cases e : j = S.1.length
  · rw [if_pos e, na_none e]
  · rw [if_neg e]
theorem na_rar : am_rar (am_na S n) = am_rar S := by
  funext j
  unfold am_rar
  rw [na_get]
  by_cases e : j = S.1.length
  · rw [if_pos e, na_none e]
  · rw [if_neg e]
theorem na_rrf : am_rrf (am_na S n) = am_rrf S := by
  funext j
  unfold am_rrf
  rw [na_get]
  by_cases e : j = S.1.length
  · rw [if_pos e, na_none e]
  · rw [if_neg e]
theorem na_arq_new : am_arq (am_na S n) S.1.length = some (false, n) := by
  unfold am_arq
  rw [na_get, if_pos rfl]
theorem na_arq_old {a : Nat} {q : Bool × Nat} (h : am_arq S a = some q) : am_arq (am_na S n) a = some q := by
  unfold am_arq at h ⊢
  rw [na_get]
  by_cases e : a = S.1.length
  · rw [na_none e] at h
    cases h
  · rw [if_neg e]
    exact h
theorem na_arf_old {a : Nat} (h : a ≠ S.1.length) : am_arf (am_na S n) a = am_arf S a := by
  unfold am_arf
  rw [na_get, if_neg h]
theorem na_iv : iv (am_na S n) = iv S := by
  funext k j
  unfold iv
  rw [na_fs]
theorem na_nw : nw (am_na S n) = nw S := by
  unfold nw
  rw [na_fs]
theorem na_os : os (am_na S n) = os S := by
  unfold os
  rw [na_fs, na_rar, na_rrf]
theorem na_len : (am_na S n).1.length = S.1.length + 1 := by
  show (S.1 ++ _).length = _
  rw [List.length_append]
  rfl
theorem na_sh {aw : Nat} (h : SH aw S) : SH aw (am_na S n) := by
  refine ⟨?_, by rw [na_len]; have := h.2; omega⟩
  rw [na_fs, na_rar, na_rrf]
  have hm : ∀ a q, am_arq S a = some q → am_arq (am_na S n) a = some q := fun a q z => na_arq_old z
  refine ⟨fun k c fs q => ?_, h.1.s, fun k a r q => ?_, h.1.aw, h.1.l6, h.1.l13, h.1.ld, h.1.rg, h.1.rf, h.1.rr, h.1.ct⟩
  · rcases h.1.t k c fs q with e | ⟨e1, e2⟩
    · exact Or.inl e
    · exact Or.inr ⟨e1, c_f_mono (fun _ _ z => z) hm (fun _ _ z => z) e2⟩
  · obtain ⟨m, b1, b2⟩ := h.1.tb k a r q
    exact ⟨m, hm _ _ b1, b2⟩
theorem na_ex : Ex S (am_na S n) ∨ S.1.length < 94 := by
  by_cases h : S.1.length < 94
  · exact Or.inr h
  · refine Or.inl ⟨fun k c q => by rw [na_fs]; exact q, fun k h1 h2 => ?_, by rw [na_len]; omega⟩
    rw [na_get, if_neg (by omega)]
theorem c_phi_mono {F : c_F} {A A' : c_A} {aw : Nat} {R : c_R} {G : c_G} (h : SHf F A R G aw) (hm : ∀ a q, A a = some q → A' a = some q) (k : Nat) : c_phi F A' k = c_phi F A k := by
  unfold c_phi
  split
  · rename_i a r hk
    obtain ⟨m, b1, -⟩ := h.tb k a r hk
    rw [b1, hm _ _ b1]
  · rfl
theorem na_en {aw : Nat} (h : SH aw S) : EN (am_na S n) = EN S + 128 + n := by
  unfold EN
  rw [na_fs, na_len, na_iv]
  have e1 : c_phi (am_fs S) (am_arq (am_na S n)) = c_phi (am_fs S) (am_arq S) := funext fun k => c_phi_mono h.1 (fun a q z => na_arq_old z) k
  rw [e1]
  simp only [c_sum]
  have e2 : c_phi (am_fs S) (am_arq S) S.1.length = 0 := by
    have e3 : am_fs S S.1.length = none := by
      unfold am_fs
      rw [na_none rfl]
    unfold c_phi
    rw [e3]
  rw [e2]
  show 128 * ((S.2.1 + 1 : Nat) : Int) + ((S.2.2 + n : Nat) : Int) + _ + _ + _ = _
  omega
end NA
/-- a table's own two fields are changed: its array a, its rows r -/
theorem SHf.tab {F : c_F} {A : c_A} {R : c_R} {G : c_G} {aw t a n : Nat} {r : Int32} {q : List Value} (h : SHf F A R G aw) (hk : F t = some (3, q)) (hA : A a = some (false, n)) (ha : a < 39 ∨ 94 ≤ a) (h0 : 0 ≤ r.toInt) (h1 : 4 * r.toInt ≤ n) (h2 : 32 ≤ n) (h3 : n ≤ 8388616) (hw : if t = 3 then True else a ≠ aw) (hw3 : t = 3 → ∀ k a' r', k ≠ 3 → F k = some (3, [.ref a', .int r']) → a' ≠ a) : SHf (c_set F t (3, [.ref a, .int r])) A R G (if t = 3 then a else aw) := by
  have hcl := fun j => c_set_cl (fs' := [.ref a, .int r]) hk j
  have hm : ∀ j c', cl F j = some c' → cl (c_set F t (3, [.ref a, .int r])) j = some c' := fun j c' q => by rw [hcl]; exact q
  have hne : ∀ j c' q', F j = some (c', q') → c' ≠ 3 → c_set F t (3, [.ref a, .int r]) j = F j := fun j c' q' hj he => c_set_ne (fun e => he (by subst e; rw [hk] at hj; cases hj; rfl))
  have hback : ∀ j c' q', c_set F t (3, [.ref a, .int r]) j = some (c', q') → c' ≠ 3 → F j = some (c', q') := fun j c' q' hj he => by
    by_cases e : j = t
    · subst e; rw [c_set_eq] at hj; cases hj; exact absurd rfl he
    · rw [c_set_ne e] at hj; exact hj
  refine ⟨fun j c' q' hj => ?_, fun p hp => by rw [hcl]; exact h.s p hp, fun j a' r' hj => ?_, ?_, ?_, ?_, fun a' q1 q2 q3 q4 e => ?_, fun a' i x e => by rw [hcl]; exact h.rg a' i x e, fun j c' q' hj => ?_, h.rr, ?_⟩
  · by_cases e : j = t
    · subst e
      rw [c_set_eq] at hj
      cases hj
      exact Or.inr ⟨by decide, ⟨a, n, rfl, hA, ha⟩, ⟨r, rfl⟩, trivial⟩
    · rw [c_set_ne e] at hj
      rcases h.t _ _ _ hj with e | ⟨e1, e2⟩
      · exact Or.inl e
      · exact Or.inr ⟨e1, c_f_mono hm (fun _ _ z => z) (fun _ _ z => z) e2⟩
  · by_cases e : j = t
    · subst e
      rw [c_set_eq] at hj
      cases hj
      refine ⟨n, hA, h0, h1, h2, h3, fun h5 => ?_⟩
      rw [if_neg h5] at hw ⊢
      exact hw
    · rw [c_set_ne e] at hj
      obtain ⟨m, b1, b2, b3, b4, b5, b6⟩ := h.tb j a' r' hj
      refine ⟨m, b1, b2, b3, b4, b5, fun h5 => ?_⟩
      by_cases h6 : t = 3
      · rw [if_pos h6]; exact hw3 h6 j a' r' h5 hj
      · rw [if_neg h6]; exact b6 h5
  · by_cases h6 : t = 3
    · rw [if_pos h6]
      exact ⟨r, by rw [h6]; exact c_set_eq⟩
    · rw [if_neg h6]
      obtain ⟨r', hr⟩ := h.aw
      exact ⟨r', by rw [c_set_ne (fun e => h6 e.symm)]; exact hr⟩
  · obtain ⟨ed, sz, mc, e1, e2⟩ := h.l6
    exact ⟨ed, sz, mc, by rw [hne _ _ _ e1 (by decide)]; exact e1, e2⟩
  · obtain ⟨ed, sz, mc, e1, e2⟩ := h.l13
    exact ⟨ed, sz, mc, by rw [hne _ _ _ e1 (by decide)]; exact e1, e2⟩
  · have e1 := hback _ _ _ e (by decide)
    intro e2
    exact h.ld a' q1 q2 q3 q4 e1 (hback _ _ _ e2 (by decide))
  · by_cases e : j = t
    · subst e
      rw [c_set_eq] at hj
      cases hj
      exact h.rf _ _ _ hk
    · rw [c_set_ne e] at hj
      exact h.rf _ _ _ hj
  · obtain ⟨k1, c1, m1, s1, q1, e1, e2, e3⟩ := h.ct
    exact ⟨k1, c1, m1, s1, q1, by rw [hne _ _ _ e1 (by decide)]; exact e1, by rw [hne _ _ _ e2 (by decide)]; exact e2, e3⟩
theorem c_phi_tab {F : c_F} {A : c_A} {t a n : Nat} {r : Int32} (h : F t = some (3, [.ref a, .int r])) (hA : A a = some (false, n)) : c_phi F A t = if 32 * r.toInt - 4 * (n : Int) ≤ 0 then 0 else 32 * r.toInt - 4 * (n : Int) := by
  unfold c_phi
  simp only [h, hA]
