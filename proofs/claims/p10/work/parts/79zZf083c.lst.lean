/-! THE CLASS: lists, their arrays of bodies; a new body -/
theorem sh_1 {x : Int32} (h0 : 0 ≤ x.toInt) : ∃ z, am_bin 5 x 1 = z ∧ 0 ≤ z.toInt ∧ z.toInt ≤ x.toInt := by
  refine ⟨_, rfl, ?_⟩
  have e : (am_bin 5 x 1).toInt = x.toInt >>> (1 : Nat) := by
    show (x >>> ((1 : Int32) &&& 31)).toBitVec.toInt = _
    rw [Int32.toBitVec_shiftRight, BitVec.toInt_sshiftRight']
    rfl
  rw [e, Int.shiftRight_eq_div_pow, show ((2 ^ 1 : Nat) : Int) = 2 from rfl]
  constructor <;> omega
def am_sr (S : am_S) (a n : Nat) (g : Nat → Option Nat) : am_S := (S.1.set a (.inr (.inl (n, g))), S.2.1, S.2.2)
def g_set (G : c_G) (a : Nat) (g : Nat → Option Nat) : c_G := fun j => if j = a then g else G j
def l_ok (F : c_F) (a : Nat) (g : Nat → Option Nat) (k : Nat) : Prop := ∀ sz mc, F k = some (5, [.ref a, .int sz, mc]) → ∀ i : Nat, (i : Int) < sz.toInt → (g i).isSome = true
section SR
variable {S : am_S} {a n : Nat} {g : Nat → Option Nat}
theorem sr_other (h : am_rar S a = some n) {j : Nat} : (j = a ∧ S.1[j]? = some (.inr (.inl (n, am_rrf S a))) ∧ (am_sr S a n g).1[j]? = some (.inr (.inl (n, g)))) ∨ (j ≠ a ∧ (am_sr S a n g).1[j]? = S.1[j]?) := by
  by_cases e : j = a
  · subst e
    left
    exact ⟨rfl, am_rar_ok h, by show (S.1.set j _)[j]? = _; rw [List.getElem?_set_self (am_ltl (am_rar_ok h))]⟩
  · right
    refine ⟨e, ?_⟩
    show (S.1.set a _)[j]? = _
    rw [List.getElem?_set_ne (fun z => e z.symm)]
theorem sr_fs (h : am_rar S a = some n) : am_fs (am_sr S a n g) = am_fs S := by
  funext j
  unfold am_fs
  rcases sr_other (g := g) h (j := j) with ⟨-, h1, h2⟩ | ⟨-, h1⟩
  · rw [h1, h2]
  · rw [h1]
theorem sr_arq (h : am_rar S a = some n) : am_arq (am_sr S a n g) = am_arq S := by
  funext j
  unfold am_arq
  rcases sr_other (g := g) h (j := j) with ⟨-, h1, h2⟩ | ⟨-, h1⟩
  · rw [h1, h2]
  · rw [h1]
theorem sr_arf (h : am_rar S a = some n) : am_arf (am_sr S a n g) = am_arf S := by
  funext j
  unfold am_arf
  rcases sr_other (g := g) h (j := j) with ⟨-, h1, h2⟩ | ⟨-, h1⟩
  · rw [h1, h2]
  · rw [h1]
theorem sr_rar (h : am_rar S a = some n) : am_rar (am_sr S a n g) = am_rar S := by
  funext j
  unfold am_rar
  rcases sr_other (g := g) h (j := j) with ⟨-, h1, h2⟩ | ⟨-, h1⟩
  · rw [h1, h2]
  · rw [h1]
theorem sr_rrf (h : am_rar S a = some n) : am_rrf (am_sr S a n g) = g_set (am_rrf S) a g := by
  funext j
  unfold g_set
  rcases sr_other (g := g) h (j := j) with ⟨e, h1, h2⟩ | ⟨e, h1⟩
  · rw [if_pos e]
    unfold am_rrf
    rw [h2]
  · rw [if_neg e]
    unfold am_rrf
    rw [h1]
theorem sr_iv (h : am_rar S a = some n) : iv (am_sr S a n g) = iv S := by
  funext k j
  unfold iv
  rw [sr_fs h]
theorem sr_nw (h : am_rar S a = some n) : nw (am_sr S a n g) = nw S := by
  unfold nw
  rw [sr_fs h]
theorem sr_kA {aw : Nat} (h : am_rar S a = some n) : kA aw (am_sr S a n g) = kA aw S := by
  funext i
  unfold kA wr
  rw [sr_iv h, sr_arf h]
theorem sr_len : (am_sr S a n g).1.length = S.1.length := List.length_set
theorem sr_en (h : am_rar S a = some n) : EN (am_sr S a n g) = EN S := by
  unfold EN
  rw [sr_fs h, sr_arq h, sr_len, sr_iv h]
  rfl
theorem sr_ex (h : am_rar S a = some n) (ha : a < 39 ∨ 94 ≤ a) : Ex S (am_sr S a n g) := by
  refine ⟨fun k c q => by rw [sr_fs h]; exact q, fun k h1 h2 => ?_, Nat.le_of_eq sr_len.symm⟩
  rcases sr_other (g := g) h (j := k) with ⟨e, -⟩ | ⟨-, h1⟩
  · omega
  · exact h1
theorem sr_sh {aw : Nat} (h : am_rar S a = some n) (hS : SH aw S) (hg : ∀ i b, g i = some b → cl (am_fs S) b = some 8) (l6 : l_ok (am_fs S) a g 6) (l13 : l_ok (am_fs S) a g 13) : SH aw (am_sr S a n g) := by
  refine ⟨?_, by rw [sr_len]; exact hS.2⟩
  rw [sr_fs h, sr_arq h, sr_rar h, sr_rrf h]
  have hc : ∀ k, c_al (am_fs S) (am_rar S) (am_rrf S) k → l_ok (am_fs S) a g k → c_al (am_fs S) (am_rar S) (g_set (am_rrf S) a g) k := by
    rintro k ⟨ed, sz, mc, e1, b1, b2, e2⟩ hl
    refine ⟨ed, sz, mc, e1, b1, b2, ?_⟩
    rcases e2 with e2 | ⟨a', n', ea, hR, hle, hn, hel⟩
    · exact Or.inl e2
    · refine Or.inr ⟨a', n', ea, hR, hle, hn, fun i hi => ?_⟩
      unfold g_set
      by_cases e : a' = a
      · rw [if_pos e]
        subst e
        subst ea
        exact hl sz _ e1 i hi
      · rw [if_neg e]
        exact hel i hi
  refine ⟨hS.1.t, hS.1.s, hS.1.tb, hS.1.aw, hc 6 hS.1.l6 l6, hc 13 hS.1.l13 l13, hS.1.ld, fun a' i b q => ?_, hS.1.rf, hS.1.rr, hS.1.ct⟩
  unfold g_set at q
  by_cases e : a' = a
  · rw [if_pos e] at q
    exact hg i b q
  · rw [if_neg e] at q
    exact hS.1.rg a' i b q
end SR
/-- a new array of references -/
def am_nr (S : am_S) (n : Nat) : am_S := (S.1 ++ [.inr (.inl (n, fun _ => none))], S.2.1 + 1, S.2.2 + n)
section NR
variable {S : am_S} {n : Nat}
theorem nr_get {j : Nat} : (am_nr S n).1[j]? = if j = S.1.length then some (.inr (.inl (n, fun _ => none))) else S.1[j]? := by
  show (S.1 ++ _)[j]? = _
  rcases Nat.lt_trichotomy j S.1.length with h | h | h
  · rw [List.getElem?_append_left h, if_neg (Nat.ne_of_lt h)]
  · rw [h, if_pos rfl, List.getElem?_append_right (Nat.le_refl _), Nat.sub_self]
    rfl
  · rw [if_neg (Nat.ne_of_gt h), List.getElem?_append_right (Nat.le_of_lt h), List.getElem?_eq_none (Nat.le_of_lt h)]
    rw [List.getElem?_eq_none]
    simp only [List.length_cons, List.length_nil]
    omega
theorem nr_fs : am_fs (am_nr S n) = am_fs S := by
  funext j
  unfold am_fs
  rw [nr_get]
  by_cases e : j = S.1.length
  · rw [if_pos e, na_none e]
  · rw [if_neg e]
theorem nr_arq : am_arq (am_nr S n) = am_arq S := by
  funext j
  unfold am_arq
  rw [nr_get]
  by_cases e : j = S.1.length
  · rw [if_pos e, na_none e]
  · rw [if_neg e]
theorem nr_arf : am_arf (am_nr S n) = am_arf S := by
  funext j
  unfold am_arf
  rw [nr_get]
  by_cases e : j = S.1.length
  · rw [if_pos e, na_none e]
  · rw [if_neg e]
theorem nr_rrf : am_rrf (am_nr S n) = am_rrf S := by
  funext j
  unfold am_rrf
  rw [nr_get]
  by_cases e : j = S.1.length
  · rw [if_pos e, na_none e]
  · rw [if_neg e]
theorem nr_rar_new : am_rar (am_nr S n) S.1.length = some n := by
  unfold am_rar
  rw [nr_get, if_pos rfl]
theorem nr_rar_old {a q : Nat} (h : am_rar S a = some q) : am_rar (am_nr S n) a = some q := by
  unfold am_rar at h ⊢
  rw [nr_get]
  by_cases e : a = S.1.length
  · rw [na_none e] at h
    cases h
  · rw [if_neg e]
    exact h
theorem nr_rar_or {a q : Nat} (h : am_rar (am_nr S n) a = some q) : a = S.1.length ∨ am_rar S a = some q := by
  unfold am_rar at h ⊢
  rw [nr_get] at h
  by_cases e : a = S.1.length
  · exact Or.inl e
  · rw [if_neg e] at h
    exact Or.inr h
theorem nr_iv : iv (am_nr S n) = iv S := by
  funext k j
  unfold iv
  rw [nr_fs]
theorem nr_nw : nw (am_nr S n) = nw S := by
  unfold nw
  rw [nr_fs]
theorem nr_kA {aw : Nat} : kA aw (am_nr S n) = kA aw S := by
  funext i
  unfold kA wr
  rw [nr_iv, nr_arf]
theorem nr_len : (am_nr S n).1.length = S.1.length + 1 := by
  show (S.1 ++ _).length = _
  rw [List.length_append]
  rfl
theorem nr_sh {aw : Nat} (h : SH aw S) : SH aw (am_nr S n) := by
  refine ⟨?_, by rw [nr_len]; have := h.2; omega⟩
  rw [nr_fs, nr_arq, nr_rrf]
  have hm : ∀ a q, am_rar S a = some q → am_rar (am_nr S n) a = some q := fun a q z => nr_rar_old z
  have hc : ∀ k, c_al (am_fs S) (am_rar S) (am_rrf S) k → c_al (am_fs S) (am_rar (am_nr S n)) (am_rrf S) k := by
    rintro k ⟨ed, sz, mc, e1, b1, b2, e2⟩
    refine ⟨ed, sz, mc, e1, b1, b2, ?_⟩
    rcases e2 with e2 | ⟨a', n', ea, hR, hle, hn, hel⟩
    · exact Or.inl e2
    · exact Or.inr ⟨a', n', ea, hm _ _ hR, hle, hn, hel⟩
  refine ⟨fun k c fs q => ?_, h.1.s, h.1.tb, h.1.aw, hc 6 h.1.l6, hc 13 h.1.l13, h.1.ld, h.1.rg, h.1.rf, fun a q hq => ?_, h.1.ct⟩
  · rcases h.1.t k c fs q with e | ⟨e1, e2⟩
    · exact Or.inl e
    · exact Or.inr ⟨e1, c_f_mono (fun _ _ z => z) (fun _ _ z => z) hm e2⟩
  · rcases nr_rar_or hq with e | e
    · right
      rw [e]
      exact h.2
    · exact h.1.rr a q e
theorem nr_ex (h : 94 ≤ S.1.length) : Ex S (am_nr S n) := by
  refine ⟨fun k c q => by rw [nr_fs]; exact q, fun k h1 h2 => ?_, by rw [nr_len]; omega⟩
  rw [nr_get, if_neg (by omega)]
theorem nr_en : EN (am_nr S n) = EN S + 128 + n := by
  unfold EN
  rw [nr_fs, nr_arq, nr_len, nr_iv]
  simp only [c_sum]
  have e2 : c_phi (am_fs S) (am_arq S) S.1.length = 0 := by
    have e3 : am_fs S S.1.length = none := by
      unfold am_fs
      rw [na_none rfl]
    unfold c_phi
    rw [e3]
  rw [e2]
  show 128 * ((S.2.1 + 1 : Nat) : Int) + ((S.2.2 + n : Nat) : Int) + _ + _ + _ = _
  omega
end NR
/-- what a list's array and size may be -/
def c_lv (R : c_R) (G : c_G) (ed : Value) (sz : Int32) : Prop := 0 ≤ sz.toInt ∧ sz.toInt ≤ 100000 ∧ ((ed = .long 0 ∧ sz.toInt = 0) ∨ ∃ a n, ed = .ref a ∧ R a = some n ∧ sz.toInt ≤ n ∧ n ≤ 1000000 ∧ ∀ i : Nat, (i : Int) < sz.toInt → (G a i).isSome = true)
theorem SHf.lst {F : c_F} {A : c_A} {R : c_R} {G : c_G} {aw k : Nat} {q : List Value} {ed : Value} {sz mc : Int32} (h : SHf F A R G aw) (hk : k = 6 ∨ k = 13) (hF : F k = some (5, q)) (hv : c_lv R G ed sz) (hd : ∀ a, ed = .ref a → ∀ k', (k' = 6 ∨ k' = 13) → k' ≠ k → ∀ q1 q2, F k' ≠ some (5, [.ref a, q1, q2])) (hct : k = 6 → ∀ kk c, F 5 = some (4, [kk, .int c]) → c.toInt ≤ sz.toInt) : SHf (c_set F k (5, [ed, .int sz, .int mc])) A R G aw := by
  have hcl := fun j => c_set_cl (fs' := [ed, .int sz, .int mc]) hF j
  have hm : ∀ j c', cl F j = some c' → cl (c_set F k (5, [ed, .int sz, .int mc])) j = some c' := fun j c' q => by rw [hcl]; exact q
  have hne : ∀ j c' q', F j = some (c', q') → c' ≠ 5 → c_set F k (5, [ed, .int sz, .int mc]) j = F j := fun j c' q' hj he => c_set_ne (fun e => he (by subst e; rw [hF] at hj; cases hj; rfl))
  have hback : ∀ j c' q', c_set F k (5, [ed, .int sz, .int mc]) j = some (c', q') → c' ≠ 5 → F j = some (c', q') := fun j c' q' hj he => by
    by_cases e : j = k
    · subst e; rw [c_set_eq] at hj; cases hj; exact absurd rfl he
    · rw [c_set_ne e] at hj; exact hj
  have hal : ∀ k', (k' = 6 ∨ k' = 13) → c_al F R G k' → c_al (c_set F k (5, [ed, .int sz, .int mc])) R G k' := fun k' hk' ha => by
    by_cases e : k' = k
    · subst e
      exact ⟨ed, sz, mc, c_set_eq, hv⟩
    · obtain ⟨ed', sz', mc', e1, e2⟩ := ha
      exact ⟨ed', sz', mc', by rw [c_set_ne e]; exact e1, e2⟩
  refine ⟨fun j c' q' hj => ?_, fun p hp => by rw [hcl]; exact h.s p hp, fun j a' r' hj => h.tb j a' r' (hback _ _ _ hj (by decide)), ?_, hal 6 (Or.inl rfl) h.l6, hal 13 (Or.inr rfl) h.l13, fun a' q1 q2 q3 q4 e => ?_, fun a' i x e => by rw [hcl]; exact h.rg a' i x e, fun j c' q' hj => ?_, h.rr, ?_⟩
  · by_cases e : j = k
    · subst e
      rw [c_set_eq] at hj
      cases hj
      refine Or.inr ⟨by decide, ?_, ⟨sz, rfl⟩, ⟨mc, rfl⟩, trivial⟩
      rcases hv.2.2 with e | ⟨a, n, e1, e2, -⟩
      · exact Or.inl e.1
      · exact Or.inr ⟨a, n, e1, e2⟩
    · rw [c_set_ne e] at hj
      rcases h.t _ _ _ hj with e | ⟨e1, e2⟩
      · exact Or.inl e
      · exact Or.inr ⟨e1, c_f_mono hm (fun _ _ z => z) (fun _ _ z => z) e2⟩
  · obtain ⟨r', hr⟩ := h.aw
    exact ⟨r', by rw [hne _ _ _ hr (by decide)]; exact hr⟩
  · intro e2
    rcases hk with e6 | e13
    · subst e6
      rw [c_set_eq] at e
      rw [c_set_ne (by decide)] at e2
      cases e
      exact hd a' rfl 13 (Or.inr rfl) (by decide) _ _ e2
    · subst e13
      rw [c_set_eq] at e2
      rw [c_set_ne (by decide)] at e
      cases e2
      exact hd a' rfl 6 (Or.inl rfl) (by decide) _ _ e
  · by_cases e : j = k
    · intro h1 h2
      omega
    · rw [c_set_ne e] at hj
      exact h.rf _ _ _ hj
  · obtain ⟨k1, c1, m1, s1, q1, e1, e2, e3, e4⟩ := h.ct
    have e5 : c_set F k (5, [ed, .int sz, .int mc]) 5 = some (4, [k1, .int c1]) := by rw [hne _ _ _ e1 (by decide)]; exact e1
    by_cases e : k = 6
    · subst e
      exact ⟨k1, c1, ed, sz, .int mc, e5, c_set_eq, e3, hct rfl k1 c1 e1⟩
    · exact ⟨k1, c1, m1, s1, q1, e5, by rw [c_set_ne (fun z => e z.symm)]; exact e2, e3, e4⟩
/-- how many bodies there are is written -/
theorem SHf.cnt {F : c_F} {A : c_A} {R : c_R} {G : c_G} {aw : Nat} {kk : Value} {c c' : Int32} (h : SHf F A R G aw) (hF : F 5 = some (4, [kk, .int c])) (h0 : 0 ≤ c'.toInt) (h1 : ∀ m s q, F 6 = some (5, [m, .int s, q]) → c'.toInt ≤ s.toInt) : SHf (c_set F 5 (4, [kk, .int c'])) A R G aw := by
  have hcl := fun j => c_set_cl (fs' := [kk, .int c']) hF j
  have hm : ∀ j c1, cl F j = some c1 → cl (c_set F 5 (4, [kk, .int c'])) j = some c1 := fun j c1 q => by rw [hcl]; exact q
  have hne : ∀ j c1 q', F j = some (c1, q') → c1 ≠ 4 → c_set F 5 (4, [kk, .int c']) j = F j := fun j c1 q' hj he => c_set_ne (fun e => he (by subst e; rw [hF] at hj; cases hj; rfl))
  have hback : ∀ j c1 q', c_set F 5 (4, [kk, .int c']) j = some (c1, q') → c1 ≠ 4 → F j = some (c1, q') := fun j c1 q' hj he => by
    by_cases e : j = 5
    · subst e; rw [c_set_eq] at hj; cases hj; exact absurd rfl he
    · rw [c_set_ne e] at hj; exact hj
  have hal : ∀ k', k' ≠ 5 → c_al F R G k' → c_al (c_set F 5 (4, [kk, .int c'])) R G k' := fun k' hk' ha => by
    obtain ⟨ed', sz', mc', e1, e2⟩ := ha
    exact ⟨ed', sz', mc', by rw [c_set_ne hk']; exact e1, e2⟩
  refine ⟨fun j c1 q' hj => ?_, fun p hp => by rw [hcl]; exact h.s p hp, fun j a' r' hj => h.tb j a' r' (hback _ _ _ hj (by decide)), ?_, hal 6 (by decide) h.l6, hal 13 (by decide) h.l13, fun a' q1 q2 q3 q4 e => ?_, fun a' i x e => by rw [hcl]; exact h.rg a' i x e, fun j c1 q' hj => ?_, h.rr, ?_⟩
  · by_cases e : j = 5
    · subst e
      rw [c_set_eq] at hj
      cases hj
      rcases h.t _ _ _ hF with e | ⟨e1, e2⟩
      · cases e
      · exact Or.inr ⟨e1, c_f_mono hm (fun _ _ z => z) (fun _ _ z => z) (c_f_set (j := 1) (t := 0) (v := .int c') e2 rfl ⟨c', rfl⟩)⟩
    · rw [c_set_ne e] at hj
      rcases h.t _ _ _ hj with e | ⟨e1, e2⟩
      · exact Or.inl e
      · exact Or.inr ⟨e1, c_f_mono hm (fun _ _ z => z) (fun _ _ z => z) e2⟩
  · obtain ⟨r', hr⟩ := h.aw
    exact ⟨r', by rw [hne _ _ _ hr (by decide)]; exact hr⟩
  · have e1 := hback _ _ _ e (by decide)
    intro e2
    exact h.ld a' q1 q2 q3 q4 e1 (hback _ _ _ e2 (by decide))
  · by_cases e : j = 5
    · intro h1 h2
      omega
    · rw [c_set_ne e] at hj
      exact h.rf _ _ _ hj
  · obtain ⟨k1, c1, m1, s1, q1, e1, e2, e3, e4⟩ := h.ct
    exact ⟨kk, c', m1, s1, q1, c_set_eq, by rw [c_set_ne (by decide)]; exact e2, h0, h1 _ _ _ e2⟩
/-- only the object k has other numbers -/
def Li (aw k : Nat) (c : Int) (S S' : am_S) : Prop := SH aw S' ∧ Ex S S' ∧ (∀ j i, j ≠ k → iv S' j i = iv S j i) ∧ (kA aw S' = kA aw S ∧ nw S' = nw S) ∧ EN S' ≤ EN S + c
theorem li_fl {aw k : Nat} {c : Int} {S S' : am_S} (h : Li aw k c S S') (hS : SH aw S) (hk : k = 5 ∨ k = 6 ∨ k = 13) : fl S' = fl S := by
  unfold fl
  rw [h.2.2.2.1.2]
  refine h.2.2.1 _ _ (fun e => ?_)
  have h8 := hS.nwc
  rw [e] at h8
  rcases hk with rfl | rfl | rfl
  · have := hS.1.s (5, 4) (by decide)
    rw [show ((5, 4) : Nat × Nat).1 = 5 from rfl, h8] at this
    cases this
  · have := hS.1.s (6, 5) (by decide)
    rw [show ((6, 5) : Nat × Nat).1 = 6 from rfl, h8] at this
    cases this
  · have := hS.1.s (13, 5) (by decide)
    rw [show ((13, 5) : Nat × Nat).1 = 13 from rfl, h8] at this
    cases this
theorem cl_l {aw k : Nat} {S : am_S} (h : SH aw S) (hl : k = 6 ∨ k = 13) : cl (am_fs S) k = some 5 := by
  rcases hl with rfl | rfl
  · exact h.1.s (6, 5) (by decide)
  · exact h.1.s (13, 5) (by decide)
theorem SH.lst {aw k : Nat} {S : am_S} (h : SH aw S) (hl : k = 6 ∨ k = 13) : ∃ ed sz mc, am_fs S k = some (5, [ed, .int sz, .int mc]) ∧ sz.toInt = iv S k 1 ∧ 0 ≤ sz.toInt ∧ sz.toInt ≤ 100000 ∧ ((ed = .long 0 ∧ sz.toInt = 0) ∨ ∃ a n, ed = .ref a ∧ am_rar S a = some n ∧ sz.toInt ≤ n ∧ n ≤ 1000000 ∧ ∀ i : Nat, (i : Int) < sz.toInt → (am_rrf S a i).isSome = true) := by
  have ha : c_al (am_fs S) (am_rar S) (am_rrf S) k := by
    rcases hl with rfl | rfl
    · exact h.1.l6
    · exact h.1.l13
  obtain ⟨ed, sz, mc, e1, e2⟩ := ha
  exact ⟨ed, sz, mc, e1, by unfold iv; rw [e1]; rfl, e2⟩
/-- the other list has another array -/
theorem SH.dis {aw k a : Nat} {S : am_S} {q1 q2 : Value} (h : SH aw S) (hl : k = 6 ∨ k = 13) (hF : am_fs S k = some (5, [.ref a, q1, q2])) : ∀ k', (k' = 6 ∨ k' = 13) → k' ≠ k → ∀ q3 q4, am_fs S k' ≠ some (5, [.ref a, q3, q4]) := by
  intro k' hk' hn q3 q4 e
  rcases hl with rfl | rfl
  · rcases hk' with rfl | rfl
    · exact hn rfl
    · exact h.1.ld a q1 q2 q3 q4 hF e
  · rcases hk' with rfl | rfl
    · exact h.1.ld a q3 q4 q1 q2 e hF
    · exact hn rfl
theorem li_so {aw k c0 : Nat} {S : am_S} {q0 q1 : List Value} (h : SH aw S) (hF : am_fs S k = some (c0, q0)) (hc : c0 = 4 ∨ c0 = 5) (h1 : SHf (c_set (am_fs S) k (c0, q1)) (am_arq S) (am_rar S) (am_rrf S) aw) : Li aw k 0 S (am_so S k (c0, q1)) := by
  have nk : ∀ j c', cl (am_fs S) j = some c' → c' ≠ c0 → j ≠ k := fun j c' h6 h5 e => by
    subst e
    rw [cl_mk hF] at h6
    exact h5 (Option.some.inj h6).symm
  have n3 : ∀ j, cl (am_fs S) j = some 3 → j ≠ k := fun j h4 => nk j 3 h4 (by omega)
  refine ⟨⟨?_, by rw [so_len]; exact h.2⟩, so_ex hF (by omega) (fun j c' fs' hj => h.1.rf j c' fs' hj), fun j i hj => iv_so hF hj, ⟨?_, ?_⟩, ?_⟩
  · rw [so_fs hF, so_arq hF, so_rar hF, so_rrf hF]
    exact h1
  · funext i
    unfold kA wr
    rw [iv_so hF (n3 3 (h.1.s (3, 3) (by decide))), so_arf hF]
  · unfold nw
    rw [so_fs hF, c_set_ne (nk 12 7 (h.1.s (12, 7) (by decide)) (by omega))]
  · unfold EN
    rw [iv_so hF (n3 8 (h.1.s (8, 3) (by decide))), iv_so hF (n3 10 (h.1.s (10, 3) (by decide)))]
    rw [so_fs hF, so_arq hF, so_len]
    show 128 * (S.2.1 : Int) + S.2.2 + _ + _ + _ ≤ _
    have e9 : c_sum (c_phi (c_set (am_fs S) k (c0, q1)) (am_arq S)) S.1.length = c_sum (c_phi (am_fs S) (am_arq S)) S.1.length := c_sum_ext _ (fun j _ => c_phi_set hF (by omega) j)
    rw [e9]
    omega
/-- a list's own fields are written -/
theorem SH.setl {aw k : Nat} {S : am_S} {q : List Value} {ed : Value} {sz mc : Int32} (h : SH aw S) (hl : k = 6 ∨ k = 13) (hF : am_fs S k = some (5, q)) (hv : c_lv (am_rar S) (am_rrf S) ed sz) (hd : ∀ a, ed = .ref a → ∀ k', (k' = 6 ∨ k' = 13) → k' ≠ k → ∀ q1 q2, am_fs S k' ≠ some (5, [.ref a, q1, q2])) (hct : k = 6 → iv S 5 1 ≤ sz.toInt) : Li aw k 0 S (am_so S k (5, [ed, .int sz, .int mc])) ∧ iv (am_so S k (5, [ed, .int sz, .int mc])) k 1 = sz.toInt ∧ am_fs (am_so S k (5, [ed, .int sz, .int mc])) k = some (5, [ed, .int sz, .int mc]) ∧ am_rar (am_so S k (5, [ed, .int sz, .int mc])) = am_rar S ∧ am_rrf (am_so S k (5, [ed, .int sz, .int mc])) = am_rrf S := by
  refine ⟨li_so h hF (Or.inr rfl) (h.1.lst hl hF hv hd (fun e kk c hc => ?_)), ?_, by rw [so_fs hF, c_set_eq], so_rar hF, so_rrf hF⟩
  · have e1 : iv S 5 1 = c.toInt := by unfold iv; rw [hc]; rfl
    have := hct e
    omega
  · unfold iv
    rw [so_fs hF, c_set_eq]
    rfl
theorem SH.setcnt {aw : Nat} {S : am_S} {kk : Value} {c c' : Int32} (h : SH aw S) (hF : am_fs S 5 = some (4, [kk, .int c])) (h0 : 0 ≤ c'.toInt) (h1 : c'.toInt ≤ iv S 6 1) : Li aw 5 0 S (am_so S 5 (4, [kk, .int c'])) ∧ iv (am_so S 5 (4, [kk, .int c'])) 5 1 = c'.toInt := by
  refine ⟨li_so h hF (Or.inl rfl) (h.1.cnt hF h0 (fun m s q e => ?_)), ?_⟩
  · have e1 : iv S 6 1 = s.toInt := by unfold iv; rw [e]; rfl
    omega
  · unfold iv
    rw [so_fs hF, c_set_eq]
    rfl
theorem SH.cnt {aw : Nat} {S : am_S} (h : SH aw S) : ∃ c, am_fs S 5 = some (4, [.ref 6, .int c]) ∧ c.toInt = iv S 5 1 ∧ 0 ≤ c.toInt ∧ c.toInt ≤ iv S 6 1 := by
  obtain ⟨k1, c1, m1, s1, q1, e1, e2, e3, e4⟩ := h.1.ct
  rcases h.1.t _ _ _ e1 with e | ⟨-, e⟩
  · cases e
  · have e5 : k1 = .ref (106 - 100) := e.1
    subst e5
    refine ⟨c1, e1, by unfold iv; rw [e1]; rfl, e3, ?_⟩
    have e6 : iv S 6 1 = s1.toInt := by unfold iv; rw [e2]; rfl
    omega
/-! rules -/
section RL
variable {P : am_P} {d M pc : Nat} {ls : am_V} {st : List Value} {S : am_S} {Q : Option (Option Value) → am_S → Prop} {a b c nx' aw : Nat} {x : Int32} {tab : List (Int32 × Nat)}
theorem am_e24r {r n : Nat} {z : Int32} (hi : P.1 M pc = some (24, a, b, c, x, nx', tab)) (hc : am_rar S r = some n) (hz : Int32.ofNat n = z) (k : am_E P d M nx' ls (.int z :: st) S Q) : am_E P d M pc ls (.ref r :: st) S Q := am_eg hi (by decide) (by simp only [am_do, am_rar_ok hc, hz]) k
theorem am_e24l (hi : P.1 M pc = some (24, a, b, c, x, nx', tab)) (k : am_E P d M nx' ls (.int 0 :: st) S Q) : am_E P d M pc ls (.long 0 :: st) S Q := am_eg hi (by decide) (by simp only [am_do, if_true]) k
theorem am_e38 {v : Int32} (hi : P.1 M pc = some (38, a, b, c, x, nx', tab)) (h0 : 0 ≤ v.toInt) (h1 : v.toInt ≤ 16777216) (k : am_E P d M nx' ls (.ref S.1.length :: st) (am_nr S v.toNatClampNeg) Q) : am_E P d M pc ls (.int v :: st) S Q := by
  have hx := mm_idx (n := 16777217) h0 (by omega)
  exact am_eg hi (by decide) (by simp only [am_do]; rw [if_pos ⟨hx.1, by omega⟩]; rfl) k
theorem am_e40s {v r n : Nat} {i : Int32} (hi : P.1 M pc = some (40, 8, b, c, x, nx', tab)) (hv : cl (am_fs S) v = some 8) (hR : am_rar S r = some n) (h0 : 0 ≤ i.toInt) (h1 : i.toInt < n) (k : am_E P d M nx' ls st (am_sr S r n (va_up (am_rrf S r) i.toNatClampNeg (some v))) Q) : am_E P d M pc ls (.ref v :: .int i :: .ref r :: st) S Q := by
  have hx := mm_idx h0 h1
  obtain ⟨fs, hf⟩ := cl_of hv
  exact am_eg hi (by decide) (by simp only [am_do, am_fs_ok hf, am_rar_ok hR]; rw [if_pos ⟨trivial, hx.1, hx.2⟩]; rfl) k
theorem am_e40n {r n : Nat} {i : Int32} (hi : P.1 M pc = some (40, a, b, c, x, nx', tab)) (hR : am_rar S r = some n) (h0 : 0 ≤ i.toInt) (h1 : i.toInt < n) (k : am_E P d M nx' ls st (am_sr S r n (va_up (am_rrf S r) i.toNatClampNeg none)) Q) : am_E P d M pc ls (.null :: .int i :: .ref r :: st) S Q := by
  have hx := mm_idx h0 h1
  exact am_eg hi (by decide) (by simp only [am_do, am_rar_ok hR]; rw [if_pos ⟨hx.1, hx.2⟩]; rfl) k
theorem am_e42 {k0 k1 n0 n1 : Nat} {n : Int32} (hi : P.1 M pc = some (42, 8, b, c, x, nx', tab)) (h0 : am_rar S k0 = some n0) (h1 : am_rar S k1 = some n1) (hn : 0 ≤ n.toInt) (hn0 : n.toInt ≤ n0) (hn1 : n.toInt ≤ n1) (hd : 1 ≤ d) (hs : st.length ≤ 8) (he : ∀ i j, am_rrf S k0 i = some j → cl (am_fs S) j = some 8) (k : am_E P d M nx' ls st (am_sr S k1 n1 (va_cpy (am_rrf S k0) (am_rrf S k1) 0 0 n.toNatClampNeg)) Q) : am_E P d M pc ls (.int n :: .int 0 :: .ref k1 :: .int 0 :: .ref k0 :: st) S Q := by
  have hx := mm_idx (n := n.toInt.toNat + 1) hn (by omega)
  have hz : (0 : Int32).toNatClampNeg = 0 := rfl
  have hcn : n.toNatClampNeg = n.toInt.toNat := cl_toNat
  refine am_eg hi (by decide) (S1 := am_sr S k1 n1 (va_cpy (am_rrf S k0) (am_rrf S k1) 0 0 n.toNatClampNeg)) (pc' := nx') (ls' := ls) (st' := st) ?_ k
  simp only [am_do, am_rar_ok h0, am_rar_ok h1]
  rw [if_pos]
  · rfl
  · refine ⟨by decide, by decide, hx.1, by rw [hz]; omega, by rw [hz]; omega, hd, hs, ?_⟩
    rw [List.all_eq_true]
    intro i _
    cases hq : am_rrf S k0 ((0 : Int32).toNatClampNeg + i) with
    | none => rfl
    | some j =>
      obtain ⟨fs, hf⟩ := cl_of (he _ _ hq)
      simp only [am_fs_ok hf, decide_true]
theorem am_e39b {r n : Nat} {i : Int32} (h : SH aw S) (hi : P.1 M pc = some (39, a, b, c, x, nx', tab)) (hc : am_rar S r = some n) (h0 : 0 ≤ i.toInt) (h1 : i.toInt < n) (hv : (am_rrf S r i.toNatClampNeg).isSome = true) (k : ∀ q, cl (am_fs S) q = some 8 → am_E P d M nx' ls (.ref q :: st) S Q) : am_E P d M pc ls (.int i :: .ref r :: st) S Q := by
  have hx := mm_idx h0 h1
  cases hq : am_rrf S r i.toNatClampNeg with
  | none => rw [hq] at hv; cases hv
  | some q => exact am_e39 hi hc hx.1 rfl hx.2 hq (k q (h.1.rg _ _ _ hq))
/-- a field of no account but the body in hand, or the first local's number -/
def Sn (aw : Nat) (S S' : am_S) : Prop := SH aw S' ∧ Ex S S' ∧ (nx S' = nx S ∧ lv S' = lv S ∧ wr S' = wr S ∧ kA aw S' = kA aw S) ∧ os S' = os S ∧ (∀ t, cl (am_fs S) t = some 3 → iv S' t 1 = iv S t 1) ∧ EN S' ≤ EN S
/-- words and levels stay -/
def Wk (aw : Nat) (S S' : am_S) : Prop := SH aw S' ∧ Ex S S' ∧ (nx S' = nx S ∧ lv S' = lv S ∧ wr S' = wr S ∧ kA aw S' = kA aw S)
/-- words are passed, what the heap costs left open -/
def Wv (aw : Nat) (S S' : am_S) : Prop := SH aw S' ∧ Ex S S' ∧ (wr S' = wr S ∧ kA aw S' = kA aw S) ∧ (os S' = os S ∧ nw S' = nw S ∧ fl S' = fl S)
theorem SH.setn {k c b t : Nat} {fs : List Value} {v : Value} (h : SH aw S) (hk : am_fs S k = some (c, fs)) (hc : c ≠ 2 ∧ c ≠ 3 ∧ c ≠ 4 ∧ c ≠ 5 ∧ c ≠ 11) (ht : (c_ty c)[b]? = some t) (hv : c_v (am_fs S) (am_arq S) (am_rar S) t v) : Sn aw S (am_so S k (c, fs.set b v)) := by
  obtain ⟨h1, h2, h3⟩ := h.setv hk hc.2 ht hv
  have nk : ∀ j c', cl (am_fs S) j = some c' → c' ≠ c → j ≠ k := fun j c' h4 h5 e => by
    subst e
    rw [cl_mk hk] at h4
    exact h5 (Option.some.inj h4).symm
  have n2 : (2 : Nat) ≠ k := nk 2 2 (h.1.s (2, 2) (by decide)) (fun e => hc.1 e.symm)
  have n3 : ∀ j, cl (am_fs S) j = some 3 → j ≠ k := fun j h4 => nk j 3 h4 (fun e => hc.2.1 e.symm)
  have k3 : wr (am_so S k (c, fs.set b v)) = wr S := iv_set hk (Or.inl (n3 3 (h.1.s (3, 3) (by decide))))
  refine ⟨h1, h2, ⟨iv_set hk (Or.inl n2), iv_set hk (Or.inl n2), k3, ?_⟩, so_os hk (nk 5 4 (h.1.s (5, 4) (by decide)) (fun e => hc.2.2.1 e.symm)) (nk 6 5 (h.1.s (6, 5) (by decide)) (fun e => hc.2.2.2.1 e.symm)) (nk 13 5 (h.1.s (13, 5) (by decide)) (fun e => hc.2.2.2.1 e.symm)), fun t ht => iv_set hk (Or.inl (n3 t ht)), Int.le_of_eq h3⟩
  funext i
  unfold kA
  rw [k3, so_arf hk]
theorem cm_21n {k t : Nat} {v : Value} (h : SH aw S) (hi : P.1 M pc = some (21, a, b, c, x, nx', tab)) (hk : cl (am_fs S) k = some a) (ha : a ≠ 2 ∧ a ≠ 3 ∧ a ≠ 4 ∧ a ≠ 5 ∧ a ≠ 11) (ht : (c_ty a)[b]? = some t) (hv : c_v (am_fs S) (am_arq S) (am_rar S) t v) (hf : am_fit (c % 4) v = true) (K : ∀ S', Sn aw S S' → am_E P d M nx' ls st S' Q) : am_E P d M pc ls (v :: .ref k :: st) S Q := by
  obtain ⟨fs, hfs⟩ := cl_of hk
  have hl := h.len hfs ha.2.2.2.2
  exact am_e21 hi hfs (by rw [hl]; exact (List.getElem?_eq_some_iff.mp ht).1) hf rfl (K _ (h.setn hfs ha ht hv))
/-- a call with its frames named -/
theorem am_e32q {D d1 : Nat} {R : Option Value → am_S → Prop} {T : am_S → Prop} {as rest : List Value} {la : am_V} (hD : D = d1 + 1) (hi : P.1 M pc = some (32, a, b, c, x, nx', tab)) (hh : P.2.2.2.1 M pc = none) (hb : b ≤ st.length) (hb8 : st.length ≤ b + 8) (hm : b ≤ P.2.2.1 a) (has : (st.take b).reverse = as) (hr : am_recv c as S = true) (hla : am_in as (P.2.2.1 a) = la) (hrest : st.drop b = rest)
    (hc : am_E P d1 a 0 la [] S (am_T R T)) (kt : ∀ S1, T S1 → Q none S1) (k : ∀ v S1, R v S1 → am_E P D M nx' ls (v.toList ++ rest) S1 Q) : am_E P D M pc ls st S Q := by
  subst hD
  exact am_e32t hi hh hb hb8 hm has hr hla hrest hc kt k
end RL
