/-! THE START: what holds of the cells behind the constructors -/
/-- beyond its length an array of references holds nothing -/
def BZ (S : am_S) : Prop := ∀ (k n : Nat) (g : Nat → Option Nat), S.1[k]? = some (Sum.inr (Sum.inl (n, g))) → ∀ i, n ≤ i → g i = none
section BZS
variable {S : am_S} {x y k : Nat}
theorem bz_set {c : am_C} (hc : ∀ n g, c = .inr (.inl (n, g)) → ∀ i, n ≤ i → g i = none) (h : BZ S) : BZ (S.1.set k c, x, y) := by
  intro j n g hj i hi
  have hj' : (S.1.set k c)[j]? = some (.inr (.inl (n, g))) := hj
  rw [List.getElem?_set] at hj'
  split at hj'
  · split at hj'
    · exact hc n g (Option.some.inj hj') i hi
    · cases hj'
  · exact h j n g hj' i hi
theorem bz_app {c : am_C} (hc : ∀ n g, c = .inr (.inl (n, g)) → ∀ i, n ≤ i → g i = none) (h : BZ S) : BZ (S.1 ++ [c], x, y) := by
  intro j n g hj i hi
  have hj' : (S.1 ++ [c])[j]? = some (.inr (.inl (n, g))) := hj
  rcases Nat.lt_or_ge j S.1.length with hl | hl
  · rw [List.getElem?_append_left hl] at hj'
    exact h j n g hj' i hi
  · rw [List.getElem?_append_right hl] at hj'
    have hm := List.mem_of_getElem? hj'
    exact hc n g (List.mem_singleton.mp hm).symm i hi
theorem bz_up {n j : Nat} {g : Nat → Option Nat} {v : Option Nat} (hk : S.1[k]? = some (.inr (.inl (n, g)))) (hj : j < n) (h : BZ S) : BZ (S.1.set k (.inr (.inl (n, va_up g j v))), x, y) := by
  refine bz_set (fun n' g' e i hi => ?_) h
  cases e
  unfold va_up
  rw [if_neg (by omega)]
  exact h k n g hk i hi
theorem bz_cpy {n sp dp m : Nat} {f g : Nat → Option Nat} (hk : S.1[k]? = some (.inr (.inl (n, g)))) (hj : dp + m ≤ n) (h : BZ S) : BZ (S.1.set k (.inr (.inl (n, va_cpy f g sp dp m))), x, y) := by
  refine bz_set (fun n' g' e i hi => ?_) h
  cases e
  unfold va_cpy
  rw [if_neg (by omega)]
  exact h k n g hk i hi
end BZS
theorem am_do_bz {nb : Nat → List Value} {sc : Nat × (Nat → Int32)} {op a b c d nx pc' : Nat} {x : Int32} {tab : List (Int32 × Nat)} {ls ls' : am_V} {st st' : List Value} {S S' : am_S} (hb : BZ S) (h : am_do nb sc op a b c x nx tab d ls st S = some (pc', ls', st', S')) : BZ S' := by
  unfold am_do at h
  repeat' split at h
  all_goals first
    | (cases h; done)
    | (simp only [Option.some.injEq, Prod.mk.injEq] at h; obtain ⟨-, -, -, rfl⟩ := h; first
        | exact hb
        | (refine bz_set ?_ hb; intro n g e; cases e; done)
        | (refine bz_app ?_ hb; intro n g e; cases e; done)
        | (refine bz_app ?_ hb; intro n g e i _; cases e; rfl)
        | exact bz_up (by assumption) (by first | exact (‹_ ∧ _›).2 | exact (‹_ ∧ _ ∧ _›).2.2) hb
        | exact bz_cpy (by assumption) (by exact (‹_ ∧ _ ∧ _ ∧ _ ∧ _ ∧ _›).2.2.2.2.1) hb)
theorem am_run_bz (P : am_P) : ∀ (n d M pc : Nat) (ls : am_V) (st : List Value) (S : am_S) (o : Option (Option Value)) (S' : am_S), am_run P n d M pc ls st S = some (o, S') → BZ S → BZ S' := by
  intro n
  induction n with
  | zero => intro d M pc ls st S o S' h; simp [am_run] at h
  | succ n ih =>
    intro d M pc ls st S o S' h hb
    rw [am_run] at h
    cases hi : P.1 M pc with
    | none => rw [hi] at h; cases h
    | some i =>
      obtain ⟨op, a, b, c, x, nx, tab⟩ := i
      rw [hi] at h
      dsimp only at h
      by_cases h32 : op = 32
      · rw [if_pos h32] at h
        split at h
        · cases d with
          | zero => cases h
          | succ d' =>
            dsimp only at h
            cases hc : am_run P n d' a 0 (am_in (st.take b).reverse (P.2.2.1 a)) [] S with
            | none => rw [hc] at h; cases h
            | some q =>
              rw [hc] at h
              obtain ⟨o1, S1⟩ := q
              have u1 := ih _ _ _ _ _ _ _ _ hc hb
              cases o1 with
              | some v => exact ih _ _ _ _ _ _ _ _ h u1
              | none =>
                dsimp only at h
                cases hh : P.2.2.2.1 M pc with
                | none => rw [hh] at h; cases h; exact u1
                | some q => rw [hh] at h; exact ih _ _ _ _ _ _ _ _ h u1
        · cases h
      · rw [if_neg h32] at h
        by_cases h37 : op = 37
        · rw [if_pos h37] at h
          split at h
          · cases h; exact hb
          · cases h
        · rw [if_neg h37] at h
          by_cases h33 : 33 ≤ op ∧ op ≤ 36
          · rw [if_pos h33] at h
            cases hr : am_ret op st with
            | none => rw [hr] at h; cases h
            | some v => rw [hr] at h; cases h; exact hb
          · rw [if_neg h33] at h
            cases hd : am_do P.2.1 P.2.2.2.2 op a b c x nx tab d ls st S with
            | none => rw [hd] at h; cases h
            | some q =>
              rw [hd] at h
              obtain ⟨pc', ls', st', S1⟩ := q
              exact ih _ _ _ _ _ _ _ _ h (am_do_bz hb hd)
def am_z0 : am_S := ([.inr (.inr (0, am_nb 0))], 1, 6)
def am_S1 : am_S := am_oS (am_run am_X0 100000 1499 0 0 [some (.ref 0), none] [] am_z0)
def st_F (k : Nat) : Option (Nat × List Value) := match k with
  | 0 => some (0, [.ref 1, .ref 2, .ref 5, .ref 7, .ref 32, .int 0])
  | 1 => some (1, [.int 0, .int 0])
  | 2 => some (2, [.ref 1, .ref 3, .int 0, .int 0])
  | 3 => some (3, [.ref 4, .int 0])
  | 5 => some (4, [.ref 6, .int 1])
  | 6 => some (5, [.ref 38, .int 1, .int 1])
  | 7 => some (6, [.ref 2, .ref 1, .ref 12, .ref 8, .ref 10, .int 0, .int 0, .int 0])
  | 8 => some (3, [.ref 9, .int 0])
  | 10 => some (3, [.ref 11, .int 0])
  | 12 => some (7, [.ref 23, .ref 1, .ref 5, .ref 13, .ref 14, .ref 16, .ref 18, .int 0, .int 0, .int 0])
  | 13 => some (5, [.long 0, .int 0, .int 0])
  | 14 => some (3, [.ref 15, .int 0])
  | 16 => some (3, [.ref 17, .int 0])
  | 18 => some (8, [.ref 19, .ref 21, .int 0, .int 0, .int 0, .int 0, .int 0, .int 0, .int 0, .int 0, .int 0, .int 0, .int 0])
  | 19 => some (3, [.ref 20, .int 0])
  | 21 => some (3, [.ref 22, .int 0])
  | 23 => some (9, [.ref 1, .ref 24, .ref 26, .ref 28, .ref 30])
  | 24 => some (3, [.ref 25, .int 0])
  | 26 => some (3, [.ref 27, .int 0])
  | 28 => some (3, [.ref 29, .int 0])
  | 30 => some (3, [.ref 31, .int 0])
  | 32 => some (10, [.ref 5])
  | 33 => some (8, [.ref 34, .ref 36, .int 0, .int (-1), .int 0, .int 1, .int 0, .int 0, .int (-1), .int 0, .int 0, .int 0, .int 0])
  | 34 => some (3, [.ref 35, .int 1])
  | 36 => some (3, [.ref 37, .int 0])
  | _ => none
def st_A (k : Nat) : Option (Bool × Nat) := match k with
  | 4 => some (false, 32)
  | 9 => some (false, 32)
  | 11 => some (false, 32)
  | 15 => some (false, 32)
  | 17 => some (false, 32)
  | 20 => some (false, 32)
  | 22 => some (false, 32)
  | 25 => some (false, 32)
  | 27 => some (false, 32)
  | 29 => some (false, 32)
  | 31 => some (false, 32)
  | 35 => some (false, 32)
  | 37 => some (false, 32)
  | _ => none
def st_R (k : Nat) : Option Nat := match k with
  | 38 => some 10
  | _ => none
set_option maxRecDepth 100000 in
theorem am_new1 : (am_run am_X0 100000 1499 0 0 [some (.ref 0), none] [] am_z0).map (fun q => q.1) = some (some none) ∧ am_S1.1.length = 39 ∧ am_S1.2.1 = 39 ∧ am_S1.2.2 = 522 := by decide +kernel
set_option maxRecDepth 100000 in
theorem am_newF : ∀ k, k < 39 → am_fs am_S1 k = st_F k := by decide +kernel
set_option maxRecDepth 100000 in
theorem am_newA : ∀ k, k < 39 → am_arq am_S1 k = st_A k := by decide +kernel
set_option maxRecDepth 100000 in
theorem am_newR : ∀ k, k < 39 → am_rar am_S1 k = st_R k := by decide +kernel
set_option maxRecDepth 100000 in
theorem am_newG : am_rrf am_S1 38 0 = some 33 ∧ ∀ i, i < 10 → i ≠ 0 → am_rrf am_S1 38 i = none := by decide +kernel
theorem am_newB : BZ am_S1 := by
  have h := am_new1.1
  unfold am_S1
  cases hr : am_run am_X0 100000 1499 0 0 [some (.ref 0), none] [] am_z0 with
  | none => rw [hr] at h; cases h
  | some q =>
    obtain ⟨o, S'⟩ := q
    refine am_run_bz _ _ _ _ _ _ _ _ _ _ hr (fun k n g hk => ?_)
    have hk' : ([.inr (.inr (0, am_nb 0))] : List am_C)[k]? = some (.inr (.inl (n, g))) := hk
    have hm := List.mem_of_getElem? hk'
    exact absurd (List.mem_singleton.mp hm) (fun e => nomatch e)
theorem am_newG1 : ∀ i b, am_rrf am_S1 38 i = some b → b = 33 := by
  intro i b hb
  rcases Nat.lt_or_ge i 10 with hi | hi
  · by_cases h0 : i = 0
    · subst h0
      rw [am_newG.1] at hb
      cases hb
      rfl
    · rw [am_newG.2 i hi h0] at hb
      cases hb
  · have h1 : am_rar am_S1 38 = some 10 := am_newR 38 (by decide)
    rw [am_newB 38 10 _ (am_rar_ok h1) i hi] at hb
    cases hb
section ST
variable {S : am_S}
theorem nm_lt {k : Nat} (hl : S.1.length = 39) (h : k < 39) : (nm_S S).1[k]? = S.1[k]? := List.getElem?_append_left (by omega)
theorem nm_ge {k : Nat} (hl : S.1.length = 39) (h : 39 ≤ k) : (nm_S S).1[k]? = nm_c[k - 39]? := by
  show (S.1 ++ nm_c)[k]? = _
  rw [List.getElem?_append_right (by omega), hl]
theorem nm_len (hl : S.1.length = 39) : (nm_S S).1.length = 94 := by
  show (S.1 ++ nm_c).length = 94
  rw [List.length_append, hl]
  rfl
theorem nm_left : ∀ i c, nm_c[i + 1]? = some c → ∃ q, c = .inl q := by
  intro i c h
  have hm : c ∈ nm_c.tail := by
    have : nm_c.tail[i]? = some c := by rw [List.getElem?_tail]; exact h
    exact List.mem_of_getElem? this
  have ha : nm_c.tail.all Sum.isLeft = true := by decide
  have := List.all_eq_true.mp ha c hm
  cases c with
  | inl q => exact ⟨q, rfl⟩
  | inr q => cases this
theorem nm_fs {k : Nat} (hl : S.1.length = 39) (hF : ∀ k, k < 39 → am_fs S k = st_F k) (h : k < 39) : am_fs (nm_S S) k = st_F k := by
  rw [← hF k h]
  unfold am_fs
  rw [nm_lt hl h]
theorem nm_fs2 {k c : Nat} {fs : List Value} (hl : S.1.length = 39) (h : am_fs (nm_S S) k = some (c, fs)) (hk : 39 ≤ k) : k = 39 ∧ c = 11 := by
  unfold am_fs at h
  rw [nm_ge hl hk] at h
  obtain ⟨i, rfl⟩ : ∃ i, k = 39 + i := ⟨k - 39, by omega⟩
  rw [Nat.add_sub_cancel_left] at h
  cases i with
  | zero => cases h; exact ⟨rfl, rfl⟩
  | succ i =>
    cases hq : nm_c[i + 1]? with
    | none => rw [hq] at h; cases h
    | some c0 =>
      obtain ⟨q, rfl⟩ := nm_left i c0 hq
      rw [hq] at h
      cases h
theorem nm_arq {k : Nat} (hl : S.1.length = 39) (hA : ∀ k, k < 39 → am_arq S k = st_A k) (h : k < 39) : am_arq (nm_S S) k = st_A k := by
  rw [← hA k h]
  unfold am_arq
  rw [nm_lt hl h]
theorem nm_rar {k : Nat} (hl : S.1.length = 39) (hR : ∀ k, k < 39 → am_rar S k = st_R k) (h : k < 39) : am_rar (nm_S S) k = st_R k := by
  rw [← hR k h]
  unfold am_rar
  rw [nm_lt hl h]
theorem nm_rar2 {k n : Nat} (hl : S.1.length = 39) (h : am_rar (nm_S S) k = some n) : k < 39 := by
  rcases Nat.lt_or_ge k 39 with hk | hk
  · exact hk
  · exfalso
    unfold am_rar at h
    rw [nm_ge hl hk] at h
    obtain ⟨i, rfl⟩ : ∃ i, k = 39 + i := ⟨k - 39, by omega⟩
    rw [Nat.add_sub_cancel_left] at h
    cases i with
    | zero => cases h
    | succ i =>
      cases hq : nm_c[i + 1]? with
      | none => rw [hq] at h; cases h
      | some c0 =>
        obtain ⟨q, rfl⟩ := nm_left i c0 hq
        rw [hq] at h
        cases h
theorem nm_rrf {k i b : Nat} (hl : S.1.length = 39) (hR : ∀ k, k < 39 → am_rar S k = st_R k) (h : am_rrf (nm_S S) k i = some b) : k = 38 ∧ am_rrf S 38 i = some b := by
  have hr : ∃ n, am_rar (nm_S S) k = some n := by
    unfold am_rrf at h
    unfold am_rar
    rcases hc : (nm_S S).1[k]? with _ | (q | (q | q))
    · rw [hc] at h; cases h
    · rw [hc] at h; cases h
    · exact ⟨_, rfl⟩
    · rw [hc] at h; cases h
  obtain ⟨n, hn⟩ := hr
  have hk := nm_rar2 hl hn
  rw [nm_rar hl hR hk] at hn
  have e : k = 38 := by
    unfold st_R at hn
    split at hn
    · rfl
    · cases hn
  subst e
  refine ⟨rfl, ?_⟩
  unfold am_rrf at h ⊢
  rw [nm_lt hl hk] at h
  exact h
end ST
theorem le_39 {k : Nat} (h : k < 39) : k = 0 ∨ k = 1 ∨ k = 2 ∨ k = 3 ∨ k = 4 ∨ k = 5 ∨ k = 6 ∨ k = 7 ∨ k = 8 ∨ k = 9 ∨ k = 10 ∨ k = 11 ∨ k = 12 ∨ k = 13 ∨ k = 14 ∨ k = 15 ∨ k = 16 ∨ k = 17 ∨ k = 18 ∨ k = 19 ∨ k = 20 ∨ k = 21 ∨ k = 22 ∨ k = 23 ∨ k = 24 ∨ k = 25 ∨ k = 26 ∨ k = 27 ∨ k = 28 ∨ k = 29 ∨ k = 30 ∨ k = 31 ∨ k = 32 ∨ k = 33 ∨ k = 34 ∨ k = 35 ∨ k = 36 ∨ k = 37 ∨ k = 38 := by omega
theorem sh_start {S : am_S} (hl : S.1.length = 39) (hF : ∀ k, k < 39 → am_fs S k = st_F k) (hA : ∀ k, k < 39 → am_arq S k = st_A k) (hR : ∀ k, k < 39 → am_rar S k = st_R k) (hG0 : am_rrf S 38 0 = some 33) (hG : ∀ i b, am_rrf S 38 i = some b → b = 33) : SH 4 (nm_S S) := by
  have nF : ∀ k, k < 39 → am_fs (nm_S S) k = st_F k := fun k hk => nm_fs hl hF hk
  have nA : ∀ k, k < 39 → am_arq (nm_S S) k = st_A k := fun k hk => nm_arq hl hA hk
  have nR : ∀ k, k < 39 → am_rar (nm_S S) k = st_R k := fun k hk => nm_rar hl hR hk
  have g0 : am_rrf (nm_S S) 38 0 = some 33 := by
    unfold am_rrf at hG0 ⊢
    rw [nm_lt hl (by decide)]
    exact hG0
  refine ⟨⟨fun k c fs q => ?_, fun p hp => ?_, fun k a r q => ?_, ⟨0, nF 3 (by decide)⟩, ?_, ?_, ?_, fun a i b q => ?_, fun j c fs q h1 h2 => (nm_fs2 hl q h1).2, fun a n q => Or.inl (nm_rar2 hl q), ?_⟩, by rw [nm_len hl]; decide⟩
  · rcases Nat.lt_or_ge k 39 with hk | hk
    · rw [nF k hk] at q
      rcases le_39 hk with rfl | rfl | rfl | rfl | rfl | rfl | rfl | rfl | rfl | rfl | rfl | rfl | rfl | rfl | rfl | rfl | rfl | rfl | rfl | rfl | rfl | rfl | rfl | rfl | rfl | rfl | rfl | rfl | rfl | rfl | rfl | rfl | rfl | rfl | rfl | rfl | rfl | rfl | rfl
      · cases q; exact Or.inr ⟨by decide, rfl, rfl, rfl, rfl, rfl, ⟨_, rfl⟩, trivial⟩
      · cases q; exact Or.inr ⟨by decide, ⟨_, rfl⟩, ⟨_, rfl⟩, trivial⟩
      · cases q; exact Or.inr ⟨by decide, rfl, rfl, ⟨_, rfl⟩, ⟨_, rfl⟩, trivial⟩
      · cases q; exact Or.inr ⟨by decide, ⟨4, 32, rfl, nA 4 (by decide), by decide⟩, ⟨_, rfl⟩, trivial⟩
      · cases q
      · cases q; exact Or.inr ⟨by decide, rfl, ⟨_, rfl⟩, trivial⟩
      · cases q; exact Or.inr ⟨by decide, Or.inr ⟨38, 10, rfl, nR 38 (by decide)⟩, ⟨_, rfl⟩, ⟨_, rfl⟩, trivial⟩
      · cases q; exact Or.inr ⟨by decide, rfl, rfl, rfl, rfl, rfl, Or.inl rfl, ⟨_, rfl⟩, ⟨_, rfl⟩, trivial⟩
      · cases q; exact Or.inr ⟨by decide, ⟨9, 32, rfl, nA 9 (by decide), by decide⟩, ⟨_, rfl⟩, trivial⟩
      · cases q
      · cases q; exact Or.inr ⟨by decide, ⟨11, 32, rfl, nA 11 (by decide), by decide⟩, ⟨_, rfl⟩, trivial⟩
      · cases q
      · cases q; exact Or.inr ⟨by decide, rfl, rfl, rfl, rfl, rfl, rfl, ⟨18, rfl, cl_mk (nF 18 (by decide))⟩, ⟨_, rfl⟩, ⟨_, rfl⟩, Or.inl rfl, trivial⟩
      · cases q; exact Or.inr ⟨by decide, Or.inl rfl, ⟨_, rfl⟩, ⟨_, rfl⟩, trivial⟩
      · cases q; exact Or.inr ⟨by decide, ⟨15, 32, rfl, nA 15 (by decide), by decide⟩, ⟨_, rfl⟩, trivial⟩
      · cases q
      · cases q; exact Or.inr ⟨by decide, ⟨17, 32, rfl, nA 17 (by decide), by decide⟩, ⟨_, rfl⟩, trivial⟩
      · cases q
      · cases q; exact Or.inr ⟨by decide, ⟨19, rfl, cl_mk (nF 19 (by decide)), by unfold c_bt; decide⟩, ⟨21, rfl, cl_mk (nF 21 (by decide)), by unfold c_bt; decide⟩, ⟨_, rfl⟩, ⟨_, rfl⟩, ⟨_, rfl⟩, ⟨_, rfl⟩, ⟨_, rfl⟩, ⟨_, rfl⟩, ⟨_, rfl⟩, ⟨_, rfl, by decide, by decide⟩, ⟨_, rfl⟩, ⟨_, rfl⟩, ⟨_, rfl⟩, trivial⟩
      · cases q; exact Or.inr ⟨by decide, ⟨20, 32, rfl, nA 20 (by decide), by decide⟩, ⟨_, rfl⟩, trivial⟩
      · cases q
      · cases q; exact Or.inr ⟨by decide, ⟨22, 32, rfl, nA 22 (by decide), by decide⟩, ⟨_, rfl⟩, trivial⟩
      · cases q
      · cases q; exact Or.inr ⟨by decide, rfl, rfl, rfl, rfl, rfl, trivial⟩
      · cases q; exact Or.inr ⟨by decide, ⟨25, 32, rfl, nA 25 (by decide), by decide⟩, ⟨_, rfl⟩, trivial⟩
      · cases q
      · cases q; exact Or.inr ⟨by decide, ⟨27, 32, rfl, nA 27 (by decide), by decide⟩, ⟨_, rfl⟩, trivial⟩
      · cases q
      · cases q; exact Or.inr ⟨by decide, ⟨29, 32, rfl, nA 29 (by decide), by decide⟩, ⟨_, rfl⟩, trivial⟩
      · cases q
      · cases q; exact Or.inr ⟨by decide, ⟨31, 32, rfl, nA 31 (by decide), by decide⟩, ⟨_, rfl⟩, trivial⟩
      · cases q
      · cases q; exact Or.inr ⟨by decide, rfl, trivial⟩
      · cases q; exact Or.inr ⟨by decide, ⟨34, rfl, cl_mk (nF 34 (by decide)), by unfold c_bt; decide⟩, ⟨36, rfl, cl_mk (nF 36 (by decide)), by unfold c_bt; decide⟩, ⟨_, rfl⟩, ⟨_, rfl⟩, ⟨_, rfl⟩, ⟨_, rfl⟩, ⟨_, rfl⟩, ⟨_, rfl⟩, ⟨_, rfl⟩, ⟨_, rfl, by decide, by decide⟩, ⟨_, rfl⟩, ⟨_, rfl⟩, ⟨_, rfl⟩, trivial⟩
      · cases q; exact Or.inr ⟨by decide, ⟨35, 32, rfl, nA 35 (by decide), by decide⟩, ⟨_, rfl⟩, trivial⟩
      · cases q
      · cases q; exact Or.inr ⟨by decide, ⟨37, 32, rfl, nA 37 (by decide), by decide⟩, ⟨_, rfl⟩, trivial⟩
      · cases q
      · cases q
    · exact Or.inl (nm_fs2 hl q hk).2
  · simp only [c_sg, List.mem_cons, List.not_mem_nil, or_false] at hp
    rcases hp with rfl | rfl | rfl | rfl | rfl | rfl | rfl | rfl | rfl | rfl | rfl | rfl | rfl | rfl | rfl | rfl | rfl | rfl | rfl
    · exact cl_mk (nF 0 (by decide))
    · exact cl_mk (nF 1 (by decide))
    · exact cl_mk (nF 2 (by decide))
    · exact cl_mk (nF 3 (by decide))
    · exact cl_mk (nF 5 (by decide))
    · exact cl_mk (nF 6 (by decide))
    · exact cl_mk (nF 7 (by decide))
    · exact cl_mk (nF 8 (by decide))
    · exact cl_mk (nF 10 (by decide))
    · exact cl_mk (nF 12 (by decide))
    · exact cl_mk (nF 13 (by decide))
    · exact cl_mk (nF 14 (by decide))
    · exact cl_mk (nF 16 (by decide))
    · exact cl_mk (nF 23 (by decide))
    · exact cl_mk (nF 24 (by decide))
    · exact cl_mk (nF 26 (by decide))
    · exact cl_mk (nF 28 (by decide))
    · exact cl_mk (nF 30 (by decide))
    · exact cl_mk (nF 32 (by decide))
  · rcases Nat.lt_or_ge k 39 with hk | hk
    · rw [nF k hk] at q
      rcases le_39 hk with rfl | rfl | rfl | rfl | rfl | rfl | rfl | rfl | rfl | rfl | rfl | rfl | rfl | rfl | rfl | rfl | rfl | rfl | rfl | rfl | rfl | rfl | rfl | rfl | rfl | rfl | rfl | rfl | rfl | rfl | rfl | rfl | rfl | rfl | rfl | rfl | rfl | rfl | rfl
      · cases q
      · cases q
      · cases q
      · cases q; exact ⟨32, nA 4 (by decide), by decide, by decide, by decide, by decide, by decide⟩
      · cases q
      · cases q
      · cases q
      · cases q
      · cases q; exact ⟨32, nA 9 (by decide), by decide, by decide, by decide, by decide, by decide⟩
      · cases q
      · cases q; exact ⟨32, nA 11 (by decide), by decide, by decide, by decide, by decide, by decide⟩
      · cases q
      · cases q
      · cases q
      · cases q; exact ⟨32, nA 15 (by decide), by decide, by decide, by decide, by decide, by decide⟩
      · cases q
      · cases q; exact ⟨32, nA 17 (by decide), by decide, by decide, by decide, by decide, by decide⟩
      · cases q
      · cases q
      · cases q; exact ⟨32, nA 20 (by decide), by decide, by decide, by decide, by decide, by decide⟩
      · cases q
      · cases q; exact ⟨32, nA 22 (by decide), by decide, by decide, by decide, by decide, by decide⟩
      · cases q
      · cases q
      · cases q; exact ⟨32, nA 25 (by decide), by decide, by decide, by decide, by decide, by decide⟩
      · cases q
      · cases q; exact ⟨32, nA 27 (by decide), by decide, by decide, by decide, by decide, by decide⟩
      · cases q
      · cases q; exact ⟨32, nA 29 (by decide), by decide, by decide, by decide, by decide, by decide⟩
      · cases q
      · cases q; exact ⟨32, nA 31 (by decide), by decide, by decide, by decide, by decide, by decide⟩
      · cases q
      · cases q
      · cases q
      · cases q; exact ⟨32, nA 35 (by decide), by decide, by decide, by decide, by decide, by decide⟩
      · cases q
      · cases q; exact ⟨32, nA 37 (by decide), by decide, by decide, by decide, by decide, by decide⟩
      · cases q
      · cases q
    · exact absurd (nm_fs2 hl q hk).2 (by decide)
  · exact ⟨.ref 38, 1, 1, nF 6 (by decide), by decide, by decide, Or.inr ⟨38, 10, rfl, nR 38 (by decide), by decide, by decide, fun i hi => by
      have h1 : (1 : Int32).toInt = 1 := rfl
      obtain rfl : i = 0 := by omega
      rw [g0]; rfl⟩⟩
  · exact ⟨.long 0, 0, 0, nF 13 (by decide), by decide, by decide, Or.inl ⟨rfl, by decide⟩⟩
  · intro a q1 q2 q3 q4 _ e2
    rw [nF 13 (by decide)] at e2
    cases e2
  · obtain ⟨rfl, h2⟩ := nm_rrf hl hR q
    rw [hG i b h2]
    exact cl_mk (nF 33 (by decide))
  · exact ⟨.ref 6, 1, .ref 38, 1, .int 1, nF 5 (by decide), nF 6 (by decide), by decide, by decide⟩
theorem en_start {S : am_S} (hl : S.1.length = 39) (hF : ∀ k, k < 39 → am_fs S k = st_F k) (hA : ∀ k, k < 39 → am_arq S k = st_A k) (h1 : S.2.1 = 39) (h2 : S.2.2 = 522) : EN (nm_S S) = 1303896 ∧ wr (nm_S S) = 0 := by
  have nF : ∀ k, k < 39 → am_fs (nm_S S) k = st_F k := fun k hk => nm_fs hl hF hk
  have nA : ∀ k, k < 39 → am_arq (nm_S S) k = st_A k := fun k hk => nm_arq hl hA hk
  have e : ∀ k, c_phi (am_fs (nm_S S)) (am_arq (nm_S S)) k = 0 := by
    intro k
    cases hq : am_fs (nm_S S) k with
    | none => unfold c_phi; rw [hq]
    | some q =>
      obtain ⟨c, fs⟩ := q
      rcases Nat.lt_or_ge k 39 with hk | hk
      · have hq2 := hq
        rw [nF k hk] at hq2
        rcases le_39 hk with rfl | rfl | rfl | rfl | rfl | rfl | rfl | rfl | rfl | rfl | rfl | rfl | rfl | rfl | rfl | rfl | rfl | rfl | rfl | rfl | rfl | rfl | rfl | rfl | rfl | rfl | rfl | rfl | rfl | rfl | rfl | rfl | rfl | rfl | rfl | rfl | rfl | rfl | rfl
        · cases hq2; unfold c_phi; rw [hq]; rfl
        · cases hq2; unfold c_phi; rw [hq]; rfl
        · cases hq2; unfold c_phi; rw [hq]; rfl
        · rw [c_phi_tab (nF 3 (by decide)) (nA 4 (by decide))]; rfl
        · cases hq2
        · cases hq2; unfold c_phi; rw [hq]; rfl
        · cases hq2; unfold c_phi; rw [hq]; rfl
        · cases hq2; unfold c_phi; rw [hq]; rfl
        · rw [c_phi_tab (nF 8 (by decide)) (nA 9 (by decide))]; rfl
        · cases hq2
        · rw [c_phi_tab (nF 10 (by decide)) (nA 11 (by decide))]; rfl
        · cases hq2
        · cases hq2; unfold c_phi; rw [hq]; rfl
        · cases hq2; unfold c_phi; rw [hq]; rfl
        · rw [c_phi_tab (nF 14 (by decide)) (nA 15 (by decide))]; rfl
        · cases hq2
        · rw [c_phi_tab (nF 16 (by decide)) (nA 17 (by decide))]; rfl
        · cases hq2
        · cases hq2; unfold c_phi; rw [hq]; rfl
        · rw [c_phi_tab (nF 19 (by decide)) (nA 20 (by decide))]; rfl
        · cases hq2
        · rw [c_phi_tab (nF 21 (by decide)) (nA 22 (by decide))]; rfl
        · cases hq2
        · cases hq2; unfold c_phi; rw [hq]; rfl
        · rw [c_phi_tab (nF 24 (by decide)) (nA 25 (by decide))]; rfl
        · cases hq2
        · rw [c_phi_tab (nF 26 (by decide)) (nA 27 (by decide))]; rfl
        · cases hq2
        · rw [c_phi_tab (nF 28 (by decide)) (nA 29 (by decide))]; rfl
        · cases hq2
        · rw [c_phi_tab (nF 30 (by decide)) (nA 31 (by decide))]; rfl
        · cases hq2
        · cases hq2; unfold c_phi; rw [hq]; rfl
        · cases hq2; unfold c_phi; rw [hq]; rfl
        · rw [c_phi_tab (nF 34 (by decide)) (nA 35 (by decide))]; rfl
        · cases hq2
        · rw [c_phi_tab (nF 36 (by decide)) (nA 37 (by decide))]; rfl
        · cases hq2
        · cases hq2
      · obtain ⟨-, rfl⟩ := nm_fs2 hl hq hk
        unfold c_phi
        rw [hq]
        split
        · rename_i z; cases z
        · rfl
  have e2 : ∀ n, c_sum (c_phi (am_fs (nm_S S)) (am_arq (nm_S S))) n = 0 := by
    intro n
    induction n with
    | zero => rfl
    | succ n ih => simp only [c_sum]; rw [ih, e n]; rfl
  have i8 : iv (nm_S S) 8 1 = 0 := by unfold iv; rw [nF 8 (by decide)]; rfl
  have i10 : iv (nm_S S) 10 1 = 0 := by unfold iv; rw [nF 10 (by decide)]; rfl
  have i3 : iv (nm_S S) 3 1 = 0 := by unfold iv; rw [nF 3 (by decide)]; rfl
  refine ⟨?_, i3⟩
  unfold EN
  rw [e2, i8, i10]
  show 128 * ((S.2.1 + 55 : Nat) : Int) + ((S.2.2 + 1291342 : Nat) : Int) + 0 + 160 * 0 + 320 * 0 = _
  rw [h1, h2]
  rfl
def st_f (j : Nat) : Int32 := match j with
  | 53 => 1
  | 68 => 1
  | _ => 0
def st_g (j : Nat) : Nat → Int32 := match j with
  | 54 => upd (fun _ => 0) 0 (-1)
  | 56 => upd (fun _ => 0) 0 1
  | 59 => upd (fun _ => 0) 0 (-1)
  | 60 => upd (fun _ => 0) 0 1
  | 61 => upd (fun _ => 0) 1 1
  | 70 => upd (fun _ => 0) 0 45
  | _ => fun _ => 0
theorem ms_start {S : am_S} (hl : S.1.length = 39) : MS (nm_S S) (nm_S S) st_f st_g := by
  refine ⟨?_, fun q hq => ?_, rfl, rfl, fun _ _ => rfl⟩
  · unfold am_fs
    rw [nm_ge hl (Nat.le_refl _)]
    rfl
  · rw [nm_ge hl (by have := ma_in hq; omega)]
    simp only [mm_ar, List.mem_cons, List.not_mem_nil, or_false] at hq
    rcases hq with rfl | rfl | rfl | rfl | rfl | rfl | rfl | rfl | rfl | rfl | rfl | rfl | rfl | rfl | rfl | rfl | rfl | rfl | rfl | rfl | rfl | rfl | rfl | rfl | rfl | rfl | rfl | rfl | rfl | rfl | rfl | rfl | rfl | rfl | rfl | rfl | rfl | rfl | rfl | rfl | rfl | rfl | rfl | rfl | rfl | rfl | rfl | rfl | rfl | rfl | rfl | rfl | rfl | rfl
    all_goals rfl
theorem ri_start : RI st_f st_g := by
  refine ⟨fun v => ⟨fun h => absurd (show (0 : Int32).toInt = 3 from h) (by decide), fun h => absurd (show (0 : Int32).toInt = 1 ∨ (0 : Int32).toInt = 2 from h) (by decide)⟩, fun k => show (0 ≤ (0 : Int32).toInt ∧ (0 : Int32).toInt < 64) ∧ 0 ≤ (0 : Int32).toInt ∧ 0 ≤ (0 : Int32).toInt ∧ 0 ≤ (0 : Int32).toInt ∧ 0 ≤ (0 : Int32).toInt ∧ 0 ≤ (0 : Int32).toInt ∧ 0 ≤ (0 : Int32).toInt ∧ 0 ≤ (0 : Int32).toInt ∧ (0 : Int32).toInt < 65535 from by decide, by decide, by decide, by decide, fun x hx => ?_, fun x hx => ?_, fun x hx j hj => ?_⟩
  · obtain rfl : x = 0 := by have h1 : (st_f 53).toInt = 1 := rfl; omega
    rfl
  · obtain rfl : x = 0 := by have h1 : (st_f 53).toInt = 1 := rfl; omega
    decide
  · obtain rfl : x = 0 := by have h1 : (st_f 53).toInt = 1 := rfl; omega
    exact ⟨(by show (0 : Int) ≤ (0 : Int32).toInt; decide), (by show (0 : Int32).toInt < 65536; decide)⟩
