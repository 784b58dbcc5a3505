/-! WHAT A RUN TELLS: rules backward for runs that are known to end (no bounds are asked for, they are given) -/
def am_L (P : am_P) (N d M pc : Nat) (ls : am_V) (st : List Value) (S : am_S) (Q : Option (Option Value) → am_S → Prop) : Prop := ∀ n, n ≤ N → ∀ o S', am_run P n d M pc ls st S = some (o, S') → Q o S'
section AML
variable {P : am_P} {N d M pc : Nat} {ls : am_V} {st : List Value} {S : am_S} {Q : Option (Option Value) → am_S → Prop} {a b c nx : Nat} {x : Int32} {tab : List (Int32 × Nat)}
theorem l_do {op : Nat} (hi : P.1 M pc = some (op, a, b, c, x, nx, tab)) (h0 : ¬ op = 32 ∧ ¬ op = 37 ∧ ¬ (33 ≤ op ∧ op ≤ 36)) (k : ∀ pc' ls' st' S1, am_do P.2.1 P.2.2.2.2 op a b c x nx tab d ls st S = some (pc', ls', st', S1) → am_L P N d M pc' ls' st' S1 Q) : am_L P N d M pc ls st S Q := by
  intro n hn o S' h
  cases n with
  | zero => simp [am_run] at h
  | succ n =>
    rw [am_run, hi] at h
    dsimp only at h
    rw [if_neg h0.1, if_neg h0.2.1, if_neg h0.2.2] at h
    cases hd : am_do P.2.1 P.2.2.2.2 op a b c x nx tab d ls st S with
    | none => rw [hd] at h; cases h
    | some q =>
      obtain ⟨pc', ls', st', S1⟩ := q
      rw [hd] at h
      exact k pc' ls' st' S1 hd n (by omega) o S' h
theorem l_eq {op pc' : Nat} {ls' : am_V} {st' : List Value} {S1 : am_S} (hi : P.1 M pc = some (op, a, b, c, x, nx, tab)) (h0 : ¬ op = 32 ∧ ¬ op = 37 ∧ ¬ (33 ≤ op ∧ op ≤ 36)) (hd : am_do P.2.1 P.2.2.2.2 op a b c x nx tab d ls st S = some (pc', ls', st', S1)) (k : am_L P N d M pc' ls' st' S1 Q) : am_L P N d M pc ls st S Q :=
  l_do hi h0 (fun pc1 ls1 st1 S2 h => by rw [hd] at h; cases h; exact k)
theorem l0 (hi : P.1 M pc = some (0, a, b, c, x, nx, tab)) (k : am_L P N d M nx ls (.int x :: st) S Q) : am_L P N d M pc ls st S Q := l_eq hi (by decide) rfl k
theorem l1 {v : Int32} (hi : P.1 M pc = some (1, a, b, c, x, nx, tab)) (h : ls[a]? = some (some (.int v))) (k : am_L P N d M nx ls (.int v :: st) S Q) : am_L P N d M pc ls st S Q := l_eq hi (by decide) (by simp only [am_do, h]) k
theorem l2 {v : Nat} (hi : P.1 M pc = some (2, a, b, c, x, nx, tab)) (h : ls[a]? = some (some (.ref v))) (k : am_L P N d M nx ls (.ref v :: st) S Q) : am_L P N d M pc ls st S Q := l_eq hi (by decide) (by simp only [am_do, h]) k
theorem l3 {v : Int32} {ls' : am_V} (hi : P.1 M pc = some (3, a, b, c, x, nx, tab)) (hn : a < ls.length) (hl : ls.set a (some (.int v)) = ls') (k : am_L P N d M nx ls' st S Q) : am_L P N d M pc ls (.int v :: st) S Q := l_eq hi (by decide) (by simp only [am_do]; rw [if_pos hn, hl]) k
theorem l5 {v : Int32} {ls' : am_V} (hi : P.1 M pc = some (5, a, b, c, x, nx, tab)) (h : ls[a]? = some (some (.int v))) (hl : ls.set a (some (.int (v + x))) = ls') (k : am_L P N d M nx ls' st S Q) : am_L P N d M pc ls st S Q := l_eq hi (by decide) (by simp only [am_do, h]; rw [hl]) k
theorem l6i {v : Int32} (hi : P.1 M pc = some (6, a, b, c, x, nx, tab)) (k : am_L P N d M nx ls st S Q) : am_L P N d M pc ls (.int v :: st) S Q := l_eq hi (by decide) rfl k
theorem l7 {v : Nat} (hi : P.1 M pc = some (7, a, b, c, x, nx, tab)) (k : am_L P N d M nx ls (.ref v :: .ref v :: st) S Q) : am_L P N d M pc ls (.ref v :: st) S Q := l_eq hi (by decide) rfl k
theorem l7i {v : Int32} (hi : P.1 M pc = some (7, a, b, c, x, nx, tab)) (k : am_L P N d M nx ls (.int v :: .int v :: st) S Q) : am_L P N d M pc ls (.int v :: st) S Q := l_eq hi (by decide) rfl k
theorem l8 {v : Int32} {w : Nat} (hi : P.1 M pc = some (8, a, b, c, x, nx, tab)) (k : am_L P N d M nx ls (.int v :: .ref w :: .int v :: .ref w :: st) S Q) : am_L P N d M pc ls (.int v :: .ref w :: st) S Q := l_eq hi (by decide) rfl k
theorem l9 {v w : Value} (hi : P.1 M pc = some (9, a, b, c, x, nx, tab)) (k : am_L P N d M nx ls (v :: w :: v :: st) S Q) : am_L P N d M pc ls (v :: w :: st) S Q := l_eq hi (by decide) rfl k
theorem l10 {v w : Int32} (hi : P.1 M pc = some (10, a, b, c, x, nx, tab)) (k : am_L P N d M nx ls (.int (am_bin a v w) :: st) S Q) : am_L P N d M pc ls (.int w :: .int v :: st) S Q := l_eq hi (by decide) (by simp only [am_do]) k
theorem l11 {v : Int32} (hi : P.1 M pc = some (11, a, b, c, x, nx, tab)) (k : am_L P N d M nx ls (.int (-v) :: st) S Q) : am_L P N d M pc ls (.int v :: st) S Q := l_eq hi (by decide) (by simp only [am_do]) k
theorem l12t {v : Int32} (hi : P.1 M pc = some (12, a, b, c, x, nx, tab)) (h : am_cmp a v 0 = true) (k : am_L P N d M b ls st S Q) : am_L P N d M pc ls (.int v :: st) S Q := l_eq hi (by decide) (by simp only [am_do]; rw [if_pos h]) k
theorem l12f {v : Int32} (hi : P.1 M pc = some (12, a, b, c, x, nx, tab)) (h : am_cmp a v 0 = false) (k : am_L P N d M nx ls st S Q) : am_L P N d M pc ls (.int v :: st) S Q := l_eq hi (by decide) (by simp only [am_do]; rw [if_neg (by rw [h]; decide)]) k
theorem l13t {v w : Int32} (hi : P.1 M pc = some (13, a, b, c, x, nx, tab)) (h : am_cmp a v w = true) (k : am_L P N d M b ls st S Q) : am_L P N d M pc ls (.int w :: .int v :: st) S Q := l_eq hi (by decide) (by simp only [am_do]; rw [if_pos h]) k
theorem l13f {v w : Int32} (hi : P.1 M pc = some (13, a, b, c, x, nx, tab)) (h : am_cmp a v w = false) (k : am_L P N d M nx ls st S Q) : am_L P N d M pc ls (.int w :: .int v :: st) S Q := l_eq hi (by decide) (by simp only [am_do]; rw [if_neg (by rw [h]; decide)]) k
theorem l18 (hi : P.1 M pc = some (18, a, b, c, x, nx, tab)) (k : am_L P N d M b ls st S Q) : am_L P N d M pc ls st S Q := l_eq hi (by decide) rfl k
theorem l19 {v : Int32} {t : Nat} (hi : P.1 M pc = some (19, a, b, c, x, nx, tab)) (h : am_sw tab b v = t) (k : am_L P N d M t ls st S Q) : am_L P N d M pc ls (.int v :: st) S Q := l_eq hi (by decide) (by simp only [am_do, h]) k
theorem l_ret {op : Nat} (hi : P.1 M pc = some (op, a, b, c, x, nx, tab)) (h0 : 33 ≤ op ∧ op ≤ 36) (k : ∀ v, am_ret op st = some v → Q (some v) S) : am_L P N d M pc ls st S Q := by
  intro n hn o S' h
  cases n with
  | zero => simp [am_run] at h
  | succ n =>
    rw [am_run, hi] at h
    dsimp only at h
    rw [if_neg (by omega), if_neg (by omega), if_pos h0] at h
    cases hr : am_ret op st with
    | none => rw [hr] at h; cases h
    | some v =>
      rw [hr] at h
      cases h
      exact k v hr
theorem l33 {v : Int32} (hi : P.1 M pc = some (33, a, b, c, x, nx, tab)) (hq : Q (some (some (.int v))) S) : am_L P N d M pc ls [.int v] S Q := l_ret hi (by decide) (fun w h => by cases h; exact hq)
theorem l35 (hi : P.1 M pc = some (35, a, b, c, x, nx, tab)) (hq : Q (some none) S) : am_L P N d M pc ls [] S Q := l_ret hi (by decide) (fun w h => by cases h; exact hq)
theorem l36 {v : Int32} (hi : P.1 M pc = some (36, a, b, c, x, nx, tab)) (hq : (v = 0 ∨ v = 1) → Q (some (some (.int v))) S) : am_L P N d M pc ls [.int v] S Q := l_ret hi (by decide) (fun w h => by
  have h' : (if v = 0 ∨ v = 1 then some (some (Value.int v)) else none) = some w := h
  by_cases hv : v = 0 ∨ v = 1
  · rw [if_pos hv] at h'
    cases h'
    exact hq hv
  · rw [if_neg hv] at h'
    cases h')
/-- a call: its own runs are shorter -/
theorem l32 {Q1 : Option (Option Value) → am_S → Prop} {as rest : List Value} {la : am_V} (hi : P.1 M pc = some (32, a, b, c, x, nx, tab)) (hh : P.2.2.2.1 M pc = none) (has : (st.take b).reverse = as) (hla : am_in as (P.2.2.1 a) = la) (hrest : st.drop b = rest)
    (hc : ∀ N' d', N' < N → am_L P N' d' a 0 la [] S Q1) (k : ∀ v S1, Q1 (some v) S1 → am_L P N d M nx ls (v.toList ++ rest) S1 Q) (kx : ∀ S1, Q1 none S1 → Q none S1) : am_L P N d M pc ls st S Q := by
  intro n hn o S' h
  cases n with
  | zero => simp [am_run] at h
  | succ n =>
    rw [am_run, hi] at h
    dsimp only at h
    rw [if_pos rfl] at h
    split at h
    · cases d with
      | zero => cases h
      | succ d' =>
        dsimp only at h
        rw [has, hla, hrest] at h
        cases hr : am_run P n d' a 0 la [] S with
        | none => rw [hr] at h; cases h
        | some q =>
          obtain ⟨o1, S1⟩ := q
          rw [hr] at h
          have q1 := hc n d' (by omega) n (Nat.le_refl _) o1 S1 hr
          cases o1 with
          | some v => exact k v S1 q1 n (by omega) o S' h
          | none =>
            dsimp only at h
            rw [hh] at h
            cases h
            exact kx _ q1
    · cases h
theorem am_L.mono {Q1 : Option (Option Value) → am_S → Prop} (h : am_L P N d M pc ls st S Q1) (hq : ∀ o S', Q1 o S' → Q o S') : am_L P N d M pc ls st S Q := fun n hn o S' hr => hq o S' (h n hn o S' hr)
theorem am_L.less {N' : Nat} (h : am_L P N d M pc ls st S Q) (hN : N' ≤ N) : am_L P N' d M pc ls st S Q := fun n hn => h n (Nat.le_trans hn hN)
end AML
/-! THE REFERENCE'S NUMBERS AND ARRAYS AS ONE THING -/
abbrev kS : Type := (Nat → Int32) × (Nat → Nat → Int32)
def kf (s : kS) (j : Nat) (v : Int32) : kS := (upd s.1 j v, s.2)
def ka (s : kS) (j : Nat) (i v : Int32) : kS := (s.1, upg s.2 j i.toNatClampNeg v)
def kr (s : kS) (j : Nat) (i : Int32) : Int32 := s.2 j i.toNatClampNeg
def MK (S0 S : am_S) (s : kS) : Prop := MS S0 S s.1 s.2
section AMK
variable {P : am_P} {N d M pc : Nat} {ls : am_V} {st : List Value} {S0 S : am_S} {s : kS} {Q : Option (Option Value) → am_S → Prop} {a b c nx : Nat} {x : Int32} {tab : List (Int32 × Nat)}
theorem l20 {v : Value} (hS : MK S0 S s) (hi : P.1 M pc = some (20, 11, b, c, x, nx, tab)) (hv : (mm_fl s.1)[b]? = some v) (k : am_L P N d M nx ls (v :: st) S Q) : am_L P N d M pc ls (.ref 39 :: st) S Q := l_eq hi (by decide) (by simp only [am_do, am_fs_ok hS.1, if_true, hv]) k
theorem l21 {v : Int32} (hS : MK S0 S s) (hi : P.1 M pc = some (21, 11, b, c, x, nx, tab)) (hs : (mm_fl s.1).set b (.int v) = mm_fl (upd s.1 b v)) (k : ∀ S1, MK S0 S1 (kf s b v) → am_L P N d M nx ls st S1 Q) : am_L P N d M pc ls (.int v :: .ref 39 :: st) S Q := by
  refine l_do hi (by decide) (fun pc' ls' st' S1 h => ?_)
  simp only [am_do, am_fs_ok hS.1] at h
  split at h
  · rename_i hcnd
    cases h
    refine k _ ?_
    obtain ⟨h1, h2, h3, h4, h5⟩ := hS
    refine ⟨?_, fun q hq => ?_, h3, by show (S.1.set _ _).length = _; rw [List.length_set]; exact h4, fun k hk => ?_⟩
    · show am_fs (S.1.set 39 (.inr (.inr (11, (mm_fl s.1).set b (.int v)))), S.2.1, S.2.2) 39 = some (11, mm_fl (upd s.1 b v))
      rw [hs]
      exact am_fs_eq h1
    · show (S.1.set _ _)[_]? = _
      rw [List.getElem?_set_ne (by have := ma_in hq; omega)]
      exact h2 q hq
    · show (S.1.set _ _)[_]? = _
      rw [List.getElem?_set_ne (by omega)]
      exact h5 k hk
  · cases h
theorem l25 {j r n : Nat} {t : Bool} {i : Int32} (hS : MK S0 S s) (hm : (j, r, t, n) ∈ mm_ar) (hi : P.1 M pc = some (25, a, b, c, x, nx, tab)) (k : 0 ≤ i.toInt → i.toInt < n → am_L P N d M nx ls (.int (kr s j i) :: st) S Q) : am_L P N d M pc ls (.int i :: .ref r :: st) S Q := by
  have h1 := hS.ar hm
  refine l_do hi (by decide) (fun pc' ls' st' S1 h => ?_)
  simp only [am_do, h1] at h
  split at h
  · rename_i hcnd
    cases h
    have e : (0 : Int32).toInt = 0 := rfl
    have h2 : 0 ≤ i.toInt := by
      have h3 := hcnd.2.1
      rw [Int32.lt_iff_toInt_lt] at h3
      omega
    have h4 : i.toNatClampNeg = i.toInt.toNat := rfl
    exact k h2 (by have := hcnd.2.2; omega)
  · cases h
theorem l26 {j r n : Nat} {t : Bool} {i v : Int32} (hS : MK S0 S s) (hm : (j, r, t, n) ∈ mm_ar) (hi : P.1 M pc = some (26, a, b, c, x, nx, tab)) (k : ∀ S1, MK S0 S1 (ka s j i v) → 0 ≤ i.toInt → i.toInt < n → am_L P N d M nx ls st S1 Q) : am_L P N d M pc ls (.int v :: .int i :: .ref r :: st) S Q := by
  have h1 := hS.ar hm
  refine l_do hi (by decide) (fun pc' ls' st' S1 h => ?_)
  simp only [am_do, h1] at h
  split at h
  · rename_i hcnd
    cases h
    have e : (0 : Int32).toInt = 0 := rfl
    have h2 : 0 ≤ i.toInt := by
      have h3 := hcnd.2.1
      rw [Int32.lt_iff_toInt_lt] at h3
      omega
    have h4 : i.toNatClampNeg = i.toInt.toNat := rfl
    refine k _ ?_ h2 (by have := hcnd.2.2.1; omega)
    obtain ⟨m1, m2, m3, m4, m5⟩ := hS
    have hr := ma_in hm
    refine ⟨?_, fun q hq => ?_, m3, by show (S.1.set _ _).length = _; rw [List.length_set]; exact m4, fun k hk => ?_⟩
    · exact am_fs_ne (by show r ≠ 39; have : 39 < r := hr.1; omega) m1
    · show (S.1.set r _)[q.2.1]? = some (.inl (q.2.2.1, q.2.2.2, upg s.2 j i.toNatClampNeg v q.1))
      unfold upg
      by_cases e1 : q.1 = j
      · have e2 : q.2.1 = r := ma_adr hq hm e1
        have h5 := m2 q hq
        rw [e2] at h5 ⊢
        rw [h1] at h5
        simp only [Option.some.injEq, Sum.inl.injEq, Prod.mk.injEq] at h5
        rw [if_pos e1, List.getElem?_set_self (am_ltl h1), e1, ← h5.1, ← h5.2.1]
      · rw [if_neg e1, List.getElem?_set_ne (fun e2 => e1 (ma_eq hq hm e2.symm))]
        exact m2 q hq
    · have hr2 : 39 < r ∧ r < 94 := hr
      show (S.1.set r _)[k]? = _
      rw [List.getElem?_set_ne (by omega)]
      exact m5 k hk
  · cases h
end AMK
section AMD
variable {P : am_P} {N d M pc : Nat} {ls : am_V} {st : List Value} {S : am_S} {Q : Option (Option Value) → am_S → Prop} {a b c nx : Nat} {x : Int32} {tab : List (Int32 × Nat)}
theorem l_zero : am_L P 0 d M pc ls st S Q := by
  intro n hn o S' h
  obtain rfl : n = 0 := by omega
  simp [am_run] at h
/-- a step is spent -/
theorem l_eqd {op pc' : Nat} {ls' : am_V} {st' : List Value} {S1 : am_S} (hi : P.1 M pc = some (op, a, b, c, x, nx, tab)) (h0 : ¬ op = 32 ∧ ¬ op = 37 ∧ ¬ (33 ≤ op ∧ op ≤ 36)) (hd : am_do P.2.1 P.2.2.2.2 op a b c x nx tab d ls st S = some (pc', ls', st', S1)) (k : am_L P N d M pc' ls' st' S1 Q) : am_L P (N + 1) d M pc ls st S Q := by
  intro n hn o S' h
  cases n with
  | zero => simp [am_run] at h
  | succ n =>
    rw [am_run, hi] at h
    dsimp only at h
    rw [if_neg h0.1, if_neg h0.2.1, if_neg h0.2.2, hd] at h
    exact k n (by omega) o S' h
theorem l1d {v : Int32} (hi : P.1 M pc = some (1, a, b, c, x, nx, tab)) (h : ls[a]? = some (some (.int v))) (k : am_L P N d M nx ls (.int v :: st) S Q) : am_L P (N + 1) d M pc ls st S Q := l_eqd hi (by decide) (by simp only [am_do, h]) k
theorem l2d {v : Nat} (hi : P.1 M pc = some (2, a, b, c, x, nx, tab)) (h : ls[a]? = some (some (.ref v))) (k : am_L P N d M nx ls (.ref v :: st) S Q) : am_L P (N + 1) d M pc ls st S Q := l_eqd hi (by decide) (by simp only [am_do, h]) k
theorem sw_not {tab : List (Int32 × Nat)} {b : Nat} {v : Int32} {ks : List Int32} (h : tab.all (fun q => decide (q.2 = b) || ks.contains q.1) = true) (hv : ∀ k ∈ ks, ¬ v = k) : am_sw tab b v = b := by
  induction tab with
  | nil => rfl
  | cons q r ih =>
    obtain ⟨k, t⟩ := q
    simp only [List.all_cons, Bool.and_eq_true] at h
    rw [am_sw]
    by_cases e : v = k
    · rw [if_pos e]
      have h1 := h.1
      simp only [Bool.or_eq_true, decide_eq_true_eq] at h1
      rcases h1 with h1 | h1
      · exact h1
      · exact absurd e (hv k (by simpa using h1))
    · rw [if_neg e]
      exact ih h.2
end AMD
/-! LOOPS: a round answers 0 to go on, else how it is left -/
section KW
variable {α : Type}
def kwh (b : α → Nat × α) : Nat → α → Nat × α
  | 0, t => (0, t)
  | m + 1, t => if (b t).1 = 0 then kwh b m (b t).2 else b t
theorem kwh_go {b : α → Nat × α} {m : Nat} {t : α} (h : (b t).1 = 0) : kwh b (m + 1) t = kwh b m (b t).2 := by rw [kwh, if_pos h]
theorem kwh_out {b : α → Nat × α} {m : Nat} {t : α} (h : ¬ (b t).1 = 0) : kwh b (m + 1) t = b t := by rw [kwh, if_neg h]
theorem kwh_more {b : α → Nat × α} : ∀ (m : Nat) (t : α), ¬ (kwh b m t).1 = 0 → ∀ k, kwh b (m + k) t = kwh b m t := by
  intro m
  induction m with
  | zero => intro t h; exact absurd rfl h
  | succ m ih =>
    intro t h k
    rw [show m + 1 + k = m + k + 1 by omega]
    by_cases e : (b t).1 = 0
    · rw [kwh_go e] at h ⊢
      rw [kwh_go e]
      exact ih _ h k
    · rw [kwh_out e, kwh_out e]
theorem kwh_same {b : α → Nat × α} {m m' : Nat} {t : α} (h : ¬ (kwh b m t).1 = 0) (h' : ¬ (kwh b m' t).1 = 0) : kwh b m t = kwh b m' t := by
  rcases Nat.le_total m m' with e | e
  · obtain ⟨k, rfl⟩ := Nat.exists_eq_add_of_le e
    exact (kwh_more m t h k).symm
  · obtain ⟨k, rfl⟩ := Nat.exists_eq_add_of_le e
    exact kwh_more m' t h' k
noncomputable def kfin (b : α → Nat × α) (t : α) : Nat × α := @dite (Nat × α) (∃ m, ¬ (kwh b m t).1 = 0) (Classical.propDecidable _) (fun h => kwh b (Classical.choose h) t) (fun _ => (0, t))
theorem kfin_eq {b : α → Nat × α} {m : Nat} {t : α} (h : ¬ (kwh b m t).1 = 0) : kfin b t = kwh b m t := by
  unfold kfin
  rw [dif_pos ⟨m, h⟩]
  exact kwh_same (Classical.choose_spec (⟨m, h⟩ : ∃ m, ¬ (kwh b m t).1 = 0)) h
end KW
