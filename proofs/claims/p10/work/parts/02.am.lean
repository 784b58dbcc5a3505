/-! THE ABSTRACT MACHINE: small instructions over a list of cells (a reference is a place in the list; .long z stands for a reference to a constant cell outside the list); n is fuel, d the frames that are left -/
abbrev am_C : Type := (Bool × Nat × (Nat → Int32)) ⊕ ((Nat × (Nat → Option Nat)) ⊕ (Nat × List Value))
abbrev am_S : Type := List am_C × Nat × Nat
abbrev am_I : Type := Nat × Nat × Nat × Nat × Int32 × Nat × List (Int32 × Nat)
abbrev am_V : Type := List (Option Value)
abbrev am_P : Type := (Nat → Nat → Option am_I) × (Nat → List Value) × (Nat → Nat) × (Nat → Nat → Option (Nat × Nat)) × (Nat × (Nat → Int32))
def am_cmp (k : Nat) (x y : Int32) : Bool := match k with
  | 0 => decide (x = y)
  | 1 => decide (¬ x = y)
  | 2 => decide (x < y)
  | 3 => decide (y ≤ x)
  | 4 => decide (y < x)
  | _ => decide (x ≤ y)
def am_bin (k : Nat) (x y : Int32) : Int32 := match k with
  | 0 => x + y
  | 1 => x - y
  | 2 => x * y
  | 3 => x &&& y
  | 4 => x ||| y
  | _ => x >>> (y &&& 31)
def am_sw (tab : List (Int32 × Nat)) (dflt : Nat) (x : Int32) : Nat := match tab with
  | [] => dflt
  | (k, t) :: r => if x = k then t else am_sw r dflt x
/-- may a field of this kind hold the value: 0 a number, 1 a reference, 2 a truth -/
def am_fit (k : Nat) (v : Value) : Bool := match k, v with
  | 0, .int _ => true
  | 1, .ref _ => true
  | 1, .null => true
  | 1, .long _ => true
  | 2, .int x => decide (x = 0 ∨ x = 1)
  | _, _ => false
/-- the instructions that neither call nor end -/
def am_do (nb : Nat → List Value) (sc : Nat × (Nat → Int32)) (op a b c : Nat) (x : Int32) (nx : Nat) (tab : List (Int32 × Nat)) (d : Nat) (ls : am_V) (st : List Value) (S : am_S) : Option (Nat × am_V × List Value × am_S) :=
  match op with
  | 0 => some (nx, ls, .int x :: st, S)
  | 1 => match ls[a]? with
    | some (some (.int v)) => some (nx, ls, .int v :: st, S)
    | _ => none
  | 2 => match ls[a]? with
    | some (some (.ref v)) => some (nx, ls, .ref v :: st, S)
    | some (some .null) => some (nx, ls, .null :: st, S)
    | some (some (.long v)) => some (nx, ls, .long v :: st, S)
    | _ => none
  | 3 => match st with
    | .int v :: r => if a < ls.length then some (nx, ls.set a (some (.int v)), r, S) else none
    | _ => none
  | 4 => match st with
    | .ref v :: r => if a < ls.length then some (nx, ls.set a (some (.ref v)), r, S) else none
    | .null :: r => if a < ls.length then some (nx, ls.set a (some .null), r, S) else none
    | .long v :: r => if a < ls.length then some (nx, ls.set a (some (.long v)), r, S) else none
    | _ => none
  | 5 => match ls[a]? with
    | some (some (.int v)) => some (nx, ls.set a (some (.int (v + x))), st, S)
    | _ => none
  | 6 => match st with
    | .int _ :: r => some (nx, ls, r, S)
    | .ref _ :: r => some (nx, ls, r, S)
    | .null :: r => some (nx, ls, r, S)
    | .long _ :: r => some (nx, ls, r, S)
    | _ => none
  | 7 => match st with
    | .int v :: r => some (nx, ls, .int v :: .int v :: r, S)
    | .ref v :: r => some (nx, ls, .ref v :: .ref v :: r, S)
    | _ => none
  | 8 => match st with
    | .int v :: .ref w :: r => some (nx, ls, .int v :: .ref w :: .int v :: .ref w :: r, S)
    | _ => none
  | 9 => match st with
    | v :: w :: r => some (nx, ls, v :: w :: v :: r, S)
    | _ => none
  | 10 => match st with
    | .int w :: .int v :: r => some (nx, ls, .int (am_bin a v w) :: r, S)
    | _ => none
  | 11 => match st with
    | .int v :: r => some (nx, ls, .int (-v) :: r, S)
    | _ => none
  | 12 => match st with
    | .int v :: r => some (if am_cmp a v 0 then b else nx, ls, r, S)
    | _ => none
  | 13 => match st with
    | .int w :: .int v :: r => some (if am_cmp a v w then b else nx, ls, r, S)
    | _ => none
  | 14 => match st with
    | .ref _ :: r => some (nx, ls, r, S)
    | .null :: r => some (b, ls, r, S)
    | _ => none
  | 15 => match st with
    | .ref _ :: r => some (b, ls, r, S)
    | .null :: r => some (nx, ls, r, S)
    | _ => none
  | 16 => match st with
    | .long z :: .long y :: r => if z = y then some (b, ls, r, S) else none
    | .long z :: .ref _ :: r => if z = 0 then some (nx, ls, r, S) else none
    | _ => none
  | 17 => match st with
    | .long z :: .long y :: r => if z = y then some (nx, ls, r, S) else none
    | _ => none
  | 18 => some (b, ls, st, S)
  | 19 => match st with
    | .int v :: r => some (am_sw tab b v, ls, r, S)
    | _ => none
  | 20 => match st with
    | .ref k :: r => match S.1[k]? with
      | some (.inr (.inr (ci, fs))) => if ci = a then match fs[b]? with
        | some v => some (nx, ls, v :: r, S)
        | none => none else none
      | _ => none
    | _ => none
  | 21 => match st with
    | v :: .ref k :: r => match S.1[k]? with
      | some (.inr (.inr (ci, fs))) => if ci = a ∧ b < fs.length ∧ am_fit (c % 4) v = true then
          some (nx, ls, r, (S.1.set k (.inr (.inr (ci, fs.set b v))), S.2.1, S.2.2)) else none
      | _ => none
    | _ => none
  | 22 => some (nx, ls, .ref S.1.length :: st, (S.1 ++ [.inr (.inr (a, nb a))], S.2.1 + 1, S.2.2 + (nb a).length))
  | 23 => match st with
    | .int v :: r => if ¬ v < 0 ∧ v.toNatClampNeg ≤ 16777216 then
        some (nx, ls, .ref S.1.length :: r, (S.1 ++ [.inl (decide (a = 1), v.toNatClampNeg, fun _ => 0)], S.2.1 + 1, S.2.2 + v.toNatClampNeg)) else none
    | _ => none
  | 24 => match st with
    | .ref k :: r => match S.1[k]? with
      | some (.inl (_, n, _)) => some (nx, ls, .int (Int32.ofNat n) :: r, S)
      | some (.inr (.inl (n, _))) => some (nx, ls, .int (Int32.ofNat n) :: r, S)
      | _ => none
    | .long z :: r => if z = 0 then some (nx, ls, .int 0 :: r, S) else if z = 2 ∧ sc.1 ≤ 2048 then some (nx, ls, .int (Int32.ofNat sc.1) :: r, S) else none
    | _ => none
  | 25 => match st with
    | .int i :: .ref k :: r => match S.1[k]? with
      | some (.inl (t, n, f)) => if decide (a = 1) = t ∧ ¬ i < 0 ∧ i.toNatClampNeg < n then some (nx, ls, .int (f i.toNatClampNeg) :: r, S) else none
      | _ => none
    | .int i :: .long z :: r => if z = 2 ∧ a = 0 ∧ ¬ i < 0 ∧ i.toNatClampNeg < sc.1 ∧ sc.1 ≤ 2048 then some (nx, ls, .int (sc.2 i.toNatClampNeg) :: r, S) else none
    | _ => none
  | 26 => match st with
    | .int v :: .int i :: .ref k :: r => match S.1[k]? with
      | some (.inl (t, n, f)) => if decide (a = 1) = t ∧ ¬ i < 0 ∧ i.toNatClampNeg < n ∧ (t = true → v = 0 ∨ v = 1) then
          some (nx, ls, r, (S.1.set k (.inl (t, n, upd f i.toNatClampNeg v)), S.2.1, S.2.2)) else none
      | _ => none
    | _ => none
  | 29 => some (nx, ls, .null :: st, S)
  | 30 => match st with
    | .ref k :: r => match S.1[k]? with
      | some (.inr (.inr (ci, _))) => if ci = a then some (nx, ls, .ref k :: r, S) else none
      | _ => none
    | _ => none
  | 31 => match st with
    | .ref _ :: r => if 1 ≤ d ∧ r.length ≤ 8 then some (nx, ls, r, S) else none
    | _ => none
  | 38 => match st with
    | .int v :: r => if ¬ v < 0 ∧ v.toNatClampNeg ≤ 16777216 then
        some (nx, ls, .ref S.1.length :: r, (S.1 ++ [.inr (.inl (v.toNatClampNeg, fun _ => none))], S.2.1 + 1, S.2.2 + v.toNatClampNeg)) else none
    | _ => none
  | 39 => match st with
    | .int i :: .ref k :: r => match S.1[k]? with
      | some (.inr (.inl (n, g))) => if ¬ i < 0 ∧ i.toNatClampNeg < n then some (nx, ls, va_rf (g i.toNatClampNeg) :: r, S) else none
      | _ => none
    | _ => none
  | 40 => match st with
    | .ref v :: .int i :: .ref k :: r => match S.1[v]?, S.1[k]? with
      | some (.inr (.inr (ci, _))), some (.inr (.inl (n, g))) => if ci = a ∧ ¬ i < 0 ∧ i.toNatClampNeg < n then
          some (nx, ls, r, (S.1.set k (.inr (.inl (n, va_up g i.toNatClampNeg (some v)))), S.2.1, S.2.2)) else none
      | _, _ => none
    | .null :: .int i :: .ref k :: r => match S.1[k]? with
      | some (.inr (.inl (n, g))) => if ¬ i < 0 ∧ i.toNatClampNeg < n then
          some (nx, ls, r, (S.1.set k (.inr (.inl (n, va_up g i.toNatClampNeg none))), S.2.1, S.2.2)) else none
      | _ => none
    | _ => none
  | 41 => match st with
    | .int n :: .int dp :: .ref k1 :: .int sp :: .ref k0 :: r => match S.1[k0]?, S.1[k1]? with
      | some (.inl (false, n0, f)), some (.inl (false, n1, g)) => if ¬ sp < 0 ∧ ¬ dp < 0 ∧ ¬ n < 0 ∧ sp.toNatClampNeg + n.toNatClampNeg ≤ n0 ∧ dp.toNatClampNeg + n.toNatClampNeg ≤ n1 ∧ 1 ≤ d ∧ r.length ≤ 8 then
          some (nx, ls, r, (S.1.set k1 (.inl (false, n1, va_cpy f g sp.toNatClampNeg dp.toNatClampNeg n.toNatClampNeg)), S.2.1, S.2.2)) else none
      | _, _ => none
    | _ => none
  | 42 => match st with
    | .int n :: .int dp :: .ref k1 :: .int sp :: .ref k0 :: r => match S.1[k0]?, S.1[k1]? with
      | some (.inr (.inl (n0, f))), some (.inr (.inl (n1, g))) => if ¬ sp < 0 ∧ ¬ dp < 0 ∧ ¬ n < 0 ∧ sp.toNatClampNeg + n.toNatClampNeg ≤ n0 ∧ dp.toNatClampNeg + n.toNatClampNeg ≤ n1 ∧ 1 ≤ d ∧ r.length ≤ 8 ∧
            (List.range n.toNatClampNeg).all (fun i => match f (sp.toNatClampNeg + i) with
              | none => true
              | some j => match S.1[j]? with
                | some (.inr (.inr (ci, _))) => decide (ci = a)
                | _ => false) = true then
          some (nx, ls, r, (S.1.set k1 (.inr (.inl (n1, va_cpy f g sp.toNatClampNeg dp.toNatClampNeg n.toNatClampNeg))), S.2.1, S.2.2)) else none
      | _, _ => none
    | _ => none
  | 43 => some (nx, ls, .long 0 :: st, S)
  | 44 => match st with
    | .ref k :: r => match S.1[k]? with
      | some (.inr (.inl _)) => if 1 ≤ d ∧ r.length ≤ 8 then some (nx, ls, .long 1 :: r, S) else none
      | _ => none
    | _ => none
  | 45 => some (nx, ls, .long 1 :: st, S)
  | _ => none
/-- what a method answers at its end: nothing, a number, a reference, a truth -/
def am_ret (op : Nat) (st : List Value) : Option (Option Value) := match op, st with
  | 33, [.int v] => some (some (.int v))
  | 34, [.ref k] => some (some (.ref k))
  | 34, [.null] => some (some .null)
  | 35, [] => some none
  | 36, [.int v] => if v = 0 ∨ v = 1 then some (some (.int v)) else none
  | _, _ => none
/-- may this be called upon: kc = 0: a static method; 1: any object; k + 2: an object of the class k -/
def am_recv (kc : Nat) (as : List Value) (S : am_S) : Bool := match kc, as with
  | 0, _ => true
  | 1, .ref _ :: _ => true
  | k + 2, .ref r :: _ => match S.1[r]? with
    | some (.inr (.inr (ci, _))) => decide (ci = k)
    | _ => false
  | _, _ => false
def am_in (as : List Value) (m : Nat) : am_V := as.map some ++ List.replicate (m - as.length) none
def am_run (P : am_P) : Nat → Nat → Nat → Nat → am_V → List Value → am_S → Option (Option (Option Value) × am_S)
  | 0, _, _, _, _, _, _ => none
  | n + 1, d, M, pc, ls, st, S => match P.1 M pc with
    | none => none
    | some (op, a, b, c, x, nx, tab) =>
      if op = 32 then
        if b ≤ st.length ∧ st.length ≤ b + 8 ∧ b ≤ P.2.2.1 a ∧ am_recv c (st.take b).reverse S = true then match d with
          | 0 => none
          | d' + 1 => match am_run P n d' a 0 (am_in (st.take b).reverse (P.2.2.1 a)) [] S with
            | none => none
            | some (some v, S') => am_run P n (d' + 1) M nx ls (v.toList ++ st.drop b) S'
            | some (none, S') => match P.2.2.2.1 M pc with
              | none => some (none, S')
              | some (h, j) => am_run P n (d' + 1) M h (ls.set j none) [] S'
        else none
      else if op = 37 then (if 12 ≤ d ∧ st.length ≤ 8 then some (none, (S.1, S.2.1 + 1, S.2.2 + 6)) else none)
      else if 33 ≤ op ∧ op ≤ 36 then match am_ret op st with
        | none => none
        | some v => some (some v, S)
      else match am_do P.2.1 P.2.2.2.2 op a b c x nx tab d ls st S with
        | none => none
        | some (pc', ls', st', S') => am_run P n d M pc' ls' st' S'
/-- more fuel, the same end -/
theorem am_more (P : am_P) : ∀ (n : Nat) (d M pc : Nat) (ls : am_V) (st : List Value) (S : am_S) (r : Option (Option Value) × am_S), am_run P n d M pc ls st S = some r → am_run P (n + 1) d M pc ls st S = some r := by
  intro n
  induction n with
  | zero => intro d M pc ls st S r h; simp [am_run] at h
  | succ n ih =>
    intro d M pc ls st S r h
    rw [am_run] at h ⊢
    cases hi : P.1 M pc with
    | none => rw [hi] at h; cases h
    | some i =>
      obtain ⟨op, a, b, c, x, nx, tab⟩ := i
      rw [hi] at h
      dsimp only at h ⊢
      by_cases h32 : op = 32
      · rw [if_pos h32] at h ⊢
        by_cases hb : b ≤ st.length ∧ st.length ≤ b + 8 ∧ b ≤ P.2.2.1 a ∧ am_recv c (st.take b).reverse S = true
        · rw [if_pos hb] at h ⊢
          cases d with
          | zero => cases h
          | succ d' =>
            dsimp only at h ⊢
            cases hc : am_run P n d' a 0 (am_in (st.take b).reverse (P.2.2.1 a)) [] S with
            | none => rw [hc] at h; cases h
            | some q =>
              rw [hc] at h
              rw [ih _ _ _ _ _ _ _ hc]
              obtain ⟨o, S'⟩ := q
              cases o with
              | some v => exact ih _ _ _ _ _ _ _ h
              | none =>
                dsimp only at h ⊢
                cases hh : P.2.2.2.1 M pc with
                | none => rw [hh] at h; exact h
                | some q => rw [hh] at h; exact ih _ _ _ _ _ _ _ h
        · rw [if_neg hb] at h; cases h
      · rw [if_neg h32] at h ⊢
        by_cases h37 : op = 37
        · rw [if_pos h37] at h ⊢; exact h
        · rw [if_neg h37] at h ⊢
          by_cases h33 : 33 ≤ op ∧ op ≤ 36
          · rw [if_pos h33] at h ⊢; exact h
          · rw [if_neg h33] at h ⊢
            cases hd : am_do P.2.1 P.2.2.2.2 op a b c x nx tab d ls st S with
            | none => rw [hd] at h; cases h
            | some q => rw [hd] at h; exact ih _ _ _ _ _ _ _ h
theorem am_le {P : am_P} {n k d M pc : Nat} {ls : am_V} {st : List Value} {S : am_S} {r : Option (Option Value) × am_S} (hk : n ≤ k) (h : am_run P n d M pc ls st S = some r) : am_run P k d M pc ls st S = some r := by
  induction hk with
  | refl => exact h
  | step _ ih => exact am_more P _ _ _ _ _ _ _ _ ih
/-- a run to its end, with fuel enough -/
def am_R (P : am_P) (d M pc : Nat) (ls : am_V) (st : List Value) (S : am_S) (o : Option (Option Value)) (S' : am_S) : Prop := ∃ n, am_run P n d M pc ls st S = some (o, S')
theorem am_R.go {P : am_P} {d M pc pc' : Nat} {ls ls' : am_V} {st st' : List Value} {S S1 S' : am_S} {o : Option (Option Value)} {op a b c nx : Nat} {x : Int32} {tab : List (Int32 × Nat)} (hi : P.1 M pc = some (op, a, b, c, x, nx, tab)) (h0 : ¬ op = 32 ∧ ¬ op = 37 ∧ ¬ (33 ≤ op ∧ op ≤ 36)) (hd : am_do P.2.1 P.2.2.2.2 op a b c x nx tab d ls st S = some (pc', ls', st', S1))
    (k : am_R P d M pc' ls' st' S1 o S') : am_R P d M pc ls st S o S' := by
  obtain ⟨n, k⟩ := k
  refine ⟨n + 1, ?_⟩
  rw [am_run, hi]
  dsimp only
  rw [if_neg h0.1, if_neg h0.2.1, if_neg h0.2.2, hd]
  exact k
theorem am_R.ret {P : am_P} {d M pc : Nat} {ls : am_V} {st : List Value} {S : am_S} {v : Option Value} {op a b c nx : Nat} {x : Int32} {tab : List (Int32 × Nat)} (hi : P.1 M pc = some (op, a, b, c, x, nx, tab)) (h0 : 33 ≤ op ∧ op ≤ 36) (hv : am_ret op st = some v) : am_R P d M pc ls st S (some v) S := by
  refine ⟨1, ?_⟩
  rw [am_run, hi]
  dsimp only
  rw [if_neg (by omega), if_neg (by omega), if_pos h0, hv]
theorem am_R.thr {P : am_P} {d M pc : Nat} {ls : am_V} {st : List Value} {S : am_S} {a b c nx : Nat} {x : Int32} {tab : List (Int32 × Nat)} (hi : P.1 M pc = some (37, a, b, c, x, nx, tab)) (h0 : 12 ≤ d ∧ st.length ≤ 8) : am_R P d M pc ls st S none (S.1, S.2.1 + 1, S.2.2 + 6) := by
  refine ⟨1, ?_⟩
  rw [am_run, hi]
  dsimp only
  rw [if_neg (by omega), if_pos rfl, if_pos h0]
/-- a call that comes back -/
theorem am_R.call {P : am_P} {d M pc : Nat} {ls : am_V} {st : List Value} {S S1 S' : am_S} {o : Option (Option Value)} {v : Option Value} {a b c nx : Nat} {x : Int32} {tab : List (Int32 × Nat)} (hi : P.1 M pc = some (32, a, b, c, x, nx, tab)) (h0 : b ≤ st.length ∧ st.length ≤ b + 8 ∧ b ≤ P.2.2.1 a ∧ am_recv c (st.take b).reverse S = true)
    (hc : am_R P d a 0 (am_in (st.take b).reverse (P.2.2.1 a)) [] S (some v) S1) (k : am_R P (d + 1) M nx ls (v.toList ++ st.drop b) S1 o S') : am_R P (d + 1) M pc ls st S o S' := by
  obtain ⟨n1, hc⟩ := hc
  obtain ⟨n2, k⟩ := k
  refine ⟨max n1 n2 + 1, ?_⟩
  rw [am_run, hi]
  dsimp only
  rw [if_pos rfl, if_pos h0, am_le (Nat.le_max_left n1 n2) hc]
  exact am_le (Nat.le_max_right n1 n2) k
/-- a call that throws, and nothing here catches it -/
theorem am_R.callX {P : am_P} {d M pc : Nat} {ls : am_V} {st : List Value} {S S1 : am_S} {a b c nx : Nat} {x : Int32} {tab : List (Int32 × Nat)} (hi : P.1 M pc = some (32, a, b, c, x, nx, tab)) (h0 : b ≤ st.length ∧ st.length ≤ b + 8 ∧ b ≤ P.2.2.1 a ∧ am_recv c (st.take b).reverse S = true)
    (hc : am_R P d a 0 (am_in (st.take b).reverse (P.2.2.1 a)) [] S none S1) (hh : P.2.2.2.1 M pc = none) : am_R P (d + 1) M pc ls st S none S1 := by
  obtain ⟨n1, hc⟩ := hc
  refine ⟨n1 + 1, ?_⟩
  rw [am_run, hi]
  dsimp only
  rw [if_pos rfl, if_pos h0, hc]
  dsimp only
  rw [hh]
/-- a call that throws, and it is caught -/
theorem am_R.callC {P : am_P} {d M pc h j : Nat} {ls : am_V} {st : List Value} {S S1 S' : am_S} {o : Option (Option Value)} {a b c nx : Nat} {x : Int32} {tab : List (Int32 × Nat)} (hi : P.1 M pc = some (32, a, b, c, x, nx, tab)) (h0 : b ≤ st.length ∧ st.length ≤ b + 8 ∧ b ≤ P.2.2.1 a ∧ am_recv c (st.take b).reverse S = true)
    (hc : am_R P d a 0 (am_in (st.take b).reverse (P.2.2.1 a)) [] S none S1) (hh : P.2.2.2.1 M pc = some (h, j)) (k : am_R P (d + 1) M h (ls.set j none) [] S1 o S') : am_R P (d + 1) M pc ls st S o S' := by
  obtain ⟨n1, hc⟩ := hc
  obtain ⟨n2, k⟩ := k
  refine ⟨max n1 n2 + 1, ?_⟩
  rw [am_run, hi]
  dsimp only
  rw [if_pos rfl, if_pos h0, am_le (Nat.le_max_left n1 n2) hc]
  dsimp only
  rw [hh]
  exact am_le (Nat.le_max_right n1 n2) k
