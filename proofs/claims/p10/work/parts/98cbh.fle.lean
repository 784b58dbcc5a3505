/-! FLAWS: both loops alike -/
section FL8
variable {s : cS} {k : kS} {x : Nat}
/-- one row is counted alike -/
theorem flw_row {n i : Nat} {st e op a b : Int32} (er : s.r (.i (x + 1)) = xn n) (hn : n ≤ 100000) (hi : i < n) (t0 : tg s (.i (x + 1)) (xn i) 0 = op) (e165 : c165 s (x + 1) (xn i) = e) (e60 : kr k 60 (xn x) = xn n) (q0 : kr k 70 (kr k 74 (kr k 61 (xn x) + xn i)) = op) (q1 : kr k 71 (kr k 74 (kr k 61 (xn x) + xn i)) = a) (q2 : kr k 72 (kr k 74 (kr k 61 (xn x) + xn i)) = b) (e274 : k274 k op a b = e) (fl : (c169 s (x + 1) (xn i) = 0 ∧ c170 s (x + 1) (xn i) = 0) ↔ k276 k (xn x) op a b ≠ 0) : ∃ d : Int32, (∀ f0, c168b7 s (x + 1) (st, f0, xn i) = (0, (st + e, f0 + d, xn (i + 1)))) ∧ ∀ T, k275b17 k (xn x) (T, st, xn i) = (0, (T + d, st + e, xn (i + 1))) := by
  have c1 : ¬ xn n ≤ xn i := by rw [i_le, xn_i (by omega), xn_i (by omega)]; omega
  have r1 : xn n - 1 = xn (n - 1) := by
    have z := xn_sub (n := 1) (m := n - 1) (by omega)
    rw [show 1 + (n - 1) = n by omega] at z
    exact z
  have inj : ∀ {p q : Nat}, p ≤ 1000000 → q ≤ 1000000 → xn p = xn q → p = q := fun {p q} hp hq z => by
    have := congrArg Int32.toInt z
    rw [xn_i (by omega), xn_i (by omega)] at this
    omega
  have cl : ∀ {P : Prop}, (i + 1 ≠ n → P) → xn i ≠ xn n - 1 → P := fun {P} h z => h (fun q => z (by rw [r1, show n - 1 = i by omega]))
  have core : ∃ d : Int32, (∀ f0 : Int32, (if st + e < 0 then ((0 : Nat), (st + e, f0 + 1, xn (i + 1))) else if c169 s (x + 1) (xn i) ≠ 0 then (0, (st + e, f0 + 1, xn (i + 1))) else if c170 s (x + 1) (xn i) = 0 then (0, (st + e, f0, xn (i + 1))) else (0, (st + e, f0 + 1, xn (i + 1)))) = (0, (st + e, f0 + d, xn (i + 1)))) ∧ ∀ T : Int32, (if st + e < 0 then ((0 : Nat), (T + 1, st + e, xn (i + 1))) else if k276 k (xn x) op a b ≠ 0 then (0, (T, st + e, xn (i + 1))) else (0, (T + 1, st + e, xn (i + 1)))) = (0, (T + d, st + e, xn (i + 1))) := by
    by_cases d1 : st + e < 0
    · exact ⟨1, fun f0 => if_pos d1, fun T => if_pos d1⟩
    · by_cases d2 : c169 s (x + 1) (xn i) = 0 ∧ c170 s (x + 1) (xn i) = 0
      · exact ⟨0, fun f0 => by rw [if_neg d1, if_neg (fun z => z d2.1), if_pos d2.2, Int32.add_zero], fun T => by rw [if_neg d1, if_pos (fl.mp d2), Int32.add_zero]⟩
      · refine ⟨1, fun f0 => ?_, fun T => by rw [if_neg d1, if_neg (fun z => d2 (fl.mpr z))]⟩
        rw [if_neg d1]
        by_cases d3 : c169 s (x + 1) (xn i) = 0
        · rw [if_neg (fun z => z d3), if_neg (fun z => d2 ⟨d3, z⟩)]
        · rw [if_pos d3]
  have hc : ∀ f0, c168b7 s (x + 1) (st, f0, xn i) = (if op ≠ 34 then if xn i ≠ xn n - 1 then (if st + e < 0 then ((0 : Nat), (st + e, f0 + 1, xn (i + 1))) else if c169 s (x + 1) (xn i) ≠ 0 then (0, (st + e, f0 + 1, xn (i + 1))) else if c170 s (x + 1) (xn i) = 0 then (0, (st + e, f0, xn (i + 1))) else (0, (st + e, f0 + 1, xn (i + 1)))) else if op = 45 then (if st + e < 0 then ((0 : Nat), (st + e, f0 + 1, xn (i + 1))) else if c169 s (x + 1) (xn i) ≠ 0 then (0, (st + e, f0 + 1, xn (i + 1))) else if c170 s (x + 1) (xn i) = 0 then (0, (st + e, f0, xn (i + 1))) else (0, (st + e, f0 + 1, xn (i + 1)))) else (0, (st + e, f0 + 1, xn (i + 1))) else if st ≠ 0 then (0, (st + e, f0 + 1, xn (i + 1))) else if xn i ≠ xn n - 1 then (if st + e < 0 then ((0 : Nat), (st + e, f0 + 1, xn (i + 1))) else if c169 s (x + 1) (xn i) ≠ 0 then (0, (st + e, f0 + 1, xn (i + 1))) else if c170 s (x + 1) (xn i) = 0 then (0, (st + e, f0, xn (i + 1))) else (0, (st + e, f0 + 1, xn (i + 1)))) else if op = 45 then (if st + e < 0 then ((0 : Nat), (st + e, f0 + 1, xn (i + 1))) else if c169 s (x + 1) (xn i) ≠ 0 then (0, (st + e, f0 + 1, xn (i + 1))) else if c170 s (x + 1) (xn i) = 0 then (0, (st + e, f0, xn (i + 1))) else (0, (st + e, f0 + 1, xn (i + 1)))) else (0, (st + e, f0 + 1, xn (i + 1)))) := fun f0 => by
    unfold c168b7
    dsimp only
    rw [er, if_neg c1, t0, e165, xn_succ (by omega)]
  have hk : ∀ T, k275b17 k (xn x) (T, st, xn i) = (if op ≠ 34 then if xn (i + 1) ≠ xn n then (if st + e < 0 then ((0 : Nat), (T + 1, st + e, xn (i + 1))) else if k276 k (xn x) op a b ≠ 0 then (0, (T, st + e, xn (i + 1))) else (0, (T + 1, st + e, xn (i + 1)))) else if op = 45 then (if st + e < 0 then ((0 : Nat), (T + 1, st + e, xn (i + 1))) else if k276 k (xn x) op a b ≠ 0 then (0, (T, st + e, xn (i + 1))) else (0, (T + 1, st + e, xn (i + 1)))) else if st + e < 0 then (0, (T + 1, st + e, xn (i + 1))) else (0, (T + 1, st + e, xn (i + 1))) else if st = 0 then if xn (i + 1) ≠ xn n then (if st + e < 0 then ((0 : Nat), (T + 1, st + e, xn (i + 1))) else if k276 k (xn x) op a b ≠ 0 then (0, (T, st + e, xn (i + 1))) else (0, (T + 1, st + e, xn (i + 1)))) else if op = 45 then (if st + e < 0 then ((0 : Nat), (T + 1, st + e, xn (i + 1))) else if k276 k (xn x) op a b ≠ 0 then (0, (T, st + e, xn (i + 1))) else (0, (T + 1, st + e, xn (i + 1)))) else if st + e < 0 then (0, (T + 1, st + e, xn (i + 1))) else (0, (T + 1, st + e, xn (i + 1))) else if xn (i + 1) ≠ xn n then (0, (T + 1, st + e, xn (i + 1))) else if op = 45 then (0, (T + 1, st + e, xn (i + 1))) else (0, (T + 1, st + e, xn (i + 1)))) := fun T => by
    unfold k275b17
    dsimp only
    rw [e60, if_neg c1, q0, q1, q2, e274, xn_succ (by omega)]
  obtain ⟨d, k1, k2⟩ := core
  by_cases cn : i + 1 = n
  · have n1 : ¬ (xn i ≠ xn n - 1) := fun z => z (by rw [r1, show n - 1 = i by omega])
    have n2 : ¬ (xn (i + 1) ≠ xn n) := fun z => z (by rw [cn])
    by_cases c34 : op = 34
    · have c45 : ¬ op = 45 := by rw [c34]; decide
      refine ⟨1, fun f0 => ?_, fun T => ?_⟩
      · rw [hc, if_neg (fun z => z c34)]
        by_cases c0 : st = 0
        · rw [if_neg (fun z => z c0), if_neg n1, if_neg c45]
        · rw [if_pos c0]
      · rw [hk, if_neg (fun z => z c34)]
        by_cases c0 : st = 0
        · rw [if_pos c0, if_neg n2, if_neg c45, ite_self]
        · rw [if_neg c0, if_neg n2, if_neg c45]
    · by_cases c45 : op = 45
      · exact ⟨d, fun f0 => by rw [hc, if_pos c34, if_neg n1, if_pos c45]; exact k1 f0, fun T => by rw [hk, if_pos c34, if_neg n2, if_pos c45]; exact k2 T⟩
      · exact ⟨1, fun f0 => by rw [hc, if_pos c34, if_neg n1, if_neg c45], fun T => by rw [hk, if_pos c34, if_neg n2, if_neg c45, ite_self]⟩
  · have n1 : xn i ≠ xn n - 1 := fun z => by
      rw [r1] at z
      have := inj (by omega) (by omega) z
      omega
    have n2 : xn (i + 1) ≠ xn n := fun z => cn (inj (by omega) (by omega) z)
    by_cases c34 : op = 34
    · by_cases c0 : st = 0
      · exact ⟨d, fun f0 => by rw [hc, if_neg (fun z => z c34), if_neg (fun z => z c0), if_pos n1]; exact k1 f0, fun T => by rw [hk, if_neg (fun z => z c34), if_pos c0, if_pos n2]; exact k2 T⟩
      · exact ⟨1, fun f0 => by rw [hc, if_neg (fun z => z c34), if_pos c0], fun T => by rw [hk, if_neg (fun z => z c34), if_neg c0, if_pos n2]⟩
    · exact ⟨d, fun f0 => by rw [hc, if_pos c34, if_pos n1]; exact k1 f0, fun T => by rw [hk, if_pos c34, if_pos n2]; exact k2 T⟩
/-- how many locals there were at most: small; each body's number -/
def MB (k : kS) : Prop := ∀ x : Nat, (x : Int) < (k.1 53).toInt → sm (k.2 58 x)
def B2 (s : cS) (k : kS) : Prop := ∀ x : Nat, (x : Int) < (k.1 53).toInt → s.b (x + 1) 2 = xn x
theorem flw_go {N : Nat} (h53 : k.1 53 = xn N) (hN : N ≤ 1000000) (h5 : s.f 5 1 = k.1 53) (h6 : (N : Int) ≤ (s.f 6 1).toInt) (hc : CK s k) (hf : FK s k) (hu : ∀ x, x < N → s.r (.u (x + 1)) = k.2 67 x) (hm : MB k) (hb2 : B2 s k) (hx : x < N) : ∃ dd : Int32, c168 s (x + 1) = dd ∧ ∀ T, (kfin (k275b17 k (xn x)) (T, 0, 0)).2.1 = T + dd := by
  have z0 : (0 : Int32).toInt = 0 := rfl
  have i5 : (k.1 53).toInt = N := by rw [h53, xn_i (by omega)]
  obtain ⟨U, B, ⟨u1, uw⟩, u2, u3, u4, u5, u6⟩ := hc x (by omega)
  have er : s.r (.i (x + 1)) = xn U.length := xn_eq u1.1 (by omega)
  have ek : ∀ j, kr k j (xn x) = k.2 j x := fun j => by
    show k.2 j (xn x).toNatClampNeg = _
    rw [xn_nat (by omega)]
  have k270e : ∀ a, k270 k a = 0 ↔ ¬ c159 s a := fun a => by
    unfold k270 c159
    rw [h5]
    by_cases c1 : a < 0
    · rw [if_pos c1]
      exact ⟨fun _ z => z.1 c1, fun _ => rfl⟩
    · rw [if_neg c1]
      by_cases c2 : k.1 53 ≤ a
      · rw [if_pos c2]
        exact ⟨fun _ z => z.2.1 c2, fun _ => rfl⟩
      · rw [if_neg c2]
        refine ⟨fun z => absurd z (by decide), fun z => absurd ⟨c1, c2, ?_⟩ z⟩
        rw [i_le] at c2 ⊢
        omega
  have k54 : ∀ a, c159 s a → kr k 54 a = s.b (a.toInt.toNat + 1) 3 := fun a ⟨g1, g2, _⟩ => by
    rw [i_lt] at g1
    rw [h5, i_le] at g2
    obtain ⟨y, hy⟩ : ∃ y : Nat, a.toInt = y := ⟨a.toInt.toNat, by omega⟩
    have ea : a = xn y := xn_eq hy (by omega)
    have en : a.toInt.toNat = y := by omega
    rw [en, (hf y (by omega)).1, ea]
    show k.2 54 (xn y).toNatClampNeg = _
    rw [xn_nat (by omega)]
  obtain ⟨m0, m1⟩ := hm x (by omega)
  have go : ∀ (d i : Nat) (st f0 T : Int32), i + d = U.length → ∃ m st' dd, kwh (c168b7 s (x + 1)) m (st, f0, xn i) = (1, (st', f0 + dd, xn U.length)) ∧ kwh (k275b17 k (xn x)) m (T, st, xn i) = (1, (T + dd, st', xn U.length)) := by
    intro d
    induction d with
    | zero =>
      intro i st f0 T hi
      obtain rfl : i = U.length := by omega
      have e1 : c168b7 s (x + 1) (st, f0, xn U.length) = (1, (st, f0, xn U.length)) := by
        unfold c168b7
        rw [if_pos (by show s.r (.i (x + 1)) ≤ xn U.length; rw [er]; exact Int32.le_refl _)]
      have e2 : k275b17 k (xn x) (T, st, xn U.length) = (1, (T, st, xn U.length)) := by
        unfold k275b17
        rw [if_pos (by show kr k 60 (xn x) ≤ xn U.length; rw [ek, u4]; exact Int32.le_refl _)]
      exact ⟨1, st, 0, by rw [kwh_out (by rw [e1]; exact Nat.succ_ne_zero _), e1, Int32.add_zero], by rw [kwh_out (by rw [e2]; exact Nat.succ_ne_zero _), e2, Int32.add_zero]⟩
    | succ d ih =>
      intro i st f0 T hi
      obtain ⟨u, hu'⟩ : ∃ u, U[i]? = some u := ⟨_, List.getElem?_eq_getElem (by omega)⟩
      obtain ⟨g, v1, v2, v3⟩ := u6 i u hu'
      have ii : (xn i).toInt = i := xn_i (by omega)
      have t0 : tg s (.i (x + 1)) (xn i) 0 = u.1 := u1.g0 ii hu'
      have t1 : tg s (.i (x + 1)) (xn i) 1 = u.2.1 := u1.g1 ii hu'
      have t2 : tg s (.i (x + 1)) (xn i) 2 = u.2.2.1 := u1.g2 ii hu'
      have hwf := uw u (List.mem_of_getElem? hu')
      have e165 : c165 s (x + 1) (xn i) = k274 k u.1 u.2.1 u.2.2.1 := by
        unfold c165
        rw [t0, t1, t2]
        exact eff_eq hwf.1.1 hwf.1.2
      have e74 : kr k 74 (kr k 61 (xn x) + xn i) = xn g := by
        rw [ek, u5, xn_add (by omega)]
        show k.2 74 (xn (B + i)).toNatClampNeg = _
        rw [xn_nat (by omega), v2]
      have eg : ∀ j, kr k j (kr k 74 (kr k 61 (xn x) + xn i)) = k.2 j g := fun j => by
        rw [e74]
        show k.2 j (xn g).toNatClampNeg = _
        rw [xn_nat (by omega)]
      have q1 : k.2 70 g = u.1 := congrArg (fun q => q.1) v3
      have q2 : k.2 71 g = u.2.1 := congrArg (fun q => q.2.1) v3
      have q3 : k.2 72 g = u.2.2.1 := congrArg (fun q => q.2.2.1) v3
      have fl := flag_eq (s := s) (k := k) (x := x) (iv := xn i) (w := u.2.2.2) t0 t1 t2 hwf (by rw [er, ek, u4]) (by rw [ek]; exact (hf x (by omega)).2.2.2.2.1) (by rw [ek]; exact m0) (by rw [ek]; exact Int.le_trans m1 (by decide)) (by rw [ek]; exact hu x hx) (hb2 x (by omega)) (k270e _) (k54 _)
      obtain ⟨dd, s1, s2⟩ := flw_row (st := st) er u2 (by omega) t0 e165 (by rw [ek, u4]) ((eg 70).trans q1) ((eg 71).trans q2) ((eg 72).trans q3) rfl fl
      obtain ⟨m, st', d2, r1, r2⟩ := ih (i + 1) (st + k274 k u.1 u.2.1 u.2.2.1) (f0 + dd) (T + dd) (by omega)
      exact ⟨m + 1, st', dd + d2, by rw [kwh_go (by rw [s1]), s1, ← Int32.add_assoc]; exact r1, by rw [kwh_go (by rw [s2]), s2, ← Int32.add_assoc]; exact r2⟩
  obtain ⟨m, st', dd, r1, -⟩ := go U.length 0 0 0 0 (Nat.zero_add _)
  have e1 : kfin (c168b7 s (x + 1)) (0, 0, 0) = (1, (st', 0 + dd, xn U.length)) := kfin_of ⟨m, r1⟩ (Nat.succ_ne_zero 0)
  refine ⟨c168 s (x + 1), rfl, fun T => ?_⟩
  obtain ⟨m2, st2, d2, p1, p2⟩ := go U.length 0 0 0 T (Nat.zero_add _)
  have e2 : kfin (c168b7 s (x + 1)) (0, 0, 0) = (1, (st2, 0 + d2, xn U.length)) := kfin_of ⟨m2, p1⟩ (Nat.succ_ne_zero 0)
  have e3 : kfin (k275b17 k (xn x)) (T, 0, 0) = (1, (T + d2, st2, xn U.length)) := kfin_of ⟨m2, p2⟩ (Nat.succ_ne_zero 0)
  rw [e3]
  unfold c168
  rw [e2]
  show T + d2 = T + (0 + d2)
  rw [Int32.zero_add]
theorem flaws_eq {N : Nat} (h53 : k.1 53 = xn N) (hN : N ≤ 1000000) (h5 : s.f 5 1 = k.1 53) (h6 : (N : Int) ≤ (s.f 6 1).toInt) (hc : CK s k) (hf : FK s k) (hu : ∀ x, x < N → s.r (.u (x + 1)) = k.2 67 x) (hm : MB k) (hb2 : B2 s k) : c167 s = k275 k := by
  have z0 : (0 : Int32).toInt = 0 := rfl
  have go : ∀ (d i : Nat) (T : Int32), i + d = N → ∃ m T', kwh (c167b4 s) m (T, xn i) = (1, (T', xn N)) ∧ kwh (k275b4 k) m (T, xn i) = (1, (T', xn N)) := by
    intro d
    induction d with
    | zero =>
      intro i T hi
      obtain rfl : i = N := by omega
      have e1 : c167b4 s (T, xn i) = (1, (T, xn i)) := by
        unfold c167b4
        rw [if_pos (by show c155 s ≤ xn i; rw [show c155 s = s.f 5 1 from rfl, h5, h53]; exact Int32.le_refl _)]
      have e2 : k275b4 k (T, xn i) = (1, (T, xn i)) := by
        unfold k275b4
        rw [if_pos (by show k.1 53 ≤ xn i; rw [h53]; exact Int32.le_refl _)]
      exact ⟨1, T, by rw [kwh_out (by rw [e1]; exact Nat.succ_ne_zero _), e1], by rw [kwh_out (by rw [e2]; exact Nat.succ_ne_zero _), e2]⟩
    | succ d ih =>
      intro i T hi
      obtain ⟨dd, w1, w2⟩ := flw_go (x := i) h53 hN h5 h6 hc hf hu hm hb2 (by omega)
      have ii : (xn i).toInt = i := xn_i (by omega)
      have cN : ¬ xn N ≤ xn i := by rw [i_le, xn_i (by omega), xn_i (by omega)]; omega
      have g1 : c159 s (xn i) := by
        refine ⟨by rw [i_lt]; omega, by rw [h5, h53]; exact cN, ?_⟩
        rw [i_le]
        omega
      have e1 : c167b4 s (T, xn i) = (0, (T + dd, xn (i + 1))) := by
        unfold c167b4
        rw [if_neg (by show ¬ c155 s ≤ xn i; rw [show c155 s = s.f 5 1 from rfl, h5, h53]; exact cN), if_pos (show c159 s (T, xn i).2 from g1)]
        show (0, (T + c168 s ((xn i).toInt.toNat + 1), xn i + 1)) = _
        rw [show (xn i).toInt.toNat = i by omega, w1, xn_succ (by omega)]
      have e2 : k275b4 k (T, xn i) = (0, (T + dd, xn (i + 1))) := by
        unfold k275b4
        rw [if_neg (by show ¬ k.1 53 ≤ xn i; rw [h53]; exact cN)]
        show (0, ((kfin (k275b17 k (xn i)) (T, 0, 0)).2.1, xn i + 1)) = _
        rw [w2, xn_succ (by omega)]
      obtain ⟨m, T', r1, r2⟩ := ih (i + 1) (T + dd) (by omega)
      exact ⟨m + 1, T', by rw [kwh_go (by rw [e1]), e1]; exact r1, by rw [kwh_go (by rw [e2]), e2]; exact r2⟩
  obtain ⟨m, T', r1, r2⟩ := go N 0 0 (Nat.zero_add _)
  have e1 : kfin (c167b4 s) (0, 0) = (1, (T', xn N)) := kfin_of ⟨m, r1⟩ (Nat.succ_ne_zero 0)
  have e2 : kfin (k275b4 k) (0, 0) = (1, (T', xn N)) := kfin_of ⟨m, r2⟩ (Nat.succ_ne_zero 0)
  unfold c167 k275
  rw [e1, e2]
theorem flaws_ok (ho : OK s k) (h5 : s.f 5 1 = k.1 53) (hc : CK s k) (hf : FK s k) (hm : MB k) (hb2 : B2 s k) : c167 s = k275 k := by
  obtain ⟨E, N, o1, o2, o3, o4, o5, o6, o7⟩ := ho
  refine flaws_eq o1 o2 h5 o3 hc hf (fun x hx => ?_) hm hb2
  obtain ⟨t1, t2⟩ := o7 x hx
  have hl := oo_len (E := E) (n := x)
  rw [t2]
  have z := t1.1
  rw [List.length_map] at z
  exact xn_eq z (by omega)
end FL8
