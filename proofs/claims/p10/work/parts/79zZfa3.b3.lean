/-! THE SORT: what it leaves -/
/-- the begins are the sums of the counts -/
theorem b9_go {N : Nat} (hN : N ≤ 1000000) : ∀ (n i : Nat) (k : kS), k.1 53 = xn N → i + n = N → ∃ m k', kwh k266b9 m (k, xn i) = (1, (k', xn N)) ∧ k'.2 60 = k.2 60 ∧ (∀ x, x ≤ i → k'.2 61 x = k.2 61 x) ∧ ∀ x, i ≤ x → x < N → k'.2 61 (x + 1) = k'.2 61 x + k.2 60 x := by
  intro n
  induction n with
  | zero =>
    intro i k h53 hi
    obtain rfl : i = N := by omega
    have e : k266b9 (k, xn i) = (1, (k, xn i)) := by
      unfold k266b9
      rw [if_pos (by show k.1 53 ≤ xn i; rw [h53]; exact Int32.le_refl _)]
    exact ⟨1, k, by rw [kwh_out (by rw [e]; exact Nat.succ_ne_zero _), e], rfl, fun _ _ => rfl, fun x h1 h2 => absurd h2 (by omega)⟩
  | succ n ih =>
    intro i k h53 hi
    have e : k266b9 (k, xn i) = (0, (ka k 61 (xn (i + 1)) (k.2 61 i + k.2 60 i), xn (i + 1))) := by
      unfold k266b9
      rw [if_neg (by show ¬ k.1 53 ≤ xn i; rw [h53, i_le, xn_i (by omega), xn_i (by omega)]; omega)]
      show (0, (ka k 61 (xn i + 1) (k.2 61 (xn i).toNatClampNeg + k.2 60 (xn i).toNatClampNeg), xn i + 1)) = _
      rw [xn_succ (by omega), xn_nat (by omega)]
    have e60 : (ka k 61 (xn (i + 1)) (k.2 61 i + k.2 60 i)).2 60 = k.2 60 := rfl
    have e61 : ∀ x, (ka k 61 (xn (i + 1)) (k.2 61 i + k.2 60 i)).2 61 x = if x = i + 1 then k.2 61 i + k.2 60 i else k.2 61 x := fun x => by
      show upd (k.2 61) (xn (i + 1)).toNatClampNeg (k.2 61 i + k.2 60 i) x = _
      rw [xn_nat (by omega)]
      rfl
    have h53' : (ka k 61 (xn (i + 1)) (k.2 61 i + k.2 60 i)).1 53 = xn N := h53
    generalize ka k 61 (xn (i + 1)) (k.2 61 i + k.2 60 i) = k1 at e e60 e61 h53'
    obtain ⟨m, k', r1, r2, r3, r4⟩ := ih (i + 1) k1 h53' (by omega)
    have q : ∀ x, x ≤ i → k'.2 61 x = k.2 61 x := fun x hx => by
      rw [r3 x (by omega), e61, if_neg (by omega)]
    refine ⟨m + 1, k', by rw [kwh_go (by rw [e]), e]; exact r1, r2.trans e60, q, fun x h1 h2 => ?_⟩
    by_cases c : x = i
    · subst c
      rw [r3 (x + 1) (Nat.le_refl _), e61, if_pos rfl, q x (Nat.le_refl _)]
    · rw [r4 x (by omega) h2, e60]
section SRT
variable {k : kS} {ow : Nat → Int32} {n N : Nat}
theorem xn_plus {a b : Nat} (h : a + b ≤ 1000000) : xn a + xn b = xn (a + b) := by
  apply Int32.toInt_inj.mp
  rw [i_add (xn_i (by omega)) (xn_i (by omega)) (by omega) (by omega), xn_i (by omega)]
  omega
theorem b46_go (hN : N ≤ 1000000) : ∀ (d i : Nat) (k : kS), k.1 53 = xn N → i + d = N → ∃ m k', kwh k266b46 m (k, xn i) = (1, (k', xn N)) ∧ (∀ x, x < i → k'.2 60 x = k.2 60 x) ∧ ∀ x, i ≤ x → x < N → k'.2 60 x = 0 := by
  intro d
  induction d with
  | zero =>
    intro i k h53 hi
    obtain rfl : i = N := by omega
    have e : k266b46 (k, xn i) = (1, (k, xn i)) := by
      unfold k266b46
      rw [if_pos (by show k.1 53 ≤ xn i; rw [h53]; exact Int32.le_refl _)]
    exact ⟨1, k, by rw [kwh_out (by rw [e]; exact Nat.succ_ne_zero _), e], fun _ _ => rfl, fun x h1 h2 => absurd h2 (by omega)⟩
  | succ d ih =>
    intro i k h53 hi
    have e : k266b46 (k, xn i) = (0, (ka k 60 (xn i) 0, xn (i + 1))) := by
      unfold k266b46
      rw [if_neg (by show ¬ k.1 53 ≤ xn i; rw [h53, i_le, xn_i (by omega), xn_i (by omega)]; omega)]
      show (0, (ka k 60 (xn i) 0, xn i + 1)) = _
      rw [xn_succ (by omega)]
    have e60 : ∀ x, (ka k 60 (xn i) 0).2 60 x = if x = i then 0 else k.2 60 x := fun x => by
      show upd (k.2 60) (xn i).toNatClampNeg 0 x = _
      rw [xn_nat (by omega)]
      rfl
    have h53' : (ka k 60 (xn i) 0).1 53 = xn N := h53
    generalize ka k 60 (xn i) 0 = k1 at e e60 h53'
    obtain ⟨m, k', r1, r2, r3⟩ := ih (i + 1) k1 h53' (by omega)
    refine ⟨m + 1, k', by rw [kwh_go (by rw [e]), e]; exact r1, fun x hx => ?_, fun x h1 h2 => ?_⟩
    · rw [r2 x (by omega), e60, if_neg (by omega)]
    · by_cases c : x = i
      · rw [r2 x (by omega), e60, if_pos c]
      · exact r3 x (by omega) h2
/-- among the first t rows all lie where they should -/
def SIv (ow : Nat → Int32) (n N t : Nat) (k : kS) : Prop := (∀ x, x < N → k.2 60 x = xn (gx ow x t).length) ∧ ∀ x, x < N → ∀ i g, (gx ow x t)[i]? = some g → k.2 74 (sx ow n x + i) = xn g
theorem b69_go (hN : N ≤ 1000000) (hn : n ≤ 65536) (how : ∀ i, i < n → ∃ x, x < N ∧ ow i = xn x) : ∀ (d t : Nat) (k : kS), k.1 68 = xn n → k.2 69 = ow → (∀ x, x < N → k.2 61 x = xn (sx ow n x)) → t + d = n → SIv ow n N t k → ∃ m k', kwh k266b69 m (k, xn t) = (1, (k', xn n)) ∧ SIv ow n N n k' := by
  intro d
  induction d with
  | zero =>
    intro t k h68 h69 h61 ht hI
    obtain rfl : t = n := by omega
    have e : k266b69 (k, xn t) = (1, (k, xn t)) := by
      unfold k266b69
      rw [if_pos (by show k.1 68 ≤ xn t; rw [h68]; exact Int32.le_refl _)]
    exact ⟨1, k, by rw [kwh_out (by rw [e]; exact Nat.succ_ne_zero _), e], hI⟩
  | succ d ih =>
    intro t k h68 h69 h61 ht hI
    obtain ⟨x, hx, ho⟩ := how t (by omega)
    have hc := gx_room (n := n) (x := x) (t := t) (by omega) ho
    have hs := (sx_le (ow := ow) (n := n) N hN).1
    have hm := sx_mono (ow := ow) (n := n) hx
    obtain ⟨c, ec⟩ : ∃ c, c = (gx ow x t).length := ⟨_, rfl⟩
    rw [← ec] at hc
    have r69 : kr k 69 (xn t) = xn x := by
      show k.2 69 (xn t).toNatClampNeg = _
      rw [xn_nat (by omega), h69, ho]
    have r61 : kr k 61 (xn x) = xn (sx ow n x) := by
      show k.2 61 (xn x).toNatClampNeg = _
      rw [xn_nat (by omega), h61 x hx]
    have r60 : kr k 60 (xn x) = xn c := by
      show k.2 60 (xn x).toNatClampNeg = _
      rw [xn_nat (by omega), hI.1 x hx, ec]
    have e : k266b69 (k, xn t) = (0, (ka (ka k 74 (xn (sx ow n x + c)) (xn t)) 60 (xn x) (xn (c + 1)), xn (t + 1))) := by
      unfold k266b69
      rw [if_neg (by show ¬ k.1 68 ≤ xn t; rw [h68, i_le, xn_i (by omega), xn_i (by omega)]; omega)]
      show (0, (ka (ka k 74 (kr k 61 (kr k 69 (xn t)) + kr k 60 (kr k 69 (xn t))) (xn t)) 60 (kr k 69 (xn t)) (kr k 60 (kr k 69 (xn t)) + 1), xn t + 1)) = _
      rw [r69, r61, r60, xn_plus (by omega), xn_succ (by omega), xn_succ (by omega)]
    have e60 : ∀ y, (ka (ka k 74 (xn (sx ow n x + c)) (xn t)) 60 (xn x) (xn (c + 1))).2 60 y = if y = x then xn (c + 1) else k.2 60 y := fun y => by
      show upd (k.2 60) (xn x).toNatClampNeg (xn (c + 1)) y = _
      rw [xn_nat (by omega)]
      rfl
    have e74 : ∀ y, (ka (ka k 74 (xn (sx ow n x + c)) (xn t)) 60 (xn x) (xn (c + 1))).2 74 y = if y = sx ow n x + c then xn t else k.2 74 y := fun y => by
      show upd (k.2 74) (xn (sx ow n x + c)).toNatClampNeg (xn t) y = _
      rw [xn_nat (by omega)]
      rfl
    have q68 : (ka (ka k 74 (xn (sx ow n x + c)) (xn t)) 60 (xn x) (xn (c + 1))).1 68 = xn n := h68
    have q69 : (ka (ka k 74 (xn (sx ow n x + c)) (xn t)) 60 (xn x) (xn (c + 1))).2 69 = ow := h69
    have q61 : ∀ y, y < N → (ka (ka k 74 (xn (sx ow n x + c)) (xn t)) 60 (xn x) (xn (c + 1))).2 61 y = xn (sx ow n y) := h61
    generalize ka (ka k 74 (xn (sx ow n x + c)) (xn t)) 60 (xn x) (xn (c + 1)) = k1 at e e60 e74 q68 q69 q61
    have ne : ∀ y, y < N → y ≠ x → ¬ ow t = xn y := fun y hy hyx z => by
      have := congrArg Int32.toInt (ho.symm.trans z)
      rw [xn_i (by omega), xn_i (by omega)] at this
      omega
    have inv : SIv ow n N (t + 1) k1 := by
      constructor
      · intro y hy
        show _ = xn (gx ow y t ++ (if ow t = xn y then [t] else [])).length
        rw [e60, List.length_append]
        by_cases cy : y = x
        · rw [if_pos cy, cy, if_pos ho, ec]
          rfl
        · rw [if_neg cy, if_neg (ne y hy cy), hI.1 y hy]
          rfl
      · intro y hy i g hg
        have hg' : (gx ow y t ++ (if ow t = xn y then [t] else []))[i]? = some g := hg
        rw [e74]
        by_cases cy : y = x
        · subst cy
          rw [if_pos ho] at hg'
          by_cases ci : i < (gx ow y t).length
          · rw [List.getElem?_append_left ci] at hg'
            rw [if_neg (by omega)]
            exact hI.2 y hy i g hg'
          · rw [List.getElem?_append_right (by omega)] at hg'
            cases hj : i - (gx ow y t).length with
            | zero =>
              rw [hj] at hg'
              have eg : t = g := Option.some.inj hg'
              rw [if_pos (by omega), eg]
            | succ j => rw [hj] at hg'; exact nomatch hg'
        · rw [if_neg (ne y hy cy), List.append_nil] at hg'
          have hi := (List.getElem?_eq_some_iff.mp hg').1
          obtain ⟨l, hl⟩ := gx_pre (ow := ow) (x := y) (t := t) (n := n) (by omega)
          have hle : (gx ow y t).length ≤ (gx ow y n).length := by
            rw [hl, List.length_append]
            omega
          have hne : sx ow n y + i ≠ sx ow n x + c := by
            rcases Nat.lt_or_gt_of_ne cy with h | h
            · have := sx_mono (ow := ow) (n := n) h
              omega
            · have := sx_mono (ow := ow) (n := n) h
              omega
          rw [if_neg hne]
          exact hI.2 y hy i g hg'
    obtain ⟨m, k', r1, r2⟩ := ih (t + 1) k1 q68 q69 q61 (by omega) inv
    exact ⟨m + 1, k', by rw [kwh_go (by rw [e]), e]; exact r1, r2⟩
end SRT
