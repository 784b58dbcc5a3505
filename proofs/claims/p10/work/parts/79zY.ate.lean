/-! IS A LABEL AT ITS BLOCK'S END: alike on both sides, or a label that is none comes -/
def kc (L : List xR) (i : Nat) : Int32 := match L[i]? with
  | some q => q.1
  | none => 0
def dm (L : List xR) : Nat → Nat → Prop
  | 0, _ => False
  | n + 1, i => (kc L i = 67 ∧ dm L n (i + 1)) ∨ (kc L i = 66 ∧ (¬ (kc L (i + 1) = 1 ∧ kc L (i + 2) = 66) ∨ dm L n (i + 3)))
section ATE
variable {L : List xR} {a : Nat} {s : cS} {k : kS}
theorem WR.kdc (h : WR L a s k) {i : Nat} (hi : i ≤ 1000000) : c93 s (xn i) = kc L i ∧ (∀ K : Int32, K ≠ 0 → K ≠ -1 → (k184 k (xn i) = K ↔ kc L i = K)) ∧ (k184 k (xn i) = -1 ↔ kc L i = 0) := by
  unfold kc
  rcases h.kat hi with ⟨q, q1, q2, q3, q4, q5, q6, q7⟩ | ⟨q1, q2, q3⟩
  · rw [q1]
    refine ⟨q2, fun K _ _ => by rw [q3], ?_⟩
    rw [q3]
    exact ⟨fun z => absurd z q7, fun z => absurd z q6⟩
  · rw [List.getElem?_eq_none q1]
    refine ⟨q2, fun K k0 k1 => ?_, ?_⟩
    · rw [q3]
      exact ⟨fun z => absurd z.symm k1, fun z => absurd z.symm k0⟩
    · rw [q3]
      exact ⟨fun _ => rfl, fun _ => rfl⟩
theorem ae_go (h : WR L a s k) : ∀ (d i n : Nat), L.length - i ≤ d → i ≤ L.length + 2 → n + (L.length - i) ≤ 16384 → dm L (d + 1) i ∨ ∃ j, j ≤ L.length + 2 ∧ (∃ m n', kwh (c120b9 s) m (xn i, 1, xn n) = (1, (xn j, 0, n'))) ∧ (∃ m, kwh (k231b7 k) m (xn i, 1) = (1, (xn j, 0))) := by
  have h16 := h.1.2.1
  intro d
  induction d with
  | zero =>
    intro i n hd hi hn
    right
    have hil : L.length ≤ i := by omega
    obtain ⟨p1, p2, p3⟩ := h.kdc (i := i) (by omega)
    have p0 : kc L i = 0 := by unfold kc; rw [List.getElem?_eq_none hil]
    rw [p0] at p1
    refine ⟨i, hi, ⟨2, xn n + 1, ?_⟩, 2, ?_⟩
    · have e : c120b9 s (xn i, 1, xn n) = (0, (xn i, 0, xn n + 1)) := by
        unfold c120b9
        dsimp only
        rw [if_neg (by decide), if_neg (by rw [i_lt, xn_i (by omega)]; have : (16384 : Int32).toInt = 16384 := rfl; omega), p1, if_pos (by decide), if_pos (by decide)]
      have e2 : c120b9 s (xn i, 0, xn n + 1) = (1, (xn i, 0, xn n + 1)) := by
        unfold c120b9
        rw [if_pos rfl]
      rw [kwh_go (by rw [e]), e]
      show kwh _ 1 (xn i, 0, xn n + 1) = _
      rw [kwh_out (by rw [e2]; exact Nat.succ_ne_zero _), e2]
    · have q67 : k184 k (xn i) ≠ 67 := fun z => by have := (p2 67 (by decide) (by decide)).mp z; rw [p0] at this; exact absurd this (by decide)
      have q66 : k184 k (xn i) ≠ 66 := fun z => by have := (p2 66 (by decide) (by decide)).mp z; rw [p0] at this; exact absurd this (by decide)
      have e : k231b7 k (xn i, 1) = (0, (xn i, 0)) := by
        unfold k231b7
        dsimp only
        rw [if_neg (by decide), if_pos q67, if_pos q66]
      have e2 : k231b7 k (xn i, 0) = (1, (xn i, 0)) := by
        unfold k231b7
        rw [if_pos rfl]
      rw [kwh_go (by rw [e]), e]
      show kwh _ 1 (xn i, 0) = _
      rw [kwh_out (by rw [e2]; exact Nat.succ_ne_zero _), e2]
  | succ d ih =>
    intro i n hd hi hn
    obtain ⟨p1, p2, p3⟩ := h.kdc (i := i) (by omega)
    have h67 := p2 67 (by decide) (by decide)
    have h66 := p2 66 (by decide) (by decide)
    have hlim : ¬ 16384 < xn n := by rw [i_lt, xn_i (by omega)]; have : (16384 : Int32).toInt = 16384 := rfl; omega
    by_cases c67 : kc L i = 67
    · have hil : i < L.length := by
        rcases Nat.lt_or_ge i L.length with z | z
        · exact z
        · unfold kc at c67; rw [List.getElem?_eq_none z] at c67; exact absurd c67 (by decide)
      have e : c120b9 s (xn i, 1, xn n) = (0, (xn (i + 1), 1, xn (n + 1))) := by
        unfold c120b9
        dsimp only
        rw [if_neg (by decide), if_neg hlim, p1, if_neg (fun z => z c67), xn_succ (by omega), xn_succ (by omega)]
      have e2 : k231b7 k (xn i, 1) = (0, (xn (i + 1), 1)) := by
        unfold k231b7
        dsimp only
        rw [if_neg (by decide), if_neg (fun z => z (h67.mpr c67)), xn_succ (by omega)]
      rcases ih (i + 1) (n + 1) (by omega) (by omega) (by omega) with z | ⟨j, j1, ⟨m, n', j2⟩, m', j3⟩
      · exact Or.inl (Or.inl ⟨c67, z⟩)
      · exact Or.inr ⟨j, j1, ⟨m + 1, n', by rw [kwh_go (by rw [e]), e]; exact j2⟩, m' + 1, by rw [kwh_go (by rw [e2]), e2]; exact j3⟩
    · by_cases c66 : kc L i = 66
      · have hil : i < L.length := by
          rcases Nat.lt_or_ge i L.length with z | z
          · exact z
          · unfold kc at c66; rw [List.getElem?_eq_none z] at c66; exact absurd c66 (by decide)
        by_cases cw : kc L (i + 1) = 1 ∧ kc L (i + 2) = 66
        · have hi2 : i + 2 < L.length := by
            rcases Nat.lt_or_ge (i + 2) L.length with z | z
            · exact z
            · have := cw.2; unfold kc at this; rw [List.getElem?_eq_none z] at this; exact absurd this (by decide)
          obtain ⟨-, r2, -⟩ := h.kdc (i := i + 1) (by omega)
          obtain ⟨-, s2, -⟩ := h.kdc (i := i + 2) (by omega)
          have a1 : xn i + 1 = xn (i + 1) := xn_succ (by omega)
          have a2 : xn i + 2 = xn (i + 2) := xn_add (m := 2) (by omega)
          have a3 : xn i + 3 = xn (i + 3) := xn_add (m := 3) (by omega)
          have e : c120b9 s (xn i, 1, xn n) = (0, (xn (i + 3), 1, xn (n + 1))) := by
            unfold c120b9
            dsimp only
            rw [if_neg (by decide), if_neg hlim, p1, if_pos c67, if_neg (fun z => z c66), a3, xn_succ (by omega)]
          have e2 : k231b7 k (xn i, 1) = (0, (xn (i + 3), 1)) := by
            unfold k231b7
            dsimp only
            rw [if_neg (by decide), if_pos (fun z => c67 (h67.mp z)), if_neg (fun z => z (h66.mpr c66)), a1, if_neg (fun z => z ((r2 1 (by decide) (by decide)).mpr cw.1)), a2, if_neg (fun z => z ((s2 66 (by decide) (by decide)).mpr cw.2)), a3]
          rcases ih (i + 3) (n + 1) (by omega) (by omega) (by omega) with z | ⟨j, j1, ⟨m, n', j2⟩, m', j3⟩
          · exact Or.inl (Or.inr ⟨c66, Or.inr z⟩)
          · exact Or.inr ⟨j, j1, ⟨m + 1, n', by rw [kwh_go (by rw [e]), e]; exact j2⟩, m' + 1, by rw [kwh_go (by rw [e2]), e2]; exact j3⟩
        · exact Or.inl (Or.inr ⟨c66, Or.inl cw⟩)
      · right
        refine ⟨i, hi, ⟨2, xn n + 1, ?_⟩, 2, ?_⟩
        · have e : c120b9 s (xn i, 1, xn n) = (0, (xn i, 0, xn n + 1)) := by
            unfold c120b9
            dsimp only
            rw [if_neg (by decide), if_neg hlim, p1, if_pos c67, if_pos c66]
          have e2 : c120b9 s (xn i, 0, xn n + 1) = (1, (xn i, 0, xn n + 1)) := by
            unfold c120b9
            rw [if_pos rfl]
          rw [kwh_go (by rw [e]), e]
          show kwh _ 1 (xn i, 0, xn n + 1) = _
          rw [kwh_out (by rw [e2]; exact Nat.succ_ne_zero _), e2]
        · have e : k231b7 k (xn i, 1) = (0, (xn i, 0)) := by
            unfold k231b7
            dsimp only
            rw [if_neg (by decide), if_pos (fun z => c67 (h67.mp z)), if_pos (fun z => c66 (h66.mp z))]
          have e2 : k231b7 k (xn i, 0) = (1, (xn i, 0)) := by
            unfold k231b7
            rw [if_pos rfl]
          rw [kwh_go (by rw [e]), e]
          show kwh _ 1 (xn i, 0) = _
          rw [kwh_out (by rw [e2]; exact Nat.succ_ne_zero _), e2]
theorem at_end (h : WR L a s k) : dm L (L.length - a + 1) a ∨ (c120 s = k231 k ∧ (c120 s = 0 ∨ c120 s = 1)) := by
  have h16 := h.1.2.1
  have ha := h.2.2.1.2.2
  rcases ae_go h (L.length - a) a 0 (Nat.le_refl _) (by omega) (by omega) with z | ⟨j, j1, ⟨m, n', j2⟩, m', j3⟩
  · exact Or.inl z
  · right
    have k1 := kfin_of ⟨m, j2⟩ (Nat.succ_ne_zero 0)
    have k2 := kfin_of ⟨m', j3⟩ (Nat.succ_ne_zero 0)
    obtain ⟨p1, p2, p3⟩ := h.kdc (i := j) (by omega)
    have e1 : c120 s = c120_60 s (xn j) := by
      unfold c120
      rw [h.2.2.1.1, show (xn a, (1 : Int32), (0 : Int32)) = (xn a, 1, xn 0) from rfl, k1]
    have e2 : k231 k = if kc L j = 0 then 1 else if kc L j = 15 then 1 else if kc L j = 13 then 1 else if kc L j = 14 then 1 else 0 := by
      unfold k231
      rw [h.2.2.1.2.1, k2]
      dsimp only
      by_cases c0 : kc L j = 0
      · rw [if_pos (p3.mpr c0), if_pos c0]
      · rw [if_neg (fun z => c0 (p3.mp z)), if_neg c0]
        by_cases c15 : kc L j = 15
        · rw [if_pos ((p2 15 (by decide) (by decide)).mpr c15), if_pos c15]
        · rw [if_neg (fun z => c15 ((p2 15 (by decide) (by decide)).mp z)), if_neg c15]
          by_cases c13 : kc L j = 13
          · rw [if_pos ((p2 13 (by decide) (by decide)).mpr c13), if_pos c13]
          · rw [if_neg (fun z => c13 ((p2 13 (by decide) (by decide)).mp z)), if_neg c13]
            by_cases c14 : kc L j = 14
            · rw [if_neg (fun z => z ((p2 14 (by decide) (by decide)).mpr c14)), if_pos c14]
            · rw [if_pos (fun z => c14 ((p2 14 (by decide) (by decide)).mp z)), if_neg c14]
    have e3 : c120_60 s (xn j) = if kc L j = 0 then 1 else if kc L j = 15 then 1 else if kc L j = 13 then 1 else if kc L j = 14 then 1 else 0 := by
      unfold c120_60 c121
      rw [p1]
      by_cases c0 : kc L j = 0
      · rw [if_pos c0, if_pos c0, if_neg (by decide), c0, if_neg (by decide)]
      · rw [if_neg c0, if_neg c0]
        by_cases c15 : kc L j = 15
        · rw [if_pos c15, if_pos c15, if_neg (by decide), c15, if_neg (by decide)]
        · rw [if_neg c15, if_neg c15]
          by_cases c13 : kc L j = 13
          · rw [if_pos c13, if_pos c13, if_neg (by decide), c13, if_neg (by decide)]
          · rw [if_neg c13, if_neg c13]
            by_cases c14 : kc L j = 14
            · rw [if_pos c14, if_pos c14, if_neg (by decide), c14, if_neg (by decide)]
            · rw [if_neg c14, if_neg c14]
              by_cases c30 : kc L j = 30
              · rw [c30]; decide
              · rw [if_pos (show (if kc L j ≠ 30 then (0 : Int32) else 1) = 0 from if_pos c30)]
    refine ⟨by rw [e1, e2, e3], ?_⟩
    rw [e1, e3]
    split
    · exact Or.inr rfl
    · split
      · exact Or.inr rfl
      · split
        · exact Or.inr rfl
        · split
          · exact Or.inr rfl
          · exact Or.inl rfl
end ATE
