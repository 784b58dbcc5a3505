/-! FLAWS: both audits alike (printed by wip/p10/gen_c7.py) -/
section FLW
variable {s : cS} {k : kS} {x y n m : Nat} {a b l op iv q r t : Int32}
theorem and_z {P : Prop} : ((0 : Int32) = 0 ∧ P) ↔ P := ⟨fun h => h.2, fun h => ⟨rfl, h⟩⟩
theorem and_y {P : Prop} : (P ∧ (0 : Int32) = 0) ↔ P := ⟨fun h => h.1, fun h => ⟨h, rfl⟩⟩
theorem sl_c : c171 s y a l = 0 ↔ 0 ≤ a.toInt ∧ l.toInt < (s.b y 7).toInt := by
  have z0 : (0 : Int32).toInt = 0 := rfl
  unfold c171
  by_cases c : a < 0
  · rw [if_pos c]
    rw [i_lt] at c
    exact ⟨fun z => absurd z (by decide), fun z => by omega⟩
  · rw [if_neg c]
    rw [i_lt] at c
    by_cases d : l < s.b y 7
    · rw [if_pos d]
      rw [i_lt] at d
      exact ⟨fun _ => ⟨by omega, d⟩, fun _ => rfl⟩
    · rw [if_neg d]
      rw [i_lt] at d
      exact ⟨fun z => absurd z (by decide), fun z => absurd z.2 d⟩
theorem sl_33 : (if a < 0 then (1 : Int32) else if a ≤ l then 0 else 1) = 0 ↔ 0 ≤ a.toInt ∧ a.toInt ≤ l.toInt := by
  have z0 : (0 : Int32).toInt = 0 := rfl
  by_cases c : a < 0
  · rw [if_pos c]
    rw [i_lt] at c
    exact ⟨fun z => absurd z (by decide), fun z => by omega⟩
  · rw [if_neg c]
    rw [i_lt] at c
    by_cases d : a ≤ l
    · rw [if_pos d]
      rw [i_le] at d
      exact ⟨fun _ => ⟨by omega, d⟩, fun _ => rfl⟩
    · rw [if_neg d]
      rw [i_le] at d
      exact ⟨fun z => absurd z (by decide), fun z => absurd z.2 d⟩
theorem sl_r : c169_172 s y a = 0 ↔ 0 ≤ a.toInt ∧ a.toInt < (s.r (.i y)).toInt := by
  have z0 : (0 : Int32).toInt = 0 := rfl
  unfold c169_172
  by_cases c : a < 0
  · rw [if_pos c]
    rw [i_lt] at c
    exact ⟨fun z => absurd z (by decide), fun z => by omega⟩
  · rw [if_neg c]
    rw [i_lt] at c
    by_cases d : a < s.r (.i y)
    · rw [if_pos d]
      rw [i_lt] at d
      exact ⟨fun _ => ⟨by omega, d⟩, fun _ => rfl⟩
    · rw [if_neg d]
      rw [i_lt] at d
      exact ⟨fun z => absurd z (by decide), fun z => absurd z.2 d⟩
theorem sl_u : (if thas s (.u y) a ≠ 0 then (0 : Int32) else 1) = 0 ↔ 0 ≤ a.toInt ∧ a.toInt < (s.r (.u y)).toInt := by
  have z0 : (0 : Int32).toInt = 0 := rfl
  unfold thas
  by_cases c : a < 0
  · rw [if_pos c, if_neg (fun z => z rfl)]
    rw [i_lt] at c
    exact ⟨fun z => absurd z (by decide), fun z => by omega⟩
  · rw [if_neg c]
    rw [i_lt] at c
    by_cases d : s.r (.u y) ≤ a
    · rw [if_pos d, if_neg (fun z => z rfl)]
      rw [i_le] at d
      exact ⟨fun z => absurd z (by decide), fun z => by omega⟩
    · rw [if_neg d, if_pos (by decide)]
      rw [i_le] at d
      exact ⟨fun _ => ⟨by omega, by omega⟩, fun _ => rfl⟩
theorem kk_c : k277 k a 0 l ≠ 0 ↔ 0 ≤ a.toInt ∧ a.toInt < l.toInt := by
  have z0 : (0 : Int32).toInt = 0 := rfl
  unfold k277
  by_cases c : a < 0
  · rw [if_pos c]
    rw [i_lt] at c
    exact ⟨fun z => absurd rfl z, fun z => by omega⟩
  · rw [if_neg c]
    rw [i_lt] at c
    by_cases d : l ≤ a
    · rw [if_pos d]
      rw [i_le] at d
      exact ⟨fun z => absurd rfl z, fun z => by omega⟩
    · rw [if_neg d]
      rw [i_le] at d
      exact ⟨fun _ => ⟨by omega, by omega⟩, fun _ => by decide⟩
theorem kk_27 : (if a < 0 then (0 : Int32) else if l < b then 0 else 1) ≠ 0 ↔ 0 ≤ a.toInt ∧ b.toInt ≤ l.toInt := by
  have z0 : (0 : Int32).toInt = 0 := rfl
  by_cases c : a < 0
  · rw [if_pos c]
    rw [i_lt] at c
    exact ⟨fun z => absurd rfl z, fun z => by omega⟩
  · rw [if_neg c]
    rw [i_lt] at c
    by_cases d : l < b
    · rw [if_pos d]
      rw [i_lt] at d
      exact ⟨fun z => absurd rfl z, fun z => by omega⟩
    · rw [if_neg d]
      rw [i_lt] at d
      exact ⟨fun _ => ⟨by omega, by omega⟩, fun _ => by decide⟩
theorem kk_2 : (if q = 0 then (0 : Int32) else if r = 0 then 0 else 1) ≠ 0 ↔ q ≠ 0 ∧ r ≠ 0 := by
  by_cases c : q = 0
  · rw [if_pos c]
    exact ⟨fun z => absurd rfl z, fun z => absurd c z.1⟩
  · rw [if_neg c]
    by_cases d : r = 0
    · rw [if_pos d]
      exact ⟨fun z => absurd rfl z, fun z => absurd d z.2⟩
    · rw [if_neg d]
      exact ⟨fun _ => ⟨c, d⟩, fun _ => by decide⟩
/-- one row: where it leads, what it means -/
theorem flag_eq {w : Int32} (t0 : tg s (.i (x + 1)) iv 0 = op) (t1 : tg s (.i (x + 1)) iv 1 = a) (t2 : tg s (.i (x + 1)) iv 2 = b) (hw : wfa (op, a, b, w)) (er : s.r (.i (x + 1)) = kr k 60 (xn x)) (h7 : s.b (x + 1) 7 = kr k 58 (xn x)) (hm0 : 0 ≤ (kr k 58 (xn x)).toInt) (hm1 : (kr k 58 (xn x)).toInt ≤ 2000000) (hu : s.r (.u (x + 1)) = kr k 67 (xn x)) (h2 : s.b (x + 1) 2 = xn x) (h0 : k270 k a = 0 ↔ ¬ c159 s a) (hk4 : c159 s a → kr k 54 a = s.b (a.toInt.toNat + 1) 3) : (c169 s (x + 1) iv = 0 ∧ c170 s (x + 1) iv = 0) ↔ k276 k (xn x) op a b ≠ 0 := by
  have z0 : (0 : Int32).toInt = 0 := rfl
  have i1 : (1 : Int32).toInt = 1 := rfl
  have i3 : (3 : Int32).toInt = 3 := rfl
  have i4 : (4 : Int32).toInt = 4 := rfl
  unfold c169 c170 k276
  rw [t0, t1, t2]
  by_cases c7 : op = 7
  · subst c7
    rw [if_neg (show ¬ (7 : Int32) = 15 by decide), if_neg (show ¬ (7 : Int32) = 16 by decide), if_neg (show ¬ (7 : Int32) = 35 by decide), if_neg (show ¬ (7 : Int32) = 36 by decide), if_neg (show ¬ (7 : Int32) = 37 by decide), if_neg (show ¬ (7 : Int32) = 38 by decide), if_neg (show ¬ (7 : Int32) = 40 by decide), if_neg (show ¬ (7 : Int32) = 44 by decide), if_pos rfl, if_pos rfl]
    unfold c172
    by_cases g1 : c159 s a
    · rw [if_neg (fun z => z g1), if_neg (fun z => (h0.mp z) g1), hk4 g1, h2]
      by_cases g2 : s.b (a.toInt.toNat + 1) 3 = xn x
      · rw [if_pos g2, if_neg (fun z => z g2)]
        exact ⟨fun _ => by decide, fun _ => ⟨rfl, rfl⟩⟩
      · rw [if_neg g2, if_pos g2]
        exact ⟨fun z => absurd z.2 (by decide), fun z => absurd rfl z⟩
    · rw [if_pos g1, if_pos (h0.mpr g1)]
      exact ⟨fun z => absurd z.2 (by decide), fun z => absurd rfl z⟩
  by_cases c8 : op = 8
  · subst c8
    rw [if_neg (show ¬ (8 : Int32) = 15 by decide), if_neg (show ¬ (8 : Int32) = 16 by decide), if_neg (show ¬ (8 : Int32) = 35 by decide), if_neg (show ¬ (8 : Int32) = 36 by decide), if_neg (show ¬ (8 : Int32) = 37 by decide), if_neg (show ¬ (8 : Int32) = 38 by decide), if_neg (show ¬ (8 : Int32) = 40 by decide), if_neg (show ¬ (8 : Int32) = 44 by decide), if_neg (show ¬ (8 : Int32) = 7 by decide), if_pos rfl, if_neg (show ¬ (8 : Int32) = 7 by decide), if_pos rfl]
    rw [sl_c, kk_c, and_z, h7]
  by_cases c9 : op = 9
  · subst c9
    rw [if_neg (show ¬ (9 : Int32) = 15 by decide), if_neg (show ¬ (9 : Int32) = 16 by decide), if_neg (show ¬ (9 : Int32) = 35 by decide), if_neg (show ¬ (9 : Int32) = 36 by decide), if_neg (show ¬ (9 : Int32) = 37 by decide), if_neg (show ¬ (9 : Int32) = 38 by decide), if_neg (show ¬ (9 : Int32) = 40 by decide), if_neg (show ¬ (9 : Int32) = 44 by decide), if_neg (show ¬ (9 : Int32) = 7 by decide), if_neg (show ¬ (9 : Int32) = 8 by decide), if_pos rfl, if_neg (show ¬ (9 : Int32) = 7 by decide), if_neg (show ¬ (9 : Int32) = 8 by decide), if_pos rfl]
    rw [sl_u, kk_c, and_z, hu]
  by_cases c15 : op = 15
  · subst c15
    rw [if_pos rfl, if_neg (show ¬ (15 : Int32) = 7 by decide), if_neg (show ¬ (15 : Int32) = 8 by decide), if_neg (show ¬ (15 : Int32) = 9 by decide), if_neg (show ¬ (15 : Int32) = 27 by decide), if_neg (show ¬ (15 : Int32) = 28 by decide), if_neg (show ¬ (15 : Int32) = 29 by decide), if_neg (show ¬ (15 : Int32) = 30 by decide), if_neg (show ¬ (15 : Int32) = 33 by decide), if_neg (show ¬ (15 : Int32) = 38 by decide), if_neg (show ¬ (15 : Int32) = 39 by decide), if_neg (show ¬ (15 : Int32) = 40 by decide), if_neg (show ¬ (15 : Int32) = 41 by decide), if_neg (show ¬ (15 : Int32) = 42 by decide), if_neg (show ¬ (15 : Int32) = 43 by decide), if_neg (show ¬ (15 : Int32) = 44 by decide), if_neg (show ¬ (15 : Int32) = 7 by decide), if_neg (show ¬ (15 : Int32) = 8 by decide), if_neg (show ¬ (15 : Int32) = 9 by decide), if_pos rfl]
    rw [sl_r, kk_c, and_y, er]
  by_cases c16 : op = 16
  · subst c16
    rw [if_neg (show ¬ (16 : Int32) = 15 by decide), if_pos rfl, if_neg (show ¬ (16 : Int32) = 7 by decide), if_neg (show ¬ (16 : Int32) = 8 by decide), if_neg (show ¬ (16 : Int32) = 9 by decide), if_neg (show ¬ (16 : Int32) = 27 by decide), if_neg (show ¬ (16 : Int32) = 28 by decide), if_neg (show ¬ (16 : Int32) = 29 by decide), if_neg (show ¬ (16 : Int32) = 30 by decide), if_neg (show ¬ (16 : Int32) = 33 by decide), if_neg (show ¬ (16 : Int32) = 38 by decide), if_neg (show ¬ (16 : Int32) = 39 by decide), if_neg (show ¬ (16 : Int32) = 40 by decide), if_neg (show ¬ (16 : Int32) = 41 by decide), if_neg (show ¬ (16 : Int32) = 42 by decide), if_neg (show ¬ (16 : Int32) = 43 by decide), if_neg (show ¬ (16 : Int32) = 44 by decide), if_neg (show ¬ (16 : Int32) = 7 by decide), if_neg (show ¬ (16 : Int32) = 8 by decide), if_neg (show ¬ (16 : Int32) = 9 by decide), if_neg (show ¬ (16 : Int32) = 15 by decide), if_pos rfl]
    rw [sl_r, kk_c, and_y, er]
  by_cases c27 : op = 27
  · subst c27
    rw [if_neg (show ¬ (27 : Int32) = 15 by decide), if_neg (show ¬ (27 : Int32) = 16 by decide), if_neg (show ¬ (27 : Int32) = 35 by decide), if_neg (show ¬ (27 : Int32) = 36 by decide), if_neg (show ¬ (27 : Int32) = 37 by decide), if_neg (show ¬ (27 : Int32) = 38 by decide), if_neg (show ¬ (27 : Int32) = 40 by decide), if_neg (show ¬ (27 : Int32) = 44 by decide), if_neg (show ¬ (27 : Int32) = 7 by decide), if_neg (show ¬ (27 : Int32) = 8 by decide), if_neg (show ¬ (27 : Int32) = 9 by decide), if_pos rfl, if_neg (show ¬ (27 : Int32) = 7 by decide), if_neg (show ¬ (27 : Int32) = 8 by decide), if_neg (show ¬ (27 : Int32) = 9 by decide), if_neg (show ¬ (27 : Int32) = 15 by decide), if_neg (show ¬ (27 : Int32) = 16 by decide), if_pos rfl]
    rw [sl_c, kk_27, and_z, h7]
    have w1 : a.toInt ≤ 2000000 := hw.2.1 (Or.inl rfl)
    have w2 : 0 ≤ b.toInt ∧ b.toInt ≤ 2000000 := hw.2.2 (Or.inl rfl)
    constructor
    · rintro ⟨p1, p2⟩
      rw [i_sub (i_add rfl rfl (by omega) (by omega)) i1 (by omega) (by omega)] at p2
      rw [i_add rfl rfl (by omega) (by omega)]
      exact ⟨p1, by omega⟩
    · rintro ⟨p1, p2⟩
      rw [i_add rfl rfl (by omega) (by omega)] at p2
      rw [i_sub (i_add rfl rfl (by omega) (by omega)) i1 (by omega) (by omega)]
      exact ⟨p1, by omega⟩
  by_cases c28 : op = 28
  · subst c28
    rw [if_neg (show ¬ (28 : Int32) = 15 by decide), if_neg (show ¬ (28 : Int32) = 16 by decide), if_neg (show ¬ (28 : Int32) = 35 by decide), if_neg (show ¬ (28 : Int32) = 36 by decide), if_neg (show ¬ (28 : Int32) = 37 by decide), if_neg (show ¬ (28 : Int32) = 38 by decide), if_neg (show ¬ (28 : Int32) = 40 by decide), if_neg (show ¬ (28 : Int32) = 44 by decide), if_neg (show ¬ (28 : Int32) = 7 by decide), if_neg (show ¬ (28 : Int32) = 8 by decide), if_neg (show ¬ (28 : Int32) = 9 by decide), if_neg (show ¬ (28 : Int32) = 27 by decide), if_pos rfl, if_neg (show ¬ (28 : Int32) = 7 by decide), if_neg (show ¬ (28 : Int32) = 8 by decide), if_neg (show ¬ (28 : Int32) = 9 by decide), if_neg (show ¬ (28 : Int32) = 15 by decide), if_neg (show ¬ (28 : Int32) = 16 by decide), if_neg (show ¬ (28 : Int32) = 27 by decide), if_pos rfl]
    rw [sl_c, kk_c, and_z, h7]
  by_cases c29 : op = 29
  · subst c29
    rw [if_neg (show ¬ (29 : Int32) = 15 by decide), if_neg (show ¬ (29 : Int32) = 16 by decide), if_neg (show ¬ (29 : Int32) = 35 by decide), if_neg (show ¬ (29 : Int32) = 36 by decide), if_neg (show ¬ (29 : Int32) = 37 by decide), if_neg (show ¬ (29 : Int32) = 38 by decide), if_neg (show ¬ (29 : Int32) = 40 by decide), if_neg (show ¬ (29 : Int32) = 44 by decide), if_neg (show ¬ (29 : Int32) = 7 by decide), if_neg (show ¬ (29 : Int32) = 8 by decide), if_neg (show ¬ (29 : Int32) = 9 by decide), if_neg (show ¬ (29 : Int32) = 27 by decide), if_neg (show ¬ (29 : Int32) = 28 by decide), if_pos rfl, if_neg (show ¬ (29 : Int32) = 7 by decide), if_neg (show ¬ (29 : Int32) = 8 by decide), if_neg (show ¬ (29 : Int32) = 9 by decide), if_neg (show ¬ (29 : Int32) = 15 by decide), if_neg (show ¬ (29 : Int32) = 16 by decide), if_neg (show ¬ (29 : Int32) = 27 by decide), if_neg (show ¬ (29 : Int32) = 28 by decide), if_pos rfl]
    rw [sl_c, kk_c, and_z, h7]
  by_cases c30 : op = 30
  · subst c30
    rw [if_neg (show ¬ (30 : Int32) = 15 by decide), if_neg (show ¬ (30 : Int32) = 16 by decide), if_neg (show ¬ (30 : Int32) = 35 by decide), if_neg (show ¬ (30 : Int32) = 36 by decide), if_neg (show ¬ (30 : Int32) = 37 by decide), if_neg (show ¬ (30 : Int32) = 38 by decide), if_neg (show ¬ (30 : Int32) = 40 by decide), if_neg (show ¬ (30 : Int32) = 44 by decide), if_neg (show ¬ (30 : Int32) = 7 by decide), if_neg (show ¬ (30 : Int32) = 8 by decide), if_neg (show ¬ (30 : Int32) = 9 by decide), if_neg (show ¬ (30 : Int32) = 27 by decide), if_neg (show ¬ (30 : Int32) = 28 by decide), if_neg (show ¬ (30 : Int32) = 29 by decide), if_pos rfl, if_neg (show ¬ (30 : Int32) = 7 by decide), if_neg (show ¬ (30 : Int32) = 8 by decide), if_neg (show ¬ (30 : Int32) = 9 by decide), if_neg (show ¬ (30 : Int32) = 15 by decide), if_neg (show ¬ (30 : Int32) = 16 by decide), if_neg (show ¬ (30 : Int32) = 27 by decide), if_neg (show ¬ (30 : Int32) = 28 by decide), if_neg (show ¬ (30 : Int32) = 29 by decide), if_pos rfl]
    rw [sl_u, kk_c, and_z, hu]
  by_cases c33 : op = 33
  · subst c33
    rw [if_neg (show ¬ (33 : Int32) = 15 by decide), if_neg (show ¬ (33 : Int32) = 16 by decide), if_neg (show ¬ (33 : Int32) = 35 by decide), if_neg (show ¬ (33 : Int32) = 36 by decide), if_neg (show ¬ (33 : Int32) = 37 by decide), if_neg (show ¬ (33 : Int32) = 38 by decide), if_neg (show ¬ (33 : Int32) = 40 by decide), if_neg (show ¬ (33 : Int32) = 44 by decide), if_neg (show ¬ (33 : Int32) = 7 by decide), if_neg (show ¬ (33 : Int32) = 8 by decide), if_neg (show ¬ (33 : Int32) = 9 by decide), if_neg (show ¬ (33 : Int32) = 27 by decide), if_neg (show ¬ (33 : Int32) = 28 by decide), if_neg (show ¬ (33 : Int32) = 29 by decide), if_neg (show ¬ (33 : Int32) = 30 by decide), if_pos rfl, if_neg (show ¬ (33 : Int32) = 7 by decide), if_neg (show ¬ (33 : Int32) = 8 by decide), if_neg (show ¬ (33 : Int32) = 9 by decide), if_neg (show ¬ (33 : Int32) = 15 by decide), if_neg (show ¬ (33 : Int32) = 16 by decide), if_neg (show ¬ (33 : Int32) = 27 by decide), if_neg (show ¬ (33 : Int32) = 28 by decide), if_neg (show ¬ (33 : Int32) = 29 by decide), if_neg (show ¬ (33 : Int32) = 30 by decide), if_pos rfl]
    rw [sl_33, kk_c, and_z, h7, i_add rfl i1 (by omega) (by omega)]
    constructor
    · rintro ⟨p1, p2⟩
      exact ⟨p1, by omega⟩
    · rintro ⟨p1, p2⟩
      exact ⟨p1, by omega⟩
  by_cases c35 : op = 35
  · subst c35
    rw [if_neg (show ¬ (35 : Int32) = 15 by decide), if_neg (show ¬ (35 : Int32) = 16 by decide), if_pos rfl, if_neg (show ¬ (35 : Int32) = 7 by decide), if_neg (show ¬ (35 : Int32) = 8 by decide), if_neg (show ¬ (35 : Int32) = 9 by decide), if_neg (show ¬ (35 : Int32) = 27 by decide), if_neg (show ¬ (35 : Int32) = 28 by decide), if_neg (show ¬ (35 : Int32) = 29 by decide), if_neg (show ¬ (35 : Int32) = 30 by decide), if_neg (show ¬ (35 : Int32) = 33 by decide), if_neg (show ¬ (35 : Int32) = 38 by decide), if_neg (show ¬ (35 : Int32) = 39 by decide), if_neg (show ¬ (35 : Int32) = 40 by decide), if_neg (show ¬ (35 : Int32) = 41 by decide), if_neg (show ¬ (35 : Int32) = 42 by decide), if_neg (show ¬ (35 : Int32) = 43 by decide), if_neg (show ¬ (35 : Int32) = 44 by decide), if_neg (show ¬ (35 : Int32) = 7 by decide), if_neg (show ¬ (35 : Int32) = 8 by decide), if_neg (show ¬ (35 : Int32) = 9 by decide), if_neg (show ¬ (35 : Int32) = 15 by decide), if_neg (show ¬ (35 : Int32) = 16 by decide), if_neg (show ¬ (35 : Int32) = 27 by decide), if_neg (show ¬ (35 : Int32) = 28 by decide), if_neg (show ¬ (35 : Int32) = 29 by decide), if_neg (show ¬ (35 : Int32) = 30 by decide), if_neg (show ¬ (35 : Int32) = 33 by decide), if_pos rfl]
    rw [sl_r, kk_c, and_y, er]
  by_cases c36 : op = 36
  · subst c36
    rw [if_neg (show ¬ (36 : Int32) = 15 by decide), if_neg (show ¬ (36 : Int32) = 16 by decide), if_neg (show ¬ (36 : Int32) = 35 by decide), if_pos rfl, if_neg (show ¬ (36 : Int32) = 7 by decide), if_neg (show ¬ (36 : Int32) = 8 by decide), if_neg (show ¬ (36 : Int32) = 9 by decide), if_neg (show ¬ (36 : Int32) = 27 by decide), if_neg (show ¬ (36 : Int32) = 28 by decide), if_neg (show ¬ (36 : Int32) = 29 by decide), if_neg (show ¬ (36 : Int32) = 30 by decide), if_neg (show ¬ (36 : Int32) = 33 by decide), if_neg (show ¬ (36 : Int32) = 38 by decide), if_neg (show ¬ (36 : Int32) = 39 by decide), if_neg (show ¬ (36 : Int32) = 40 by decide), if_neg (show ¬ (36 : Int32) = 41 by decide), if_neg (show ¬ (36 : Int32) = 42 by decide), if_neg (show ¬ (36 : Int32) = 43 by decide), if_neg (show ¬ (36 : Int32) = 44 by decide), if_neg (show ¬ (36 : Int32) = 7 by decide), if_neg (show ¬ (36 : Int32) = 8 by decide), if_neg (show ¬ (36 : Int32) = 9 by decide), if_neg (show ¬ (36 : Int32) = 15 by decide), if_neg (show ¬ (36 : Int32) = 16 by decide), if_neg (show ¬ (36 : Int32) = 27 by decide), if_neg (show ¬ (36 : Int32) = 28 by decide), if_neg (show ¬ (36 : Int32) = 29 by decide), if_neg (show ¬ (36 : Int32) = 30 by decide), if_neg (show ¬ (36 : Int32) = 33 by decide), if_neg (show ¬ (36 : Int32) = 35 by decide), if_pos rfl]
    rw [sl_r, kk_c, and_y, er]
  by_cases c37 : op = 37
  · subst c37
    rw [if_neg (show ¬ (37 : Int32) = 15 by decide), if_neg (show ¬ (37 : Int32) = 16 by decide), if_neg (show ¬ (37 : Int32) = 35 by decide), if_neg (show ¬ (37 : Int32) = 36 by decide), if_pos rfl, if_neg (show ¬ (37 : Int32) = 7 by decide), if_neg (show ¬ (37 : Int32) = 8 by decide), if_neg (show ¬ (37 : Int32) = 9 by decide), if_neg (show ¬ (37 : Int32) = 27 by decide), if_neg (show ¬ (37 : Int32) = 28 by decide), if_neg (show ¬ (37 : Int32) = 29 by decide), if_neg (show ¬ (37 : Int32) = 30 by decide), if_neg (show ¬ (37 : Int32) = 33 by decide), if_neg (show ¬ (37 : Int32) = 38 by decide), if_neg (show ¬ (37 : Int32) = 39 by decide), if_neg (show ¬ (37 : Int32) = 40 by decide), if_neg (show ¬ (37 : Int32) = 41 by decide), if_neg (show ¬ (37 : Int32) = 42 by decide), if_neg (show ¬ (37 : Int32) = 43 by decide), if_neg (show ¬ (37 : Int32) = 44 by decide), if_neg (show ¬ (37 : Int32) = 7 by decide), if_neg (show ¬ (37 : Int32) = 8 by decide), if_neg (show ¬ (37 : Int32) = 9 by decide), if_neg (show ¬ (37 : Int32) = 15 by decide), if_neg (show ¬ (37 : Int32) = 16 by decide), if_neg (show ¬ (37 : Int32) = 27 by decide), if_neg (show ¬ (37 : Int32) = 28 by decide), if_neg (show ¬ (37 : Int32) = 29 by decide), if_neg (show ¬ (37 : Int32) = 30 by decide), if_neg (show ¬ (37 : Int32) = 33 by decide), if_neg (show ¬ (37 : Int32) = 35 by decide), if_neg (show ¬ (37 : Int32) = 36 by decide), if_pos rfl]
    rw [sl_r, kk_c, and_y, er]
  by_cases c38 : op = 38
  · subst c38
    rw [if_neg (show ¬ (38 : Int32) = 15 by decide), if_neg (show ¬ (38 : Int32) = 16 by decide), if_neg (show ¬ (38 : Int32) = 35 by decide), if_neg (show ¬ (38 : Int32) = 36 by decide), if_neg (show ¬ (38 : Int32) = 37 by decide), if_pos rfl, if_neg (show ¬ (38 : Int32) = 7 by decide), if_neg (show ¬ (38 : Int32) = 8 by decide), if_neg (show ¬ (38 : Int32) = 9 by decide), if_neg (show ¬ (38 : Int32) = 27 by decide), if_neg (show ¬ (38 : Int32) = 28 by decide), if_neg (show ¬ (38 : Int32) = 29 by decide), if_neg (show ¬ (38 : Int32) = 30 by decide), if_neg (show ¬ (38 : Int32) = 33 by decide), if_pos rfl, if_neg (show ¬ (38 : Int32) = 7 by decide), if_neg (show ¬ (38 : Int32) = 8 by decide), if_neg (show ¬ (38 : Int32) = 9 by decide), if_neg (show ¬ (38 : Int32) = 15 by decide), if_neg (show ¬ (38 : Int32) = 16 by decide), if_neg (show ¬ (38 : Int32) = 27 by decide), if_neg (show ¬ (38 : Int32) = 28 by decide), if_neg (show ¬ (38 : Int32) = 29 by decide), if_neg (show ¬ (38 : Int32) = 30 by decide), if_neg (show ¬ (38 : Int32) = 33 by decide), if_neg (show ¬ (38 : Int32) = 35 by decide), if_neg (show ¬ (38 : Int32) = 36 by decide), if_neg (show ¬ (38 : Int32) = 37 by decide), if_pos rfl]
    rw [kk_2, kk_c, kk_c, sl_r, sl_c, er, h7]
    exact and_comm
  by_cases c39 : op = 39
  · subst c39
    rw [if_neg (show ¬ (39 : Int32) = 15 by decide), if_neg (show ¬ (39 : Int32) = 16 by decide), if_neg (show ¬ (39 : Int32) = 35 by decide), if_neg (show ¬ (39 : Int32) = 36 by decide), if_neg (show ¬ (39 : Int32) = 37 by decide), if_neg (show ¬ (39 : Int32) = 38 by decide), if_neg (show ¬ (39 : Int32) = 40 by decide), if_neg (show ¬ (39 : Int32) = 44 by decide), if_neg (show ¬ (39 : Int32) = 7 by decide), if_neg (show ¬ (39 : Int32) = 8 by decide), if_neg (show ¬ (39 : Int32) = 9 by decide), if_neg (show ¬ (39 : Int32) = 27 by decide), if_neg (show ¬ (39 : Int32) = 28 by decide), if_neg (show ¬ (39 : Int32) = 29 by decide), if_neg (show ¬ (39 : Int32) = 30 by decide), if_neg (show ¬ (39 : Int32) = 33 by decide), if_neg (show ¬ (39 : Int32) = 38 by decide), if_pos rfl, if_neg (show ¬ (39 : Int32) = 7 by decide), if_neg (show ¬ (39 : Int32) = 8 by decide), if_neg (show ¬ (39 : Int32) = 9 by decide), if_neg (show ¬ (39 : Int32) = 15 by decide), if_neg (show ¬ (39 : Int32) = 16 by decide), if_neg (show ¬ (39 : Int32) = 27 by decide), if_neg (show ¬ (39 : Int32) = 28 by decide), if_neg (show ¬ (39 : Int32) = 29 by decide), if_neg (show ¬ (39 : Int32) = 30 by decide), if_neg (show ¬ (39 : Int32) = 33 by decide), if_neg (show ¬ (39 : Int32) = 35 by decide), if_neg (show ¬ (39 : Int32) = 36 by decide), if_neg (show ¬ (39 : Int32) = 37 by decide), if_neg (show ¬ (39 : Int32) = 38 by decide), if_pos rfl]
    have w1 : a.toInt ≤ 2000000 := hw.2.1 (Or.inr (Or.inl rfl))
    rw [sl_c, kk_c, and_z, h7, i_sub rfl i3 (by omega) (by omega)]
    constructor
    · rintro ⟨p1, p2⟩
      rw [i_add rfl i3 (by omega) (by omega)] at p2
      exact ⟨p1, by omega⟩
    · rintro ⟨p1, p2⟩
      rw [i_add rfl i3 (by omega) (by omega)]
      exact ⟨p1, by omega⟩
  by_cases c40 : op = 40
  · subst c40
    rw [if_neg (show ¬ (40 : Int32) = 15 by decide), if_neg (show ¬ (40 : Int32) = 16 by decide), if_neg (show ¬ (40 : Int32) = 35 by decide), if_neg (show ¬ (40 : Int32) = 36 by decide), if_neg (show ¬ (40 : Int32) = 37 by decide), if_neg (show ¬ (40 : Int32) = 38 by decide), if_pos rfl, if_neg (show ¬ (40 : Int32) = 7 by decide), if_neg (show ¬ (40 : Int32) = 8 by decide), if_neg (show ¬ (40 : Int32) = 9 by decide), if_neg (show ¬ (40 : Int32) = 27 by decide), if_neg (show ¬ (40 : Int32) = 28 by decide), if_neg (show ¬ (40 : Int32) = 29 by decide), if_neg (show ¬ (40 : Int32) = 30 by decide), if_neg (show ¬ (40 : Int32) = 33 by decide), if_neg (show ¬ (40 : Int32) = 38 by decide), if_neg (show ¬ (40 : Int32) = 39 by decide), if_pos rfl, if_neg (show ¬ (40 : Int32) = 7 by decide), if_neg (show ¬ (40 : Int32) = 8 by decide), if_neg (show ¬ (40 : Int32) = 9 by decide), if_neg (show ¬ (40 : Int32) = 15 by decide), if_neg (show ¬ (40 : Int32) = 16 by decide), if_neg (show ¬ (40 : Int32) = 27 by decide), if_neg (show ¬ (40 : Int32) = 28 by decide), if_neg (show ¬ (40 : Int32) = 29 by decide), if_neg (show ¬ (40 : Int32) = 30 by decide), if_neg (show ¬ (40 : Int32) = 33 by decide), if_neg (show ¬ (40 : Int32) = 35 by decide), if_neg (show ¬ (40 : Int32) = 36 by decide), if_neg (show ¬ (40 : Int32) = 37 by decide), if_neg (show ¬ (40 : Int32) = 38 by decide), if_neg (show ¬ (40 : Int32) = 39 by decide), if_pos rfl]
    rw [kk_2, kk_c, kk_c, sl_r, sl_c, er, h7]
    exact and_comm
  by_cases c41 : op = 41
  · subst c41
    rw [if_neg (show ¬ (41 : Int32) = 15 by decide), if_neg (show ¬ (41 : Int32) = 16 by decide), if_neg (show ¬ (41 : Int32) = 35 by decide), if_neg (show ¬ (41 : Int32) = 36 by decide), if_neg (show ¬ (41 : Int32) = 37 by decide), if_neg (show ¬ (41 : Int32) = 38 by decide), if_neg (show ¬ (41 : Int32) = 40 by decide), if_neg (show ¬ (41 : Int32) = 44 by decide), if_neg (show ¬ (41 : Int32) = 7 by decide), if_neg (show ¬ (41 : Int32) = 8 by decide), if_neg (show ¬ (41 : Int32) = 9 by decide), if_neg (show ¬ (41 : Int32) = 27 by decide), if_neg (show ¬ (41 : Int32) = 28 by decide), if_neg (show ¬ (41 : Int32) = 29 by decide), if_neg (show ¬ (41 : Int32) = 30 by decide), if_neg (show ¬ (41 : Int32) = 33 by decide), if_neg (show ¬ (41 : Int32) = 38 by decide), if_neg (show ¬ (41 : Int32) = 39 by decide), if_neg (show ¬ (41 : Int32) = 40 by decide), if_pos rfl, if_neg (show ¬ (41 : Int32) = 7 by decide), if_neg (show ¬ (41 : Int32) = 8 by decide), if_neg (show ¬ (41 : Int32) = 9 by decide), if_neg (show ¬ (41 : Int32) = 15 by decide), if_neg (show ¬ (41 : Int32) = 16 by decide), if_neg (show ¬ (41 : Int32) = 27 by decide), if_neg (show ¬ (41 : Int32) = 28 by decide), if_neg (show ¬ (41 : Int32) = 29 by decide), if_neg (show ¬ (41 : Int32) = 30 by decide), if_neg (show ¬ (41 : Int32) = 33 by decide), if_neg (show ¬ (41 : Int32) = 35 by decide), if_neg (show ¬ (41 : Int32) = 36 by decide), if_neg (show ¬ (41 : Int32) = 37 by decide), if_neg (show ¬ (41 : Int32) = 38 by decide), if_neg (show ¬ (41 : Int32) = 39 by decide), if_neg (show ¬ (41 : Int32) = 40 by decide), if_pos rfl]
    rw [sl_c, kk_c, and_z, h7]
  by_cases c42 : op = 42
  · subst c42
    rw [if_neg (show ¬ (42 : Int32) = 15 by decide), if_neg (show ¬ (42 : Int32) = 16 by decide), if_neg (show ¬ (42 : Int32) = 35 by decide), if_neg (show ¬ (42 : Int32) = 36 by decide), if_neg (show ¬ (42 : Int32) = 37 by decide), if_neg (show ¬ (42 : Int32) = 38 by decide), if_neg (show ¬ (42 : Int32) = 40 by decide), if_neg (show ¬ (42 : Int32) = 44 by decide), if_neg (show ¬ (42 : Int32) = 7 by decide), if_neg (show ¬ (42 : Int32) = 8 by decide), if_neg (show ¬ (42 : Int32) = 9 by decide), if_neg (show ¬ (42 : Int32) = 27 by decide), if_neg (show ¬ (42 : Int32) = 28 by decide), if_neg (show ¬ (42 : Int32) = 29 by decide), if_neg (show ¬ (42 : Int32) = 30 by decide), if_neg (show ¬ (42 : Int32) = 33 by decide), if_neg (show ¬ (42 : Int32) = 38 by decide), if_neg (show ¬ (42 : Int32) = 39 by decide), if_neg (show ¬ (42 : Int32) = 40 by decide), if_neg (show ¬ (42 : Int32) = 41 by decide), if_pos rfl, if_neg (show ¬ (42 : Int32) = 7 by decide), if_neg (show ¬ (42 : Int32) = 8 by decide), if_neg (show ¬ (42 : Int32) = 9 by decide), if_neg (show ¬ (42 : Int32) = 15 by decide), if_neg (show ¬ (42 : Int32) = 16 by decide), if_neg (show ¬ (42 : Int32) = 27 by decide), if_neg (show ¬ (42 : Int32) = 28 by decide), if_neg (show ¬ (42 : Int32) = 29 by decide), if_neg (show ¬ (42 : Int32) = 30 by decide), if_neg (show ¬ (42 : Int32) = 33 by decide), if_neg (show ¬ (42 : Int32) = 35 by decide), if_neg (show ¬ (42 : Int32) = 36 by decide), if_neg (show ¬ (42 : Int32) = 37 by decide), if_neg (show ¬ (42 : Int32) = 38 by decide), if_neg (show ¬ (42 : Int32) = 39 by decide), if_neg (show ¬ (42 : Int32) = 40 by decide), if_neg (show ¬ (42 : Int32) = 41 by decide), if_pos rfl]
    have w1 : a.toInt ≤ 2000000 := hw.2.1 (Or.inr (Or.inr (Or.inl rfl)))
    rw [sl_c, kk_c, and_z, h7, i_sub rfl i3 (by omega) (by omega)]
    constructor
    · rintro ⟨p1, p2⟩
      rw [i_add rfl i3 (by omega) (by omega)] at p2
      exact ⟨p1, by omega⟩
    · rintro ⟨p1, p2⟩
      rw [i_add rfl i3 (by omega) (by omega)]
      exact ⟨p1, by omega⟩
  by_cases c43 : op = 43
  · subst c43
    rw [if_neg (show ¬ (43 : Int32) = 15 by decide), if_neg (show ¬ (43 : Int32) = 16 by decide), if_neg (show ¬ (43 : Int32) = 35 by decide), if_neg (show ¬ (43 : Int32) = 36 by decide), if_neg (show ¬ (43 : Int32) = 37 by decide), if_neg (show ¬ (43 : Int32) = 38 by decide), if_neg (show ¬ (43 : Int32) = 40 by decide), if_neg (show ¬ (43 : Int32) = 44 by decide), if_neg (show ¬ (43 : Int32) = 7 by decide), if_neg (show ¬ (43 : Int32) = 8 by decide), if_neg (show ¬ (43 : Int32) = 9 by decide), if_neg (show ¬ (43 : Int32) = 27 by decide), if_neg (show ¬ (43 : Int32) = 28 by decide), if_neg (show ¬ (43 : Int32) = 29 by decide), if_neg (show ¬ (43 : Int32) = 30 by decide), if_neg (show ¬ (43 : Int32) = 33 by decide), if_neg (show ¬ (43 : Int32) = 38 by decide), if_neg (show ¬ (43 : Int32) = 39 by decide), if_neg (show ¬ (43 : Int32) = 40 by decide), if_neg (show ¬ (43 : Int32) = 41 by decide), if_neg (show ¬ (43 : Int32) = 42 by decide), if_pos rfl, if_neg (show ¬ (43 : Int32) = 7 by decide), if_neg (show ¬ (43 : Int32) = 8 by decide), if_neg (show ¬ (43 : Int32) = 9 by decide), if_neg (show ¬ (43 : Int32) = 15 by decide), if_neg (show ¬ (43 : Int32) = 16 by decide), if_neg (show ¬ (43 : Int32) = 27 by decide), if_neg (show ¬ (43 : Int32) = 28 by decide), if_neg (show ¬ (43 : Int32) = 29 by decide), if_neg (show ¬ (43 : Int32) = 30 by decide), if_neg (show ¬ (43 : Int32) = 33 by decide), if_neg (show ¬ (43 : Int32) = 35 by decide), if_neg (show ¬ (43 : Int32) = 36 by decide), if_neg (show ¬ (43 : Int32) = 37 by decide), if_neg (show ¬ (43 : Int32) = 38 by decide), if_neg (show ¬ (43 : Int32) = 39 by decide), if_neg (show ¬ (43 : Int32) = 40 by decide), if_neg (show ¬ (43 : Int32) = 41 by decide), if_neg (show ¬ (43 : Int32) = 42 by decide), if_pos rfl]
    rw [sl_c, kk_c, and_z, h7]
    have w1 : a.toInt ≤ 2000000 := hw.2.1 (Or.inr (Or.inr (Or.inr (Or.inl rfl))))
    have w2 : 0 ≤ b.toInt ∧ b.toInt ≤ 2000000 := hw.2.2 (Or.inr rfl)
    rw [i_sub (i_sub rfl i3 (by omega) (by omega)) rfl (by omega) (by omega)]
    constructor
    · rintro ⟨p1, p2⟩
      rw [i_add (i_add rfl i3 (by omega) (by omega)) rfl (by omega) (by omega)] at p2
      exact ⟨p1, by omega⟩
    · rintro ⟨p1, p2⟩
      rw [i_add (i_add rfl i3 (by omega) (by omega)) rfl (by omega) (by omega)]
      exact ⟨p1, by omega⟩
  by_cases c44 : op = 44
  · subst c44
    rw [if_neg (show ¬ (44 : Int32) = 15 by decide), if_neg (show ¬ (44 : Int32) = 16 by decide), if_neg (show ¬ (44 : Int32) = 35 by decide), if_neg (show ¬ (44 : Int32) = 36 by decide), if_neg (show ¬ (44 : Int32) = 37 by decide), if_neg (show ¬ (44 : Int32) = 38 by decide), if_neg (show ¬ (44 : Int32) = 40 by decide), if_pos rfl, if_neg (show ¬ (44 : Int32) = 7 by decide), if_neg (show ¬ (44 : Int32) = 8 by decide), if_neg (show ¬ (44 : Int32) = 9 by decide), if_neg (show ¬ (44 : Int32) = 27 by decide), if_neg (show ¬ (44 : Int32) = 28 by decide), if_neg (show ¬ (44 : Int32) = 29 by decide), if_neg (show ¬ (44 : Int32) = 30 by decide), if_neg (show ¬ (44 : Int32) = 33 by decide), if_neg (show ¬ (44 : Int32) = 38 by decide), if_neg (show ¬ (44 : Int32) = 39 by decide), if_neg (show ¬ (44 : Int32) = 40 by decide), if_neg (show ¬ (44 : Int32) = 41 by decide), if_neg (show ¬ (44 : Int32) = 42 by decide), if_neg (show ¬ (44 : Int32) = 43 by decide), if_pos rfl, if_neg (show ¬ (44 : Int32) = 7 by decide), if_neg (show ¬ (44 : Int32) = 8 by decide), if_neg (show ¬ (44 : Int32) = 9 by decide), if_neg (show ¬ (44 : Int32) = 15 by decide), if_neg (show ¬ (44 : Int32) = 16 by decide), if_neg (show ¬ (44 : Int32) = 27 by decide), if_neg (show ¬ (44 : Int32) = 28 by decide), if_neg (show ¬ (44 : Int32) = 29 by decide), if_neg (show ¬ (44 : Int32) = 30 by decide), if_neg (show ¬ (44 : Int32) = 33 by decide), if_neg (show ¬ (44 : Int32) = 35 by decide), if_neg (show ¬ (44 : Int32) = 36 by decide), if_neg (show ¬ (44 : Int32) = 37 by decide), if_neg (show ¬ (44 : Int32) = 38 by decide), if_neg (show ¬ (44 : Int32) = 39 by decide), if_neg (show ¬ (44 : Int32) = 40 by decide), if_neg (show ¬ (44 : Int32) = 41 by decide), if_neg (show ¬ (44 : Int32) = 42 by decide), if_neg (show ¬ (44 : Int32) = 43 by decide), if_pos rfl]
    have w1 : a.toInt ≤ 2000000 := hw.2.1 (Or.inr (Or.inr (Or.inr (Or.inr rfl))))
    rw [kk_2, kk_c, kk_c, sl_r, sl_c, er, h7, i_sub rfl i4 (by omega) (by omega)]
    constructor
    · rintro ⟨⟨p1, p2⟩, p3, p4⟩
      rw [i_add rfl i4 (by omega) (by omega)] at p4
      exact ⟨⟨p3, by omega⟩, p1, p2⟩
    · rintro ⟨⟨p3, p4⟩, p1, p2⟩
      refine ⟨⟨p1, p2⟩, p3, ?_⟩
      rw [i_add rfl i4 (by omega) (by omega)]
      omega
  rw [if_neg c15, if_neg c16, if_neg c35, if_neg c36, if_neg c37, if_neg c38, if_neg c40, if_neg c44, if_neg c7, if_neg c8, if_neg c9, if_neg c27, if_neg c28, if_neg c29, if_neg c30, if_neg c33, if_neg c38, if_neg c39, if_neg c40, if_neg c41, if_neg c42, if_neg c43, if_neg c44, if_neg c7, if_neg c8, if_neg c9, if_neg c15, if_neg c16, if_neg c27, if_neg c28, if_neg c29, if_neg c30, if_neg c33, if_neg c35, if_neg c36, if_neg c37, if_neg c38, if_neg c39, if_neg c40, if_neg c41, if_neg c42, if_neg c43, if_neg c44]
  exact ⟨fun _ => by decide, fun _ => ⟨rfl, rfl⟩⟩
end FLW
