/-! THE CLASS: a new body with its two tables -/
def am_ap (S : am_S) (xs : List am_C) (n m : Nat) : am_S := (S.1 ++ xs, S.2.1 + n, S.2.2 + m)
section AP
variable {P : am_P} {d M pc : Nat} {ls : am_V} {st : List Value} {S : am_S} {Q : Option (Option Value) → am_S → Prop} {a b c nx' n m i : Nat} {x : Int32} {tab : List (Int32 × Nat)} {xs : List am_C}
theorem ap_get : (am_ap S xs n m).1[S.1.length + i]? = xs[i]? := by
  show (S.1 ++ xs)[S.1.length + i]? = _
  rw [List.getElem?_append_right (Nat.le_add_right _ _), Nat.add_sub_cancel_left]
theorem ap_len : (am_ap S xs n m).1.length = S.1.length + xs.length := List.length_append
theorem ap_set {q : am_C} : (am_ap S xs n m).1.set (S.1.length + i) q = S.1 ++ xs.set i q := by
  show (S.1 ++ xs).set _ q = _
  rw [List.set_append_right _ _ (Nat.le_add_right _ _), Nat.add_sub_cancel_left]
theorem ap_22 {fs : List Value} (hi : P.1 M pc = some (22, a, b, c, x, nx', tab)) (hnb : P.2.1 a = fs) (k : am_E P d M nx' ls (.ref (S.1.length + xs.length) :: st) (am_ap S (xs ++ [.inr (.inr (a, fs))]) (n + 1) (m + fs.length)) Q) : am_E P d M pc ls st (am_ap S xs n m) Q := by
  refine am_eg hi (by decide) (pc' := nx') (ls' := ls) (st' := .ref (S.1.length + xs.length) :: st) (S1 := am_ap S (xs ++ [.inr (.inr (a, fs))]) (n + 1) (m + fs.length)) ?_ k
  simp only [am_do, ap_len, hnb]
  simp only [am_ap, List.append_assoc, Nat.add_assoc]
theorem ap_23 {v : Int32} {w : Nat} (hi : P.1 M pc = some (23, 0, b, c, x, nx', tab)) (h0 : ¬ v < 0) (h1 : v.toNatClampNeg = w) (h2 : w ≤ 16777216) (k : am_E P d M nx' ls (.ref (S.1.length + xs.length) :: st) (am_ap S (xs ++ [.inl (false, w, fun _ => 0)]) (n + 1) (m + w)) Q) : am_E P d M pc ls (.int v :: st) (am_ap S xs n m) Q := by
  refine am_eg hi (by decide) (pc' := nx') (ls' := ls) (st' := .ref (S.1.length + xs.length) :: st) (S1 := am_ap S (xs ++ [.inl (false, w, fun _ => 0)]) (n + 1) (m + w)) ?_ k
  simp only [am_do, ap_len]
  rw [if_pos ⟨h0, by rw [h1]; exact h2⟩, h1]
  simp only [am_ap, List.append_assoc, Nat.add_assoc]
  rfl
theorem ap_21 {fs : List Value} {v : Value} (hi : P.1 M pc = some (21, a, b, c, x, nx', tab)) (hx : xs[i]? = some (.inr (.inr (a, fs)))) (hb : b < fs.length) (hf : am_fit (c % 4) v = true) (k : am_E P d M nx' ls st (am_ap S (xs.set i (.inr (.inr (a, fs.set b v)))) n m) Q) : am_E P d M pc ls (v :: .ref (S.1.length + i) :: st) (am_ap S xs n m) Q := by
  refine am_eg hi (by decide) (pc' := nx') (ls' := ls) (st' := st) (S1 := am_ap S (xs.set i (.inr (.inr (a, fs.set b v)))) n m) ?_ k
  simp only [am_do, ap_get, hx]
  rw [if_pos ⟨by trivial, hb, hf⟩, ap_set]
  rfl
theorem ap_31 {r : Nat} (hi : P.1 M pc = some (31, a, b, c, x, nx', tab)) (hd : 1 ≤ d) (hs : st.length ≤ 8) (k : am_E P d M nx' ls st S Q) : am_E P d M pc ls (.ref r :: st) S Q := am_eg hi (by decide) (by simp only [am_do]; rw [if_pos ⟨hd, hs⟩]) k
end AP
def nb_c (L : Nat) : List am_C := [.inr (.inr (8, [.ref (L + 1), .ref (L + 3), .int 0, .int 0, .int 0, .int 0, .int 0, .int 0, .int 0, .int 0, .int 0, .int 0, .int 0])), .inr (.inr (3, [.ref (L + 2), .int 0])), .inl (false, 32, fun _ => 0), .inr (.inr (3, [.ref (L + 4), .int 0])), .inl (false, 32, fun _ => 0)]
def nb_S (S : am_S) : am_S := am_ap S (nb_c S.1.length) 5 81
theorem ck_newBody {sc : Nat × (Nat → Int32)} {d : Nat} {S : am_S} : am_E (am_PP sc) (d + 2) 10 0 [some (.ref S.1.length)] [] (am_ap S [.inr (.inr (8, [.null, .null, .int 0, .int 0, .int 0, .int 0, .int 0, .int 0, .int 0, .int 0, .int 0, .int 0, .int 0]))] 1 13) (am_N fun v S1 => v = none ∧ S1 = nb_S S) := by
  refine am_e2 (v := S.1.length) hi_10_0 rfl ?_
  refine ap_31 hi_10_1 (Nat.le_add_left 1 _) (Nat.le_of_ble_eq_true rfl) ?_
  refine am_e2 (v := S.1.length) hi_10_4 rfl ?_
  refine ap_22 (fs := [.null, .int 0]) hi_10_5 rfl ?_
  show am_E _ _ _ _ _ [.ref (S.1.length + 1), .ref S.1.length] _ _
  refine am_e7 hi_10_8 ?_
  refine am_e32w (as := [.ref (S.1.length + 1)]) (la := [some (.ref (S.1.length + 1))]) (rest := [.ref (S.1.length + 1), .ref S.1.length]) hi_10_9 (am_hd0 (M := 10) (by decide) 9) (Nat.le_of_ble_eq_true rfl) (Nat.le_of_ble_eq_true rfl) (show 1 ≤ am_P0.2.2.1 3 from by decide +kernel) rfl rfl rfl rfl ?_
  refine am_e2 (v := (S.1.length + 1)) hi_3_0 rfl ?_
  refine ap_31 hi_3_1 (Nat.le_add_left 1 _) (Nat.le_of_ble_eq_true rfl) ?_
  refine am_e2 (v := (S.1.length + 1)) hi_3_4 rfl ?_
  refine am_e0 hi_3_5 ?_
  refine ap_23 (w := 32) hi_3_7 (by decide) rfl (by decide) ?_
  show am_E _ _ _ _ _ [.ref (S.1.length + 2), .ref (S.1.length + 1)] _ _
  refine ap_21 (i := 1) (fs := [.null, .int 0]) hi_3_9 rfl (Nat.le_of_ble_eq_true rfl) rfl ?_
  refine am_e35 hi_3_12 ?_
  show am_E _ _ _ _ [some (.ref S.1.length)] [.ref (S.1.length + 1), .ref S.1.length] _ _
  refine ap_21 (i := 0) (fs := [.null, .null, .int 0, .int 0, .int 0, .int 0, .int 0, .int 0, .int 0, .int 0, .int 0, .int 0, .int 0]) hi_10_12 rfl (Nat.le_of_ble_eq_true rfl) rfl ?_
  refine am_e2 (v := S.1.length) hi_10_15 rfl ?_
  refine ap_22 (fs := [.null, .int 0]) hi_10_16 rfl ?_
  show am_E _ _ _ _ _ [.ref (S.1.length + 3), .ref S.1.length] _ _
  refine am_e7 hi_10_19 ?_
  refine am_e32w (as := [.ref (S.1.length + 3)]) (la := [some (.ref (S.1.length + 3))]) (rest := [.ref (S.1.length + 3), .ref S.1.length]) hi_10_20 (am_hd0 (M := 10) (by decide) 20) (Nat.le_of_ble_eq_true rfl) (Nat.le_of_ble_eq_true rfl) (show 1 ≤ am_P0.2.2.1 3 from by decide +kernel) rfl rfl rfl rfl ?_
  refine am_e2 (v := (S.1.length + 3)) hi_3_0 rfl ?_
  refine ap_31 hi_3_1 (Nat.le_add_left 1 _) (Nat.le_of_ble_eq_true rfl) ?_
  refine am_e2 (v := (S.1.length + 3)) hi_3_4 rfl ?_
  refine am_e0 hi_3_5 ?_
  refine ap_23 (w := 32) hi_3_7 (by decide) rfl (by decide) ?_
  show am_E _ _ _ _ _ [.ref (S.1.length + 4), .ref (S.1.length + 3)] _ _
  refine ap_21 (i := 3) (fs := [.null, .int 0]) hi_3_9 rfl (Nat.le_of_ble_eq_true rfl) rfl ?_
  refine am_e35 hi_3_12 ?_
  show am_E _ _ _ _ [some (.ref S.1.length)] [.ref (S.1.length + 3), .ref S.1.length] _ _
  refine ap_21 (i := 0) (fs := [.ref (S.1.length + 1), .null, .int 0, .int 0, .int 0, .int 0, .int 0, .int 0, .int 0, .int 0, .int 0, .int 0, .int 0]) hi_10_23 rfl (Nat.le_of_ble_eq_true rfl) rfl ?_
  refine am_e35 hi_10_26 ⟨rfl, rfl⟩
section NB
variable {S : am_S}
theorem nb_lt {j : Nat} (h : j < S.1.length) : (nb_S S).1[j]? = S.1[j]? := List.getElem?_append_left h
theorem nb_ge {i : Nat} : (nb_S S).1[S.1.length + i]? = (nb_c S.1.length)[i]? := ap_get
theorem nb_no {j : Nat} (h : ¬ j < S.1.length) : S.1[j]? = none := List.getElem?_eq_none (by omega)
theorem nb_sp {j : Nat} (h : ¬ j < S.1.length) : ∃ i, j = S.1.length + i := ⟨j - S.1.length, by omega⟩
theorem nb_len : (nb_S S).1.length = S.1.length + 5 := ap_len
theorem nb_fs_old {k : Nat} {q : Nat × List Value} (h : am_fs S k = some q) : am_fs (nb_S S) k = some q := by
  have hl := am_ltl (am_fs_ok h)
  unfold am_fs at h ⊢
  rw [nb_lt hl]
  exact h
theorem nb_fs_or {k : Nat} {q : Nat × List Value} (h : am_fs (nb_S S) k = some q) : (k < S.1.length ∧ am_fs S k = some q) ∨ (k = S.1.length ∧ q = (8, [.ref (S.1.length + 1), .ref (S.1.length + 3), .int 0, .int 0, .int 0, .int 0, .int 0, .int 0, .int 0, .int 0, .int 0, .int 0, .int 0])) ∨ (k = S.1.length + 1 ∧ q = (3, [.ref (S.1.length + 2), .int 0])) ∨ (k = S.1.length + 3 ∧ q = (3, [.ref (S.1.length + 4), .int 0])) := by
  by_cases hl : k < S.1.length
  · left
    unfold am_fs at h ⊢
    rw [nb_lt hl] at h
    exact ⟨hl, h⟩
  · right
    obtain ⟨i, rfl⟩ := nb_sp hl
    unfold am_fs at h
    rw [nb_ge] at h
    match i, h with
    | 0, h => left; cases h; exact ⟨rfl, rfl⟩
    | 1, h => right; left; cases h; exact ⟨rfl, rfl⟩
    | 2, h => cases h
    | 3, h => right; right; cases h; exact ⟨rfl, rfl⟩
    | 4, h => cases h
    | (i + 5), h =>
      rw [show (nb_c S.1.length)[i + 5]? = none from List.getElem?_eq_none (by show 5 ≤ i + 5; omega)] at h
      cases h
theorem nb_fs0 : am_fs (nb_S S) S.1.length = some (8, [.ref (S.1.length + 1), .ref (S.1.length + 3), .int 0, .int 0, .int 0, .int 0, .int 0, .int 0, .int 0, .int 0, .int 0, .int 0, .int 0]) := by
  unfold am_fs
  rw [show (nb_S S).1[S.1.length]? = _ from nb_ge (i := 0)]
  rfl
theorem nb_fs1 : am_fs (nb_S S) (S.1.length + 1) = some (3, [.ref (S.1.length + 2), .int 0]) := by
  unfold am_fs
  rw [nb_ge]
  rfl
theorem nb_fs3 : am_fs (nb_S S) (S.1.length + 3) = some (3, [.ref (S.1.length + 4), .int 0]) := by
  unfold am_fs
  rw [nb_ge]
  rfl
theorem nb_arq_old {k : Nat} {q : Bool × Nat} (h : am_arq S k = some q) : am_arq (nb_S S) k = some q := by
  obtain ⟨t, n⟩ := q
  have hl := am_ltl (am_arq_ok h)
  unfold am_arq at h ⊢
  rw [nb_lt hl]
  exact h
theorem nb_arq2 : am_arq (nb_S S) (S.1.length + 2) = some (false, 32) := by
  unfold am_arq
  rw [nb_ge]
  rfl
theorem nb_arq4 : am_arq (nb_S S) (S.1.length + 4) = some (false, 32) := by
  unfold am_arq
  rw [nb_ge]
  rfl
theorem nb_arf {k : Nat} (hl : k < S.1.length) : am_arf (nb_S S) k = am_arf S k := by
  unfold am_arf
  rw [nb_lt hl]
theorem nb_rar : am_rar (nb_S S) = am_rar S := by
  funext k
  by_cases hl : k < S.1.length
  · unfold am_rar
    rw [nb_lt hl]
  · have hn := nb_no hl
    obtain ⟨i, rfl⟩ := nb_sp hl
    unfold am_rar
    rw [nb_ge, hn]
    match i with
    | 0 => rfl
    | 1 => rfl
    | 2 => rfl
    | 3 => rfl
    | 4 => rfl
    | (i + 5) => rw [show (nb_c S.1.length)[i + 5]? = none from List.getElem?_eq_none (by show 5 ≤ i + 5; omega)]
theorem nb_rrf : am_rrf (nb_S S) = am_rrf S := by
  funext k
  by_cases hl : k < S.1.length
  · unfold am_rrf
    rw [nb_lt hl]
  · have hn := nb_no hl
    obtain ⟨i, rfl⟩ := nb_sp hl
    unfold am_rrf
    rw [nb_ge, hn]
    match i with
    | 0 => rfl
    | 1 => rfl
    | 2 => rfl
    | 3 => rfl
    | 4 => rfl
    | (i + 5) => rw [show (nb_c S.1.length)[i + 5]? = none from List.getElem?_eq_none (by show 5 ≤ i + 5; omega)]
theorem iv_z {fs : List Value} {i : Nat} (h : ∀ v ∈ fs, v = .int 0 ∨ ∃ r, v = .ref r) : (match fs[i]? with | some (.int x) => x.toInt | _ => 0) = 0 := by
  cases hq : fs[i]? with
  | none => rfl
  | some v =>
    rcases h v (List.mem_of_getElem? hq) with rfl | ⟨r, rfl⟩
    · rfl
    · rfl
theorem nb_iv : iv (nb_S S) = iv S := by
  funext k i
  unfold iv
  cases hq : am_fs (nb_S S) k with
  | none =>
    cases hs : am_fs S k with
    | none => rfl
    | some q => rw [nb_fs_old hs] at hq; cases hq
  | some q =>
    rcases nb_fs_or hq with ⟨hl, h⟩ | h
    · rw [h]
    · have hn : am_fs S k = none := by
        unfold am_fs
        rw [nb_no (by omega)]
      rw [hn]
      obtain ⟨c0, fs⟩ := q
      show (match fs[i]? with | some (.int x) => x.toInt | _ => 0) = 0
      refine iv_z (fun v hv => ?_)
      rcases h with ⟨-, h⟩ | ⟨-, h⟩ | ⟨-, h⟩
      · cases h
        simp only [List.mem_cons, List.not_mem_nil, or_false] at hv
        rcases hv with rfl | rfl | rfl | rfl | rfl | rfl | rfl | rfl | rfl | rfl | rfl | rfl | rfl <;> first | exact Or.inl rfl | exact Or.inr ⟨_, rfl⟩
      · cases h
        simp only [List.mem_cons, List.not_mem_nil, or_false] at hv
        rcases hv with rfl | rfl <;> first | exact Or.inl rfl | exact Or.inr ⟨_, rfl⟩
      · cases h
        simp only [List.mem_cons, List.not_mem_nil, or_false] at hv
        rcases hv with rfl | rfl <;> first | exact Or.inl rfl | exact Or.inr ⟨_, rfl⟩
theorem nb_cl {k c : Nat} (h : cl (am_fs S) k = some c) : cl (am_fs (nb_S S)) k = some c := by
  obtain ⟨fs, hf⟩ := cl_of h
  exact cl_mk (nb_fs_old hf)
theorem nb_aw {aw : Nat} (h : SH aw S) : aw < S.1.length := by
  obtain ⟨r, hr⟩ := h.1.aw
  obtain ⟨n, hn, -⟩ := h.1.tb 3 aw r hr
  exact am_ltl (am_arq_ok hn)
theorem nb_nw {aw : Nat} (h : SH aw S) : nw (nb_S S) = nw S := by
  obtain ⟨fs, hf⟩ : ∃ fs, am_fs S 12 = some (7, fs) := cl_of (h.1.s (12, 7) (by decide))
  unfold nw
  rw [hf, nb_fs_old hf]
theorem nb_sh {aw : Nat} (h : SH aw S) : SH aw (nb_S S) := by
  have h94 := h.2
  have haw := nb_aw h
  refine ⟨?_, by rw [nb_len]; omega⟩
  rw [nb_rar, nb_rrf]
  have hm : ∀ j c', cl (am_fs S) j = some c' → cl (am_fs (nb_S S)) j = some c' := fun j c' q => nb_cl q
  have hA : ∀ a q, am_arq S a = some q → am_arq (nb_S S) a = some q := fun a q z => nb_arq_old z
  have hc : ∀ k, c_al (am_fs S) (am_rar S) (am_rrf S) k → c_al (am_fs (nb_S S)) (am_rar S) (am_rrf S) k := by
    rintro k ⟨ed, sz, mc, e1, e2⟩
    exact ⟨ed, sz, mc, nb_fs_old e1, e2⟩
  have hold : ∀ k q, k < 94 → am_fs (nb_S S) k = some q → am_fs S k = some q := fun k q hk hq => by
    rcases nb_fs_or hq with ⟨-, e⟩ | ⟨e, -⟩ | ⟨e, -⟩ | ⟨e, -⟩
    · exact e
    · omega
    · omega
    · omega
  refine ⟨fun k c fs q => ?_, fun p hp => hm _ _ (h.1.s p hp), fun k a r q => ?_, ?_, hc 6 h.1.l6, hc 13 h.1.l13, fun a q1 q2 q3 q4 e => ?_, fun a i b q => hm _ _ (h.1.rg a i b q), fun j c fs q h1 h2 => ?_, h.1.rr, ?_⟩
  · rcases nb_fs_or q with ⟨-, e⟩ | ⟨-, e⟩ | ⟨-, e⟩ | ⟨-, e⟩
    · rcases h.1.t k c fs e with e | ⟨e1, e2⟩
      · exact Or.inl e
      · exact Or.inr ⟨e1, c_f_mono hm hA (fun _ _ z => z) e2⟩
    · cases e
      exact Or.inr ⟨by decide, ⟨_, rfl, cl_mk nb_fs1, Or.inr (Or.inr (Or.inr (Or.inr (by omega))))⟩, ⟨_, rfl, cl_mk nb_fs3, Or.inr (Or.inr (Or.inr (Or.inr (by omega))))⟩, ⟨_, rfl⟩, ⟨_, rfl⟩, ⟨_, rfl⟩, ⟨_, rfl⟩, ⟨_, rfl⟩, ⟨_, rfl⟩, ⟨_, rfl⟩, ⟨_, rfl, by decide, by decide⟩, ⟨_, rfl⟩, ⟨_, rfl⟩, ⟨_, rfl⟩, trivial⟩
    · cases e
      exact Or.inr ⟨by decide, ⟨S.1.length + 2, 32, rfl, nb_arq2, Or.inr (Nat.le_trans h94 (Nat.le_add_right _ _))⟩, ⟨_, rfl⟩, trivial⟩
    · cases e
      exact Or.inr ⟨by decide, ⟨S.1.length + 4, 32, rfl, nb_arq4, Or.inr (Nat.le_trans h94 (Nat.le_add_right _ _))⟩, ⟨_, rfl⟩, trivial⟩
  · rcases nb_fs_or q with ⟨-, e⟩ | ⟨-, e⟩ | ⟨-, e⟩ | ⟨-, e⟩
    · obtain ⟨n, b1, b2⟩ := h.1.tb k a r e
      exact ⟨n, hA _ _ b1, b2⟩
    · cases e
    · cases e
      exact ⟨32, nb_arq2, by decide, by decide, by decide, by decide, fun _ => Nat.ne_of_gt (Nat.lt_of_lt_of_le haw (Nat.le_add_right _ _))⟩
    · cases e
      exact ⟨32, nb_arq4, by decide, by decide, by decide, by decide, fun _ => Nat.ne_of_gt (Nat.lt_of_lt_of_le haw (Nat.le_add_right _ _))⟩
  · obtain ⟨r, hr⟩ := h.1.aw
    exact ⟨r, nb_fs_old hr⟩
  · intro e2
    exact h.1.ld a q1 q2 q3 q4 (hold _ _ (by decide) e) (hold _ _ (by decide) e2)
  · exact h.1.rf j c fs (hold _ _ h2 q) h1 h2
  · obtain ⟨k1, c1, m1, s1, q1, e1, e2, e3⟩ := h.1.ct
    exact ⟨k1, c1, m1, s1, q1, nb_fs_old e1, nb_fs_old e2, e3⟩
theorem nb_phi {aw : Nat} (h : SH aw S) (k : Nat) : c_phi (am_fs (nb_S S)) (am_arq (nb_S S)) k = c_phi (am_fs S) (am_arq S) k := by
  cases hq : am_fs (nb_S S) k with
  | none =>
    cases hs : am_fs S k with
    | none => unfold c_phi; rw [hq, hs]
    | some q => rw [nb_fs_old hs] at hq; cases hq
  | some q =>
    rcases nb_fs_or hq with ⟨hl, e⟩ | e
    · unfold c_phi
      rw [hq, e]
      split
      · rename_i a r hk
        obtain ⟨n, b1, -⟩ := h.1.tb k a r (by rw [e, hk])
        rw [b1, nb_arq_old b1]
      · rfl
    · have hn : am_fs S k = none := by
        unfold am_fs
        rw [nb_no (by omega)]
      have e0 : c_phi (am_fs S) (am_arq S) k = 0 := by unfold c_phi; rw [hn]
      rw [e0]
      rcases e with ⟨-, e⟩ | ⟨-, e⟩ | ⟨-, e⟩
      · subst e
        unfold c_phi
        rw [hq]
        rfl
      · subst e
        rw [c_phi_tab hq nb_arq2]
        rfl
      · subst e
        rw [c_phi_tab hq nb_arq4]
        rfl
theorem nb_en {aw : Nat} (h : SH aw S) : EN (nb_S S) = EN S + 721 := by
  have e1 : c_phi (am_fs (nb_S S)) (am_arq (nb_S S)) = c_phi (am_fs S) (am_arq S) := funext (nb_phi h)
  have e2 : ∀ i, c_phi (am_fs S) (am_arq S) (S.1.length + i) = 0 := fun i => by
    have hn : am_fs S (S.1.length + i) = none := by
      unfold am_fs
      rw [nb_no (by omega)]
    unfold c_phi
    rw [hn]
  unfold EN
  rw [nb_len, nb_iv, e1]
  show 128 * ((S.2.1 + 5 : Nat) : Int) + ((S.2.2 + 81 : Nat) : Int) + c_sum _ (S.1.length + 1 + 1 + 1 + 1 + 1) + _ + _ = _
  simp only [c_sum]
  have f0 := e2 0
  have f1 := e2 1
  have f2 := e2 2
  have f3 := e2 3
  have f4 := e2 4
  simp only [Nat.add_assoc, Nat.add_zero, Nat.reduceAdd] at f0 f1 f2 f3 f4 ⊢
  rw [f0, f1, f2, f3, f4]
  omega
theorem nb_li {aw : Nat} (h : SH aw S) : Li aw 5 721 S (nb_S S) := by
  refine ⟨nb_sh h, ⟨fun k c q => nb_cl q, fun k h1 h2 => nb_lt (by have := h.2; omega), by rw [nb_len]; omega⟩, fun j i _ => by rw [nb_iv], ⟨?_, nb_nw h⟩, Int.le_of_eq (nb_en h)⟩
  funext i
  unfold kA wr
  rw [nb_iv, nb_arf (nb_aw h)]
theorem cm_nb {sc : Nat × (Nat → Int32)} {d aw : Nat} {ls : am_V} {Q : Option (Option Value) → am_S → Prop} (h : SH aw S) (K : ∀ b S1, Li aw 5 721 S S1 → iv S1 5 1 = iv S 5 1 → cl (am_fs S1) b = some 8 → am_E (am_PP sc) (d + 3) 13 25 ls [.ref b, .ref 6] S1 Q) : am_E (am_PP sc) (d + 3) 13 18 ls [.ref 6] S Q := by
  refine am_eg hi_13_18 (by decide) (pc' := 21) (ls' := ls) (st' := [.ref S.1.length, .ref 6]) (S1 := am_ap S [.inr (.inr (8, [.null, .null, .int 0, .int 0, .int 0, .int 0, .int 0, .int 0, .int 0, .int 0, .int 0, .int 0, .int 0]))] 1 13) rfl ?_
  refine am_e7 hi_13_21 ?_
  refine am_e32n (as := [.ref S.1.length]) (la := [some (.ref S.1.length)]) (rest := [.ref S.1.length, .ref 6]) hi_13_22 (am_hd0 (M := 13) (by decide) 22) (Nat.le_of_ble_eq_true rfl) (Nat.le_of_ble_eq_true rfl) (show 1 ≤ am_P0.2.2.1 10 from by decide +kernel) rfl rfl rfl rfl (ck_newBody (d := d)) ?_
  rintro v S1 ⟨rfl, rfl⟩
  exact K _ _ (nb_li h) (by rw [nb_iv]) (cl_mk nb_fs0)
theorem Li.trans {aw k : Nat} {c c' : Int} {S1 S2 : am_S} (h : Li aw k c S S1) (h' : Li aw k c' S1 S2) : Li aw k (c + c') S S2 :=
  ⟨h'.1, h.2.1.trans h'.2.1, fun j i hj => (h'.2.2.1 j i hj).trans (h.2.2.1 j i hj), ⟨h'.2.2.2.1.1.trans h.2.2.2.1.1, h'.2.2.2.1.2.trans h.2.2.2.1.2⟩, by have := h.2.2.2.2; have := h'.2.2.2.2; omega⟩
end NB
