/-! THE CLASS: calls that may throw, words and levels, tables' rows -/
def am_T (R : Option Value → am_S → Prop) (T : am_S → Prop) : Option (Option Value) → am_S → Prop := fun o S' => match o with
  | some v => R v S'
  | none => T S'
theorem kd_eq {aw : Nat} {S S' : am_S} (h1 : nx S' = nx S) (h2 : kA aw S' = kA aw S) : kd aw S' = kd aw S := by
  unfold kd
  rw [h1, h2]
section CMT
variable {P : am_P} {d M pc : Nat} {ls : am_V} {st : List Value} {S : am_S} {Q : Option (Option Value) → am_S → Prop} {a b c nx' aw k : Nat} {x : Int32} {tab : List (Int32 × Nat)}
theorem am_e32t {R : Option Value → am_S → Prop} {T : am_S → Prop} {as rest : List Value} {la : am_V} (hi : P.1 M pc = some (32, a, b, c, x, nx', tab)) (hh : P.2.2.2.1 M pc = none) (hb : b ≤ st.length) (hb8 : st.length ≤ b + 8) (hm : b ≤ P.2.2.1 a) (has : (st.take b).reverse = as) (hr : am_recv c as S = true) (hla : am_in as (P.2.2.1 a) = la) (hrest : st.drop b = rest)
    (hc : am_E P d a 0 la [] S (am_T R T)) (kt : ∀ S1, T S1 → Q none S1) (k : ∀ v S1, R v S1 → am_E P (d + 1) M nx' ls (v.toList ++ rest) S1 Q) : am_E P (d + 1) M pc ls st S Q :=
  am_e32 hi hh hb hb8 hm has hr hla hrest hc k kt
/-- a call that is walked on the spot and may throw -/
theorem am_e32x {as rest : List Value} {la : am_V} (hi : P.1 M pc = some (32, a, b, c, x, nx', tab)) (hh : P.2.2.2.1 M pc = none) (hb : b ≤ st.length) (hb8 : st.length ≤ b + 8) (hm : b ≤ P.2.2.1 a) (has : (st.take b).reverse = as) (hr : am_recv c as S = true) (hla : am_in as (P.2.2.1 a) = la) (hrest : st.drop b = rest)
    (hc : am_E P d a 0 la [] S (am_T (fun v S1 => am_E P (d + 1) M nx' ls (v.toList ++ rest) S1 Q) (fun S1 => Q none S1))) : am_E P (d + 1) M pc ls st S Q :=
  am_e32 hi hh hb hb8 hm has hr hla hrest hc (fun _ _ h => h) (fun _ h => h)
theorem cl_recv {k c : Nat} {as : List Value} (h : cl (am_fs S) k = some c) : am_recv (c + 2) (.ref k :: as) S = true := by
  obtain ⟨fs, hf⟩ := cl_of h
  exact am_recv_ok hf
theorem am_e33T {R : Option Value → am_S → Prop} {T : am_S → Prop} {v : Int32} (hi : P.1 M pc = some (33, a, b, c, x, nx', tab)) (h : R (some (.int v)) S) : am_E P d M pc ls [.int v] S (am_T R T) := ⟨_, _, am_q33 hi, h⟩
theorem am_e34T {R : Option Value → am_S → Prop} {T : am_S → Prop} {v : Nat} (hi : P.1 M pc = some (34, a, b, c, x, nx', tab)) (h : R (some (.ref v)) S) : am_E P d M pc ls [.ref v] S (am_T R T) := ⟨_, _, am_q34 hi, h⟩
theorem am_e34nT {R : Option Value → am_S → Prop} {T : am_S → Prop} (hi : P.1 M pc = some (34, a, b, c, x, nx', tab)) (h : R (some .null) S) : am_E P d M pc ls [.null] S (am_T R T) := ⟨_, _, am_q34n hi, h⟩
theorem am_e35T {R : Option Value → am_S → Prop} {T : am_S → Prop} (hi : P.1 M pc = some (35, a, b, c, x, nx', tab)) (h : R none S) : am_E P d M pc ls [] S (am_T R T) := ⟨_, _, am_q35 hi, h⟩
theorem am_e36T {R : Option Value → am_S → Prop} {T : am_S → Prop} {v : Int32} (hi : P.1 M pc = some (36, a, b, c, x, nx', tab)) (hv : v = 0 ∨ v = 1) (h : R (some (.int v)) S) : am_E P d M pc ls [.int v] S (am_T R T) := ⟨_, _, am_q36 hi hv, h⟩
/-- it throws -/
theorem am_e37T (hi : P.1 M pc = some (37, a, b, c, x, nx', tab)) (hd : 12 ≤ d) (hs : st.length ≤ 8) (h : Q none (S.1, S.2.1 + 1, S.2.2 + 6)) : am_E P d M pc ls st S Q := ⟨_, _, am_R.thr hi ⟨hd, hs⟩, h⟩
/-- the number of the next word, or of levels, is written -/
theorem cm_21w {v : Int32} (h : SH aw S) (hi : P.1 M pc = some (21, 2, b, c, x, nx', tab)) (hb : b = 2 ∨ b = 3) (hc : c % 4 = 0) (K : ∀ S', SH aw S' → Ex S S' → (∀ j i, (j ≠ 2 ∨ i ≠ b) → iv S' j i = iv S j i) → iv S' 2 b = v.toInt → kA aw S' = kA aw S → nw S' = nw S → os S' = os S → EN S' = EN S → am_E P d M nx' ls st S' Q) : am_E P d M pc ls (.int v :: .ref 2 :: st) S Q := by
  obtain ⟨fs, hfs⟩ : ∃ fs, am_fs S 2 = some (2, fs) := cl_of (h.1.s (2, 2) (by decide))
  have hl := h.len hfs (by decide)
  have ht : (c_ty 2)[b]? = some 0 := by rcases hb with rfl | rfl <;> rfl
  have hbl : b < fs.length := by rw [hl]; exact (List.getElem?_eq_some_iff.mp ht).1
  obtain ⟨h1, h2, h3⟩ := h.setv (v := .int v) hfs (by decide) ht ⟨v, rfl⟩
  refine am_e21 hi hfs hbl (by rw [hc]; rfl) rfl (K _ h1 h2 (fun j i q => iv_set hfs q) (iv_set_eq hfs hbl) ?_ (nw_set hfs (Or.inl (by decide))) (so_os hfs (by decide) (by decide) (by decide)) h3)
  show kA aw (am_so S 2 (2, fs.set b (.int v))) = kA aw S
  funext i
  unfold kA wr
  rw [iv_set hfs (Or.inl (by decide)), so_arf hfs]
end CMT
theorem iv_tab {S : am_S} {t a : Nat} {r r' : Int32} (ht : am_fs S t = some (3, [.ref a, .int r])) : iv (am_so S t (3, [.ref a, .int r'])) t 1 = r'.toInt := by
  unfold iv
  rw [so_fs ht, c_set_eq]
  rfl
theorem iv_so {S : am_S} {t j i : Nat} {q0 q : Nat × List Value} (ht : am_fs S t = some q0) (hj : j ≠ t) : iv (am_so S t q) j i = iv S j i := by
  unfold iv
  rw [so_fs ht, c_set_ne hj]
theorem iv_w {S : am_S} {t a : Nat} {r r' : Int32} (ht : am_fs S t = some (3, [.ref a, .int r])) : 160 * iv (am_so S t (3, [.ref a, .int r'])) 8 1 + 320 * iv (am_so S t (3, [.ref a, .int r'])) 10 1 = 160 * iv S 8 1 + 320 * iv S 10 1 + c_w t * (r'.toInt - r.toInt) := by
  have e0 : iv S t 1 = r.toInt := by unfold iv; rw [ht]; rfl
  unfold c_w
  by_cases e8 : t = 8
  · subst e8
    rw [iv_tab ht, iv_so ht (by decide), e0, if_pos rfl]
    omega
  · rw [if_neg e8, iv_so ht (fun e => e8 e.symm)]
    by_cases e10 : t = 10
    · subst e10
      rw [iv_tab ht, e0, if_pos rfl]
      omega
    · rw [if_neg e10, iv_so ht (fun e => e10 e.symm)]
      omega
/-- a table's rows are cut or one is added: its cells stay -/
theorem SH.rows {aw t a n : Nat} {S : am_S} {r r' : Int32} (h : SH aw S) (ht : am_fs S t = some (3, [.ref a, .int r])) (hA : am_arq S a = some (false, n)) (h0 : 0 ≤ r'.toInt) (h1 : 4 * r'.toInt ≤ n) : SH aw (am_so S t (3, [.ref a, .int r'])) ∧ Ex S (am_so S t (3, [.ref a, .int r'])) ∧ EN (am_so S t (3, [.ref a, .int r'])) = EN S - (if 32 * r.toInt - 4 * (n : Int) ≤ 0 then 0 else 32 * r.toInt - 4 * (n : Int)) + (if 32 * r'.toInt - 4 * (n : Int) ≤ 0 then 0 else 32 * r'.toInt - 4 * (n : Int)) + c_w t * (r'.toInt - r.toInt) := by
  obtain ⟨n', b1, b2, b3, b4, b5, b6⟩ := h.1.tb t a r ht
  rw [hA] at b1
  cases b1
  obtain ⟨hreg, hq3⟩ : (a < 39 ∨ 94 ≤ a) ∧ (t = 3 → a = aw) := by
    obtain ⟨a', r'', n'', c1, c2, c3, c4, c5, c6, c7, c8, -, c9⟩ := h.tab (cl_mk ht)
    rw [ht] at c1
    cases c1
    exact ⟨c8, c9⟩
  refine ⟨⟨?_, by rw [so_len]; exact h.2⟩, so_ex ht (by decide) (fun j c' fs' hj => h.1.rf j c' fs' hj), ?_⟩
  · rw [so_fs ht, so_arq ht, so_rar ht, so_rrf ht]
    by_cases e : t = 3
    · have ea := hq3 e
      subst e
      subst ea
      have := h.1.tab (t := 3) (a := a) (n := n) (r := r') ht hA hreg h0 h1 b4 b5 (by rw [if_pos rfl]; trivial) (fun _ k a' r3' hk hF => by
        obtain ⟨_, _, _, _, _, _, q⟩ := h.1.tb k a' r3' hF
        exact q hk)
      rw [if_pos rfl] at this
      exact this
    · have := h.1.tab (t := t) (a := a) (n := n) (r := r') ht hA hreg h0 h1 b4 b5 (by rw [if_neg e]; exact b6 e) (fun q => absurd q e)
      rw [if_neg e] at this
      exact this
  · have hw := iv_w (r' := r') ht
    have hs := c_sum_upd (k := t) (f := c_phi (am_fs S) (am_arq S)) (f' := c_phi (c_set (am_fs S) t (3, [.ref a, .int r'])) (am_arq S)) _ (am_ltl (am_fs_ok ht)) (fun j hj => by unfold c_phi; rw [c_set_ne hj])
    rw [c_phi_tab ht hA, c_phi_tab (F := c_set (am_fs S) t (3, [.ref a, .int r'])) c_set_eq hA] at hs
    unfold EN
    rw [so_fs ht, so_arq ht, so_len, hs]
    show 128 * (S.2.1 : Int) + S.2.2 + _ + _ + _ = _
    omega
/-- what a table's own change leaves -/
theorem so_qu {aw t : Nat} {S : am_S} {q0 : List Value} {q : Nat × List Value} {c : Int} (hS : SH aw S) (ht : am_fs S t = some (3, q0)) (h3 : t ≠ 3) (h1 : SH aw (am_so S t q)) (h2 : Ex S (am_so S t q)) (h4 : EN (am_so S t q) ≤ EN S + c) : Qu aw c S (am_so S t q) := by
  have nk : ∀ j c', cl (am_fs S) j = some c' → c' ≠ 3 → j ≠ t := fun j c' h6 h5 e => by
    subst e
    rw [cl_mk ht] at h6
    exact h5 (Option.some.inj h6).symm
  have n2 : (2 : Nat) ≠ t := nk 2 2 (hS.1.s (2, 2) (by decide)) (by decide)
  have n13 : (13 : Nat) ≠ t := nk 13 5 (hS.1.s (13, 5) (by decide)) (by decide)
  have n12 : (12 : Nat) ≠ t := nk 12 7 (hS.1.s (12, 7) (by decide)) (by decide)
  have k3 : wr (am_so S t q) = wr S := iv_so ht (fun e => h3 e.symm)
  have k5 : nw (am_so S t q) = nw S := by
    unfold nw
    rw [so_fs ht, c_set_ne n12]
  have hnw : cl (am_fs S) (nw S) = some 8 := hS.nwc
  refine ⟨h1, h2, ⟨iv_so ht n2, iv_so ht n2, k3, ?_⟩, ⟨so_os ht (nk 5 4 (hS.1.s (5, 4) (by decide)) (by decide)) (nk 6 5 (hS.1.s (6, 5) (by decide)) (by decide)) n13, k5, ?_⟩, h4⟩
  · funext i
    unfold kA
    rw [k3, so_arf ht]
  · unfold fl
    rw [k5]
    exact iv_so ht (nk _ 8 hnw (by decide))
/-- any instruction that neither calls nor ends -/
theorem am_eg {P : am_P} {d M pc pc' : Nat} {ls ls' : am_V} {st st' : List Value} {S S1 : am_S} {Q : Option (Option Value) → am_S → Prop} {op a b c nx : Nat} {x : Int32} {tab : List (Int32 × Nat)} (hi : P.1 M pc = some (op, a, b, c, x, nx, tab)) (h0 : ¬ op = 32 ∧ ¬ op = 37 ∧ ¬ (33 ≤ op ∧ op ≤ 36)) (hd : am_do P.2.1 P.2.2.2.2 op a b c x nx tab d ls st S = some (pc', ls', st', S1)) (k : am_E P d M pc' ls' st' S1 Q) : am_E P d M pc ls st S Q := by
  obtain ⟨o, S', r, q⟩ := k
  exact ⟨o, S', am_R.go hi h0 hd r, q⟩
theorem of_nat {n : Nat} (h : n ≤ 16777232) : ∃ z, Int32.ofNat n = z ∧ z.toInt = n := ⟨_, rfl, by rw [Int32.toInt_ofNat']; exact Int.bmod_eq_of_le (by simp only [Int32.size]; omega) (by simp only [Int32.size]; omega)⟩
section CMR
variable {P : am_P} {d M pc : Nat} {ls : am_V} {st : List Value} {S : am_S} {Q : Option (Option Value) → am_S → Prop} {a b c nx' aw t n : Nat} {x : Int32} {tab : List (Int32 × Nat)}
/-- a number of a table is read -/
theorem cm_25 {i : Int32} (hi : P.1 M pc = some (25, 0, b, c, x, nx', tab)) (hA : am_arq S a = some (false, n)) (h0 : 0 ≤ i.toInt) (h1 : i.toInt < n) (K : am_E P d M nx' ls (.int (am_arf S a i.toNatClampNeg) :: st) S Q) : am_E P d M pc ls (.int i :: .ref a :: st) S Q := by
  have hx := mm_idx h0 h1
  exact am_e25 hi hA rfl hx.1 rfl hx.2 rfl K
/-- a number of a table is written -/
theorem cm_26 {i v : Int32} (h : SH aw S) (hi : P.1 M pc = some (26, 0, b, c, x, nx', tab)) (hA : am_arq S a = some (false, n)) (hr : a < 39 ∨ 94 ≤ a) (hw : a ≠ aw) (h0 : 0 ≤ i.toInt) (h1 : i.toInt < n) (K : ∀ S', Sm aw S S' → am_fs S' = am_fs S → am_arq S' = am_arq S → am_E P d M nx' ls st S' Q) : am_E P d M pc ls (.int v :: .int i :: .ref a :: st) S Q := by
  have hx := mm_idx h0 h1
  exact am_e26 hi hA rfl hx.1 rfl hx.2 (fun q => nomatch q) (K _ (sa_sm hA hr hw h) (sa_fs hA) (sa_arq hA))
/-- the same of any table -/
theorem cm_26w {i v : Int32} (h : SH aw S) (hi : P.1 M pc = some (26, 0, b, c, x, nx', tab)) (hA : am_arq S a = some (false, n)) (hr : a < 39 ∨ 94 ≤ a) (h0 : 0 ≤ i.toInt) (h1 : i.toInt < n) (K : ∀ S', SH aw S' → Ex S S' → iv S' = iv S → EN S' = EN S → am_fs S' = am_fs S → am_arq S' = am_arq S → am_E P d M nx' ls st S' Q) : am_E P d M pc ls (.int v :: .int i :: .ref a :: st) S Q := by
  have hx := mm_idx h0 h1
  exact am_e26 hi hA rfl hx.1 rfl hx.2 (fun q => nomatch q) (K _ (sa_sh hA h) (sa_ex hA hr) (sa_iv hA) (sa_en hA) (sa_fs hA) (sa_arq hA))
/-- the rows of a table are written -/
theorem cm_21r {r v : Int32} (h : SH aw S) (hi : P.1 M pc = some (21, 3, 1, c, x, nx', tab)) (ht : am_fs S t = some (3, [.ref a, .int r])) (hA : am_arq S a = some (false, n)) (hc : c % 4 = 0) (h0 : 0 ≤ v.toInt) (h1 : 4 * v.toInt ≤ n) (K : ∀ S', S' = am_so S t (3, [.ref a, .int v]) → am_E P d M nx' ls st S' Q) : am_E P d M pc ls (.int v :: .ref t :: st) S Q :=
  am_e21 hi ht (Nat.le_of_ble_eq_true rfl) (by rw [hc]; rfl) rfl (K _ rfl)
end CMR
/-- rows cut -/
theorem ta_cut {aw t a n : Nat} {S : am_S} {r v : Int32} (h : SH aw S) (ht : am_fs S t = some (3, [.ref a, .int r])) (hA : am_arq S a = some (false, n)) (h3 : t ≠ 3) (h0 : 0 ≤ v.toInt) (hv : v.toInt ≤ r.toInt) : Qu aw (c_w t * (v.toInt - r.toInt)) S (am_so S t (3, [.ref a, .int v])) ∧ iv (am_so S t (3, [.ref a, .int v])) t 1 = v.toInt ∧ ∀ j, j ≠ t → iv (am_so S t (3, [.ref a, .int v])) j 1 = iv S j 1 := by
  obtain ⟨n', b1, b2, b3, b4, b5, b6⟩ := h.1.tb t a r ht
  rw [hA] at b1
  cases b1
  obtain ⟨h1, h2, h4⟩ := h.rows (r' := v) ht hA h0 (by omega)
  refine ⟨so_qu h ht h3 h1 h2 ?_, iv_tab ht, fun j hj => iv_so ht hj⟩
  rw [h4]
  split <;> split <;> omega
/-- a row more, in its array -/
theorem ta_add {aw t a n : Nat} {S : am_S} {r v : Int32} (h : SH aw S) (ht : am_fs S t = some (3, [.ref a, .int r])) (hA : am_arq S a = some (false, n)) (h3 : t ≠ 3) (hv : v.toInt = r.toInt + 1) (hn : 4 * v.toInt ≤ n) : Qu aw (32 + c_w t) S (am_so S t (3, [.ref a, .int v])) ∧ iv (am_so S t (3, [.ref a, .int v])) t 1 = v.toInt ∧ ∀ j, j ≠ t → iv (am_so S t (3, [.ref a, .int v])) j 1 = iv S j 1 := by
  obtain ⟨n', b1, b2, b3, b4, b5, b6⟩ := h.1.tb t a r ht
  rw [hA] at b1
  cases b1
  obtain ⟨h1, h2, h4⟩ := h.rows (r' := v) ht hA (by omega) hn
  refine ⟨so_qu h ht h3 h1 h2 ?_, iv_tab ht, fun j hj => iv_so ht hj⟩
  have e : c_w t * (v.toInt - r.toInt) = c_w t := by rw [hv, show r.toInt + 1 - r.toInt = 1 by omega, Int.mul_one]
  rw [h4, e]
  split <;> split <;> omega
theorem c_w_nn (t : Nat) : 0 ≤ c_w t := by
  unfold c_w
  split
  · decide
  · split <;> decide
/-- as Qu, what the heap costs left open -/
def Qv (aw : Nat) (S S' : am_S) : Prop := SH aw S' ∧ Ex S S' ∧ (nx S' = nx S ∧ lv S' = lv S ∧ wr S' = wr S ∧ kA aw S' = kA aw S) ∧ (os S' = os S ∧ nw S' = nw S ∧ fl S' = fl S)
/-- words are passed -/
def Wd (aw : Nat) (S S' : am_S) : Prop := SH aw S' ∧ Ex S S' ∧ (wr S' = wr S ∧ kA aw S' = kA aw S) ∧ (os S' = os S ∧ nw S' = nw S ∧ fl S' = fl S) ∧ (∀ t, cl (am_fs S) t = some 3 → iv S' t 1 = iv S t 1) ∧ EN S' ≤ EN S
/-- a piece of the grammar was read -/
def Ad (aw : Nat) (S S' : am_S) : Prop := SH aw S' ∧ Ex S S' ∧ (wr S' = wr S ∧ kA aw S' = kA aw S) ∧ (iv S' 13 1 = iv S 13 1 ∧ iv S' 5 1 - nx S' ≤ iv S 5 1 - nx S)
/-- a refusal -/
def TH (aw : Nat) (c : Int) (S S' : am_S) : Prop := SH aw S' ∧ Ex S S' ∧ (wr S' = wr S ∧ kA aw S' = kA aw S) ∧ 0 ≤ nx S' ∧ nx S' ≤ wr S' ∧ EN S' - 10000 * nx S' ≤ EN S - 10000 * nx S + c
section CMN
variable {P : am_P} {d M pc : Nat} {ls : am_V} {st : List Value} {S : am_S} {Q : Option (Option Value) → am_S → Prop} {b c nx' aw : Nat} {x : Int32} {tab : List (Int32 × Nat)}
/-- the body in hand is read -/
theorem cm_20n (h : SH aw S) (hi : P.1 M pc = some (20, 7, 6, c, x, nx', tab)) (K : cl (am_fs S) (nw S) = some 8 → am_E P d M nx' ls (.ref (nw S) :: st) S Q) : am_E P d M pc ls (.ref 12 :: st) S Q := by
  obtain ⟨fs, v, h1, h2, ⟨q, h3, h4⟩⟩ := h.fld (k := 12) (a := 7) (b := 6) (t := 18) (h.1.s (12, 7) (by decide)) (by decide) rfl
  subst h3
  have e : nw S = q := by
    unfold nw
    rw [h1]
    show (match fs[6]? with | some (Value.ref b) => b | _ => 0) = q
    rw [h2]
  rw [← e] at h2 h4
  exact am_e20 hi h1 h2 (K h4)
end CMN
theorem bt_ne {t : Nat} (h : c_bt t) : t ≠ 3 ∧ t ≠ 8 ∧ t ≠ 10 ∧ t ≠ 14 ∧ t ≠ 16 ∧ t ≠ 24 ∧ t ≠ 26 ∧ t ≠ 28 ∧ t ≠ 30 := by
  unfold c_bt at h
  omega
theorem bt_w {t : Nat} (h : c_bt t) : c_w t = 0 := by
  unfold c_bt at h
  unfold c_w
  rw [if_neg (by omega), if_neg (by omega)]
