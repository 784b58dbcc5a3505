/-! THE CLASS: rules for lists -/
theorem li_sr {aw k a n : Nat} {S : am_S} {g : Nat → Option Nat} (h : SH aw S) (hR : am_rar S a = some n) (hg : ∀ i b, g i = some b → cl (am_fs S) b = some 8) (l6 : l_ok (am_fs S) a g 6) (l13 : l_ok (am_fs S) a g 13) : Li aw k 0 S (am_sr S a n g) :=
  ⟨sr_sh hR h hg l6 l13, sr_ex hR (h.1.rr a n hR), fun j i _ => by rw [sr_iv hR], ⟨sr_kA hR, sr_nw hR⟩, by rw [sr_en hR]; omega⟩
theorem l_up {aw a i v k : Nat} {S : am_S} (h : SH aw S) (hk : k = 6 ∨ k = 13) : l_ok (am_fs S) a (va_up (am_rrf S a) i (some v)) k := by
  intro sz mc e j hj
  obtain ⟨ed, sz', mc', e1, -, -, -, e2⟩ := h.lst hk
  rw [e] at e1
  cases e1
  rcases e2 with ⟨e3, -⟩ | ⟨a', n, e3, -, -, -, e4⟩
  · cases e3
  · cases e3
    unfold va_up
    split
    · rfl
    · exact e4 j hj
section RM
variable {P : am_P} {d M pc : Nat} {ls : am_V} {st : List Value} {S : am_S} {Q : Option (Option Value) → am_S → Prop} {a b c nx' aw k : Nat} {x : Int32} {tab : List (Int32 × Nat)}
theorem cm_21l {ed0 ed v : Value} {s0 m0 sz mc : Int32} (h : SH aw S) (hl : k = 6 ∨ k = 13) (hi : P.1 M pc = some (21, 5, b, c, x, nx', tab)) (hF : am_fs S k = some (5, [ed0, .int s0, .int m0])) (hb : b < 3) (hf : am_fit (c % 4) v = true) (hs : [ed0, .int s0, .int m0].set b v = [ed, .int sz, .int mc]) (hv : c_lv (am_rar S) (am_rrf S) ed sz) (hd : ∀ a, ed = .ref a → ∀ k', (k' = 6 ∨ k' = 13) → k' ≠ k → ∀ q1 q2, am_fs S k' ≠ some (5, [.ref a, q1, q2])) (hct : k = 6 → iv S 5 1 ≤ sz.toInt)
    (K : ∀ S1, Li aw k 0 S S1 → iv S1 k 1 = sz.toInt → am_fs S1 k = some (5, [ed, .int sz, .int mc]) → am_rar S1 = am_rar S → am_rrf S1 = am_rrf S → am_E P d M nx' ls st S1 Q) : am_E P d M pc ls (v :: .ref k :: st) S Q := by
  have q := h.setl (mc := mc) hl hF hv hd hct
  exact am_e21 hi hF hb hf hs (K _ q.1 q.2.1 q.2.2.1 q.2.2.2.1 q.2.2.2.2)
theorem cm_38 {v : Int32} (h : SH aw S) (hi : P.1 M pc = some (38, a, b, c, x, nx', tab)) (h0 : 0 ≤ v.toInt) (h1 : v.toInt ≤ 16777216)
    (K : ∀ a1 S1, Li aw k (128 + v.toInt) S S1 → am_fs S1 = am_fs S → am_rar S1 a1 = some v.toNatClampNeg → (∀ a q, am_rar S a = some q → am_rar S1 a = some q) → am_rrf S1 = am_rrf S → (∀ k', k' = 6 ∨ k' = 13 → ∀ q1 q2, am_fs S1 k' ≠ some (5, [.ref a1, q1, q2])) → am_E P d M nx' ls (.ref a1 :: st) S1 Q) : am_E P d M pc ls (.int v :: st) S Q := by
  refine am_e38 hi h0 h1 (K _ _ ⟨nr_sh h, nr_ex h.2, fun j i _ => by rw [nr_iv], ⟨nr_kA, nr_nw⟩, ?_⟩ nr_fs nr_rar_new (fun a q z => nr_rar_old z) nr_rrf ?_)
  · rw [nr_en]
    have := cl_toNat (i := v)
    omega
  · intro k' hk' q1 q2 e
    rw [nr_fs] at e
    obtain ⟨n, hn⟩ : ∃ n, am_rar S S.1.length = some n := by
      rcases h.1.t _ _ _ e with e | ⟨-, e⟩
      · cases e
      · have e5 : c_v (am_fs S) (am_arq S) (am_rar S) 3 (.ref S.1.length) := e.1
        rcases e5 with e | ⟨a, n, e1, e2⟩
        · cases e
        · cases e1
          exact ⟨n, e2⟩
    exact absurd (am_ltl (am_rar_ok hn)) (Nat.lt_irrefl _)
theorem cm_40b {v r n : Nat} {i : Int32} (h : SH aw S) (hi : P.1 M pc = some (40, 8, b, c, x, nx', tab)) (hv : cl (am_fs S) v = some 8) (hR : am_rar S r = some n) (h0 : 0 ≤ i.toInt) (h1 : i.toInt < n)
    (K : ∀ S1, Li aw k 0 S S1 → am_fs S1 = am_fs S → am_rar S1 = am_rar S → (∀ j, am_rrf S1 r j = if j = i.toNatClampNeg then some v else am_rrf S r j) → am_E P d M nx' ls st S1 Q) : am_E P d M pc ls (.ref v :: .int i :: .ref r :: st) S Q := by
  refine am_e40s hi hv hR h0 h1 (K _ (li_sr h hR (fun j b' e => ?_) (l_up h (Or.inl rfl)) (l_up h (Or.inr rfl))) (sr_fs hR) (sr_rar hR) (fun j => ?_))
  · unfold va_up at e
    split at e
    · cases e
      exact hv
    · exact h.1.rg _ _ _ e
  · rw [sr_rrf hR]
    unfold g_set
    rw [if_pos rfl]
    rfl
theorem cm_40n {r n : Nat} {i : Int32} (h : SH aw S) (hi : P.1 M pc = some (40, a, b, c, x, nx', tab)) (hR : am_rar S r = some n) (h0 : 0 ≤ i.toInt) (h1 : i.toInt < n) (hn : ∀ k', k' = 6 ∨ k' = 13 → ∀ sz mc, am_fs S k' = some (5, [.ref r, .int sz, mc]) → sz.toInt ≤ i.toInt)
    (K : ∀ S1, Li aw k 0 S S1 → am_fs S1 = am_fs S → am_rar S1 = am_rar S → am_E P d M nx' ls st S1 Q) : am_E P d M pc ls (.null :: .int i :: .ref r :: st) S Q := by
  have hl : ∀ k', k' = 6 ∨ k' = 13 → l_ok (am_fs S) r (va_up (am_rrf S r) i.toNatClampNeg none) k' := by
    intro k' hk' sz mc e j hj
    have hle := hn k' hk' sz mc e
    obtain ⟨ed, sz', mc', e1, -, -, -, e2⟩ := h.lst hk'
    rw [e] at e1
    cases e1
    rcases e2 with ⟨e3, -⟩ | ⟨a', n', e3, -, -, -, e4⟩
    · cases e3
    · cases e3
      unfold va_up
      have hc := cl_toNat (i := i)
      rw [if_neg (by omega)]
      exact e4 j hj
  refine am_e40n hi hR h0 h1 (K _ (li_sr h hR (fun j b' e => ?_) (hl 6 (Or.inl rfl)) (hl 13 (Or.inr rfl))) (sr_fs hR) (sr_rar hR))
  unfold va_up at e
  split at e
  · cases e
  · exact h.1.rg _ _ _ e
theorem cm_42 {r r1 n0 n1 : Nat} {n : Int32} (h : SH aw S) (hi : P.1 M pc = some (42, 8, b, c, x, nx', tab)) (h0 : am_rar S r = some n0) (h1 : am_rar S r1 = some n1) (hn : 0 ≤ n.toInt) (hn0 : n.toInt ≤ n0) (hn1 : n.toInt ≤ n1) (hd : 1 ≤ d) (hs : st.length ≤ 8) (hf : ∀ k', k' = 6 ∨ k' = 13 → ∀ q1 q2, am_fs S k' ≠ some (5, [.ref r1, q1, q2]))
    (K : ∀ S1, Li aw k 0 S S1 → am_fs S1 = am_fs S → am_rar S1 = am_rar S → (∀ j : Nat, (j : Int) < n.toInt → am_rrf S1 r1 j = am_rrf S r j) → am_E P d M nx' ls st S1 Q) : am_E P d M pc ls (.int n :: .int 0 :: .ref r1 :: .int 0 :: .ref r :: st) S Q := by
  refine am_e42 hi h0 h1 hn hn0 hn1 hd hs (fun i j e => h.1.rg _ _ _ e) (K _ (li_sr h h1 (fun j b' e => ?_) (fun sz mc e => absurd e (hf 6 (Or.inl rfl) _ _)) (fun sz mc e => absurd e (hf 13 (Or.inr rfl) _ _))) (sr_fs h1) (sr_rar h1) (fun j hj => ?_))
  · unfold va_cpy at e
    split at e
    · exact h.1.rg _ _ _ e
    · exact h.1.rg _ _ _ e
  · rw [sr_rrf h1]
    unfold g_set va_cpy
    have hc := cl_toNat (i := n)
    rw [if_pos rfl, if_pos (by omega), Nat.zero_add, Nat.sub_zero]
/-- how many bodies there are is written -/
theorem cm_21c {v : Int32} (h : SH aw S) (hi : P.1 M pc = some (21, 4, 1, c, x, nx', tab)) (hc : c % 4 = 0) (h0 : 0 ≤ v.toInt) (h1 : v.toInt ≤ iv S 6 1) (K : ∀ S1, Li aw 5 0 S S1 → iv S1 5 1 = v.toInt → am_E P d M nx' ls st S1 Q) : am_E P d M pc ls (.int v :: .ref 5 :: st) S Q := by
  obtain ⟨c0, e, -⟩ := h.cnt
  have q := h.setcnt (c' := v) e h0 h1
  exact am_e21 hi e (Nat.le_of_ble_eq_true rfl) (by rw [hc]; rfl) rfl (K _ q.1 q.2)
end RM
