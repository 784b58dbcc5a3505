/-! A RULE FOR EACH SMALL INSTRUCTION, numbers named; what a list of cells holds, as data that can be decided -/
def am_fs (S : am_S) (k : Nat) : Option (Nat × List Value) := match S.1[k]? with
  | some (.inr (.inr q)) => some q
  | _ => none
def am_arq (S : am_S) (k : Nat) : Option (Bool × Nat) := match S.1[k]? with
  | some (.inl q) => some (q.1, q.2.1)
  | _ => none
def am_arf (S : am_S) (k : Nat) : Nat → Int32 := match S.1[k]? with
  | some (.inl q) => q.2.2
  | _ => fun _ => 0
def am_rar (S : am_S) (k : Nat) : Option Nat := match S.1[k]? with
  | some (.inr (.inl q)) => some q.1
  | _ => none
def am_rrf (S : am_S) (k : Nat) : Nat → Option Nat := match S.1[k]? with
  | some (.inr (.inl q)) => q.2
  | _ => fun _ => none
theorem am_fs_ok {S : am_S} {k : Nat} {q : Nat × List Value} (h : am_fs S k = some q) : S.1[k]? = some (.inr (.inr q)) := by
  unfold am_fs at h
  split at h
  · rename_i hc; cases h; exact hc
  · cases h
theorem am_arq_ok {S : am_S} {k n : Nat} {t : Bool} (h : am_arq S k = some (t, n)) : S.1[k]? = some (.inl (t, n, am_arf S k)) := by
  unfold am_arq at h
  unfold am_arf
  split at h
  · rename_i q hc
    cases h
    rw [hc]
  · cases h
theorem am_rar_ok {S : am_S} {k n : Nat} (h : am_rar S k = some n) : S.1[k]? = some (.inr (.inl (n, am_rrf S k))) := by
  unfold am_rar at h
  unfold am_rrf
  split at h
  · rename_i q hc
    cases h
    rw [hc]
  · cases h
theorem am_ltl {S : am_S} {k : Nat} {c : am_C} (h : S.1[k]? = some c) : k < S.1.length := (List.getElem?_eq_some_iff.mp h).1
/-- after a cell was changed -/
theorem am_fs_eq {S : am_S} {k x y : Nat} {q0 q : Nat × List Value} (h : am_fs S k = some q0) : am_fs (S.1.set k (.inr (.inr q)), x, y) k = some q := by
  have h1 : (S.1.set k (.inr (.inr q)))[k]? = some (.inr (.inr q)) := by rw [List.getElem?_set_self (am_ltl (am_fs_ok h))]
  unfold am_fs
  rw [show ((S.1.set k (.inr (.inr q)), x, y) : am_S).1 = S.1.set k (.inr (.inr q)) from rfl, h1]
theorem am_arq_eq {S : am_S} {k x y n n0 : Nat} {t t0 : Bool} {f : Nat → Int32} (h : am_arq S k = some (t0, n0)) : am_arq (S.1.set k (.inl (t, n, f)), x, y) k = some (t, n) := by
  have h1 : (S.1.set k (.inl (t, n, f)))[k]? = some (.inl (t, n, f)) := by rw [List.getElem?_set_self (am_ltl (am_arq_ok h))]
  unfold am_arq
  rw [show ((S.1.set k (.inl (t, n, f)), x, y) : am_S).1 = S.1.set k (.inl (t, n, f)) from rfl, h1]
theorem am_fs_ne {S : am_S} {k j x y : Nat} {c : am_C} {q : Nat × List Value} (hj : k ≠ j) (h : am_fs S j = some q) : am_fs (S.1.set k c, x, y) j = some q := by
  unfold am_fs at h ⊢
  rw [show ((S.1.set k c, x, y) : am_S).1 = S.1.set k c from rfl, List.getElem?_set_ne hj]
  exact h
theorem am_arq_ne {S : am_S} {k j x y : Nat} {c : am_C} {q : Bool × Nat} (hj : k ≠ j) (h : am_arq S j = some q) : am_arq (S.1.set k c, x, y) j = some q := by
  unfold am_arq at h ⊢
  rw [show ((S.1.set k c, x, y) : am_S).1 = S.1.set k c from rfl, List.getElem?_set_ne hj]
  exact h
theorem am_recv_ok {S : am_S} {r k : Nat} {fs as : List Value} (h : am_fs S r = some (k, fs)) : am_recv (k + 2) (.ref r :: as) S = true := by
  have h1 := am_fs_ok h
  simp only [am_recv, h1, decide_true]
/-- comparisons by their integers -/
theorem am_cmp_int (k : Nat) (x y : Int32) : am_cmp k x y = match k with
  | 0 => decide (x.toInt = y.toInt)
  | 1 => decide (¬ x.toInt = y.toInt)
  | 2 => decide (x.toInt < y.toInt)
  | 3 => decide (y.toInt ≤ x.toInt)
  | 4 => decide (y.toInt < x.toInt)
  | _ => decide (x.toInt ≤ y.toInt) := by
  unfold am_cmp
  split <;> simp only [Int32.lt_iff_toInt_lt, Int32.le_iff_toInt_le, Int32.toInt_inj]
section AMQ
variable {P : am_P} {d M pc : Nat} {ls : am_V} {st : List Value} {S S' : am_S} {o : Option (Option Value)} {a b c nx : Nat} {x : Int32} {tab : List (Int32 × Nat)}
theorem am_q0 (hi : P.1 M pc = some (0, a, b, c, x, nx, tab)) (k : am_R P d M nx ls (.int x :: st) S o S') : am_R P d M pc ls st S o S' := am_R.go hi (by decide) rfl k
theorem am_q1 {v : Int32} (hi : P.1 M pc = some (1, a, b, c, x, nx, tab)) (h : ls[a]? = some (some (.int v))) (k : am_R P d M nx ls (.int v :: st) S o S') : am_R P d M pc ls st S o S' := am_R.go hi (by decide) (by simp only [am_do, h]) k
theorem am_q2 {v : Nat} (hi : P.1 M pc = some (2, a, b, c, x, nx, tab)) (h : ls[a]? = some (some (.ref v))) (k : am_R P d M nx ls (.ref v :: st) S o S') : am_R P d M pc ls st S o S' := am_R.go hi (by decide) (by simp only [am_do, h]) k
theorem am_q2l {v : Int64} (hi : P.1 M pc = some (2, a, b, c, x, nx, tab)) (h : ls[a]? = some (some (.long v))) (k : am_R P d M nx ls (.long v :: st) S o S') : am_R P d M pc ls st S o S' := am_R.go hi (by decide) (by simp only [am_do, h]) k
theorem am_q2n (hi : P.1 M pc = some (2, a, b, c, x, nx, tab)) (h : ls[a]? = some (some .null)) (k : am_R P d M nx ls (.null :: st) S o S') : am_R P d M pc ls st S o S' := am_R.go hi (by decide) (by simp only [am_do, h]) k
theorem am_q3 {v : Int32} {ls' : am_V} (hi : P.1 M pc = some (3, a, b, c, x, nx, tab)) (hn : a < ls.length) (hl : ls.set a (some (.int v)) = ls') (k : am_R P d M nx ls' st S o S') : am_R P d M pc ls (.int v :: st) S o S' := am_R.go hi (by decide) (by simp only [am_do]; rw [if_pos hn, hl]) k
theorem am_q4 {v : Nat} {ls' : am_V} (hi : P.1 M pc = some (4, a, b, c, x, nx, tab)) (hn : a < ls.length) (hl : ls.set a (some (.ref v)) = ls') (k : am_R P d M nx ls' st S o S') : am_R P d M pc ls (.ref v :: st) S o S' := am_R.go hi (by decide) (by simp only [am_do]; rw [if_pos hn, hl]) k
theorem am_q4n {ls' : am_V} (hi : P.1 M pc = some (4, a, b, c, x, nx, tab)) (hn : a < ls.length) (hl : ls.set a (some .null) = ls') (k : am_R P d M nx ls' st S o S') : am_R P d M pc ls (.null :: st) S o S' := am_R.go hi (by decide) (by simp only [am_do]; rw [if_pos hn, hl]) k
theorem am_q5 {v z : Int32} {ls' : am_V} (hi : P.1 M pc = some (5, a, b, c, x, nx, tab)) (h : ls[a]? = some (some (.int v))) (hz : v + x = z) (hl : ls.set a (some (.int z)) = ls') (k : am_R P d M nx ls' st S o S') : am_R P d M pc ls st S o S' := am_R.go hi (by decide) (by simp only [am_do, h]; rw [hz, hl]) k
theorem am_q7 {v : Nat} (hi : P.1 M pc = some (7, a, b, c, x, nx, tab)) (k : am_R P d M nx ls (.ref v :: .ref v :: st) S o S') : am_R P d M pc ls (.ref v :: st) S o S' := am_R.go hi (by decide) rfl k
theorem am_q7i {v : Int32} (hi : P.1 M pc = some (7, a, b, c, x, nx, tab)) (k : am_R P d M nx ls (.int v :: .int v :: st) S o S') : am_R P d M pc ls (.int v :: st) S o S' := am_R.go hi (by decide) rfl k
theorem am_q6i {v : Int32} (hi : P.1 M pc = some (6, a, b, c, x, nx, tab)) (k : am_R P d M nx ls st S o S') : am_R P d M pc ls (.int v :: st) S o S' := am_R.go hi (by decide) rfl k
theorem am_q9 {v w : Value} (hi : P.1 M pc = some (9, a, b, c, x, nx, tab)) (k : am_R P d M nx ls (v :: w :: v :: st) S o S') : am_R P d M pc ls (v :: w :: st) S o S' := am_R.go hi (by decide) rfl k
theorem am_q10 {v w z : Int32} (hi : P.1 M pc = some (10, a, b, c, x, nx, tab)) (hz : am_bin a v w = z) (k : am_R P d M nx ls (.int z :: st) S o S') : am_R P d M pc ls (.int w :: .int v :: st) S o S' := am_R.go hi (by decide) (by simp only [am_do, hz]) k
theorem am_q11 {v z : Int32} (hi : P.1 M pc = some (11, a, b, c, x, nx, tab)) (hz : -v = z) (k : am_R P d M nx ls (.int z :: st) S o S') : am_R P d M pc ls (.int v :: st) S o S' := am_R.go hi (by decide) (by simp only [am_do, hz]) k
theorem am_q12t {v : Int32} (hi : P.1 M pc = some (12, a, b, c, x, nx, tab)) (h : am_cmp a v 0 = true) (k : am_R P d M b ls st S o S') : am_R P d M pc ls (.int v :: st) S o S' := am_R.go hi (by decide) (by simp only [am_do]; rw [if_pos h]) k
theorem am_q12f {v : Int32} (hi : P.1 M pc = some (12, a, b, c, x, nx, tab)) (h : am_cmp a v 0 = false) (k : am_R P d M nx ls st S o S') : am_R P d M pc ls (.int v :: st) S o S' := am_R.go hi (by decide) (by simp only [am_do]; rw [if_neg (by rw [h]; decide)]) k
theorem am_q13t {v w : Int32} (hi : P.1 M pc = some (13, a, b, c, x, nx, tab)) (h : am_cmp a v w = true) (k : am_R P d M b ls st S o S') : am_R P d M pc ls (.int w :: .int v :: st) S o S' := am_R.go hi (by decide) (by simp only [am_do]; rw [if_pos h]) k
theorem am_q13f {v w : Int32} (hi : P.1 M pc = some (13, a, b, c, x, nx, tab)) (h : am_cmp a v w = false) (k : am_R P d M nx ls st S o S') : am_R P d M pc ls (.int w :: .int v :: st) S o S' := am_R.go hi (by decide) (by simp only [am_do]; rw [if_neg (by rw [h]; decide)]) k
theorem am_q14r {v : Nat} (hi : P.1 M pc = some (14, a, b, c, x, nx, tab)) (k : am_R P d M nx ls st S o S') : am_R P d M pc ls (.ref v :: st) S o S' := am_R.go hi (by decide) rfl k
theorem am_q14n (hi : P.1 M pc = some (14, a, b, c, x, nx, tab)) (k : am_R P d M b ls st S o S') : am_R P d M pc ls (.null :: st) S o S' := am_R.go hi (by decide) rfl k
theorem am_q15r {v : Nat} (hi : P.1 M pc = some (15, a, b, c, x, nx, tab)) (k : am_R P d M b ls st S o S') : am_R P d M pc ls (.ref v :: st) S o S' := am_R.go hi (by decide) rfl k
theorem am_q15n (hi : P.1 M pc = some (15, a, b, c, x, nx, tab)) (k : am_R P d M nx ls st S o S') : am_R P d M pc ls (.null :: st) S o S' := am_R.go hi (by decide) rfl k
theorem am_q18 (hi : P.1 M pc = some (18, a, b, c, x, nx, tab)) (k : am_R P d M b ls st S o S') : am_R P d M pc ls st S o S' := am_R.go hi (by decide) rfl k
theorem am_q19 {v : Int32} {t : Nat} (hi : P.1 M pc = some (19, a, b, c, x, nx, tab)) (h : am_sw tab b v = t) (k : am_R P d M t ls st S o S') : am_R P d M pc ls (.int v :: st) S o S' := am_R.go hi (by decide) (by simp only [am_do, h]) k
theorem am_q20 {r : Nat} {fs : List Value} {v : Value} (hi : P.1 M pc = some (20, a, b, c, x, nx, tab)) (hc : am_fs S r = some (a, fs)) (hv : fs[b]? = some v) (k : am_R P d M nx ls (v :: st) S o S') : am_R P d M pc ls (.ref r :: st) S o S' := am_R.go hi (by decide) (by simp only [am_do, am_fs_ok hc, if_true, hv]) k
theorem am_q21 {r : Nat} {fs fs' : List Value} {v : Value} (hi : P.1 M pc = some (21, a, b, c, x, nx, tab)) (hc : am_fs S r = some (a, fs)) (hb : b < fs.length) (hf : am_fit (c % 4) v = true) (hs : fs.set b v = fs') (k : am_R P d M nx ls st (S.1.set r (.inr (.inr (a, fs'))), S.2.1, S.2.2) o S') : am_R P d M pc ls (v :: .ref r :: st) S o S' := am_R.go hi (by decide) (by simp only [am_do, am_fs_ok hc]; rw [if_pos ⟨trivial, hb, hf⟩, hs]) k
theorem am_q24 {r n : Nat} {t : Bool} {z : Int32} (hi : P.1 M pc = some (24, a, b, c, x, nx, tab)) (hc : am_arq S r = some (t, n)) (hz : Int32.ofNat n = z) (k : am_R P d M nx ls (.int z :: st) S o S') : am_R P d M pc ls (.ref r :: st) S o S' := am_R.go hi (by decide) (by simp only [am_do, am_arq_ok hc, hz]) k
theorem am_q24s {z : Int32} (hi : P.1 M pc = some (24, a, b, c, x, nx, tab)) (hn : P.2.2.2.2.1 ≤ 2048) (hz : Int32.ofNat P.2.2.2.2.1 = z) (k : am_R P d M nx ls (.int z :: st) S o S') : am_R P d M pc ls (.long 2 :: st) S o S' := am_R.go hi (by decide) (by simp only [am_do]; rw [if_neg (by decide), if_pos ⟨trivial, hn⟩, hz]) k
theorem am_q25 {r n : Nat} {t : Bool} {i v : Int32} {j : Nat} (hi : P.1 M pc = some (25, a, b, c, x, nx, tab)) (hc : am_arq S r = some (t, n)) (ht : decide (a = 1) = t) (h0 : ¬ i < 0) (hj : i.toNatClampNeg = j) (hn : j < n) (hv : am_arf S r j = v) (k : am_R P d M nx ls (.int v :: st) S o S') : am_R P d M pc ls (.int i :: .ref r :: st) S o S' := am_R.go hi (by decide) (by simp only [am_do, am_arq_ok hc]; rw [if_pos ⟨ht, h0, by rw [hj]; exact hn⟩, hj, hv]) k
theorem am_q25s {i v : Int32} {j : Nat} (hi : P.1 M pc = some (25, 0, b, c, x, nx, tab)) (h0 : ¬ i < 0) (hj : i.toNatClampNeg = j) (hn : j < P.2.2.2.2.1) (hn2 : P.2.2.2.2.1 ≤ 2048) (hv : P.2.2.2.2.2 j = v) (k : am_R P d M nx ls (.int v :: st) S o S') : am_R P d M pc ls (.int i :: .long 2 :: st) S o S' := am_R.go hi (by decide) (by simp only [am_do]; rw [if_pos ⟨trivial, trivial, h0, by rw [hj]; exact hn, hn2⟩, hj, hv]) k
theorem am_q26 {r n : Nat} {t : Bool} {i v : Int32} {j : Nat} (hi : P.1 M pc = some (26, a, b, c, x, nx, tab)) (hc : am_arq S r = some (t, n)) (ht : decide (a = 1) = t) (h0 : ¬ i < 0) (hj : i.toNatClampNeg = j) (hn : j < n) (hv : t = true → v = 0 ∨ v = 1) (k : am_R P d M nx ls st (S.1.set r (.inl (t, n, upd (am_arf S r) j v)), S.2.1, S.2.2) o S') : am_R P d M pc ls (.int v :: .int i :: .ref r :: st) S o S' := am_R.go hi (by decide) (by simp only [am_do, am_arq_ok hc]; rw [if_pos ⟨ht, h0, by rw [hj]; exact hn, hv⟩, hj]) k
theorem am_q29 (hi : P.1 M pc = some (29, a, b, c, x, nx, tab)) (k : am_R P d M nx ls (.null :: st) S o S') : am_R P d M pc ls st S o S' := am_R.go hi (by decide) rfl k
theorem am_q30 {r : Nat} {fs : List Value} (hi : P.1 M pc = some (30, a, b, c, x, nx, tab)) (hc : am_fs S r = some (a, fs)) (k : am_R P d M nx ls (.ref r :: st) S o S') : am_R P d M pc ls (.ref r :: st) S o S' := am_R.go hi (by decide) (by simp only [am_do, am_fs_ok hc, if_true]) k
theorem am_q39 {r n : Nat} {i : Int32} {j q : Nat} (hi : P.1 M pc = some (39, a, b, c, x, nx, tab)) (hc : am_rar S r = some n) (h0 : ¬ i < 0) (hj : i.toNatClampNeg = j) (hn : j < n) (hv : am_rrf S r j = some q) (k : am_R P d M nx ls (.ref q :: st) S o S') : am_R P d M pc ls (.int i :: .ref r :: st) S o S' := am_R.go hi (by decide) (by simp only [am_do, am_rar_ok hc]; rw [if_pos ⟨h0, by rw [hj]; exact hn⟩, hj, hv]; rfl) k
theorem am_q33 {v : Int32} (hi : P.1 M pc = some (33, a, b, c, x, nx, tab)) : am_R P d M pc ls [.int v] S (some (some (.int v))) S := am_R.ret hi (by decide) rfl
theorem am_q34 {v : Nat} (hi : P.1 M pc = some (34, a, b, c, x, nx, tab)) : am_R P d M pc ls [.ref v] S (some (some (.ref v))) S := am_R.ret hi (by decide) rfl
theorem am_q34n (hi : P.1 M pc = some (34, a, b, c, x, nx, tab)) : am_R P d M pc ls [.null] S (some (some .null)) S := am_R.ret hi (by decide) rfl
theorem am_q35 (hi : P.1 M pc = some (35, a, b, c, x, nx, tab)) : am_R P d M pc ls [] S (some none) S := am_R.ret hi (by decide) rfl
theorem am_q36 {v : Int32} (hi : P.1 M pc = some (36, a, b, c, x, nx, tab)) (hv : v = 0 ∨ v = 1) : am_R P d M pc ls [.int v] S (some (some (.int v))) S := am_R.ret hi (by decide) (by simp only [am_ret]; rw [if_pos hv])
/-- a call, the callee's locals and the stack behind it named -/
theorem am_q32 {S1 : am_S} {v : Option Value} {as rest : List Value} {la : am_V} (hi : P.1 M pc = some (32, a, b, c, x, nx, tab)) (hb : b ≤ st.length) (hb8 : st.length ≤ b + 8) (hm : b ≤ P.2.2.1 a) (has : (st.take b).reverse = as) (hr : am_recv c as S = true) (hla : am_in as (P.2.2.1 a) = la) (hrest : st.drop b = rest)
    (hc : am_R P d a 0 la [] S (some v) S1) (k : am_R P (d + 1) M nx ls (v.toList ++ rest) S1 o S') : am_R P (d + 1) M pc ls st S o S' := by
  refine am_R.call hi ⟨hb, hb8, hm, by rw [has]; exact hr⟩ (v := v) (S1 := S1) ?_ ?_
  · rw [has, hla]; exact hc
  · rw [hrest]; exact k
end AMQ
