/-! THE RULES BACKWARD: what must hold before an instruction, so that Q holds at the end (printed by wip/p2/mk26.py out of part 25) -/
def am_E (P : am_P) (d M pc : Nat) (ls : am_V) (st : List Value) (S : am_S) (Q : Option (Option Value) → am_S → Prop) : Prop := ∃ o S', am_R P d M pc ls st S o S' ∧ Q o S'
section AME
variable {P : am_P} {d M pc : Nat} {ls : am_V} {st : List Value} {S : am_S} {Q : Option (Option Value) → am_S → Prop} {a b c nx : Nat} {x : Int32} {tab : List (Int32 × Nat)}
theorem am_e0 (hi : P.1 M pc = some (0, a, b, c, x, nx, tab)) (k : am_E P d M nx ls (.int x :: st) S Q) : am_E P d M pc ls st S Q := by
  obtain ⟨o, S', r, q⟩ := k
  exact ⟨o, S', am_q0 hi r, q⟩
theorem am_e1 {v : Int32} (hi : P.1 M pc = some (1, a, b, c, x, nx, tab)) (h : ls[a]? = some (some (.int v))) (k : am_E P d M nx ls (.int v :: st) S Q) : am_E P d M pc ls st S Q := by
  obtain ⟨o, S', r, q⟩ := k
  exact ⟨o, S', am_q1 hi h r, q⟩
theorem am_e2 {v : Nat} (hi : P.1 M pc = some (2, a, b, c, x, nx, tab)) (h : ls[a]? = some (some (.ref v))) (k : am_E P d M nx ls (.ref v :: st) S Q) : am_E P d M pc ls st S Q := by
  obtain ⟨o, S', r, q⟩ := k
  exact ⟨o, S', am_q2 hi h r, q⟩
theorem am_e2l {v : Int64} (hi : P.1 M pc = some (2, a, b, c, x, nx, tab)) (h : ls[a]? = some (some (.long v))) (k : am_E P d M nx ls (.long v :: st) S Q) : am_E P d M pc ls st S Q := by
  obtain ⟨o, S', r, q⟩ := k
  exact ⟨o, S', am_q2l hi h r, q⟩
theorem am_e2n (hi : P.1 M pc = some (2, a, b, c, x, nx, tab)) (h : ls[a]? = some (some .null)) (k : am_E P d M nx ls (.null :: st) S Q) : am_E P d M pc ls st S Q := by
  obtain ⟨o, S', r, q⟩ := k
  exact ⟨o, S', am_q2n hi h r, q⟩
theorem am_e3 {v : Int32} {ls' : am_V} (hi : P.1 M pc = some (3, a, b, c, x, nx, tab)) (hn : a < ls.length) (hl : ls.set a (some (.int v)) = ls') (k : am_E P d M nx ls' st S Q) : am_E P d M pc ls (.int v :: st) S Q := by
  obtain ⟨o, S', r, q⟩ := k
  exact ⟨o, S', am_q3 hi hn hl r, q⟩
theorem am_e4 {v : Nat} {ls' : am_V} (hi : P.1 M pc = some (4, a, b, c, x, nx, tab)) (hn : a < ls.length) (hl : ls.set a (some (.ref v)) = ls') (k : am_E P d M nx ls' st S Q) : am_E P d M pc ls (.ref v :: st) S Q := by
  obtain ⟨o, S', r, q⟩ := k
  exact ⟨o, S', am_q4 hi hn hl r, q⟩
theorem am_e4n {ls' : am_V} (hi : P.1 M pc = some (4, a, b, c, x, nx, tab)) (hn : a < ls.length) (hl : ls.set a (some .null) = ls') (k : am_E P d M nx ls' st S Q) : am_E P d M pc ls (.null :: st) S Q := by
  obtain ⟨o, S', r, q⟩ := k
  exact ⟨o, S', am_q4n hi hn hl r, q⟩
theorem am_e5 {v z : Int32} {ls' : am_V} (hi : P.1 M pc = some (5, a, b, c, x, nx, tab)) (h : ls[a]? = some (some (.int v))) (hz : v + x = z) (hl : ls.set a (some (.int z)) = ls') (k : am_E P d M nx ls' st S Q) : am_E P d M pc ls st S Q := by
  obtain ⟨o, S', r, q⟩ := k
  exact ⟨o, S', am_q5 hi h hz hl r, q⟩
theorem am_e7 {v : Nat} (hi : P.1 M pc = some (7, a, b, c, x, nx, tab)) (k : am_E P d M nx ls (.ref v :: .ref v :: st) S Q) : am_E P d M pc ls (.ref v :: st) S Q := by
  obtain ⟨o, S', r, q⟩ := k
  exact ⟨o, S', am_q7 hi r, q⟩
theorem am_e7i {v : Int32} (hi : P.1 M pc = some (7, a, b, c, x, nx, tab)) (k : am_E P d M nx ls (.int v :: .int v :: st) S Q) : am_E P d M pc ls (.int v :: st) S Q := by
  obtain ⟨o, S', r, q⟩ := k
  exact ⟨o, S', am_q7i hi r, q⟩
theorem am_e6i {v : Int32} (hi : P.1 M pc = some (6, a, b, c, x, nx, tab)) (k : am_E P d M nx ls st S Q) : am_E P d M pc ls (.int v :: st) S Q := by
  obtain ⟨o, S', r, q⟩ := k
  exact ⟨o, S', am_q6i hi r, q⟩
theorem am_e9 {v w : Value} (hi : P.1 M pc = some (9, a, b, c, x, nx, tab)) (k : am_E P d M nx ls (v :: w :: v :: st) S Q) : am_E P d M pc ls (v :: w :: st) S Q := by
  obtain ⟨o, S', r, q⟩ := k
  exact ⟨o, S', am_q9 hi r, q⟩
theorem am_e10 {v w z : Int32} (hi : P.1 M pc = some (10, a, b, c, x, nx, tab)) (hz : am_bin a v w = z) (k : am_E P d M nx ls (.int z :: st) S Q) : am_E P d M pc ls (.int w :: .int v :: st) S Q := by
  obtain ⟨o, S', r, q⟩ := k
  exact ⟨o, S', am_q10 hi hz r, q⟩
theorem am_e11 {v z : Int32} (hi : P.1 M pc = some (11, a, b, c, x, nx, tab)) (hz : -v = z) (k : am_E P d M nx ls (.int z :: st) S Q) : am_E P d M pc ls (.int v :: st) S Q := by
  obtain ⟨o, S', r, q⟩ := k
  exact ⟨o, S', am_q11 hi hz r, q⟩
theorem am_e12t {v : Int32} (hi : P.1 M pc = some (12, a, b, c, x, nx, tab)) (h : am_cmp a v 0 = true) (k : am_E P d M b ls st S Q) : am_E P d M pc ls (.int v :: st) S Q := by
  obtain ⟨o, S', r, q⟩ := k
  exact ⟨o, S', am_q12t hi h r, q⟩
theorem am_e12f {v : Int32} (hi : P.1 M pc = some (12, a, b, c, x, nx, tab)) (h : am_cmp a v 0 = false) (k : am_E P d M nx ls st S Q) : am_E P d M pc ls (.int v :: st) S Q := by
  obtain ⟨o, S', r, q⟩ := k
  exact ⟨o, S', am_q12f hi h r, q⟩
theorem am_e13t {v w : Int32} (hi : P.1 M pc = some (13, a, b, c, x, nx, tab)) (h : am_cmp a v w = true) (k : am_E P d M b ls st S Q) : am_E P d M pc ls (.int w :: .int v :: st) S Q := by
  obtain ⟨o, S', r, q⟩ := k
  exact ⟨o, S', am_q13t hi h r, q⟩
theorem am_e13f {v w : Int32} (hi : P.1 M pc = some (13, a, b, c, x, nx, tab)) (h : am_cmp a v w = false) (k : am_E P d M nx ls st S Q) : am_E P d M pc ls (.int w :: .int v :: st) S Q := by
  obtain ⟨o, S', r, q⟩ := k
  exact ⟨o, S', am_q13f hi h r, q⟩
theorem am_e14r {v : Nat} (hi : P.1 M pc = some (14, a, b, c, x, nx, tab)) (k : am_E P d M nx ls st S Q) : am_E P d M pc ls (.ref v :: st) S Q := by
  obtain ⟨o, S', r, q⟩ := k
  exact ⟨o, S', am_q14r hi r, q⟩
theorem am_e14n (hi : P.1 M pc = some (14, a, b, c, x, nx, tab)) (k : am_E P d M b ls st S Q) : am_E P d M pc ls (.null :: st) S Q := by
  obtain ⟨o, S', r, q⟩ := k
  exact ⟨o, S', am_q14n hi r, q⟩
theorem am_e15r {v : Nat} (hi : P.1 M pc = some (15, a, b, c, x, nx, tab)) (k : am_E P d M b ls st S Q) : am_E P d M pc ls (.ref v :: st) S Q := by
  obtain ⟨o, S', r, q⟩ := k
  exact ⟨o, S', am_q15r hi r, q⟩
theorem am_e15n (hi : P.1 M pc = some (15, a, b, c, x, nx, tab)) (k : am_E P d M nx ls st S Q) : am_E P d M pc ls (.null :: st) S Q := by
  obtain ⟨o, S', r, q⟩ := k
  exact ⟨o, S', am_q15n hi r, q⟩
theorem am_e18 (hi : P.1 M pc = some (18, a, b, c, x, nx, tab)) (k : am_E P d M b ls st S Q) : am_E P d M pc ls st S Q := by
  obtain ⟨o, S', r, q⟩ := k
  exact ⟨o, S', am_q18 hi r, q⟩
theorem am_e19 {v : Int32} {t : Nat} (hi : P.1 M pc = some (19, a, b, c, x, nx, tab)) (h : am_sw tab b v = t) (k : am_E P d M t ls st S Q) : am_E P d M pc ls (.int v :: st) S Q := by
  obtain ⟨o, S', r, q⟩ := k
  exact ⟨o, S', am_q19 hi h r, q⟩
theorem am_e20 {r : Nat} {fs : List Value} {v : Value} (hi : P.1 M pc = some (20, a, b, c, x, nx, tab)) (hc : am_fs S r = some (a, fs)) (hv : fs[b]? = some v) (k : am_E P d M nx ls (v :: st) S Q) : am_E P d M pc ls (.ref r :: st) S Q := by
  obtain ⟨o, S', r, q⟩ := k
  exact ⟨o, S', am_q20 hi hc hv r, q⟩
theorem am_e21 {r : Nat} {fs fs' : List Value} {v : Value} (hi : P.1 M pc = some (21, a, b, c, x, nx, tab)) (hc : am_fs S r = some (a, fs)) (hb : b < fs.length) (hf : am_fit (c % 4) v = true) (hs : fs.set b v = fs') (k : am_E P d M nx ls st (S.1.set r (.inr (.inr (a, fs'))), S.2.1, S.2.2) Q) : am_E P d M pc ls (v :: .ref r :: st) S Q := by
  obtain ⟨o, S', r, q⟩ := k
  exact ⟨o, S', am_q21 hi hc hb hf hs r, q⟩
theorem am_e24 {r n : Nat} {t : Bool} {z : Int32} (hi : P.1 M pc = some (24, a, b, c, x, nx, tab)) (hc : am_arq S r = some (t, n)) (hz : Int32.ofNat n = z) (k : am_E P d M nx ls (.int z :: st) S Q) : am_E P d M pc ls (.ref r :: st) S Q := by
  obtain ⟨o, S', r, q⟩ := k
  exact ⟨o, S', am_q24 hi hc hz r, q⟩
theorem am_e24s {z : Int32} (hi : P.1 M pc = some (24, a, b, c, x, nx, tab)) (hn : P.2.2.2.2.1 ≤ 2048) (hz : Int32.ofNat P.2.2.2.2.1 = z) (k : am_E P d M nx ls (.int z :: st) S Q) : am_E P d M pc ls (.long 2 :: st) S Q := by
  obtain ⟨o, S', r, q⟩ := k
  exact ⟨o, S', am_q24s hi hn hz r, q⟩
theorem am_e25 {r n : Nat} {t : Bool} {i v : Int32} {j : Nat} (hi : P.1 M pc = some (25, a, b, c, x, nx, tab)) (hc : am_arq S r = some (t, n)) (ht : decide (a = 1) = t) (h0 : ¬ i < 0) (hj : i.toNatClampNeg = j) (hn : j < n) (hv : am_arf S r j = v) (k : am_E P d M nx ls (.int v :: st) S Q) : am_E P d M pc ls (.int i :: .ref r :: st) S Q := by
  obtain ⟨o, S', r, q⟩ := k
  exact ⟨o, S', am_q25 hi hc ht h0 hj hn hv r, q⟩
theorem am_e25s {i v : Int32} {j : Nat} (hi : P.1 M pc = some (25, 0, b, c, x, nx, tab)) (h0 : ¬ i < 0) (hj : i.toNatClampNeg = j) (hn : j < P.2.2.2.2.1) (hn2 : P.2.2.2.2.1 ≤ 2048) (hv : P.2.2.2.2.2 j = v) (k : am_E P d M nx ls (.int v :: st) S Q) : am_E P d M pc ls (.int i :: .long 2 :: st) S Q := by
  obtain ⟨o, S', r, q⟩ := k
  exact ⟨o, S', am_q25s hi h0 hj hn hn2 hv r, q⟩
theorem am_e26 {r n : Nat} {t : Bool} {i v : Int32} {j : Nat} (hi : P.1 M pc = some (26, a, b, c, x, nx, tab)) (hc : am_arq S r = some (t, n)) (ht : decide (a = 1) = t) (h0 : ¬ i < 0) (hj : i.toNatClampNeg = j) (hn : j < n) (hv : t = true → v = 0 ∨ v = 1) (k : am_E P d M nx ls st (S.1.set r (.inl (t, n, upd (am_arf S r) j v)), S.2.1, S.2.2) Q) : am_E P d M pc ls (.int v :: .int i :: .ref r :: st) S Q := by
  obtain ⟨o, S', r, q⟩ := k
  exact ⟨o, S', am_q26 hi hc ht h0 hj hn hv r, q⟩
theorem am_e29 (hi : P.1 M pc = some (29, a, b, c, x, nx, tab)) (k : am_E P d M nx ls (.null :: st) S Q) : am_E P d M pc ls st S Q := by
  obtain ⟨o, S', r, q⟩ := k
  exact ⟨o, S', am_q29 hi r, q⟩
theorem am_e30 {r : Nat} {fs : List Value} (hi : P.1 M pc = some (30, a, b, c, x, nx, tab)) (hc : am_fs S r = some (a, fs)) (k : am_E P d M nx ls (.ref r :: st) S Q) : am_E P d M pc ls (.ref r :: st) S Q := by
  obtain ⟨o, S', r, q⟩ := k
  exact ⟨o, S', am_q30 hi hc r, q⟩
theorem am_e39 {r n : Nat} {i : Int32} {j q : Nat} (hi : P.1 M pc = some (39, a, b, c, x, nx, tab)) (hc : am_rar S r = some n) (h0 : ¬ i < 0) (hj : i.toNatClampNeg = j) (hn : j < n) (hv : am_rrf S r j = some q) (k : am_E P d M nx ls (.ref q :: st) S Q) : am_E P d M pc ls (.int i :: .ref r :: st) S Q := by
  obtain ⟨o, S', r, q⟩ := k
  exact ⟨o, S', am_q39 hi hc h0 hj hn hv r, q⟩
theorem am_e33 {v : Int32} (hi : P.1 M pc = some (33, a, b, c, x, nx, tab)) (hq : Q (some (some (.int v))) S) : am_E P d M pc ls [.int v] S Q := ⟨_, _, am_q33 hi, hq⟩
theorem am_e34 {v : Nat} (hi : P.1 M pc = some (34, a, b, c, x, nx, tab)) (hq : Q (some (some (.ref v))) S) : am_E P d M pc ls [.ref v] S Q := ⟨_, _, am_q34 hi, hq⟩
theorem am_e34n (hi : P.1 M pc = some (34, a, b, c, x, nx, tab)) (hq : Q (some (some .null)) S) : am_E P d M pc ls [.null] S Q := ⟨_, _, am_q34n hi, hq⟩
theorem am_e35 (hi : P.1 M pc = some (35, a, b, c, x, nx, tab)) (hq : Q (some none) S) : am_E P d M pc ls [] S Q := ⟨_, _, am_q35 hi, hq⟩
theorem am_e36 {v : Int32} (hi : P.1 M pc = some (36, a, b, c, x, nx, tab)) (hv : v = 0 ∨ v = 1) (hq : Q (some (some (.int v))) S) : am_E P d M pc ls [.int v] S Q := ⟨_, _, am_q36 hi hv, hq⟩
/-- a call that may come back or throw, where no handler is -/
theorem am_e32 {Q1 : Option (Option Value) → am_S → Prop} {as rest : List Value} {la : am_V} (hi : P.1 M pc = some (32, a, b, c, x, nx, tab)) (hh : P.2.2.2.1 M pc = none) (hb : b ≤ st.length) (hb8 : st.length ≤ b + 8) (hm : b ≤ P.2.2.1 a) (has : (st.take b).reverse = as) (hr : am_recv c as S = true) (hla : am_in as (P.2.2.1 a) = la) (hrest : st.drop b = rest)
    (hc : am_E P d a 0 la [] S Q1) (k : ∀ v S1, Q1 (some v) S1 → am_E P (d + 1) M nx ls (v.toList ++ rest) S1 Q) (kx : ∀ S1, Q1 none S1 → Q none S1) : am_E P (d + 1) M pc ls st S Q := by
  obtain ⟨o1, S1, r1, q1⟩ := hc
  cases o1 with
  | some v =>
    obtain ⟨o, S', r, q⟩ := k v S1 q1
    exact ⟨o, S', am_q32 hi hb hb8 hm has hr hla hrest r1 r, q⟩
  | none =>
    refine ⟨none, S1, ?_, kx S1 q1⟩
    refine am_R.callX hi ⟨hb, hb8, hm, by rw [has]; exact hr⟩ ?_ hh
    rw [has, hla]; exact r1
/-- a weaker end -/
theorem am_E.mono {Q1 : Option (Option Value) → am_S → Prop} (h : am_E P d M pc ls st S Q1) (hq : ∀ o S', Q1 o S' → Q o S') : am_E P d M pc ls st S Q := by
  obtain ⟨o, S', r, q⟩ := h
  exact ⟨o, S', r, hq o S' q⟩
end AME
