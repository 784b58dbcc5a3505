/-! RULES OF RUNS FOR THE CLASS -/
section LCR
variable {P : am_P} {N d M pc : Nat} {ls : am_V} {st : List Value} {S : am_S} {Q : Option (Option Value) → am_S → Prop} {a b c nx : Nat} {x : Int32} {tab : List (Int32 × Nat)}
theorem l2n (hi : P.1 M pc = some (2, a, b, c, x, nx, tab)) (h : ls[a]? = some (some .null)) (k : am_L P N d M nx ls (.null :: st) S Q) : am_L P N d M pc ls st S Q := l_eq hi (by decide) (by simp only [am_do, h]) k
theorem l2l {z : Int64} (hi : P.1 M pc = some (2, a, b, c, x, nx, tab)) (h : ls[a]? = some (some (.long z))) (k : am_L P N d M nx ls (.long z :: st) S Q) : am_L P N d M pc ls st S Q := l_eq hi (by decide) (by simp only [am_do, h]) k
theorem l4 {v : Nat} {ls' : am_V} (hi : P.1 M pc = some (4, a, b, c, x, nx, tab)) (hn : a < ls.length) (hl : ls.set a (some (.ref v)) = ls') (k : am_L P N d M nx ls' st S Q) : am_L P N d M pc ls (.ref v :: st) S Q := l_eq hi (by decide) (by simp only [am_do]; rw [if_pos hn, hl]) k
theorem l4l {v : Int64} {ls' : am_V} (hi : P.1 M pc = some (4, a, b, c, x, nx, tab)) (hn : a < ls.length) (hl : ls.set a (some (.long v)) = ls') (k : am_L P N d M nx ls' st S Q) : am_L P N d M pc ls (.long v :: st) S Q := l_eq hi (by decide) (by simp only [am_do]; rw [if_pos hn, hl]) k
theorem l6r {v : Nat} (hi : P.1 M pc = some (6, a, b, c, x, nx, tab)) (k : am_L P N d M nx ls st S Q) : am_L P N d M pc ls (.ref v :: st) S Q := l_eq hi (by decide) rfl k
theorem l16y {z : Int64} (hi : P.1 M pc = some (16, a, b, c, x, nx, tab)) (k : am_L P N d M b ls st S Q) : am_L P N d M pc ls (.long z :: .long z :: st) S Q := l_eq hi (by decide) (by simp only [am_do, if_true]) k
theorem l16n {z : Nat} (hi : P.1 M pc = some (16, a, b, c, x, nx, tab)) (k : am_L P N d M nx ls st S Q) : am_L P N d M pc ls (.long 0 :: .ref z :: st) S Q := l_eq hi (by decide) (by simp only [am_do, if_true]) k
theorem l17 {z y : Int64} (hi : P.1 M pc = some (17, a, b, c, x, nx, tab)) (k : am_L P N d M nx ls st S Q) : am_L P N d M pc ls (.long z :: .long y :: st) S Q := l_do hi (by decide) (fun pc' ls' st' S1 h => by
  simp only [am_do] at h
  split at h
  · cases h; exact k
  · cases h)
theorem l20r {k : Nat} {fs : List Value} {v : Value} (hi : P.1 M pc = some (20, a, b, c, x, nx, tab)) (hF : am_fs S k = some (a, fs)) (hv : fs[b]? = some v) (K : am_L P N d M nx ls (v :: st) S Q) : am_L P N d M pc ls (.ref k :: st) S Q := l_eq hi (by decide) (by simp only [am_do, am_fs_ok hF, if_true, hv]) K
theorem l21r {k : Nat} {fs : List Value} {v : Value} (hi : P.1 M pc = some (21, a, b, c, x, nx, tab)) (hF : am_fs S k = some (a, fs)) (K : am_fit (c % 4) v = true → am_L P N d M nx ls st (cm_so S k (a, fs.set b v)) Q) : am_L P N d M pc ls (v :: .ref k :: st) S Q := l_do hi (by decide) (fun pc' ls' st' S1 h => by
  simp only [am_do, am_fs_ok hF] at h
  split at h
  · rename_i hc
    cases h
    exact K hc.2.2
  · cases h)
theorem l22 (hi : P.1 M pc = some (22, a, b, c, x, nx, tab)) (K : am_L P N d M nx ls (.ref S.1.length :: st) (S.1 ++ [.inr (.inr (a, P.2.1 a))], S.2.1 + 1, S.2.2 + (P.2.1 a).length) Q) : am_L P N d M pc ls st S Q := l_eq hi (by decide) (by simp only [am_do]) K
theorem l23 {v : Int32} (hi : P.1 M pc = some (23, a, b, c, x, nx, tab)) (K : 0 ≤ v.toInt → v.toInt ≤ 16777216 → am_L P N d M nx ls (.ref S.1.length :: st) (S.1 ++ [.inl (decide (a = 1), v.toNatClampNeg, fun _ => 0)], S.2.1 + 1, S.2.2 + v.toNatClampNeg) Q) : am_L P N d M pc ls (.int v :: st) S Q := l_do hi (by decide) (fun pc' ls' st' S1 h => by
  simp only [am_do] at h
  split at h
  · rename_i hc
    cases h
    have e : (0 : Int32).toInt = 0 := rfl
    have h1 := hc.1
    rw [Int32.lt_iff_toInt_lt] at h1
    have h2 : v.toNatClampNeg = v.toInt.toNat := rfl
    exact K (by omega) (by have := hc.2; omega)
  · cases h)
theorem l24 {k n : Nat} {t : Bool} {f : Nat → Int32} (hi : P.1 M pc = some (24, a, b, c, x, nx, tab)) (hk : S.1[k]? = some (.inl (t, n, f))) (K : am_L P N d M nx ls (.int (Int32.ofNat n) :: st) S Q) : am_L P N d M pc ls (.ref k :: st) S Q := l_eq hi (by decide) (by simp only [am_do, hk]) K
theorem l24r {k n : Nat} {f : Nat → Option Nat} (hi : P.1 M pc = some (24, a, b, c, x, nx, tab)) (hk : S.1[k]? = some (.inr (.inl (n, f)))) (K : am_L P N d M nx ls (.int (Int32.ofNat n) :: st) S Q) : am_L P N d M pc ls (.ref k :: st) S Q := l_eq hi (by decide) (by simp only [am_do, hk]) K
theorem l24l (hi : P.1 M pc = some (24, a, b, c, x, nx, tab)) (K : am_L P N d M nx ls (.int 0 :: st) S Q) : am_L P N d M pc ls (.long 0 :: st) S Q := l_eq hi (by decide) (by simp only [am_do, if_true]) K
theorem l25r {k n : Nat} {t : Bool} {f : Nat → Int32} {i : Int32} (hi : P.1 M pc = some (25, a, b, c, x, nx, tab)) (hk : S.1[k]? = some (.inl (t, n, f))) (K : 0 ≤ i.toInt → i.toInt < n → am_L P N d M nx ls (.int (f i.toNatClampNeg) :: st) S Q) : am_L P N d M pc ls (.int i :: .ref k :: st) S Q := l_do hi (by decide) (fun pc' ls' st' S1 h => by
  simp only [am_do, hk] at h
  split at h
  · rename_i hc
    cases h
    have e : (0 : Int32).toInt = 0 := rfl
    have h1 := hc.2.1
    rw [Int32.lt_iff_toInt_lt] at h1
    have h2 : i.toNatClampNeg = i.toInt.toNat := rfl
    exact K (by omega) (by have := hc.2.2; omega)
  · cases h)
def cm_sa (S : am_S) (k : Nat) (t : Bool) (n : Nat) (f : Nat → Int32) : am_S := (S.1.set k (.inl (t, n, f)), S.2.1, S.2.2)
theorem l26r {k n : Nat} {t : Bool} {f : Nat → Int32} {i v : Int32} (hi : P.1 M pc = some (26, a, b, c, x, nx, tab)) (hk : S.1[k]? = some (.inl (t, n, f))) (K : 0 ≤ i.toInt → i.toInt < n → am_L P N d M nx ls st (cm_sa S k t n (upd f i.toNatClampNeg v)) Q) : am_L P N d M pc ls (.int v :: .int i :: .ref k :: st) S Q := l_do hi (by decide) (fun pc' ls' st' S1 h => by
  simp only [am_do, hk] at h
  split at h
  · rename_i hc
    cases h
    have e : (0 : Int32).toInt = 0 := rfl
    have h1 := hc.2.1
    rw [Int32.lt_iff_toInt_lt] at h1
    have h2 : i.toNatClampNeg = i.toInt.toNat := rfl
    exact K (by omega) (by have := hc.2.2.1; omega)
  · cases h)
theorem l29 (hi : P.1 M pc = some (29, a, b, c, x, nx, tab)) (k : am_L P N d M nx ls (.null :: st) S Q) : am_L P N d M pc ls st S Q := l_eq hi (by decide) rfl k
theorem l30 {r : Nat} (hi : P.1 M pc = some (30, a, b, c, x, nx, tab)) (K : am_L P N d M nx ls (.ref r :: st) S Q) : am_L P N d M pc ls (.ref r :: st) S Q := l_do hi (by decide) (fun pc' ls' st' S1 h => by
  simp only [am_do] at h
  split at h
  · split at h
    · cases h; exact K
    · cases h
  · cases h)
theorem l31 {r : Nat} (hi : P.1 M pc = some (31, a, b, c, x, nx, tab)) (K : am_L P N d M nx ls st S Q) : am_L P N d M pc ls (.ref r :: st) S Q := l_do hi (by decide) (fun pc' ls' st' S1 h => by
  simp only [am_do] at h
  split at h
  · cases h; exact K
  · cases h)
theorem l34 {v : Nat} (hi : P.1 M pc = some (34, a, b, c, x, nx, tab)) (hq : Q (some (some (.ref v))) S) : am_L P N d M pc ls [.ref v] S Q := l_ret hi (by decide) (fun w h => by cases h; exact hq)
theorem l34n (hi : P.1 M pc = some (34, a, b, c, x, nx, tab)) (hq : Q (some (some .null)) S) : am_L P N d M pc ls [.null] S Q := l_ret hi (by decide) (fun w h => by cases h; exact hq)
theorem l37 (hi : P.1 M pc = some (37, a, b, c, x, nx, tab)) (hq : Q none (S.1, S.2.1 + 1, S.2.2 + 6)) : am_L P N d M pc ls st S Q := by
  intro n hn o S' h
  cases n with
  | zero => simp [am_run] at h
  | succ n =>
    rw [am_run, hi] at h
    dsimp only at h
    rw [if_neg (by decide), if_pos rfl] at h
    split at h
    · cases h; exact hq
    · cases h
theorem l38 {v : Int32} (hi : P.1 M pc = some (38, a, b, c, x, nx, tab)) (K : 0 ≤ v.toInt → v.toInt ≤ 16777216 → am_L P N d M nx ls (.ref S.1.length :: st) (S.1 ++ [.inr (.inl (v.toNatClampNeg, fun _ => none))], S.2.1 + 1, S.2.2 + v.toNatClampNeg) Q) : am_L P N d M pc ls (.int v :: st) S Q := l_do hi (by decide) (fun pc' ls' st' S1 h => by
  simp only [am_do] at h
  split at h
  · rename_i hc
    cases h
    have e : (0 : Int32).toInt = 0 := rfl
    have h1 := hc.1
    rw [Int32.lt_iff_toInt_lt] at h1
    have h2 : v.toNatClampNeg = v.toInt.toNat := rfl
    exact K (by omega) (by have := hc.2; omega)
  · cases h)
theorem l39 {k n : Nat} {f : Nat → Option Nat} {i : Int32} (hi : P.1 M pc = some (39, a, b, c, x, nx, tab)) (hk : S.1[k]? = some (.inr (.inl (n, f)))) (K : 0 ≤ i.toInt → i.toInt < n → am_L P N d M nx ls (va_rf (f i.toNatClampNeg) :: st) S Q) : am_L P N d M pc ls (.int i :: .ref k :: st) S Q := l_do hi (by decide) (fun pc' ls' st' S1 h => by
  simp only [am_do, hk] at h
  split at h
  · rename_i hc
    cases h
    have e : (0 : Int32).toInt = 0 := rfl
    have h1 := hc.1
    rw [Int32.lt_iff_toInt_lt] at h1
    have h2 : i.toNatClampNeg = i.toInt.toNat := rfl
    exact K (by omega) (by have := hc.2; omega)
  · cases h)
def cm_sr (S : am_S) (k n : Nat) (f : Nat → Option Nat) : am_S := (S.1.set k (.inr (.inl (n, f))), S.2.1, S.2.2)
theorem l40 {k n v : Nat} {f : Nat → Option Nat} {i : Int32} (hi : P.1 M pc = some (40, a, b, c, x, nx, tab)) (hk : S.1[k]? = some (.inr (.inl (n, f)))) (K : 0 ≤ i.toInt → i.toInt < n → am_L P N d M nx ls st (cm_sr S k n (va_up f i.toNatClampNeg (some v))) Q) : am_L P N d M pc ls (.ref v :: .int i :: .ref k :: st) S Q := l_do hi (by decide) (fun pc' ls' st' S1 h => by
  simp only [am_do, hk] at h
  split at h
  · rename_i e1 e2
    cases e2
    split at h
    · rename_i hc
      cases h
      have e : (0 : Int32).toInt = 0 := rfl
      have h1 := hc.2.1
      rw [Int32.lt_iff_toInt_lt] at h1
      have h2 : i.toNatClampNeg = i.toInt.toNat := rfl
      exact K (by omega) (by have := hc.2.2; omega)
    · cases h
  · cases h)
theorem l40n {k n : Nat} {f : Nat → Option Nat} {i : Int32} (hi : P.1 M pc = some (40, a, b, c, x, nx, tab)) (hk : S.1[k]? = some (.inr (.inl (n, f)))) (K : 0 ≤ i.toInt → i.toInt < n → am_L P N d M nx ls st (cm_sr S k n (va_up f i.toNatClampNeg none)) Q) : am_L P N d M pc ls (.null :: .int i :: .ref k :: st) S Q := l_do hi (by decide) (fun pc' ls' st' S1 h => by
  simp only [am_do, hk] at h
  split at h
  · rename_i hc
    cases h
    have e : (0 : Int32).toInt = 0 := rfl
    have h1 := hc.1
    rw [Int32.lt_iff_toInt_lt] at h1
    have h2 : i.toNatClampNeg = i.toInt.toNat := rfl
    exact K (by omega) (by have := hc.2; omega)
  · cases h)
theorem l41 {k0 k1 n0 n1 : Nat} {f g : Nat → Int32} {sp dp n : Int32} (hi : P.1 M pc = some (41, a, b, c, x, nx, tab)) (h0 : S.1[k0]? = some (.inl (false, n0, f))) (h1 : S.1[k1]? = some (.inl (false, n1, g))) (K : 0 ≤ n.toInt → am_L P N d M nx ls st (cm_sa S k1 false n1 (va_cpy f g sp.toNatClampNeg dp.toNatClampNeg n.toNatClampNeg)) Q) : am_L P N d M pc ls (.int n :: .int dp :: .ref k1 :: .int sp :: .ref k0 :: st) S Q := l_do hi (by decide) (fun pc' ls' st' S1 h => by
  simp only [am_do, h0, h1] at h
  split at h
  · rename_i hc
    cases h
    have e : (0 : Int32).toInt = 0 := rfl
    have h1 := hc.2.2.1
    rw [Int32.lt_iff_toInt_lt] at h1
    exact K (by omega)
  · cases h)
theorem l42 {k0 k1 n0 n1 : Nat} {f g : Nat → Option Nat} {sp dp n : Int32} (hi : P.1 M pc = some (42, a, b, c, x, nx, tab)) (h0 : S.1[k0]? = some (.inr (.inl (n0, f)))) (h1 : S.1[k1]? = some (.inr (.inl (n1, g)))) (K : 0 ≤ n.toInt → am_L P N d M nx ls st (cm_sr S k1 n1 (va_cpy f g sp.toNatClampNeg dp.toNatClampNeg n.toNatClampNeg)) Q) : am_L P N d M pc ls (.int n :: .int dp :: .ref k1 :: .int sp :: .ref k0 :: st) S Q := l_do hi (by decide) (fun pc' ls' st' S1 h => by
  simp only [am_do, h0, h1] at h
  split at h
  · rename_i hc
    cases h
    have e : (0 : Int32).toInt = 0 := rfl
    have h1 := hc.2.2.1
    rw [Int32.lt_iff_toInt_lt] at h1
    exact K (by omega)
  · cases h)
theorem l43 (hi : P.1 M pc = some (43, a, b, c, x, nx, tab)) (k : am_L P N d M nx ls (.long 0 :: st) S Q) : am_L P N d M pc ls st S Q := l_eq hi (by decide) rfl k
theorem l44 {k : Nat} (hi : P.1 M pc = some (44, a, b, c, x, nx, tab)) (K : am_L P N d M nx ls (.long 1 :: st) S Q) : am_L P N d M pc ls (.ref k :: st) S Q := l_do hi (by decide) (fun pc' ls' st' S1 h => by
  simp only [am_do] at h
  split at h
  · split at h
    · cases h; exact K
    · cases h
  · cases h)
theorem l45 (hi : P.1 M pc = some (45, a, b, c, x, nx, tab)) (k : am_L P N d M nx ls (.long 1 :: st) S Q) : am_L P N d M pc ls st S Q := l_eq hi (by decide) rfl k
end LCR
section LCM
variable {P : am_P} {N d M pc : Nat} {ls : am_V} {st : List Value} {A : Nat → Nat} {K : Nat} {S : am_S} {s : cS} {Q : Option (Option Value) → am_S → Prop} {a b c nx : Nat} {x : Int32} {tab : List (Int32 × Nat)}
theorem CM.nl (h : CM A K S s) : s.now ≤ K := h.elim fun _ h => h.nl
theorem l20s {k : Nat} {v : Value} (hS : CM A K S s) (hk : (k, a) ∈ c_so) (hi : P.1 M pc = some (20, a, b, c, x, nx, tab)) (hv : (c_fl k (A s.now) (s.f k))[b]? = some v) (q : am_L P N d M nx ls (v :: st) S Q) : am_L P N d M pc ls (.ref k :: st) S Q := by
  obtain ⟨B, h⟩ := hS
  exact l20r hi (h.so k a hk) hv q
theorem l20b {y : Nat} {v : Value} (hS : CM A K S s) (hy : y ≤ K) (hi : P.1 M pc = some (20, 8, b, c, x, nx, tab)) (hv : (c_bl (A y) (s.b y))[b]? = some v) (q : am_L P N d M nx ls (v :: st) S Q) : am_L P N d M pc ls (.ref (A y) :: st) S Q := by
  obtain ⟨B, h⟩ := hS
  exact l20r hi (h.bo y hy) hv q
theorem l21s {k : Nat} {v : Int32} (hS : CM A K S s) (hk : (k, a) ∈ c_so) (hi : P.1 M pc = some (21, a, b, c, x, nx, tab)) (he : ∀ n g, (c_fl k n g).set b (.int v) = c_fl k n (upd g b v)) (q : ∀ S1, CM A K S1 (nf s k b v) → am_L P N d M nx ls st S1 Q) : am_L P N d M pc ls (.int v :: .ref k :: st) S Q := by
  obtain ⟨B, h⟩ := hS
  exact l21r hi (h.so k a hk) (fun _ => q _ ⟨B, h.num hk (he _ _)⟩)
theorem l21b {y : Nat} {v : Int32} (hS : CM A K S s) (hy : y ≤ K) (hi : P.1 M pc = some (21, 8, b, c, x, nx, tab)) (he : ∀ n g, (c_bl n g).set b (.int v) = c_bl n (upd g b v)) (q : ∀ S1, CM A K S1 (nb s y b v) → am_L P N d M nx ls st S1 Q) : am_L P N d M pc ls (.int v :: .ref (A y) :: st) S Q := by
  obtain ⟨B, h⟩ := hS
  exact l21r hi (h.bo y hy) (fun _ => q _ ⟨B, h.bnum hy (he _ _)⟩)
theorem l21n {y : Nat} (hS : CM A K S s) (hy : y ≤ K) (hi : P.1 M pc = some (21, 7, 6, c, x, nx, tab)) (q : ∀ S1, CM A K S1 (nn s y) → am_L P N d M nx ls st S1 Q) : am_L P N d M pc ls (.ref (A y) :: .ref 12 :: st) S Q := by
  obtain ⟨B, h⟩ := hS
  exact l21r hi (h.so 12 7 (by decide)) (fun _ => q _ ⟨B, h.inow hy⟩)
end LCM
