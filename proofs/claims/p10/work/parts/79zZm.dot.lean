/-! THE WALK OVER BOTH: dots; words with which no value begins -/
section RWD
variable {H : List hE} {L : List xR} {a : Nat} {s s' : cS} {k k' : kS} {X : List xF} {t v w : Nat} {G : List gQ}
theorem RWp.nte {p : PM} {d : Dw} {a1 a2 w w' : Int32} (h : RWp p d L a s k X) (h1 : a1 ≠ 0) (h2 : a2 ≠ 0) : RWp p d L a (c76 s a1 w).1 (k191 k a2 w').1 X := h.nto h1 h2
theorem lit_dot {q : xR} {f : xF} {r : List xF} (h : RW H L a s k (f :: r)) (hp : PB t v G k) (hq : L[a]? = some q) (hK : q.1 = 72) (ht : t + 2 * G.length + 6 ≤ 1000000) (hv : v + n25 G ≤ 1000000) : (c103 s).2 = some 1 ∧ RWp (some (v + n25 G, true)) (D0 H) L (a + 1) (c103 s).1 (kst k) (f :: r) ∧ ((kst k).2 16 (v + n25 G) = 2 ∧ (((c103 s).1.r (.i (c103 s).1.now)).toInt < 1048576 → c97 (c103 s).1 = 6) ∧ LG ((kst k).2 17 (v + n25 G)).toNatClampNeg ((c103 s).1.now - 1) (kst k)) ∧ ES t v G (kst k) ∧ (kst k).1 20 = k.1 20 ∧ ∀ w, KB t v w k (kst k) := by
  obtain ⟨e1, e2⟩ : c53 s = q.1 ∧ k183 k = q.1 := by
    rcases h.1.kd with ⟨q', q1, q2, q3, -⟩ | ⟨q1, -⟩
    · rw [hq] at q1
      cases q1
      exact ⟨q2, q3⟩
    · exact absurd (List.getElem?_eq_some_iff.mp hq).1 (by omega)
  have hl : a ≤ 16384 := by have := h.1.2.2.1.2.2; have := h.1.1.2.1; omega
  have hd := h.2.1.dot (SZ_of (by have := h.2.2.1; omega))
  obtain ⟨k1, a1, a2, a3, a4, a5⟩ := pb_24 hp (by omega)
  have h15 : k1.1 15 = xn (v + n25 G) := (a5.1 15 rfl).trans hp.2.2.2.2.1
  have hd1 : kr k1 56 (kr k1 33 (k1.1 32)) = s.b s.now 5 := by
    rw [← hd]
    unfold kr
    rw [a5.2 56 rfl, a5.2 33 rfl, a5.1 32 rfl]
  have h1 : RW H L a s k1 (f :: r) := h.fr (cFr.refl (F := 0) (T := 0) (B := 0) (G := 0)) a5
  have pl : ∀ s1 : cS, c56 s1 q.1 = 0 ∧ c57 s1 q.1 = 0 := fun s1 => by
    unfold c56 c57
    rw [hK]
    decide
  have fin : ∀ (s0 : cS) (k0 : kS), RW H L a s0 k0 (f :: r) → EA t G k0 → k0.1 10 = xn (t + 2 * G.length + 1) → k0.1 15 = xn (v + n25 G) → k0.1 20 = k.1 20 → (∀ w, KB t v w k k0) → NV v G k0 → c103 s = c103_196 (c78 s0 6 0 1 0).1 (c53 s) → kst k = kf (k190 (k189 k0 6 0 1 0).1 2 (k189 k0 6 0 1 0).2 0).1 4 ((k190 (k189 k0 6 0 1 0).1 2 (k189 k0 6 0 1 0).2 0).1.1 4 + 1) → (c103 s).2 = some 1 ∧ RWp (some (v + n25 G, true)) (D0 H) L (a + 1) (c103 s).1 (kst k) (f :: r) ∧ ((kst k).2 16 (v + n25 G) = 2 ∧ (((c103 s).1.r (.i (c103 s).1.now)).toInt < 1048576 → c97 (c103 s).1 = 6) ∧ LG ((kst k).2 17 (v + n25 G)).toNatClampNeg ((c103 s).1.now - 1) (kst k)) ∧ ES t v G (kst k) ∧ (kst k).1 20 = k.1 20 ∧ ∀ w, KB t v w k (kst k) := fun s0 k0 z1 z2 z3 z4 z5 z6 zn z7 z8 => by
    obtain ⟨l1, l2, l3, l4, l5, l6⟩ := lit_k (x := 2) (y := (k189 k0 6 0 1 0).2) (z := 0) z2 z3 z4 hv zn (fr_k189 k0 6 0 1 0)
    rw [← z8] at l1 l2 l3 l4 l5 l6
    have h2 := (z1.cle (x := 6) (y := 0) (z := 1) (u := 0)).put (x := 6) (y := 0) (z := 1) (u := 0)
    have hk2 : kFr 32784 458752 (k189 k0 6 0 1 0).1 (kf (k190 (k189 k0 6 0 1 0).1 2 (k189 k0 6 0 1 0).2 0).1 4 ((k190 (k189 k0 6 0 1 0).1 2 (k189 k0 6 0 1 0).2 0).1.1 4 + 1)) := kFr.sf (kFr.sf (kFr.sa (kFr.sa (kFr.sa kFr.refl rfl) rfl) rfl) rfl) rfl
    obtain ⟨p1, p2⟩ := h2.pl hq (pl (c78 s0 6 0 1 0).1).1 (pl (c78 s0 6 0 1 0).1).2 (cFr.refl (F := 0) (T := 0) (B := 0) (G := 0)) hk2 rfl
    rw [← z8] at p2
    obtain ⟨m1, m2⟩ := lit_c (K := c53 s) p1
    rw [e1, hK, if_neg (show ¬ (72 : Int32) ≠ 72 from fun z => z rfl)] at m2
    have m2' : (c103 s).2 = some 1 := by
      rw [z7, e1, hK]
      exact m2
    refine ⟨m2', ?_⟩
    rw [z7, m1]
    obtain ⟨R, -, nr⟩ := z1.2.2.2.2.2.2.2
    obtain ⟨o1, o2, -, -⟩ := own_k z1.2.1 z1.szn
    refine ⟨(p2.de0 rfl).los (Or.inr (Or.inr l5)), ⟨l5, fun hl => c97_78 (nr.1 _) (by
      have z : ((c78 s0 6 0 1 0).1.r (.i (c78 s0 6 0 1 0).1.now)).toInt < 1048576 := hl
      rw [c78_now] at z
      exact z), ?_⟩, l1, (l4.1 20 rfl).trans z5, fun w => (z6 w).trans (l3 w)⟩
    have en : (nf (c78 s0 6 0 1 0).1 2 2 (xn (a + 1))).now = f.1 := by
      show (c78 s0 6 0 1 0).1.now = _
      rw [c78_now]
      exact o2
    rw [l6, en, z8]
    exact (k189_g nr o1).lg.fr hk2 rfl rfl
  have hu : k185 k1 (k183 k) = 0 := by
    rw [e2, hK]
    unfold k185
    decide
  have e72 : kst k = (if kr k1 56 (kr k1 33 (k1.1 32)) ≠ 0 then k187_168 k1 else k187_168 ((k191 k1 15 (k1.1 4)).1)).1 := by
    rw [a1]
    unfold k182_14
    rw [if_pos hu, e2, hK]
    unfold k187
    rw [if_neg (by decide), if_neg (by decide), if_neg (by decide), if_neg (by decide), if_neg (by decide), if_neg (by decide), if_neg (by decide), if_pos rfl]
  have c72' : c103 s = if s.b s.now 5 ≠ 0 then c103_173 s (c53 s) else c103_173 ((c76 s 15 (c63 s)).1) (c53 s) := by
    unfold c103
    rw [e1, hK, if_neg (by decide), if_neg (by decide), if_neg (by decide), if_neg (by decide), if_neg (by decide), if_pos rfl]
  have b1 : ∀ w, KB t v w k k1 := fun w => (a4 w).mono (by omega) (Nat.le_refl _) (Nat.le_refl _)
  have n1 : NV v G k1 := NV.same hp.2.2.2.2.2 (a5.2 16 rfl)
  by_cases c : s.b s.now 5 = 0
  · have fk := fr_k191 k1 15 (k1.1 4)
    refine fin (c76 s 15 (c63 s)).1 (k191 k1 15 (k1.1 4)).1 (h1.nte (by decide) (by decide)) (a2.same (fk.2 11 (Nat.zero_testBit _)) (fk.2 12 (Nat.zero_testBit _)) (fk.2 13 (Nat.zero_testBit _))) ((fk.1 10 rfl).trans a3) ((fk.1 15 rfl).trans h15) ((fk.1 20 rfl).trans (a5.1 20 rfl)) (fun w => (b1 w).trans (KB.fr fk rfl)) (n1.same (fk.2 16 (Nat.zero_testBit _))) ?_ ?_
    · rw [c72', if_neg (fun z => z c)]
      rfl
    · rw [e72, if_neg (by rw [hd1]; exact fun z => z c)]
      rfl
  · refine fin s k1 h1 a2 a3 h15 (a5.1 20 rfl) b1 n1 ?_ ?_
    · rw [c72', if_pos c]
      rfl
    · rw [e72, if_pos (by rw [hd1]; exact c)]
      rfl
/-- no value begins here: both refuse -/
theorem lit_no (h : RW H L a s k X) (hp : PB t v G k) (hu : c72 s (c53 s) = 0) (hn : ∀ K : Int32, (K = 1 ∨ K = 2 ∨ K = 3 ∨ K = 16 ∨ K = 18 ∨ K = 23 ∨ K = 29 ∨ K = 60 ∨ K = 62 ∨ K = 72) → c53 s ≠ K) (ht : t + 2 * G.length + 6 ≤ 1000000) : (c103 s).2 = none ∧ (kst k).1 6 ≠ 0 := by
  obtain ⟨k1, a1, a2, a3, a4, a5⟩ := pb_24 hp (by omega)
  have nk : ∀ K : Int32, (K = 1 ∨ K = 2 ∨ K = 3 ∨ K = 16 ∨ K = 18 ∨ K = 23 ∨ K = 29 ∨ K = 60 ∨ K = 62 ∨ K = 72) → k183 k ≠ K := fun K hK z => by
    have h0 : K ≠ 0 ∧ K ≠ -1 := by rcases hK with y | y | y | y | y | y | y | y | y | y <;> rw [y] <;> decide
    exact hn K hK ((h.1.is h0.1 h0.2).mpr z)
  have hu' : k185 k1 (k183 k) = 0 := by
    rcases un_kd h.1 with z | z
    · exact z.2
    · exact absurd hu z.1
  constructor
  · unfold c103
    rw [if_neg (hn 2 (by decide)), if_neg (hn 3 (by decide)), if_neg (hn 16 (by decide)), if_neg (hn 23 (by decide)), if_neg (hn 29 (by decide)), if_neg (hn 72 (by decide)), cbd_none rfl]
    rfl
  · have e : kst k = (k201 (k179 k1 28 0 0 0).1).1 := by
      rw [a1]
      unfold k182_14
      rw [if_pos hu']
      unfold k187
      rw [if_neg (nk 2 (by decide)), if_neg (nk 3 (by decide)), if_neg (nk 16 (by decide)), if_neg (nk 18 (by decide)), if_neg (nk 23 (by decide)), if_neg (nk 29 (by decide)), if_neg (nk 62 (by decide)), if_neg (nk 72 (by decide))]
    have e183 : k183 (k179 k1 28 0 0 0).1 = k183 k := by
      unfold k183 k184 kr
      show (if k1.1 0 ≤ k1.1 4 then (-1) else k1.2 1 (k1.1 4).toNatClampNeg) = _
      rw [a5.1 0 rfl, a5.1 4 rfl, a5.2 1 rfl]
    have e6 : (k179 k1 28 0 0 0).1.1 6 = 0 := by
      show k1.1 6 = 0
      rw [a5.1 6 rfl]
      exact h.1.2.2.2.2
    rw [e]
    generalize (k179 k1 28 0 0 0).1 = k2 at e183 e6
    unfold k201
    rw [if_pos (by rw [e183]; exact nk 1 (by decide))]
    unfold k193
    rw [if_neg (by rw [e183]; exact nk 60 (by decide))]
    have e194 : (k194 k2 7).1.1 6 = 7 := by
      unfold k194
      rw [if_neg (fun z => z e6)]
      rfl
    have e194b : (k194 k2 7).2 = 0 := by
      unfold k194
      split <;> rfl
    unfold k201_37
    rw [if_pos e194b]
    show (k194 k2 7).1.1 6 ≠ 0
    rw [e194]
    decide
end RWD
