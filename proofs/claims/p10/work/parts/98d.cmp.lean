/-! COMPILE ON BOTH SIDES -/
/-- what holds between two calls: the same words, as many functions -/
def JI (L : List xR) (s : cS) (k : kS) : Prop := (TR s (.s 3) L ∧ L.length ≤ 16384 ∧ ∀ q ∈ L, q.1 ≠ 0 ∧ q.1 ≠ -1) ∧ (k.1 0 = xn L.length ∧ ∀ i q, L[i]? = some q → k.2 1 i = q.1 ∧ k.2 2 i = q.2.1) ∧ s.f 5 1 = k.1 53 ∧ OJ s k ∧ FJ s k ∧ CK s k ∧ B2 s k ∧ MB k
def CR (s : cS) : Prop := (∀ t, t ∈ c_st → 0 ≤ (s.r (.s t)).toInt) ∧ 0 ≤ (s.f 6 1).toInt
theorem CM.cr {A : Nat → Nat} {K : Nat} {S : am_S} {s : cS} (h : CM A K S s) : CR s := by
  obtain ⟨B, h⟩ := h
  refine ⟨fun t ht => ?_, by rw [h.kk]; omega⟩
  obtain ⟨k, g, -, -, h0, -⟩ := h.ar (.s t) ht
  exact h0
section CMP
variable {L : List xR} {s s1 : cS} {k : kS} {m : Nat}
theorem tct_z {t : cT} (h : 0 ≤ (s.r t).toInt) : ((tct s t 0).r t).toInt = 0 := by
  have z0 : (0 : Int32).toInt = 0 := rfl
  unfold tct
  rw [if_neg (by decide)]
  by_cases c : s.r t ≤ 0
  · rw [if_pos c]
    rw [i_le] at c
    omega
  · rw [if_neg c, nt_r]
    rfl
/-- the class's memory when a chunk begins -/
noncomputable def bgs (s : cS) : cS := tct (tct (c43 (c42 (c40 (c39 s).1).1).1).1 (.s 8) 0) (.s 10) 0
theorem tct_st (b : Nat) (h : ∀ t, t ∈ c_st → 0 ≤ (s.r (.s t)).toInt) (hb : b ∈ c_st) : (tct s (.s b) 0).f = s.f ∧ ((tct s (.s b) 0).r (.s b)).toInt = 0 ∧ (∀ t, t ≠ b → (tct s (.s b) 0).r (.s t) = s.r (.s t) ∧ (tct s (.s b) 0).c (.s t) = s.c (.s t)) ∧ ∀ t, t ∈ c_st → 0 ≤ ((tct s (.s b) 0).r (.s t)).toInt := by
  have h2 := tct_z (h b hb)
  have h3 : ∀ t, t ≠ b → (tct s (.s b) 0).r (.s t) = s.r (.s t) ∧ (tct s (.s b) 0).c (.s t) = s.c (.s t) := fun t ht => tct_r (fun z => ht (Sum.inl.inj z))
  refine ⟨tct_o.1, h2, h3, fun t ht => ?_⟩
  by_cases e : t = b
  · rw [e, h2]
    exact Int.le_refl _
  · rw [(h3 t e).1]
    exact h t ht
theorem bgs_all (h : CR s) : (bgs s).f = (nf (nf (nf (nf (nf (nf s 1 0 0) 1 1 0) 5 1 0) 2 2 0) 2 3 0) 13 1 0).f ∧ ((bgs s).r (.s 3) = s.r (.s 3) ∧ (bgs s).c (.s 3) = s.c (.s 3)) ∧ ((bgs s).r (.s 14)).toInt = 0 ∧ ((bgs s).r (.s 16)).toInt = 0 ∧ ((bgs s).r (.s 24)).toInt = 0 ∧ ((bgs s).r (.s 26)).toInt = 0 ∧ ((bgs s).r (.s 28)).toInt = 0 ∧ ((bgs s).r (.s 8)).toInt = 0 ∧ ((bgs s).r (.s 10)).toInt = 0 ∧ ((bgs s).r (.s 30)).toInt = 0 := by
  unfold bgs c43 c43_7 c43_14 c43_22 c44 c44_8 c44_16 c44_24
  dsimp only
  obtain ⟨a0, ha0⟩ : ∃ a0, a0 = (c42 (c40 (c39 s).1).1).1 := ⟨_, rfl⟩
  rw [← ha0]
  have f0 : a0.f = (nf (nf (nf (nf (nf s 1 0 0) 1 1 0) 5 1 0) 2 2 0) 2 3 0).f := by rw [ha0]; rfl
  have r0 : a0.r = s.r := by rw [ha0]; rfl
  have c0 : a0.c = s.c := by rw [ha0]; rfl
  have h0 : ∀ t, t ∈ c_st → 0 ≤ (a0.r (.s t)).toInt := by rw [r0]; exact h.1
  have q1 := tct_st (s := a0) 24 h0 (by decide)
  generalize tct a0 (.s 24) 0 = a1 at q1 ⊢
  have q2 := tct_st (s := a1) 26 q1.2.2.2 (by decide)
  generalize tct a1 (.s 26) 0 = a2 at q2 ⊢
  have q3 := tct_st (s := a2) 28 q2.2.2.2 (by decide)
  generalize tct a2 (.s 28) 0 = a3 at q3 ⊢
  have q4 := tct_st (s := a3) 30 q3.2.2.2 (by decide)
  generalize tct a3 (.s 30) 0 = a4 at q4 ⊢
  have g5 : (nf a4 13 1 0).r = a4.r ∧ (nf a4 13 1 0).c = a4.c := ⟨rfl, rfl⟩
  have f5 : (nf a4 13 1 0).f = (fun a => if a = 13 then upd (a4.f a) 1 0 else a4.f a) := rfl
  have h5 : ∀ t, t ∈ c_st → 0 ≤ ((nf a4 13 1 0).r (.s t)).toInt := by rw [g5.1]; exact q4.2.2.2
  generalize nf a4 13 1 0 = a5 at g5 f5 h5 ⊢
  have q6 := tct_st (s := a5) 14 h5 (by decide)
  generalize tct a5 (.s 14) 0 = a6 at q6 ⊢
  have q7 := tct_st (s := a6) 16 q6.2.2.2 (by decide)
  generalize tct a6 (.s 16) 0 = a7 at q7 ⊢
  have q8 := tct_st (s := a7) 8 q7.2.2.2 (by decide)
  generalize tct a7 (.s 8) 0 = a8 at q8 ⊢
  have q9 := tct_st (s := a8) 10 q8.2.2.2 (by decide)
  generalize tct a8 (.s 10) 0 = a9 at q9 ⊢
  refine ⟨?_, ⟨?_, ?_⟩, ?_, ?_, ?_, ?_, ?_, ?_, ?_, ?_⟩
  · rw [q9.1, q8.1, q7.1, q6.1, f5, q4.1, q3.1, q2.1, q1.1, f0]
    rfl
  · rw [(q9.2.2.1 3 (by decide)).1, (q8.2.2.1 3 (by decide)).1, (q7.2.2.1 3 (by decide)).1, (q6.2.2.1 3 (by decide)).1, g5.1, (q4.2.2.1 3 (by decide)).1, (q3.2.2.1 3 (by decide)).1, (q2.2.2.1 3 (by decide)).1, (q1.2.2.1 3 (by decide)).1, r0]
  · rw [(q9.2.2.1 3 (by decide)).2, (q8.2.2.1 3 (by decide)).2, (q7.2.2.1 3 (by decide)).2, (q6.2.2.1 3 (by decide)).2, g5.2, (q4.2.2.1 3 (by decide)).2, (q3.2.2.1 3 (by decide)).2, (q2.2.2.1 3 (by decide)).2, (q1.2.2.1 3 (by decide)).2, c0]
  · rw [(q9.2.2.1 14 (by decide)).1, (q8.2.2.1 14 (by decide)).1, (q7.2.2.1 14 (by decide)).1]
    exact q6.2.1
  · rw [(q9.2.2.1 16 (by decide)).1, (q8.2.2.1 16 (by decide)).1]
    exact q7.2.1
  · rw [(q9.2.2.1 24 (by decide)).1, (q8.2.2.1 24 (by decide)).1, (q7.2.2.1 24 (by decide)).1, (q6.2.2.1 24 (by decide)).1, g5.1, (q4.2.2.1 24 (by decide)).1, (q3.2.2.1 24 (by decide)).1, (q2.2.2.1 24 (by decide)).1]
    exact q1.2.1
  · rw [(q9.2.2.1 26 (by decide)).1, (q8.2.2.1 26 (by decide)).1, (q7.2.2.1 26 (by decide)).1, (q6.2.2.1 26 (by decide)).1, g5.1, (q4.2.2.1 26 (by decide)).1, (q3.2.2.1 26 (by decide)).1]
    exact q2.2.1
  · rw [(q9.2.2.1 28 (by decide)).1, (q8.2.2.1 28 (by decide)).1, (q7.2.2.1 28 (by decide)).1, (q6.2.2.1 28 (by decide)).1, g5.1, (q4.2.2.1 28 (by decide)).1]
    exact q3.2.1
  · rw [(q9.2.2.1 8 (by decide)).1]
    exact q8.2.1
  · exact q9.2.1
  · rw [(q9.2.2.1 30 (by decide)).1, (q8.2.2.1 30 (by decide)).1, (q7.2.2.1 30 (by decide)).1, (q6.2.2.1 30 (by decide)).1, g5.1]
    exact q4.2.1
theorem bgs_u {x : Nat} : (bgs s).r (.u x) = s.r (.u x) := by
  have st : ∀ (a : cS) (b : Nat), (tct a (.s b) 0).r (.u x) = a.r (.u x) := fun a b => (tct_r (fun z => by cases z)).1
  have g5 : ∀ a : cS, (nf a 13 1 0).r (.u x) = a.r (.u x) := fun _ => rfl
  unfold bgs c43 c43_7 c43_14 c43_22 c44 c44_8 c44_16 c44_24
  dsimp only
  obtain ⟨a0, ha0⟩ : ∃ a0, a0 = (c42 (c40 (c39 s).1).1).1 := ⟨_, rfl⟩
  rw [← ha0]
  have r0 : a0.r = s.r := by rw [ha0]; rfl
  generalize a0 = a0 at r0
  have q1 := st a0 24
  generalize tct a0 (.s 24) 0 = a1 at q1 ⊢
  have q2 := st a1 26
  generalize tct a1 (.s 26) 0 = a2 at q2 ⊢
  have q3 := st a2 28
  generalize tct a2 (.s 28) 0 = a3 at q3 ⊢
  have q4 := st a3 30
  generalize tct a3 (.s 30) 0 = a4 at q4 ⊢
  have q5 := g5 a4
  generalize nf a4 13 1 0 = a5 at q5 ⊢
  have q6 := st a5 14
  generalize tct a5 (.s 14) 0 = a6 at q6 ⊢
  have q7 := st a6 16
  generalize tct a6 (.s 16) 0 = a7 at q7 ⊢
  have q8 := st a7 8
  generalize tct a7 (.s 8) 0 = a8 at q8 ⊢
  have q9 := st a8 10
  generalize tct a8 (.s 10) 0 = a9 at q9 ⊢
  rw [q9, q8, q7, q6, q5, q4, q3, q2, q1, r0]
theorem bgs_i {x : Nat} : (bgs s).r (.i x) = s.r (.i x) := by
  have st : ∀ (a : cS) (b : Nat), (tct a (.s b) 0).r (.i x) = a.r (.i x) := fun a b => (tct_r (fun z => by cases z)).1
  have g5 : ∀ a : cS, (nf a 13 1 0).r (.i x) = a.r (.i x) := fun _ => rfl
  unfold bgs c43 c43_7 c43_14 c43_22 c44 c44_8 c44_16 c44_24
  dsimp only
  obtain ⟨a0, ha0⟩ : ∃ a0, a0 = (c42 (c40 (c39 s).1).1).1 := ⟨_, rfl⟩
  rw [← ha0]
  have r0 : a0.r = s.r := by rw [ha0]; rfl
  generalize a0 = a0 at r0
  have q1 := st a0 24
  generalize tct a0 (.s 24) 0 = a1 at q1 ⊢
  have q2 := st a1 26
  generalize tct a1 (.s 26) 0 = a2 at q2 ⊢
  have q3 := st a2 28
  generalize tct a2 (.s 28) 0 = a3 at q3 ⊢
  have q4 := st a3 30
  generalize tct a3 (.s 30) 0 = a4 at q4 ⊢
  have q5 := g5 a4
  generalize nf a4 13 1 0 = a5 at q5 ⊢
  have q6 := st a5 14
  generalize tct a5 (.s 14) 0 = a6 at q6 ⊢
  have q7 := st a6 16
  generalize tct a6 (.s 16) 0 = a7 at q7 ⊢
  have q8 := st a7 8
  generalize tct a7 (.s 8) 0 = a8 at q8 ⊢
  have q9 := st a8 10
  generalize tct a8 (.s 10) 0 = a9 at q9 ⊢
  rw [q9, q8, q7, q6, q5, q4, q3, q2, q1, r0]
/-- the first body -/
theorem c46_b0 {w : Int32} (h5 : s.f 5 1 = 0) (h13 : s.f 13 1 = 0) (h56 : (s.f 5 1).toInt ≤ (s.f 6 1).toInt) : (c46 s w).1.b 1 2 = 0 ∧ (c46 s w).1.b 1 3 = -1 ∧ (c46 s w).1.b 1 4 = 0 ∧ (c46 s w).1.b 1 7 = 0 ∧ (c46 s w).1.b 1 8 = w := by
  obtain ⟨g1, g2, g3, g4, g5, g6, g7, g8⟩ := c13_b (s := s) (n := 0) h5 (by decide) h56
  rw [Nat.zero_add] at g2 g3 g4 g5 g8
  obtain ⟨q1, q2, q3, q4, q5, q6, q7⟩ := c46_30_b (s := (c13 s).1) (y1 := w) (z0 := -1) (y2 := 1)
  unfold c46 c46_7
  rw [g8, g7, if_neg (show ¬ s.f 13 1 ≠ 0 from fun z => z h13), if_neg (show ¬ (1 : Int32) = 0 from by decide)]
  exact ⟨q2.trans g2, q3, q4.trans g3, q6.trans g5, q7⟩
theorem c46_6 {w : Int32} (h : (s.f 5 1).toInt ≤ (s.f 6 1).toInt) : (c46 s w).1.f 6 1 = s.f 6 1 ∧ s.f 5 1 < s.f 6 1 ∨ (c46 s w).1.f 6 1 = s.f 5 1 + 1 := by
  have e : (c46 s w).1.f 6 1 = (c13 s).1.f 6 1 := by
    unfold c46 c46_7
    split
    · exact c46_30_6
    · exact c46_30_6
  rw [e]
  exact c13_6 h
abbrev X00 : List xF := [(1, [], [], [(0, [], [], 0)], 0)]
abbrev X01 : List xF := [(1, [], [], [(0, [], [], 0)], 1)]
noncomputable def kbg (k : kS) : kS := (k177 (k176 k).1 0).1
theorem kbg_ka : ka (ka (kbg k) 56 0 0) 56 (xn (1 - 1)) 1 = kbg k := by
  have e : upg (upg (kbg k).2 56 0 0) 56 0 1 = (kbg k).2 := by
    funext j i
    unfold upg
    by_cases c : j = 56
    · subst c
      rw [if_pos rfl, if_pos rfl]
      unfold upd
      by_cases d : i = 0
      · subst d
        rw [if_pos rfl]
        rfl
      · rw [if_neg d, if_neg d]
    · rw [if_neg c, if_neg c]
  show ((kbg k).1, upg (upg (kbg k).2 56 0 0) 56 0 1) = kbg k
  rw [e]
theorem kbg_xk : XK (ka (kbg k) 56 0 0) X00 := by
  refine ⟨⟨rfl, (fun i q h => nomatch h)⟩, ⟨rfl, fun i q h => ?_⟩, ⟨rfl, (fun i q h => nomatch h)⟩, ⟨rfl, (fun i q h => nomatch h)⟩, rfl, ⟨rfl, rfl, rfl, rfl, rfl, trivial⟩⟩
  cases i with
  | zero =>
    have e : ((xn (0 + 0), xn (0 + 0), xn (0 + 0), xn 0, 0) : Int32 × xR) = q := Option.some.inj h
    rw [← e]
    exact ⟨rfl, rfl, rfl, rfl, rfl⟩
  | succ i => exact nomatch h
/-- rows when a chunk begins -/
theorem nr_beg {s2 : cS} {k2 : kS} (n1 : ∀ x, 0 ≤ (s2.r (.i x)).toInt) (n2 : (s2.r (.i 1)).toInt = 0) (h28 : (s2.r (.s 28)).toInt = 0) (h30 : (s2.r (.s 30)).toInt = 0) (e53 : k2.1 53 = 1) (e68 : k2.1 68 = 0) (e60 : k2.2 60 0 = 0) : NR 0 ([], []) [] s2 k2 X01 := by
  have rw0 : RWS ([], []) ([] ++ []) s2 k2 := by
    refine ⟨n1, fun _ => ⟨0, e68, by decide, fun _ _ => ⟨⟨fun e he => absurd he List.not_mem_nil, fun i hi => absurd hi (Nat.not_lt_zero _)⟩, fun x hx => ?_⟩⟩⟩
    rw [e53] at hx
    have hx' : (x : Int) < 1 := hx
    obtain rfl : x = 0 := by omega
    have d1 : D1 ([], []) s2 0 = [] := by unfold D1; rw [ite_self]
    have d2 : D2 ([], []) s2 0 = [] := by unfold D2; rw [ite_self]
    refine ⟨e60, [], [], ?_, ?_, ?_, ⟨List.Pairwise.nil, fun e he => absurd he List.not_mem_nil⟩, wfl_0⟩
    · rw [d1]
      exact ⟨n2, fun i q hq => nomatch hq⟩
    · rw [d2]
      rfl
    · exact ml.nil
  refine ⟨n1, fun _ => ⟨⟨0, e68, by decide⟩, fun _ _ => ⟨[], [], Or.inl ⟨rfl, rfl⟩, ⟨[], [], ⟨rfl, (fun i q hq => nomatch hq), fun f hf => ?_⟩, ?_, ?_, ⟨h30, (fun i q hq => nomatch hq)⟩, [], ⟨h28, (fun i q hq => nomatch hq)⟩, rfl⟩, rw0⟩⟩⟩
  · rcases List.mem_cons.mp hf with e | e
    · rw [e]
      exact List.nodup_nil
    · exact nomatch e
  · exact ⟨[], [], rfl, rfl, [], [], rfl, rfl, rfl⟩
  · exact ⟨[], [], rfl, rfl, Or.inr ⟨by decide, rfl⟩⟩
/-- both sides when a chunk begins -/
theorem cp_beg (hJ : JI L s k) (hL6 : L.length ≤ 600) (hr : CR s) : (c46 (bgs s) (-1)).2 = 1 ∧ SG L ([], [], []) (k178 (kbg k)).1 0 0 0 0 (nb (c46 (bgs s) (-1)).1 1 5 1) (k178 (kbg k)).1 X01 1 0 0 ∧ GT 0 1 0 0 0 (k178 (kbg k)).1 := by
  obtain ⟨⟨j1, j2, j3⟩, ⟨j4, j5⟩, j6, j7, ⟨-, j8⟩, -⟩ := hJ
  obtain ⟨bgs_f, b3, z14, z16, z24, z26, z28, z8, z10, z30⟩ := bgs_all hr
  have f51 : (bgs s).f 5 1 = 0 := by rw [bgs_f]; rfl
  have f10 : (bgs s).f 1 0 = 0 := by rw [bgs_f]; rfl
  have f22 : (bgs s).f 2 2 = 0 := by rw [bgs_f]; rfl
  have f23 : (bgs s).f 2 3 = 0 := by rw [bgs_f]; rfl
  have f131 : (bgs s).f 13 1 = 0 := by rw [bgs_f]; rfl
  have f61 : (bgs s).f 6 1 = s.f 6 1 := by rw [bgs_f]; rfl
  have x0 : XC 0 (bgs s) [] := ⟨⟨z14, (fun i q h => nomatch h)⟩, ⟨z16, (fun i q h => nomatch h)⟩, ⟨z24, (fun i q h => nomatch h)⟩, ⟨z26, (fun i q h => nomatch h)⟩, z28, f131, trivial, (fun f r q => nomatch q)⟩
  have sz0 : SZ [] := by unfold SZ; decide
  obtain ⟨x1, x2, x3, x4, x5, x6⟩ := x0.bgn (w := -1) sz0 (fun f h => nomatch h) (fun f h => nomatch h)
  have h6 := c46_6 (s := bgs s) (w := -1) (by rw [f51, f61]; exact hr.2)
  have w3 := c46_w (s := bgs s) (w := -1)
  obtain ⟨v1, v2⟩ := c13_u (s := bgs s) (n := 0) f51 (by decide) (by rw [f51, f61]; exact hr.2)
  rw [Nat.zero_add] at v1 v2
  have bu : ∀ x, 0 ≤ ((bgs s).r (.u x)).toInt := fun x => by rw [bgs_u]; exact j7.2 x
  have u1 : ∀ x, 0 ≤ ((c46 (bgs s) (-1)).1.r (.u (x + 1 + 1))).toInt := fun x => by
    rw [c46_u.1, (v1 (x + 1 + 1) (by omega)).1]
    exact bu _
  have u2 : ((c46 (bgs s) (-1)).1.r (.u 1)).toInt = 0 := by
    rw [c46_u.1]
    exact v2 (bu 1)
  obtain ⟨i1, i2⟩ := c13_i (s := bgs s) (n := 0) f51 (by decide) (by rw [f51, f61]; exact hr.2)
  rw [Nat.zero_add] at i1 i2
  have bi : ∀ x, 0 ≤ ((bgs s).r (.i x)).toInt := fun x => by rw [bgs_i]; exact j8 x
  have n2 : ((c46 (bgs s) (-1)).1.r (.i 1)).toInt = 0 := by
    rw [c46_i]
    exact i2 (bi 1)
  have n1 : ∀ x, 0 ≤ ((c46 (bgs s) (-1)).1.r (.i x)).toInt := fun x => by
    by_cases c : x = 1
    · rw [c, n2]
      exact Int.le_refl _
    · rw [c46_i, i1 x c]
      exact bi x
  obtain ⟨d2, d3, d4, d7, d8⟩ := c46_b0 (s := bgs s) (w := -1) f51 f131 (by rw [f51, f61]; exact hr.2)
  have fc := c46_ts (s := bgs s) (w := -1)
  have y8 : ((c46 (bgs s) (-1)).1.r (.s 8)).toInt = 0 := by rw [fc.1.1]; exact z8
  have y10 : ((c46 (bgs s) (-1)).1.r (.s 10)).toInt = 0 := by rw [fc.2.1]; exact z10
  have y28 : ((c46 (bgs s) (-1)).1.r (.s 28)).toInt = 0 := by rw [c46_28.1]; exact z28
  have y30 : ((c46 (bgs s) (-1)).1.r (.s 30)).toInt = 0 := by rw [(c46_s (j := 30) (by decide)).1]; exact z30
  clear fc
  rw [f51] at x1 x2 x5 h6
  have e1 : (0 : Int32).toInt.toNat + 1 = 1 := rfl
  rw [e1] at x1 x2
  generalize (c46 (bgs s) (-1)).1 = s2 at *
  have q51 : s2.f 5 1 = 1 := x5
  have fa0 : FA s2 (ka (kbg k) 56 0 0) X00 := by
    unfold FA
    have a1 : s2.f 1 0 = 0 := by rw [x3]; exact f10
    rw [a1]
    constructor
    · rintro (z | ⟨f, hf, z⟩)
      · exact absurd rfl z
      · rcases List.mem_cons.mp hf with e | e
        · rw [e] at z; exact absurd rfl z.1
        · exact nomatch e
    · rintro (z | ⟨f, hf, b, hb, g, hg, -⟩)
      · exact absurd rfl z
      · rcases List.mem_cons.mp hf with e | e
        · rw [e] at hb
          rcases List.mem_cons.mp hb with e' | e'
          · rw [e'] at hg; exact nomatch hg
          · exact nomatch e'
        · exact nomatch e
  have nb0 : NB s2 (ka (kbg k) 56 0 0) X00 := by
    refine ⟨q51, ⟨1, rfl, by decide, fun f hf => ?_⟩, ?_⟩
    · rcases List.mem_cons.mp hf with e | e
      · rw [e]; exact ⟨Nat.le_refl _, Nat.le_refl _⟩
      · exact nomatch e
    · rw [q51]
      rcases h6 with ⟨h7, h8⟩ | h7
      · rw [h7]
        rw [i_lt] at h8
        have : (0 : Int32).toInt = 0 := rfl
        have : (1 : Int32).toInt = 1 := rfl
        omega
      · rw [h7]
        exact Int.le_refl _
  have wf0 : WFx X00 := by
    refine ⟨⟨Nat.le_refl _, (fun l h => absurd h List.not_mem_nil), (fun g h => absurd h List.not_mem_nil), (fun _ => ⟨rfl, rfl⟩), (fun _ => rfl), trivial⟩, (fun z => nomatch z), (fun q h => absurd h List.not_mem_nil), trivial⟩
  have rn0 : RN s2 (ka (kbg k) 56 0 0) X00 := ⟨x1, kbg_xk, wf0, fa0, nb0⟩
  have rn1 := rn0.dts
  have rn2 : RN (nb s2 1 5 1) (kbg k) X01 := by
    rw [← kbg_ka (k := k)]
    exact rn1
  have fk : kFr 1024 30720 (kbg k) (k178 (kbg k)).1 := fr_k178 _
  have g1 := GT.psh (t := 0) (v := 0) (w := 0) (g := 1) (a := 0) (b := 0) (c := 0) (k := kbg k) rfl (by decide)
  have t2 : TR (nb s2 1 5 1) (.s 3) L := j1.same (w3.1.trans b3.1) (w3.2.trans b3.2)
  have k0 : (kbg k).1 0 = xn L.length := j4
  have ob : OU (bd 0) (nb s2 1 5 1) (k178 (kbg k)).1 X01 := by
    refine ⟨[], 1, 0, (fk.1 53 rfl).trans rfl, ⟨by decide, fun x hx => ?_⟩, Nat.zero_le _, by decide, fun q hq => absurd hq List.not_mem_nil, ⟨(fk.1 62 rfl).trans rfl, fun i q hq => nomatch hq⟩, fun x hx => ?_, ⟨fun n hn => absurd hn (Nat.not_lt_zero _), List.nodup_nil, fun q hq => absurd hq List.not_mem_nil, trivial⟩, (fk.1 31 rfl).trans rfl, fun i j _ hj => absurd hj (Nat.not_lt_zero _), fun i hi => absurd hi (Nat.not_lt_zero _)⟩
    · obtain ⟨y, rfl⟩ : ∃ y, x = y + 1 := ⟨x - 1, by omega⟩
      exact u1 y
    · obtain rfl : x = 0 := by omega
      refine ⟨⟨u2, fun i q hq => nomatch hq⟩, ?_⟩
      rw [fk.2 67 rfl]
      rfl
  have e53 : (k178 (kbg k)).1.1 53 = 1 := (fk.1 53 rfl).trans rfl
  have nc0 : NR 0 ([], []) [] (nb s2 1 5 1) (k178 (kbg k)).1 X01 := nr_beg n1 n2 y28 y30 e53 ((fk.1 68 rfl).trans rfl) (by rw [fk.2 60 rfl]; rfl)
  have mb0 : MBk (k178 (kbg k)).1 := by
    intro _ x hx
    rw [e53] at hx
    have hx' : (x : Int) < 1 := hx
    obtain rfl : x = 0 := by omega
    rw [fk.2 58 rfl, show (kbg k).2 58 0 = 0 from rfl]
    exact ⟨by decide, by decide⟩
  have fb0 : FB (nb s2 1 5 1) (k178 (kbg k)).1 (sh X01) := by
    refine ⟨?_, mb0⟩
    intro _ x hx
    rw [e53] at hx
    have hx' : (x : Int) < 1 := hx
    obtain rfl : x = 0 := by omega
    have g : ∀ j, (j = 54 ∨ j = 55 ∨ j = 56 ∨ j = 58 ∨ j = 59) → (k178 (kbg k)).1.2 j = (kbg k).2 j := fun j hj => by
      rcases hj with rfl | rfl | rfl | rfl | rfl
      · exact fk.2 54 rfl
      · exact fk.2 55 rfl
      · exact fk.2 56 rfl
      · exact fk.2 58 rfl
      · exact fk.2 59 rfl
    have bn : ∀ j, j ≠ 5 → (nb s2 1 5 1).b 1 j = s2.b 1 j := fun j hj => by
      show (if (1 : Nat) = 1 then upd (s2.b 1) 5 1 else s2.b 1) j = _
      rw [if_pos rfl]
      exact if_neg hj
    refine ⟨⟨?_, ?_, ?_, ?_, ?_⟩, fun q => absurd rfl (q (1, 0) (List.mem_singleton.mpr rfl)), ?_⟩
    · exact (bn 2 (by decide)).trans d2
    · rw [g 54 (by decide)]
      exact (bn 3 (by decide)).trans d3
    · rw [g 55 (by decide)]
      exact (bn 4 (by decide)).trans d4
    · rw [g 56 (by decide)]
      rfl
    · rw [g 59 (by decide)]
      exact (bn 8 (by decide)).trans d8
    · rw [g 58 (by decide)]
      exact (bn 7 (by decide)).trans d7
  have cl0 : CL (k178 (kbg k)).1 X01 := fun _ i q hq => nomatch hq
  have lv0 : LVv [] (nb s2 1 5 1) X01 := ⟨[], ⟨y28, fun i q hq => nomatch hq⟩, rfl⟩
  have cp0 : CP ([], [], []) 0 (nb s2 1 5 1) := ⟨⟨⟨y8, fun i q hq => nomatch hq⟩, ⟨y10, fun i q hq => nomatch hq⟩⟩, Nat.le_refl _, Nat.le_refl _⟩
  refine ⟨x2, ⟨⟨⟨⟨t2, j2, j3⟩, ⟨(fk.1 0 rfl).trans k0, fun i q hq => ?_⟩, ⟨?_, (fk.1 4 rfl).trans rfl, Nat.zero_le _⟩, ⟨?_, ?_, ?_⟩, (fk.1 6 rfl).trans rfl⟩, rn2.frm (cFr.refl (F := 0) (T := 0) (B := 0) (G := 0)) fk rfl rfl rfl rfl rfl rfl rfl rfl rfl rfl rfl, by decide, ?_, ⟨hL6, fb0, cl0, lv0⟩, ob, (fun z => nomatch z), ⟨[], rfl, nc0⟩⟩, ⟨g1.1.1, (fk.1 15 rfl).trans rfl, (fk.1 20 rfl).trans rfl⟩, KB.refl, Nat.le_refl _, cp0⟩, g1.1⟩
  · rw [fk.2 1 rfl, fk.2 2 rfl]
    exact j5 i q hq
  · show s2.f 2 2 = _
    rw [x4]
    exact f22
  · show s2.f 2 3 = _
    rw [x4, f23, fk.1 5 rfl]
    rfl
  · rw [fk.1 5 rfl]
    show (0 : Int32).toInt ≤ 48
    decide
  · rw [fk.1 5 rfl]
    show -((0 : Nat) : Int) ≤ (0 : Int32).toInt
    decide
  · rw [fk.1 53 rfl]
    show (1 : Int32).toInt ≤ ((0 : Nat) : Int) + 1
    decide
end CMP
