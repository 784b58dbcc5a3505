/-! COUNTS AND NUMBERS OF BODIES: functions begin and end, names are declared -/
section CNB
variable {d : Int32} {s s' : cS} {k k' : kS} {f f' : xF} {r X : List xF} {S : xS}
/-- nothing is owed: whose function it is does not matter -/
theorem NC.same0 (h : NC 0 s k) (hr : ∀ x, s'.r (.i x) = s.r (.i x)) (e8 : k'.1 8 = 0 → k.1 8 = 0) (e53 : k'.1 53 = k.1 53) (e60 : k'.2 60 = k.2 60) : NC 0 s' k' := by
  refine ⟨fun x => by rw [hr]; exact h.1 x, ?_⟩
  intro z x hx hl
  rw [hr] at hl ⊢
  rw [e60]
  have q := h.2 (e8 z) x (by rw [← e53]; exact hx) hl
  rw [ite_self] at q ⊢
  exact q
theorem c29_i {x : Nat} {v : Int32} : (∀ y, y ≠ x → (c29 s x v).1.r (.i y) = s.r (.i y)) ∧ (0 ≤ (s.r (.i x)).toInt → ((c29 s x v).1.r (.i x)).toInt = 0) := by
  have n1 : ∀ y, cT.i y ≠ cT.u x := fun y z => by cases z
  constructor
  · intro y hy
    have n2 : cT.i y ≠ cT.i x := fun z => hy (Sum.inl.inj (Sum.inr.inj z))
    show (tct (tct (nb (nb (nb (nb (nb (nb (nb (nb (nb (nb (nb s x 2 v) x 3 (-1)) x 8 (-1)) x 4 0) x 5 0) x 6 0) x 7 0) x 9 0) x 10 0) x 11 0) x 12 0) (.i x) 0) (.u x) 0).r (.i y) = s.r (.i y)
    exact ((tct_r (n1 y)).1).trans (((tct_r n2).1).trans rfl)
  · intro h
    show ((tct (tct (nb (nb (nb (nb (nb (nb (nb (nb (nb (nb (nb s x 2 v) x 3 (-1)) x 8 (-1)) x 4 0) x 5 0) x 6 0) x 7 0) x 9 0) x 10 0) x 11 0) x 12 0) (.i x) 0) (.u x) 0).r (.i x)).toInt = 0
    rw [(tct_r (n1 x)).1]
    exact tct0 h
theorem c46_i {w : Int32} {x : Nat} : (c46 s w).1.r (.i x) = (c13 s).1.r (.i x) := by
  have key : ∀ (s1 : cS) (z0 : Int32) (y : Nat), (c46_30 s1 w y z0 y).1.r (.i x) = s1.r (.i x) := fun s1 z0 y => (fr_c51 _).2.2.2.2.2.2.1 rfl x
  unfold c46 c46_7
  split
  · exact key _ _ _
  · exact key _ _ _
theorem c13_i {n : Nat} (h5 : s.f 5 1 = xn n) (hn : n ≤ 1000000) (h56 : (s.f 5 1).toInt ≤ (s.f 6 1).toInt) : (∀ x, x ≠ n + 1 → (c13 s).1.r (.i x) = s.r (.i x)) ∧ (0 ≤ (s.r (.i (n + 1))).toInt → ((c13 s).1.r (.i (n + 1))).toInt = 0) := by
  have e5 : (s.f 5 1).toInt.toNat + 1 = n + 1 := by rw [h5, xn_i (by omega)]; omega
  by_cases c1 : s.f 5 1 < s.f 6 1
  · unfold c13
    rw [if_pos c1, e5]
    exact c29_i
  · have e6 : (s.f 6 1).toInt.toNat + 1 = n + 1 := by
      rw [i_lt] at c1
      rw [← e5]
      omega
    unfold c13
    rw [if_neg c1, e5, e6]
    obtain ⟨u1, u2⟩ := c29_i (s := bnew s (n + 1)) (x := n + 1) (v := s.f 5 1)
    have rb : ∀ x, (bnew s (n + 1)).r (.i x) = if x = n + 1 then 0 else s.r (.i x) := fun x => by
      show (if cT.i x = .i (n + 1) ∨ cT.i x = .u (n + 1) then 0 else s.r (.i x)) = _
      by_cases c : x = n + 1
      · rw [if_pos c, if_pos (Or.inl (by rw [c]))]
      · rw [if_neg c, if_neg (fun z => z.elim (fun q => c (Sum.inl.inj (Sum.inr.inj q))) (fun q => by cases q))]
    refine ⟨fun x hx => ?_, fun _ => ?_⟩
    · refine (u1 x hx).trans ?_
      rw [rb, if_neg hx]
    · refine u2 ?_
      rw [rb, if_pos rfl]
      decide
/-- a function begins on both sides -/
theorem NC.bgn {w : Int32} {n : Nat} (h : NC 0 s k) (hn : k.1 53 = xn n) (hn2 : n < 1000000) (h5 : s.f 5 1 = k.1 53) (h56 : (s.f 5 1).toInt ≤ (s.f 6 1).toInt) (e8 : k'.1 8 = k.1 8) (e53 : k'.1 53 = k.1 53 + 1) (e60 : k'.2 60 = upd (k.2 60) n 0) : NC 0 (c46 s w).1 k' := by
  obtain ⟨u1, u2⟩ := c13_i (h5.trans hn) (by omega) h56
  have r0 : ((c46 s w).1.r (.i (n + 1))).toInt = 0 := by rw [c46_i]; exact u2 (h.1 _)
  have r1 : ∀ x, x ≠ n + 1 → (c46 s w).1.r (.i x) = s.r (.i x) := fun x hx => by rw [c46_i]; exact u1 x hx
  have e53' : (k'.1 53).toInt = ((n + 1 : Nat) : Int) := by rw [e53, hn, xn_succ (by omega), xn_i (by omega)]
  have e53n : (k.1 53).toInt = (n : Int) := by rw [hn, xn_i (by omega)]
  refine ⟨fun x => ?_, ?_⟩
  · by_cases c : x = n + 1
    · rw [c, r0]
      exact Int.le_refl 0
    · rw [r1 x c]
      exact h.1 x
  · intro z x hx hl
    rw [ite_self, e60]
    by_cases c : x = n
    · have e : (c46 s w).1.r (.i (x + 1)) = 0 := by
        rw [c]
        exact Int32.toInt_inj.mp (r0.trans rfl)
      rw [e, c]
      unfold upd
      rw [if_pos rfl]
      rfl
    · rw [r1 _ (by omega)] at hl ⊢
      have q := h.2 (by rw [← e8]; exact z) x (by omega) hl
      rw [ite_self] at q
      unfold upd
      rw [if_neg c]
      exact q
theorem c29_b {x : Nat} {v : Int32} : (∀ y, y ≠ x → (c29 s x v).1.b y = s.b y) ∧ (c29 s x v).1.b x 2 = v ∧ (c29 s x v).1.b x 4 = 0 ∧ (c29 s x v).1.b x 5 = 0 ∧ (c29 s x v).1.b x 7 = 0 ∧ (c29 s x v).1.now = s.now ∧ (c29 s x v).1.f = s.f := by
  obtain ⟨B, hB⟩ : ∃ B, B = nb (nb (nb (nb (nb (nb (nb (nb (nb (nb (nb s x 2 v) x 3 (-1)) x 8 (-1)) x 4 0) x 5 0) x 6 0) x 7 0) x 9 0) x 10 0) x 11 0) x 12 0 := ⟨_, rfl⟩
  have e : c29 s x v = (tct (tct B (.i x) 0) (.u x) 0, 0) := by rw [hB]; rfl
  have eb : (c29 s x v).1.b = B.b := by rw [e]; exact (tct_o.2.1).trans tct_o.2.1
  have en : (c29 s x v).1.now = B.now := by rw [e]; exact (tct_o.2.2.1).trans tct_o.2.2.1
  have ef : (c29 s x v).1.f = B.f := by rw [e]; exact (tct_o.1).trans tct_o.1
  refine ⟨fun y hy => ?_, ?_, ?_, ?_, ?_, ?_, ?_⟩
  · rw [eb, hB, nb_ne hy, nb_ne hy, nb_ne hy, nb_ne hy, nb_ne hy, nb_ne hy, nb_ne hy, nb_ne hy, nb_ne hy, nb_ne hy, nb_ne hy]
  · rw [eb, hB]; simp only [nb_eq, upd]; rfl
  · rw [eb, hB]; simp only [nb_eq, upd]; rfl
  · rw [eb, hB]; simp only [nb_eq, upd]; rfl
  · rw [eb, hB]; simp only [nb_eq, upd]; rfl
  · rw [en, hB]; rfl
  · rw [ef, hB]; rfl
theorem c13_b {n : Nat} (h5 : s.f 5 1 = xn n) (hn : n ≤ 1000000) (h56 : (s.f 5 1).toInt ≤ (s.f 6 1).toInt) : (∀ y, y ≠ n + 1 → (c13 s).1.b y = s.b y) ∧ (c13 s).1.b (n + 1) 2 = xn n ∧ (c13 s).1.b (n + 1) 4 = 0 ∧ (c13 s).1.b (n + 1) 5 = 0 ∧ (c13 s).1.b (n + 1) 7 = 0 ∧ (c13 s).1.now = s.now ∧ (c13 s).1.f 13 1 = s.f 13 1 ∧ (c13 s).2 = n + 1 := by
  have e5 : (s.f 5 1).toInt.toNat + 1 = n + 1 := by rw [h5, xn_i (by omega)]; omega
  by_cases c1 : s.f 5 1 < s.f 6 1
  · unfold c13
    rw [if_pos c1, e5]
    obtain ⟨g1, g2, g3, g4, g5, g6, g7⟩ := c29_b (s := s) (x := n + 1) (v := s.f 5 1)
    refine ⟨g1, g2.trans h5, g3, g4, g5, g6, ?_, rfl⟩
    rw [nf_ne (by decide), g7]
  · have e6 : (s.f 6 1).toInt.toNat + 1 = n + 1 := by
      rw [i_lt] at c1
      rw [← e5]
      omega
    unfold c13
    rw [if_neg c1, e5, e6]
    obtain ⟨g1, g2, g3, g4, g5, g6, g7⟩ := c29_b (s := bnew s (n + 1)) (x := n + 1) (v := s.f 5 1)
    refine ⟨fun y hy => ?_, g2.trans h5, g3, g4, g5, g6, ?_, rfl⟩
    · refine (g1 y hy).trans ?_
      show (if y = n + 1 then (fun _ => 0) else s.b y) = s.b y
      rw [if_neg hy]
    · rw [nf_ne (by decide), g7]
      show (nf s 6 1 (s.f 6 1 + 1)).f 13 1 = _
      rw [nf_ne (by decide)]
theorem c46_30_b {y1 z0 : Int32} {y2 : Nat} : (∀ y, y ≠ y2 → (c46_30 s y1 y2 z0 y2).1.b y = s.b y) ∧ (c46_30 s y1 y2 z0 y2).1.b y2 2 = s.b y2 2 ∧ (c46_30 s y1 y2 z0 y2).1.b y2 3 = z0 ∧ (c46_30 s y1 y2 z0 y2).1.b y2 4 = s.b y2 4 ∧ (c46_30 s y1 y2 z0 y2).1.b y2 5 = s.b y2 5 ∧ (c46_30 s y1 y2 z0 y2).1.b y2 7 = s.b y2 7 ∧ (c46_30 s y1 y2 z0 y2).1.b y2 8 = y1 := by
  obtain ⟨S6, hS6⟩ : ∃ S6, S6 = nb (nb (nb (nb (nb (nb s y2 3 z0) y2 8 y1) y2 9 ((nb (nb s y2 3 z0) y2 8 y1).r (.s 14))) y2 10 (c48 (nb (nb (nb s y2 3 z0) y2 8 y1) y2 9 ((nb (nb s y2 3 z0) y2 8 y1).r (.s 14))))) y2 11 (c49 (nb (nb (nb (nb s y2 3 z0) y2 8 y1) y2 9 ((nb (nb s y2 3 z0) y2 8 y1).r (.s 14))) y2 10 (c48 (nb (nb (nb s y2 3 z0) y2 8 y1) y2 9 ((nb (nb s y2 3 z0) y2 8 y1).r (.s 14))))))) y2 12 (c50 (nb (nb (nb (nb (nb s y2 3 z0) y2 8 y1) y2 9 ((nb (nb s y2 3 z0) y2 8 y1).r (.s 14))) y2 10 (c48 (nb (nb (nb s y2 3 z0) y2 8 y1) y2 9 ((nb (nb s y2 3 z0) y2 8 y1).r (.s 14))))) y2 11 (c49 (nb (nb (nb (nb s y2 3 z0) y2 8 y1) y2 9 ((nb (nb s y2 3 z0) y2 8 y1).r (.s 14))) y2 10 (c48 (nb (nb (nb s y2 3 z0) y2 8 y1) y2 9 ((nb (nb s y2 3 z0) y2 8 y1).r (.s 14)))))))) := ⟨_, rfl⟩
  have e : c46_30 s y1 y2 z0 y2 = ((c51 (nn (npush S6 y2) y2)).1, y2) := by rw [hS6]; rfl
  have eb : (c46_30 s y1 y2 z0 y2).1.b = S6.b := by
    rw [e]
    show (tad (nn (npush S6 y2) y2) (.s 16) _ _ _ 0).1.b = _
    unfold tad
    split <;> rfl
  rw [eb]
  refine ⟨fun y hy => ?_, ?_, ?_, ?_, ?_, ?_, ?_⟩
  · rw [hS6, nb_ne hy, nb_ne hy, nb_ne hy, nb_ne hy, nb_ne hy, nb_ne hy]
  · rw [hS6]; simp only [nb_eq, upd]; rfl
  · rw [hS6]; simp only [nb_eq, upd]; rfl
  · rw [hS6]; simp only [nb_eq, upd]; rfl
  · rw [hS6]; simp only [nb_eq, upd]; rfl
  · rw [hS6]; simp only [nb_eq, upd]; rfl
  · rw [hS6]; simp only [nb_eq, upd]; rfl
theorem c46_b {w : Int32} {n : Nat} (h5 : s.f 5 1 = xn n) (hn : n ≤ 1000000) (h56 : (s.f 5 1).toInt ≤ (s.f 6 1).toInt) (hnow : s.now ≠ n + 1) : (∀ y, y ≠ n + 1 → (c46 s w).1.b y = s.b y) ∧ (c46 s w).1.b (n + 1) 2 = xn n ∧ (c46 s w).1.b (n + 1) 3 = (if s.f 13 1 ≠ 0 then s.b s.now 2 else -1) ∧ (c46 s w).1.b (n + 1) 4 = 0 ∧ (c46 s w).1.b (n + 1) 5 = 0 ∧ (c46 s w).1.b (n + 1) 7 = 0 ∧ (c46 s w).1.b (n + 1) 8 = w := by
  obtain ⟨g1, g2, g3, g4, g5, g6, g7, g8⟩ := c13_b h5 hn h56
  have key : ∀ z0, (∀ y, y ≠ n + 1 → (c46_30 (c13 s).1 w (n + 1) z0 (n + 1)).1.b y = s.b y) ∧ (c46_30 (c13 s).1 w (n + 1) z0 (n + 1)).1.b (n + 1) 2 = xn n ∧ (c46_30 (c13 s).1 w (n + 1) z0 (n + 1)).1.b (n + 1) 3 = z0 ∧ (c46_30 (c13 s).1 w (n + 1) z0 (n + 1)).1.b (n + 1) 4 = 0 ∧ (c46_30 (c13 s).1 w (n + 1) z0 (n + 1)).1.b (n + 1) 5 = 0 ∧ (c46_30 (c13 s).1 w (n + 1) z0 (n + 1)).1.b (n + 1) 7 = 0 ∧ (c46_30 (c13 s).1 w (n + 1) z0 (n + 1)).1.b (n + 1) 8 = w := fun z0 => by
    obtain ⟨q1, q2, q3, q4, q5, q6, q7⟩ := c46_30_b (s := (c13 s).1) (y1 := w) (z0 := z0) (y2 := n + 1)
    exact ⟨fun y hy => (q1 y hy).trans (g1 y hy), q2.trans g2, q3, q4.trans g3, q5.trans g4, q6.trans g5, q7⟩
  have e2 : (c13 s).1.b (c13 s).1.now 2 = s.b s.now 2 := by rw [g6, g1 _ hnow]
  unfold c46 c46_7
  rw [g8, e2, g7]
  by_cases c : s.f 13 1 = 0
  · have cn : ¬ s.f 13 1 ≠ 0 := fun z => z c
    rw [if_neg cn, if_neg (show ¬ (1 : Int32) = 0 from by decide), if_neg cn]
    exact key _
  · have cp : s.f 13 1 ≠ 0 := c
    rw [if_pos cp, if_pos (show (0 : Int32) = 0 from rfl), if_pos cp]
    exact key _
theorem upd_at {g : Nat → Int32} {i : Nat} {v : Int32} : upd g i v i = v := if_pos rfl
theorem upd_nt {g : Nat → Int32} {i j : Nat} {v : Int32} (h : j ≠ i) : upd g i v j = g j := if_neg h
theorem FB0.bgn {w ar : Int32} {n : Nat} (h : FB0 s k S) (hn : k.1 53 = xn n) (hn2 : n < 1000000) (h5 : s.f 5 1 = k.1 53) (h56 : (s.f 5 1).toInt ≤ (s.f 6 1).toInt) (hnow : s.now ≠ n + 1) (e8 : k'.1 8 = k.1 8) (e53 : k'.1 53 = k.1 53 + 1) (e54 : k'.2 54 = upd (k.2 54) n ar) (e55 : k'.2 55 = upd (k.2 55) n 0) (e56 : k'.2 56 = upd (k.2 56) n 0) (e57 : k'.2 57 = k.2 57) (e58 : k'.2 58 = upd (k.2 58) n 0) (e59 : k'.2 59 = upd (k.2 59) n w) (ha : k.1 8 = 0 → (if s.f 13 1 ≠ 0 then s.b s.now 2 else -1) = ar) : FB0 (c46 s w).1 k' ((n + 1, 0) :: S) := by
  obtain ⟨g1, g2, g3, g4, g5, g7, g8⟩ := c46_b (w := w) (h5.trans hn) (by omega) h56 hnow
  have e53' : (k'.1 53).toInt = ((n + 1 : Nat) : Int) := by rw [e53, hn, xn_succ (by omega), xn_i (by omega)]
  have e53n : (k.1 53).toInt = (n : Int) := by rw [hn, xn_i (by omega)]
  intro z x hx
  rw [e8] at z
  rw [e54, e55, e56, e57, e58, e59]
  by_cases c : x = n
  · subst c
    rw [upd_at, upd_at, upd_at, upd_at, upd_at]
    refine ⟨⟨g2, g3.trans (ha z), g4, g5, g8⟩, fun q => absurd rfl (q _ List.mem_cons_self), ?_⟩
    rw [g7, wt_at rfl]
    rfl
  · rw [upd_nt c, upd_nt c, upd_nt c, upd_nt c, upd_nt c, g1 _ (by omega)]
    obtain ⟨h1, h6, h7⟩ := h z x (by omega)
    refine ⟨h1, fun q => h6 (fun q' hq => q q' (List.mem_cons_of_mem _ hq)), ?_⟩
    rw [h7, wt_nt (by show n + 1 ≠ x + 1; omega)]
theorem FB.bgn {w ar : Int32} {n : Nat} (h : FB s k S) (hn : k.1 53 = xn n) (hn2 : n < 1000000) (h5 : s.f 5 1 = k.1 53) (h56 : (s.f 5 1).toInt ≤ (s.f 6 1).toInt) (hnow : s.now ≠ n + 1) (e8 : k'.1 8 = k.1 8) (e53 : k'.1 53 = k.1 53 + 1) (e54 : k'.2 54 = upd (k.2 54) n ar) (e55 : k'.2 55 = upd (k.2 55) n 0) (e56 : k'.2 56 = upd (k.2 56) n 0) (e57 : k'.2 57 = k.2 57) (e58 : k'.2 58 = upd (k.2 58) n 0) (e59 : k'.2 59 = upd (k.2 59) n w) (ha : k.1 8 = 0 → (if s.f 13 1 ≠ 0 then s.b s.now 2 else -1) = ar) : FB (c46 s w).1 k' ((n + 1, 0) :: S) := by
  refine ⟨h.1.bgn hn hn2 h5 h56 hnow e8 e53 e54 e55 e56 e57 e58 e59 ha, fun z x hx => ?_⟩
  have e53' : (k'.1 53).toInt = ((n + 1 : Nat) : Int) := by rw [e53, hn, xn_succ (by omega), xn_i (by omega)]
  have e53n : (k.1 53).toInt = (n : Int) := by rw [hn, xn_i (by omega)]
  rw [e8] at z
  rw [e58]
  by_cases c : x = n
  · rw [c, upd_at]
    exact ⟨by decide, by decide⟩
  · rw [upd_nt c]
    exact h.2 z x (by omega)
theorem wt_no {b : Nat} : ∀ {S : xS}, (∀ q ∈ S, q.1 ≠ b) → wt S b = 0 := by
  intro S
  induction S with
  | nil => intro _; rfl
  | cons q S ih =>
    intro h
    rw [wt_nt (h q List.mem_cons_self)]
    exact ih (fun p hp => h p (List.mem_cons_of_mem _ hp))
/-- a function ends -/
theorem FB0.fin {v : Int32} {x0 : Nat} (h : FB0 s k (shF f :: S)) (hx : f.1 = x0 + 1) (hp : f.2.2.1 = []) (hS : ∀ q ∈ S, q.1 ≠ f.1) (hb : ∀ x j, 2 ≤ j → j ≤ 8 → (j ≠ 6 ∨ x ≠ f.1) → s'.b x j = s.b x j) (hb6 : s'.b f.1 6 = v) (e8 : k'.1 8 = 0 → k.1 8 = 0) (e53 : k'.1 53 = k.1 53) (eA : ∀ j, 54 ≤ j → j ≤ 59 → j ≠ 57 → k'.2 j = k.2 j) (e57 : k'.2 57 = upd (k.2 57) x0 v) : FB0 s' k' S := by
  intro z x hx'
  rw [e53] at hx'
  obtain ⟨⟨h2, h3, h4, h5, h8⟩, h6, h7⟩ := h (e8 z) x hx'
  refine ⟨⟨?_, ?_, ?_, ?_, ?_⟩, fun q => ?_, ?_⟩
  · rw [hb _ _ (by decide) (by decide) (Or.inl (by decide))]; exact h2
  · rw [hb _ _ (by decide) (by decide) (Or.inl (by decide)), eA _ (by decide) (by decide) (by decide)]; exact h3
  · rw [hb _ _ (by decide) (by decide) (Or.inl (by decide)), eA _ (by decide) (by decide) (by decide)]; exact h4
  · rw [hb _ _ (by decide) (by decide) (Or.inl (by decide)), eA _ (by decide) (by decide) (by decide)]; exact h5
  · rw [hb _ _ (by decide) (by decide) (Or.inl (by decide)), eA _ (by decide) (by decide) (by decide)]; exact h8
  · rw [e57]
    by_cases c : x = x0
    · rw [c, ← hx, hb6, upd_at]
    · rw [upd_nt c, hb _ _ (by decide) (by decide) (Or.inr (by omega))]
      refine h6 (fun q' hq => ?_)
      rcases List.mem_cons.mp hq with e | e
      · rw [e, shF1]
        omega
      · exact q q' e
  · rw [hb _ _ (by decide) (by decide) (Or.inl (by decide)), eA _ (by decide) (by decide) (by decide), h7]
    by_cases c : x = x0
    · rw [c, wt_at (by rw [shF1]; exact hx), shF0 hp, wt_no (fun q hq => by rw [← hx]; exact hS q hq)]
    · rw [wt_nt (by rw [shF1]; omega)]
theorem FB.fin {v : Int32} {x0 : Nat} (h : FB s k (shF f :: S)) (hx : f.1 = x0 + 1) (hp : f.2.2.1 = []) (hS : ∀ q ∈ S, q.1 ≠ f.1) (hb : ∀ x j, 2 ≤ j → j ≤ 8 → (j ≠ 6 ∨ x ≠ f.1) → s'.b x j = s.b x j) (hb6 : s'.b f.1 6 = v) (e8 : k'.1 8 = 0 → k.1 8 = 0) (e53 : k'.1 53 = k.1 53) (eA : ∀ j, 54 ≤ j → j ≤ 59 → j ≠ 57 → k'.2 j = k.2 j) (e57 : k'.2 57 = upd (k.2 57) x0 v) : FB s' k' S := ⟨h.1.fin hx hp hS hb hb6 e8 e53 eA e57, h.2.same e8 e53 (eA 58 (by decide) (by decide) (by decide))⟩
/-- the greater of both -/
def mxn (y : Int32) (n : Nat) : Int32 := if y < xn n then xn n else y
theorem sm_mx {y : Int32} {n : Nat} (h : sm y) (hn : n ≤ 1000000) : sm (mxn y n) := by
  unfold mxn
  split
  · unfold sm
    rw [xn_i (by omega)]
    omega
  · exact h
theorem mxn_mxn {y : Int32} {n m : Nat} (h : n ≤ m) (hm : m ≤ 1000000) : mxn (mxn y n) m = mxn y m := by
  unfold mxn
  by_cases c : y < xn n
  · have c' : y < xn m := by
      rw [i_lt, xn_i (by omega)] at c ⊢
      omega
    rw [if_pos c, if_pos c']
    split
    · rfl
    · rename_i c2
      rw [i_lt, xn_i (by omega), xn_i (by omega)] at c2
      have : n = m := by omega
      rw [this]
  · rw [if_neg c]
theorem mw_mxn {y : Int32} {n : Nat} (h : n ≠ 0) : mw n y = mxn y n := if_neg h
/-- declare: the greatest number of locals, which are to be closed -/
def dc2 (cl : Int32) (k k' : kS) : Prop := k'.2 30 = upd (k.2 30) (k.1 24).toNatClampNeg cl ∧ k'.2 58 = upd (k.2 58) (kr k 33 (k.1 32)).toNatClampNeg (if k.1 24 + 1 - kr k 34 (k.1 32) ≤ kr k 58 (kr k 33 (k.1 32)) then kr k 58 (kr k 33 (k.1 32)) else k.1 24 + 1 - kr k 34 (k.1 32)) ∧ k'.1 24 = k.1 24 + 1 ∧ k'.1 32 = k.1 32 ∧ k'.2 33 = k.2 33 ∧ k'.2 34 = k.2 34 ∧ k'.1 53 = k.1 53 ∧ ∀ j, (j = 54 ∨ j = 55 ∨ j = 56 ∨ j = 57 ∨ j = 59 ∨ j = 60) → k'.2 j = k.2 j
theorem dc2_18 {t c cl : Int32} : dc2 cl k (k196_18 k t c cl).1 := by
  unfold k196_18
  split
  · rename_i q
    refine ⟨rfl, ?_, rfl, rfl, rfl, rfl, rfl, fun j hj => ?_⟩
    · have q' : k.1 24 + 1 - kr k 34 (k.1 32) ≤ kr k 58 (kr k 33 (k.1 32)) := q
      rw [if_pos q']
      rfl
    · rcases hj with rfl | rfl | rfl | rfl | rfl | rfl <;> rfl
  · rename_i q
    refine ⟨rfl, ?_, rfl, rfl, rfl, rfl, rfl, fun j hj => ?_⟩
    · have q' : ¬ k.1 24 + 1 - kr k 34 (k.1 32) ≤ kr k 58 (kr k 33 (k.1 32)) := q
      rw [if_neg q']
      rfl
    · rcases hj with rfl | rfl | rfl | rfl | rfl | rfl <;> rfl
theorem k191_o {a w : Int32} : (∀ j, (k191 k a w).1.2 j = k.2 j) ∧ (k191 k a w).1.1 24 = k.1 24 ∧ (k191 k a w).1.1 32 = k.1 32 ∧ (k191 k a w).1.1 53 = k.1 53 :=
  ⟨fun j => (fr_k191 k a w).2 j (Nat.zero_testBit _), (fr_k191 k a w).1 24 rfl, (fr_k191 k a w).1 32 rfl, (fr_k191 k a w).1 53 rfl⟩
theorem dc2_196 {t c cl w : Int32} : dc2 cl k (k196 k t c cl w).1 := by
  unfold k196
  split
  · exact dc2_18
  · have d := dc2_18 (k := (k191 k 16 w).1) (t := t) (c := c) (cl := cl)
    obtain ⟨o1, o2, o3, o4⟩ := k191_o (k := k) (a := 16) (w := w)
    generalize (k191 k 16 w).1 = k1 at d o1 o2 o3 o4
    obtain ⟨d1, d2, d3, d4, d5, d6, d7, d8⟩ := d
    have er : ∀ j i, kr k1 j i = kr k j i := fun j i => congrFun (o1 j) _
    rw [o1, o2] at d1
    rw [o1, o2, o3, er, er, er] at d2
    exact ⟨d1, d2, d3.trans (by rw [o2]), d4.trans o3, d5.trans (o1 _), d6.trans (o1 _), d7.trans o4, fun j hj => (d8 j hj).trans (o1 j)⟩
/-- the reference's greatest number, when it is known where it stands -/
theorem dc2.n58 {cl : Int32} {x0 B m : Nat} (h : dc2 cl k k') (h33 : kr k 33 (k.1 32) = xn x0) (h34 : kr k 34 (k.1 32) = xn B) (h24 : k.1 24 = xn (B + m)) (hx : x0 ≤ 1000000) (hB : B + m + 1 ≤ 1000000) : k'.2 58 = upd (k.2 58) x0 (mxn (k.2 58 x0) (m + 1)) := by
  obtain ⟨-, d2, -⟩ := h
  have e1 : k.1 24 + 1 - kr k 34 (k.1 32) = xn (m + 1) := by
    rw [h24, h34, xn_succ (by omega), show B + m + 1 = B + (m + 1) by omega, xn_sub (by omega)]
  have e2 : kr k 58 (kr k 33 (k.1 32)) = k.2 58 x0 := by
    show k.2 58 (kr k 33 (k.1 32)).toNatClampNeg = _
    rw [h33, xn_nat (by omega)]
  rw [e1, e2, h33, xn_nat (by omega)] at d2
  rw [d2]
  congr 1
  unfold mxn
  by_cases c : k.2 58 x0 < xn (m + 1)
  · rw [if_pos c, if_neg (fun z => by rw [i_lt] at c; rw [i_le] at z; omega)]
  · rw [if_neg c, if_pos (by rw [i_lt] at c; rw [i_le]; omega)]
theorem dc2.nxt {cl : Int32} {x0 B m : Nat} (h : dc2 cl k k') (h33 : kr k 33 (k.1 32) = xn x0) (h34 : kr k 34 (k.1 32) = xn B) (h24 : k.1 24 = xn (B + m)) (hB : B + m + 1 ≤ 1000000) : kr k' 33 (k'.1 32) = xn x0 ∧ kr k' 34 (k'.1 32) = xn B ∧ k'.1 24 = xn (B + (m + 1)) := by
  obtain ⟨-, -, d3, d4, d5, d6, -⟩ := h
  refine ⟨?_, ?_, ?_⟩
  · unfold kr at h33 ⊢
    rw [d4, d5]
    exact h33
  · unfold kr at h34 ⊢
    rw [d4, d6]
    exact h34
  · rw [d3, h24, xn_succ (by omega)]
    rfl
theorem CL.dc2 {cl : Int32} {q : xR} (h : CL k (f :: r)) (hd : dc2 cl k k') (h24 : k.1 24 = xn (kL (f :: r)).length) (hl : (kL (f :: r)).length ≤ 1000000) (hq : cl ≠ 0 ↔ q.2.1 &&& 4 ≠ 0) (e8 : k'.1 8 = 0 → k.1 8 = 0) : CL k' (xd f q :: r) := by
  intro z i p hp
  have ek : kL (xd f q :: r) = kL (f :: r) ++ [q] := by
    show kL r ++ (f.2.1 ++ [q]) = (kL r ++ f.2.1) ++ [q]
    rw [List.append_assoc]
  rw [ek] at hp
  rw [hd.1, h24, xn_nat (by omega)]
  by_cases c : i < (kL (f :: r)).length
  · rw [List.getElem?_append_left c] at hp
    rw [upd_nt (by omega)]
    exact h (e8 z) i p hp
  · rw [List.getElem?_append_right (by omega)] at hp
    have ei : i = (kL (f :: r)).length := by
      have := (List.getElem?_eq_some_iff.mp hp).1
      have e1 : [q].length = 1 := rfl
      omega
    rw [ei, Nat.sub_self] at hp
    cases hp
    rw [ei, upd_at]
    exact hq
theorem k196_e8 {t c cl w : Int32} : (k196 k t c cl w).1.1 8 = 0 → k.1 8 = 0 := st_k196 k t c cl w
/-- where the reference stands -/
theorem XK.at (h : RN s k (f :: r)) (hz : SZ (f :: r)) : kr k 33 (k.1 32) = xn (f.1 - 1) ∧ kr k 34 (k.1 32) = xn (kL r).length ∧ k.1 24 = xn ((kL r).length + f.2.1.length) := by
  refine ⟨(own_k h hz).1, ?_, ?_⟩
  · have e := h.2.1.2.2.2.2.2
    rw [h.2.1.a32 hz]
    show k.2 34 (xn r.length).toNatClampNeg = _
    have hl : (f :: r).length = r.length + 1 := rfl
    have zg : (f :: r).length ≤ 1000000 := by unfold SZ at hz; omega
    rw [xn_nat (by omega)]
    exact e.2.1
  · rw [h.2.1.a24]
    show xn (kL r ++ f.2.1).length = _
    rw [List.length_append]
/-- declare in the class: the greatest number of locals -/
theorem c74_b {e : Nat} {t st w : Int32} (hx : XC e (c74 s t st w).1 (f' :: r)) (hz : SZ (f' :: r)) : (∀ x j, (j ≠ 7 ∨ x ≠ s.now) → (c74 s t st w).1.b x j = s.b x j) ∧ (c74 s t st w).1.b s.now 7 = mxn (s.b s.now 7) (f'.2.1 ++ f'.2.2.1).length ∧ (c74 s t st w).1.now = s.now := by
  have ec := hx.cnt hz
  obtain ⟨s1, hs1⟩ : ∃ s1, s1 = (tad (if c75 s < 200 then s else (c76 s 16 w).1) (.s 14) t st 0 0).1 := ⟨_, rfl⟩
  have e : (c74 s t st w).1 = nb s1 s1.now 7 (if s1.b s1.now 7 < c75 s1 then c75 s1 else s1.b s1.now 7) := by
    rw [hs1]
    exact c74_st
  have b1 : s1.b = s.b ∧ s1.now = s.now := by
    rw [hs1]
    have key : ∀ s2 : cS, (tad s2 (.s 14) t st 0 0).1.b = s2.b ∧ (tad s2 (.s 14) t st 0 0).1.now = s2.now := fun s2 => by
      unfold tad
      split <;> exact ⟨rfl, rfl⟩
    split
    · exact key s
    · obtain ⟨k1, k2⟩ := key (c76 s 16 w).1
      refine ⟨k1.trans ?_, k2.trans ((fr_c76 s 16 w).2.2.2.1 rfl)⟩
      funext x j
      exact (fr_c76 s 16 w).2.2.1 x j (Nat.zero_testBit _)
  rw [e] at ec ⊢
  have e75 : c75 s1 = xn (f'.2.1 ++ f'.2.2.1).length := by
    rw [← ec]
    show s1.r (.s 14) - s1.b s1.now 9 = s1.r (.s 14) - (nb s1 s1.now 7 _).b s1.now 9
    rw [nb_eq]
    rfl
  rw [e75, b1.1, b1.2]
  refine ⟨fun x j hj => ?_, ?_, ?_⟩
  · by_cases c : x = s.now
    · rw [c, nb_eq, b1.1]
      exact upd_nt (by
        rcases hj with z | z
        · exact z
        · exact absurd c z)
    · rw [nb_ne c, b1.1]
  · rw [nb_eq, upd_at]
    rfl
  · show s1.now = s.now
    exact b1.2
/-- a local is declared on both sides -/
theorem FB.dcl {t st w c cl w' : Int32} {q : xR} (h : FB s k (sh (f :: r))) (hn : RN s k (f :: r)) (hz : SZ (f :: r)) (hp : f.2.2.1 = []) (hn' : RN (c74 s t st w).1 (k196 k t c cl w').1 (xd f q :: r)) (hz' : SZ (xd f q :: r)) : FB (c74 s t st w).1 (k196 k t c cl w').1 (sh (xd f q :: r)) := by
  obtain ⟨o1, o2, o3, o4⟩ := own_k hn hz
  obtain ⟨a1, a2, a3⟩ := XK.at hn hz
  have hzl : (kL r).length + f.2.1.length + 1 ≤ 1000000 := by
    have := hz'.kl
    rw [kL_xd] at this
    have e : (kL (f :: r)).length = (kL r).length + f.2.1.length := by
      show (kL r ++ f.2.1).length = _
      rw [List.length_append]
    omega
  have d := dc2_196 (k := k) (t := t) (c := c) (cl := cl) (w := w')
  have e58 := d.n58 a1 a2 a3 (by omega) hzl
  obtain ⟨b1, b2, -⟩ := c74_b hn'.1 hz'
  rw [o2] at b1 b2
  have el : ((xd f q).2.1 ++ (xd f q).2.2.1).length = f.2.1.length + 1 := by
    show ((f.2.1 ++ [q]) ++ f.2.2.1).length = _
    rw [hp, List.append_nil, List.length_append]
    rfl
  rw [el] at b2
  refine FB.b7 (f' := xd f q) (x0 := f.1 - 1) h (by omega) rfl (fun x j _ _ hj => b1 x j hj) b2 k196_e8 d.2.2.2.2.2.2.1 (fun j h1 h2 h3 => d.2.2.2.2.2.2.2 j (by omega)) (fun x hx => by rw [e58, upd_nt hx]) (fun hv => ?_) (fun h9 => by rw [e58, upd_at]; exact sm_mx h9 (by omega))
  rw [e58, upd_at, hv]
  have s1 : (shF f).2 = 0 := shF0 hp
  have s2 : (shF (xd f q)).2 = 0 := shF0 hp
  rw [s1, s2, mw0, mw0]
theorem CL.dcl {t st w c cl w' : Int32} {q : xR} (h : CL k (f :: r)) (hk : XK k (f :: r)) (hz : SZ (f :: r)) (hq : cl ≠ 0 ↔ q.2.1 &&& 4 ≠ 0) : CL (k196 k t c cl w').1 (xd f q :: r) := h.dc2 dc2_196 hk.a24 hz.kl hq k196_e8
/-- a local that waits is declared in the class -/
theorem FB.dcw {e : Nat} {t st w : Int32} {q : xR} (h : FB s k (sh (f :: r))) (hn : RN s k (f :: r)) (hz : SZ (f :: r)) (hx' : XC e (c74 s t st w).1 (xw f q :: r)) (hz' : SZ (xw f q :: r)) : FB (c74 s t st w).1 k (sh (xw f q :: r)) := by
  obtain ⟨o1, o2, o3, o4⟩ := own_k hn hz
  obtain ⟨b1, b2, -⟩ := c74_b hx' hz'
  rw [o2] at b1 b2
  have el : ((xw f q).2.1 ++ (xw f q).2.2.1).length = f.2.1.length + f.2.2.1.length + 1 := by
    show (f.2.1 ++ (f.2.2.1 ++ [q])).length = _
    rw [List.length_append, List.length_append]
    show f.2.1.length + (f.2.2.1.length + 1) = _
    omega
  have hl : f.2.1.length + f.2.2.1.length + 1 ≤ 1000000 := by
    have e : (fL (xw f q :: r)).length = (fL r).length + ((xw f q).2.1 ++ (xw f q).2.2.1).length := by
      show (fL r ++ ((xw f q).2.1 ++ (xw f q).2.2.1)).length = _
      rw [List.length_append]
    rw [el] at e
    unfold SZ at hz'
    omega
  rw [el] at b2
  refine FB.b7 (f' := xw f q) (x0 := f.1 - 1) h (by omega) rfl (fun x j _ _ hj => b1 x j hj) b2 id rfl (fun j _ _ _ => rfl) (fun x _ => rfl) (fun hv => ?_) id
  have s2 : (shF (xw f q)).2 = f.2.1.length + f.2.2.1.length + 1 := by
    show (if f.2.2.1 ++ [q] = [] then 0 else f.2.1.length + (f.2.2.1 ++ [q]).length) = _
    rw [if_neg (by intro z; exact absurd (congrArg List.length z) (by rw [List.length_append]; exact Nat.succ_ne_zero _)), List.length_append]
    show f.2.1.length + (f.2.2.1.length + 1) = _
    omega
  rw [s2, mw_mxn (Nat.succ_ne_zero _), hv]
  by_cases c : f.2.2.1 = []
  · rw [shF0 c, mw0]
  · have s1 : (shF f).2 = f.2.1.length + f.2.2.1.length := if_neg c
    have hp : 0 < f.2.2.1.length := List.length_pos_iff.mpr c
    rw [s1, mw_mxn (by omega), mxn_mxn (by omega) hl]
end CNB
