/-! HOW MUCH IS WRITTEN: counts of code on both sides -/
/-- as many rows in each function, while no name is wrong; d: how many more the class has in the function in hand -/
def NC (d : Int32) (s : cS) (k : kS) : Prop := (∀ x, 0 ≤ (s.r (.i x)).toInt) ∧ (k.1 8 = 0 → ∀ x : Nat, (x : Int) < (k.1 53).toInt → (s.r (.i (x + 1))).toInt < 1048576 → s.r (.i (x + 1)) = k.2 60 x + (if x + 1 = s.now then d else 0))
section NCS
variable {d d' : Int32} {s s' : cS} {k k' : kS} {X : List xF} {f : xF} {r : List xF}
theorem NC.same (h : NC d s k) (hr : ∀ x, s'.r (.i x) = s.r (.i x)) (hn : s'.now = s.now) (e8 : k'.1 8 = 0 → k.1 8 = 0) (e53 : k'.1 53 = k.1 53) (e60 : k'.2 60 = k.2 60) : NC d s' k' := by
  refine ⟨fun x => by rw [hr]; exact h.1 x, ?_⟩
  intro z x hx hl
  rw [hr] at hl ⊢
  rw [e60, hn]
  exact h.2 (e8 z) x (by rw [← e53]; exact hx) hl
theorem NC.eq (h : NC d s k) (e : d = d') : NC d' s k := by rw [← e]; exact h
theorem tad_ri {t : cT} {a b c e : Int32} : (tad s t a b c e).1.r t = if s.r t < 1048576 then s.r t + 1 else s.r t := by
  unfold tad
  by_cases z : s.r t < 1048576
  · rw [if_pos z, if_pos z]
    exact nt_r
  · rw [if_neg z, if_neg z]
theorem c78_now {a b c e : Int32} : (c78 s a b c e).1.now = s.now := by
  show (tad s (.i s.now) a b c e).1.now = s.now
  unfold tad
  split <;> rfl
/-- the class writes -/
theorem NC.cle {a b c e : Int32} (h : NC d s k) : NC (d + 1) (c78 s a b c e).1 k := by
  have i0 : (1048576 : Int32).toInt = 1048576 := rfl
  refine ⟨fun x => ?_, ?_⟩
  · by_cases c1 : x = s.now
    · have er : (c78 s a b c e).1.r (.i x) = if s.r (.i x) < 1048576 then s.r (.i x) + 1 else s.r (.i x) := by
        rw [c1]
        exact tad_ri
      have h0 := h.1 x
      rw [er]
      by_cases c2 : s.r (.i x) < 1048576
      · rw [if_pos c2]
        rw [i_lt] at c2
        rw [i_add rfl (show (1 : Int32).toInt = 1 from rfl) (by omega) (by omega)]
        omega
      · rw [if_neg c2]
        exact h0
    · have er : (c78 s a b c e).1.r (.i x) = s.r (.i x) := tad_rn (fun q => c1 (Sum.inl.inj (Sum.inr.inj q)))
      rw [er]
      exact h.1 x
  intro z x hx hl
  rw [c78_now]
  by_cases c1 : x + 1 = s.now
  · rw [if_pos c1]
    have er : (c78 s a b c e).1.r (.i (x + 1)) = if s.r (.i (x + 1)) < 1048576 then s.r (.i (x + 1)) + 1 else s.r (.i (x + 1)) := by
      rw [c1]
      exact tad_ri
    rw [er] at hl ⊢
    by_cases c2 : s.r (.i (x + 1)) < 1048576
    · rw [if_pos c2] at hl ⊢
      have q := h.2 z x hx (by rw [i_lt] at c2; omega)
      rw [if_pos c1] at q
      rw [q, Int32.add_assoc]
    · rw [if_neg c2] at hl
      rw [i_lt] at c2
      omega
  · rw [if_neg c1]
    have er : (c78 s a b c e).1.r (.i (x + 1)) = s.r (.i (x + 1)) := tad_rn (fun q => c1 (Sum.inl.inj (Sum.inr.inj q)))
    rw [er] at hl ⊢
    have q := h.2 z x hx hl
    rw [if_neg c1] at q
    exact q
/-- whose the reference's rows are -/
theorem own_k (h : RN s k (f :: r)) (hz : SZ (f :: r)) : kr k 33 (k.1 32) = xn (f.1 - 1) ∧ s.now = f.1 ∧ 1 ≤ f.1 ∧ f.1 ≤ 1000000 := by
  obtain ⟨n, n1, n2, n3⟩ := h.2.2.2.2.2.1
  have e := XKF.at h.2.1.2.2.2.2.2 (fun g hg => ⟨(n3 g hg).1, by have := (n3 g hg).2; omega⟩) [] f r rfl
  have e32 : k.1 32 = xn r.length := h.2.1.a32 hz
  have hl : (f :: r).length = r.length + 1 := rfl
  have zg : (f :: r).length ≤ 1000000 := by unfold SZ at hz; omega
  refine ⟨?_, h.1.2.2.2.2.2.2.2 f r rfl, (n3 f List.mem_cons_self).1, by have := (n3 f List.mem_cons_self).2; omega⟩
  rw [e32]
  show k.2 33 (xn r.length).toNatClampNeg = _
  rw [xn_nat (by omega)]
  exact e
theorem k189_60 {a b c e : Int32} : (k189 k a b c e).1.2 60 = upd (k.2 60) (kr k 33 (k.1 32)).toNatClampNeg (kr k 60 (kr k 33 (k.1 32)) + 1) := by
  unfold k189
  split
  · rfl
  · rfl
/-- the reference writes -/
theorem NC.put {a b c e : Int32} (h : NC d s k) (hn : RN s k (f :: r)) (hz : SZ (f :: r)) : NC (d - 1) s (k189 k a b c e).1 := by
  obtain ⟨o1, o2, o3, o4⟩ := own_k hn hz
  have hf := fr_k189 k a b c e
  have ix : (kr k 33 (k.1 32)).toNatClampNeg = f.1 - 1 := by rw [o1]; exact xn_nat (by omega)
  have e60 : (k189 k a b c e).1.2 60 = upd (k.2 60) (f.1 - 1) (k.2 60 (f.1 - 1) + 1) := by
    rw [k189_60, ix]
    show upd (k.2 60) (f.1 - 1) (k.2 60 (kr k 33 (k.1 32)).toNatClampNeg + 1) = _
    rw [ix]
  refine ⟨h.1, ?_⟩
  intro z x hx hl
  rw [hf.1 8 rfl] at z
  rw [hf.1 53 rfl] at hx
  have q := h.2 z x hx hl
  rw [e60]
  by_cases c1 : x + 1 = s.now
  · rw [if_pos c1] at q ⊢
    have ex : x = f.1 - 1 := by omega
    rw [q, ex]
    unfold upd
    rw [if_pos rfl, Int32.add_assoc]
    congr 1
    rw [Int32.add_comm, Int32.sub_add_cancel]
  · rw [if_neg c1] at q ⊢
    rw [q]
    unfold upd
    rw [if_neg (by omega)]
/-- a fault of a name: nothing is asked any more -/
theorem NC.bad (h : NC d s k) (hr : ∀ x, s'.r (.i x) = s.r (.i x)) (h8 : k'.1 8 ≠ 0) : NC d' s' k' := ⟨fun x => by rw [hr]; exact h.1 x, fun z => absurd z h8⟩
/-- the last row that the class wrote -/
theorem c97_78 {a b c e : Int32} (h0 : 0 ≤ (s.r (.i s.now)).toInt) (hl : ((c78 s a b c e).1.r (.i s.now)).toInt < 1048576) : c97 (c78 s a b c e).1 = a := by
  have i0 : (1048576 : Int32).toInt = 1048576 := rfl
  have er : (c78 s a b c e).1.r (.i s.now) = if s.r (.i s.now) < 1048576 then s.r (.i s.now) + 1 else s.r (.i s.now) := tad_ri
  have c2 : s.r (.i s.now) < 1048576 := by
    by_cases c2 : s.r (.i s.now) < 1048576
    · exact c2
    · rw [er, if_neg c2] at hl
      rw [i_lt] at c2
      omega
  rw [if_pos c2] at er
  rw [i_lt] at c2
  obtain ⟨n, hn⟩ : ∃ n : Nat, (s.r (.i s.now)).toInt = n := ⟨(s.r (.i s.now)).toInt.toNat, by omega⟩
  have ht : TR s (.i s.now) ((List.range n).map (fun i => (s.c (.i s.now) (4 * i), s.c (.i s.now) (4 * i + 1), s.c (.i s.now) (4 * i + 2), s.c (.i s.now) (4 * i + 3)))) := by
    refine ⟨by rw [List.length_map, List.length_range]; exact hn, fun i q hq => ?_⟩
    rw [List.getElem?_map] at hq
    cases hg : (List.range n)[i]? with
    | none => rw [hg] at hq; cases hq
    | some j =>
      rw [hg] at hq
      have ej : j = i := by
        obtain ⟨w1, w2⟩ := List.getElem?_eq_some_iff.mp hg
        rw [List.getElem_range] at w2
        exact w2.symm
      cases hq
      rw [ej]
      exact ⟨rfl, rfl, rfl, rfl⟩
  have ln : ((List.range n).map (fun i => ((s.c (.i s.now) (4 * i), s.c (.i s.now) (4 * i + 1), s.c (.i s.now) (4 * i + 2), s.c (.i s.now) (4 * i + 3)) : xR))).length = n := by rw [List.length_map, List.length_range]
  obtain ⟨l, ht, ln⟩ : ∃ l, TR s (.i s.now) l ∧ l.length = n := ⟨_, ht, ln⟩
  have t1 := (ht.add (a := a) (b := b) (c := c) (d := e) (by omega)).1
  unfold c97 c98
  rw [c78_now]
  have e1 : (c78 s a b c e).1.r (.i s.now) - 1 = s.r (.i s.now) := by rw [er, Int32.add_sub_cancel]
  rw [e1]
  have gq : (l ++ [(a, b, c, e)])[n]? = some (a, b, c, e) := by
    rw [← ln, List.getElem?_append_right (Nat.le_refl _), Nat.sub_self]
    rfl
  exact t1.g0 hn gq
end NCS
/-! OPERATORS THAT WAIT: the class's table and the reference's bounds -/
def KLs : List Int32 := [10, 25, 40, 41, 42, 43, 44, 45, 47, 48, 49, 50, 51, 52, 53, 54, 55, 56, 57, 58, 71]
theorem op_mem {s : cS} {K : Int32} (h : c106 s K ≠ 0) : K ∈ KLs := by
  unfold c106 at h
  unfold KLs
  simp only [List.mem_cons, List.not_mem_nil, or_false]
  by_cases h0 : K = 10
  · exact Or.inl h0
  by_cases h1 : K = 25
  · exact Or.inr (Or.inl h1)
  by_cases h2 : K = 40
  · simp [h2]
  by_cases h3 : K = 41
  · simp [h3]
  by_cases h4 : K = 42
  · simp [h4]
  by_cases h5 : K = 43
  · simp [h5]
  by_cases h6 : K = 44
  · simp [h6]
  by_cases h7 : K = 45
  · simp [h7]
  by_cases h8 : K = 47
  · simp [h8]
  by_cases h9 : K = 48
  · simp [h9]
  by_cases h10 : K = 49
  · simp [h10]
  by_cases h11 : K = 50
  · simp [h11]
  by_cases h12 : K = 51
  · simp [h12]
  by_cases h13 : K = 52
  · simp [h13]
  by_cases h14 : K = 53
  · simp [h14]
  by_cases h15 : K = 54
  · simp [h15]
  by_cases h16 : K = 55
  · simp [h16]
  by_cases h17 : K = 56
  · simp [h17]
  by_cases h18 : K = 57
  · simp [h18]
  by_cases h19 : K = 58
  · simp [h19]
  by_cases h20 : K = 71
  · simp [h20]
  rw [if_neg h0, if_neg h1, if_neg h2, if_neg h3, if_neg h4, if_neg h5, if_neg h6, if_neg h7, if_neg h8, if_neg h9, if_neg h10, if_neg h11, if_neg h12, if_neg h13, if_neg h14, if_neg h15, if_neg h16, if_neg h17, if_neg h18, if_neg h19, if_neg h20] at h
  exact absurd rfl h
/-- from which rank on the class takes away what waits when K comes -/
def thr (s : cS) (K : Int32) : Int32 := if c107 s K = 0 then c106 s K else c106 s K + 1
def RKr (lim rank : Int32) : Prop := 0 ≤ rank ∧ ∀ (s : cS) (k : kS) (K : Int32), c106 s K ≠ 0 → (rank < thr s K ↔ lim < k203 k K)
theorem rk_all : ∀ J ∈ KLs, ∀ K ∈ KLs, (c106 (default : cS) J < thr (default : cS) K ↔ k208 (default : kS) J < k203 (default : kS) K) := by decide +kernel
theorem rk_all1 : ∀ K ∈ KLs, ((11 : Int32) < thr (default : cS) K ↔ (12 : Int32) < k203 (default : kS) K) := by decide +kernel
theorem rk_all0 : ∀ J ∈ KLs, 0 ≤ c106 (default : cS) J := by decide +kernel
theorem rk_un : RKr 12 11 := ⟨by decide, fun s k K h => rk_all1 K (op_mem h)⟩
theorem rk_op {s : cS} {k : kS} {J : Int32} (h : c106 s J ≠ 0) : RKr (k208 k J) (c106 s J) := ⟨rk_all0 J (op_mem h), fun s' k' K h' => rk_all J (op_mem h) K (op_mem h')⟩
/-- what is written when an operator is taken away -/
def opE (w : xR) : Int32 := if w.2.1 = 10 ∨ w.2.1 = 25 then 0 else 1
def opS : List xR → Int32
  | [] => 0
  | w :: Q => opE w + opS Q
def kpE (q : Int32 × Int32) : Int32 := if q.2 = 26 then 0 else 1
def kpS : List (Int32 × Int32) → Int32
  | [] => 0
  | q :: G => kpE q + kpS G
/-- the same operators wait -/
def OTq : List (Int32 × Int32) → List xR → Prop
  | [], [] => True
  | q :: G, w :: Q => RKr q.1 w.1 ∧ (q.2 = 26 ↔ w.2.1 = 10 ∨ w.2.1 = 25) ∧ OTq G Q
  | _, _ => False
theorem OTq.len : ∀ {G : List (Int32 × Int32)} {Q : List xR}, OTq G Q → G.length = Q.length := by
  intro G
  induction G with
  | nil =>
    intro Q h
    cases Q with
    | nil => rfl
    | cons w Q => exact h.elim
  | cons q G ih =>
    intro Q h
    cases Q with
    | nil => exact h.elim
    | cons w Q =>
      show G.length + 1 = Q.length + 1
      rw [ih h.2.2]
theorem OTq.all : ∀ {G : List (Int32 × Int32)} {Q : List xR}, OTq G Q → kpS G = opS Q := by
  intro G
  induction G with
  | nil =>
    intro Q h
    cases Q with
    | nil => rfl
    | cons w Q => exact h.elim
  | cons q G ih =>
    intro Q h
    cases Q with
    | nil => exact h.elim
    | cons w Q =>
      show kpE q + kpS G = opE w + opS Q
      rw [ih h.2.2]
      congr 1
      unfold kpE opE
      by_cases c : q.2 = 26
      · rw [if_pos c, if_pos (h.2.1.mp c)]
      · rw [if_neg c, if_neg (fun z => c (h.2.1.mpr z))]
/-- both take the same ones away -/
theorem OTq.cut {s : cS} {k : kS} {K : Int32} (hK : c106 s K ≠ 0) : ∀ {G1 G2 : List (Int32 × Int32)} {Q1 Q2 : List xR}, OTq (G1 ++ G2) (Q1 ++ Q2) → (∀ q ∈ G1, ¬ q.1 < k203 k K) → (∀ q G3, G2 = q :: G3 → q.1 < k203 k K) → (∀ w ∈ Q1, ¬ w.1 < thr s K) → (∀ w Q3, Q2 = w :: Q3 → w.1 < thr s K) → OTq G2 Q2 ∧ kpS G1 = opS Q1 := by
  intro G1
  induction G1 with
  | nil =>
    intro G2 Q1 Q2 h g1 g2 q1 q2
    cases Q1 with
    | nil => exact ⟨h, rfl⟩
    | cons w Q1 =>
      cases G2 with
      | nil => exact h.elim
      | cons q G2 =>
        have z := (h.1.2 s k K hK).mpr (g2 q G2 rfl)
        exact absurd z (q1 w List.mem_cons_self)
  | cons q G1 ih =>
    intro G2 Q1 Q2 h g1 g2 q1 q2
    cases Q1 with
    | nil =>
      cases Q2 with
      | nil => exact h.elim
      | cons w Q2 =>
        have z := (h.1.2 s k K hK).mp (q2 w Q2 rfl)
        exact absurd z (g1 q List.mem_cons_self)
    | cons w Q1 =>
      obtain ⟨r1, r2⟩ := ih h.2.2 (fun p hp => g1 p (List.mem_cons_of_mem _ hp)) g2 (fun p hp => q1 p (List.mem_cons_of_mem _ hp)) q2
      refine ⟨r1, ?_⟩
      show kpE q + kpS G1 = opE w + opS Q1
      rw [r2]
      congr 1
      unfold kpE opE
      by_cases c : q.2 = 26
      · rw [if_pos c, if_pos (h.2.1.mp c)]
      · rw [if_neg c, if_neg (fun z => c (h.2.1.mpr z))]
section RED
variable {k : kS} {P : List xR} {y2 : Int32}
theorem ts_ri {s : cS} {t : cT} {a b c : Int32} {x : Nat} : (ts s t a b c).r (.i x) = s.r (.i x) ∧ (ts s t a b c).now = s.now := by
  unfold ts
  split
  · exact ⟨rfl, rfl⟩
  · split
    · exact ⟨rfl, rfl⟩
    · split
      · exact ⟨rfl, rfl⟩
      · split
        · exact ⟨rfl, rfl⟩
        · refine ⟨?_, rfl⟩
          by_cases e : cT.i x = t
          · rw [e]
            exact nt_r
          · exact nt_rn e
theorem tct_ri {s : cS} {b : Nat} {n : Int32} {x : Nat} : (tct s (.s b) n).r (.i x) = s.r (.i x) := (tct_r (fun z => by cases z)).1
/-- the class takes away what binds at least so strongly -/
theorem c108_go : ∀ (Q : List xR) (s : cS) (d v : Int32), TR s (.s 8) (P ++ Q.reverse) → (P ++ Q.reverse).length ≤ 1000000 → v.toInt + 1 = (P.length + Q.length : Nat) → NC d s k → ∃ m Q1 Q2 s' v', Q = Q1 ++ Q2 ∧ (∀ w ∈ Q1, ¬ w.1 < y2) ∧ (∀ w Q3, Q2 = w :: Q3 → w.1 < y2) ∧ kwh (c108b10 (xn P.length) y2) m (s, v) = (1, (s', v')) ∧ TR s' (.s 8) (P ++ Q2.reverse) ∧ NC (d + opS Q1) s' k := by
  intro Q
  induction Q with
  | nil =>
    intro s d v h hz hv hn
    have hz' : P.length ≤ 1000000 := by rw [List.length_append] at hz; omega
    have hv' : v.toInt + 1 = P.length := hv
    have e : c108b10 (xn P.length) y2 (s, v) = (1, (s, v)) := by
      unfold c108b10
      rw [if_pos (by show v < xn P.length; rw [i_lt, xn_i (by omega)]; omega)]
    refine ⟨1, [], [], s, v, rfl, fun w hw => absurd hw List.not_mem_nil, fun w Q3 q => (nomatch q), by rw [kwh_out (by rw [e]; exact Nat.succ_ne_zero _), e], h, ?_⟩
    exact hn.eq (Int32.add_zero d).symm
  | cons w Q ih =>
    intro s d v h hz hv hn
    have lr : (P ++ (w :: Q).reverse).length = P.length + Q.length + 1 := by
      rw [List.length_append, List.length_reverse]
      rfl
    have er : P ++ (w :: Q).reverse = (P ++ Q.reverse) ++ [w] := by rw [List.reverse_cons, List.append_assoc]
    have lq : (P ++ Q.reverse).length = P.length + Q.length := by rw [List.length_append, List.length_reverse]
    have hv' : v.toInt = (P.length + Q.length : Nat) := by
      have e1 : (w :: Q).length = Q.length + 1 := rfl
      omega
    have gw : (P ++ (w :: Q).reverse)[P.length + Q.length]? = some w := by
      rw [er, ← lq, List.getElem?_append_right (Nat.le_refl _), Nat.sub_self]
      rfl
    have g0 : tg s (.s 8) v 0 = w.1 := h.g0 hv' gw
    have g1 : tg s (.s 8) v 1 = w.2.1 := h.g1 hv' gw
    have nlt : ¬ v < xn P.length := by rw [i_lt, xn_i (by omega), hv']; omega
    by_cases c1 : w.1 < y2
    · have e : c108b10 (xn P.length) y2 (s, v) = (1, (s, v)) := by
        unfold c108b10
        dsimp only
        rw [if_neg nlt, g0, if_pos c1]
      refine ⟨1, [], w :: Q, s, v, rfl, fun w hw => absurd hw List.not_mem_nil, fun w' Q3 q => by cases q; exact c1, by rw [kwh_out (by rw [e]; exact Nat.succ_ne_zero _), e], h, ?_⟩
      exact hn.eq (Int32.add_zero d).symm
    · have step : ∃ s1, c108b10 (xn P.length) y2 (s, v) = (0, (tct s1 (.s 8) v, v + (-1))) ∧ TR s1 (.s 8) (P ++ (w :: Q).reverse) ∧ NC (d + opE w) s1 k := by
        have pat : ∀ a b, (w.2.1 = 10 ∨ w.2.1 = 25) → TR (c109 s s.now a b).1 (.s 8) (P ++ (w :: Q).reverse) ∧ NC (d + opE w) (c109 s s.now a b).1 k := fun a b hw => by
          refine ⟨h.fr (fr_c109 s s.now a b) (Nat.zero_testBit _), ?_⟩
          have e0 : opE w = 0 := by unfold opE; rw [if_pos hw]
          rw [e0, Int32.add_zero]
          exact hn.same (fun x => (ts_ri (x := x)).1) (ts_ri (x := 0)).2 id rfl rfl
        have wri : ∀ a b c e, ¬ (w.2.1 = 10 ∨ w.2.1 = 25) → TR (c78 s a b c e).1 (.s 8) (P ++ (w :: Q).reverse) ∧ NC (d + opE w) (c78 s a b c e).1 k := fun a b c e hw => by
          refine ⟨h.fr (fr_c78 s a b c e) (Nat.zero_testBit _), ?_⟩
          have e1 : opE w = 1 := by unfold opE; rw [if_neg hw]
          rw [e1]
          exact hn.cle
        unfold c108b10
        dsimp only
        rw [if_neg nlt, g0, if_neg c1, g1]
        by_cases c2 : w.2.1 = 10
        · rw [if_pos c2]
          exact ⟨_, rfl, pat _ _ (Or.inl c2)⟩
        · rw [if_neg c2]
          by_cases c3 : w.2.1 = 25
          · rw [if_neg (fun z => z c3)]
            exact ⟨_, rfl, pat _ _ (Or.inr c3)⟩
          · rw [if_pos c3]
            have no : ¬ (w.2.1 = 10 ∨ w.2.1 = 25) := fun z => z.elim c2 c3
            by_cases c4 : w.2.1 = 24
            · rw [if_neg (fun z => z c4)]
              exact ⟨_, rfl, wri _ _ _ _ no⟩
            · rw [if_pos c4]
              by_cases c5 : w.1 = 11
              · rw [if_neg (fun z => z c5)]
                exact ⟨_, rfl, wri _ _ _ _ no⟩
              · rw [if_pos c5]
                exact ⟨_, rfl, wri _ _ _ _ no⟩
      obtain ⟨s1, e, t1, n1⟩ := step
      have t2 : TR (tct s1 (.s 8) v) (.s 8) (P ++ Q.reverse) := by
        have z := t1.cut (n := v) (k := P.length + Q.length) hv' (by omega)
        rw [er, ← lq, List.take_left] at z
        exact z
      have n2 : NC (d + opE w) (tct s1 (.s 8) v) k := n1.same (fun x => tct_ri) tct_o.2.2.1 id rfl rfl
      have v1 : (v + (-1)).toInt = v.toInt - 1 := by
        have := i_add (x := v) (y := -1) rfl (show (-1 : Int32).toInt = -1 from rfl) (by omega) (by omega)
        omega
      obtain ⟨m, Q1, Q2, s', v', r1, r2, r3, r4, r5, r6⟩ := ih (tct s1 (.s 8) v) (d + opE w) (v + (-1)) t2 (by omega) (by omega) n2
      refine ⟨m + 1, w :: Q1, Q2, s', v', by rw [r1]; rfl, fun p hp => ?_, r3, by rw [kwh_go (by rw [e]), e]; exact r4, r5, ?_⟩
      · rcases List.mem_cons.mp hp with z | z
        · rw [z]
          exact c1
        · exact r2 p z
      · refine r6.eq ?_
        show d + opE w + opS Q1 = d + (opE w + opS Q1)
        rw [Int32.add_assoc]
/-- as a whole -/
theorem c108_all {Q : List xR} {s : cS} {d y1 : Int32} (h : TR s (.s 8) (P ++ Q.reverse)) (hz : (P ++ Q.reverse).length ≤ 1000000) (hy : y1 = xn P.length) (hn : NC d s k) : ∃ Q1 Q2, Q = Q1 ++ Q2 ∧ (∀ w ∈ Q1, ¬ w.1 < y2) ∧ (∀ w Q3, Q2 = w :: Q3 → w.1 < y2) ∧ TR (c108 s y1 y2).1 (.s 8) (P ++ Q2.reverse) ∧ NC (d + opS Q1) (c108 s y1 y2).1 k := by
  have lq : (P ++ Q.reverse).length = P.length + Q.length := by rw [List.length_append, List.length_reverse]
  have er : s.r (.s 8) = xn (P.length + Q.length) := xn_eq (by rw [h.1, lq]) (by omega)
  have ev : (s.r (.s 8) - 1).toInt + 1 = (P.length + Q.length : Nat) := by
    rw [er, i_sub (xn_i (by omega)) (show (1 : Int32).toInt = 1 from rfl) (by omega) (by omega)]
    omega
  obtain ⟨m, Q1, Q2, s', v', r1, r2, r3, r4, r5, r6⟩ := c108_go (k := k) (P := P) (y2 := y2) Q s d (s.r (.s 8) - 1) h hz ev hn
  have ek : (c108 s y1 y2).1 = s' := by
    unfold c108
    rw [hy, kfin_of ⟨m, r4⟩ (Nat.succ_ne_zero 0)]
  rw [ek]
  exact ⟨Q1, Q2, r1, r2, r3, r5, r6⟩
end RED
