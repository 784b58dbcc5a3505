/-! THE WALK OVER BOTH: assignments and calls -/
section ASG
variable {L : List xR} {P : PT} {P3 : List hE} {Q0 : List xR} {k0 k k' : kS} {T V W a t v w n : Nat} {s s' : cS} {X X' : List xF} {f : xF} {r : List xF} {x y z y1 y2 y3 y4 p : Int32} {rc : cRC}
theorem SGp.wai (h : SG L P k0 T V W a s k X t v w) {F A : Nat} {w' : Nat} (f : kFr F A k k') (h20 : k'.1 20 = xn w') (hw : w' ≤ a) (hb : KB T V W k k') (k1 : F &&& 299768897608095925617 = 0 := by rfl) (k2 : A &&& 18587391190861254492166 = 0 := by rfl) : SG L P k0 T V W a s k' X t v w' := by
  have tb : ∀ (A M j : Nat), A &&& M = 0 → M.testBit j = true → A.testBit j = false := fun A M j ez hj => by
    have := congrArg (fun q => q.testBit j) ez
    simp only [Nat.testBit_and, hj, Bool.and_true, Nat.zero_testBit] at this
    exact this
  have sub : ∀ (A M N : Nat), A &&& M = 0 → M &&& N = N → A &&& N = 0 := fun A M N e1 e2 => by
    rw [← e2, ← Nat.and_assoc, e1, Nat.zero_and]
  exact ⟨h.1.fr (cFr.refl (F := 0) (T := 0) (B := 0) (G := 0)) f rfl rfl rfl rfl (sub _ _ _ k1 rfl) k2, ⟨(f.1 10 (tb _ _ 10 k1 (by decide))).trans h.2.1.1, (f.1 15 (tb _ _ 15 k1 (by decide))).trans h.2.1.2.1, h20⟩, h.2.2.1.trans hb, hw, h.2.2.2.2⟩
/-- something more waits -/
theorem SGp.kee (h : SG L P k0 T V W a s k X t v w) (hW : W ≤ w) (hw : w + 1 ≤ a) : SG L P k0 T V W a s (k239 k x y z).1 X t v (w + 1) := by
  have hle := h.le
  have ix : (k.1 20).toNatClampNeg = w := by rw [h.2.1.2.2]; exact xn_nat (by omega)
  have e20 : (k239 k x y z).1.1 20 = xn (w + 1) := by
    show k.1 20 + 1 = _
    rw [h.2.1.2.2, xn_succ (by omega)]
  refine h.wai (fr_k239 k x y z) e20 hw ⟨fun j i hj hi => ?_, fun j i hj hi => ?_, fun j i hj hi => ?_⟩
  · rcases hj with rfl | rfl | rfl | rfl <;> rfl
  · rcases hj with rfl | rfl | rfl <;> rfl
  · rcases hj with rfl | rfl | rfl
    · show upd (k.2 21) (k.1 20).toNatClampNeg x i = _
      rw [ix]; exact if_neg (by omega)
    · show upd (k.2 22) (k.1 20).toNatClampNeg y i = _
      rw [ix]; exact if_neg (by omega)
    · show upd (k.2 23) (k.1 20).toNatClampNeg z i = _
      rw [ix]; exact if_neg (by omega)
theorem RWp.stf {δ : Dw} (h : RWp (some (n, false)) δ L a s k X) (hn : k.2 16 n ≠ 3) : RWp none δ L a s k X := by
  refine ⟨h.1, h.2.1, h.2.2.1, h.2.2.2.1, h.2.2.2.2.1, ?_, h.2.2.2.2.2.2.1, h.2.2.2.2.2.2.2⟩
  rcases h.2.2.2.2.2.1 with z | z
  · exact z.2
  · exact absurd z.1 hn
theorem SGp.stf {δ : Df} (h : SGp (some (n, false)) δ L P k0 T V W a s k X t v w) (hn : k.2 16 n ≠ 3) : SGp none δ L P k0 T V W a s k X t v w := ⟨h.1.stf hn, h.2⟩
/-- a target more in the class -/
theorem SGp.tga {x1 x2 x3 x4 : Int32} {P1 P2 : List xR} (h : SG L (P1, P2, P3) k0 T V W a s k X t v w) (hl : P2.length + 1 ≤ a) : SG L (P1, P2 ++ [(x1, x2, x3, x4)], P3) k0 T V W a (tad s (.s 10) x1 x2 x3 x4).1 k X t v w := by
  have hle := h.le
  have fc : cFr 0 1024 0 0 s (tad s (.s 10) x1 x2 x3 x4).1 := cFr.refl.tads rfl
  have t8 := fc.2.1 8 rfl
  refine ⟨h.1.fr fc (kFr.refl (F := 0) (A := 0)), h.2.1, h.2.2.1, h.2.2.2.1, ⟨h.2.2.2.2.1.1.same t8.1 t8.2, (h.2.2.2.2.1.2.add (by have := h.2.2.2.2.2.2; show P2.length < _; omega)).1⟩, h.2.2.2.2.2.1, ?_⟩
  show (P2 ++ [(x1, x2, x3, x4)]).length ≤ a
  rw [List.length_append]
  exact hl
/-- the targets on both sides -/
def twq (k : kS) (j : Nat) (q : xR) : Prop := (3 ≤ k.2 21 j ↔ q.1 = 32) ∧ q.2.2.1 = k.2 23 j ∧ (q.1 ≠ 32 → q.1 = 29 + k.2 21 j ∧ q.2.1 = k.2 22 j) ∧ wfo q.1 = true
def TW (k : kS) (w : Nat) (Q : List xR) : Prop := ∀ (i : Nat) (q : xR), Q[i]? = some q → twq k (w + i) q
theorem twq.same {q : xR} {j : Nat} (h : twq k j q) (e21 : k'.2 21 j = k.2 21 j) (e22 : k'.2 22 j = k.2 22 j) (e23 : k'.2 23 j = k.2 23 j) : twq k' j q := by
  unfold twq
  rw [e21, e22, e23]
  exact h
theorem TW.same {Q : List xR} (h : TW k w Q) (e : ∀ i, i < w + Q.length → k'.2 21 i = k.2 21 i ∧ k'.2 22 i = k.2 22 i ∧ k'.2 23 i = k.2 23 i) : TW k' w Q := fun i q hq => by
  have z := e (w + i) (by have := (List.getElem?_eq_some_iff.mp hq).1; omega)
  exact (h i q hq).same z.1 z.2.1 z.2.2
theorem TW.snoc {Q : List xR} {q : xR} (h : TW k w Q) (e : ∀ i, i < w + Q.length → k'.2 21 i = k.2 21 i ∧ k'.2 22 i = k.2 22 i ∧ k'.2 23 i = k.2 23 i) (hq : twq k' (w + Q.length) q) : TW k' w (Q ++ [q]) := fun i p hp => by
  by_cases c : i < Q.length
  · rw [List.getElem?_append_left c] at hp
    have z := e (w + i) (by omega)
    exact (h i p hp).same z.1 z.2.1 z.2.2
  · have hi := (List.getElem?_eq_some_iff.mp hp).1
    rw [List.length_append] at hi
    have e1 : [q].length = 1 := rfl
    have ei : i = Q.length := by omega
    rw [ei, List.getElem?_append_right (Nat.le_refl _), Nat.sub_self] at hp
    cases hp
    rw [ei]
    exact hq
/-- the rows that store into targets, the last target first -/
def trow (Q : List xR) : Nat → Nat → List xR
  | _, 0 => []
  | c, n + 1 => match Q[n]? with
    | none => []
    | some q => if q.1 = 32 then (32, 2 * xn c + xn n, 0, q.2.2.1) :: trow Q (c + 1) n else (q.1, q.2.1, 0, q.2.2.1) :: trow Q c n
theorem trow_y {Q : List xR} {c n : Nat} {q : xR} (h : Q[n]? = some q) (h3 : q.1 = 32) : trow Q c (n + 1) = (32, 2 * xn c + xn n, 0, q.2.2.1) :: trow Q (c + 1) n := by
  rw [trow, h]
  exact if_pos h3
theorem trow_n {Q : List xR} {c n : Nat} {q : xR} (h : Q[n]? = some q) (h3 : q.1 ≠ 32) : trow Q c (n + 1) = (q.1, q.2.1, 0, q.2.2.1) :: trow Q c n := by
  rw [trow, h]
  exact if_neg h3
theorem trow_w {Q : List xR} (h : ∀ q ∈ Q, wfo q.1 = true) : ∀ {n c : Nat}, wfl (trow Q c n) := by
  intro n
  induction n with
  | zero => intro c; exact wfl_0
  | succ n ih =>
    intro c
    cases hq : Q[n]? with
    | none => rw [trow, hq]; exact wfl_0
    | some q =>
      by_cases c3 : q.1 = 32
      · rw [trow_y hq c3]
        exact wfl_c (wfa_o rfl) ih
      · rw [trow_n hq c3]
        exact wfl_c (wfa_o (h q (List.mem_of_getElem? hq))) ih
/-- how many of the first n -/
def cbn (g : Nat → Bool) : Nat → Nat
  | 0 => 0
  | n + 1 => (if g n then 1 else 0) + cbn g n
theorem cbn_le {g : Nat → Bool} : ∀ {n : Nat}, cbn g n ≤ n := by
  intro n
  induction n with
  | zero => exact Nat.le_refl _
  | succ n ih =>
    show (if g n then 1 else 0) + cbn g n ≤ n + 1
    split <;> omega
theorem xn_m1 {m : Nat} (h : m ≤ 1000000) : (xn (m + 1) + (-1)).toInt = m := by
  have := i_add (x := xn (m + 1)) (y := -1) (xn_i (by omega)) (show (-1 : Int32).toInt = -1 from rfl) (by omega) (by omega)
  omega
/-- targets are stored: the class's loop -/
theorem ctz_go {P1 P2 Q : List xR} (hQ : (P2 ++ Q).length ≤ 100000) : ∀ (n : Nat) (δ : Df) (s : cS) (c : Nat) (u : Int32), SGp none δ L (P1, P2 ++ Q, P3) k0 T V W a s k X t v w → n ≤ Q.length → u.toInt + 1 = (P2.length + n : Nat) → c + n ≤ 200000 → ∃ m s' u', kwh (c118b12 (xn P2.length)) m (s, xn c, u) = (1, (s', xn (c + cbn (fun i => decide ((Q[i]?.map (fun q => q.1)) = some 32)) n), u')) ∧ SGp none (δ.1 ++ trow Q c n, δ.2) L (P1, P2 ++ Q, P3) k0 T V W a s' k X t v w := by
  have hlen : (P2 ++ Q).length = P2.length + Q.length := List.length_append
  intro n
  induction n with
  | zero =>
    intro δ s c u h hn hu hc
    have e : c118b12 (xn P2.length) (s, xn c, u) = (1, (s, xn c, u)) := by
      unfold c118b12
      rw [if_pos (by show u < xn P2.length; rw [i_lt, xn_i (by omega)]; omega)]
    exact ⟨1, s, u, by rw [kwh_out (by rw [e]; exact Nat.succ_ne_zero _), e]; rfl, h.eq (by show δ = (δ.1 ++ [], δ.2); rw [List.append_nil])⟩
  | succ n ih =>
    intro δ s c u h hn hu hc
    have hun : u.toInt = (P2.length + n : Nat) := by omega
    have hi : n < Q.length := by omega
    have gq : (P2 ++ Q)[P2.length + n]? = some (Q[n]'hi) := by
      rw [List.getElem?_append_right (by omega), Nat.add_sub_cancel_left, List.getElem?_eq_getElem hi]
    have g0 : tg s (.s 10) u 0 = (Q[n]'hi).1 := h.2.2.2.2.1.2.g0 hun gq
    have g1 : tg s (.s 10) u 1 = (Q[n]'hi).2.1 := h.2.2.2.2.1.2.g1 hun gq
    have g2 : tg s (.s 10) u 2 = (Q[n]'hi).2.2.1 := h.2.2.2.2.1.2.g2 hun gq
    have hqn : Q[n]? = some (Q[n]'hi) := List.getElem?_eq_getElem hi
    have eu : u = xn n + xn P2.length := by
      rw [xn_add (by omega)]
      exact xn_eq (by rw [hun]; omega) (by omega)
    have u1 : (u + (-1)).toInt + 1 = (P2.length + n : Nat) := by
      have := i_add (x := u) (y := -1) rfl (show (-1 : Int32).toInt = -1 from rfl) (by omega) (by omega)
      omega
    have nlt : ¬ u < xn P2.length := by rw [i_lt, xn_i (by omega)]; omega
    have eg : (fun i => decide ((Q[i]?.map (fun q => q.1)) = some 32)) n = decide ((Q[n]'hi).1 = 32) := by
      show decide ((Q[n]?.map (fun q => q.1)) = some 32) = _
      rw [List.getElem?_eq_getElem hi]
      by_cases c3 : (Q[n]'hi).1 = 32
      · rw [decide_eq_true c3, decide_eq_true (by rw [Option.map_some, c3])]
      · rw [decide_eq_false c3, decide_eq_false (fun z => c3 (by rw [Option.map_some] at z; exact Option.some.inj z))]
    by_cases c3 : (Q[n]'hi).1 = 32
    · have e : c118b12 (xn P2.length) (s, xn c, u) = (0, ((c78 s 32 (2 * xn c + xn n) 0 (Q[n]'hi).2.2.1).1, xn (c + 1), u + (-1))) := by
        unfold c118b12 c118b12_54
        dsimp only
        rw [if_neg nlt, if_neg (fun z => z (by rw [g0]; exact c3)), xn_succ (by omega), g0, g2, c3]
        have ea : 2 * xn c + u - xn P2.length = 2 * xn c + xn n := by rw [eu, ← Int32.add_assoc, Int32.add_sub_cancel]
        rw [ea]
      obtain ⟨m, s', u', r1, r2⟩ := ih _ (c78 s 32 (2 * xn c + xn n) 0 (Q[n]'hi).2.2.1).1 (c + 1) (u + (-1)) h.cle (by omega) u1 (by omega)
      refine ⟨m + 1, s', u', ?_, r2.eq (by rw [trow_y hqn c3, List.append_assoc]; rfl)⟩
      rw [kwh_go (by rw [e]), e]
      show kwh _ m _ = (1, (s', xn (c + ((if (fun i => decide ((Q[i]?.map (fun q => q.1)) = some 32)) n then 1 else 0) + cbn _ n)), u'))
      rw [eg, decide_eq_true c3, if_pos rfl, ← Nat.add_assoc]
      exact r1
    · have e : c118b12 (xn P2.length) (s, xn c, u) = (0, ((c78 s (Q[n]'hi).1 (Q[n]'hi).2.1 0 (Q[n]'hi).2.2.1).1, xn c, u + (-1))) := by
        unfold c118b12 c118b12_54
        dsimp only
        rw [if_neg nlt, if_pos (fun z => c3 (by rw [g0] at z; exact z)), g0, g1, g2]
      obtain ⟨m, s', u', r1, r2⟩ := ih _ (c78 s (Q[n]'hi).1 (Q[n]'hi).2.1 0 (Q[n]'hi).2.2.1).1 c (u + (-1)) h.cle (by omega) u1 (by omega)
      refine ⟨m + 1, s', u', ?_, r2.eq (by rw [trow_n hqn c3, List.append_assoc]; rfl)⟩
      rw [kwh_go (by rw [e]), e]
      show kwh _ m _ = (1, (s', xn (c + ((if (fun i => decide ((Q[i]?.map (fun q => q.1)) = some 32)) n then 1 else 0) + cbn _ n)), u'))
      rw [eg, decide_eq_false c3, if_neg (by decide), Nat.zero_add]
      exact r1
/-- the reference's loop -/
theorem ktz_go {Q : List xR} {w0 : Nat} (hQ : w0 + Q.length ≤ 100000) : ∀ (n : Nat) (δ : Df) (k : kS) (c : Nat) (u : Int32), SGp none δ L P k0 T V W a s k X t v w → TW k w0 Q → n ≤ Q.length → u.toInt + 1 = (n : Nat) → c + n ≤ 200000 → ∃ m k' u', kwh (k265b16 (xn w0)) m (k, xn c, u) = (1, (k', xn (c + cbn (fun i => decide ((Q[i]?.map (fun q => q.1)) = some 32)) n), u')) ∧ SGp none (δ.1, δ.2 ++ trow Q c n) L P k0 T V W a s k' X t v w := by
  intro n
  induction n with
  | zero =>
    intro δ k c u h hw hn hu hc
    have e : k265b16 (xn w0) (k, xn c, u) = (1, (k, xn c, u)) := by
      unfold k265b16
      rw [if_pos (by show u < 0; rw [i_lt]; have : (0 : Int32).toInt = 0 := rfl; omega)]
    exact ⟨1, k, u, by rw [kwh_out (by rw [e]; exact Nat.succ_ne_zero _), e]; rfl, h.eq (by show δ = (δ.1, δ.2 ++ []); rw [List.append_nil])⟩
  | succ n ih =>
    intro δ k c u h hw hn hu hc
    have hun : u = xn n := xn_eq (by omega) (by omega)
    have hi : n < Q.length := by omega
    have e21 : kr k 21 (xn w0 + u) = k.2 21 (w0 + n) := by
      rw [hun, xn_add (by omega)]
      show k.2 21 (xn (w0 + n)).toNatClampNeg = _
      rw [xn_nat (by omega)]
    have e2x : ∀ j, kr k j (xn w0 + u) = k.2 j (w0 + n) := fun j => by
      rw [hun, xn_add (by omega)]
      show k.2 j (xn (w0 + n)).toNatClampNeg = _
      rw [xn_nat (by omega)]
    have hqn : Q[n]? = some (Q[n]'hi) := List.getElem?_eq_getElem hi
    obtain ⟨g3, g4, g5, -⟩ := hw n (Q[n]'hi) hqn
    have u1 : (u + (-1)).toInt + 1 = (n : Nat) := by
      have := i_add (x := u) (y := -1) rfl (show (-1 : Int32).toInt = -1 from rfl) (by omega) (by omega)
      omega
    have nlt : ¬ u < 0 := by rw [i_lt]; have : (0 : Int32).toInt = 0 := rfl; omega
    have eg : (fun i => decide ((Q[i]?.map (fun q => q.1)) = some 32)) n = decide ((Q[n]'hi).1 = 32) := by
      show decide ((Q[n]?.map (fun q => q.1)) = some 32) = _
      rw [List.getElem?_eq_getElem hi]
      by_cases c3 : (Q[n]'hi).1 = 32
      · rw [decide_eq_true c3, decide_eq_true (by rw [Option.map_some, c3])]
      · rw [decide_eq_false c3, decide_eq_false (fun z => c3 (by rw [Option.map_some] at z; exact Option.some.inj z))]
    by_cases c3 : (Q[n]'hi).1 = 32
    · have e : k265b16 (xn w0) (k, xn c, u) = (0, ((k189 k 32 (2 * xn c + xn n) 0 (Q[n]'hi).2.2.1).1, xn (c + 1), u + (-1))) := by
        unfold k265b16
        dsimp only
        rw [if_neg nlt, e21, if_pos (g3.mpr c3)]
        unfold k265b16_70 k265b16_96
        rw [xn_succ (by omega), e2x, ← g4, ← hun]
      have f9 := fr_k189 k 32 (2 * xn c + xn n) 0 (Q[n]'hi).2.2.1
      obtain ⟨m, k', u', r1, r2⟩ := ih _ (k189 k 32 (2 * xn c + xn n) 0 (Q[n]'hi).2.2.1).1 (c + 1) (u + (-1)) h.put (hw.same (fun i _ => by rw [f9.2 21 rfl, f9.2 22 rfl, f9.2 23 rfl]; exact ⟨rfl, rfl, rfl⟩)) (by omega) u1 (by omega)
      refine ⟨m + 1, k', u', ?_, r2.eq (by rw [trow_y hqn c3, List.append_assoc]; rfl)⟩
      rw [kwh_go (by rw [e]), e]
      show kwh _ m _ = (1, (k', xn (c + ((if (fun i => decide ((Q[i]?.map (fun q => q.1)) = some 32)) n then 1 else 0) + cbn _ n)), u'))
      rw [eg, decide_eq_true c3, if_pos rfl, ← Nat.add_assoc]
      exact r1
    · obtain ⟨g5, g6⟩ := g5 c3
      have e : k265b16 (xn w0) (k, xn c, u) = (0, ((k189 k (Q[n]'hi).1 (Q[n]'hi).2.1 0 (Q[n]'hi).2.2.1).1, xn c, u + (-1))) := by
        unfold k265b16
        dsimp only
        rw [if_neg nlt, e21, if_neg (fun z => c3 (g3.mp z))]
        unfold k265b16_38 k265b16_96
        rw [e2x, e2x, ← g4, ← g5, ← g6]
      have f9 := fr_k189 k (Q[n]'hi).1 (Q[n]'hi).2.1 0 (Q[n]'hi).2.2.1
      obtain ⟨m, k', u', r1, r2⟩ := ih _ (k189 k (Q[n]'hi).1 (Q[n]'hi).2.1 0 (Q[n]'hi).2.2.1).1 c (u + (-1)) h.put (hw.same (fun i _ => by rw [f9.2 21 rfl, f9.2 22 rfl, f9.2 23 rfl]; exact ⟨rfl, rfl, rfl⟩)) (by omega) u1 (by omega)
      refine ⟨m + 1, k', u', ?_, r2.eq (by rw [trow_n hqn c3, List.append_assoc]; rfl)⟩
      rw [kwh_go (by rw [e]), e]
      show kwh _ m _ = (1, (k', xn (c + ((if (fun i => decide ((Q[i]?.map (fun q => q.1)) = some 32)) n then 1 else 0) + cbn _ n)), u'))
      rw [eg, decide_eq_false c3, if_neg (by decide), Nat.zero_add]
      exact r1
/-- targets are gone -/
theorem SGp.tgc {δ : Df} {P1 P2 Q : List xR} (h : SGp none δ L (P1, P2 ++ Q, P3) k0 T V W a s k X t v w) (hQ : (P2 ++ Q).length ≤ 100000) : SGp none δ L (P1, P2, P3) k0 T V W a (tct s (.s 10) (xn P2.length)) k X t v w := by
  have hlen : (P2 ++ Q).length = P2.length + Q.length := List.length_append
  have fc : cFr 0 1024 0 0 s (tct s (.s 10) (xn P2.length)) := cFr.refl.tcts rfl
  have t8 := fc.2.1 8 rfl
  have z := h.2.2.2.2.1.2.cut (n := xn P2.length) (k := P2.length) (xn_i (by omega)) (by show _ ≤ (P2 ++ Q).length; omega)
  have z2 : TR (tct s (.s 10) (xn P2.length)) (.s 10) P2 := by
    have e : (P2 ++ Q).take P2.length = P2 := List.take_left
    rw [show ((P1, P2 ++ Q, P3) : PT).2.1 = P2 ++ Q from rfl, e] at z
    exact z
  exact ⟨h.1.fr fc (kFr.refl (F := 0) (A := 0)), h.2.1, h.2.2.1, h.2.2.2.1, ⟨h.2.2.2.2.1.1.same t8.1 t8.2, z2⟩, h.2.2.2.2.2.1, by have := h.2.2.2.2.2.2; show P2.length ≤ a; have : (P2 ++ Q).length ≤ a := this; omega⟩
/-- the values are stored: what waited is gone -/
theorem SGp.sto {w0 hn : Nat} {P1 P2 Q : List xR} (h : SGp (some (v, true)) ([], []) L (P1, P2 ++ Q, P3) k0 T V W a s k X t (v + 1) (w0 + Q.length)) (hl : LR s k v) (hW : TW k w0 Q) (hV : V ≤ v) (hv : v ≤ 1000000) (hw : w0 ≤ a) (hy : k.1 19 = xn hn) (h1 : 1 ≤ hn) (hh : hn ≤ 500000) : SG L (P1, P2, P3) k0 T V W a (c118 (c117 s (xn Q.length) (k.1 19)).1 (xn P2.length)).1 (k265 k (xn Q.length) (xn w0)).1 X t v w0 := by
  have hle := h.le
  have hlen : (P2 ++ Q).length = P2.length + Q.length := List.length_append
  have hQ : (P2 ++ Q).length ≤ 100000 := by have := h.2.2.2.2.2.2; have : (P2 ++ Q).length ≤ a := this; omega
  have hww := h.2.2.2.1
  unfold k265
  have h2 := h.fit (x := xn Q.length) (y := k.1 19) (wn := Q.length) (hn := hn) hl hV hv rfl hy h1 (by omega) hh
  have f58 := fr_k258 k (xn Q.length) (k.1 19)
  have hW2 : TW (k258 k (xn Q.length) (k.1 19)).1 w0 Q := hW.same (fun i _ => by rw [f58.2 21 rfl, f58.2 22 rfl, f58.2 23 rfl]; exact ⟨rfl, rfl, rfl⟩)
  generalize (k258 k (xn Q.length) (k.1 19)).1 = k2 at h2 hW2
  generalize (c117 s (xn Q.length) (k.1 19)).1 = s2 at h2
  have ez : (0 : Int32) = xn 0 := rfl
  have eu : (xn Q.length - 1).toInt + 1 = (Q.length : Nat) := by
    rw [i_sub (xn_i (by omega)) (show (1 : Int32).toInt = 1 from rfl) (by omega) (by omega)]
    omega
  obtain ⟨m, k', u', r1, r2⟩ := ktz_go (Q := Q) (w0 := w0) (by omega) Q.length ([], []) k2 0 (xn Q.length - 1) h2 hW2 (Nat.le_refl _) eu (by omega)
  have er : s2.r (.s 10) = xn (P2 ++ Q).length := xn_eq h2.2.2.2.2.1.2.1 (by omega)
  have eu2 : (s2.r (.s 10) - 1).toInt + 1 = (P2.length + Q.length : Nat) := by
    rw [er, i_sub (xn_i (by omega)) (show (1 : Int32).toInt = 1 from rfl) (by omega) (by omega)]
    omega
  obtain ⟨m2, s', u2', t1, t2⟩ := ctz_go hQ Q.length _ s2 0 (s2.r (.s 10) - 1) r2 (Nat.le_refl _) eu2 (by omega)
  rw [Nat.zero_add] at r1 t1
  generalize cbn (fun i => decide ((Q[i]?.map (fun q => q.1)) = some 32)) Q.length = cc at r1 t1
  have ek := kfin_of ⟨m, r1⟩ (Nat.succ_ne_zero 0)
  have es := kfin_of ⟨m2, t1⟩ (Nat.succ_ne_zero 0)
  have t3 := t2.de0 rfl (trow_w (fun q hq => by
    obtain ⟨i, hi⟩ := List.mem_iff_getElem?.mp hq
    exact (hW i q hi).2.2.2))
  have fin : ∀ (k3 : kS) (s3 : cS), SG L (P1, P2 ++ Q, P3) k0 T V W a s3 k3 X t v (w0 + Q.length) → SG L (P1, P2, P3) k0 T V W a (tct s3 (.s 10) (xn P2.length)) (kf k3 20 (xn w0)) X t v w0 := fun k3 s3 h3 => (SGp.tgc h3 hQ).wai (F := 1048576) (A := 0) (kFr.sf kFr.refl rfl) rfl hw (KB.fr (F := 1048576) (A := 0) (kFr.sf kFr.refl rfl) rfl)
  unfold k265_9 c118
  rw [ez, ek, es]
  by_cases c : xn cc ≤ xn 0
  · rw [if_pos c, if_pos c]
    exact fin _ _ t3
  · rw [if_neg c, if_neg c]
    unfold k265_117 c118_101 c118_102
    exact fin _ _ (t3.pc rfl)
theorem RWp.tgv {p : PM} {d : Dw} {w t : Int32} {b : Nat} {s0 : cS} (h : RWp p d L a s k X) (hx : XC 0 s0 X) (hb : b + X.length ≤ 800000) (ho : OU b s0 k X) (ht : kr k 2 w = t) : (c66 s0 t).1.f 12 7 = 8 + (k237 k w).2 ∧ (c66 s0 t).1.f 12 8 = (k237 k w).1.1 75 := by
  unfold k237 k237_31
  split
  · exact h.rsv hx hb ho ht
  · split
    · exact h.rsv hx hb ho ht
    · refine (h.nto (a1 := 10) (a2 := 10) (w := w) (w' := w) (by decide) (by decide)).rsv hx hb (OU.fr ho (fun _ => ⟨rfl, rfl⟩) (fr_k191 k 10 w) rfl rfl) ?_
      unfold kr
      rw [(fr_k191 k 10 w).2 2 (Nat.zero_testBit _)]
      exact ht
/-- a call stands alone: both take its values away -/
theorem SGp.c99 (h : SG L P k0 T V W a s k X t (v + 1) w) (hv : v ≤ 1000000) (hk : k.2 16 v = 1) (hlo : LO s k v) : SG L P k0 T V W a (c99 s 1 0).1 (ka k 72 (kr k 17 (k.1 15 - 1)) (kr k 72 (kr k 17 (k.1 15 - 1)) &&& 1)) X t (v + 1) w := by
  obtain ⟨f, r, rfl⟩ : ∃ f r, X = f :: r := by
    cases X with
    | nil => exact absurd rfl h.ne
    | cons f r => exact ⟨f, r, rfl⟩
  have ev : k.1 15 - 1 = xn v := by
    rw [h.2.1.2.1]
    have := xn_sub (n := 1) (m := v) (by omega)
    rw [Nat.add_comm 1] at this
    exact this
  have e17 : kr k 17 (k.1 15 - 1) = k.2 17 v := by
    rw [ev]
    show k.2 17 (xn v).toNatClampNeg = _
    rw [xn_nat (by omega)]
  rw [e17]
  obtain ⟨o1, o2, o3, o4⟩ := own_k h.1.2.1 h.SZ
  have en : s.now - 1 = f.1 - 1 := by rw [o2]
  have lg := hlo.2 (Or.inl hk)
  rw [en] at lg
  have n := NR.ls2 (x := f.1 - 1) (y := k.2 17 v) (v := (tg s (.i s.now) (c98 s - 1) 2 &&& 1) ||| 0) (v' := kr k 72 (k.2 17 v) &&& 1) h.nc (by omega) (own_5 h.1.2.1 rfl h.1.k53) h.1.k53 (fun hl => by rw [(hlo.1 hl).1 hk]; unfold jmp; decide) lg (fun e => by
    rw [e, Int32.or_zero]
    rfl) and_17.2
  exact SEp.to (SEp.go (P := P) (H' := P.2.2) (SEp.of h) (fr_c99 s 1 0) (show kFr 0 4722366482869645213696 k (ka k 72 (k.2 17 v) (kr k 72 (k.2 17 v) &&& 1)) from kFr.sa kFr.refl rfl) (fun _ => n))
/-- behind a target: is there one more -/
def E59L (rc : cRC) (L : List xR) : Prop := ∀ {P1 P2 Q : List xR} {P3 : List hE} (a0 n : Nat) (k0 : kS) (a : Nat) (s : cS) (k Kg : kS) (X : List xF) (t v w : Nat) (y2 y3 : Int32), SG L (P1, P2 ++ Q, P3) k0 t v w a s k X t (v + 1) (w + n + 1) → Q.length = n + 1 → TW k w Q → y2 = xn P2.length → XB X → a0 < a → RO L a (t + 8) (v + 8) → (k183 k = 59 ∨ k183 k = 69 → Kg = (k264_175 k (xn n) (xn w) (k183 k)).1) → (¬ (k183 k = 59 ∨ k183 k = 69) → Kg.1 6 ≠ 0) → 0 ≤ y3.toInt → y3.toInt ≤ a → QC (SP L (P1, P2, P3) k0 t v w a0 X) Kg (rc 59032 s 0 y2 y3 0 0 0 0)
/-- a target is read -/
theorem k205_3 {x : Int32} : ¬ 3 ≤ (k205 k x).2 := by
  unfold k205
  split
  · split <;> first | exact (show ¬ (3 : Int32) ≤ 1 by decide) | exact (show ¬ (3 : Int32) ≤ 0 by decide) | exact (show ¬ (3 : Int32) ≤ 2 by decide)
  · first | exact (show ¬ (3 : Int32) ≤ 1 by decide) | exact (show ¬ (3 : Int32) ≤ 0 by decide) | exact (show ¬ (3 : Int32) ≤ 2 by decide)
theorem k205_w {x : Int32} : wfo (29 + (k205 k x).2) = true := by
  unfold k205
  split
  · split <;> rfl
  · rfl
theorem k237_w {x : Int32} : wfo (29 + (k237 k x).2) = true := by
  unfold k237 k237_31
  split
  · exact k205_w
  · split
    · exact k205_w
    · exact k205_w
theorem k237_3 {x : Int32} : ¬ 3 ≤ (k237 k x).2 := by
  unfold k237 k237_31
  split
  · exact k205_3
  · split
    · exact k205_3
    · exact k205_3
theorem tg_one {fc : cS → Option (cS × Option Int32)} {Q : cS → kS → Int32 → Prop} {form : Int32} {P1 P2 R : List xR} (h : SGp (some (v, false)) ([], []) L (P1, P2 ++ R, P3) k0 t v w a s k X (t + 1) (v + 1) (w + n)) (hRn : R.length = n) (hTW : TW k w R) (hPa : (P2 ++ R).length + 1 ≤ a) (hB : XB X) (g : GT t 21 (xn n) (xn w) 0 k) (hf : FM X s k v form) (hw : w + n + 1 ≤ a) (h4 : form = 4 → 1 ≤ n) (hr : RO L a (t + 8) (v + 8)) (hgo : ∀ s1 k1 Kg q, SG L (P1, P2 ++ (R ++ [q]), P3) k0 t v w a s1 k1 X t (v + 1) (w + n + 1) → TW k1 w (R ++ [q]) → (k183 k1 = 59 ∨ k183 k1 = 69 → Kg = (k264_175 k1 (xn n) (xn w) (k183 k1)).1) → (¬ (k183 k1 = 59 ∨ k183 k1 = 69) → Kg.1 6 ≠ 0) → QC Q Kg (fc s1)) : QC Q k (rbd (some (c113 s form)) (fun _ _ => fc (c113 s form).1)) := by
  have hle := h.le
  have ht : t + 8 ≤ 1000000 := by have := hr.1; omega
  have hv : v + 8 ≤ 1000000 := by have := hr.2; omega
  refine QC.pop g (by omega) ?_
  rw [k180_g21]
  have h1 := h.top (t' := t)
  have hf1 : FM X s (kf k 10 (xn t)) v form := hf.fr (cFr.refl (F := 0) (T := 0) (B := 0) (G := 0)) (show kFr 1024 0 k (kf k 10 (xn t)) from kFr.sf kFr.refl rfl)
  have tw1 : TW (kf k 10 (xn t)) w R := hTW
  generalize kf k 10 (xn t) = k1 at h1 hf1 tw1
  have kee : ∀ (s2 : cS) (k2 : kS) (x1 x2 x3 x4 y1 y2 y3 : Int32), SG L (P1, P2 ++ R, P3) k0 t v w a s2 k2 X t (v + 1) (w + n) → (k2.2 21 = k1.2 21 ∧ k2.2 22 = k1.2 22 ∧ k2.2 23 = k1.2 23) → ((3 ≤ y1 ↔ x1 = 32) ∧ x3 = y3 ∧ (x1 ≠ 32 → x1 = 29 + y1 ∧ x2 = y2) ∧ wfo x1 = true) → SG L (P1, P2 ++ (R ++ [(x1, x2, x3, x4)]), P3) k0 t v w a (tad s2 (.s 10) x1 x2 x3 x4).1 (k239 k2 y1 y2 y3).1 X t (v + 1) (w + n + 1) ∧ TW (k239 k2 y1 y2 y3).1 w (R ++ [(x1, x2, x3, x4)]) := fun s2 k2 x1 x2 x3 x4 y1 y2 y3 q e21 hq => by
    have q1 := (SGp.tga (x1 := x1) (x2 := x2) (x3 := x3) (x4 := x4) q hPa).kee (x := y1) (y := y2) (z := y3) (by omega) hw
    rw [List.append_assoc] at q1
    have ix : (k2.1 20).toNatClampNeg = w + n := by rw [q.2.1.2.2]; exact xn_nat (by omega)
    refine ⟨q1, tw1.snoc (fun i hi => ⟨?_, ?_, ?_⟩) ?_⟩
    · show upd (k2.2 21) (k2.1 20).toNatClampNeg y1 i = _
      rw [ix, upd_nt (by omega), e21.1]
    · show upd (k2.2 22) (k2.1 20).toNatClampNeg y2 i = _
      rw [ix, upd_nt (by omega), e21.2.1]
    · show upd (k2.2 23) (k2.1 20).toNatClampNeg y3 i = _
      rw [ix, upd_nt (by omega), e21.2.2]
    · have a1 : (k239 k2 y1 y2 y3).1.2 21 (w + R.length) = y1 := by
        show upd (k2.2 21) (k2.1 20).toNatClampNeg y1 (w + R.length) = _
        rw [ix, hRn, upd_at]
      have a2 : (k239 k2 y1 y2 y3).1.2 22 (w + R.length) = y2 := by
        show upd (k2.2 22) (k2.1 20).toNatClampNeg y2 (w + R.length) = _
        rw [ix, hRn, upd_at]
      have a3 : (k239 k2 y1 y2 y3).1.2 23 (w + R.length) = y3 := by
        show upd (k2.2 23) (k2.1 20).toNatClampNeg y3 (w + R.length) = _
        rw [ix, hRn, upd_at]
      unfold twq
      rw [a1, a2, a3]
      exact hq
  have ev : k1.1 15 - 1 = xn v := by
    rw [h1.2.1.2.1]
    have := xn_sub (n := 1) (m := v) (by omega)
    rw [Nat.add_comm 1] at this
    exact this
  have ekr : ∀ j, kr k1 j (k1.1 15 - 1) = k1.2 j v := fun j => by
    rw [ev]
    show k1.2 j (xn v).toNatClampNeg = _
    rw [xn_nat (by omega)]
  have n0 : 1 ≤ n → (xn n) ≠ 0 := fun hn z => by
    have : (xn n).toInt = (0 : Int32).toInt := by rw [z]
    rw [xn_i (by omega)] at this
    have z0 : (0 : Int32).toInt = 0 := rfl
    omega
  have e264 : ∀ y3, k1.2 16 v = y3 → (y3 = 1 → xn n ≠ 0) → (k264 k1 (xn n) (xn w)).1 = (k264_84 k1 (xn n) (xn w) y3 (k183 k1) (if k183 k1 = 59 ∨ k183 k1 = 69 then 1 else 0)).1 := fun y3 e1 e2 => by
    have k37 : ∀ z0 : Int32, (k264_37 k1 (xn n) (xn w) y3 (k183 k1) z0).1 = (k264_84 k1 (xn n) (xn w) y3 (k183 k1) z0).1 := fun z0 => by
      unfold k264_37
      by_cases c1 : y3 ≠ 1
      · rw [if_pos c1]
      · rw [if_neg c1, if_pos (e2 (Decidable.not_not.mp c1))]
    unfold k264 k264_32
    rw [ekr, e1]
    by_cases c59 : k183 k1 = 59
    · rw [if_pos c59, if_pos (Or.inl c59)]
      exact k37 1
    · rw [if_neg c59]
      by_cases c69 : k183 k1 = 69
      · rw [if_neg (fun z => z c69), if_pos (Or.inr c69)]
        exact k37 1
      · rw [if_pos c69, if_neg (fun z => z.elim c59 c69)]
        exact k37 0
  have stop : ∀ (s2 : cS) y3, k1.2 16 v = y3 → y3 < 3 → (y3 = 1 → xn n ≠ 0) → QC Q (k264 k1 (xn n) (xn w)).1 (some (s2, none)) := fun s2 y3 e1 e2 e3 => by
    refine QC.thn ?_
    rw [e264 y3 e1 e3]
    unfold k264_84 k264_94
    rw [if_pos e2]
    exact (k194_f (by decide)).1
  rcases hf1 with ⟨rfl, hk, hx⟩ | ⟨rfl, hk, hf6, hf7⟩ | ⟨rfl, hk, hf6⟩ | ⟨rfl, hk⟩ | ⟨rfl, hk⟩
  · obtain ⟨hx, hx7, hx6, s0', b0, x1, x2, x3, x4, x5⟩ := hx
    obtain ⟨v7, v8⟩ := h1.1.tgv (w := k1.2 18 v) x1 x2 x3 rfl
    have ec : c113 s 1 = ((tad (c114 s (s.f 7 6)).1 (.s 10) (c116 (c114 s (s.f 7 6)).1 (c101 (c114 s (s.f 7 6)).1)) (c102 (c114 s (s.f 7 6)).1) ((c114 s (s.f 7 6)).1.f 7 6) 0).1, some 0) := by
      unfold c113
      rw [if_pos rfl]
      rfl
    rw [ec, rbd_th (w := 0) rfl, e264 3 hk (fun z => absurd z (by decide))]
    have fc1 := fr_c114 s (s.f 7 6)
    have n2 : RN (c114 s (s.f 7 6)).1 (k237 k1 (kr k1 18 (k1.1 15 - 1))).1 X := RN.con h1.1.2.1 h1.SZ (by rw [ekr]; exact hx)
    have oT : OU (bd a) (c114 s (s.f 7 6)).1 (k237 k1 (kr k1 18 (k1.1 15 - 1))).1 X := by
      rcases h1.1.2.2.2.2.2.1 with ⟨z, -⟩ | ⟨-, s0, b, z2, z3, z4, z5⟩
      · exact absurd hk z
      · rw [ekr]
        exact OU.fr (h1.1.tgt (w := k1.2 18 v) z2 z3 z4 rfl) (fun x => ⟨(fc1.ou rfl x).1.trans (z5 x).1, (fc1.ou rfl x).2.trans (z5 x).2⟩) (kFr.refl (F := 0) (A := 0)) rfl rfl
    have fk1 := fr_k237 k1 (kr k1 18 (k1.1 15 - 1))
    obtain ⟨R0, r01, nc0⟩ := h1.1.2.2.2.2.2.2.2
    have r01 : R0 = [] := r01
    subst r01
    have nc0 : NR 0 ([], []) P3 s k1 X := nc0
    have h2 : SG L (P1, P2 ++ R, P3) k0 t v w a (c114 s (s.f 7 6)).1 (k237 k1 (kr k1 18 (k1.1 15 - 1))).1 X t (v + 1) (w + n) := h1.nam fc1 fk1 n2 h1.sz oT ⟨h1.ne, nc0.fr0 fc1 fk1 rfl rfl rfl rfl (st_k237 _ _) (fun z => absurd z (by decide)), h1.fb.fr fc1 fk1 rfl rfl (st_k237 _ _) (fk1.1 53 rfl), h1.cc.fr fk1 rfl (st_k237 _ _), h1.lv.fr fc1 (Nat.zero_testBit _)⟩
    have e21 : (k237 k1 (kr k1 18 (k1.1 15 - 1))).1.2 21 = k1.2 21 ∧ (k237 k1 (kr k1 18 (k1.1 15 - 1))).1.2 22 = k1.2 22 ∧ (k237 k1 (kr k1 18 (k1.1 15 - 1))).1.2 23 = k1.2 23 := ⟨fk1.2 21 rfl, fk1.2 22 rfl, fk1.2 23 rfl⟩
    have e12 : ∀ j, (j = 7 ∨ j = 8) → (c114 s (s.f 7 6)).1.f 12 j = s.f 12 j := fun j hj => by rcases hj with rfl | rfl <;> exact fc1.1 12 _ (by decide) rfl
    have e76 : (c114 s (s.f 7 6)).1.f 7 6 = s.f 7 6 := fc1.1 7 6 (by decide) rfl
    have hy3 := k237_3 (k := k1) (x := kr k1 18 (k1.1 15 - 1))
    have hyw := k237_w (k := k1) (x := kr k1 18 (k1.1 15 - 1))
    have e127 : (c114 s (s.f 7 6)).1.f 12 7 ≠ 11 := by rw [fc1.1 12 7 (by decide) rfl]; exact hx7
    have ek2 : k183 (k237 k1 (kr k1 18 (k1.1 15 - 1))).1 = k183 k1 := (h1.1.1.same h2.1.1).2
    rw [← x4, ← e12 7 (Or.inl rfl)] at v7
    rw [← x5, ← e12 8 (Or.inr rfl)] at v8
    rw [← ekr 18] at v7 v8
    rw [← e76, ← ekr 18] at hx6
    generalize (c114 s (s.f 7 6)).1 = s2 at h2 e127 v7 v8 hx6
    generalize hK2 : k237 k1 (kr k1 18 (k1.1 15 - 1)) = K2 at h2 ek2 e21 hy3 v7 v8 hyw
    have h32 : (3 ≤ K2.2 ↔ c116 s2 (c101 s2) = 32) := ⟨fun z => absurd z hy3, fun z => absurd (by
      have z' : (s2.f 12 7 - 8) + 29 = 32 := z
      have z2 : s2.f 12 7 = ((s2.f 12 7 - 8) + 29) - 29 + 8 := by rw [Int32.add_sub_cancel, Int32.sub_add_cancel]
      rw [z2, z']
      rfl) e127⟩
    have h3 := kee s2 K2.1 (c116 s2 (c101 s2)) (c102 s2) (s2.f 7 6) 0 K2.2 (K2.1.1 75) (kr k1 18 (k1.1 15 - 1)) h2 e21 ⟨h32, hx6, fun _ => ⟨by
      show (s2.f 12 7 - 8) + 29 = _
      rw [v7, Int32.add_comm 8, Int32.add_sub_cancel, Int32.add_comm], v8⟩, by
      have e29 : c116 s2 (c101 s2) = 29 + K2.2 := by
        show (s2.f 12 7 - 8) + 29 = _
        rw [v7, Int32.add_comm 8, Int32.add_sub_cancel, Int32.add_comm]
      rw [e29]
      exact hyw⟩
    have e3 : ∀ x1 x2 x3, k183 (k239 K2.1 x1 x2 x3).1 = k183 k1 := fun x1 x2 x3 => ek2
    refine hgo _ (k239 K2.1 K2.2 (K2.1.1 75) (kr k1 18 (k1.1 15 - 1))).1 _ _ h3.1 h3.2 ?_ ?_
    · intro hgo
      rw [e3] at hgo
      rw [if_pos hgo, e3]
      unfold k264_84
      rw [if_neg (by decide), if_pos (by decide), if_neg (fun z => z rfl), hK2]
      rfl
    · intro hno
      rw [e3] at hno
      rw [if_neg hno]
      unfold k264_84 k264_94
      rw [if_neg (by decide), if_neg (fun z => z rfl)]
      exact (k194_f (by decide)).1
  · have ec : c113 s 2 = ((tad (c78 s 5 (s.f 7 7) 0 0).1 (.s 10) 32 0 ((c78 s 5 (s.f 7 7) 0 0).1.f 7 6) 0).1, some 0) := by
      unfold c113
      rw [if_neg (by decide), if_pos rfl]
      rfl
    rw [ec, rbd_th (w := 0) rfl, e264 5 hk (fun z => absurd z (by decide))]
    have h1 := h1.stf (by rw [hk]; decide)
    have h2 := h1.pc (x := 5) (y := s.f 7 7) (z := 0) (u := 0) (x' := 5) (y' := kr k1 17 (k1.1 15 - 1)) (z' := 0) (u' := 0) (by rw [ekr 17, hf7])
    have e21 : (k189 k1 5 (kr k1 17 (k1.1 15 - 1)) 0 0).1.2 21 = k1.2 21 ∧ (k189 k1 5 (kr k1 17 (k1.1 15 - 1)) 0 0).1.2 22 = k1.2 22 ∧ (k189 k1 5 (kr k1 17 (k1.1 15 - 1)) 0 0).1.2 23 = k1.2 23 := ⟨(fr_k189 _ _ _ _ _).2 21 rfl, (fr_k189 _ _ _ _ _).2 22 rfl, (fr_k189 _ _ _ _ _).2 23 rfl⟩
    have e76 : (c78 s 5 (s.f 7 7) 0 0).1.f 7 6 = s.f 7 6 := (fr_c78 s 5 (s.f 7 7) 0 0).1 7 6 (by decide) (Nat.zero_testBit _)
    rw [← e76, ← ekr 18] at hf6
    have ek2 : k183 (k189 k1 5 (kr k1 17 (k1.1 15 - 1)) 0 0).1 = k183 k1 := (h1.1.1.same h2.1.1).2
    generalize (c78 s 5 (s.f 7 7) 0 0).1 = s2 at h2 hf6
    generalize hK2 : k189 k1 5 (kr k1 17 (k1.1 15 - 1)) 0 0 = K2 at h2 ek2 e21
    have h3 := kee s2 K2.1 32 0 (s2.f 7 6) 0 3 0 (kr k1 18 (k1.1 15 - 1)) h2 e21 ⟨by decide, hf6, fun z => absurd rfl z, rfl⟩
    have e3 : k183 (k239 K2.1 3 0 (kr k1 18 (k1.1 15 - 1))).1 = k183 k1 := ek2
    refine hgo _ _ _ _ h3.1 h3.2 ?_ ?_
    · intro hgo
      rw [e3] at hgo
      rw [if_pos hgo, e3]
      unfold k264_84
      rw [if_neg (by decide), if_pos (by decide), if_pos (by decide), if_neg (fun z => z rfl), hK2]
      rfl
    · intro hno
      rw [e3] at hno
      rw [if_neg hno]
      unfold k264_84 k264_94
      rw [if_neg (by decide), if_neg (fun z => z rfl)]
      exact (k194_f (by decide)).1
  · have ec : c113 s 3 = ((tad s (.s 10) 32 0 (s.f 7 6) 0).1, some 0) := by
      unfold c113
      rw [if_neg (by decide), if_neg (by decide), if_pos rfl]
    rw [ec, rbd_th (w := 0) rfl, e264 4 hk (fun z => absurd z (by decide))]
    have h1 := h1.stf (by rw [hk]; decide)
    have h3 := kee s k1 32 0 (s.f 7 6) 0 3 0 (kr k1 18 (k1.1 15 - 1)) h1 ⟨rfl, rfl, rfl⟩ ⟨by decide, by rw [ekr 18]; exact hf6, fun z => absurd rfl z, rfl⟩
    have e3 : k183 (k239 k1 3 0 (kr k1 18 (k1.1 15 - 1))).1 = k183 k1 := rfl
    refine hgo _ _ _ _ h3.1 h3.2 ?_ ?_
    · intro hgo
      rw [e3] at hgo
      rw [if_pos hgo, e3]
      unfold k264_84
      rw [if_neg (by decide), if_pos (by decide), if_pos (by decide), if_pos (by decide)]
      rfl
    · intro hno
      rw [e3] at hno
      rw [if_neg hno]
      unfold k264_84 k264_94
      rw [if_neg (by decide), if_neg (fun z => z rfl)]
      exact (k194_f (by decide)).1
  · have ec : (c113 s 4).2 = none := by
      unfold c113
      rw [if_neg (by decide), if_neg (by decide), if_neg (by decide), cbd_none rfl]
      rfl
    rw [rbd_thn ec]
    exact stop _ 1 hk (by decide) (fun _ => n0 (h4 rfl))
  · have ec : (c113 s 0).2 = none := by
      unfold c113
      rw [if_neg (by decide), if_neg (by decide), if_neg (by decide), cbd_none rfl]
      rfl
    rw [rbd_thn ec]
    exact stop _ 0 hk (by decide) (fun z => absurd z (by decide))
theorem as_rnd {a0 : Nat} {Kg : kS} {P1 P2 R : List xR} (hL : E59L rc L) (hl : F112 rc L) (h60 : E60 rc L) (h : SG L (P1, P2 ++ R, P3) k0 t v w a s k X t (v + 1) (w + n + 1)) (hRn : R.length = n + 1) (hTW : TW k w R) (hy2 : y2 = xn P2.length) (hB : XB X) (ha : a0 < a) (hr : RO L a (t + 8) (v + 8)) (hg : k183 k = 59 ∨ k183 k = 69 → Kg = (k264_175 k (xn n) (xn w) (k183 k)).1) (hno : ¬ (k183 k = 59 ∨ k183 k = 69) → Kg.1 6 ≠ 0) (hy0 : 0 ≤ y3.toInt) (hy : y3.toInt ≤ a) : QC (SP L (P1, P2, P3) k0 t v w a0 X) Kg (c59_32 rc s y2 y3) := by
  have hle := h.le
  have ht : t + 8 ≤ 1000000 := by have := hr.1; omega
  have hv : v + 8 ≤ 1000000 := by have := hr.2; omega
  have hwa := h.2.2.2.1
  have hPb : (P2 ++ R).length ≤ a := h.2.2.2.2.2.2
  have hlen : (P2 ++ R).length = P2.length + R.length := List.length_append
  have i59 := h.is (K := 59) (by decide) (by decide)
  have i69 := h.is (K := 69) (by decide) (by decide)
  have h1 := h.dwn (by omega)
  unfold c59_32
  by_cases c69 : c53 s = 69
  · rw [hg (Or.inr (i69.mp c69)), i69.mp c69, if_neg (fun z => z c69), if_neg (by rw [i_lt]; have : (16384 : Int32).toInt = 16384 := rfl; omega)]
    unfold k264_175
    rw [if_neg (fun z => z rfl)]
    unfold k264_213 k264_222
    obtain ⟨q, s1, q1, q2, q3, q4, q5⟩ := h1.skp c69 pl69
    have hlt := lt_of q1
    rw [q3, rbd_th (w := q.2.1) rfl]
    have h2 : SG L (P1, P2 ++ R, P3) k0 t v w (a + 1) s1 (kf (kf k 15 (k.1 15 - 1)) 4 (k.1 4 + 1)) X t v (w + n + 1) := q4
    have tw2 : TW (kf (kf k 15 (k.1 15 - 1)) 4 (k.1 4 + 1)) w R := hTW
    generalize kf (kf k 15 (k.1 15 - 1)) 4 (k.1 4 + 1) = k2 at h2 tw2
    rw [xn_succ (by omega)]
    obtain ⟨h3, g3⟩ := h2.psh (g := 21) (p := xn (n + 1)) (q := xn w) (c := 0) (Nat.le_refl _) (by omega)
    have tw3 : TW (k179 k2 21 (xn (n + 1)) (xn w) 0).1 w R := tw2
    generalize (k179 k2 21 (xn (n + 1)) (xn w) 0).1 = k3 at h3 g3 tw3
    show QC _ _ (c59_58 rc s1 y2 y3 q.2.1)
    unfold c59_58
    refine (h60 (a + 1) s1 k3 X (t + 1) v (w + n + 1) h3.own hB.ne ⟨by have := hr.1; omega, by have := hr.2; omega⟩).bnd ?_
    rintro s4 k4 x4 ⟨a4, u1, u2, u3⟩
    have g4 := g3.bck u2.2.2.1 u2.2.1.1
    have h4 := h3.reb u2 (by omega) (Nat.le_refl _) (by omega)
    show QC _ _ (rbd (some (c113 s4 x4)) (fun _ _ => rc 59032 (c113 s4 x4).1 0 y2 (y3 + 1) 0 0 0 0))
    have hle4 := h4.le
    have y31 : (y3 + 1).toInt = y3.toInt + 1 := i_add rfl (show (1 : Int32).toInt = 1 from rfl) (by omega) (by omega)
    have tw4 : TW k4 w R := tw3.same (fun i hi => ⟨u2.2.2.1.2.2 21 i (by decide) (by omega), u2.2.2.1.2.2 22 i (by decide) (by omega), u2.2.2.1.2.2 23 i (by decide) (by omega)⟩)
    refine tg_one (n := n + 1) (fc := fun s' => rc 59032 s' 0 y2 (y3 + 1) 0 0 0 0) h4 hRn tw4 (by omega) hB g4 u3.1 (by omega) (fun _ => by omega) ⟨by have := hr.1; omega, by have := hr.2; omega⟩ ?_
    intro s5 k5 Kg' qq z1 zt z2 z3
    exact hL a0 (n + 1) k0 a4 s5 k5 Kg' X t v w y2 (y3 + 1) z1 (by rw [List.length_append, hRn]; rfl) zt hy2 hB (by omega) ⟨by have := hr.1; omega, by have := hr.2; omega⟩ z2 z3 (by omega) (by omega)
  · rw [if_pos c69]
    unfold c59_73
    by_cases c59 : c53 s = 59
    · rw [hg (Or.inl (i59.mp c59)), i59.mp c59, c64_yes c59]
      unfold k264_175
      rw [if_pos (by decide)]
      obtain ⟨q, s1, q1, q2, q3, q4, q5⟩ := h1.skp c59 pl59
      have hlt := lt_of q1
      rw [q3, rbd_th (w := q.2.1) rfl]
      have h2 : SG L (P1, P2 ++ R, P3) k0 t v w (a + 1) s1 (kf (kf k 15 (k.1 15 - 1)) 4 (k.1 4 + 1)) X t v (w + n + 1) := q4
      have tw2 : TW (kf (kf k 15 (k.1 15 - 1)) 4 (k.1 4 + 1)) w R := hTW
      generalize kf (kf k 15 (k.1 15 - 1)) 4 (k.1 4 + 1) = k2 at h2 tw2
      obtain ⟨h3, g3⟩ := h2.psh (g := 22) (p := xn n + 1) (q := xn w) (c := 0) (Nat.le_refl _) (by omega)
      have tw3 : TW (k179 k2 22 (xn n + 1) (xn w) 0).1 w R := tw2
      generalize (k179 k2 22 (xn n + 1) (xn w) 0).1 = k3 at h3 g3 tw3
      show QC _ _ (c59_82 rc s1 y2 q.2.1)
      unfold c59_82
      refine (hl k3 (t + 1) v (w + n + 1) (a + 1) s1 k3 X (t + 1) v (w + n + 1) h3.own hB.ne (Nat.le_refl _) (Nat.le_refl _) (Nat.le_refl _) ⟨by have := hr.1; omega, by have := hr.2; omega⟩).bnd ?_
      rintro s4 k4 x4 ⟨a4, u1, u2, uL, u19, ux1, ux2⟩
      have g4 := g3.bck u2.2.2.1 u2.2.1.1
      have h4 := (h3.reb u2 (by omega) (Nat.le_refl _) (by omega)).top (t' := t)
      refine QC.pop g4 (by omega) ?_
      rw [k180_g22]
      have tw4 : TW (kf k4 10 (xn t)) w R := tw3.same (fun i hi => ⟨u2.2.2.1.2.2 21 i (by decide) (by omega), u2.2.2.1.2.2 22 i (by decide) (by omega), u2.2.2.1.2.2 23 i (by decide) (by omega)⟩)
      have uL4 : LR s4 (kf k4 10 (xn t)) v := uL
      have u194 : x4 = (kf k4 10 (xn t)).1 19 := u19
      generalize kf k4 10 (xn t) = k5 at h4 tw4 uL4 u194
      have hle4 := h4.le
      have hx4 : x4 = xn x4.toInt.toNat := xn_eq (by omega) (by omega)
      have ewn : w + n + 1 = w + R.length := by omega
      rw [ewn] at h4
      have h5 := SGp.sto (w0 := w) (hn := x4.toInt.toNat) h4 uL4 tw4 (Nat.le_refl _) (by omega) (by omega) (by rw [← u194]; exact hx4) (by omega) (by omega)
      have er : s1.r (.s 10) = xn (P2 ++ R).length := xn_eq h2.2.2.2.2.1.2.1 (by omega)
      have eR : s1.r (.s 10) - y2 = xn R.length := by
        rw [er, hy2, hlen, xn_sub (by omega)]
      have en : xn n + 1 = xn R.length := by rw [xn_succ (by omega), hRn]
      rw [en]
      refine QC.ret ⟨a4, X, by omega, ?_, XQ.refl hB⟩
      rw [eR, hy2, u194]
      exact h5
    · rw [rbd_thn (c64_no c59)]
      exact QC.thn (hno (fun z => z.elim (fun q => c59 (i59.mpr q)) (fun q => c69 (i69.mpr q))))
/-- an assignment or a call -/
def E59 (rc : cRC) (L : List xR) : Prop := ∀ {P : PT} (a : Nat) (s : cS) (k : kS) (X : List xF) (t v w : Nat), SG L P k t v w a s k X t v w → XB X → RO L (a + 1) (t + 8) (v + 8) → QC (fun s' k' x => SP L P k t v w a X s' k' x ∨ (k'.1 6 ≠ 0 ∧ (c53 s' = 59 ∨ c53 s' = 69))) (k201 ((k179 ((k179 k 21 0 (k.1 20) 0).1) 28 0 0 0).1)).1 (rc 59 s 0 0 0 0 0 0 0)
theorem st_asg (hL : E59L rc L) (hl : F112 rc L) (h60 : E60 rc L) (h : SG L P k t v w a s k X t v w) (hB : XB X) (hr : RO L (a + 1) (t + 8) (v + 8)) : QC (fun s' k' x => SP L P k t v w a X s' k' x ∨ (k'.1 6 ≠ 0 ∧ (c53 s' = 59 ∨ c53 s' = 69))) (k201 ((k179 ((k179 k 21 0 (k.1 20) 0).1) 28 0 0 0).1)).1 (c59 rc s) := by
  have hle := h.le
  have ht : t + 8 ≤ 1000000 := by have := hr.1; omega
  have hv : v + 8 ≤ 1000000 := by have := hr.2; omega
  rw [h.2.1.2.2]
  obtain ⟨h1, g1⟩ := h.psh (g := 21) (p := 0) (q := xn w) (c := 0) (Nat.le_refl _) (by omega)
  generalize (k179 k 21 0 (xn w) 0).1 = k1 at h1 g1
  unfold c59
  refine (h60 a s k1 X (t + 1) v w h1.own hB.ne ⟨by have := hr.1; omega, by have := hr.2; omega⟩).bnd ?_
  rintro s4 k4 x4 ⟨a4, u1, u2, u3⟩
  have g4 := g1.bck u2.2.2.1 u2.2.1.1
  have h4 := h1.reb u2 (by omega) (Nat.le_refl _) (Nat.le_refl _)
  have hw := h.2.2.2.1
  have hP2 : P.2.1.length ≤ a := h.2.2.2.2.2.2
  show QC _ _ (c59_4 rc s4 x4)
  unfold c59_4
  by_cases c4 : x4 = 4
  · rw [if_neg (fun z => z c4)]
    rw [c4] at u3
    have hk : k4.2 16 v = 1 := by
      rcases u3.1 with ⟨z, -⟩ | ⟨z, -⟩ | ⟨z, -⟩ | ⟨-, z⟩ | ⟨z, -⟩
      · exact absurd z (by decide)
      · exact absurd z (by decide)
      · exact absurd z (by decide)
      · exact z
      · exact absurd z (by decide)
    refine QC.pop g4 (by omega) ?_
    rw [k180_g21]
    have h5 := (h4.top (t' := t)).stf (by show k4.2 16 v ≠ 3; rw [hk]; decide)
    have hk1 : (kf k4 10 (xn t)).2 16 v = 1 := hk
    have hlo : LO s4 (kf k4 10 (xn t)) v := u3.2.fr (cFr.refl (F := 0) (T := 0) (B := 0) (G := 0)) (show kFr 1024 0 k4 (kf k4 10 (xn t)) from kFr.sf kFr.refl rfl)
    generalize kf k4 10 (xn t) = k5 at h5 hk1 hlo
    have ev : k5.1 15 - 1 = xn v := by
      rw [h5.2.1.2.1]
      have := xn_sub (n := 1) (m := v) (by omega)
      rw [Nat.add_comm 1] at this
      exact this
    have ekr : kr k5 16 (k5.1 15 - 1) = 1 := by
      rw [ev]
      show k5.2 16 (xn v).toNatClampNeg = _
      rw [xn_nat (by omega)]
      exact hk1
    have h6 := h5.c99 (by omega) hk1 hlo
    have e53 := c53_fr (fr_c99 s4 1 0)
    have i59 := h5.is (K := 59) (by decide) (by decide)
    have i69 := h5.is (K := 69) (by decide) (by decide)
    generalize (c99 s4 1 0).1 = s6 at h6 e53 ⊢
    unfold k264 k264_32
    rw [ekr]
    have bad : (k264_37 k5 0 (xn w) 1 (k183 k5) 1).1.1 6 ≠ 0 := by
      unfold k264_37 k264_84 k264_94
      rw [if_neg (fun z => z rfl), if_neg (fun z => z rfl), if_pos (by decide), if_pos (by decide)]
      exact (k194_f (by decide)).1
    by_cases c59 : c53 s4 = 59
    · rw [if_pos (i59.mp c59)]
      exact QC.ret (Or.inr ⟨bad, Or.inl (e53.trans c59)⟩)
    · rw [if_neg (fun z => c59 (i59.mpr z))]
      by_cases c69 : c53 s4 = 69
      · rw [if_neg (fun z => z (i69.mp c69))]
        exact QC.ret (Or.inr ⟨bad, Or.inr (e53.trans c69)⟩)
      · rw [if_pos (fun z => c69 (i69.mpr z))]
        unfold k264_37
        rw [if_neg (fun z => z rfl), if_neg (fun z => z rfl), if_neg (fun z => z rfl)]
        exact QC.ret (Or.inl ⟨a4, X, by omega, h6.dwn (by omega), XQ.refl hB⟩)
  · rw [if_pos c4]
    have er4 : s4.r (.s 10) = xn P.2.1.length := xn_eq h4.2.2.2.2.1.2.1 (by omega)
    have h4' : SGp (some (v, false)) ([], []) L (P.1, P.2.1 ++ [], P.2.2) k t v w a4 s4 k4 X (t + 1) (v + 1) w := by
      rw [List.append_nil]
      exact h4
    refine tg_one (n := 0) (R := []) (fc := fun s' => c59_32 rc s' (s4.r (.s 10)) 0) h4' rfl (fun i q hq => nomatch hq) (by rw [List.append_nil]; omega) hB g4 u3.1 (by omega) (fun z => absurd z c4) ⟨by have := hr.1; omega, by have := hr.2; omega⟩ ?_
    intro s5 k5 Kg' qq z1 zt z2 z3
    exact (as_rnd (n := 0) (y3 := 0) hL hl h60 z1 rfl zt er4 hB (by omega) ⟨by have := hr.1; omega, by have := hr.2; omega⟩ z2 z3 (by decide) (Int.natCast_nonneg _)).mono (fun s k x q => Or.inl q)
end ASG
