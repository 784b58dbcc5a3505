/-! THE WALK OVER BOTH: the loop of expression -/
section RWX
variable {L : List xR} {a : Nat} {s s' : cS} {k k' : kS} {X : List xF} {t v w : Nat} {G : List gQ} {rc : cRC}
/-- a run of the class gives a value, with operators that wait as before; Φ: what its answer says -/
def VC (p : Nat → PM) (Φ : cS → kS → Int32 → Prop) (P : PT) (Q L : List xR) (a : Nat) (k : kS) (X : List xF) (t v w : Nat) (G : List gQ) (r : Option (cS × Option Int32)) : Prop := ∀ s' o, r = some (s', o) → (∀ x, o = some x → ∃ j a', a < a' ∧ (RWp (p (v + n25 G)) (D0 (hO (xh X) G Q ++ P.2.2)) L a' s' (kit j k) X ∧ OT P Q G a' s' ∧ Φ s' (kit j k) x) ∧ ES t v G (kit j k) ∧ (kit j k).1 20 = k.1 20 ∧ KB t v w k (kit j k)) ∧ (o = none → ∃ j, (kit j k).1 6 ≠ 0)
theorem VC.bnd {p : Nat → PM} {Φ : cS → kS → Int32 → Prop} {P : PT} {Q : List xR} {r : Option (cS × Option Int32)} {f : cS → Int32 → Option (cS × Option Int32)} (h : VC p Φ P Q L a k X t v w G r) (hf : ∀ s1 w1 j a', a < a' → RWp (p (v + n25 G)) (D0 (hO (xh X) G Q ++ P.2.2)) L a' s1 (kit j k) X → OT P Q G a' s1 → Φ s1 (kit j k) w1 → ES t v G (kit j k) → (kit j k).1 20 = k.1 20 → EC P L a' (kit j k) X t v w (f s1 w1)) : EC P L (a + 1) k X t v w (rbd r f) := by
  intro s' o hs
  cases hr : r with
  | none => rw [hr] at hs; cases hs
  | some p =>
    obtain ⟨s1, o1⟩ := p
    obtain ⟨h1, h2⟩ := h s1 o1 hr
    cases o1 with
    | none =>
      rw [rbd_n hr] at hs
      cases hs
      exact ⟨fun z => absurd rfl z, fun _ => h2 rfl⟩
    | some w1 =>
      rw [rbd_s hr] at hs
      obtain ⟨j, a', r1, ⟨r2, r6, r7⟩, r3, r4, r5⟩ := h1 w1 rfl
      exact ((hf s1 w1 j a' r1 r2 r6 r7 r3 r4).kit r1 r4 r5) s' o hs
def R71 (rc : cRC) (L : List xR) (X : List xF) (t v : Nat) : Prop := ∀ (a : Nat) (s : cS) (k : kS) (G : List gQ) (P : PT) (Q : List xR) (s' : cS) (o : Option Int32), rc 71 s 0 0 0 0 0 0 0 = some (s', o) → RW (hO (xh X) G Q ++ P.2.2) L a s k X → PB t v G k → OT P Q G a s → RM L a t v G → ∃ j a' G' Q', o = some 0 ∧ RW (hO (xh X) G' Q' ++ P.2.2) L a' s' (kit j k) X ∧ PB t v G' (kit j k) ∧ OT P Q' G' a' s' ∧ c72 s' (c53 s') = 0 ∧ a ≤ a' ∧ G'.length + a = G.length + a' ∧ n25 G' = n25 G ∧ (∀ w, KB t v w k (kit j k)) ∧ (kit j k).1 20 = k.1 20
theorem r71_fix (m : Nat) : R71 (cfix (m + 1)) L X t v := by
  intro a s k G P Q s' o hm h hp hO1 hr
  exact un_all (m + 1) (y := 0) hm h hp hO1 (by decide) (Int.natCast_nonneg _) (by have := hr.1; omega)
/-- the class's form of a prefix and the kind of the reference's value are alike -/
def FM (X : List xF) (s : cS) (k : kS) (v : Nat) (x : Int32) : Prop := (x = 1 ∧ k.2 16 v = 3 ∧ (s.f 12 9 ≠ 0 ↔ xcon X (kr k 2 (k.2 18 v))) ∧ s.f 12 7 ≠ 11 ∧ s.f 7 6 = k.2 18 v ∧ ∃ s0 b, XC 0 s0 X ∧ b + X.length ≤ 800000 ∧ OU b s0 k X ∧ s.f 12 7 = (c66 s0 (kr k 2 (k.2 18 v))).1.f 12 7 ∧ s.f 12 8 = (c66 s0 (kr k 2 (k.2 18 v))).1.f 12 8) ∨ (x = 2 ∧ k.2 16 v = 5 ∧ s.f 7 6 = k.2 18 v ∧ s.f 7 7 = k.2 17 v) ∨ (x = 3 ∧ k.2 16 v = 4 ∧ s.f 7 6 = k.2 18 v) ∨ (x = 4 ∧ k.2 16 v = 1) ∨ (x = 0 ∧ k.2 16 v = 0)
/-- behind a prefix -/
def FP (X : List xF) (n : Nat) (s : cS) (k : kS) (x : Int32) : Prop := FM X s k n x ∧ LO s k n
/-- behind a table or a function -/
def FZ (n : Nat) (_ : cS) (k : kS) (_ : Int32) : Prop := k.2 16 n = 0
def R60 (rc : cRC) (L : List xR) (X : List xF) (t v w : Nat) : Prop := ∀ (a : Nat) (s : cS) (k : kS) (G : List gQ) (P : PT) (Q : List xR), RW (hO (xh X) G Q ++ P.2.2) L a s k X → PB t v G k → OT P Q G a s → RM L a t v G → (k.1 20 = xn w ∧ w ≤ a) → (c53 s = 1 ∨ c53 s = 60) → VC (fun n => some (n, false)) (FP X (v + n25 G)) P Q L a k X t v w G (rc 60 s 0 0 0 0 0 0 0)
def R91 (rc : cRC) (L : List xR) (X : List xF) (t v w : Nat) : Prop := ∀ (a : Nat) (s : cS) (k : kS) (G : List gQ) (P : PT) (Q : List xR), RW (hO (xh X) G Q ++ P.2.2) L a s k X → PB t v G k → OT P Q G a s → RM L a t v G → (k.1 20 = xn w ∧ w ≤ a) → c53 s = 62 → VC (fun n => some (n, true)) (FZ (v + n25 G)) P Q L a k X t v w G (rc 91 s 0 0 0 0 0 0 0)
def R73 (rc : cRC) (L : List xR) (X : List xF) (t v w : Nat) : Prop := ∀ (a : Nat) (s : cS) (k : kS) (G : List gQ) (P : PT) (Q : List xR), RW (hO (xh X) G Q ++ P.2.2) L a s k X → PB t v G k → OT P Q G a s → RM L a t v G → (k.1 20 = xn w ∧ w ≤ a) → c53 s = 18 → VC (fun n => some (n, true)) (FZ (v + n25 G)) P Q L a k X t v w G (rbd (some (c55 s)) (fun _ _ => rc 73 (c55 s).1 0 ((c63 (c55 s).1) - 1) 0 0 0 0 0))
/-- the class writes what a prefix stands for -/
theorem RWp.stl {H : List hE} {d2 : List xR} {x : Int32} {n : Nat} (h : RWp (some (n, false)) ([], d2, H) L a s k X) (hf : FM X s k n x) : RWp (some (n, true)) ([], d2, H) L a (c100 s x).1 k X := by
  have f := fr_c100 s x
  refine h.fro f (kFr.refl (F := 0) (A := 0)) rfl rfl rfl rfl rfl rfl (PO.fr (p := some (n, true)) h.2.2.2.2.2.1 (f.ou rfl) (kFr.refl (F := 0) (A := 0)) rfl rfl rfl (Or.inr ⟨rfl, rfl, rfl⟩)) ?_
  obtain ⟨R, r1, r2⟩ := h.2.2.2.2.2.2.2
  have r1 : R = [] := r1
  subst r1
  have r2 : NR 0 ([], d2) H s k X := r2
  unfold c100
  rcases hf with ⟨rfl, hk, -, -, hw, s0, b, z2, z3, z4, z6, z7⟩ | ⟨rfl, hk, hw, ht⟩ | ⟨rfl, hk, hw⟩ | ⟨rfl, hk⟩ | ⟨rfl, hk⟩
  · rw [if_neg (fun z => z rfl)]
    refine ⟨[(s.f 12 7, s.f 12 8, 0, s.f 7 6)], Or.inr (Or.inr (Or.inl ⟨hk, s0, b, z2, z3, z4, ?_⟩)), ?_⟩
    · rw [hw, z6, z7]
    · exact r2.cle
  · rw [if_pos (by decide), if_neg (fun z => z rfl), hw, ht]
    exact ⟨[(12, k.2 17 n, 0, k.2 18 n)], Or.inr (Or.inl ⟨hk, rfl⟩), r2.cle⟩
  · rw [if_pos (by decide), if_pos (by decide), if_neg (fun z => z rfl), hw]
    exact ⟨[(11, 0, 0, k.2 18 n)], Or.inl ⟨hk, rfl⟩, r2.cle⟩
  · rw [if_pos (by decide), if_pos (by decide), if_pos (by decide)]
    exact ⟨[], Or.inr (Or.inr (Or.inr ⟨⟨by rw [hk]; decide, by rw [hk]; decide, by rw [hk]; decide⟩, rfl⟩)), r2⟩
  · rw [if_pos (by decide), if_pos (by decide), if_pos (by decide)]
    exact ⟨[], Or.inr (Or.inr (Or.inr ⟨⟨by rw [hk]; decide, by rw [hk]; decide, by rw [hk]; decide⟩, rfl⟩)), r2⟩
theorem rbd_as {r : Option (cS × Option Int32)} {f g : cS → Int32 → Option (cS × Option Int32)} : rbd r (fun s w => rbd (f s w) g) = rbd (rbd r f) g := by
  cases r with
  | none => rfl
  | some p =>
    obtain ⟨s1, o1⟩ := p
    cases o1 with
    | none => rfl
    | some w1 => rfl
/-- a round of expression -/
theorem ex_rnd {P : PT} {Q : List xR} {y1 y2 y4 : Int32} {f : xF} {r : List xF} (h : RW (hO (f.1 - 1) G Q ++ P.2.2) L a s k (f :: r)) (hp : PB t v G k) (hO1 : OT P Q G a s) (hy1 : y1 = xn P.1.length) (hr : RM L a t v G) (h20 : k.1 20 = xn w ∧ w ≤ a) (hy0 : 0 ≤ y4.toInt) (hy : y4.toInt ≤ a) (ha : R70a rc L (f :: r) t v w) (hb : R70b rc) (h71 : R71 rc L (f :: r) t v) (h60 : R60 rc L (f :: r) t v w) (h91 : R91 rc L (f :: r) t v w) (h73 : R73 rc L (f :: r) t v w) : EC P L (a + 1) k (f :: r) t v w (c70_15 rc s y1 y2 1 y4) := by
  have hl : a ≤ L.length := h.1.2.2.1.2.2
  have h16 := h.1.1.2.1
  unfold c70_15
  rw [if_neg (by decide), if_neg (by rw [i_lt]; have : (16384 : Int32).toInt = 16384 := rfl; omega)]
  intro s' o hs
  cases hq : rc 71 s 0 0 0 0 0 0 0 with
  | none => rw [hq] at hs; cases hs
  | some p =>
    obtain ⟨s1, o1⟩ := p
    obtain ⟨j, a1, G1, Q1, q1, q2, q3, q10, q4, q5, q6, q7, q8, q9⟩ := h71 a s k G P Q s1 o1 hq h hp hO1 hr
    rw [q1] at hq
    rw [rbd_s hq] at hs
    have hl1 : a1 ≤ L.length := q2.1.2.2.1.2.2
    have hm : RM L a1 t v G1 := ⟨by have := hr.1; omega, by have := hr.2; omega⟩
    have hw1 : (kit j k).1 20 = xn w ∧ w ≤ a1 := ⟨q9.trans h20.1, by have := h20.2; omega⟩
    refine EC.kit (j := j) (a1 := a1 + 1) ?_ (by omega) q9 (q8 w) s' o hs
    have aft : ∀ (s2 : cS) (i a2 : Nat) (z : Int32), a1 < a2 → RWp (some (v + n25 G1, true)) (D0 (hO (f.1 - 1) G1 Q1 ++ P.2.2)) L a2 s2 (kit i (kit j k)) (f :: r) → OT P Q1 G1 a2 s2 → (z ≠ 0 ↔ (kit i (kit j k)).2 16 (v + n25 G1) = 1 ∨ (kit i (kit j k)).2 16 (v + n25 G1) = 2) → LO s2 (kit i (kit j k)) (v + n25 G1) → ES t v G1 (kit i (kit j k)) → (kit i (kit j k)).1 20 = (kit j k).1 20 → EC P L a2 (kit i (kit j k)) (f :: r) t v w (c70_148 rc s2 y1 z y4) := fun s2 i a2 z u1 u2 uO uz ul u3 u5 => by
      have hl2 : a2 ≤ L.length := u2.1.2.2.1.2.2
      exact ex_aft u2 u3 uO hy1 uz ul ⟨by have := hm.1; omega, by have := hm.2; omega⟩ ⟨u5.trans hw1.1, by have := hw1.2; omega⟩ ha hb hy0 (by omega)
    have pre : ∀ (s2 : cS) (w1 : Int32) (i a2 : Nat), a1 < a2 → RWp (some (v + n25 G1, false)) (D0 (hO (f.1 - 1) G1 Q1 ++ P.2.2)) L a2 s2 (kit i (kit j k)) (f :: r) → OT P Q1 G1 a2 s2 → FP (f :: r) (v + n25 G1) s2 (kit i (kit j k)) w1 → ES t v G1 (kit i (kit j k)) → (kit i (kit j k)).1 20 = (kit j k).1 20 → EC P L a2 (kit i (kit j k)) (f :: r) t v w (c70_120 rc s2 y1 y4 w1) := fun s2 w1 i a2 u1 u2 uO uF u3 u5 => by
      have u4 := u2.stl uF.1
      have fc := fr_c100 s2 w1
      have uO' : OT P Q1 G1 a2 (c100 s2 w1).1 := uO.fr (TS.of fc rfl) (Nat.le_refl _) uO.2.2.2.1
      have nf4 : w1 ≠ 4 → ¬ ((kit i (kit j k)).2 16 (v + n25 G1) = 1 ∨ (kit i (kit j k)).2 16 (v + n25 G1) = 2) := fun hn => by
        rcases uF.1 with ⟨-, q, -⟩ | ⟨-, q, -⟩ | ⟨-, q, -⟩ | ⟨q, -⟩ | ⟨-, q⟩
        · rw [q]; decide
        · rw [q]; decide
        · rw [q]; decide
        · exact absurd q hn
        · rw [q]; decide
      unfold c70_120 c70_128 c70_139
      by_cases c4 : w1 = 4
      · rw [if_neg (fun z => z c4)]
        have hk1 : (kit i (kit j k)).2 16 (v + n25 G1) = 1 := by
          rcases uF.1 with ⟨z, -⟩ | ⟨z, -⟩ | ⟨z, -⟩ | ⟨-, z⟩ | ⟨z, -⟩
          · rw [c4] at z; exact absurd z (by decide)
          · rw [c4] at z; exact absurd z (by decide)
          · rw [c4] at z; exact absurd z (by decide)
          · exact z
          · rw [c4] at z; exact absurd z (by decide)
        have es : (c100 s2 w1).1 = s2 := by
          unfold c100
          rw [c4, if_pos (by decide), if_pos (by decide), if_pos (by decide)]
        refine aft _ i a2 1 u1 u4 uO' ⟨fun _ => Or.inl hk1, fun _ => by decide⟩ ?_ u3 u5
        rw [es]
        exact uF.2
      · rw [if_pos c4]
        refine aft _ i a2 0 u1 u4 uO' ⟨fun z => absurd rfl z, fun z => absurd z (nf4 c4)⟩ ?_ u3 u5
        exact LO.no (fun z => nf4 c4 (Or.inl z)) (fun z => nf4 c4 (Or.inr z))
    have zer : ∀ (s2 : cS) (k2 : kS), FZ (v + n25 G1) s2 k2 0 → ((0 : Int32) ≠ 0 ↔ k2.2 16 (v + n25 G1) = 1 ∨ k2.2 16 (v + n25 G1) = 2) ∧ LO s2 k2 (v + n25 G1) := fun s2 k2 hz => by
      have hz' : k2.2 16 (v + n25 G1) = 0 := hz
      refine ⟨?_, ?_⟩
      · rw [hz']
        decide
      · exact LO.n0 hz'
    unfold c70_31
    by_cases c1 : c53 s1 = 1
    · rw [if_pos c1]
      exact (h60 a1 s1 _ G1 P Q1 q2 q3 q10 hm hw1 (Or.inl c1)).bnd (fun s2 w1 i a2 u1 u2 uO uF u3 u5 => pre s2 w1 i a2 u1 u2 uO uF u3 u5)
    rw [if_neg c1]
    by_cases c18 : c53 s1 = 18
    · rw [if_pos c18]
      have := (h73 a1 s1 _ G1 P Q1 q2 q3 q10 hm hw1 c18).bnd (f := fun s9 _ => c70_106 rc s9 y1 0 y4) (fun s2 w1 i a2 u1 u2 uO uF u3 u5 => aft s2 i a2 0 u1 u2 uO (zer s2 _ uF).1 (zer s2 _ uF).2 u3 u5)
      rw [← rbd_as] at this
      exact this
    rw [if_neg c18]
    by_cases c60 : c53 s1 = 60
    · rw [if_pos c60]
      exact (h60 a1 s1 _ G1 P Q1 q2 q3 q10 hm hw1 (Or.inr c60)).bnd (fun s2 w1 i a2 u1 u2 uO uF u3 u5 => pre s2 w1 i a2 u1 u2 uO uF u3 u5)
    rw [if_neg c60]
    by_cases c62 : c53 s1 = 62
    · rw [if_pos c62]
      exact (h91 a1 s1 _ G1 P Q1 q2 q3 q10 hm hw1 c62).bnd (fun s2 w1 i a2 u1 u2 uO uF u3 u5 => aft s2 i a2 0 u1 u2 uO (zer s2 _ uF).1 (zer s2 _ uF).2 u3 u5)
    rw [if_neg c62]
    have f103 := fr_c103 s1
    have lit : ∀ x : Int32, (c103 s1).2 = some x → RWp (some (v + n25 G1, true)) (D0 (hO (f.1 - 1) G1 Q1 ++ P.2.2)) L (a1 + 1) (c103 s1).1 (kst (kit j k)) (f :: r) → (x ≠ 0 ↔ (kst (kit j k)).2 16 (v + n25 G1) = 1 ∨ (kst (kit j k)).2 16 (v + n25 G1) = 2) → LO (c103 s1).1 (kst (kit j k)) (v + n25 G1) → ES t v G1 (kst (kit j k)) → (kst (kit j k)).1 20 = (kit j k).1 20 → (∀ w, KB t v w (kit j k) (kst (kit j k))) → EC P L (a1 + 1) (kit j k) (f :: r) t v w (rbd (some (c103 s1)) (fun _ w44 => c70_147 rc ((c103 s1).1) y1 y4 w44)) := fun x l1 l2 lz ll l3 l4 l5 => by
      rw [rbd_th l1]
      have hla : a1 + 1 ≤ L.length := l2.1.2.2.1.2.2
      have uO' : OT P Q1 G1 (a1 + 1) (c103 s1).1 := q10.fr (TS.of f103 rfl) (Nat.le_succ _) (by omega)
      exact EC.kit (j := 1) (aft _ 1 (a1 + 1) x (Nat.lt_succ_self _) l2 uO' lz ll l3 l4) (Nat.le_refl _) l4 (l5 w)
    rcases q2.1.kd with ⟨q, g1, g2, g3, -⟩ | ⟨g1, g2, g3⟩
    · by_cases hK : q.1 = 2 ∨ q.1 = 3 ∨ q.1 = 16 ∨ q.1 = 23 ∨ q.1 = 29
      · obtain ⟨l1, l2, lk, l3, l4, l5⟩ := lit_ok q2 q3 g1 hK (by have := hm.1; have := (List.getElem?_eq_some_iff.mp g1).1; omega) (by have := hm.2; omega)
        exact lit 0 l1 l2 (zer (c103 s1).1 _ lk).1 (zer (c103 s1).1 _ lk).2 l3 l4 l5
      · by_cases h72 : q.1 = 72
        · obtain ⟨l1, l2, ⟨lk, ll⟩, l3, l4, l5⟩ := lit_dot q2 q3 g1 h72 (by have := hm.1; omega) (by have := hm.2; omega)
          refine lit 1 l1 l2 ⟨fun _ => Or.inr lk, fun _ => by decide⟩ ?_ l3 l4 l5
          exact ⟨fun hlt => ⟨fun z => absurd (lk.symm.trans z) (by decide), fun _ => ll.1 hlt⟩, fun _ => ll.2⟩
        · obtain ⟨n1, n2⟩ := lit_no q2 q3 q4 (fun K hK' z => by
            rw [g2] at z c1 c18 c60 c62
            rcases hK' with y | y | y | y | y | y | y | y | y | y
            · exact c1 (z.trans y)
            · exact hK (Or.inl (z.trans y))
            · exact hK (Or.inr (Or.inl (z.trans y)))
            · exact hK (Or.inr (Or.inr (Or.inl (z.trans y))))
            · exact c18 (z.trans y)
            · exact hK (Or.inr (Or.inr (Or.inr (Or.inl (z.trans y)))))
            · exact hK (Or.inr (Or.inr (Or.inr (Or.inr (z.trans y)))))
            · exact c60 (z.trans y)
            · exact c62 (z.trans y)
            · exact h72 (z.trans y)) (by have := hm.1; omega)
          rw [rbd_thn n1]
          intro s' o hs
          cases hs
          exact ⟨fun z => absurd rfl z, fun _ => ⟨1, n2⟩⟩
    · obtain ⟨n1, n2⟩ := lit_no q2 q3 q4 (fun K hK' z => by
        rw [g2] at z
        rcases hK' with y | y | y | y | y | y | y | y | y | y <;> (rw [y] at z; exact absurd z (by decide))) (by have := hm.1; omega)
      rw [rbd_thn n1]
      intro s' o hs
      cases hs
      exact ⟨fun z => absurd rfl z, fun _ => ⟨1, n2⟩⟩
/-- the loop at its end -/
theorem r70b_fix (m : Nat) : R70b (cfix (m + 1)) := by
  intro s y1 y2 y4 s' o hs
  rw [cf70015] at hs
  unfold c70_15 at hs
  rw [if_pos rfl, ex_end] at hs
  cases hs
  exact ⟨rfl, rfl⟩
/-- an expression, by shorter runs -/
theorem ex_fix {m : Nat} {f : xF} {r : List xF} (ha : R70a (cfix m) L (f :: r) t v w) (hb : R70b (cfix m)) (h71 : R71 (cfix m) L (f :: r) t v) (h60 : R60 (cfix m) L (f :: r) t v w) (h91 : R91 (cfix m) L (f :: r) t v w) (h73 : R73 (cfix m) L (f :: r) t v w) : R70a (cfix (m + 1)) L (f :: r) t v w ∧ ∀ a s k P, RW P.2.2 L a s k (f :: r) → PB t v [] k → CP P a s → RM L a t v [] → (k.1 20 = xn w ∧ w ≤ a) → EC P L (a + 1) k (f :: r) t v w (cfix (m + 1) 70 s 0 0 0 0 0 0 0) := by
  constructor
  · intro a s k G P Q y1 y2 y4 h hp hO1 hy1 hr h20 hy0 hy
    rw [cf70015]
    exact ex_rnd h hp hO1 hy1 hr h20 hy0 hy ha hb h71 h60 h91 h73
  · intro a s k P h hp hT hr h20
    have hl : a ≤ L.length := h.1.2.2.1.2.2
    have h16 := h.1.1.2.1
    have er : s.r (.s 8) = xn P.1.length := xn_eq hT.1.1.1 (by have := hT.2.1; omega)
    have hO1 : OT P [] [] a s := by
      refine ⟨?_, trivial, by have := hT.2.1; show P.1.length + 0 ≤ a; omega, by omega, hT.1.2, hT.2.2⟩
      have e : P.1 ++ ([] : List xR).reverse = P.1 := List.append_nil _
      rw [e]
      exact hT.1.1
    rw [cf70]
    exact ex_rnd (G := []) (Q := []) h hp hO1 er hr h20 (by decide) (Int.natCast_nonneg _) ha hb h71 h60 h91 h73
end RWX
