/-! THE WALK OVER BOTH: the loop of expression -/
section RWX
variable {L : List xR} {a : Nat} {s s' : cS} {k k' : kS} {X : List xF} {t v w : Nat} {G : List (Int32 × Int32)} {rc : cRC}
/-- a run of the class gives a value, with operators that wait as before -/
def VC (L : List xR) (a : Nat) (k : kS) (X : List xF) (t v w : Nat) (G : List (Int32 × Int32)) (r : Option (cS × Option Int32)) : Prop := ∀ s' o, r = some (s', o) → (o ≠ none → ∃ j a', a < a' ∧ RWp (some (v + n25 G)) L a' s' (kit j k) X ∧ ES t v G (kit j k) ∧ (kit j k).1 20 = k.1 20 ∧ KB t v w k (kit j k)) ∧ (o = none → ∃ j, (kit j k).1 6 ≠ 0)
theorem VC.bnd {r : Option (cS × Option Int32)} {f : cS → Int32 → Option (cS × Option Int32)} (h : VC L a k X t v w G r) (hf : ∀ s1 w1 j a', a < a' → RWp (some (v + n25 G)) L a' s1 (kit j k) X → ES t v G (kit j k) → (kit j k).1 20 = k.1 20 → EC L a' (kit j k) X t v w (f s1 w1)) : EC L (a + 1) k X t v w (rbd r f) := by
  intro s' o hs
  cases hr : r with
  | none => rw [hr] at hs; cases hs
  | some p =>
    obtain ⟨s1, o1⟩ := p
    obtain ⟨h1, h2⟩ := h s1 o1 hr
    cases o1 with
    | none =>
      rw [rbd_n hr] at hs
      cases hs
      exact ⟨fun z => absurd rfl z, fun _ => h2 rfl⟩
    | some w1 =>
      rw [rbd_s hr] at hs
      obtain ⟨j, a', r1, r2, r3, r4, r5⟩ := h1 (fun z => nomatch z)
      exact ((hf s1 w1 j a' r1 r2 r3 r4).kit r1 r4 r5) s' o hs
def R71 (rc : cRC) (L : List xR) (X : List xF) (t v : Nat) : Prop := ∀ (a : Nat) (s : cS) (k : kS) (G : List (Int32 × Int32)) (s' : cS) (o : Option Int32), rc 71 s 0 0 0 0 0 0 0 = some (s', o) → RW L a s k X → PB t v G k → RM L a t v G → ∃ j a' G' , o = some 0 ∧ RW L a' s' (kit j k) X ∧ PB t v G' (kit j k) ∧ c72 s' (c53 s') = 0 ∧ a ≤ a' ∧ G'.length + a = G.length + a' ∧ n25 G' = n25 G ∧ (∀ w, KB t v w k (kit j k)) ∧ (kit j k).1 20 = k.1 20
theorem r71_fix (m : Nat) : R71 (cfix (m + 1)) L X t v := by
  intro a s k G s' o hm h hp hr
  exact un_all (m + 1) (y := 0) hm h hp (by decide) (Int.natCast_nonneg _) (by have := hr.1; omega)
def R60 (rc : cRC) (L : List xR) (X : List xF) (t v w : Nat) : Prop := ∀ (a : Nat) (s : cS) (k : kS) (G : List (Int32 × Int32)), RW L a s k X → PB t v G k → RM L a t v G → (k.1 20 = xn w ∧ w ≤ a) → (c53 s = 1 ∨ c53 s = 60) → VC L a k X t v w G (rc 60 s 0 0 0 0 0 0 0)
def R91 (rc : cRC) (L : List xR) (X : List xF) (t v w : Nat) : Prop := ∀ (a : Nat) (s : cS) (k : kS) (G : List (Int32 × Int32)), RW L a s k X → PB t v G k → RM L a t v G → (k.1 20 = xn w ∧ w ≤ a) → c53 s = 62 → VC L a k X t v w G (rc 91 s 0 0 0 0 0 0 0)
def R73 (rc : cRC) (L : List xR) (X : List xF) (t v w : Nat) : Prop := ∀ (a : Nat) (s : cS) (k : kS) (G : List (Int32 × Int32)), RW L a s k X → PB t v G k → RM L a t v G → (k.1 20 = xn w ∧ w ≤ a) → c53 s = 18 → VC L a k X t v w G (rbd (some (c55 s)) (fun _ _ => rc 73 (c55 s).1 0 ((c63 (c55 s).1) - 1) 0 0 0 0 0))
theorem rbd_as {r : Option (cS × Option Int32)} {f g : cS → Int32 → Option (cS × Option Int32)} : rbd r (fun s w => rbd (f s w) g) = rbd (rbd r f) g := by
  cases r with
  | none => rfl
  | some p =>
    obtain ⟨s1, o1⟩ := p
    cases o1 with
    | none => rfl
    | some w1 => rfl
/-- a round of expression -/
theorem ex_rnd {y1 y2 y4 : Int32} {f : xF} {r : List xF} (h : RW L a s k (f :: r)) (hp : PB t v G k) (hr : RM L a t v G) (h20 : k.1 20 = xn w ∧ w ≤ a) (hy0 : 0 ≤ y4.toInt) (hy : y4.toInt ≤ a) (ha : R70a rc L (f :: r) t v w) (hb : R70b rc) (h71 : R71 rc L (f :: r) t v) (h60 : R60 rc L (f :: r) t v w) (h91 : R91 rc L (f :: r) t v w) (h73 : R73 rc L (f :: r) t v w) : EC L (a + 1) k (f :: r) t v w (c70_15 rc s y1 y2 1 y4) := by
  have hl : a ≤ L.length := h.1.2.2.1.2.2
  have h16 := h.1.1.2.1
  unfold c70_15
  rw [if_neg (by decide), if_neg (by rw [i_lt]; have : (16384 : Int32).toInt = 16384 := rfl; omega)]
  intro s' o hs
  cases hq : rc 71 s 0 0 0 0 0 0 0 with
  | none => rw [hq] at hs; cases hs
  | some p =>
    obtain ⟨s1, o1⟩ := p
    obtain ⟨j, a1, G1, q1, q2, q3, q4, q5, q6, q7, q8, q9⟩ := h71 a s k G s1 o1 hq h hp hr
    rw [q1] at hq
    rw [rbd_s hq] at hs
    have hl1 : a1 ≤ L.length := q2.1.2.2.1.2.2
    have hm : RM L a1 t v G1 := ⟨by have := hr.1; omega, by have := hr.2; omega⟩
    have hw1 : (kit j k).1 20 = xn w ∧ w ≤ a1 := ⟨q9.trans h20.1, by have := h20.2; omega⟩
    refine EC.kit (j := j) (a1 := a1 + 1) ?_ (by omega) q9 (q8 w) s' o hs
    have aft : ∀ (s2 : cS) (i a2 : Nat) (z : Int32), a1 < a2 → RWp (some (v + n25 G1)) L a2 s2 (kit i (kit j k)) (f :: r) → ES t v G1 (kit i (kit j k)) → (kit i (kit j k)).1 20 = (kit j k).1 20 → EC L a2 (kit i (kit j k)) (f :: r) t v w (c70_148 rc s2 y1 z y4) := fun s2 i a2 z u1 u2 u3 u5 => by
      have hl2 : a2 ≤ L.length := u2.1.2.2.1.2.2
      exact ex_aft u2 u3 ⟨by have := hm.1; omega, by have := hm.2; omega⟩ ⟨u5.trans hw1.1, by have := hw1.2; omega⟩ ha hb hy0 (by omega)
    have pre : ∀ (s2 : cS) (w1 : Int32) (i a2 : Nat), a1 < a2 → RWp (some (v + n25 G1)) L a2 s2 (kit i (kit j k)) (f :: r) → ES t v G1 (kit i (kit j k)) → (kit i (kit j k)).1 20 = (kit j k).1 20 → EC L a2 (kit i (kit j k)) (f :: r) t v w (c70_120 rc s2 y1 y4 w1) := fun s2 w1 i a2 u1 u2 u3 u5 => by
      have u4 : RWp (some (v + n25 G1)) L a2 (c100 s2 w1).1 (kit i (kit j k)) (f :: r) := u2.fr (fr_c100 s2 w1) (kFr.refl (F := 0) (A := 0))
      unfold c70_120 c70_128
      split
      · exact aft _ i a2 0 u1 u4 u3 u5
      · exact aft _ i a2 1 u1 u4 u3 u5
    unfold c70_31
    by_cases c1 : c53 s1 = 1
    · rw [if_pos c1]
      exact (h60 a1 s1 _ G1 q2 q3 hm hw1 (Or.inl c1)).bnd (fun s2 w1 i a2 u1 u2 u3 u5 => pre s2 w1 i a2 u1 u2 u3 u5)
    rw [if_neg c1]
    by_cases c18 : c53 s1 = 18
    · rw [if_pos c18]
      have := (h73 a1 s1 _ G1 q2 q3 hm hw1 c18).bnd (f := fun s9 _ => c70_106 rc s9 y1 0 y4) (fun s2 w1 i a2 u1 u2 u3 u5 => aft s2 i a2 0 u1 u2 u3 u5)
      rw [← rbd_as] at this
      exact this
    rw [if_neg c18]
    by_cases c60 : c53 s1 = 60
    · rw [if_pos c60]
      exact (h60 a1 s1 _ G1 q2 q3 hm hw1 (Or.inr c60)).bnd (fun s2 w1 i a2 u1 u2 u3 u5 => pre s2 w1 i a2 u1 u2 u3 u5)
    rw [if_neg c60]
    by_cases c62 : c53 s1 = 62
    · rw [if_pos c62]
      exact (h91 a1 s1 _ G1 q2 q3 hm hw1 c62).bnd (fun s2 w1 i a2 u1 u2 u3 u5 => aft s2 i a2 0 u1 u2 u3 u5)
    rw [if_neg c62]
    have lit : ((c103 s1).2 ≠ none ∧ RWp (some (v + n25 G1)) L (a1 + 1) (c103 s1).1 (kst (kit j k)) (f :: r) ∧ ES t v G1 (kst (kit j k)) ∧ (kst (kit j k)).1 20 = (kit j k).1 20 ∧ ∀ w, KB t v w (kit j k) (kst (kit j k))) → EC L (a1 + 1) (kit j k) (f :: r) t v w (rbd (some (c103 s1)) (fun _ w44 => c70_147 rc ((c103 s1).1) y1 y4 w44)) := fun ⟨l1, l2, l3, l4, l5⟩ => by
      cases hc : (c103 s1).2 with
      | none => exact absurd hc l1
      | some x =>
        rw [rbd_th hc]
        exact EC.kit (j := 1) (aft _ 1 (a1 + 1) x (Nat.lt_succ_self _) l2 l3 l4) (Nat.le_refl _) l4 (l5 w)
    rcases q2.1.kd with ⟨q, g1, g2, g3, -⟩ | ⟨g1, g2, g3⟩
    · by_cases hK : q.1 = 2 ∨ q.1 = 3 ∨ q.1 = 16 ∨ q.1 = 23 ∨ q.1 = 29
      · exact lit (lit_ok q2 q3 g1 hK (by have := hm.1; have := (List.getElem?_eq_some_iff.mp g1).1; omega) (by have := hm.2; omega))
      · by_cases h72 : q.1 = 72
        · exact lit (lit_dot q2 q3 g1 h72 (by have := hm.1; omega) (by have := hm.2; omega))
        · obtain ⟨n1, n2⟩ := lit_no q2 q3 q4 (fun K hK' z => by
            rw [g2] at z c1 c18 c60 c62
            rcases hK' with y | y | y | y | y | y | y | y | y | y
            · exact c1 (z.trans y)
            · exact hK (Or.inl (z.trans y))
            · exact hK (Or.inr (Or.inl (z.trans y)))
            · exact hK (Or.inr (Or.inr (Or.inl (z.trans y))))
            · exact c18 (z.trans y)
            · exact hK (Or.inr (Or.inr (Or.inr (Or.inl (z.trans y)))))
            · exact hK (Or.inr (Or.inr (Or.inr (Or.inr (z.trans y)))))
            · exact c60 (z.trans y)
            · exact c62 (z.trans y)
            · exact h72 (z.trans y)) (by have := hm.1; omega)
          rw [rbd_thn n1]
          intro s' o hs
          cases hs
          exact ⟨fun z => absurd rfl z, fun _ => ⟨1, n2⟩⟩
    · obtain ⟨n1, n2⟩ := lit_no q2 q3 q4 (fun K hK' z => by
        rw [g2] at z
        rcases hK' with y | y | y | y | y | y | y | y | y | y <;> (rw [y] at z; exact absurd z (by decide))) (by have := hm.1; omega)
      rw [rbd_thn n1]
      intro s' o hs
      cases hs
      exact ⟨fun z => absurd rfl z, fun _ => ⟨1, n2⟩⟩
/-- the loop at its end -/
theorem r70b_fix (m : Nat) : R70b (cfix (m + 1)) := by
  intro s y1 y2 y4 s' o hs
  rw [cf70015] at hs
  unfold c70_15 at hs
  rw [if_pos rfl, ex_end] at hs
  cases hs
  exact ⟨rfl, ((fr_c108 s y1 0).mono rfl rfl rfl rfl).trans (cFr.refl.sf rfl)⟩
/-- an expression, by shorter runs -/
theorem ex_fix {m : Nat} {f : xF} {r : List xF} (ha : R70a (cfix m) L (f :: r) t v w) (hb : R70b (cfix m)) (h71 : R71 (cfix m) L (f :: r) t v) (h60 : R60 (cfix m) L (f :: r) t v w) (h91 : R91 (cfix m) L (f :: r) t v w) (h73 : R73 (cfix m) L (f :: r) t v w) : R70a (cfix (m + 1)) L (f :: r) t v w ∧ ∀ a s k, RW L a s k (f :: r) → PB t v [] k → RM L a t v [] → (k.1 20 = xn w ∧ w ≤ a) → EC L (a + 1) k (f :: r) t v w (cfix (m + 1) 70 s 0 0 0 0 0 0 0) := by
  constructor
  · intro a s k G y1 y2 y4 h hp hr h20 hy0 hy
    rw [cf70015]
    exact ex_rnd h hp hr h20 hy0 hy ha hb h71 h60 h91 h73
  · intro a s k h hp hr h20
    rw [cf70]
    exact ex_rnd h hp hr h20 (by decide) (Int.natCast_nonneg _) ha hb h71 h60 h91 h73
end RWX
