/-! THE WALK OVER BOTH: an expression behind a value -/
/-- the last row is that of the last value, if that is a call or three dots -/
def LO (s : cS) (k : kS) (n : Nat) : Prop := ((s.r (.i s.now)).toInt < 1048576 → (k.2 16 n = 1 → c97 s = 13) ∧ (k.2 16 n = 2 → c97 s = 6)) ∧ (k.2 16 n = 1 ∨ k.2 16 n = 2 → LG (k.2 17 n).toNatClampNeg (s.now - 1) k)
theorem LO.no {s : cS} {k : kS} {n : Nat} (h1 : k.2 16 n ≠ 1) (h2 : k.2 16 n ≠ 2) : LO s k n := ⟨fun _ => ⟨fun z => absurd z h1, fun z => absurd z h2⟩, fun z => z.elim (fun z => absurd z h1) (fun z => absurd z h2)⟩
theorem LO.n0 {s : cS} {k : kS} {n : Nat} (h : k.2 16 n = 0) : LO s k n := LO.no (by rw [h]; decide) (by rw [h]; decide)
def LR (s : cS) (k : kS) (v : Nat) : Prop := (s.f 7 5 ≠ 0 ↔ k.2 16 v = 1 ∨ k.2 16 v = 2) ∧ LO s k v
/-- a run of the class gives an expression: the reference's goals are down to t, one value more; a0: words read at least -/
def EC (P : PT) (L : List xR) (a0 : Nat) (k : kS) (X : List xF) (t v w : Nat) (r : Option (cS × Option Int32)) : Prop := ∀ s' o, r = some (s', o) → (o ≠ none → ∃ j a', a0 ≤ a' ∧ (RWp (some (v, true)) (D0 P.2.2) L a' s' (kit j k) X ∧ CT P s' ∧ LR s' (kit j k) v) ∧ (kit j k).1 10 = xn t ∧ (kit j k).1 15 = xn (v + 1) ∧ (kit j k).1 20 = k.1 20 ∧ KB t v w k (kit j k)) ∧ (o = none → ∃ j, (kit j k).1 6 ≠ 0)
theorem EC.kit {P : PT} {L : List xR} {a0 a1 j : Nat} {k : kS} {X : List xF} {t v w : Nat} {r : Option (cS × Option Int32)} (h : EC P L a1 (kit j k) X t v w r) (ha : a0 ≤ a1) (h20 : (kit j k).1 20 = k.1 20) (hb : KB t v w k (kit j k)) : EC P L a0 k X t v w r := by
  intro s' o hr
  obtain ⟨h1, h2⟩ := h s' o hr
  refine ⟨fun z => ?_, fun z => ?_⟩
  · obtain ⟨i, a', r1, r2, r3, r4, r5, r6⟩ := h1 z
    refine ⟨j + i, a', by omega, ?_⟩
    rw [kit_add]
    exact ⟨r2, r3, r4, r5.trans h20, hb.trans r6⟩
  · obtain ⟨i, r1⟩ := h2 z
    refine ⟨j + i, ?_⟩
    rw [kit_add]
    exact r1
section RWE
variable {L : List xR} {a : Nat} {s s' : cS} {k k' : kS} {X : List xF} {t v w : Nat} {G : List gQ} {rc : cRC}
/-- there is room for the goals and values of the words that are left -/
def RM (L : List xR) (a t v : Nat) (G : List gQ) : Prop := t + 2 * G.length + 16 * (L.length - a) + 8 ≤ 1000000 ∧ v + n25 G + 16 * (L.length - a) + 8 ≤ 1000000
/-- the loop of expression, when more is to come; when it is at its end -/
def R70a (rc : cRC) (L : List xR) (X : List xF) (t v w : Nat) : Prop := ∀ (a : Nat) (s : cS) (k : kS) (G : List gQ) (P : PT) (Q : List xR) (y1 y2 y4 : Int32), RW (hO (xh X) G Q ++ P.2.2) L a s k X → PB t v G k → OT P Q G a s → y1 = xn P.1.length → RM L a t v G → (k.1 20 = xn w ∧ w ≤ a) → 0 ≤ y4.toInt → y4.toInt ≤ a → EC P L (a + 1) k X t v w (rc 70015 s 0 y1 y2 1 y4 0 0)
def R70b (rc : cRC) : Prop := ∀ (s : cS) (y1 y2 y4 : Int32) (s' : cS) (o : Option Int32), rc 70015 s 0 y1 y2 0 y4 0 0 = some (s', o) → o = some 0 ∧ s' = nf (c108 s y1 0).1 7 5 y2
theorem ex_end {y1 y2 : Int32} : c70_181 rc s y1 y2 = some (nf (c108 s y1 0).1 7 5 y2, some 0) := rfl
theorem c108_nil {P : List xR} {y1 y2 : Int32} (h : TR s (.s 8) P) (hz : P.length ≤ 1000000) (hy : y1 = xn P.length) : (c108 s y1 y2).1 = s := by
  have er : s.r (.s 8) = xn P.length := xn_eq h.1 (by omega)
  have e : c108b10 y1 y2 (s, s.r (.s 8) - 1) = (1, (s, s.r (.s 8) - 1)) := by
    unfold c108b10
    rw [if_pos (by show s.r (.s 8) - 1 < y1; rw [er, hy, i_lt, i_sub (xn_i (by omega)) (show (1 : Int32).toInt = 1 from rfl) (by omega) (by omega), xn_i (by omega)]; omega)]
  unfold c108
  rw [kfin_of ⟨1, by rw [kwh_out (by rw [e]; exact Nat.succ_ne_zero _), e]⟩ (Nat.succ_ne_zero 0)]
/-- behind a value -/
theorem ex_aft {P : PT} {Q : List xR} {y1 y2 y4 : Int32} {f : xF} {r : List xF} (h : RWp (some (v + n25 G, true)) (D0 (hO (f.1 - 1) G Q ++ P.2.2)) L a s k (f :: r)) (he : ES t v G k) (hO1 : OT P Q G a s) (hy1 : y1 = xn P.1.length) (hfl : y2 ≠ 0 ↔ k.2 16 (v + n25 G) = 1 ∨ k.2 16 (v + n25 G) = 2) (hlo : LO s k (v + n25 G)) (hr : RM L a t v G) (h20 : k.1 20 = xn w ∧ w ≤ a) (ha : R70a rc L (f :: r) t v w) (hb : R70b rc) (hy0 : 0 ≤ y4.toInt) (hy : y4.toInt < a) : EC P L a k (f :: r) t v w (c70_148 rc s y1 y2 y4) := by
  have hl : a ≤ L.length := h.1.2.2.1.2.2
  have h16 := h.1.1.2.1
  have y41 : (y4 + 1).toInt = y4.toInt + 1 := i_add rfl (show (1 : Int32).toInt = 1 from rfl) (by omega) (by omega)
  have lGQ := hO1.2.1.len
  have key : ∀ z : Int32, (z ≠ 0 ↔ y2 ≠ 0 ∧ G = []) → EC P L a k (f :: r) t v w (c70_168 rc s y1 y4 z) := fun z hz => by
    unfold c70_168
    by_cases c : c106 s (c53 s) = 0
    · have z0 : k203 k (k183 k) = 0 := by
        rcases op_kd h.1 with ⟨-, z2⟩ | ⟨z1, -⟩
        · exact z2
        · exact absurd c z1
      rw [op_no c, rbd_th (w := 0) rfl]
      intro s' o hs
      obtain ⟨u1, u2⟩ := hb _ _ _ _ _ _ hs
      obtain ⟨j, G', Q', ⟨r1, -, -, r4, r5, r9⟩, hO2, g5, r12⟩ := h.red (y2 := 0) he hO1 hy1 (by have := hr.1; omega) (by have := hr.2; omega) (fun q w z1 z2 => by
        rw [z0]
        refine ⟨fun z => absurd z (rk_lt0 z1), fun z => ?_⟩
        rw [i_le] at z2
        rw [i_lt] at z
        omega)
      have gn : G' = [] := by
        cases G' with
        | nil => rfl
        | cons q G3 =>
          have z2 := r9 q G3 rfl
          have z3 := r1.1.2.2.1
          rw [z0, i_lt] at z2
          rw [i_le] at z3
          omega
      subst gn
      have qn : Q' = [] := List.eq_nil_of_length_eq_zero hO2.2.1.len.symm
      subst qn
      have e1 : kst (kit j k) = kf (kit j k) 10 (xn t) := es_top r1.2.1 r1.1.1 r1.1.2 (by rw [k183_q r4]; show ¬ (0 : Int32) < k203 k (k183 k); rw [z0]; decide) (by have := hr.1; omega)
      have ek : kit (j + 1) k = kf (kit j k) 10 (xn t) := (kit_add (i := j) (j := 1)).trans e1
      have g6 : RWp (some (v, true)) (D0 P.2.2) L a (c108 s y1 0).1 (kit j k) (f :: r) := g5
      have f10 : kFr 1024 0 (kit j k) (kf (kit j k) 10 (xn t)) := kFr.sf kFr.refl rfl
      have fn : cFr 166153499473114484112975882535043072 0 0 0 (c108 s y1 0).1 (nf (c108 s y1 0).1 7 5 z) := cFr.refl.sf rfl
      have g4' : TR (c108 s y1 0).1 (.s 8) P.1 := by
        have z := hO2.1
        have e : P.1 ++ ([] : List xR).reverse = P.1 := List.append_nil _
        rw [e] at z
        exact z
      refine ⟨fun _ => ⟨j + 1, a, Nat.le_refl _, ?_⟩, fun q => by rw [u1] at q; cases q⟩
      rw [ek, u2]
      refine ⟨⟨g6.fr fn f10, ⟨g4'.same rfl rfl, hO2.2.2.2.2.1.same rfl rfl⟩, ?_, ?_⟩, rfl, r1.2.2.1, r4.1 20 rfl, (r5 t w).trans (KB.fr f10 rfl)⟩
      · have ez : (nf (c108 s y1 0).1 7 5 z).f 7 5 = z := nf_at
        rw [ez, hz]
        show (y2 ≠ 0 ∧ G = []) ↔ (kit j k).2 16 v = 1 ∨ (kit j k).2 16 v = 2
        rcases r12 with ⟨z1, z2, z3⟩ | ⟨z0, z1⟩
        · subst z1
          rw [z2]
          show _ ↔ k.2 16 v = 1 ∨ k.2 16 v = 2
          rw [hfl]
          exact ⟨fun q => q.1, fun q => ⟨q, rfl⟩⟩
        · have z1 : (kit j k).2 16 v = 0 := z1
          rw [z1]
          exact ⟨fun q => absurd q.2 z0, fun q => q.elim (fun z => absurd z (by decide)) (fun z => absurd z (by decide))⟩
      · rcases r12 with ⟨z1, z2, z3⟩ | ⟨z0, z1⟩
        · subst z1
          subst z2
          rw [z3]
          exact ⟨hlo.1, fun q => (hlo.2 q).fr f10 rfl rfl⟩
        · have z1 : (kit j k).2 16 v = 0 := z1
          exact LO.n0 z1
    · obtain ⟨s1, e1, e2, j, G', Q', r1, r2, r7, r3, r4, r5, r6⟩ := op_yes (y := y1) h he hO1 hy1 c (by have := hr.1; omega) (by have := hr.2; omega)
      rw [e1, rbd_th (w := 1) rfl]
      have hm : RM L (a + 1) t v G' := ⟨by have := hr.1; omega, by have := hr.2; omega⟩
      exact (ha (a + 1) s1 (kit j k) G' P Q' y1 z (y4 + 1) r1 r2 r7 hy1 hm ⟨r5.trans h20.1, by have := h20.2; omega⟩ (by omega) (by omega)).kit (by omega) r5 (r6 w)
  have er : s.r (.s 8) = xn (P.1.length + Q.length) := xn_eq (by rw [hO1.1.1, List.length_append, List.length_reverse]) (by have := hO1.2.2; omega)
  unfold c70_148
  split
  · rename_i c
    exact key 0 ⟨fun z => absurd rfl z, fun z => absurd c z.1⟩
  · rename_i c
    split
    · rename_i c'
      refine key 0 ⟨fun z => absurd rfl z, fun z => ?_⟩
      have qn : Q = [] := List.eq_nil_of_length_eq_zero (by rw [← lGQ, z.2]; rfl)
      exact absurd (by rw [er, hy1, qn]; rfl) c'
    · rename_i c'
      refine key 1 ⟨fun _ => ⟨c, ?_⟩, fun _ => by decide⟩
      have e := Decidable.not_not.mp c'
      rw [er, hy1] at e
      have := xn_inj (by have := hO1.2.2; omega) (by have := hO1.2.2; omega) e
      exact List.eq_nil_of_length_eq_zero (by omega)
end RWE
