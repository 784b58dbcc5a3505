/-! THE WALK OVER BOTH: an expression behind a value -/
/-- the last row is that of the last value, if that is a call or three dots -/
def LO (s : cS) (k : kS) (n : Nat) : Prop := (s.r (.i s.now)).toInt < 1048576 → (k.2 16 n = 1 → c97 s = 13) ∧ (k.2 16 n = 2 → c97 s = 6)
def LR (s : cS) (k : kS) (v : Nat) : Prop := (s.f 7 5 ≠ 0 ↔ k.2 16 v = 1 ∨ k.2 16 v = 2) ∧ LO s k v
/-- a run of the class gives an expression: the reference's goals are down to t, one value more; a0: words read at least -/
def EC (P : PT) (L : List xR) (a0 : Nat) (k : kS) (X : List xF) (t v w : Nat) (r : Option (cS × Option Int32)) : Prop := ∀ s' o, r = some (s', o) → (o ≠ none → ∃ j a', a0 ≤ a' ∧ (RWp (some (v, true)) 0 L a' s' (kit j k) X ∧ CT P s' ∧ LR s' (kit j k) v) ∧ (kit j k).1 10 = xn t ∧ (kit j k).1 15 = xn (v + 1) ∧ (kit j k).1 20 = k.1 20 ∧ KB t v w k (kit j k)) ∧ (o = none → ∃ j, (kit j k).1 6 ≠ 0)
theorem EC.kit {P : PT} {L : List xR} {a0 a1 j : Nat} {k : kS} {X : List xF} {t v w : Nat} {r : Option (cS × Option Int32)} (h : EC P L a1 (kit j k) X t v w r) (ha : a0 ≤ a1) (h20 : (kit j k).1 20 = k.1 20) (hb : KB t v w k (kit j k)) : EC P L a0 k X t v w r := by
  intro s' o hr
  obtain ⟨h1, h2⟩ := h s' o hr
  refine ⟨fun z => ?_, fun z => ?_⟩
  · obtain ⟨i, a', r1, r2, r3, r4, r5, r6⟩ := h1 z
    refine ⟨j + i, a', by omega, ?_⟩
    rw [kit_add]
    exact ⟨r2, r3, r4, r5.trans h20, hb.trans r6⟩
  · obtain ⟨i, r1⟩ := h2 z
    refine ⟨j + i, ?_⟩
    rw [kit_add]
    exact r1
section RWE
variable {L : List xR} {a : Nat} {s s' : cS} {k k' : kS} {X : List xF} {t v w : Nat} {G : List (Int32 × Int32)} {rc : cRC}
/-- there is room for the goals and values of the words that are left -/
def RM (L : List xR) (a t v : Nat) (G : List (Int32 × Int32)) : Prop := t + 2 * G.length + 16 * (L.length - a) + 8 ≤ 1000000 ∧ v + n25 G + 16 * (L.length - a) + 8 ≤ 1000000
/-- the loop of expression, when more is to come; when it is at its end -/
def R70a (rc : cRC) (L : List xR) (X : List xF) (t v w : Nat) : Prop := ∀ (a : Nat) (s : cS) (k : kS) (G : List (Int32 × Int32)) (P : PT) (Q : List xR) (y1 y2 y4 : Int32), RW L a s k X → PB t v G k → OT P Q G a s → y1 = xn P.1.length → RM L a t v G → (k.1 20 = xn w ∧ w ≤ a) → 0 ≤ y4.toInt → y4.toInt ≤ a → EC P L (a + 1) k X t v w (rc 70015 s 0 y1 y2 1 y4 0 0)
def R70b (rc : cRC) : Prop := ∀ (s : cS) (y1 y2 y4 : Int32) (s' : cS) (o : Option Int32), rc 70015 s 0 y1 y2 0 y4 0 0 = some (s', o) → o = some 0 ∧ s' = nf (c108 s y1 0).1 7 5 y2
theorem ex_end {y1 y2 : Int32} : c70_181 rc s y1 y2 = some (nf (c108 s y1 0).1 7 5 y2, some 0) := rfl
theorem OTq.nn : ∀ {G : List (Int32 × Int32)} {Q : List xR}, OTq G Q → ∀ w ∈ Q, ¬ w.1 < 0 := by
  intro G
  induction G with
  | nil =>
    intro Q h w hw
    cases Q with
    | nil => exact absurd hw List.not_mem_nil
    | cons w' Q => exact h.elim
  | cons q G ih =>
    intro Q h w hw
    cases Q with
    | nil => exact h.elim
    | cons w' Q =>
      rcases List.mem_cons.mp hw with z | z
      · rw [z]
        have := h.1.1
        rw [i_le] at this
        rw [i_lt]
        omega
      · exact ih h.2.2 w z
theorem c108_nil {P : List xR} {y1 y2 : Int32} (h : TR s (.s 8) P) (hz : P.length ≤ 1000000) (hy : y1 = xn P.length) : (c108 s y1 y2).1 = s := by
  have er : s.r (.s 8) = xn P.length := xn_eq h.1 (by omega)
  have e : c108b10 y1 y2 (s, s.r (.s 8) - 1) = (1, (s, s.r (.s 8) - 1)) := by
    unfold c108b10
    rw [if_pos (by show s.r (.s 8) - 1 < y1; rw [er, hy, i_lt, i_sub (xn_i (by omega)) (show (1 : Int32).toInt = 1 from rfl) (by omega) (by omega), xn_i (by omega)]; omega)]
  unfold c108
  rw [kfin_of ⟨1, by rw [kwh_out (by rw [e]; exact Nat.succ_ne_zero _), e]⟩ (Nat.succ_ne_zero 0)]
/-- behind a value -/
theorem ex_aft {P : PT} {Q : List xR} {y1 y2 y4 : Int32} (h : RWp (some (v + n25 G, true)) 0 L a s k X) (he : ES t v G k) (hO : OT P Q G a s) (hy1 : y1 = xn P.1.length) (hfl : y2 ≠ 0 ↔ k.2 16 (v + n25 G) = 1 ∨ k.2 16 (v + n25 G) = 2) (hlo : LO s k (v + n25 G)) (hr : RM L a t v G) (h20 : k.1 20 = xn w ∧ w ≤ a) (ha : R70a rc L X t v w) (hb : R70b rc) (hy0 : 0 ≤ y4.toInt) (hy : y4.toInt < a) : EC P L a k X t v w (c70_148 rc s y1 y2 y4) := by
  have hl : a ≤ L.length := h.1.2.2.1.2.2
  have h16 := h.1.1.2.1
  have y41 : (y4 + 1).toInt = y4.toInt + 1 := i_add rfl (show (1 : Int32).toInt = 1 from rfl) (by omega) (by omega)
  have lGQ := hO.2.1.len
  have key : ∀ z : Int32, (z ≠ 0 ↔ y2 ≠ 0 ∧ G = []) → EC P L a k X t v w (c70_168 rc s y1 y4 z) := fun z hz => by
    unfold c70_168
    by_cases c : c106 s (c53 s) = 0
    · obtain ⟨e1, j, r1, r6, r7, r2, r3, r4, r5⟩ := op_no (y := y1) h he c (by have := hr.1; omega) (by have := hr.2; omega)
      rw [e1, rbd_th (w := 0) rfl]
      intro s' o hs
      obtain ⟨u1, u2⟩ := hb _ _ _ _ _ _ hs
      refine ⟨fun _ => ⟨j, a, Nat.le_refl _, ?_, r2, r3, r4, r5 w⟩, fun q => by rw [u1] at q; cases q⟩
      obtain ⟨Q1, Q2, g1, g2, g3, g4, g5⟩ := r1.red (y2 := 0) hO.1 (by have := hO.2.2; omega) hy1
      have q20 : Q2 = [] := by
        cases Q2 with
        | nil => rfl
        | cons w' Q3 => exact absurd (g3 w' Q3 rfl) (hO.2.1.nn w' (by rw [g1]; exact List.mem_append_right _ List.mem_cons_self))
      rw [q20, List.append_nil] at g1
      have d0 : (0 : Int32) - kpS G + opS Q1 = 0 := by rw [← g1, hO.2.1.all, Int32.sub_add_cancel]
      rw [d0] at g5
      rw [q20] at g4
      have g4' : TR (c108 s y1 0).1 (.s 8) P.1 := by
        have e : P.1 ++ ([] : List xR).reverse = P.1 := List.append_nil _
        rw [e] at g4
        exact g4
      have fn : cFr 166153499473114484112975882535043072 0 0 0 (c108 s y1 0).1 (nf (c108 s y1 0).1 7 5 z) := cFr.refl.sf rfl
      rw [u2]
      refine ⟨g5.fr fn (kFr.refl (F := 0) (A := 0)), ⟨g4'.same rfl rfl, hO.2.2.2.2.1.same ((fr_c108 s y1 0).2.1 10 rfl).1 ((fr_c108 s y1 0).2.1 10 rfl).2⟩, ?_, ?_⟩
      · have ez : (nf (c108 s y1 0).1 7 5 z).f 7 5 = z := nf_at
        rw [ez, hz]
        by_cases cG : G = []
        · have n0 : v + n25 G = v := by rw [cG]; rfl
          rw [r6 cG, ← n0, ← hfl]
          exact ⟨fun q => q.1, fun q => ⟨q, cG⟩⟩
        · rw [r7 cG]
          exact ⟨fun q => absurd q.2 cG, fun q => q.elim (fun z => absurd z (by decide)) (fun z => absurd z (by decide))⟩
      · by_cases cG : G = []
        · have n0 : v + n25 G = v := by rw [cG]; rfl
          have qn : Q = [] := List.eq_nil_of_length_eq_zero (by rw [← lGQ, cG]; rfl)
          have tP : TR s (.s 8) P.1 := by
            have z := hO.1
            rw [qn] at z
            have e : P.1 ++ ([] : List xR).reverse = P.1 := List.append_nil _
            rw [e] at z
            exact z
          have es : (c108 s y1 0).1 = s := c108_nil tP (by have := hO.2.2; omega) hy1
          intro hlt
          have hlt' : (s.r (.i s.now)).toInt < 1048576 := by
            rw [es] at hlt
            exact hlt
          have q := hlo hlt'
          rw [es, r6 cG]
          rw [n0] at q
          exact q
        · intro _
          rw [r7 cG]
          exact ⟨fun z => absurd z (by decide), fun z => absurd z (by decide)⟩
    · obtain ⟨s1, e1, e2, j, G', Q', r1, r2, r7, r3, r4, r5, r6⟩ := op_yes (y := y1) h he hO hy1 c (by have := hr.1; omega) (by have := hr.2; omega)
      rw [e1, rbd_th (w := 1) rfl]
      have hm : RM L (a + 1) t v G' := ⟨by have := hr.1; omega, by have := hr.2; omega⟩
      exact (ha (a + 1) s1 (kit j k) G' P Q' y1 z (y4 + 1) r1 r2 r7 hy1 hm ⟨r5.trans h20.1, by have := h20.2; omega⟩ (by omega) (by omega)).kit (by omega) r5 (r6 w)
  have er : s.r (.s 8) = xn (P.1.length + Q.length) := xn_eq (by rw [hO.1.1, List.length_append, List.length_reverse]) (by have := hO.2.2; omega)
  unfold c70_148
  split
  · rename_i c
    exact key 0 ⟨fun z => absurd rfl z, fun z => absurd c z.1⟩
  · rename_i c
    split
    · rename_i c'
      refine key 0 ⟨fun z => absurd rfl z, fun z => ?_⟩
      have qn : Q = [] := List.eq_nil_of_length_eq_zero (by rw [← lGQ, z.2]; rfl)
      exact absurd (by rw [er, hy1, qn]; rfl) c'
    · rename_i c'
      refine key 1 ⟨fun _ => ⟨c, ?_⟩, fun _ => by decide⟩
      have e := Decidable.not_not.mp c'
      rw [er, hy1] at e
      have := xn_inj (by have := hO.2.2; omega) (by have := hO.2.2; omega) e
      exact List.eq_nil_of_length_eq_zero (by omega)
end RWE
