/-! THE WALK OVER BOTH: an expression behind a value -/
/-- a run of the class gives an expression: the reference's goals are down to t, one value more; a0: words read at least -/
def EC (L : List xR) (a0 : Nat) (k : kS) (X : List xF) (t v w : Nat) (r : Option (cS × Option Int32)) : Prop := ∀ s' o, r = some (s', o) → (o ≠ none → ∃ j a', a0 ≤ a' ∧ RWp (some v) L a' s' (kit j k) X ∧ (kit j k).1 10 = xn t ∧ (kit j k).1 15 = xn (v + 1) ∧ (kit j k).1 20 = k.1 20 ∧ KB t v w k (kit j k)) ∧ (o = none → ∃ j, (kit j k).1 6 ≠ 0)
theorem EC.kit {L : List xR} {a0 a1 j : Nat} {k : kS} {X : List xF} {t v w : Nat} {r : Option (cS × Option Int32)} (h : EC L a1 (kit j k) X t v w r) (ha : a0 ≤ a1) (h20 : (kit j k).1 20 = k.1 20) (hb : KB t v w k (kit j k)) : EC L a0 k X t v w r := by
  intro s' o hr
  obtain ⟨h1, h2⟩ := h s' o hr
  refine ⟨fun z => ?_, fun z => ?_⟩
  · obtain ⟨i, a', r1, r2, r3, r4, r5, r6⟩ := h1 z
    refine ⟨j + i, a', by omega, ?_⟩
    rw [kit_add]
    exact ⟨r2, r3, r4, r5.trans h20, hb.trans r6⟩
  · obtain ⟨i, r1⟩ := h2 z
    refine ⟨j + i, ?_⟩
    rw [kit_add]
    exact r1
section RWE
variable {L : List xR} {a : Nat} {s s' : cS} {k k' : kS} {X : List xF} {t v w : Nat} {G : List (Int32 × Int32)} {rc : cRC}
/-- there is room for the goals and values of the words that are left -/
def RM (L : List xR) (a t v : Nat) (G : List (Int32 × Int32)) : Prop := t + 2 * G.length + 16 * (L.length - a) + 8 ≤ 1000000 ∧ v + n25 G + 16 * (L.length - a) + 8 ≤ 1000000
/-- the loop of expression, when more is to come; when it is at its end -/
def R70a (rc : cRC) (L : List xR) (X : List xF) (t v w : Nat) : Prop := ∀ (a : Nat) (s : cS) (k : kS) (G : List (Int32 × Int32)) (y1 y2 y4 : Int32), RW L a s k X → PB t v G k → RM L a t v G → (k.1 20 = xn w ∧ w ≤ a) → 0 ≤ y4.toInt → y4.toInt ≤ a → EC L (a + 1) k X t v w (rc 70015 s 0 y1 y2 1 y4 0 0)
def R70b (rc : cRC) : Prop := ∀ (s : cS) (y1 y2 y4 : Int32) (s' : cS) (o : Option Int32), rc 70015 s 0 y1 y2 0 y4 0 0 = some (s', o) → o = some 0 ∧ cFr 166153499473114484112975882535043072 256 0 4 s s'
theorem ex_end {y1 y2 : Int32} : c70_181 rc s y1 y2 = some (nf (c108 s y1 0).1 7 5 y2, some 0) := rfl
/-- behind a value -/
theorem ex_aft {y1 y2 y4 : Int32} (h : RWp (some (v + n25 G)) L a s k X) (he : ES t v G k) (hr : RM L a t v G) (h20 : k.1 20 = xn w ∧ w ≤ a) (ha : R70a rc L X t v w) (hb : R70b rc) (hy0 : 0 ≤ y4.toInt) (hy : y4.toInt < a) : EC L a k X t v w (c70_148 rc s y1 y2 y4) := by
  have hl : a ≤ L.length := h.1.2.2.1.2.2
  have h16 := h.1.1.2.1
  have y41 : (y4 + 1).toInt = y4.toInt + 1 := i_add rfl (show (1 : Int32).toInt = 1 from rfl) (by omega) (by omega)
  have key : ∀ z : Int32, EC L a k X t v w (c70_168 rc s y1 y4 z) := fun z => by
    unfold c70_168
    by_cases c : c106 s (c53 s) = 0
    · obtain ⟨e1, j, r1, r2, r3, r4, r5⟩ := op_no (y := y1) h he c (by have := hr.1; omega) (by have := hr.2; omega)
      rw [e1, rbd_th (w := 0) rfl]
      intro s' o hs
      obtain ⟨u1, u2⟩ := hb _ _ _ _ _ _ hs
      refine ⟨fun _ => ⟨j, a, Nat.le_refl _, ?_, r2, r3, r4, r5 w⟩, fun q => by rw [u1] at q; cases q⟩
      exact r1.fr u2 (kFr.refl (F := 0) (A := 0))
    · obtain ⟨s1, e1, e2, j, G', r1, r2, r3, r4, r5, r6⟩ := op_yes (y := y1) h he c (by have := hr.1; omega) (by have := hr.2; omega)
      rw [e1, rbd_th (w := 1) rfl]
      have hm : RM L (a + 1) t v G' := ⟨by have := hr.1; omega, by have := hr.2; omega⟩
      exact (ha (a + 1) s1 (kit j k) G' y1 z (y4 + 1) r1 r2 hm ⟨r5.trans h20.1, by have := h20.2; omega⟩ (by omega) (by omega)).kit (by omega) r5 (r6 w)
  unfold c70_148
  split
  · exact key 0
  · split
    · exact key 0
    · exact key 1
end RWE
