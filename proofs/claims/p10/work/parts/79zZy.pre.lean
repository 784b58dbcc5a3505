/-! THE WALK OVER BOTH: prefixes in expressions -/
section PRE
variable {L : List xR} {P : PT} {k0 k k' : kS} {T V W a t v w : Nat} {s s' : cS} {X : List xF} {x y y1 y2 y3 : Int32} {rc : cRC}
theorem k201_kb (hp : KP t v w k) (ht : t + 1 ≤ 1000000) (hv : v ≤ 1000000) : KB t v w k (k201 k).1 := by
  unfold k201
  by_cases c : k183 k ≠ 1
  · rw [if_pos c]
    have f := fr_k193 k 60
    unfold k201_37
    by_cases z : (k193 k 60).2 = 0
    · rw [if_pos z]
      exact KB.fr f rfl
    · rw [if_neg z]
      have e10 : (k193 k 60).1.1 10 = xn t := by
        unfold k193 at z ⊢
        split at z
        · split at z
          · rename_i a1 a2
            rw [if_pos a1, if_pos a2]
            exact hp.1
          · exact absurd (k194_f (by decide)).2.2 z
        · exact absurd (k194_f (by decide)).2.2 z
      have g1 := GT.psh (t := t) (v := v) (w := w) (g := 29) (a := 0) (b := 0) (c := 0) e10 (by omega)
      have g2 := GT.psh (t := t + 1) (v := v) (w := w) (g := 23) (a := 0) (b := 0) (c := 0) g1.1.1 (by omega)
      exact (KB.fr f rfl).trans (g1.2.trans (g2.2.mono (by omega) (Nat.le_refl _) (Nat.le_refl _)))
  · rw [if_neg c]
    exact (val_psh (t := t) (v := v) (w := w) (x := 3) (y := 0) (z := k.1 4) hp.2.1 (by omega) (Nat.le_refl _)).2
/-- a prefix -/
def E60 (rc : cRC) (L : List xR) : Prop := ∀ {P : PT} (a : Nat) (s : cS) (k : kS) (X : List xF) (t v w : Nat), SG L P k t v w a s k X t v w → X ≠ [] → RO L (a + 1) (t + 4) (v + 4) → QC (fun s' k' x => ∃ a', a < a' ∧ SGp (some (v, false)) ([], []) L P k t v w a' s' k' X t (v + 1) w ∧ FP X v s' k' x) (k201 (k179 k 28 0 0 0).1).1 (rc 60 s 0 0 0 0 0 0 0)
theorem pre_all (h61 : E61 rc L) (hp : ∀ (a : Nat) (s : cS) (k : kS) (X : List xF) (t v w : Nat) (y1 : Int32), SGp (some (v, false)) ([], []) L P k t v w a s k X (t + 1) (v + 1) w → X ≠ [] → GT t 28 0 0 0 k → FP X v s k y1 → RO L a t v → QC (fun s' k' x => ∃ a', a ≤ a' ∧ SGp (some (v, false)) ([], []) L P k t v w a' s' k' X t (v + 1) w ∧ FP X v s' k' x) k (c60_7 rc s y1 0)) (h : SG L P k t v w a s k X t v w) (hX : X ≠ []) (hr : RO L (a + 1) (t + 4) (v + 4)) : QC (fun s' k' x => ∃ a', a < a' ∧ SGp (some (v, false)) ([], []) L P k t v w a' s' k' X t (v + 1) w ∧ FP X v s' k' x) (k201 (k179 k 28 0 0 0).1).1 (c60 rc s) := by
  obtain ⟨h1, g1⟩ := h.psh (g := 28) (p := 0) (q := 0) (c := 0) (Nat.le_refl _) (by have := hr.1; omega)
  generalize (k179 k 28 0 0 0).1 = k1 at h1 g1
  have kb := k201_kb h1.2.1 (by have := hr.1; omega) (by have := hr.2; omega)
  have pc := h61 a s k1 X (t + 1) v w h1.own hX ⟨by have := hr.1; omega, by have := hr.2; omega⟩
  unfold c60
  have qc : QC (fun s' k' x => ∃ a', a < a' ∧ SGp (some (v, false)) ([], []) L P k t v w a' s' k' X (t + 1) (v + 1) w ∧ GT t 28 0 0 0 k' ∧ FP X v s' k' x) (k201 k1).1 (rc 61 s 0 0 0 0 0 0 0) := by
    intro s' o e
    obtain ⟨e1, e2⟩ := pc s' o e
    refine ⟨fun x z => ?_, e2⟩
    obtain ⟨j, a', r1, ⟨r2, rT⟩, r3, r4, r5, r6, r7⟩ := e1 x z
    have b := kb.trans r6
    have e20 : (k201 k1).1.1 20 = xn w := ((fr_k201 k1).1 20 rfl).trans h1.2.1.2.2
    exact ⟨j, a', r1, ⟨r2, ⟨r3, r4, r5.trans e20⟩, h1.2.2.1.trans (b.mono (by omega) (Nat.le_refl _) (Nat.le_refl _)), by have := h1.2.2.2.1; omega, rT, by have := h1.2.2.2.2.2.1; omega, by have := h1.2.2.2.2.2.2; omega⟩, g1.bck b r3, r7⟩
  refine qc.bnd ?_
  rintro s2 k2 x2 ⟨a2, u1, u2, u3, u4⟩
  show QC _ k2 (c60_7 rc s2 x2 0)
  have hle := u2.le
  refine (hp a2 s2 k2 X t v w x2 u2.own hX u3 u4 ⟨by have := hr.1; omega, by have := hr.2; omega⟩).mono ?_
  rintro s5 k5 x5 ⟨a5, w1, w2, w3⟩
  exact ⟨a5, by omega, u2.reb w2 (Nat.le_refl _) (Nat.le_refl _) (Nat.le_refl _), w3⟩
/-- a value that the reference begins behind 24 -/
theorem vc_of {p : Nat → PM} {Φ : cS → kS → Int32 → Prop} {Q : List xR} {G : List gQ} {r : Option (cS × Option Int32)} (h : RW (hO (xh X) G Q ++ P.2.2) L a s k X) (hp : PB t v G k) (hO1 : OT P Q G a s) (hr : RM L a t v G) (h20 : k.1 20 = xn w ∧ w ≤ a) (hu : k185 k (k183 k) = 0) (hq : ∀ k1 : kS, SG L (P.1 ++ Q.reverse, P.2.1, hO (xh X) G Q ++ P.2.2) k1 (t + 2 * G.length + 1) (v + n25 G) w a s k1 X (t + 2 * G.length + 1) (v + n25 G) w → k183 k1 = k183 k → QC (fun s' k' x => ∃ a', a < a' ∧ SGp (p (v + n25 G)) ([], []) L (P.1 ++ Q.reverse, P.2.1, hO (xh X) G Q ++ P.2.2) k1 (t + 2 * G.length + 1) (v + n25 G) w a' s' k' X (t + 2 * G.length + 1) (v + n25 G + 1) w ∧ Φ s' k' x) (k187 k1 (k183 k)).1 r) : VC p Φ P Q L a k X t v w G r := by
  obtain ⟨k1, e1, e2, e3, e4, e5⟩ := pb_24 hp (by have := hr.1; omega)
  have h1 : RW (hO (xh X) G Q ++ P.2.2) L a s k1 X := h.fr (cFr.refl (F := 0) (T := 0) (B := 0) (G := 0)) e5
  have ks := (h.1.same h1.1).2
  have e15 : k1.1 15 = xn (v + n25 G) := (e5.1 15 rfl).trans hp.2.2.2.2.1
  have e20 : k1.1 20 = xn w := (e5.1 20 rfl).trans h20.1
  have ek : kst k = (k187 k1 (k183 k)).1 := by
    rw [e1]
    unfold k182_14
    rw [if_pos (by show k185 k1 _ = 0; exact hu)]
  have lq : (P.1 ++ Q.reverse).length = P.1.length + Q.length := by rw [List.length_append, List.length_reverse]
  have q := hq k1 ⟨h1, ⟨e3, e15, e20⟩, KB.refl, h20.2, ⟨hO1.1, hO1.2.2.2.2.1⟩, (by show (P.1 ++ Q.reverse).length ≤ a; have := hO1.2.2.1; omega), hO1.2.2.2.2.2⟩ ks
  rw [← ek] at q
  intro s' o e
  obtain ⟨q1, q2⟩ := QC.stp q s' o e
  refine ⟨fun x z => ?_, q2⟩
  obtain ⟨j, a', r1, r2, r3⟩ := q1 x z
  have hle := r2.le
  exact ⟨j, a', r1, ⟨r2.1, ⟨r2.2.2.2.2.1.1, hO1.2.1, by have := hO1.2.2.1; omega, by omega, r2.2.2.2.2.1.2, r2.2.2.2.2.2.2⟩, r3⟩, ⟨e2.kb r2.2.2.1, r2.2.1.1, r2.2.1.2.1, fun i i1 i2 => by rw [r2.2.2.1.2.1 16 i (by decide) i2, e5.2 16 rfl]; exact hp.2.2.2.2.2 i i1 i2⟩, r2.2.1.2.2.trans h20.1.symm, (e4 w |>.mono (by omega) (Nat.le_refl _) (Nat.le_refl _)).trans (r2.2.2.1.mono (by omega) (by omega) (Nat.le_refl _))⟩
theorem r60_of (h60 : E60 rc L) (hX : X ≠ []) : R60 rc L X t v w := by
  intro a s k G P Q h hp hO1 hr h20 hK
  have hla : a < L.length := by
    rcases h.1.kd with ⟨q, q1, -⟩ | ⟨-, q2, -⟩
    · exact lt_of q1
    · rw [q2] at hK
      exact absurd hK (by decide)
  have hk : k183 k = 1 ∨ k183 k = 60 := hK.imp (h.1.is (by decide) (by decide)).mp (h.1.is (by decide) (by decide)).mp
  have h1 := hr.1
  have h2 := hr.2
  have hL := h.1.1.2.1
  refine vc_of h hp hO1 hr h20 (by rcases hk with z | z <;> rw [z] <;> (unfold k185; decide)) (fun k1 hs ks => ?_)
  have e : (k187 k1 (k183 k)).1 = (k201 (k179 k1 28 0 0 0).1).1 := by
    unfold k187
    rcases hk with z | z <;> rw [z] <;> rfl
  rw [e]
  exact h60 a s k1 X _ _ w hs hX ⟨by omega, by omega⟩
theorem r91_of (h91 : E91 rc L) (hX : X ≠ []) : R91 rc L X t v w := by
  intro a s k G P Q h hp hO1 hr h20 hK
  have hk : k183 k = 62 := (h.1.is (by decide) (by decide)).mp hK
  have hla : a < L.length := by
    rcases h.1.kd with ⟨q, q1, -⟩ | ⟨-, q2, -⟩
    · exact lt_of q1
    · rw [q2] at hK
      exact absurd hK (by decide)
  have h1 := hr.1
  have h2 := hr.2
  refine vc_of h hp hO1 hr h20 (by rw [hk]; unfold k185; decide) (fun k1 hs ks => ?_)
  have e : (k187 k1 (k183 k)).1 = (k192 k1).1 := by
    unfold k187
    rw [hk]
    rfl
  rw [e]
  exact h91 a s k1 X _ _ w hs hX hK ⟨by omega, by omega⟩
end PRE
