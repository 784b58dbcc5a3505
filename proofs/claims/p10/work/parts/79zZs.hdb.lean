/-! THE WALK OVER BOTH: a prefix that begins with a bracket -/
section RWC
variable {L : List xR} {a : Nat} {s s' : cS} {k k' : kS} {X : List xF} {t v w : Nat} {rc : cRC}
def R70 (rc : cRC) (L : List xR) (X : List xF) (t v w : Nat) : Prop := ∀ (a : Nat) (s : cS) (k : kS) (P : PT), RW P.2.2 L a s k X → PB t v [] k → CP P a s → RM L a t v [] → (k.1 20 = xn w ∧ w ≤ a) → EC P L (a + 1) k X t v w (rc 70 s 0 0 0 0 0 0 0)
theorem hd_brk {P : PT} (h : RW P.2.2 L a s k X) (hT : CP P a s) (hn : c53 s ≠ 1) (h10 : k.1 10 = xn t) (h15 : k.1 15 = xn v) (h20 : k.1 20 = xn w ∧ w ≤ a) (hr : RM L (a + 1) (t + 1) v []) (h70 : R70 rc L X (t + 1) v w) : PC P L (a + 1) (k201 k).1 X t v w (rbd (some (c64 s 60)) (fun _ w8 => c61_25 rc ((c64 s 60).1) w8)) := by
  have hkn : k183 k ≠ 1 := fun z => hn ((h.1.is (by decide) (by decide)).mpr z)
  have hv : v ≤ 1000000 := by have := hr.2; omega
  have ht : t + 2 ≤ 1000000 := by have := hr.1; omega
  have e201 : (k201 k).1 = (k201_37 (k193 k 60).1 (k193 k 60).2).1 := by
    unfold k201
    rw [if_pos hkn]
  rw [e201]
  rcases tk_en (K := 60) h (by decide) (by decide) (fun s => by unfold c56; decide) (fun s => by unfold c57; decide) with ⟨q, s1, k1, q1, q2, q3, q4, q5, q6, q7, q8⟩ | ⟨q1, q2, q3⟩
  · rw [q4, q3, rbd_th (w := q.2.1) rfl]
    have e37 : (k201_37 k1 1).1 = (k179 (k179 k1 29 0 0 0).1 23 0 0 0).1 := by
      unfold k201_37
      rw [if_neg (by decide)]
      rfl
    show PC P L (a + 1) (k201_37 k1 1).1 X t v w _
    rw [e37]
    have g10 : k1.1 10 = xn t := (q7.1 10 rfl).trans h10
    have p2 := fun w => GT.psh (t := t) (v := v) (w := w) (g := 29) (a := 0) (b := 0) (c := 0) g10 (by omega)
    have f2 : kFr 1024 30720 k1 (k179 k1 29 0 0 0).1 := kFr.sf (kFr.sa (kFr.sa (kFr.sa (kFr.sa kFr.refl rfl) rfl) rfl) rfl) rfl
    generalize (k179 k1 29 0 0 0).1 = k2 at p2 f2
    have p3 := fun w => GT.psh (t := t + 1) (v := v) (w := w) (g := 23) (a := 0) (b := 0) (c := 0) (p2 0).1.1 (by omega)
    have f3 : kFr 1024 30720 k2 (k179 k2 23 0 0 0).1 := kFr.sf (kFr.sa (kFr.sa (kFr.sa (kFr.sa kFr.refl rfl) rfl) rfl) rfl) rfl
    generalize (k179 k2 23 0 0 0).1 = k3 at p3 f3
    have f13 : kFr 1024 30720 k1 k3 := f2.trans f3
    have w3 : RW P.2.2 L (a + 1) s1 k3 X := q5.fr (cFr.refl (F := 0) (T := 0) (B := 0) (G := 0)) f13
    have i15 : k3.1 15 = xn v := (f13.1 15 rfl).trans ((q7.1 15 rfl).trans h15)
    have i20 : k3.1 20 = xn w ∧ w ≤ a + 1 := ⟨(f13.1 20 rfl).trans ((q7.1 20 rfl).trans h20.1), by have := h20.2; omega⟩
    have pb : PB (t + 1) v [] k3 := ⟨trivial, (p3 0).1.2.1, (p3 0).1.2.2.1, (p3 0).1.1, i15, NV0⟩
    have hT1 : CP P (a + 1) s1 := hT.ts (TS.of q6 rfl) (Nat.le_succ _)
    have ec := h70 (a + 1) s1 k3 P w3 pb hT1 hr i20
    intro s' o hs
    unfold c61_25 at hs
    cases hq : rc 70 s1 0 0 0 0 0 0 0 with
    | none => rw [hq] at hs; cases hs
    | some p =>
      obtain ⟨s4, o4⟩ := p
      obtain ⟨c1, c2⟩ := ec s4 o4 hq
      cases o4 with
      | none =>
        rw [rbd_n hq] at hs
        cases hs
        exact ⟨(fun x z => nomatch z), fun _ => c2 rfl⟩
      | some w4 =>
        rw [rbd_s hq] at hs
        obtain ⟨j, a', r1, ⟨r2, rT, -⟩, r3, r4, r5, r6⟩ := c1 (fun z => nomatch z)
        have b29 : KB (t + 1) v w k2 (kit j k3) := (p3 w).2.trans r6
        have gt : GT t 29 0 0 0 (kit j k3) := (p2 w).1.bck b29 r3
        unfold c61_30 at hs
        have ek : kit (j + 1) k3 = kst (kit j k3) := kit_add (i := j) (j := 1)
        rcases brk_end r2 gt r4 (by omega) hv with ⟨s5, x, d1, ⟨d2, d8⟩, d3, d4, d5, d6, d7⟩ | ⟨d1, d2⟩
        · rw [d1, rbd_th (w := x) rfl] at hs
          cases hs
          refine ⟨fun x' z => ?_, fun z => nomatch z⟩
          cases z
          refine ⟨j + 1, a' + 1, by omega, ?_⟩
          rw [ek]
          exact ⟨⟨d2.los (Or.inl d6), rT.ts d8⟩, d3, d4, d5.trans r5, (r6.mono (Nat.le_succ _) (Nat.le_refl _) (Nat.le_refl _)).trans (d7 w), Or.inr (Or.inr (Or.inr (Or.inr ⟨rfl, d6⟩))), LO.n0 d6⟩
        · rw [rbd_thn d1] at hs
          cases hs
          refine ⟨(fun x z => nomatch z), fun _ => ⟨j + 1, ?_⟩⟩
          rw [ek]
          exact d2
  · rw [rbd_thn q1]
    intro s' o hs
    cases hs
    refine ⟨(fun x z => nomatch z), fun _ => ⟨0, ?_⟩⟩
    show (k201_37 (k193 k 60).1 (k193 k 60).2).1.1 6 ≠ 0
    unfold k201_37
    rw [if_pos q2]
    exact q3
end RWC
