/-! THE WALK OVER BOTH: prefixes; a name alone -/
/-- a run of the class gives a prefix -/
def PC (P : PT) (L : List xR) (a0 : Nat) (k : kS) (X : List xF) (t v w : Nat) (r : Option (cS × Option Int32)) : Prop := ∀ s' o, r = some (s', o) → (∀ x, o = some x → ∃ j a', a0 ≤ a' ∧ (RWp (some (v, false)) (D0 P.2.2) L a' s' (kit j k) X ∧ CT P s') ∧ (kit j k).1 10 = xn t ∧ (kit j k).1 15 = xn (v + 1) ∧ (kit j k).1 20 = k.1 20 ∧ KB t v w k (kit j k) ∧ FP X v s' (kit j k) x) ∧ (o = none → ∃ j, (kit j k).1 6 ≠ 0)
section RWN
variable {H : List hE} {L : List xR} {a : Nat} {s s' : cS} {k k' : kS} {X : List xF} {t v w : Nat}
theorem c66_7 {t : Int32} : (c66 s t).1.f 12 7 ≠ 11 := by
  have key : ∀ y1 y2 z0 : Int32, (c66_30 s y1 y2 z0).1.f 12 7 ≠ 11 := fun y1 y2 z0 => by
    unfold c66_30
    split
    · split
      · rw [nf_o (by decide), (fr_c68 _ _).1 12 7 (by decide) (Nat.zero_testBit _), nf_at]
        decide
      · rw [nf_o (by decide), nf_at]
        decide
    · rw [nf_o (by decide), nf_at]
      decide
  unfold c66 c66_29
  split
  · exact key _ _ _
  · split
    · exact key _ _ _
    · exact key _ _ _
theorem hd_name (h : RW H L a s k X) (hn : c53 s = 1) (h15 : k.1 15 = xn v) (hv : v ≤ 1000000) : ∃ s2, c62 s = (s2, some 1) ∧ (RWp (some (v, false)) (D0 H) L (a + 1) s2 (k201 k).1 X ∧ TS s s2) ∧ (k201 k).1.1 15 = xn (v + 1) ∧ (k201 k).1.1 10 = k.1 10 ∧ (k201 k).1.1 20 = k.1 20 ∧ (∀ t w, KB t v w k (k201 k).1) ∧ FP X v s2 (k201 k).1 1 := by
  have hl : a ≤ 16384 := by have := h.1.2.2.1.2.2; have := h.1.1.2.1; omega
  have hs0 : RW H L a (nf s 7 6 (c63 s)) k X := RWp.fr (p := none) (d := D0 H) (F := 332306998946228968225951765070086144) (T := 0) (B := 0) (G := 0) h (cFr.refl.sf rfl) (kFr.refl (F := 0) (A := 0))
  have hkn : k183 k = 1 := (h.1.is (by decide) (by decide)).mp hn
  have e201 : (k201 k).1 = kf (k190 k 3 0 (k.1 4)).1 4 ((k190 k 3 0 (k.1 4)).1.1 4 + 1) := by
    unfold k201
    rw [if_neg (fun z => z hkn)]
    rfl
  rcases tk_pl (K := 1) hs0 (by decide) (by decide) (fun s => by unfold c56; decide) (fun s => by unfold c57; decide) with ⟨q, s1, q1, q2, q3, q4, q5, q6⟩ | ⟨-, q2, -⟩
  · have hsz : SZ X := SZ_of (by have := h.2.2.1; omega)
    have hcon := c66_c (t := q.2.1) q5.2.1.1 hsz q5.2.1.2.2.1.wv
    have p := fun t w => val_psh (t := t) (v := v) (w := w) (x := 3) (y := 0) (z := k.1 4) h15 hv (Nat.le_refl _)
    have hk : kFr 32768 458752 (kf k 4 (k.1 4 + 1)) (k201 k).1 := by
      rw [e201]
      refine ⟨fun j hj => ?_, fun j hj => ?_⟩
      · show upd (upd k.1 15 (k.1 15 + 1)) 4 (k.1 4 + 1) j = upd k.1 4 (k.1 4 + 1) j
        unfold upd
        by_cases c4 : j = 4
        · rw [if_pos c4, if_pos c4]
        · rw [if_neg c4, if_neg c4]
          by_cases c15 : j = 15
          · rw [c15] at hj
            exact absurd hj (by decide)
          · rw [if_neg c15]
      · exact (kFr.sa (kFr.sa (kFr.sa (kFr.refl (F := 32768) (A := 458752) (s := k)) rfl) rfl) rfl).2 j hj
    have ix : (k.1 15).toNatClampNeg = v := by rw [h15]; exact xn_nat (by omega)
    have e16 : (k201 k).1.2 16 v = 3 := by
      rw [e201]
      show upd (k.2 16) (k.1 15).toNatClampNeg 3 v = 3
      rw [ix]
      exact if_pos rfl
    have e18 : (k201 k).1.2 18 v = k.1 4 := by
      rw [e201]
      show upd (k.2 18) (k.1 15).toNatClampNeg (k.1 4) v = _
      rw [ix]
      exact if_pos rfl
    have et : kr (k201 k).1 2 (k.1 4) = q.2.1 := by
      rw [e201]
      show kr k 2 (k.1 4) = _
      rcases h.1.kd with ⟨q', g1, g2, g3, g4, g5, -⟩ | ⟨g1, -⟩
      · rw [q1] at g1
        cases g1
        exact g5
      · exact absurd (List.getElem?_eq_some_iff.mp q1).1 (by omega)
    have hOU : OU (bd a) s1 (k201 k).1 X := OU.fr hs0.2.2.2.2.2.1 (q6.ou rfl) (fr_k201 k) rfl rfl
    have f66 := fr_c66 s1 q.2.1
    have hNC : NP (some (v, false)) (D0 H) (a + 1) (c66 s1 q.2.1).1 (k201 k).1 X := q5.2.2.2.2.2.2.2.imp (fun R w => ⟨w.1, w.2.fr f66 hk rfl rfl rfl rfl (fun z => by rw [← hk.1 8 rfl]; exact z)⟩)
    have e66 : (c66 s1 q.2.1).1.f 7 6 = k.1 4 := (f66.1 7 6 (by decide) rfl).trans ((q6.1 7 6 (by decide) rfl).trans (nf_at.trans h.1.w63))
    have hPO : PO (some (v, false)) (a + 1) (c66 s1 q.2.1).1 (k201 k).1 X := Or.inr ⟨e16, s1, bd a, q5.2.1.1, h.bdx, hOU, fun x => by rw [e18, et]; exact ⟨rfl, rfl⟩⟩
    refine ⟨(c66 s1 q.2.1).1, ?_, ⟨q5.fro f66 hk rfl rfl rfl rfl rfl rfl hPO hNC, ⟨⟨((f66.2.1 8 (Nat.zero_testBit _)).1.trans ((q6.2.1 8 (Nat.zero_testBit _)).1.trans rfl)), ((f66.2.1 8 (Nat.zero_testBit _)).2.trans ((q6.2.1 8 (Nat.zero_testBit _)).2.trans rfl))⟩, ((f66.2.1 10 (Nat.zero_testBit _)).1.trans ((q6.2.1 10 (Nat.zero_testBit _)).1.trans rfl)), ((f66.2.1 10 (Nat.zero_testBit _)).2.trans ((q6.2.1 10 (Nat.zero_testBit _)).2.trans rfl))⟩⟩, ?_, ?_, ?_, fun t w => ?_, Or.inl ⟨rfl, e16, ?_⟩, LO.no (by rw [e16]; decide) (by rw [e16]; decide)⟩
    · unfold c62
      rw [cbd_some (w := q.2.1) (by rw [q3]), q3]
    · rw [e201]
      exact (p 0 0).1
    · rw [e201]
      rfl
    · rw [e201]
      rfl
    · rw [e201]
      exact (p t w).2
    · refine ⟨by rw [hcon, e18, et], c66_7, by rw [e18]; exact e66, s1, bd a, q5.2.1.1, by have := bd_le (Nat.le_trans h.1.2.2.1.2.2 h.2.2.2.2.1.1); have := h.bdx; have := bd_le (Nat.le_trans q5.1.2.2.1.2.2 h.2.2.2.2.1.1); omega, hOU, ?_⟩
      rw [e18, et]
      exact ⟨rfl, rfl⟩
  · unfold k200 at q2
    rw [if_pos hkn] at q2
    exact absurd (show (1 : Int32) = 0 from q2) (by decide)
end RWN
