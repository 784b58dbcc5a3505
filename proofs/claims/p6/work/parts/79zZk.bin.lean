/-! THE WALK OVER BOTH: binary operators -/
section RWB
variable {L : List xR} {a : Nat} {s s' : cS} {k k' : kS} {X : List xF} {t v w : Nat} {G : List (Int32 × Int32)}
theorem op_pl {K : Int32} (h : c106 s K ≠ 0) : ∀ s1 : cS, c56 s1 K = 0 ∧ c57 s1 K = 0 := by
  have no : ∀ x : Int32, c106 s x = 0 → K ≠ x := fun x hx z => h (by rw [z]; exact hx)
  have n61 := no 61 (by unfold c106; decide)
  have n65 := no 65 (by unfold c106; decide)
  have n63 := no 63 (by unfold c106; decide)
  have n15 := no 15 (by unfold c106; decide)
  have n30 := no 30 (by unfold c106; decide)
  have n14 := no 14 (by unfold c106; decide)
  have n13 := no 13 (by unfold c106; decide)
  have n60 := no 60 (by unfold c106; decide)
  have n64 := no 64 (by unfold c106; decide)
  have n62 := no 62 (by unfold c106; decide)
  have n12 := no 12 (by unfold c106; decide)
  have n28 := no 28 (by unfold c106; decide)
  have n26 := no 26 (by unfold c106; decide)
  have n18 := no 18 (by unfold c106; decide)
  intro s1
  constructor
  · unfold c56
    rw [if_neg n61, if_neg n65, if_neg n63, if_neg n15, if_neg n30, if_neg n14, if_pos n13]
  · unfold c57
    rw [if_neg n60, if_neg n64, if_neg n62, if_neg n12, if_neg n28, if_neg n13, if_neg n26, if_pos n18]
/-- the binary operators are the same, and plain words -/
theorem op_kd (h : WR L a s k) : (c106 s (c53 s) = 0 ∧ k203 k (k183 k) = 0) ∨ (c106 s (c53 s) ≠ 0 ∧ 0 < k203 k (k183 k) ∧ ∃ q, L[a]? = some q ∧ c53 s = q.1 ∧ ∀ s1 : cS, c56 s1 q.1 = 0 ∧ c57 s1 q.1 = 0) := by
  rcases h.kd with ⟨q, q1, q2, q3, -⟩ | ⟨-, q2, q3⟩
  · rw [q2, q3]
    rcases rank_iff (s := s) (k := k) (K := q.1) with z | ⟨z1, z2⟩
    · exact Or.inl z
    · exact Or.inr ⟨z1, z2, q, q1, rfl, op_pl z1⟩
  · rw [q2, q3]
    exact Or.inl ⟨by unfold c106; decide, by unfold k203; decide⟩
/-- no operator: the class goes on as it stands, the reference has its value -/
theorem op_no {y : Int32} (h : RWp (some (v + n25 G, true)) 0 L a s k X) (he : ES t v G k) (hc : c106 s (c53 s) = 0) (ht : t + 2 * G.length + 2 ≤ 1000000) (hv : v + n25 G ≤ 1000000) : c105 s y = (s, some 0) ∧ ∃ j, RWp (some (v, true)) (0 - kpS G) L a s (kit j k) X ∧ (G = [] → (kit j k).2 16 v = k.2 16 v) ∧ (G ≠ [] → (kit j k).2 16 v = 0) ∧ (kit j k).1 10 = xn t ∧ (kit j k).1 15 = xn (v + 1) ∧ (kit j k).1 20 = k.1 20 ∧ ∀ w, KB t v w k (kit j k) := by
  refine ⟨by unfold c105; rw [if_neg (fun z => z hc)], ?_⟩
  rcases op_kd h.1 with ⟨z1, z2⟩ | ⟨z1, -⟩
  · obtain ⟨j, r1, r2, r3, r4, r6, r7, r5⟩ := es_end he z2 ht hv
    exact ⟨j, r5 0 L a s X h, r6, r7, r1, r2, r3.1 20 rfl, fun w => r4 t w⟩
  · exact absurd hc z1
/-- an operator: both read it, and a value is due -/
theorem op_yes {y : Int32} {P : PT} {Q : List xR} (h : RWp (some (v + n25 G, true)) 0 L a s k X) (he : ES t v G k) (hO : OT P Q G a s) (hy : y = xn P.1.length) (hc : c106 s (c53 s) ≠ 0) (ht : t + 2 * G.length + 6 ≤ 1000000) (hv : v + n25 G ≤ 1000000) : ∃ s1, c105 s y = (s1, some 1) ∧ a < L.length ∧ ∃ j G' Q', RW L (a + 1) s1 (kit j k) X ∧ PB t v G' (kit j k) ∧ OT P Q' G' (a + 1) s1 ∧ G'.length ≤ G.length + 1 ∧ n25 G' ≤ n25 G + 1 ∧ (kit j k).1 20 = k.1 20 ∧ ∀ w, KB t v w k (kit j k) := by
  rcases op_kd h.1 with ⟨z1, -⟩ | ⟨-, z2, q, q1, q2, q3⟩
  · exact absurd z1 hc
  · have hal : a < L.length := (List.getElem?_eq_some_iff.mp q1).1
    have h16 : L.length ≤ 16384 := h.1.1.2.1
    obtain ⟨j, G', r1, r2, r3, r4, r5, r6, G1, r7, r8, r9, r10⟩ := es_opr he z2 (by omega) hv
    have ek3 : k183 (kit j k) = k183 k := k183_q r4
    obtain ⟨p, u1, u2, u3, u4, u5, ⟨u6, u7⟩, k0, w1, w2, w3, w4⟩ := pb_op r1 (by rw [ek3]; exact r6) (by omega) (by omega)
    have kd : k183 k = c53 s := by
      rcases h.1.kd with ⟨q', g1, g2, g3, -⟩ | ⟨g1, -⟩
      · rw [g2, g3]
      · exact absurd hal (by omega)
    rw [ek3, kd] at u6 u7 w4
    have hk : kFr 38078691454154941957136 18586247575766980196352 k (kst (kit j k)) := (kFr.mono r4 rfl rfl).trans u5
    -- what the class takes away
    obtain ⟨Q1, Q2, e1, e2, e3, e4, e5⟩ := (r10 0 L a s X h).red (y2 := thr s (c53 s)) hO.1 (by have := hO.2.2; omega) hy
    have hcut := OTq.cut (k := k) hc (G1 := G1) (G2 := G') (Q1 := Q1) (Q2 := Q2) (by rw [← r7, ← e1]; exact hO.2.1) (by rw [← kd]; exact r8) (by rw [← kd]; exact r9) e2 e3
    have d0 : (0 : Int32) - kpS G1 + opS Q1 = 0 := by rw [hcut.2, Int32.sub_add_cancel]
    rw [d0] at e5
    have lQ : Q2.length ≤ Q.length := by rw [e1, List.length_append]; omega
    have hO2 : OT P Q2 G' a (c108 s y (thr s (c53 s))).1 := ⟨e4, hcut.1, by have := hO.2.2.1; omega, hO.2.2.2.1, hO.2.2.2.2.1.same ((fr_c108 s y (thr s (c53 s))).2.1 10 rfl).1 ((fr_c108 s y (thr s (c53 s))).2.1 10 rfl).2, hO.2.2.2.2.2⟩
    have ec : c105 s y = c105_38 (c108 s y (thr s (c53 s))).1 (c53 s) (c106 s (c53 s)) := by
      unfold c105 thr
      rw [if_pos hc]
      by_cases c7 : c107 s (c53 s) = 0
      · rw [if_pos c7, if_pos c7]
        rfl
      · rw [if_neg c7, if_neg c7]
        rfl
    rw [ec]
    generalize (c108 s y (thr s (c53 s))).1 = sc at e5 hO2
    -- what it puts there
    have fin : ∀ (s3 : cS) (jx : Int32), RWp (some (v + n25 G', true)) (kpO (c53 s)) L a s3 (kit j k) X → OT P Q2 G' a s3 → ∃ s1, c105_78 s3 (c53 s) (c106 s (c53 s)) jx = (s1, some 1) ∧ a < L.length ∧ ∃ j G' Q', RW L (a + 1) s1 (kit j k) X ∧ PB t v G' (kit j k) ∧ OT P Q' G' (a + 1) s1 ∧ G'.length ≤ G.length + 1 ∧ n25 G' ≤ n25 G + 1 ∧ (kit j k).1 20 = k.1 20 ∧ ∀ w, KB t v w k (kit j k) := fun s3 jx g1 g2 => by
      have f8 : cFr 0 256 0 0 s3 (tad s3 (.s 8) (c106 s (c53 s)) (c53 s) (c63 s3) jx).1 := cFr.refl.tads rfl
      have g3 := g1.fr f8 (kFr.refl (F := 0) (A := 0))
      obtain ⟨p1, p0⟩ := g3.pl q1 (q3 _).1 (q3 _).2 (cFr.refl (F := 0) (T := 0) (B := 0) (G := 0)) w1 w2
      have p2 := w4 _ L (a + 1) _ X (p0.lod w3 (by omega))
      rw [Int32.sub_self] at p2
      have ek : kit (j + 1) k = kst (kit j k) := kit_add (i := j) (j := 1)
      have hL : (p :: G').length = G'.length + 1 := rfl
      refine ⟨nf (tad s3 (.s 8) (c106 s (c53 s)) (c53 s) (c63 s3) jx).1 2 2 (xn (a + 1)), ?_, hal, j + 1, p :: G', (c106 s (c53 s), c53 s, c63 s3, jx) :: Q2, ?_⟩
      · unfold c105_78 c105_96
        rw [cbd_some (w := q.2.1) (by rw [p1]), p1]
      · rw [ek]
        refine ⟨p2, u1, g2.psh (by rw [u6]; exact rk_op hc) u7 (by omega), by omega, by omega, hk.1 20 rfl, fun w => (r5 t w).trans (u4 w)⟩
    unfold c105_38
    by_cases c1 : c53 s = 10
    · rw [if_neg (fun z => z c1)]
      have e1 : kpO (c53 s) = 0 + 1 := by unfold kpO; rw [if_pos (Or.inl c1)]; rfl
      have f := fr_c78 sc 15 0 0 0
      exact fin _ _ (by rw [e1]; exact e5.cle) (hO2.fr (TS.of f rfl) (Nat.le_refl _) hO2.2.2.2.1)
    · rw [if_pos c1]
      by_cases c2 : c53 s = 25
      · rw [if_neg (fun z => z c2)]
        have e1 : kpO (c53 s) = 0 + 1 := by unfold kpO; rw [if_pos (Or.inr c2)]; rfl
        have f := fr_c78 sc 16 0 0 0
        exact fin _ _ (by rw [e1]; exact e5.cle) (hO2.fr (TS.of f rfl) (Nat.le_refl _) hO2.2.2.2.1)
      · rw [if_pos c2]
        have e0 : kpO (c53 s) = 0 := by unfold kpO; rw [if_neg (fun z => z.elim c1 c2)]
        exact fin _ _ (by rw [e0]; exact e5) hO2
end RWB
