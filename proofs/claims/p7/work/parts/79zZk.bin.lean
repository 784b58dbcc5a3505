/-! THE WALK OVER BOTH: binary operators -/
section RWB
variable {L : List xR} {a : Nat} {s s' : cS} {k k' : kS} {X : List xF} {t v w : Nat} {G : List (Int32 × Int32)}
theorem op_pl {K : Int32} (h : c106 s K ≠ 0) : ∀ s1 : cS, c56 s1 K = 0 ∧ c57 s1 K = 0 := by
  have no : ∀ x : Int32, c106 s x = 0 → K ≠ x := fun x hx z => h (by rw [z]; exact hx)
  have n61 := no 61 (by unfold c106; decide)
  have n65 := no 65 (by unfold c106; decide)
  have n63 := no 63 (by unfold c106; decide)
  have n15 := no 15 (by unfold c106; decide)
  have n30 := no 30 (by unfold c106; decide)
  have n14 := no 14 (by unfold c106; decide)
  have n13 := no 13 (by unfold c106; decide)
  have n60 := no 60 (by unfold c106; decide)
  have n64 := no 64 (by unfold c106; decide)
  have n62 := no 62 (by unfold c106; decide)
  have n12 := no 12 (by unfold c106; decide)
  have n28 := no 28 (by unfold c106; decide)
  have n26 := no 26 (by unfold c106; decide)
  have n18 := no 18 (by unfold c106; decide)
  intro s1
  constructor
  · unfold c56
    rw [if_neg n61, if_neg n65, if_neg n63, if_neg n15, if_neg n30, if_neg n14, if_pos n13]
  · unfold c57
    rw [if_neg n60, if_neg n64, if_neg n62, if_neg n12, if_neg n28, if_neg n13, if_neg n26, if_pos n18]
/-- the binary operators are the same, and plain words -/
theorem op_kd (h : WR L a s k) : (c106 s (c53 s) = 0 ∧ k203 k (k183 k) = 0) ∨ (c106 s (c53 s) ≠ 0 ∧ 0 < k203 k (k183 k) ∧ ∃ q, L[a]? = some q ∧ c53 s = q.1 ∧ ∀ s1 : cS, c56 s1 q.1 = 0 ∧ c57 s1 q.1 = 0) := by
  rcases h.kd with ⟨q, q1, q2, q3, -⟩ | ⟨-, q2, q3⟩
  · rw [q2, q3]
    rcases rank_iff (s := s) (k := k) (K := q.1) with z | ⟨z1, z2⟩
    · exact Or.inl z
    · exact Or.inr ⟨z1, z2, q, q1, rfl, op_pl z1⟩
  · rw [q2, q3]
    exact Or.inl ⟨by unfold c106; decide, by unfold k203; decide⟩
theorem c105_go {y : Int32} (h : c106 s (c53 s) ≠ 0) : ∃ s3, cFr 0 256 0 4 s s3 ∧ c105 s y = cbd (c55 s3) (fun _ w4 => ((c55 s3).1, some 1)) := by
  have key : ∀ (s1 : cS) (y2 y3 y4 : Int32), cFr 0 256 0 4 s s1 → ∃ s3, cFr 0 256 0 4 s s3 ∧ c105_78 s1 y2 y3 y4 = cbd (c55 s3) (fun _ w4 => ((c55 s3).1, some 1)) := fun s1 y2 y3 y4 hf => ⟨(tad s1 (.s 8) y3 y2 (c63 s1) y4).1, hf.trans (cFr.refl.tads rfl), rfl⟩
  have key2 : ∀ (y2 y3 z0 z1 : Int32), ∃ s3, cFr 0 256 0 4 s s3 ∧ c105_35 s y2 y3 z0 z1 = cbd (c55 s3) (fun _ w4 => ((c55 s3).1, some 1)) := fun y2 y3 z0 z1 => by
    have hf : cFr 0 256 0 4 s (c108 s z1 z0).1 := (fr_c108 s z1 z0).mono rfl rfl rfl rfl
    unfold c105_35
    generalize (c108 s z1 z0).1 = s1 at hf
    have f78 : ∀ z : Int32, cFr 0 256 0 4 s (c78 s1 z 0 0 0).1 := fun z => hf.trans ((fr_c78 s1 z 0 0 0).mono rfl rfl rfl rfl)
    unfold c105_38
    split
    · split
      · exact key s1 _ _ _ hf
      · exact key _ _ _ _ (f78 16)
    · exact key _ _ _ _ (f78 15)
  unfold c105
  rw [if_pos h]
  split
  · exact key2 _ _ _ _
  · exact key2 _ _ _ _
/-- no operator: the class goes on as it stands, the reference has its value -/
theorem op_no {y : Int32} (h : RWp (some (v + n25 G)) L a s k X) (he : ES t v G k) (hc : c106 s (c53 s) = 0) (ht : t + 2 * G.length + 2 ≤ 1000000) (hv : v + n25 G ≤ 1000000) : c105 s y = (s, some 0) ∧ ∃ j, RWp (some v) L a s (kit j k) X ∧ (kit j k).1 10 = xn t ∧ (kit j k).1 15 = xn (v + 1) ∧ (kit j k).1 20 = k.1 20 ∧ ∀ w, KB t v w k (kit j k) := by
  refine ⟨by unfold c105; rw [if_neg (fun z => z hc)], ?_⟩
  rcases op_kd h.1 with ⟨z1, z2⟩ | ⟨z1, -⟩
  · obtain ⟨j, r1, r2, r3, r4, r5⟩ := es_end he z2 ht hv
    exact ⟨j, r5 L a s X h, r1, r2, r3.1 20 rfl, fun w => r4 t w⟩
  · exact absurd hc z1
/-- an operator: both read it, and a value is due -/
theorem op_yes {y : Int32} (h : RWp (some (v + n25 G)) L a s k X) (he : ES t v G k) (hc : c106 s (c53 s) ≠ 0) (ht : t + 2 * G.length + 6 ≤ 1000000) (hv : v + n25 G ≤ 1000000) : ∃ s1, c105 s y = (s1, some 1) ∧ a < L.length ∧ ∃ j G', RW L (a + 1) s1 (kit j k) X ∧ PB t v G' (kit j k) ∧ G'.length ≤ G.length + 1 ∧ n25 G' ≤ n25 G + 1 ∧ (kit j k).1 20 = k.1 20 ∧ ∀ w, KB t v w k (kit j k) := by
  rcases op_kd h.1 with ⟨z1, -⟩ | ⟨-, z2, q, q1, q2, q3⟩
  · exact absurd z1 hc
  · obtain ⟨s3, f3, e3⟩ := c105_go (y := y) hc
    obtain ⟨j, G', r1, r2, r3, r4, r5, r6, r7⟩ := es_opr he z2 (by omega) hv
    obtain ⟨p, u1, u2, u3, u4, u5, k0, w1, w2, w3, w4⟩ := pb_op r1 (by rw [k183_q r4]; exact r6) (by omega) (by omega)
    have hk : kFr 38078691454154941957136 18586247575766980196352 k (kst (kit j k)) := (kFr.mono r4 rfl rfl).trans u5
    have h4 : (kst (kit j k)).1 4 = k.1 4 + 1 := by rw [u3, r4.1 4 rfl]
    obtain ⟨p1, p0⟩ := (r7 L a s X h).pl q1 (q3 s3).1 (q3 s3).2 f3 w1 w2
    have p2 : RW L (a + 1) (nf s3 2 2 (xn (a + 1))) (kst (kit j k)) X := (p0.lod w3 (by omega)).fr (cFr.refl (F := 0) (T := 0) (B := 0) (G := 0)) w4
    have ek : kit (j + 1) k = kst (kit j k) := kit_add (i := j) (j := 1)
    have hL : (p :: G').length = G'.length + 1 := rfl
    refine ⟨nf s3 2 2 (xn (a + 1)), ?_, (List.getElem?_eq_some_iff.mp q1).1, j + 1, p :: G', ?_⟩
    · rw [e3, cbd_some (w := q.2.1) (by rw [p1]), p1]
    · rw [ek]
      exact ⟨p2, u1, by omega, by omega, hk.1 20 rfl, fun w => (r5 t w).trans (u4 w)⟩
end RWB
