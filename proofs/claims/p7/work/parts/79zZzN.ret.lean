/-! THE WALK OVER BOTH: return, functions with names -/
section RET
variable {L : List xR} {k0 k k' : kS} {T V W a t v w n : Nat} {s s' : cS} {X X' : List xF} {f : xF} {r : List xF} {x y z y1 y2 y3 y4 p : Int32} {rc : cRC}
theorem SGp.fol (h : SG L k0 T V W a s k X t v w) : (FOL (c53 s) ↔ k226 k (k183 k) ≠ 0) ∧ (FOL (c53 s) ↔ c121 s (c53 s) ≠ 0) := by
  have key : ∀ K : Int32, K ≠ 0 → K ≠ -1 → c53 s = K → k183 k = K → ((FOL (c53 s) ↔ k226 k (k183 k) ≠ 0) ∧ (FOL (c53 s) ↔ c121 s (c53 s) ≠ 0)) := fun K h0 h1 e1 e2 => by
    rw [e1, e2]
    unfold FOL k226 c121
    rw [if_neg h1, if_neg h0]
    by_cases c15 : K = 15
    · rw [if_pos c15, c15]
      decide
    rw [if_neg c15]
    by_cases c13 : K = 13
    · rw [if_pos c13, c13]
      decide
    rw [if_neg c13]
    by_cases c14 : K = 14
    · rw [if_pos c14, c14]
      decide
    rw [if_neg c14]
    by_cases c30 : K = 30
    · rw [if_neg (fun z => z c30), c30]
      decide
    rw [if_pos c30]
    have no : ¬ (K = 0 ∨ K = 13 ∨ K = 14 ∨ K = 15 ∨ K = 30) := fun z => by
      rcases z with z | z | z | z | z
      · exact h0 z
      · exact c13 z
      · exact c14 z
      · exact c15 z
      · exact c30 z
    exact ⟨⟨fun z => absurd z no, fun z => absurd rfl z⟩, ⟨fun z => absurd z no, fun z => absurd rfl z⟩⟩
  rcases h.1.1.kd with ⟨q, q1, q2, q3, q4, q5, q6, q7⟩ | ⟨q1, q2, q3⟩
  · exact key q.1 q6 q7 q2 q3
  · rw [q2, q3]
    unfold FOL k226 c121
    decide
theorem c150_q {s1 : cS} : ∃ s2, c150_64 rc s1 y1 y2 z = c150_157 rc s2 ∧ cFr 0 0 0 4 s1 s2 := by
  have k124 : ∀ z, ∃ s2, c150_124 rc s1 y1 y2 z = c150_157 rc s2 ∧ cFr 0 0 0 4 s1 s2 := fun z => by
    unfold c150_124
    by_cases c : z = 0
    · rw [if_pos c]
      refine ⟨(c78 s1 45 y2 0 y1).1, ?_, fr_c78 _ _ _ _ _⟩
      unfold c150_156
      rfl
    · rw [if_neg c]
      refine ⟨(c78 (c96 s1).1 45 (y2 - 1) 1 y1).1, ?_, (fr_c96 s1).trans (fr_c78 _ _ _ _ _)⟩
      unfold c150_132 c150_143
      rfl
  unfold c150_64
  by_cases c1 : z = 0
  · rw [if_pos c1]
    exact k124 z
  rw [if_neg c1]
  by_cases c2 : y2 ≠ 1
  · rw [if_pos c2]
    exact k124 z
  rw [if_neg c2]
  by_cases c3 : c97 s1 ≠ 13
  · rw [if_pos c3]
    exact k124 z
  rw [if_neg c3]
  by_cases c4 : c151 s1 ≠ 0
  · rw [if_pos c4]
    exact k124 z
  rw [if_neg c4]
  have e1 := fr_c99 s1 1 0
  unfold c150_99 c150_121
  generalize (c99 s1 1 0).1 = s3 at e1
  refine ⟨ts s3 (.i s3.now) (c98 s3 - 1) 0 46, rfl, e1.trans ?_⟩
  exact cFr.tsb (cFr.refl (F := 0) (T := 0) (B := 0) (G := 4)) rfl
theorem c150_r {s1 : cS} : ∃ s2, c150_48 rc s1 y1 y2 = c150_157 rc s2 ∧ cFr 0 0 0 4 s1 s2 := by
  unfold c150_48 c150_63
  by_cases c1 : y2 ≤ 0
  · rw [if_pos c1]
    exact c150_q
  rw [if_neg c1]
  by_cases c2 : s1.f 7 5 = 0
  · rw [if_pos c2]
    exact c150_q
  · rw [if_neg c2]
    exact c150_q
/-- the end of return -/
theorem rt_end {a0 : Nat} (h : SG L k0 t v w a s k X (t + 1) v w) (g : GT t 20 0 0 0 k) (hB : XB X) (ha : a0 ≤ a) (ht : t ≤ 1000000) : QC (BP L k0 t v w a0 X t v w) k (c150_157 rc s) := by
  refine QC.pop g ht ?_
  rw [k180_g20]
  have h1 := h.top (t' := t)
  generalize kf k 10 (xn t) = k1 at h1
  have fin : ∀ (s2 : cS) (k2 : kS) (a2 : Nat), a0 ≤ a2 → SG L k0 t v w a2 s2 k2 X t v w → BP L k0 t v w a0 X t v w s2 (k263_19 k2).1 0 := fun s2 k2 a2 ha2 h2 => by
    unfold k263_19
    by_cases c : k226 k2 (k183 k2) ≠ 0
    · rw [if_pos c]
      exact Or.inl ⟨a2, X, ha2, h2, XQ.refl hB⟩
    · rw [if_neg c]
      exact Or.inr ⟨(k194_f (by decide)).1, fun z => c (h2.fol.1.mp z)⟩
  unfold c150_157 k263
  by_cases c : c53 s = 67
  · rw [if_neg (fun z => z ((h1.is (by decide) (by decide)).mp c)), if_neg (fun z => z c)]
    obtain ⟨q, s1, q1, q2, q3, q4, q5⟩ := h1.skp c pl67
    rw [q3, rbd_th (w := q.2.1) rfl]
    exact QC.ret (fin s1 _ (a + 1) (by omega) q4)
  · rw [if_pos (fun z => c ((h1.is (by decide) (by decide)).mpr z)), if_pos c]
    exact QC.ret (fin s k1 a ha h1)
def E150 (rc : cRC) (L : List xR) : Prop := ∀ (a : Nat) (s : cS) (k : kS) (X : List xF) (t v w : Nat), SG L k t v w a s k X t v w → XB X → RO L (a + 1) (t + 8) (v + 8) → c53 s = 27 → QC (BP L k t v w a X t v w) (k227 k).1 (rc 150 s 0 0 0 0 0 0 0)
theorem st_ret (hl : F112 rc L) (h : SG L k t v w a s k X t v w) (hB : XB X) (hr : RO L (a + 1) (t + 8) (v + 8)) (c : c53 s = 27) : QC (BP L k t v w a X t v w) (k227 k).1 (c150 rc s) := by
  have ht : t + 8 ≤ 1000000 := by have := hr.1; omega
  have hv : v + 8 ≤ 1000000 := by have := hr.2; omega
  unfold c150 k227
  obtain ⟨q, s1, q1, q2, q3, q4, q5⟩ := h.skp c pl27
  have hlt := lt_of q1
  rw [q3, rbd_th (w := q.2.1) rfl]
  generalize kf k 4 (k.1 4 + 1) = k1 at q4
  obtain ⟨h2, g2⟩ := q4.psh (g := 20) (p := 0) (q := 0) (c := 0) (Nat.le_refl _) (by omega)
  generalize (k179 k1 20 0 0 0).1 = k2 at h2 g2
  have hf := h2.fol
  have short : QC (BP L k t v w a X t v w) (k227_43 k2 (k.1 4)).1 (c150_48 rc s1 (c63 s) 0) := by
    obtain ⟨s5, z1, z2⟩ := c150_r (rc := rc) (s1 := s1) (y1 := c63 s) (y2 := 0)
    rw [z1]
    unfold k227_43
    exact rt_end ((h2.put).cl z2) g2.put hB (by omega) (by omega)
  show QC _ (k227_24 k2 (k.1 4)).1 (c150_15 rc s1 (c63 s) q.2.1)
  unfold c150_15
  by_cases c67 : c53 s1 = 67
  · rw [if_pos c67]
    unfold k227_24
    rw [show k226 k2 (k183 k2) = 0 from by rw [(h2.is (by decide) (by decide)).mp c67]; unfold k226; decide, if_neg (fun z => z rfl), if_neg (fun z => z ((h2.is (by decide) (by decide)).mp c67))]
    exact short
  rw [if_neg c67]
  by_cases cf : c121 s1 (c53 s1) ≠ 0
  · rw [if_pos cf]
    unfold k227_24
    rw [if_pos (hf.1.mp (hf.2.mpr cf))]
    exact short
  · rw [if_neg cf]
    unfold k227_24
    rw [if_neg (fun z => cf (hf.2.mp (hf.1.mpr z))), if_pos (fun z => c67 ((h2.is (by decide) (by decide)).mpr z))]
    obtain ⟨h3, g3⟩ := h2.psh (g := 19) (p := k.1 4) (q := 0) (c := 0) (by omega) (by omega)
    have b3 : KB (t + 1) v w k2 (k179 k2 19 (k.1 4) 0 0).1 := (GT.psh (t := t + 1) (g := 19) (a := k.1 4) (b := 0) (c := 0) h2.2.1.1 (by omega)).2
    generalize (k179 k2 19 (k.1 4) 0 0).1 = k3 at h3 g3 b3
    refine (hl k3 (t + 1 + 1) v w (a + 1) s1 k3 X (t + 1 + 1) v w h3.own hB.ne (Nat.le_refl _) (Nat.le_refl _) (Nat.le_refl _) ⟨by have := hr.1; omega, by have := hr.2; omega⟩).bnd ?_
    rintro s4 k4 x4 ⟨a4, u1, u2⟩
    have g4 := g3.bck u2.2.2.1 u2.2.1.1
    refine QC.pop g4 (by omega) ?_
    rw [k180_g19]
    have hb4 : KB (t + 1) v w k2 (kf k4 10 (xn (t + 1))) := (b3.trans (u2.2.2.1.mono (by omega) (Nat.le_refl _) (Nat.le_refl _))).trans (KB.fr (F := 1024) (A := 0) (kFr.sf kFr.refl rfl) rfl)
    have h5 : SGp (some v) L k2 (t + 1) v w a4 s4 (kf k4 10 (xn (t + 1))) X (t + 1) (v + 1) w := ⟨(u2.top (t' := t + 1)).1, (u2.top (t' := t + 1)).2.1, hb4, u2.2.2.2⟩
    generalize kf k4 10 (xn (t + 1)) = k5 at h5
    have h6 : SG L k2 (t + 1) v w a4 s4 (k261 k5 (k.1 4)).1 X (t + 1) v w := by
      have k77 : SG L k2 (t + 1) v w a4 s4 (k261_77 k5 (k.1 4)).1 X (t + 1) v w := by
        unfold k261_77
        by_cases d1 : k216 k5 = 0
        · rw [if_pos d1]
          exact (h5.awy (Nat.le_refl _) (by omega)).put
        · rw [if_neg d1]
          exact (h5.opa (by omega) d1).put
      unfold k261
      by_cases d1 : k5.1 19 ≠ 1
      · rw [if_pos d1]
        exact k77
      rw [if_neg d1]
      by_cases d2 : kr k5 16 (k5.1 15 - 1) ≠ 1
      · rw [if_pos d2]
        exact k77
      rw [if_neg d2]
      by_cases d3 : k262 k5 = 0
      · rw [if_pos d3]
        exact k77
      · rw [if_neg d3]
        have f72 : ∀ i z i' z', kFr 0 5902958103587056517120 k5 (ka (ka k5 70 i z) 72 i' z') := fun i z i' z' => kFr.sa (kFr.sa kFr.refl rfl) rfl
        exact ((h5.str (k216_n h5.2.1.2.1 (by omega) (by unfold k216; rw [if_pos (Decidable.not_not.mp d2)]; decide))).fr1 (f72 _ _ _ _)).dwn (by omega)
    generalize (k261 k5 (k.1 4)).1 = k6 at h6
    have g6 := g2.bck h6.2.2.1 h6.2.1.1
    have h7 := h2.reb h6 (by omega) (Nat.le_refl _) (Nat.le_refl _)
    obtain ⟨s8, z1, z2⟩ := c150_r (rc := rc) (s1 := s4) (y1 := c63 s) (y2 := x4)
    show QC _ k6 (c150_48 rc s4 (c63 s) x4)
    rw [z1]
    exact rt_end (h7.cl z2) g6 hB (by omega) (by omega)
end RET
section LFN
variable {L : List xR} {k0 k k' : kS} {T V W a t v w n : Nat} {s s' : cS} {X X' : List xF} {f : xF} {r : List xF} {x y z y1 y2 y3 y4 p : Int32} {rc : cRC}
theorem XQ.dcl {q : xR} {b : xB} {bs : List xB} (hp : f.2.2.1 = []) (hb : f.2.2.2.1 = b :: bs) : XQ (f :: r) (xd f q :: r) := ⟨f, xd f q, r, [q], b, b, bs, rfl, rfl, ⟨hp, hp, rfl⟩, rfl, ⟨hb, hb, rfl, rfl⟩, rfl⟩
/-- a function's body above a goal, as a value -/
theorem fb_call {P : Int32} (h73 : E73 rc L) (h : SG L k0 T V W a s k X (t + 1) v w) {g p q c : Int32} (g1 : GT t g p q c k) (hX : X ≠ []) (hs : x = 0 ↔ y = 0) (hT : T ≤ t) (hV : V ≤ v) (hW : W ≤ w) (hr : RO L (a + 1) (t + 12) (v + 6)) : QC (fun s' k' _ => ∃ a', a < a' ∧ SG L k0 T V W a' s' k' X (t + 1) (v + 1) w ∧ GT t g p q c k') (k195 (k179 k 41 P 0 0).1 y P).1 (rc 73 s 0 z x 0 0 0 0) := by
  have ht : t + 8 ≤ 1000000 := by have := hr.1; omega
  have hv : v + 6 ≤ 1000000 := by have := hr.2; omega
  obtain ⟨h2, g2⟩ := h.psh (g := 41) (p := P) (q := 0) (c := 0) (by omega) (by omega)
  have b2 : KB (t + 1) v w k (k179 k 41 P 0 0).1 := (GT.psh (t := t + 1) (g := 41) (a := P) (b := 0) (c := 0) h.2.1.1 (by omega)).2
  generalize (k179 k 41 P 0 0).1 = k2 at h2 g2 b2
  have hq := (h73 a s k2 X (t + 1 + 1) v w z x y P h2.own hX hs ⟨by have := hr.1; omega, by have := hr.2; omega⟩).bnd (f := fun s9 w9 => some (s9, some w9)) (Q := fun s' k' _ => ∃ a', a < a' ∧ SG L k0 T V W a' s' k' X (t + 1) (v + 1) w ∧ GT t g p q c k') ?_
  · intro s' o e
    refine hq s' o ?_
    rw [e]
    cases o <;> rfl
  · rintro s6 k6 x6 ⟨a6, u1, u2⟩
    refine QC.pop (g2.bck u2.2.2.1 u2.2.1.1) (by omega) ?_
    rw [k180_g41]
    have b6 : KB (t + 1) v w k (kf k6 10 (xn (t + 1))) := (b2.trans (u2.2.2.1.mono (by omega) (Nat.le_refl _) (Nat.le_refl _))).trans (KB.fr (F := 1024) (A := 0) (kFr.sf kFr.refl rfl) rfl)
    have h6 : SG L k (t + 1) v w a6 s6 (kf k6 10 (xn (t + 1))) X (t + 1) v w := ⟨(u2.top (t' := t + 1)).1, (u2.top (t' := t + 1)).2.1, b6, u2.2.2.2⟩
    have h7 := (h6.put (x := 7) (y := (kf k6 10 (xn (t + 1))).1 76) (z := 0) (u := P)).val (x := 0) (y := 0) (z := 0) (Nat.le_refl _) (by omega)
    exact QC.ret ⟨a6, u1, h.reb h7.1 (by omega) hV hW, g1.bck h7.1.2.2.1 h7.1.2.1.1⟩
def E146 (rc : cRC) (L : List xR) : Prop := ∀ (a : Nat) (s : cS) (k : kS) (X : List xF) (t v w : Nat), SG L k t v w a s k X t v w → XB X → RO L (a + 1) (t + 8) (v + 8) → c53 s = 22 → kc L (a + 1) = 18 → QC (SP L k t v w a X) (k228 k 22).1 (rc 146 s 0 0 0 0 0 0 0)
theorem st_lfn (h73 : E73 rc L) (h : SG L k t v w a s k X t v w) (hB : XB X) (hr : RO L (a + 1) (t + 8) (v + 8)) (c : c53 s = 22) (hk : kc L (a + 1) = 18) : QC (SP L k t v w a X) (k228 k 22).1 (c146 rc s) := by
  have hle := h.le
  have ht : t + 8 ≤ 1000000 := by have := hr.1; omega
  have hv : v + 8 ≤ 1000000 := by have := hr.2; omega
  have hsz := h.sz
  rw [k228_k22]
  unfold c146 k238
  obtain ⟨q, s1, q1, q2, q3, q4, q5⟩ := h.skp c pl22
  have hlt := lt_of q1
  rw [q3, rbd_th (w := q.2.1) rfl]
  generalize kf k 4 (k.1 4 + 1) = k1 at q4
  have c18 : c53 s1 = 18 := by
    rcases q4.1.1.kd with ⟨p, p1, p2, -⟩ | ⟨p1, -⟩
    · unfold kc at hk
      rw [p1] at hk
      exact p2.trans hk
    · unfold kc at hk
      rw [List.getElem?_eq_none (by omega)] at hk
      exact absurd hk (by decide)
  rw [if_neg (fun z => z ((q4.is (by decide) (by decide)).mp c18))]
  unfold c146_15
  rcases q4.ske c18 en18 with ⟨o, s2, k2, o1, o2, o3, o4, o5, o6, o7⟩ | ⟨o1, o2, o3⟩
  · rw [o3, rbd_th (w := o.2.1) rfl, o4]
    have hlt2 := lt_of o1
    show QC _ (k238_20 k2 (k.1 4) (k1.1 4) 1).1 (c146_31 rc s2 (c63 s) (c63 s1) o.2.1)
    unfold k238_20 c146_31
    rw [if_pos (by decide)]
    obtain ⟨e4, e63⟩ := o5.at4
    rcases o5.tkp pl1 with ⟨m, s3, m1, m2, m3, m4, m5, m6⟩ | ⟨m1, m2, m3⟩
    · rw [m3, rbd_th (w := m.2.1) rfl, m4]
      have hlt3 := lt_of m1
      show QC _ (k238_34 (kf k2 4 (k2.1 4 + 1)) (k.1 4) (k1.1 4) (k2.1 4) 1).1 (c146_48 rc s3 (c63 s) (c63 s1) (c63 s2) m.2.1)
      have et := m5.1.1.txt m1
      have fm : kFr 16 0 k2 (kf k2 4 (k2.1 4 + 1)) := kFr.sf kFr.refl rfl
      have om := o5.ou m6 fm
      generalize kf k2 4 (k2.1 4 + 1) = k3 at m5 et om
      unfold k238_34
      rw [if_pos (by decide), e4]
      unfold k238_46 k238_66 k238_76 k238_87 k238_96 c146_48 c146_70 c146_78 c146_89
      have h4 := m5.put (x := 1) (y := 0) (z := 0) (u := 0)
      have et2 : kr (k189 k3 1 0 0 0).1 2 (xn (a + 1 + 1)) = m.2.1 := by
        unfold kr
        rw [(fr_k189 k3 1 0 0 0).2 2 rfl]
        exact et
      have om4 := OU.fr (s' := s3) om (fun _ => ⟨rfl, rfl⟩) (fr_k189 k3 1 0 0 0) rfl rfl
      generalize (k189 k3 1 0 0 0).1 = k4 at h4 et2 om4
      obtain ⟨f, r, b, bs, rfl, b1, b2, b3⟩ := hB
      have n5 := RN.dcl (t := m.2.1) (st := 1) (w := c63 s2) (c := 0) (cl := 0) (w' := xn (a + 1 + 1)) h4.1.2.1 h4.SZ b1 (by decide) (by decide)
      rw [et2]
      have h5 := h4.nam (fr_c74 s3 m.2.1 1 (c63 s2)) (fr_k196 _ _ _ _ _) n5 (by rw [sz_xd]; omega) ((OU.dcl om4 (by have := o5.bl; omega) h4.1.2.1.2.1 h4.SZ ((fr_c74 _ _ _ _).ou rfl)).mono (by have := o5.bl; omega))
      generalize (k196 k4 m.2.1 0 0 (xn (a + 1 + 1))).1 = k5 at h5
      have h6 := ((h5.put (x := 27) (y := k197 k4) (z := 1) (u := k.1 4)).cl (fr_c78 _ 1 0 0 0)).cl (fr_c78 _ 27 (c75 s3) 1 (c63 s))
      generalize (k189 k5 27 (k197 k4) 1 (k.1 4)).1 = k6 at h6
      generalize (c78 (c78 (c74 s3 m.2.1 1 (c63 s2)).1 1 0 0 0).1 27 (c75 s3) 1 (c63 s)).1 = s6 at h6
      obtain ⟨h7, g7⟩ := h6.psh (g := 17) (p := k197 k4) (q := xn (a + 1 + 1)) (c := 0) (Nat.le_refl _) (by omega)
      generalize (k179 k6 17 (k197 k4) (xn (a + 1 + 1)) 0).1 = k7 at h7 g7
      refine (fb_call (z := c63 s1) (x := 0) (y := 0) h73 h7 g7 (fun z => nomatch z) Iff.rfl (Nat.le_refl _) (Nat.le_refl _) (Nat.le_refl _) ⟨by have := hr.1; omega, by have := hr.2; omega⟩).bnd ?_
      rintro s8 k8 x8 ⟨a8, u1, u2, u3⟩
      refine QC.pop u3 (by omega) ?_
      rw [k180_g17]
      have h9 := ((u2.top (t' := t)).dwn (by omega)).put (x := 29) (y := k197 k4) (z := 0) (u := xn (a + 1 + 1))
      exact QC.ret ⟨a8, _, by omega, h9.cl (fr_c78 s8 29 (c75 s3) 0 (c63 s2)), XQ.dcl b1 b2⟩
    · rw [rbd_thn m1]
      refine QC.thn ?_
      show (k238_34 (k200 k2 1).1 (k.1 4) (k1.1 4) (k2.1 4) (k200 k2 1).2).1.1 6 ≠ 0
      unfold k238_34
      rw [if_neg (fun z => z m2)]
      exact m3
  · rw [rbd_thn o1]
    refine QC.thn ?_
    unfold k238_20
    rw [if_neg (fun z => z o2)]
    exact o3
end LFN
