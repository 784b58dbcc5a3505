/-! EXPRESSIONS IN THE REFERENCE: the goals that wait behind an operand -/
/-- a bound for operators, what is done with the value behind it (25, 26, 27), with its two numbers -/
abbrev gQ : Type := Int32 × Int32 × Int32 × Int32
/-- what is written then -/
def kpR (q : gQ) : List xR := if q.2.1 = 25 then [(19, q.2.2.1, 0, q.2.2.2)] else if q.2.1 = 27 then [(if q.2.2.1 = 24 then 17 else 18, if q.2.2.1 = 24 then 0 else q.2.2.1, 0, q.2.2.2)] else []
/-- what such goals may change -/
abbrev QF (k k' : kS) : Prop := kFr 38078691454154941957120 18586247575766980165632 k k'
section ESS
variable {k k' : kS} {t v w V : Nat} {G : List gQ}
theorem k204_16 (h15 : k.1 15 = xn (V + 1)) (hV : V ≤ 1000000) {i : Nat} (hi : i ≠ V) : (k204 k).1.2 16 i = k.2 16 i := by
  have e1 : k.1 15 - 1 = xn V := by
    rw [h15]
    have := xn_sub (n := 1) (m := V) (by omega)
    rw [Nat.add_comm 1] at this
    exact this
  have key : ∀ s : kS, s.2 16 = k.2 16 → (k204_103 s (k.1 15 - 1)).1.2 16 i = k.2 16 i := fun s hs => by
    show upd (s.2 16) (k.1 15 - 1).toNatClampNeg 0 i = _
    rw [e1, xn_nat (by omega), hs]
    exact if_neg hi
  unfold k204
  split
  · unfold k204_53 k204_68
    exact key _ (((fr_k189 _ _ _ _ _).2 16 rfl).trans ((fr_k205 _ _).2 16 rfl))
  · split
    · unfold k204_81
      exact key _ ((fr_k189 _ _ _ _ _).2 16 rfl)
    · split
      · unfold k204_99
        exact key _ ((fr_k189 _ _ _ _ _).2 16 rfl)
      · exact key _ rfl
theorem k204_16v (h15 : k.1 15 = xn (V + 1)) (hV : V ≤ 1000000) : (k204 k).1.2 16 V = 0 := by
  have e1 : k.1 15 - 1 = xn V := by
    rw [h15]
    have := xn_sub (n := 1) (m := V) (by omega)
    rw [Nat.add_comm 1] at this
    exact this
  have key : ∀ s : kS, (k204_103 s (k.1 15 - 1)).1.2 16 V = 0 := fun s => by
    show upd (s.2 16) (k.1 15 - 1).toNatClampNeg 0 V = _
    rw [e1, xn_nat (by omega)]
    exact if_pos rfl
  unfold k204
  split
  · exact key _
  · split
    · exact key _
    · split
      · exact key _
      · exact key _
theorem k204_q : QF k (k204 k).1 := (fr_k204 k).mono rfl rfl
theorem k209_q : QF k (k209 k).1 := (fr_k209 k).mono rfl rfl
/-- goals and what waits are left alone, and the values below v -/
theorem KB.q (h : QF k k') (h16 : ∀ i, i < v → k'.2 16 i = k.2 16 i) : KB t v w k k' := by
  refine ⟨fun j i hj _ => ?_, fun j i hj hi => ?_, fun j i hj _ => ?_⟩
  · rcases hj with rfl | rfl | rfl | rfl
    · rw [h.2 11 rfl]
    · rw [h.2 12 rfl]
    · rw [h.2 13 rfl]
    · rw [h.2 14 rfl]
  · rcases hj with rfl | rfl | rfl
    · exact h16 i hi
    · rw [h.2 17 rfl]
    · rw [h.2 18 rfl]
  · rcases hj with rfl | rfl | rfl
    · rw [h.2 21 rfl]
    · rw [h.2 22 rfl]
    · rw [h.2 23 rfl]
/-- goals above t: a bound for operators (24) on top of what is done with the value (25 binary, 26 and/or, 27 unary) -/
def EA (t : Nat) : List gQ → kS → Prop
  | [], k => k.2 11 t = 24 ∧ k.2 12 t = 0
  | q :: G, k => k.2 11 (t + 2 * G.length + 2) = 24 ∧ k.2 12 (t + 2 * G.length + 2) = q.1 ∧ 0 ≤ q.1 ∧ (k.2 11 (t + 2 * G.length + 1) = q.2.1 ∧ k.2 12 (t + 2 * G.length + 1) = q.2.2.1 ∧ k.2 13 (t + 2 * G.length + 1) = q.2.2.2) ∧ (q.2.1 = 25 ∨ q.2.1 = 26 ∨ q.2.1 = 27) ∧ EA t G k
def n25 : List gQ → Nat
  | [] => 0
  | q :: G => n25 G + (if q.2.1 = 25 then 1 else 0)
/-- operands that wait are loaded -/
def NV (v : Nat) (G : List gQ) (k : kS) : Prop := ∀ i, v ≤ i → i < v + n25 G → k.2 16 i = 0
theorem NV0 : NV v [] k := fun i h1 h2 => absurd (show i < v from h2) (by omega)
theorem NV.same (h : NV v G k) (e : k'.2 16 = k.2 16) : NV v G k' := fun i h1 h2 => by rw [e]; exact h i h1 h2
def ES (t v : Nat) (G : List gQ) (k : kS) : Prop := EA t G k ∧ k.1 10 = xn (t + 2 * G.length + 1) ∧ k.1 15 = xn (v + n25 G + 1) ∧ NV v G k
theorem EA.same : ∀ {G : List gQ}, EA t G k → k'.2 11 = k.2 11 → k'.2 12 = k.2 12 → k'.2 13 = k.2 13 → EA t G k' := by
  intro G
  induction G with
  | nil => intro h e1 e2 _; exact ⟨by rw [e1]; exact h.1, by rw [e2]; exact h.2⟩
  | cons q G ih =>
    rintro ⟨h1, h2, h3, h4, h5, h6⟩ e1 e2 e3
    exact ⟨by rw [e1]; exact h1, by rw [e2]; exact h2, h3, by rw [e1, e2, e3]; exact h4, h5, ih h6 e1 e2 e3⟩
theorem k180_24 {s : kS} {x y z : Int32} : (k180 s 24 x y z).1 = (k202 s x).1 := by
  unfold k180 k181
  rw [if_neg (by decide), if_neg (by decide), if_pos rfl]
theorem k180_25 {s : kS} {x y z : Int32} : (k180 s 25 x y z).1 = (k181_108 (k209 s).1 x y).1 := by
  unfold k180 k181
  rw [if_neg (by decide), if_neg (by decide), if_neg (by decide), if_pos rfl]
theorem k180_26 {s : kS} {x y z : Int32} : (k180 s 26 x y z).1 = (k181_125 (k204 s).1 x).1 := by
  unfold k180 k181
  rw [if_neg (by decide), if_neg (by decide), if_neg (by decide), if_neg (by decide), if_pos rfl]
theorem k180_27 {s : kS} {x y z : Int32} : (k180 s 27 x y z).1 = (k181_142 (k204 s).1 x y).1 := by
  unfold k180 k181
  rw [if_neg (by decide), if_neg (by decide), if_neg (by decide), if_neg (by decide), if_neg (by decide), if_pos rfl]
/-- the bound on top holds the operator back -/
theorem es_top {lim : Int32} {T : Nat} (h10 : k.1 10 = xn (T + 1)) (h11 : k.2 11 T = 24) (h12 : k.2 12 T = lim) (hl : ¬ lim < k203 k (k183 k)) (hT : T ≤ 1000000) : kst k = kf k 10 (xn T) := by
  rw [kst_pop (t := T) ⟨h10, h11, h12, rfl, rfl⟩ hT, k180_24]
  unfold k202
  rw [if_neg (show ¬ lim < k203 (kf k 10 (xn T)) (k183 (kf k 10 (xn T))) from hl)]
theorem k142_put {p : PM} {d : Dw} {L : List xR} {a : Nat} {s : cS} {X : List xF} {y z : Int32} (h : RWp p d L a s k X) : RWp p (d.1, d.2.1 ++ [(if y = 24 then 17 else 18, if y = 24 then 0 else y, 0, z)], d.2.2) L a s (k181_142 k y z).1 X := by
  by_cases c : y = 24
  · have nc : ¬ y ≠ 24 := fun q => q c
    have e : (k181_142 k y z).1 = (k189 k 17 0 0 z).1 := by
      unfold k181_142 k181_156
      rw [if_neg nc, if_neg nc]
      rfl
    rw [e, if_pos c, if_pos c]
    exact h.put
  · have e : (k181_142 k y z).1 = (k189 k 18 y 0 z).1 := by
      unfold k181_142 k181_156
      rw [if_pos c, if_pos c]
      rfl
    rw [e, if_neg c, if_neg c]
    exact h.put
/-- the reference leads a jump that waits -/
theorem RWp.ks1 {L : List xR} {a x i : Nat} {s : cS} {X : List xF} {y v vc vk : Int32} {H : List hE} (h : RWp none (D0 ((x, i, 1, y.toNatClampNeg, vc, vk) :: H)) L a s k X) : RWp none (D0 ((x, i, 1, y.toNatClampNeg, vc, v) :: H)) L a s (ka k 71 y v) X := by
  have f : kFr 0 2361183241434822606848 k (ka k 71 y v) := kFr.sa kFr.refl rfl
  refine h.fro (cFr.refl (F := 0) (T := 0) (B := 0) (G := 0)) f rfl rfl rfl rfl rfl rfl (h.2.2.2.2.2.1.fr (fun _ => ⟨rfl, rfl⟩) f rfl rfl rfl (Or.inl rfl)) ?_
  obtain ⟨R, r1, r2⟩ := h.2.2.2.2.2.2.2
  exact ⟨R, r1, r2.ks1 h.k53⟩
theorem k210_ka {y v : Int32} : k210 (ka k 71 y v) = k210 k := rfl
/-- a bound is taken away, and what it stood on is done -/
theorem es_pop {q : gQ} (h : ES t v (q :: G) k) (hl : ¬ q.1 < k203 k (k183 k)) (ht : t + 2 * G.length + 2 ≤ 1000000) (hv : v + n25 (q :: G) ≤ 1000000) : ES t v G (kit 2 k) ∧ QF k (kit 2 k) ∧ (∀ T w, KB T v w k (kit 2 k)) ∧ (kit 2 k).2 16 (v + n25 G) = 0 ∧ (∀ H L a s X, q.2.1 ≠ 26 → RWp (some (v + n25 (q :: G), true)) (D0 H) L a s k X → RWp (some (v + n25 G, true)) ([], kpR q, H) L a s (kit 2 k) X) ∧ (∀ H x i vc vk L a s X, q.2.1 = 26 → RWp (some (v + n25 (q :: G), true)) (D0 ((x, i, 1, q.2.2.1.toNatClampNeg, vc, vk) :: H)) L a s k X → RWp (some (v + n25 G, true)) (D0 ((x, i, 1, q.2.2.1.toNatClampNeg, vc, k210 (kit 2 k)) :: H)) L a s (kit 2 k) X) := by
  obtain ⟨⟨a1, a2, a3, ⟨a4, a41, a42⟩, a5, a6⟩, b1, b2, b3⟩ := h
  have hL : (q :: G).length = G.length + 1 := rfl
  have e1 : kst k = kf k 10 (xn (t + 2 * G.length + 2)) := es_top (by rw [b1, hL]; rfl) a1 a2 hl ht
  obtain ⟨k1, hk1⟩ : ∃ k1, k1 = kf (kf k 10 (xn (t + 2 * G.length + 2))) 10 (xn (t + 2 * G.length + 1)) := ⟨_, rfl⟩
  have q1 : QF k k1 := by rw [hk1]; exact kFr.sf (kFr.sf kFr.refl rfl) rfl
  have q0 : kFr 1024 0 k k1 := by rw [hk1]; exact kFr.sf (kFr.sf kFr.refl rfl) rfl
  have f10 : k1.1 10 = xn (t + 2 * G.length + 1) := by rw [hk1]; rfl
  have f15 : k1.1 15 = xn (v + n25 (q :: G) + 1) := by rw [hk1]; exact b2
  have f16 : k1.2 16 = k.2 16 := by rw [hk1]; rfl
  have e2 : kit 2 k = (k180 k1 q.2.1 q.2.2.1 q.2.2.2 (k.2 14 (t + 2 * G.length + 1))).1 := by
    show kst (kst k) = _
    rw [e1, hk1]
    exact kst_pop (t := t + 2 * G.length + 1) (k := kf k 10 (xn (t + 2 * G.length + 2))) ⟨rfl, a4, a41, a42, rfl⟩ (by omega)
  rw [e2]
  have hle : n25 G ≤ n25 (q :: G) := Nat.le_add_right _ _
  have fin : ∀ k2 : kS, QF k1 k2 → k2.1 10 = k1.1 10 → k2.1 15 = xn (v + n25 G + 1) → (∀ i, i < v → k2.2 16 i = k1.2 16 i) → k2.2 16 (v + n25 G) = 0 → kFr 295147905179352858624 18300323042624482050048 (k204 k1).1 k2 → ((∀ H L a s X, q.2.1 ≠ 26 → RWp none (D0 H) L a s (k204 k1).1 X → RWp none ([], kpR q, H) L a s k2 X) ∧ (∀ H x i vc vk L a s X, q.2.1 = 26 → RWp none (D0 ((x, i, 1, q.2.2.1.toNatClampNeg, vc, vk) :: H)) L a s (k204 k1).1 X → RWp none (D0 ((x, i, 1, q.2.2.1.toNatClampNeg, vc, k210 k2) :: H)) L a s k2 X)) → ES t v G k2 ∧ QF k k2 ∧ (∀ T w, KB T v w k k2) ∧ k2.2 16 (v + n25 G) = 0 ∧ (∀ H L a s X, q.2.1 ≠ 26 → RWp (some (v + n25 (q :: G), true)) (D0 H) L a s k X → RWp (some (v + n25 G, true)) ([], kpR q, H) L a s k2 X) ∧ (∀ H x i vc vk L a s X, q.2.1 = 26 → RWp (some (v + n25 (q :: G), true)) (D0 ((x, i, 1, q.2.2.1.toNatClampNeg, vc, vk) :: H)) L a s k X → RWp (some (v + n25 G, true)) (D0 ((x, i, 1, q.2.2.1.toNatClampNeg, vc, k210 k2) :: H)) L a s k2 X) := fun k2 z1 z2 z3 z4 z5 z6 z7 => by
    have qq := kFr.trans q1 z1
    refine ⟨⟨a6.same (qq.2 11 rfl) (qq.2 12 rfl) (qq.2 13 rfl), by rw [z2]; exact f10, z3, fun i i1 i2 => ?_⟩, qq, fun T w => KB.q qq (fun i hi => by rw [z4 i hi, f16]), z5, fun H L a s X c h => ?_, fun H x i vc vk L a s X c h => ?_⟩
    · rw [z6.2 16 rfl, k204_16 f15 hv (by omega), f16]
      exact b3 i i1 (by omega)
    · exact (z7.1 H L a s X c ((h.fr (cFr.refl (F := 0) (T := 0) (B := 0) (G := 0)) q0).lod f15 hv)).los (Or.inl z5)
    · exact (z7.2 H x i vc vk L a s X c ((h.fr (cFr.refl (F := 0) (T := 0) (B := 0) (G := 0)) q0).lod f15 hv)).los (Or.inl z5)
  have m204 : ∀ i, i < v → (k204 k1).1.2 16 i = k1.2 16 i := fun i hi => k204_16 f15 hv (by omega)
  have s15 : (k204 k1).1.1 15 = xn (v + n25 (q :: G) + 1) := ((fr_k204 k1).1 15 rfl).trans f15
  have s10 : (k204 k1).1.1 10 = k1.1 10 := (fr_k204 k1).1 10 rfl
  rcases a5 with c | c | c
  · have hn : n25 (q :: G) = n25 G + 1 := by show n25 G + (if q.2.1 = 25 then 1 else 0) = _; rw [if_pos c]
    rw [show (k180 k1 q.2.1 q.2.2.1 q.2.2.2 (k.2 14 (t + 2 * G.length + 1))).1 = (k181_108 (k209 k1).1 q.2.2.1 q.2.2.2).1 from (by rw [c]; exact k180_25)]
    refine fin _ (kFr.trans k209_q ((fr_k181_108 _ _ _).mono rfl rfl)) ?_ ?_ (fun i hi => ?_) ?_ (kFr.trans (s' := (k209 k1).1) (kFr.sf kFr.refl rfl) ((fr_k181_108 _ _ _).mono rfl rfl)) ⟨fun H L a s X _ h => ?_, fun H x i vc vk L a s X c2 _ => absurd (c.symm.trans c2) (by decide)⟩
    · rw [(fr_k181_108 _ _ _).1 10 rfl]
      exact (fr_k209 k1).1 10 rfl
    · rw [(fr_k181_108 _ _ _).1 15 rfl]
      show (k204 k1).1.1 15 - 1 = _
      rw [s15, hn]
      have := xn_sub (n := 1) (m := v + n25 G + 1) (by omega)
      rw [show 1 + (v + n25 G + 1) = v + (n25 G + 1) + 1 by omega] at this
      exact this
    · rw [(fr_k181_108 _ _ _).2 16 rfl]
      exact m204 i hi
    · rw [(fr_k181_108 _ _ _).2 16 rfl]
      show (k204 k1).1.2 16 (v + n25 G) = 0
      rw [k204_16 f15 hv (by omega), f16]
      exact b3 _ (by omega) (by omega)
    · have e1 : kpR q = [(19, q.2.2.1, 0, q.2.2.2)] := by unfold kpR; rw [if_pos c]
      have f9 : kFr 32768 0 (k204 k1).1 (k209 k1).1 := kFr.sf kFr.refl rfl
      rw [e1]
      exact (h.fr (cFr.refl (F := 0) (T := 0) (B := 0) (G := 0)) f9).put
  · have hn : n25 (q :: G) = n25 G := by show n25 G + (if q.2.1 = 25 then 1 else 0) = _; rw [c, if_neg (by decide)]; rfl
    rw [show (k180 k1 q.2.1 q.2.2.1 q.2.2.2 (k.2 14 (t + 2 * G.length + 1))).1 = (k181_125 (k204 k1).1 q.2.2.1).1 from (by rw [c]; exact k180_26)]
    refine fin _ (kFr.trans k204_q ((fr_k181_125 _ _).mono rfl rfl)) ?_ ?_ (fun i hi => ?_) ?_ ((fr_k181_125 _ _).mono rfl rfl) ⟨fun H L a s X c2 _ => absurd c c2, fun H x i vc vk L a s X _ h => ?_⟩
    · rw [(fr_k181_125 _ _).1 10 (Nat.zero_testBit _)]
      exact s10
    · rw [(fr_k181_125 _ _).1 15 (Nat.zero_testBit _), s15, hn]
    · rw [(fr_k181_125 _ _).2 16 rfl]
      exact m204 i hi
    · rw [(fr_k181_125 _ _).2 16 rfl, ← hn, k204_16v f15 hv]
    · exact h.ks1
  · have hn : n25 (q :: G) = n25 G := by show n25 G + (if q.2.1 = 25 then 1 else 0) = _; rw [c, if_neg (by decide)]; rfl
    rw [show (k180 k1 q.2.1 q.2.2.1 q.2.2.2 (k.2 14 (t + 2 * G.length + 1))).1 = (k181_142 (k204 k1).1 q.2.2.1 q.2.2.2).1 from (by rw [c]; exact k180_27)]
    refine fin _ (kFr.trans k204_q ((fr_k181_142 _ _ _).mono rfl rfl)) ?_ ?_ (fun i hi => ?_) ?_ ((fr_k181_142 _ _ _).mono rfl rfl) ⟨fun H L a s X _ h => ?_, fun H x i vc vk L a s X c2 _ => absurd (c.symm.trans c2) (by decide)⟩
    · rw [(fr_k181_142 _ _ _).1 10 rfl]
      exact s10
    · rw [(fr_k181_142 _ _ _).1 15 rfl, s15, hn]
    · rw [(fr_k181_142 _ _ _).2 16 rfl]
      exact m204 i hi
    · rw [(fr_k181_142 _ _ _).2 16 rfl, ← hn, k204_16v f15 hv]
    · have e1 : kpR q = [(if q.2.2.1 = 24 then 17 else 18, if q.2.2.1 = 24 then 0 else q.2.2.1, 0, q.2.2.2)] := by unfold kpR; rw [if_neg (by rw [c]; decide), if_pos c]
      rw [e1]
      exact k142_put h
theorem k183_q (h : QF k k') : k183 k' = k183 k := by
  unfold k183 k184 kr
  rw [h.1 0 rfl, h.1 4 rfl, h.2 1 rfl]
end ESS
