/-! THE WALK OVER BOTH: function statements -/
section FNS
variable {δ : Df} {L : List xR} {P : PT} {P3 : List hE} {k0 k k' : kS} {T V W a t v w n : Nat} {s s' : cS} {X X' : List xF} {f : xF} {r : List xF} {x y z y1 y2 y3 y4 p q c pw sg : Int32} {rc : cRC}
theorem nm1 (h : SG L P k0 T V W a s k X t v w) (hn : c53 s = 1) : ∃ q s1, L[a]? = some q ∧ c62 s = ((c66 s1 q.2.1).1, some 1) ∧ SG L P k0 T V W (a + 1) s1 (kf k 4 (k.1 4 + 1)) X t v w ∧ ((c66 s1 q.2.1).1.f 12 9 ≠ 0 ↔ xcon X q.2.1) ∧ OU (bd a) s1 (kf k 4 (k.1 4 + 1)) X ∧ (c66 s1 q.2.1).1.f 7 6 = k.1 4 := by
  have f0 : cFr 332306998946228968225951765070086144 0 0 0 s (nf s 7 6 (c63 s)) := cFr.refl.sf rfl
  have h0 := h.cl f0
  have e53 := (c53_fr f0).trans hn
  obtain ⟨q, s1, q1, q2, q3, q4, q5⟩ := h0.skp e53 pl1
  have hcon := c66_c (t := q.2.1) q4.1.2.1.1 q4.SZ q4.1.2.1.2.2.1.wv
  have fm : kFr 16 0 k (kf k 4 (k.1 4 + 1)) := kFr.sf kFr.refl rfl
  refine ⟨q, s1, q1, ?_, q4, hcon, h0.ou q5 fm, ((fr_c66 s1 q.2.1).1 7 6 (by decide) rfl).trans ((q5.1 7 6 (by decide) rfl).trans (nf_at.trans h.w63))⟩
  unfold c62
  rw [c64_yes e53, cbd_some (w := q.2.1) (by rw [q3]), q3]
theorem nm1_no (hn : c53 s ≠ 1) : (c62 s).2 = none := by
  have f0 : cFr 332306998946228968225951765070086144 0 0 0 s (nf s 7 6 (c63 s)) := cFr.refl.sf rfl
  have e : (c64 (nf s 7 6 (c63 s)) 1).2 = none := c64_no (by rw [c53_fr f0]; exact hn)
  unfold c62
  rw [cbd_none e]
  exact e
theorem fld1 {K : Int32} (h : SGp none δ L P k0 T V W a s k X t v w) (c : c53 s = K) (hK : PLN K) : (∃ s5, c110 s = (s5, some 2) ∧ a + 1 < L.length ∧ SGp none δ L P k0 T V W (a + 1 + 1) s5 (kf (kf k 4 (k.1 4 + 1)) 4 ((kf k 4 (k.1 4 + 1)).1 4 + 1)) X t v w ∧ k200 (kf k 4 (k.1 4 + 1)) 1 = (kf (kf k 4 (k.1 4 + 1)) 4 ((kf k 4 (k.1 4 + 1)).1 4 + 1), 1) ∧ s5.f 7 6 = k.1 4 ∧ kr (kf (kf k 4 (k.1 4 + 1)) 4 ((kf k 4 (k.1 4 + 1)).1 4 + 1)) 2 ((kf (kf k 4 (k.1 4 + 1)) 4 ((kf k 4 (k.1 4 + 1)).1 4 + 1)).1 4 - 1) = s5.f 7 7) ∨ ((c110 s).2 = none ∧ (k200 (kf k 4 (k.1 4 + 1)) 1).2 = 0 ∧ (k200 (kf k 4 (k.1 4 + 1)) 1).1.1 6 ≠ 0) := by
  obtain ⟨q, s4, q1, q2, q3, q4, q5⟩ := h.skp c hK
  rcases q4.tkp pl1 with ⟨p, s5, p1, p2, p3, p4, p5, p6⟩ | ⟨p1, p2, p3⟩
  · left
    have hfr : cFr 996920996838686904677855295210258432 0 0 0 s5 (nf (nf s5 7 7 p.2.1) 7 6 (c63 s)) := (cFr.refl.sf rfl).sf rfl
    have hle := p5.le
    have e4 : (kf (kf k 4 (k.1 4 + 1)) 4 ((kf k 4 (k.1 4 + 1)).1 4 + 1)).1 4 - 1 = xn (a + 1) := by
      rw [p5.at4.1]
      have := xn_sub (n := 1) (m := a + 1) (by omega)
      rw [Nat.add_comm 1] at this
      exact this
    refine ⟨nf (nf s5 7 7 p.2.1) 7 6 (c63 s), ?_, lt_of p1, p5.cl hfr, p4, nf_at.trans h.w63, ?_⟩
    rotate_left
    · rw [e4, p5.1.1.txa p1, nf_o (by decide), nf_at]
    unfold c110
    rw [cbd_some (w := q.2.1) (by rw [q3]), q3]
    show c110_15 s4 _ _ = _
    unfold c110_15
    rw [cbd_some (w := p.2.1) (by rw [p3]), p3]
    rfl
  · right
    refine ⟨?_, p2, p3⟩
    unfold c110
    rw [cbd_some (w := q.2.1) (by rw [q3]), q3]
    show (c110_15 s4 _ _).2 = _
    unfold c110_15
    rw [cbd_none p1]
    exact p1
/-- one target is stored -/
def orow (qq : xR) : List xR := if qq.1 = 32 then [(32, 0, 0, qq.2.2.1), (26, 2, 0, 0)] else [(qq.1, qq.2.1, 0, qq.2.2.1)]
theorem orow_w {qq : xR} (h : wfo qq.1 = true) : wfl (orow qq) := by
  unfold orow
  split
  · exact wfl_2 rfl rfl
  · exact wfl_1 h
theorem SGp.st1 {P1 P2 : List xR} {qq : xR} (h : SGp none δ L (P1, P2 ++ [qq], P3) k0 T V W a s k X t v w) : SGp none (δ.1 ++ orow qq, δ.2) L (P1, P2, P3) k0 T V W a (c118 s (xn P2.length)).1 k X t v w := by
  have hle := h.le
  have hlen : (P2 ++ [qq]).length = P2.length + 1 := List.length_append
  have hQ : (P2 ++ [qq]).length ≤ 100000 := by have : (P2 ++ [qq]).length ≤ a := h.2.2.2.2.2.2; omega
  have er : s.r (.s 10) = xn (P2 ++ [qq]).length := xn_eq h.2.2.2.2.1.2.1 (by omega)
  have eu : (s.r (.s 10) - 1).toInt + 1 = (P2.length + 1 : Nat) := by
    rw [er, i_sub (xn_i (by omega)) (show (1 : Int32).toInt = 1 from rfl) (by omega) (by omega)]
    omega
  obtain ⟨m, s', u', t1, t2⟩ := ctz_go (Q := [qq]) hQ 1 δ s 0 (s.r (.s 10) - 1) h (Nat.le_refl _) eu (by omega)
  have es := kfin_of ⟨m, t1⟩ (Nat.succ_ne_zero 0)
  have ez : (0 : Int32) = xn 0 := rfl
  unfold c118
  rw [ez, es]
  have ec : (0 + cbn (fun i => decide (([qq][i]?.map (fun q => q.1)) = some 32)) 1) = if qq.1 = 32 then 1 else 0 := by
    show 0 + ((if decide (some qq.1 = some 32) then 1 else 0) + 0) = _
    by_cases c : qq.1 = 32
    · rw [c, if_pos rfl, decide_eq_true rfl]
      rfl
    · rw [if_neg c, decide_eq_false (fun z => c (Option.some.inj z))]
      rfl
  rw [ec]
  by_cases c : qq.1 = 32
  · have t3 : SGp none (δ.1 ++ [(32, 0, 0, qq.2.2.1)], δ.2) L (P1, P2 ++ [qq], P3) k0 T V W a s' k X t v w := t2.eq (by rw [trow_y (Q := [qq]) (n := 0) (q := qq) rfl c]; rfl)
    rw [if_pos c, if_neg (show ¬ xn 1 ≤ xn 0 from by decide)]
    unfold c118_101 c118_102
    exact SGp.tgc (t3.cle.eq (by unfold orow; rw [if_pos c, List.append_assoc]; rfl)) hQ
  · have t3 : SGp none (δ.1 ++ [(qq.1, qq.2.1, 0, qq.2.2.1)], δ.2) L (P1, P2 ++ [qq], P3) k0 T V W a s' k X t v w := t2.eq (by rw [trow_n (Q := [qq]) (n := 0) (q := qq) rfl c]; rfl)
    rw [if_neg c, if_pos (show xn 0 ≤ xn 0 from by decide)]
    unfold c118_102
    exact SGp.tgc (t3.eq (by unfold orow; rw [if_neg c])) hQ
theorem fs_tail {a0 : Nat} {P1 P2 : List xR} {qq : xR} (h73 : E73 rc L) (h : SG L (P1, P2 ++ [qq], P3) k0 t v w a s k X t v w) (hq : (3 ≤ p ↔ qq.1 = 32) ∧ qq.2.2.1 = c ∧ (qq.1 ≠ 32 → qq.1 = 29 + p ∧ qq.2.1 = q) ∧ wfo qq.1 = true) (hy4 : y4 = xn P2.length) (hzp : z = pw) (hB : XB X) (hs : x = 0 ↔ y = 0) (ha : a0 ≤ a) (hr : RO L a (t + 16) (v + 8)) : QC (SP L (P1, P2, P3) k0 t v w a0 X) (k195 (k179 (k179 k 16 p q c).1 41 pw 0 0).1 y pw).1 (c145_104 rc s z x y4) := by
  have ht : t + 16 ≤ 1000000 := by have := hr.1; omega
  have hv : v + 8 ≤ 1000000 := by have := hr.2; omega
  obtain ⟨h7, g7⟩ := h.psh (g := 16) (p := p) (q := q) (c := c) (Nat.le_refl _) (by omega)
  generalize (k179 k 16 p q c).1 = k7 at h7 g7
  unfold c145_104
  refine (fb_call (z := z) (x := x) (y := y) h73 h7 g7 hB.ne hs hzp (Nat.le_refl _) (Nat.le_refl _) (Nat.le_refl _) ⟨by have := hr.1; omega, by have := hr.2; omega⟩).bnd ?_
  rintro s8 k8 x8 ⟨a8, u1, u2, u3⟩
  refine QC.pop u3 (by omega) ?_
  rw [k180_g16]
  have h9 := (u2.top (t' := t)).dwn (by omega)
  show QC _ _ (c145_110 rc s8 y4)
  unfold k260 c145_110
  rw [hy4]
  by_cases c3 : 3 ≤ p
  · rw [if_pos c3]
    unfold k260_39
    have h10 := SGp.st1 ((h9.put (x := 32) (y := 0) (z := 0) (u := c)).put (x := 26) (y := 2) (z := 0) (u := 0))
    exact QC.ret ⟨a8, X, by omega, h10.de0 (by unfold orow; rw [if_pos (hq.1.mp c3), hq.2.1]; rfl) (orow_w hq.2.2.2), XQ.refl hB⟩
  · rw [if_neg c3]
    have h10 := SGp.st1 (h9.put (x := 29 + p) (y := q) (z := 0) (u := c))
    have n32 : qq.1 ≠ 32 := fun z => c3 (hq.1.mpr z)
    exact QC.ret ⟨a8, X, by omega, h10.de0 (by unfold orow; rw [if_neg n32, hq.2.1, (hq.2.2.1 n32).1, (hq.2.2.1 n32).2]) (orow_w hq.2.2.2), XQ.refl hB⟩
theorem fs_two {a0 : Nat} (h73 : E73 rc L) (h : SGp none ([], [(5, s.f 7 7, 0, 0)]) L P k0 t v w a s k X t v w) (hsg : sg = s.f 7 6) (hPa : P.2.1.length + 1 ≤ a) (hzp : z = pw) (hB : XB X) (hs : x = 0 ↔ y = 0) (ha : a0 ≤ a) (hr : RO L a (t + 16) (v + 8)) : QC (SP L P k0 t v w a0 X) (k236_218 k pw y sg).1 (c145_90 rc s z 2 x) := by
  have hle := h.le
  have ec : c113 s 2 = ((tad (c78 s 5 (s.f 7 7) 0 0).1 (.s 10) 32 0 ((c78 s 5 (s.f 7 7) 0 0).1.f 7 6) 0).1, some 0) := by
    unfold c113
    rw [if_neg (by decide), if_pos rfl]
    rfl
  unfold c145_90 k236_218 k236_228 k236_237
  rw [ec, rbd_th (w := 0) rfl]
  have h2 := (h.cle (x := 5) (y := s.f 7 7) (z := 0) (u := 0)).de0 rfl
  have e76 : (c78 s 5 (s.f 7 7) 0 0).1.f 7 6 = sg := ((fr_c78 s 5 (s.f 7 7) 0 0).1 7 6 (by decide) (Nat.zero_testBit _)).trans hsg.symm
  have er : s.r (.s 10) = xn P.2.1.length := xn_eq h.2.2.2.2.1.2.1 (by omega)
  generalize (c78 s 5 (s.f 7 7) 0 0).1 = s2 at h2 e76
  obtain ⟨P1, P2, P3⟩ := P
  exact fs_tail h73 (SGp.tga h2 hPa) ⟨show (3 : Int32) ≤ 3 ↔ (32 : Int32) = 32 by decide, e76, (fun z => absurd rfl z), rfl⟩ er hzp hB hs ha hr
noncomputable def kfs (y : Int32) (R : Nat × (kS × Int32 × Int32)) : kS × Int32 := if R.1 = 1 then (R.2.1, 0) else k236_218 R.2.1 y R.2.2.1 R.2.2.2
/-- what the class will write for the name or the field in hand -/
def wrow (s : cS) (y2 : Int32) : xR := if y2 = 1 then (s.f 12 7, s.f 12 8, 0, s.f 7 6) else (12, s.f 7 7, 0, s.f 7 6)
theorem wrow_1 : wrow s 1 = (s.f 12 7, s.f 12 8, 0, s.f 7 6) := if_pos rfl
theorem wrow_2 : wrow s 2 = (12, s.f 7 7, 0, s.f 7 6) := if_neg (by decide)
def crow (s : cS) (y2 : Int32) : xR := if c53 s = 70 ∨ c53 s = 68 then wrow s y2 else (5, s.f 7 7, 0, 0)
def E145L (rc : cRC) (L : List xR) : Prop := ∀ {P : PT} (a0 : Nat) (k0 : kS) (a : Nat) (s : cS) (k : kS) (X : List xF) (t v w : Nat) (y1 y3 pw sg : Int32) (R : Nat × (kS × Int32 × Int32)), SGp none ([], [crow s 2]) L P k0 t v w a s k X t v w → sg = s.f 7 6 → P.2.1.length + 1 ≤ a → y1 = pw → XB X → a0 ≤ a → RO L a (t + 16) (v + 8) → (∃ m', kwh (k236b85 pw) m' (k, 0, sg) = R) → R.1 ≠ 0 → 0 ≤ y3.toInt → y3.toInt ≤ a → QC (SP L P k0 t v w a0 X) (kfs pw R).1 (rc 145023 s 0 y1 2 y3 0 0 0)
def brow (k5 : kS) (e sg : Int32) : xR := if e ≠ 0 then (5, kr k5 2 (k5.1 4 - 1), 0, 0) else if k183 k5 = 70 ∨ k183 k5 = 68 then (12, kr k5 2 (k5.1 4 - 1), 0, sg) else (5, kr k5 2 (k5.1 4 - 1), 0, 0)
theorem brow_0 {k5 : kS} : brow k5 0 sg = if k183 k5 = 70 ∨ k183 k5 = 68 then (12, kr k5 2 (k5.1 4 - 1), 0, sg) else (5, kr k5 2 (k5.1 4 - 1), 0, 0) := if_neg (fun z => z rfl)
theorem b147 {k5 : kS} {e : Int32} : ∃ k6 : kS, k236b85_147 k5 y1 e sg = (0, (k6, e, sg)) ∧ ∀ (δ : Df) (L : List xR) (P : PT) (k0 : kS) (T V W a : Nat) (s : cS) (X : List xF) (t v w : Nat), SGp none δ L P k0 T V W a s k5 X t v w → SGp none (δ.1, δ.2 ++ [brow k5 e sg]) L P k0 T V W a s k6 X t v w := by
  have k169 : brow k5 e sg = (5, kr k5 2 (k5.1 4 - 1), 0, 0) → ∃ k6 : kS, k236b85_169 k5 y1 e sg = (0, (k6, e, sg)) ∧ ∀ (δ : Df) (L : List xR) (P : PT) (k0 : kS) (T V W a : Nat) (s : cS) (X : List xF) (t v w : Nat), SGp none δ L P k0 T V W a s k5 X t v w → SGp none (δ.1, δ.2 ++ [brow k5 e sg]) L P k0 T V W a s k6 X t v w := fun eb => ⟨_, rfl, fun δ L P k0 T V W a s X t v w h => by rw [eb]; exact h.put⟩
  have k173 : brow k5 e sg = (12, kr k5 2 (k5.1 4 - 1), 0, sg) → ∃ k6 : kS, k236b85_173 k5 y1 e sg = (0, (k6, e, sg)) ∧ ∀ (δ : Df) (L : List xR) (P : PT) (k0 : kS) (T V W a : Nat) (s : cS) (X : List xF) (t v w : Nat), SGp none δ L P k0 T V W a s k5 X t v w → SGp none (δ.1, δ.2 ++ [brow k5 e sg]) L P k0 T V W a s k6 X t v w := fun eb => ⟨_, rfl, fun δ L P k0 T V W a s X t v w h => by rw [eb]; exact h.put⟩
  unfold k236b85_147
  by_cases c1 : e ≠ 0
  · rw [if_pos c1]
    exact k169 (if_pos c1)
  rw [if_neg c1]
  by_cases c2 : k183 k5 = 70
  · rw [if_pos c2]
    exact k173 (by unfold brow; rw [if_neg c1, if_pos (Or.inl c2)])
  rw [if_neg c2]
  by_cases c3 : k183 k5 = 68
  · rw [if_pos c3]
    exact k173 (by unfold brow; rw [if_neg c1, if_pos (Or.inr c3)])
  · rw [if_neg c3]
    exact k169 (by unfold brow; rw [if_neg c1, if_neg (fun z => z.elim c2 c3)])
/-- a round of the reference over a dot or a colon -/
theorem b85 {K : Int32} (h : SGp none δ L P k0 T V W a s k X t v w) (c : c53 s = K) (hK : K = 70 ∨ K = 68) : (∃ s5 k6, c110 s = (s5, some 2) ∧ a + 1 < L.length ∧ SGp none (δ.1, δ.2 ++ [if K = 68 then (5, s5.f 7 7, 0, 0) else crow s5 2]) L P k0 T V W (a + 1 + 1) s5 k6 X t v w ∧ s5.f 7 6 = k.1 4 ∧ k236b85 pw (k, 0, sg) = (0, (k6, if K = 68 then 1 else 0, k.1 4))) ∨ ((c110 s).2 = none ∧ ∃ k6 e, k236b85 pw (k, 0, sg) = (1, (k6, e, k.1 4)) ∧ k6.1 6 ≠ 0) := by
  have hp : PLN K := by
    rcases hK with z | z <;> rw [z]
    · exact pl70
    · exact pl68
  have hk : k183 k = K := (h.is hp.1 hp.2.1).mp c
  have e0 : k236b85 pw (k, 0, sg) = k236b85_107 k pw 0 sg := by
    unfold k236b85
    rw [if_neg (fun z => z rfl)]
    rcases hK with z | z
    · rw [if_pos (hk.trans z)]
    · rw [if_neg (by show ¬ k183 k = 70; rw [hk, z]; decide), if_neg (fun q => q (hk.trans z))]
  rcases fld1 h c hp with ⟨s5, u1, u2, u3, u4, u5, u6⟩ | ⟨u1, u2, u3⟩
  · left
    rcases hK with z | z
    · obtain ⟨k6, w1, w2⟩ := b147 (k5 := kf (kf k 4 (k.1 4 + 1)) 4 ((kf k 4 (k.1 4 + 1)).1 4 + 1)) (y1 := pw) (e := 0) (sg := k.1 4)
      have i70 := u3.is (K := 70) (by decide) (by decide)
      have i68 := u3.is (K := 68) (by decide) (by decide)
      have er : brow (kf (kf k 4 (k.1 4 + 1)) 4 ((kf k 4 (k.1 4 + 1)).1 4 + 1)) 0 (k.1 4) = if K = 68 then (5, s5.f 7 7, 0, 0) else crow s5 2 := by
        rw [if_neg (by rw [z]; decide), brow_0]
        unfold crow
        rw [wrow_2, u6, u5]
        by_cases cc : c53 s5 = 70 ∨ c53 s5 = 68
        · rw [if_pos cc, if_pos (Or.imp i70.mp i68.mp cc)]
        · rw [if_neg cc, if_neg (fun q => cc (Or.imp i70.mpr i68.mpr q))]
      refine ⟨s5, k6, u1, u2, (w2 _ _ _ _ _ _ _ _ _ _ _ _ _ u3).eq (by rw [er]), u5, ?_⟩
      rw [e0, if_neg (by rw [z]; decide)]
      unfold k236b85_107
      rw [if_pos (by rw [hk, z]; decide), u4, if_pos (show (1 : Int32) ≠ 0 from by decide)]
      exact w1
    · obtain ⟨k6, w1, w2⟩ := b147 (k5 := kf (kf k 4 (k.1 4 + 1)) 4 ((kf k 4 (k.1 4 + 1)).1 4 + 1)) (y1 := pw) (e := 1) (sg := k.1 4)
      have er : brow (kf (kf k 4 (k.1 4 + 1)) 4 ((kf k 4 (k.1 4 + 1)).1 4 + 1)) 1 (k.1 4) = if K = 68 then (5, s5.f 7 7, 0, 0) else crow s5 2 := by
        rw [if_pos z]
        unfold brow
        rw [if_pos (by decide), u6]
      refine ⟨s5, k6, u1, u2, (w2 _ _ _ _ _ _ _ _ _ _ _ _ _ u3).eq (by rw [er]), u5, ?_⟩
      rw [e0, if_pos z]
      unfold k236b85_107
      rw [if_neg (fun q => q (hk.trans z)), u4, if_pos (show (1 : Int32) ≠ 0 from by decide)]
      exact w1
  · right
    refine ⟨u1, (k200 (kf k 4 (k.1 4 + 1)) 1).1, if K = 68 then 1 else 0, ?_, u3⟩
    rw [e0]
    unfold k236b85_107
    rcases hK with z | z
    · rw [if_pos (by rw [hk, z]; decide), if_neg (fun q => q u2), if_neg (by rw [z]; decide)]
    · rw [if_neg (fun q => q (hk.trans z)), if_neg (fun q => q u2), if_pos z]
theorem fs_fin : ∀ (d : Nat) {δ : Df} {a : Nat} {s : cS} {k : kS} {e sg : Int32}, SGp none δ L P k0 T V W a s k X t v w → L.length - a ≤ d → ∃ R, (∃ m', kwh (k236b85 pw) m' (k, e, sg) = R) ∧ R.1 ≠ 0 := by
  intro d
  induction d with
  | zero =>
    intro δ a s k e sg h hd
    have stop : ∀ q, k236b85 pw (k, e, sg) = q → q.1 ≠ 0 → ∃ R, (∃ m', kwh (k236b85 pw) m' (k, e, sg) = R) ∧ R.1 ≠ 0 := fun q hq h0 => ⟨q, ⟨1, by rw [kwh_out (by rw [hq]; exact h0), hq]⟩, h0⟩
    have n70 : k183 k ≠ 70 := fun z => by
      have := h.lt ((h.is (by decide) (by decide)).mpr z) (by decide)
      omega
    have n68 : k183 k ≠ 68 := fun z => by
      have := h.lt ((h.is (by decide) (by decide)).mpr z) (by decide)
      omega
    refine stop (2, (k, e, sg)) ?_ (Nat.succ_ne_zero _)
    unfold k236b85
    by_cases c : e ≠ 0
    · rw [if_pos c]
    · rw [if_neg c, if_neg n70, if_pos n68]
  | succ d ih =>
    intro δ a s k e sg h hd
    have stop : ∀ q, k236b85 pw (k, e, sg) = q → q.1 ≠ 0 → ∃ R, (∃ m', kwh (k236b85 pw) m' (k, e, sg) = R) ∧ R.1 ≠ 0 := fun q hq h0 => ⟨q, ⟨1, by rw [kwh_out (by rw [hq]; exact h0), hq]⟩, h0⟩
    by_cases c : e ≠ 0
    · refine stop (2, (k, e, sg)) ?_ (Nat.succ_ne_zero _)
      unfold k236b85
      rw [if_pos c]
    · obtain rfl : e = 0 := Decidable.not_not.mp c
      by_cases hK : c53 s = 70 ∨ c53 s = 68
      · rcases b85 (pw := pw) (sg := sg) h rfl hK with ⟨s5, k6, u1, u2, u3, -, u4⟩ | ⟨u1, k6, e6, u2, u3⟩
        · obtain ⟨R, r1, r2⟩ := ih (e := if c53 s = 68 then 1 else 0) (sg := k.1 4) u3 (by omega)
          exact ⟨R, kw_step (by rw [u4]) (by rw [u4]; exact r1), r2⟩
        · exact stop _ u2 (Nat.succ_ne_zero _)
      · refine stop (2, (k, 0, sg)) ?_ (Nat.succ_ne_zero _)
        unfold k236b85
        rw [if_neg c, if_neg (fun z => hK (Or.inl ((h.is (by decide) (by decide)).mpr z))), if_pos (fun z => hK (Or.inr ((h.is (by decide) (by decide)).mpr z)))]
theorem SGp.stl1 (h : SGp none δ L P k0 T V W a s k X t v w) (hy : y2 = 1 ∨ y2 = 2) : SGp none (δ.1 ++ [wrow s y2], δ.2) L P k0 T V W a (c100 s y2).1 k X t v w := by
  rcases hy with rfl | rfl
  · rw [wrow_1]
    unfold c100
    rw [if_neg (fun z => z rfl)]
    exact h.cle
  · rw [wrow_2]
    unfold c100
    rw [if_pos (by decide), if_neg (fun z => z rfl)]
    exact h.cle
theorem fs_rnd {a0 : Nat} {R : Nat × (kS × Int32 × Int32)} (hL : E145L rc L) (h73 : E73 rc L) (h : SGp none ([], [crow s y2]) L P k0 t v w a s k X t v w) (hsg : y2 = 2 → sg = s.f 7 6) (hwo : c53 s = 70 ∨ c53 s = 68 → wfo (wrow s y2).1 = true) (hPa : P.2.1.length + 1 ≤ a) (hyp : y1 = pw) (hy2 : y2 = 1 ∨ y2 = 2) (hB : XB X) (ha : a0 ≤ a) (hr : RO L a (t + 16) (v + 8)) (hR : ∃ m', kwh (k236b85 pw) m' (k, 0, sg) = R) (hR0 : R.1 ≠ 0) (hy0 : 0 ≤ y3.toInt) (hy : y3.toInt ≤ a) (h2 : c53 s = 70 ∨ c53 s = 68 ∨ y2 = 2) : QC (SP L P k0 t v w a0 X) (kfs pw R).1 (c145_23 rc s y1 y2 y3) := by
  have hle := h.le
  have hnx : ∀ st, k236b85 pw (k, 0, sg) = (0, st) → ∃ m', kwh (k236b85 pw) m' st = R := fun st e => by
    obtain ⟨m', hm⟩ := hR
    cases m' with
    | zero => rw [← hm] at hR0; exact absurd rfl hR0
    | succ m' =>
      rw [kwh_go (by rw [e]), e] at hm
      exact ⟨m', hm⟩
  have hst : ∀ q : Nat × (kS × Int32 × Int32), k236b85 pw (k, 0, sg) = q → q.1 ≠ 0 → R = q := fun q e h0 => kwh_un hR ⟨1, by rw [kwh_out (by rw [e]; exact h0), e]⟩ hR0 h0
  have h3 : (c53 s = 70 ∨ c53 s = 68) → SG L P k0 t v w a (c100 s y2).1 k X t v w := fun hc => (h.stl1 hy2).de0 (by unfold crow; rw [if_pos hc]; rfl) (wfl_1 (hwo hc))
  have e53 := c53_fr (fr_c100 s y2)
  unfold c145_23
  by_cases c70 : c53 s = 70
  · rw [if_neg (fun z => z c70), if_neg (by rw [i_lt]; have : (16384 : Int32).toInt = 16384 := rfl; omega)]
    unfold c145_47
    rcases b85 (pw := pw) (sg := sg) (h3 (Or.inl c70)) (e53.trans c70) (Or.inl rfl) with ⟨s5, k6, u1, u2, u3, u5, u4⟩ | ⟨u1, k6, e6, u2, u3⟩
    · rw [u1, rbd_th (w := 2) rfl]
      rw [if_neg (by decide)] at u4 u3
      have y31 : (y3 + 1).toInt = y3.toInt + 1 := i_add rfl (show (1 : Int32).toInt = 1 from rfl) (by omega) (by omega)
      exact hL a0 k0 (a + 1 + 1) s5 k6 X t v w y1 (y3 + 1) pw (k.1 4) R u3 u5.symm (by omega) hyp hB (by omega) ⟨by have := hr.1; omega, by have := hr.2; omega⟩ (hnx _ u4) hR0 (by omega) (by omega)
    · rw [rbd_thn u1, hst _ u2 (Nat.succ_ne_zero _)]
      exact QC.thn u3
  rw [if_pos c70]
  unfold c145_58
  by_cases c68 : c53 s = 68
  · rw [if_neg (fun z => z c68)]
    unfold c145_75 c145_85
    rw [if_neg (by decide)]
    rcases b85 (pw := pw) (sg := sg) (h3 (Or.inr c68)) (e53.trans c68) (Or.inr rfl) with ⟨s5, k6, u1, u2, u3, u5, u4⟩ | ⟨u1, k6, e6, u2, u3⟩
    · rw [u1, rbd_th (w := 2) rfl]
      rw [if_pos rfl] at u4 u3
      have e2 : k236b85 pw (k6, 1, k.1 4) = (2, (k6, 1, k.1 4)) := by
        unfold k236b85
        rw [if_pos (show (1 : Int32) ≠ 0 from by decide)]
      have eR : R = (2, (k6, 1, k.1 4)) := kwh_un (hnx _ u4) ⟨1, by rw [kwh_out (by rw [e2]; exact Nat.succ_ne_zero _), e2]⟩ hR0 (Nat.succ_ne_zero _)
      rw [eR]
      unfold c145_89
      exact fs_two h73 u3 u5.symm (by omega) hyp hB Iff.rfl (by omega) ⟨by have := hr.1; omega, by have := hr.2; omega⟩
    · rw [rbd_thn u1, hst _ u2 (Nat.succ_ne_zero _)]
      exact QC.thn u3
  · rw [if_pos c68]
    have e2 : k236b85 pw (k, 0, sg) = (2, (k, 0, sg)) := by
      unfold k236b85
      rw [if_neg (fun z => z rfl), if_neg (fun z => c70 ((h.is (by decide) (by decide)).mpr z)), if_pos (fun z => c68 ((h.is (by decide) (by decide)).mpr z))]
    rw [hst _ e2 (Nat.succ_ne_zero _)]
    obtain rfl : y2 = 2 := by
      rcases h2 with z | z | z
      · exact absurd z c70
      · exact absurd z c68
      · exact z
    unfold c145_75
    rw [if_pos rfl]
    exact fs_two h73 (h.eq (by unfold crow; rw [if_neg (fun z => z.elim c70 c68)])) (hsg rfl) hPa hyp hB Iff.rfl ha hr
def E145 (rc : cRC) (L : List xR) : Prop := ∀ {P : PT} (a : Nat) (s : cS) (k : kS) (X : List xF) (t v w : Nat), SG L P k t v w a s k X t v w → XB X → RO L (a + 1) (t + 8) (v + 8) → c53 s = 18 → QC (SP L P k t v w a X) (k228 k 18).1 (rc 145 s 0 0 0 0 0 0 0)
theorem st_fns (hL : E145L rc L) (h73 : E73 rc L) (h : SG L P k t v w a s k X t v w) (hB : XB X) (hr : RO L (a + 1) (t + 8) (v + 8)) (c : c53 s = 18) : QC (SP L P k t v w a X) (k228 k 18).1 (c145 rc s) := by
  have hle := h.le
  have ht : t + 8 ≤ 1000000 := by have := hr.1; omega
  have hv : v + 8 ≤ 1000000 := by have := hr.2; omega
  have hP2 : P.2.1.length ≤ a := h.2.2.2.2.2.2
  rw [k228_k18]
  unfold c145
  rcases h.ske c en18 with ⟨o, s1, k1, o1, o2, o3, o4, o5, o6, o7⟩ | ⟨o1, o2, o3⟩
  · rw [o3, rbd_th (w := o.2.1) rfl, o4]
    have hlt := lt_of o1
    show QC _ (k228_368 k1 (k.1 4) 1).1 (c145_15 rc s1 (c63 s) o.2.1)
    unfold k228_368 c145_15
    rw [if_neg (by decide)]
    obtain ⟨e4, e63⟩ := o5.at4
    unfold k236
    by_cases c1 : c53 s1 = 1
    · obtain ⟨q, sr, q1, q2, q3, q4, q5, q6⟩ := nm1 o5 c1
      have hlt2 := lt_of q1
      have e200 : k200 k1 1 = (kf k1 4 (k1.1 4 + 1), 1) := by
        unfold k200
        rw [if_pos ((o5.is (by decide) (by decide)).mp c1)]
      rw [q2, rbd_th (w := 1) rfl, e200]
      show QC _ (k236_10 (kf k1 4 (k1.1 4 + 1)) (k.1 4) (k1.1 4) 1).1 (c145_23 rc (c66 sr q.2.1).1 (c63 s) 1 0)
      have et := q3.1.1.txa q1
      have hbx := o5.1.bdx
      generalize kf k1 4 (k1.1 4 + 1) = k2 at q3 et q5
      have f66 := fr_c66 sr q.2.1
      have e53r := c53_fr f66
      obtain ⟨s2, hs2⟩ : ∃ s2, s2 = (c66 sr q.2.1).1 := ⟨_, rfl⟩
      rw [← hs2] at f66 e53r q4 q6 ⊢
      unfold k236_10
      rw [if_pos (by decide)]
      have i70 : c53 s2 = 70 ↔ k183 k2 = 70 := by rw [e53r]; exact q3.is (K := 70) (by decide) (by decide)
      have i68 : c53 s2 = 68 ↔ k183 k2 = 68 := by rw [e53r]; exact q3.is (K := 68) (by decide) (by decide)
      have dots : (c53 s2 = 70 ∨ c53 s2 = 68) → QC (SP L P k t v w a X) (k236_66 k2 (k.1 4) (k1.1 4)).1 (c145_23 rc s2 (c63 s) 1 0) := fun hd => by
        unfold k236_66 k236_73
        have hv0 := q3.val (x := 3) (y := 0) (z := k1.1 4) (Nat.le_refl _) (by omega)
        have e18 : (k190 k2 3 0 (k1.1 4)).1.2 18 v = xn (a + 1) := hv0.2.2.2.trans e4
        have et3 : kr (k190 k2 3 0 (k1.1 4)).1 2 (xn (a + 1)) = q.2.1 := et
        have oU3 : OU (bd (a + 1)) sr (k190 k2 3 0 (k1.1 4)).1 X := OU.fr q5 (fun _ => ⟨rfl, rfl⟩) (fr_k190 k2 3 0 (k1.1 4)) rfl rfl
        have hPO : PO (some (v, false)) (a + 1 + 1) s2 (k190 k2 3 0 (k1.1 4)).1 X := Or.inr ⟨hv0.2.1, sr, bd (a + 1), q3.1.2.1.1, hbx, oU3, fun x => by rw [e18, et3, hs2]; exact ⟨rfl, rfl⟩⟩
        have hNC : NP (some (v, false)) (D0 P.2.2) (a + 1 + 1) s2 (k190 k2 3 0 (k1.1 4)).1 X := ⟨[], rfl, hv0.1.nc.fr0 f66 (kFr.refl (F := 0) (A := 0)) rfl rfl rfl rfl id (fun z => absurd z (by decide))⟩
        have hv1 : SGp (some (v, false)) ([], []) L P k t v w (a + 1 + 1) s2 (k190 k2 3 0 (k1.1 4)).1 X t (v + 1) w := ⟨hv0.1.1.fro f66 (kFr.refl (F := 0) (A := 0)) rfl rfl rfl rfl rfl rfl hPO hNC, hv0.1.2.1, hv0.1.2.2.1, hv0.1.2.2.2.1, hv0.1.2.2.2.2.ts (TS.of f66 rfl) (Nat.le_refl _)⟩
        have b8 := bd_le (Nat.le_trans q3.1.1.2.2.1.2.2 q3.1.2.2.2.2.1.1)
        have hOR : OR (some (v, true)) [(s2.f 12 7, s2.f 12 8, 0, s2.f 7 6)] (a + 1 + 1) (k190 k2 3 0 (k1.1 4)).1 X := Or.inr (Or.inr (Or.inl ⟨hv0.2.1, sr, bd (a + 1), q3.1.2.1.1, by omega, oU3, by rw [e18, et3, ← hs2, q6, e4]⟩))
        have h4 : SGp none ([], [crow s2 1]) L P k t v w (a + 1 + 1) s2 (k209 (k190 k2 3 0 (k1.1 4)).1).1 X t v w := ((hv1.lop (Nat.le_refl _) (by omega) hOR).1.dwn (by omega)).eq (by unfold crow; rw [if_pos hd, wrow_1]; rfl)
        generalize (k209 (k190 k2 3 0 (k1.1 4)).1).1 = k4 at h4
        obtain ⟨R, r1, r2⟩ := fs_fin (pw := k.1 4) (L.length - (a + 1 + 1)) (e := 0) (sg := k4.1 4) h4 (Nat.le_refl _)
        have ek : kfin (k236b85 (k.1 4)) (k4, 0, k4.1 4) = R := kfin_of r1 r2
        unfold k236_77
        rw [ek]
        exact fs_rnd hL h73 h4 (fun z => absurd z (by decide)) (fun _ => by rw [wrow_1, hs2]; exact c66_o) (by omega) (by rw [h.at4.1, h.at4.2]) (Or.inl rfl) hB (by omega) ⟨by have := hr.1; omega, by have := hr.2; omega⟩ r1 r2 (by decide) (Int.natCast_nonneg _) (hd.imp id Or.inl)
      by_cases c70 : c53 s2 = 70
      · rw [if_pos (i70.mp c70)]
        exact dots (Or.inl c70)
      rw [if_neg (fun z => c70 (i70.mpr z))]
      by_cases c68 : c53 s2 = 68
      · rw [if_pos (i68.mp c68)]
        exact dots (Or.inr c68)
      rw [if_neg (fun z => c68 (i68.mpr z))]
      unfold c145_23 c145_58 c145_75 c145_90
      rw [if_pos c70, if_pos c68, if_pos rfl]
      have ec : c113 s2 1 = ((tad (c114 s2 (s2.f 7 6)).1 (.s 10) (c116 (c114 s2 (s2.f 7 6)).1 (c101 (c114 s2 (s2.f 7 6)).1)) (c102 (c114 s2 (s2.f 7 6)).1) ((c114 s2 (s2.f 7 6)).1.f 7 6) 0).1, some 0) := by
        unfold c113
        rw [if_pos rfl]
        rfl
      rw [ec, rbd_th (w := 0) rfl, e4]
      have n2 : RN (c114 s2 (s2.f 7 6)).1 (k237 k2 (xn (a + 1))).1 X := RN.con (q3.1.2.1.frm f66 (kFr.refl (F := 0) (A := 0)) rfl rfl rfl rfl rfl rfl rfl rfl rfl rfl rfl) q3.SZ (by rw [et]; exact q4)
      have oT : OU (bd (a + 1 + 1)) (c114 s2 (s2.f 7 6)).1 (k237 k2 (xn (a + 1))).1 X := by
        have z := q3.1.tgt (w := xn (a + 1)) q3.1.2.1.1 hbx q5 et
        rw [← hs2] at z
        exact OU.fr z ((fr_c114 _ _).ou rfl) (kFr.refl (F := 0) (A := 0)) rfl rfl
      have fc6 : cFr 5624283154906465964396867323194069108827710478239774923751424 0 0 8 sr (c114 s2 (s2.f 7 6)).1 := cFr.trans (s' := s2) (f66.mono rfl rfl rfl rfl) ((fr_c114 _ _).mono rfl rfl rfl rfl)
      have fk := fr_k237 k2 (xn (a + 1))
      have h4 : SG L P k t v w (a + 1 + 1) (c114 s2 (s2.f 7 6)).1 (k237 k2 (xn (a + 1))).1 X t v w := q3.nam fc6 fk n2 q3.sz oT ⟨q3.ne, q3.nc.fr0 fc6 fk rfl rfl rfl rfl (st_k237 _ _) (fun z => absurd z (by decide)), q3.fb.fr fc6 fk rfl rfl (st_k237 _ _) (fk.1 53 rfl), q3.cc.fr fk rfl (st_k237 _ _), q3.lv.fr fc6 (Nat.zero_testBit _)⟩
      have e127 : (c114 s2 (s2.f 7 6)).1.f 12 7 ≠ 11 := by
        rw [(fr_c114 s2 (s2.f 7 6)).1 12 7 (by decide) rfl, hs2]
        exact c66_7
      have er2 : s2.r (.s 10) = xn P.2.1.length := xn_eq (by rw [(f66.2.1 10 (Nat.zero_testBit _)).1]; exact q3.2.2.2.2.1.2.1) (by omega)
      have hy3 := k237_3 (k := k2) (x := xn (a + 1))
      have b8 := bd_le (Nat.le_trans q3.1.1.2.2.1.2.2 q3.1.2.2.2.2.1.1)
      obtain ⟨v7, v8⟩ := q3.1.tgv (w := xn (a + 1)) q3.1.2.1.1 (Nat.le_trans hbx b8) q5 et
      have fcc := fr_c114 s2 (s2.f 7 6)
      have v7' : (c114 s2 (s2.f 7 6)).1.f 12 7 = 8 + (k237 k2 (xn (a + 1))).2 := (fcc.1 12 7 (by decide) rfl).trans (by rw [hs2]; exact v7)
      have v8' : (c114 s2 (s2.f 7 6)).1.f 12 8 = (k237 k2 (xn (a + 1))).1.1 75 := (fcc.1 12 8 (by decide) rfl).trans (by rw [hs2]; exact v8)
      have v6' : (c114 s2 (s2.f 7 6)).1.f 7 6 = xn (a + 1) := (fcc.1 7 6 (by decide) rfl).trans (q6.trans e4)
      generalize (c114 s2 (s2.f 7 6)).1 = s4 at h4 e127 v7' v8' v6'
      have h32 : (3 ≤ (k237 k2 (xn (a + 1))).2 ↔ c116 s4 (c101 s4) = 32) := ⟨fun z => absurd z hy3, fun z => absurd (by
        have z' : (s4.f 12 7 - 8) + 29 = 32 := z
        have z2 : s4.f 12 7 = ((s4.f 12 7 - 8) + 29) - 29 + 8 := by rw [Int32.add_sub_cancel, Int32.sub_add_cancel]
        rw [z2, z']
        rfl) e127⟩
      obtain ⟨P1, P2, P3⟩ := P
      unfold k236_37 k236_50 k236_59
      exact fs_tail (x := 0) (y := 0) h73 (SGp.tga h4 (by have : P2.length ≤ a := hP2; omega)) ⟨h32, v6', fun _ => ⟨by
        show (s4.f 12 7 - 8) + 29 = _
        rw [v7', Int32.add_comm 8, Int32.add_sub_cancel, Int32.add_comm], v8'⟩, by
        have e29 : c116 s4 (c101 s4) = 29 + (k237 k2 (xn (a + 1))).2 := by
          show (s4.f 12 7 - 8) + 29 = _
          rw [v7', Int32.add_comm 8, Int32.add_sub_cancel, Int32.add_comm]
        show wfo (c116 s4 (c101 s4)) = true
        rw [e29]
        exact k237_w⟩ er2 (by rw [h.at4.1, h.at4.2]) hB Iff.rfl (by omega) ⟨by have := hr.1; omega, by have := hr.2; omega⟩
    · rw [rbd_thn (nm1_no c1)]
      refine QC.thn ?_
      have e2 : k183 k1 ≠ 1 := fun z => c1 ((o5.is (by decide) (by decide)).mpr z)
      unfold k200
      rw [if_neg e2]
      unfold k236_10
      rw [if_neg (fun z => z (k194_f (by decide)).2.2)]
      exact (k194_f (by decide)).1
  · rw [rbd_thn o1]
    refine QC.thn ?_
    unfold k228_368
    rw [if_pos o2]
    exact o3
end FNS
