/-! THE WALK OVER BOTH: prefixes -/
section PRF
variable {L : List xR} {P : PT} {k0 k k' : kS} {T V W a t v w : Nat} {s s' : cS} {X : List xF} {x y y1 y2 y3 : Int32} {rc : cRC}
def E61 (rc : cRC) (L : List xR) : Prop := ∀ {P : PT} (a : Nat) (s : cS) (k : kS) (X : List xF) (t v w : Nat), SG L P k t v w a s k X t v w → X ≠ [] → RO L (a + 1) (t + 1) v → PC P L (a + 1) (k201 k).1 X t v w (rc 61 s 0 0 0 0 0 0 0)
/-- the loop of a prefix -/
def E60L (rc : cRC) (L : List xR) : Prop := ∀ {P : PT} (a : Nat) (s : cS) (k : kS) (X : List xF) (t v w : Nat) (y1 y2 : Int32), SGp (some (v, false)) ([], []) L P k t v w a s k X (t + 1) (v + 1) w → X ≠ [] → GT t 28 0 0 0 k → FP X v s k y1 → RO L a t v → 0 ≤ y2.toInt → y2.toInt ≤ a → QC (fun s' k' x => ∃ a', a ≤ a' ∧ SGp (some (v, false)) ([], []) L P k t v w a' s' k' X t (v + 1) w ∧ FP X v s' k' x) k (rc 60007 s 0 y1 y2 0 0 0 0)
theorem pre_nxt (hL : E60L rc L) {a' : Nat} (h : SGp (some (v, false)) ([], []) L P k t v w a' s' k' X (t + 1) (v + 1) w) (hX : X ≠ []) (g : GT t 28 0 0 0 k') (hf : FP X v s' k' x) (hr : RO L a t v) (hy0 : 0 ≤ y2.toInt) (hy : y2.toInt ≤ a) (ha : a < a') : QC (fun s' k' x => ∃ a', a ≤ a' ∧ SGp (some (v, false)) ([], []) L P k t v w a' s' k' X t (v + 1) w ∧ FP X v s' k' x) k' (c60_195 rc s' x y2) := by
  have hle := h.le
  have y21 : (y2 + 1).toInt = y2.toInt + 1 := i_add rfl (show (1 : Int32).toInt = 1 from rfl) (by omega) (by omega)
  refine (hL a' s' k' X t v w x (y2 + 1) h.own hX g hf (hr.up (by omega)) (by omega) (by omega)).mono ?_
  rintro s5 k5 x5 ⟨a5, u1, u2, u3⟩
  exact ⟨a5, by omega, h.reb u2 (Nat.le_refl _) (Nat.le_refl _) (Nat.le_refl _), u3⟩
theorem pre_call (hL : E60L rc L) (h111 : E111 rc L) (h : SG L P k t v w a s k' X t (v + 1) w) (hX : X ≠ []) (ha : a < L.length) {a0 : Nat} (ha0 : a0 ≤ a) (hr : RO L a0 t v) (hy0 : 0 ≤ y2.toInt) (hy : y2.toInt ≤ a0) : QC (fun s' k' x => ∃ a', a0 ≤ a' ∧ SGp (some (v, false)) ([], []) L P k t v w a' s' k' X t (v + 1) w ∧ FP X v s' k' x) (k212 (k179 k' 28 0 0 0).1 x).1 (rbd (rc 111 s 0 x 0 0 0 0 0) (fun s6 _ => c60_195 rc s6 4 y2)) := by
  obtain ⟨h1, g1⟩ := h.psh (g := 28) (p := 0) (q := 0) (c := 0) (Nat.le_refl _) (by have := hr.1; omega)
  generalize (k179 k' 28 0 0 0).1 = k1 at h1 g1
  refine (h111 a s k1 X (t + 1) v w x h1.own hX (((hr.up ha0).nx ha (by omega) (by omega)))).bnd ?_
  rintro s2 k2 x2 ⟨a2, u1, u2, u3, u4⟩
  exact pre_nxt hL ((h1.reb u2 (by omega) (Nat.le_refl _) (Nat.le_refl _)).lof (by rw [u3]; decide)) hX (g1.bck u2.2.2.1 u2.2.1.1) ⟨Or.inr (Or.inr (Or.inr (Or.inl ⟨rfl, u3⟩))), u4⟩ hr hy0 hy (by omega)
theorem pre_idx {s3 : cS} {k3 : kS} {z : Int32} (hL : E60L rc L) (h70 : E70 rc L) (h3 : SG L P k t v w a s3 k3 X t (v + 1) w) (hX : X ≠ []) (c : c53 s3 = 64) (hz : y3 = z) (hr : RO L a t v) (hy0 : 0 ≤ y2.toInt) (hy : y2.toInt ≤ a) : QC (fun s' k' x => ∃ a', a ≤ a' ∧ SGp (some (v, false)) ([], []) L P k t v w a' s' k' X t (v + 1) w ∧ FP X v s' k' x) (k211_85 k3 z).1 (c60_106 rc s3 y2 y3) := by
  have hv : v + 8 ≤ 1000000 := by have := hr.2; omega
  unfold c60_106 k211_85
  rcases h3.ske c en64 with ⟨q, s4, k4, q1, q2, q3, q4, q5, q6, q7⟩ | ⟨q1, q2, q3⟩
  · have hlt := lt_of q1
    rw [q3, rbd_th (w := q.2.1) rfl, q4]
    show QC (fun s' k' x => ∃ a', a ≤ a' ∧ SGp (some (v, false)) ([], []) L P k t v w a' s' k' X t (v + 1) w ∧ FP X v s' k' x) (k211_91 k4 z 1).1 (c60_113 rc s4 y2 y3 q.2.1)
    unfold k211_91 c60_113
    rw [if_pos (by decide)]
    obtain ⟨h5, g5⟩ := q5.psh (g := 28) (p := 0) (q := 0) (c := 0) (Nat.le_refl _) (by have := hr.1; omega)
    unfold k211_104 k211_113
    generalize (k179 k4 28 0 0 0).1 = k5 at h5 g5
    refine (ex_call h70 (h5.own (t1 := t + 1) (v1 := v) (w1 := w)) hX (Nat.le_refl _) (by omega) (Nat.le_refl _) (hr.nx hlt (by omega) (by omega))).bnd ?_
    rintro s6 k6 x6 ⟨a6, u1, u2, -, u3⟩
    refine QC.pop u3 (by have := hr.1; omega) ?_
    rw [k180_g30]
    have h6 := (u2.top (t' := t + 1)).awy (by omega) (by omega)
    generalize (k209 (kf k6 10 (xn (t + 1)))).1 = k7 at h6
    have h7 := (h6.dwn (by omega)).val (x := 4) (y := 0) (z := z) (Nat.le_refl _) (by omega)
    unfold k181_201 k181_218
    generalize (k190 (kf k7 15 (k7.1 15 - 1)) 4 0 z).1 = k8 at h7
    unfold c60_118
    rcases h7.1.tkl lv65 with ⟨p, s8, k9, p1, p2, p3, p4, p5, p6, p7⟩ | ⟨p1, p2, p3⟩
    · rw [p3, rbd_th (w := p.2.1) rfl, p4]
      have hfr : cFr 332306998946228968225951765070086144 0 0 0 s8 (nf s8 7 6 y3) := cFr.refl.sf rfl
      have h9 := p5.cl hfr
      have e16 : k9.2 16 v = 4 := by
        rw [p7.2 16 (Nat.zero_testBit _)]
        exact h7.2.1
      have e18 : k9.2 18 v = z := by
        rw [p7.2 18 (Nat.zero_testBit _)]
        exact h7.2.2.2
      exact pre_nxt hL ((h5.reb h9 (by omega) (Nat.le_refl _) (Nat.le_refl _)).lof (by rw [e16]; decide)) hX (g5.bck h9.2.2.1 h9.2.1.1) ⟨Or.inr (Or.inr (Or.inl ⟨rfl, e16, by rw [e18, ← hz]; exact nf_at⟩)), LO.tr (by rw [e16]; decide) (by rw [e16]; decide)⟩ hr hy0 hy (by omega)
    · rw [rbd_thn p1]
      exact QC.thn p3
  · rw [rbd_thn q1]
    refine QC.thn ?_
    unfold k211_91
    rw [if_neg (fun z => z q2)]
    exact q3
theorem pre_col {s3 : cS} {k3 : kS} {z : Int32} (hL : E60L rc L) (h111 : E111 rc L) (hn : E111n rc) (h3 : SG L P k t v w a s3 k3 X t (v + 1) w) (hX : X ≠ []) (c : c53 s3 = 68) (hz : y3 = z) (hza : z = xn a) (hr : RO L a t v) (hy0 : 0 ≤ y2.toInt) (hy : y2.toInt ≤ a) : QC (fun s' k' x => ∃ a', a ≤ a' ∧ SGp (some (v, false)) ([], []) L P k t v w a' s' k' X t (v + 1) w ∧ FP X v s' k' x) (k211_131 k3 z).1 (c60_143 rc s3 y2 y3) := by
  unfold c60_143 k211_131
  obtain ⟨q, s4, q1, q2, q3, q4, q5⟩ := h3.skp c pl68
  have hlt := lt_of q1
  rw [q3, rbd_th (w := q.2.1) rfl]
  generalize kf k3 4 (k3.1 4 + 1) = k4 at q4
  unfold c60_150
  rcases q4.tkp pl1 with ⟨p, s5, p1, p2, p3, p4, p5, p6⟩ | ⟨p1, p2, p3⟩
  · rw [p3, rbd_th (w := p.2.1) rfl, p4]
    have hlt2 := lt_of p1
    show QC (fun s' k' x => ∃ a', a ≤ a' ∧ SGp (some (v, false)) ([], []) L P k t v w a' s' k' X t (v + 1) w ∧ FP X v s' k' x) (k211_146 (kf k4 4 (k4.1 4 + 1)) z 1).1 (c60_167 rc (c78 s5 14 p.2.1 0 y3).1 y2 (c78 s5 14 p.2.1 0 y3).2)
    generalize kf k4 4 (k4.1 4 + 1) = k5 at p5
    unfold k211_146
    rw [if_pos (by decide)]
    have et : kr k5 2 (z + 1) = p.2.1 := p5.1.1.tx p1 (by have := h3.le; rw [hza, xn_succ (by omega)])
    have h6 := p5.pc (x := 14) (y := p.2.1) (z := 0) (u := y3) (x' := 14) (y' := kr k5 2 (z + 1)) (z' := 0) (u' := z) (by rw [et, hz])
    unfold c60_167
    have i1 := h6.is (K := 3) (by decide) (by decide)
    have i2 := h6.is (K := 60) (by decide) (by decide)
    have i3 := h6.is (K := 62) (by decide) (by decide)
    generalize (c78 s5 14 p.2.1 0 y3).1 = s6 at h6 i1 i2 i3
    generalize k189 k5 14 (kr k5 2 (z + 1)) 0 z = K6 at h6 i1 i2 i3
    have hgo : a + 1 + 1 < L.length → QC (fun s' k' x => ∃ a', a ≤ a' ∧ SGp (some (v, false)) ([], []) L P k t v w a' s' k' X t (v + 1) w ∧ FP X v s' k' x) (k211_197 K6.1).1 (rbd (rc 111 s6 0 1 0 0 0 0 0) (fun s7 _ => c60_173 rc s7 y2)) := fun ha => pre_call hL h111 h6 hX ha (by omega) hr hy0 hy
    unfold k211_166
    by_cases b60 : c53 s6 = 60
    · rw [if_pos (i2.mp b60)]
      exact hgo (h6.lt b60 (by decide))
    by_cases b3 : c53 s6 = 3
    · rw [if_neg (fun z => b60 (i2.mpr z)), if_pos (i1.mp b3)]
      exact hgo (h6.lt b3 (by decide))
    by_cases b62 : c53 s6 = 62
    · rw [if_neg (fun z => b60 (i2.mpr z)), if_neg (fun z => b3 (i1.mpr z)), if_pos (i3.mp b62)]
      exact hgo (h6.lt b62 (by decide))
    rw [if_neg (fun z => b60 (i2.mpr z)), if_neg (fun z => b3 (i1.mpr z)), if_neg (fun z => b62 (i3.mpr z))]
    intro s7 o7 e7
    cases hq : rc 111 s6 0 1 0 0 0 0 0 with
    | none => rw [hq] at e7; cases e7
    | some pp =>
      obtain ⟨s8, o8⟩ := pp
      have z := hn s6 1 s8 o8 b3 b60 b62 hq
      rw [z] at hq
      rw [rbd_n hq] at e7
      cases e7
      exact ⟨(fun x z => nomatch z), fun _ => ⟨0, (k194_f (by decide)).1⟩⟩
  · rw [rbd_thn p1]
    refine QC.thn ?_
    unfold k211_146
    rw [if_neg (fun z => z p2)]
    exact p3
theorem pre_dot {s3 : cS} {k3 : kS} {z : Int32} (hL : E60L rc L) (h3 : SG L P k t v w a s3 k3 X t (v + 1) w) (hX : X ≠ []) (c : c53 s3 = 70) (hza : z = xn a) (hr : RO L a t v) (hy0 : 0 ≤ y2.toInt) (hy : y2.toInt ≤ a) : QC (fun s' k' x => ∃ a', a ≤ a' ∧ SGp (some (v, false)) ([], []) L P k t v w a' s' k' X t (v + 1) w ∧ FP X v s' k' x) (k211_20 k3 z).1 (c60_93 rc s3 y2) := by
  have hv : v + 8 ≤ 1000000 := by have := hr.2; omega
  obtain ⟨q, s4, q1, q2, q3, q4, q5⟩ := h3.skp c pl70
  have hlt := lt_of q1
  unfold c60_93 k211_20
  generalize kf k3 4 (k3.1 4 + 1) = k4 at q4
  rcases q4.tkp pl1 with ⟨p, s5, p1, p2, p3, p4, p5, p6⟩ | ⟨p1, p2, p3⟩
  · have ec : c110 s3 = (nf (nf s5 7 7 p.2.1) 7 6 (c63 s3), some 2) := by
      unfold c110
      rw [cbd_some (w := q.2.1) (by rw [q3]), q3]
      show c110_15 s4 _ _ = _
      unfold c110_15
      rw [cbd_some (w := p.2.1) (by rw [p3]), p3]
      rfl
    rw [ec, rbd_th (w := 2) rfl, p4]
    show QC (fun s' k' x => ∃ a', a ≤ a' ∧ SGp (some (v, false)) ([], []) L P k t v w a' s' k' X t (v + 1) w ∧ FP X v s' k' x) (k211_35 (kf k4 4 (k4.1 4 + 1)) z 1).1 _
    generalize kf k4 4 (k4.1 4 + 1) = k5 at p5
    unfold k211_35 k211_63
    rw [if_pos (by decide)]
    have hfr : cFr 996920996838686904677855295210258432 0 0 0 s5 (nf (nf s5 7 7 p.2.1) 7 6 (c63 s3)) := (cFr.refl.sf rfl).sf rfl
    have et : kr k5 2 (z + 1) = p.2.1 := p5.1.1.tx p1 (by have := h3.le; rw [hza, xn_succ (by omega)])
    have e63 : c63 s3 = z := by rw [hza]; exact h3.1.1.2.2.1.1
    have h6 := (p5.dwn (by omega)).val (x := 5) (y := kr k5 2 (z + 1)) (z := z) (Nat.le_refl _) (by omega)
    generalize (k190 (kf k5 15 (k5.1 15 - 1)) 5 (kr k5 2 (z + 1)) z).1 = k6 at h6
    obtain ⟨h7, g7⟩ := (h6.1.cl hfr).psh (g := 28) (p := 0) (q := 0) (c := 0) (Nat.le_refl _) (by have := hr.1; omega)
    have e16 : (k179 k6 28 0 0 0).1.2 16 v = 5 := by
      rw [(fr_k179 k6 28 0 0 0).2 16 rfl]
      exact h6.2.1
    have e17 : (k179 k6 28 0 0 0).1.2 17 v = p.2.1 := by
      rw [(fr_k179 k6 28 0 0 0).2 17 rfl, ← et]
      exact h6.2.2.1
    have e18 : (k179 k6 28 0 0 0).1.2 18 v = c63 s3 := by
      rw [(fr_k179 k6 28 0 0 0).2 18 rfl, e63]
      exact h6.2.2.2
    exact pre_nxt hL (h7.lof (by rw [e16]; decide)) hX g7 ⟨Or.inr (Or.inl ⟨rfl, e16, by rw [e18]; exact nf_at, by rw [e17, nf_o (by decide)]; exact nf_at⟩), LO.tr (by rw [e16]; decide) (by rw [e16]; decide)⟩ hr hy0 hy (by omega)
  · have ec : (c110 s3).2 = none := by
      unfold c110
      rw [cbd_some (w := q.2.1) (by rw [q3]), q3]
      show (c110_15 s4 _ _).2 = _
      unfold c110_15
      rw [cbd_none p1]
      exact p1
    rw [rbd_thn ec]
    refine QC.thn ?_
    unfold k211_35
    rw [if_neg (fun z => z p2)]
    exact p3
theorem pre_rnd (hL : E60L rc L) (h70 : E70 rc L) (h111 : E111 rc L) (hn : E111n rc) (h : SGp (some (v, false)) ([], []) L P k t v w a s k X (t + 1) (v + 1) w) (hX : X ≠ []) (g : GT t 28 0 0 0 k) (hf : FP X v s k y1) (hr : RO L a t v) (hy0 : 0 ≤ y2.toInt) (hy : y2.toInt ≤ a) : QC (fun s' k' x => ∃ a', a ≤ a' ∧ SGp (some (v, false)) ([], []) L P k t v w a' s' k' X t (v + 1) w ∧ FP X v s' k' x) k (c60_7 rc s y1 y2) := by
  have hle := h.le
  have hv : v + 8 ≤ 1000000 := by have := hr.2; omega
  refine QC.pop g (by have := hr.1; omega) ?_
  rw [k180_g28]
  have h1 := h.top (t' := t)
  have f10 : kFr 1024 0 k (kf k 10 (xn t)) := kFr.sf kFr.refl rfl
  have hf1 : FP X v s (kf k 10 (xn t)) y1 := ⟨hf.1.fr (cFr.refl (F := 0) (T := 0) (B := 0) (G := 0)) f10, hf.2.fr (cFr.refl (F := 0) (T := 0) (B := 0) (G := 0)) f10⟩
  generalize kf k 10 (xn t) = k1 at h1 hf1
  have e1 := h1.is (K := 3) (by decide) (by decide)
  have e2 := h1.is (K := 60) (by decide) (by decide)
  have e3 := h1.is (K := 62) (by decide) (by decide)
  have e4 := h1.is (K := 64) (by decide) (by decide)
  have e5 := h1.is (K := 68) (by decide) (by decide)
  have e6 := h1.is (K := 70) (by decide) (by decide)
  have h3 := ((h1.stl (δ := ([], [])) hf1.1).lod (Nat.le_refl _) (by omega)).1
  have ew := h1.w63
  have ez : k1.1 4 = xn a := h1.1.1.2.2.1.2.1
  have e53 : c53 (c100 s y1).1 = c53 s := (h1.1.1.same h3.1.1).1
  have hcall : a < L.length → QC (fun s' k' x => ∃ a', a ≤ a' ∧ SGp (some (v, false)) ([], []) L P k t v w a' s' k' X t (v + 1) w ∧ FP X v s' k' x) (k211_231 k1).1 (c60_183 rc (c100 s y1).1 y2) := fun ha => pre_call hL h111 h3 hX ha (Nat.le_refl _) hr hy0 hy
  unfold c60_7
  rw [if_neg (by rw [i_lt]; have : (16384 : Int32).toInt = 16384 := rfl; omega)]
  by_cases c3 : c53 s = 3
  · rw [if_pos c3]
    unfold k211
    rw [e1.mp c3, if_pos (by decide), if_pos (by decide), if_pos (by decide), if_neg (by decide), if_pos rfl]
    exact hcall (h1.lt c3 (by decide))
  by_cases c60 : c53 s = 60
  · rw [if_neg c3, if_pos c60]
    unfold k211
    rw [e2.mp c60, if_pos (by decide), if_pos (by decide), if_pos (by decide), if_pos rfl]
    exact hcall (h1.lt c60 (by decide))
  by_cases c62 : c53 s = 62
  · rw [if_neg c3, if_neg c60, if_pos c62]
    unfold k211
    rw [e3.mp c62, if_pos (by decide), if_pos (by decide), if_pos (by decide), if_neg (by decide), if_neg (by decide), if_neg (fun z => z rfl)]
    exact hcall (h1.lt c62 (by decide))
  rw [if_neg c3, if_neg c60, if_neg c62]
  by_cases c64' : c53 s = 64
  · rw [if_pos c64']
    unfold k211
    rw [e4.mp c64', if_pos (by decide), if_neg (fun z => z rfl)]
    exact pre_idx hL h70 h3 hX (e53.trans c64') ew hr hy0 hy
  rw [if_neg c64']
  by_cases c68 : c53 s = 68
  · rw [if_pos c68]
    unfold k211
    rw [e5.mp c68, if_pos (by decide), if_pos (by decide), if_neg (fun z => z rfl)]
    exact pre_col hL h111 hn h3 hX (e53.trans c68) ew ez hr hy0 hy
  rw [if_neg c68]
  by_cases c70 : c53 s = 70
  · rw [if_pos c70]
    unfold k211
    rw [e6.mp c70, if_neg (fun z => z rfl)]
    exact pre_dot hL h3 hX (e53.trans c70) ez hr hy0 hy
  rw [if_neg c70]
  unfold k211
  rw [if_pos (fun z => c70 (e6.mpr z)), if_pos (fun z => c64' (e4.mpr z)), if_pos (fun z => c68 (e5.mpr z)), if_neg (fun z => c60 (e2.mpr z)), if_neg (fun z => c3 (e1.mpr z)), if_pos (fun z => c62 (e3.mpr z))]
  exact QC.ret ⟨a, Nat.le_refl _, h1, hf1⟩
end PRF
