/-! THE WALK OVER BOTH: tables -/
section TBL
variable {L : List xR} {P : PT} {k0 k k' : kS} {T V W a t v w : Nat} {s s' : cS} {X : List xF} {i x y y1 y2 y3 : Int32} {rc : cRC}
theorem kf_kf {k : kS} {j : Nat} {x y : Int32} : kf (kf k j x) j y = kf k j y := by
  have e : upd (upd k.1 j x) j y = upd k.1 j y := by
    funext i
    unfold upd
    by_cases c : i = j
    · rw [if_pos c, if_pos c]
    · rw [if_neg c, if_neg c, if_neg c]
  show (upd (upd k.1 j x) j y, k.2) = (upd k.1 j y, k.2)
  rw [e]
theorem i2_add {x : Int32} : x + 1 + 1 = x + 2 := by
  rw [Int32.add_assoc]
  rfl
/-- a field of a table: the reference is about to see what follows it -/
def E92 (rc : cRC) (L : List xR) : Prop := ∀ {P : PT} (a : Nat) (s : cS) (k : kS) (X : List xF) (t v w : Nat) (i : Int32), SG L P k t (v + 1) w a s k X t (v + 1) w → X ≠ [] → c53 s ≠ 63 → RO L a (t + 4) (v + 4) → QC (fun s' k' x => ∃ a' k2, a < a' ∧ SG L P k t (v + 1) w a' s' k2 X t (v + 1) w ∧ k' = (k220 k2 x).1) (k219 k i).1 (rc 92 s 0 i 0 0 0 0 0)
/-- is it the last field -/
theorem tb_last {z : Int32} (h : WR L a s k) : (k221 k i z).1 = (k221_47 k i z (if c94 s = 0 then 0 else 1)).1 := by
  have hl : a ≤ 16384 := Nat.le_trans h.2.2.1.2.2 h.1.2.1
  have e4 : k.1 4 = xn a := h.2.2.1.2.1
  have e63 : c63 s = xn a := h.2.2.1.1
  have k0 := h.kdc (i := a) (by omega)
  have k1 := h.kdc (i := a + 1) (by omega)
  have es : xn a + 1 = xn (a + 1) := xn_succ (by omega)
  have e183 : k183 k = k184 k (xn a) := by rw [← e4]; rfl
  have i0 : ∀ K : Int32, K ≠ 0 → K ≠ -1 → (k183 k = K ↔ c93 s (c63 s) = K) := fun K q1 q2 => by rw [e183, e63, k0.1]; exact k0.2.1 K q1 q2
  have i1 : ∀ K : Int32, K ≠ 0 → K ≠ -1 → (k184 k (k.1 4 + 1) = K ↔ c93 s (c63 s + 1) = K) := fun K q1 q2 => by rw [e4, e63, es, k1.1]; exact k1.2.1 K q1 q2
  have j63 := i0 63 (by decide) (by decide)
  have j69 := i0 69 (by decide) (by decide)
  have j67 := i0 67 (by decide) (by decide)
  have l63 := i1 63 (by decide) (by decide)
  have z1 : (1 : Int32) ≠ 0 := by decide
  unfold k221 c94
  by_cases c63' : c93 s (c63 s) = 63
  · rw [if_pos (j63.mpr c63')]
    have e : c95 s (c93 s (c63 s)) = 0 := by rw [c63']; unfold c95; decide
    rw [e, if_pos rfl]
    unfold c94_25
    rw [if_neg (show ¬ c93 s (c63 s) ≠ 63 from fun z => z c63'), if_neg (show ¬ (1 : Int32) = 0 by decide)]
    rfl
  rw [if_neg (fun z => c63' (j63.mp z))]
  have two : (k221_27 k i z).1 = (k221_47 k i z (if c94_25 s (c63 s + 1) = 0 then 0 else 1)).1 := by
    unfold k221_27 c94_25
    by_cases c : c93 s (c63 s + 1) = 63
    · rw [if_neg (show ¬ k184 k (k.1 4 + 1) ≠ 63 from fun z => z (l63.mpr c)), if_neg (show ¬ c93 s (c63 s + 1) ≠ 63 from fun z => z c), if_neg (show ¬ (1 : Int32) = 0 by decide)]
      rfl
    · rw [if_pos (fun z => c (l63.mp z)), if_pos c, if_pos rfl]
      rfl
  by_cases c69 : c93 s (c63 s) = 69
  · rw [if_pos (j69.mpr c69)]
    have e : c95 s (c93 s (c63 s)) = 1 := by rw [c69]; unfold c95; decide
    rw [e, if_neg z1]
    exact two
  rw [if_neg (fun z => c69 (j69.mp z))]
  by_cases c67 : c93 s (c63 s) = 67
  · rw [if_neg (fun z => z (j67.mpr c67))]
    have e : c95 s (c93 s (c63 s)) = 1 := by rw [c67]; unfold c95; decide
    rw [e, if_neg z1]
    exact two
  · rw [if_pos (fun z => c67 (j67.mp z))]
    have e : c95 s (c93 s (c63 s)) = 0 := by unfold c95; rw [if_neg c69, if_pos c67]
    rw [e, if_pos rfl]
    unfold c94_25
    rw [if_pos c63', if_pos rfl]
    rfl
theorem tb_130 {k7 : kS} {s6 : cS} {a6 : Nat} {z : Int32} (u1 : a < a6) (h7 : SGp (some (v + 1, true)) ([], []) L P k t (v + 1) w a6 s6 k7 X t (v + 1 + 1) w) (hlr : LR s6 k7 (v + 1)) (hv : v + 8 ≤ 1000000) : QC (fun s' k' x => ∃ a' k2, a < a' ∧ SG L P k t (v + 1) w a' s' k2 X t (v + 1) w ∧ k' = (k220 k2 x).1) (k221 k7 (i + 1) z).1 (c92_130 rc s6 i z) := by
  have hi := k216_iff (k := k7) (v := v + 1) h7.2.1.2.1 (by omega)
  rw [← hlr.1] at hi
  rw [tb_last h7.1.1]
  have p76 : QC (fun s' k' x => ∃ a' k2, a < a' ∧ SG L P k t (v + 1) w a' s' k2 X t (v + 1) w ∧ k' = (k220 k2 x).1) (k221_76 k7 (i + 1) z).1 (c92_163 rc s6 i z) := by
    have q := ((h7.awy (by omega) (by omega)).put (x := 23) (y := i + 1) (z := 0) (u := z)).cle (x := 23) (y := i + 1) (z := 0) (u := z)
    unfold c92_163 c92_174 k221_76 k221_80 k221_89
    exact QC.ret ⟨a6, _, u1, q.de0 rfl, rfl⟩
  unfold c92_130 k221_47
  by_cases c1 : s6.f 7 5 = 0
  · have c0 : k216 k7 = 0 := Decidable.byContradiction (fun n => hi.mp n c1)
    rw [if_pos c1, if_pos c0]
    split
    · exact p76
    · exact p76
  rw [if_neg c1]
  by_cases c2 : c94 s6 = 0
  · rw [if_pos c2, if_pos c2, if_pos rfl]
    exact p76
  · rw [if_neg c2, if_neg c2, if_neg (show ¬ (1 : Int32) = 0 by decide), if_neg (hi.mpr c1)]
    have q := ((h7.opa (by omega) (hi.mpr c1) hlr.2).put (x := 24) (y := i + 1) (z := 0) (u := z)).cle (x := 24) (y := i + 1) (z := 0) (u := z)
    unfold c92_148 c92_159 k221_63 k221_72
    exact QC.ret ⟨a6, _, u1, q.de0 rfl, rfl⟩
theorem tb_pln (h70 : E70 rc L) (h : SG L P k t (v + 1) w a s k X t (v + 1) w) (hX : X ≠ []) (hr : RO L a (t + 4) (v + 4)) : QC (fun s' k' x => ∃ a' k2, a < a' ∧ SG L P k t (v + 1) w a' s' k2 X t (v + 1) w ∧ k' = (k220 k2 x).1) (k219_106 k i (k.1 4)).1 (c92_126 rc s i (k.1 4)) := by
  have hle := h.le
  have hv : v + 8 ≤ 1000000 := by have := hr.2; omega
  have ht : t + 8 ≤ 1000000 := by have := hr.1; omega
  unfold c92_126 k219_106 k219_117
  refine (ex_call h70 (h.own (t1 := t) (v1 := v + 1) (w1 := w)) hX (Nat.le_refl _) (by omega) (Nat.le_refl _) ⟨by have := hr.1; omega, by have := hr.2; omega⟩).bnd ?_
  rintro s6 k6 x6 ⟨a6, u1, u2, uL, u3⟩
  refine QC.pop u3 (by omega) ?_
  rw [k180_g39]
  have f10 : kFr 1024 0 k6 (kf k6 10 (xn t)) := kFr.sf kFr.refl rfl
  exact tb_130 u1 (u2.top (t' := t)) ⟨uL.1, uL.2.fr (cFr.refl (F := 0) (T := 0) (B := 0) (G := 0)) f10⟩ (by omega)
theorem tb_idx (h70 : E70 rc L) (h : SG L P k t (v + 1) w a s k X t (v + 1) w) (hX : X ≠ []) (c64' : c53 s = 64) (hr : RO L a (t + 4) (v + 4)) : QC (fun s' k' x => ∃ a' k2, a < a' ∧ SG L P k t (v + 1) w a' s' k2 X t (v + 1) w ∧ k' = (k220 k2 x).1) (k219_38 (k193 k 64).1 i (k.1 4) (k193 k 64).2).1 (rbd (some (c55 s)) (fun _ w25 => c92_27 rc ((c55 s).1) i (k.1 4) w25)) := by
  have hle := h.le
  have hv : v + 8 ≤ 1000000 := by have := hr.2; omega
  have ht : t + 8 ≤ 1000000 := by have := hr.1; omega
  rcases h.ske c64' en64 with ⟨q, s4, k4, q1, q2, q3, q4, q5, q6, q7⟩ | ⟨q1, q2, q3⟩
  · have hlt := lt_of q1
    rw [q3, rbd_th (w := q.2.1) rfl, q4]
    show QC (fun s' k' x => ∃ a' k2, a < a' ∧ SG L P k t (v + 1) w a' s' k2 X t (v + 1) w ∧ k' = (k220 k2 x).1) (k219_38 k4 i (k.1 4) 1).1 (c92_27 rc s4 i (k.1 4) q.2.1)
    unfold k219_38 c92_27
    rw [if_pos (by decide)]
    unfold k219_51
    refine (ex_call h70 q5 hX (Nat.le_refl _) (by omega) (Nat.le_refl _) ⟨by have := hr.1; omega, by have := hr.2; omega⟩).bnd ?_
    rintro s6 k6 x6 ⟨a6, u1, u2, -, u3⟩
    refine QC.pop u3 (by omega) ?_
    rw [k180_g36]
    have h7 := (u2.top (t' := t)).awy (by omega) (by omega)
    generalize (k209 (kf k6 10 (xn t))).1 = k7 at h7
    unfold k181_273 c92_32
    rcases h7.tkl lv65 with ⟨p, s8, k8, p1, p2, p3, p4, p5, p6, p7⟩ | ⟨p1, p2, p3⟩
    · have hlt8 := lt_of p1
      rw [p3, rbd_th (w := p.2.1) rfl, p4]
      show QC (fun s' k' x => ∃ a' k2, a < a' ∧ SG L P k t (v + 1) w a' s' k2 X t (v + 1) w ∧ k' = (k220 k2 x).1) (k181_279 k8 i (k.1 4) 1).1 (c92_41 rc s8 i (k.1 4) p.2.1)
      unfold k181_279 c92_41
      rw [if_neg (by decide)]
      rcases p5.tkp pl59 with ⟨p', s9, o1, o2, o3, o4, o5, o6⟩ | ⟨o1, o2, o3⟩
      · rw [o3, rbd_th (w := p'.2.1) rfl, o4]
        show QC (fun s' k' x => ∃ a' k2, a < a' ∧ SG L P k t (v + 1) w a' s' k2 X t (v + 1) w ∧ k' = (k220 k2 x).1) (k181_288 (kf k8 4 (k8.1 4 + 1)) i (k.1 4) 1).1 (c92_51 rc s9 i (k.1 4) p'.2.1)
        unfold k181_288 c92_51
        rw [if_pos (by decide)]
        unfold k181_303
        refine (ex_call h70 o5 hX (Nat.le_refl _) (by omega) (Nat.le_refl _) ⟨by have := hr.1; omega, by have := hr.2; omega⟩).bnd ?_
        rintro sa ka xa ⟨aa, w1, w2, -, w3⟩
        refine QC.pop w3 (by omega) ?_
        rw [k180_g37]
        have hb := ((w2.top (t' := t)).awy (by omega) (by omega)).put (x := 21) (y := 0) (z := 0) (u := k.1 4)
        unfold k181_315 k181_324
        exact QC.ret ⟨aa, _, by omega, (hb.cle).de0 rfl, rfl⟩
      · rw [rbd_thn o1]
        refine QC.thn ?_
        unfold k181_288
        rw [if_neg (fun z => z o2)]
        exact o3
    · rw [rbd_thn p1]
      refine QC.thn ?_
      unfold k181_279
      rw [if_pos p2]
      exact p3
  · rw [rbd_thn q1]
    refine QC.thn ?_
    unfold k219_38
    rw [if_neg (fun z => z q2)]
    exact q3
theorem tb_nam (h70 : E70 rc L) (h : SG L P k t (v + 1) w a s k X t (v + 1) w) (hX : X ≠ []) (c1 : c53 s = 1) (kd : kc L (a + 1) = 59) (hr : RO L a (t + 4) (v + 4)) : QC (fun s' k' x => ∃ a' k2, a < a' ∧ SG L P k t (v + 1) w a' s' k2 X t (v + 1) w ∧ k' = (k220 k2 x).1) (k219_98 ((k179 (kf k 4 ((k.1 4) + 2)) 38 i (k.1 4) 0).1)).1 (rbd (some (c55 s)) (fun _ w19 => c92_101 rc ((c55 s).1) i (k.1 4) w19)) := by
  have hle := h.le
  have hv : v + 8 ≤ 1000000 := by have := hr.2; omega
  have ht : t + 8 ≤ 1000000 := by have := hr.1; omega
  obtain ⟨q, s4, q1, q2, q3, q4, q5⟩ := h.skp c1 pl1
  have hlt := lt_of q1
  rw [q3, rbd_th (w := q.2.1) rfl]
  have c59' : c53 s4 = 59 := by
    rcases q4.1.1.kd with ⟨p, p1, p2, -⟩ | ⟨p1, -⟩
    · unfold kc at kd
      rw [p1] at kd
      exact p2.trans kd
    · unfold kc at kd
      rw [List.getElem?_eq_none (by omega)] at kd
      exact absurd kd (by decide)
  unfold c92_101
  obtain ⟨p, s5, p1, p2, p3, p4, p5⟩ := q4.skp c59' pl59
  rw [p3, rbd_th (w := p.2.1) rfl]
  have ek : kf (kf k 4 (k.1 4 + 1)) 4 ((kf k 4 (k.1 4 + 1)).1 4 + 1) = kf k 4 (k.1 4 + 2) := by
    rw [kf_kf]
    show kf k 4 (k.1 4 + 1 + 1) = _
    rw [i2_add]
  rw [ek] at p4
  unfold c92_109 k219_98
  refine (ex_call h70 p4 hX (Nat.le_refl _) (by omega) (Nat.le_refl _) ⟨by have := hr.1; omega, by have := hr.2; omega⟩).bnd ?_
  rintro sa ka xa ⟨aa, w1, w2, -, w3⟩
  refine QC.pop w3 (by omega) ?_
  rw [k180_g38]
  have hb := ((w2.top (t' := t)).awy (by omega) (by omega))
  have et : kr (k209 (kf ka 10 (xn t))).1 2 (k.1 4) = q.2.1 := hb.1.1.tx q1 h.1.1.2.2.1.2.1
  have hb := hb.put (x := 22) (y := kr (k209 (kf ka 10 (xn t))).1 2 (k.1 4)) (z := 0) (u := k.1 4)
  unfold k181_337 k181_351
  refine QC.ret ⟨aa, _, by omega, (hb.cle (x := 22) (y := q.2.1) (z := 0) (u := k.1 4)).de0 ?_, rfl⟩
  rw [et]
theorem tb_fld (h70 : E70 rc L) (h : SG L P k t (v + 1) w a s k X t (v + 1) w) (hX : X ≠ []) (hn : c53 s ≠ 63) (hr : RO L a (t + 4) (v + 4)) : QC (fun s' k' x => ∃ a' k2, a < a' ∧ SG L P k t (v + 1) w a' s' k2 X t (v + 1) w ∧ k' = (k220 k2 x).1) (k219 k i).1 (c92 rc s i) := by
  have hle := h.le
  unfold k219 c92
  have ew := h.w63
  rw [if_pos (fun z => hn ((h.is (by decide) (by decide)).mpr z))]
  by_cases c64' : c53 s = 64
  · rw [if_neg (fun z => z ((h.is (by decide) (by decide)).mp c64')), if_neg (fun z => z c64')]
    rw [ew]
    exact tb_idx h70 h hX c64' hr
  rw [if_pos (fun z => c64' ((h.is (by decide) (by decide)).mpr z)), if_pos c64']
  by_cases c1 : c53 s = 1
  · rw [if_neg (fun z => z ((h.is (by decide) (by decide)).mp c1))]
    have e4 : k.1 4 = xn a := h.1.1.2.2.1.2.1
    have e63 : c63 s = xn a := h.1.1.2.2.1.1
    have kd := h.1.1.kdc (i := a + 1) (by omega)
    have es : xn a + 1 = xn (a + 1) := xn_succ (by omega)
    have eq : c93 s (c63 s + 1) = 59 ↔ k184 k (k.1 4 + 1) = 59 := by
      rw [e63, e4, es, kd.1, kd.2.1 59 (by decide) (by decide)]
    by_cases c59 : c93 s (c63 s + 1) = 59
    · rw [if_neg (fun z => z (eq.mp c59)), if_neg (fun z => z c1), if_neg (fun z => z c59)]
      rw [ew]
      refine tb_nam h70 h hX c1 ?_ hr
      rw [e63, es, kd.1] at c59
      exact c59
    · rw [if_pos (fun z => c59 (eq.mpr z)), if_neg (fun z => z c1), if_pos c59, ew]
      exact tb_pln h70 h hX hr
  · rw [if_pos (fun z => c1 ((h.is (by decide) (by decide)).mpr z)), if_pos c1, ew]
    exact tb_pln h70 h hX hr
/-- the loop of a table -/
def E91L (rc : cRC) (L : List xR) : Prop := ∀ {P : PT} (a : Nat) (s : cS) (k : kS) (X : List xF) (t v w : Nat) (i y3 : Int32), SG L P k t v w a s k X (t + 1) (v + 1) w → k.2 16 v = 0 → X ≠ [] → GT t 35 i 0 0 k → RO L a (t + 4) (v + 4) → 0 ≤ y3.toInt → y3.toInt ≤ a → QC (fun s' k' _ => ∃ a', a < a' ∧ SGp (some (v, true)) ([], []) L P k t v w a' s' k' X t (v + 1) w ∧ k'.2 16 v = 0) k (rc 91032 s 0 i 1 y3 0 0 0)
def E91z (rc : cRC) : Prop := ∀ (s : cS) (y1 y3 : Int32) (s' : cS) (o : Option Int32), rc 91032 s 0 y1 0 y3 0 0 0 = some (s', o) → rbd (some (c64 s 63)) (fun _ _ => some ((c64 s 63).1, some 0)) = some (s', o)
theorem tb_cls (h : SG L P k0 T V W a s k X t (v + 1) w) (h0 : k.2 16 v = 0) : QC (fun s' k' _ => ∃ a', a < a' ∧ SGp (some (v, true)) ([], []) L P k0 T V W a' s' k' X t (v + 1) w ∧ k'.2 16 v = 0) (k199 k 63).1 (rbd (some (c64 s 63)) (fun _ _ => some ((c64 s 63).1, some 0))) := by
  rcases h.tkl lv63 with ⟨p, s8, k8, p1, p2, p3, p4, p5, p6, p7⟩ | ⟨p1, p2, p3⟩
  · rw [p3, rbd_th (w := p.2.1) rfl, p4]
    have e0 : k8.2 16 v = 0 := by
      rw [p7.2 16 (Nat.zero_testBit _)]
      exact h0
    exact QC.ret ⟨a + 1, by omega, p5.los (Or.inl e0), e0⟩
  · rw [rbd_thn p1]
    exact QC.thn p3
theorem tb_rnd (hL : E91L rc L) (hz : E91z rc) (h92 : E92 rc L) (h : SG L P k t v w a s k X (t + 1) (v + 1) w) (hk3 : k.2 16 v = 0) (hX : X ≠ []) (g : GT t 35 i 0 0 k) (hr : RO L a (t + 4) (v + 4)) (hy0 : 0 ≤ y3.toInt) (hy : y3.toInt ≤ a) : QC (fun s' k' _ => ∃ a', a < a' ∧ SGp (some (v, true)) ([], []) L P k t v w a' s' k' X t (v + 1) w ∧ k'.2 16 v = 0) k (c91_32 rc s i 1 y3) := by
  have hle := h.le
  have ht : t + 8 ≤ 1000000 := by have := hr.1; omega
  refine QC.pop g (by omega) ?_
  rw [k180_g35]
  have h1 := h.top (t' := t)
  have hk1 : (kf k 10 (xn t)).2 16 v = 0 := hk3
  generalize kf k 10 (xn t) = k1 at h1 hk1
  unfold c91_32
  rw [if_neg (by decide)]
  by_cases c63' : c53 s = 63
  · rw [if_pos c63']
    unfold k219
    rw [if_neg (fun z => z ((h1.is (by decide) (by decide)).mp c63'))]
    exact tb_cls h1 hk1
  · rw [if_neg c63', if_neg (by rw [i_lt]; have : (16384 : Int32).toInt = 16384 := rfl; omega)]
    refine (h92 a s k1 X t v w i h1.own hX c63' hr).bnd ?_
    rintro s2 _ x2 ⟨a2, k2, u1, u2, rfl⟩
    have h2 := h1.reb u2 (Nat.le_refl _) (Nat.le_succ _) (Nat.le_refl _)
    have hk2 : k2.2 16 v = 0 := by rw [u2.2.2.1.2.1 16 v (by decide) (Nat.lt_succ_self _)]; exact hk1
    have hle2 := h2.le
    have y31 : (y3 + 1).toInt = y3.toInt + 1 := i_add rfl (show (1 : Int32).toInt = 1 from rfl) (by omega) (by omega)
    show QC _ _ (c91_60 rc s2 y3 x2)
    have nxt : ∀ K : Int32, c53 s2 = K → PLN K → QC (fun s' k' _ => ∃ a', a < a' ∧ SGp (some (v, true)) ([], []) L P k t v w a' s' k' X t (v + 1) w ∧ k'.2 16 v = 0) (k220_18 k2 x2).1 (rbd (some (c55 s2)) (fun _ w11 => c91_83 rc ((c55 s2).1) x2 1 y3 w11)) := fun K hK hp => by
      obtain ⟨q, s4, q1, q2, q3, q4, q5⟩ := h2.skp hK hp
      rw [q3, rbd_th (w := q.2.1) rfl]
      obtain ⟨h5, g5⟩ := q4.psh (g := 35) (p := x2) (q := 0) (c := 0) (Nat.le_refl _) (by omega)
      unfold k220_18 c91_83 c91_84
      refine (hL (a2 + 1) s4 _ X t v w x2 (y3 + 1) h5.own (show (k179 (kf k2 4 (k2.1 4 + 1)) 35 x2 0 0).1.2 16 v = 0 from hk2) hX g5 (hr.up (by omega)) (by omega) (by omega)).mono ?_
      rintro s5 k5 x5 ⟨a5, w1, w2, w3⟩
      exact ⟨a5, by omega, h5.reb w2 (Nat.le_refl _) (Nat.le_refl _) (Nat.le_refl _), w3⟩
    unfold c91_60 k220
    by_cases c69 : c53 s2 = 69
    · have e : c95 s2 (c53 s2) = 1 := by rw [c69]; unfold c95; decide
      rw [e, if_pos ((h2.is (by decide) (by decide)).mp c69), if_neg (by decide)]
      exact nxt 69 c69 pl69
    rw [if_neg (fun z => c69 ((h2.is (by decide) (by decide)).mpr z))]
    by_cases c67 : c53 s2 = 67
    · have e : c95 s2 (c53 s2) = 1 := by rw [c67]; unfold c95; decide
      rw [e, if_neg (fun z => z ((h2.is (by decide) (by decide)).mp c67)), if_neg (by decide)]
      exact nxt 67 c67 pl67
    have e : c95 s2 (c53 s2) = 0 := by
      unfold c95
      rw [if_neg c69, if_pos c67]
    rw [e, if_pos (fun z => c67 ((h2.is (by decide) (by decide)).mpr z)), if_pos rfl]
    intro s5 o5 e5
    have z := tb_cls h2 hk2 s5 o5 (hz s2 x2 (y3 + 1) s5 o5 e5)
    exact ⟨fun x zx => (z.1 x zx).imp (fun j ⟨a', b1, b2⟩ => ⟨a', by omega, b2⟩), z.2⟩
theorem tb_all (hp : ∀ (a : Nat) (s : cS) (k : kS) (X : List xF) (t v w : Nat), SG L P k t v w a s k X (t + 1) (v + 1) w → k.2 16 v = 0 → X ≠ [] → GT t 35 0 0 0 k → RO L a (t + 4) (v + 4) → QC (fun s' k' _ => ∃ a', a < a' ∧ SGp (some (v, true)) ([], []) L P k t v w a' s' k' X t (v + 1) w ∧ k'.2 16 v = 0) k (c91_32 rc s 0 1 0)) (h : SG L P k t v w a s k X t v w) (hX : X ≠ []) (hr : RO L (a + 1) (t + 4) (v + 4)) : QC (fun s' k' _ => ∃ a', a < a' ∧ SGp (some (v, true)) ([], []) L P k t v w a' s' k' X t (v + 1) w ∧ k'.2 16 v = 0) (k192 k).1 (c91 rc s) := by
  unfold c91 c91_15 k192
  have h1 := h.cle (x := 20) (y := 0) (z := 0) (u := c63 s)
  have ew := h.w63
  generalize (c78 s 20 0 0 (c63 s)).1 = s1 at h1
  rcases h1.tke en62 with ⟨q, s2, k2, q1, q2, q3, q4, q5, q6, q7⟩ | ⟨q1, q2, q3⟩
  · rw [q3, rbd_th (w := q.2.1) rfl, q4]
    have h3 := ((q5.put (x := 20) (y := 0) (z := 0) (u := k.1 4)).de0 (by rw [ew])).val (x := 0) (y := 0) (z := 0) (Nat.le_refl _) (by have := hr.2; omega)
    obtain ⟨h4, g4⟩ := h3.1.psh (g := 35) (p := 0) (q := 0) (c := 0) (Nat.le_refl _) (by have := hr.1; omega)
    show QC (fun s' k' _ => ∃ a', a < a' ∧ SGp (some (v, true)) ([], []) L P k t v w a' s' k' X t (v + 1) w ∧ k'.2 16 v = 0) (k192_11 k2 (k.1 4) 1).1 (c91_32 rc s2 0 1 0)
    unfold k192_11
    rw [if_pos (by decide)]
    unfold k192_24 k192_32
    have h316 := h3.2.1
    refine (hp (a + 1) s2 _ X t v w h4.own (by rw [(fr_k179 _ 35 0 0 0).2 16 rfl]; exact h316) hX g4 hr).mono ?_
    rintro s5 k5 x5 ⟨a5, w1, w2, w3⟩
    exact ⟨a5, by omega, h4.reb w2 (Nat.le_refl _) (Nat.le_refl _) (Nat.le_refl _), w3⟩
  · rw [rbd_thn q1]
    refine QC.thn ?_
    show (k192_11 (k193 k 62).1 (k.1 4) (k193 k 62).2).1.1 6 ≠ 0
    unfold k192_11
    rw [if_neg (fun z => z q2)]
    exact q3
end TBL
