/-! THE WALK OVER BOTH: tables -/
section TBL
variable {L : List xR} {k0 k k' : kS} {T V W a t v w : Nat} {s s' : cS} {X : List xF} {i x y y1 y2 y3 : Int32} {rc : cRC}
theorem kf_kf {k : kS} {j : Nat} {x y : Int32} : kf (kf k j x) j y = kf k j y := by
  have e : upd (upd k.1 j x) j y = upd k.1 j y := by
    funext i
    unfold upd
    by_cases c : i = j
    · rw [if_pos c, if_pos c]
    · rw [if_neg c, if_neg c, if_neg c]
  show (upd (upd k.1 j x) j y, k.2) = (upd k.1 j y, k.2)
  rw [e]
theorem i2_add {x : Int32} : x + 1 + 1 = x + 2 := by
  rw [Int32.add_assoc]
  rfl
/-- a field of a table: the reference is about to see what follows it -/
def E92 (rc : cRC) (L : List xR) : Prop := ∀ (a : Nat) (s : cS) (k : kS) (X : List xF) (t v w : Nat) (i y : Int32), SG L k t v w a s k X t (v + 1) w → X ≠ [] → c53 s ≠ 63 → RO L a (t + 4) (v + 4) → QC (fun s' k' _ => ∃ a' k2 i', a < a' ∧ SG L k t v w a' s' k2 X t (v + 1) w ∧ k' = (k220 k2 i').1) (k219 k i).1 (rc 92 s 0 y 0 0 0 0 0)
theorem tb_fld (h70 : E70 rc L) (h : SG L k t v w a s k X t (v + 1) w) (hX : X ≠ []) (hn : c53 s ≠ 63) (hr : RO L a (t + 4) (v + 4)) : QC (fun s' k' _ => ∃ a' k2 i', a < a' ∧ SG L k t v w a' s' k2 X t (v + 1) w ∧ k' = (k220 k2 i').1) (k219 k i).1 (c92 rc s y) := by
  have hle := h.le
  have hv : v + 8 ≤ 1000000 := by have := hr.2; omega
  have ht : t + 8 ≤ 1000000 := by have := hr.1; omega
  unfold k219 c92
  rw [if_pos (fun z => hn ((h.is (by decide) (by decide)).mpr z))]
  have plain : QC (fun s' k' _ => ∃ a' k2 i', a < a' ∧ SG L k t v w a' s' k2 X t (v + 1) w ∧ k' = (k220 k2 i').1) (k219_106 k i (k.1 4)).1 (c92_126 rc s y (c63 s)) := by
    unfold c92_126
    show QC _ (k186 (k179 k 39 (i + 1) (k.1 4) 0).1 0).1 _
    refine (ex_call h70 (h.own (t1 := t) (v1 := v) (w1 := w)) hX (Nat.le_refl _) (by omega) (Nat.le_refl _) ⟨by have := hr.1; omega, by have := hr.2; omega⟩).bnd ?_
    rintro s6 k6 x6 ⟨a6, u1, u2, u3⟩
    refine QC.pop u3 (by omega) ?_
    rw [k180_g39]
    have h7 := u2.top (t' := t)
    generalize kf k6 10 (xn t) = k7 at h7
    show QC _ _ (c92_130 rc s6 y (c63 s))
    have cls : ∀ k8 : kS, (∃ k9 i', SG L k t v w a6 s6 k9 X t (v + 1) w ∧ k8 = (k220 k9 i').1) → QC (fun s' k' _ => ∃ a' k2 i', a < a' ∧ SG L k t v w a' s' k2 X t (v + 1) w ∧ k' = (k220 k2 i').1) k8 (c92_130 rc s6 y (c63 s)) := fun k8 ⟨k9, i', g1, g2⟩ => by
      unfold c92_130
      split
      · exact QC.ret ⟨a6, k9, i', u1, g1.cl (fr_c78 _ _ _ _ _), g2⟩
      · split
        · exact QC.ret ⟨a6, k9, i', u1, g1.cl (fr_c78 _ _ _ _ _), g2⟩
        · exact QC.ret ⟨a6, k9, i', u1, g1.cl ((fr_c96 _).trans (fr_c78 _ _ _ _ _)), g2⟩
    refine cls _ ?_
    have k76 : ∃ k9 i', SG L k t v w a6 s6 k9 X t (v + 1) w ∧ (k221_76 k7 (i + 1) (k.1 4)).1 = (k220 k9 i').1 := ⟨_, i + 1, (h7.awy (by omega) (by omega)).put (x := 23) (y := i + 1) (z := 0) (u := k.1 4), rfl⟩
    have k63 : ∃ k9 i', SG L k t v w a6 s6 k9 X t (v + 1) w ∧ (k221_63 (k217 k7).1 (i + 1) (k.1 4)).1 = (k220 k9 i').1 := ⟨_, i + 1, (h7.opa (by omega)).put (x := 24) (y := i + 1) (z := 0) (u := k.1 4), rfl⟩
    have k47 : ∀ z : Int32, ∃ k9 i', SG L k t v w a6 s6 k9 X t (v + 1) w ∧ (k221_47 k7 (i + 1) (k.1 4) z).1 = (k220 k9 i').1 := fun z => by
      unfold k221_47
      split
      · exact k76
      · split
        · exact k76
        · exact k63
    have k27 : ∃ k9 i', SG L k t v w a6 s6 k9 X t (v + 1) w ∧ (k221_27 k7 (i + 1) (k.1 4)).1 = (k220 k9 i').1 := by
      unfold k221_27
      split
      · exact k47 0
      · exact k47 1
    unfold k221
    split
    · exact k47 1
    · split
      · exact k27
      · split
        · exact k47 0
        · exact k27
  by_cases c64' : c53 s = 64
  · rw [if_neg (fun z => z ((h.is (by decide) (by decide)).mp c64')), if_neg (fun z => z c64')]
    rcases h.ske c64' en64 with ⟨q, s4, k4, q1, q2, q3, q4, q5, q6, q7⟩ | ⟨q1, q2, q3⟩
    · have hlt := lt_of q1
      rw [q3, rbd_th (w := q.2.1) rfl, q4]
      unfold k219_38 c92_27
      rw [if_pos (by decide)]
      show QC _ (k186 (k179 k4 36 i (k.1 4) 0).1 0).1 _
      refine (ex_call h70 q5 hX (Nat.le_refl _) (by omega) (Nat.le_refl _) ⟨by have := hr.1; omega, by have := hr.2; omega⟩).bnd ?_
      rintro s6 k6 x6 ⟨a6, u1, u2, u3⟩
      refine QC.pop u3 (by omega) ?_
      rw [k180_g36]
      have h7 := (u2.top (t' := t)).awy (by omega) (by omega)
      generalize (k209 (kf k6 10 (xn t))).1 = k7 at h7
      show QC _ (k181_279 (k199 k7 65).1 i (k.1 4) (k199 k7 65).2).1 (c92_32 rc s6 y (c63 s))
      unfold c92_32
      rcases h7.tkl lv65 with ⟨p, s8, k8, p1, p2, p3, p4, p5, p6, p7⟩ | ⟨p1, p2, p3⟩
      · have hlt8 := lt_of p1
        rw [p3, rbd_th (w := p.2.1) rfl, p4]
        unfold k181_279 c92_41
        rw [if_neg (by decide)]
        show QC _ (k181_288 (k200 k8 59).1 i (k.1 4) (k200 k8 59).2).1 _
        rcases p5.tkp pl59 with ⟨p', s9, o1, o2, o3, o4, o5, o6⟩ | ⟨o1, o2, o3⟩
        · rw [o3, rbd_th (w := p'.2.1) rfl, o4]
          unfold k181_288 c92_51
          rw [if_pos (by decide)]
          show QC _ (k186 (k179 _ 37 i (k.1 4) 0).1 0).1 _
          refine (ex_call h70 o5 hX (Nat.le_refl _) (by omega) (Nat.le_refl _) ⟨by have := hr.1; omega, by have := hr.2; omega⟩).bnd ?_
          rintro sa ka xa ⟨aa, w1, w2, w3⟩
          refine QC.pop w3 (by omega) ?_
          rw [k180_g37]
          have hb := ((w2.top (t' := t)).awy (by omega) (by omega)).put (x := 21) (y := 0) (z := 0) (u := k.1 4)
          exact QC.ret ⟨aa, _, i, by omega, hb.cl (fr_c78 _ _ _ _ _), rfl⟩
        · rw [rbd_thn o1]
          refine QC.thn ?_
          unfold k181_288
          rw [if_neg (fun z => z o2)]
          exact o3
      · rw [rbd_thn p1]
        refine QC.thn ?_
        unfold k181_279
        rw [if_pos p2]
        exact p3
    · rw [rbd_thn q1]
      refine QC.thn ?_
      unfold k219_38
      rw [if_neg (fun z => z q2)]
      exact q3
  rw [if_pos (fun z => c64' ((h.is (by decide) (by decide)).mpr z)), if_pos c64']
  by_cases c1 : c53 s = 1
  · rw [if_neg (fun z => z ((h.is (by decide) (by decide)).mp c1)), if_neg (fun z => z c1)]
    have e4 : k.1 4 = xn a := h.1.1.2.2.1.2.1
    have e2 : s.f 2 2 = xn a := h.1.1.2.2.1.1
    have e63 : c63 s = xn a := e2
    have kd := h.1.1.kdc (i := a + 1) (by omega)
    have es : xn a + 1 = xn (a + 1) := xn_succ (by omega)
    have eq : c93 s (c63 s + 1) = 59 ↔ k184 k (k.1 4 + 1) = 59 := by
      rw [e63, e4, es, kd.1, kd.2.1 59 (by decide) (by decide)]
    by_cases c59 : c93 s (c63 s + 1) = 59
    · rw [if_neg (fun z => z (eq.mp c59)), if_neg (fun z => z c59)]
      obtain ⟨q, s4, q1, q2, q3, q4, q5⟩ := h.skp c1 pl1
      have hlt := lt_of q1
      rw [q3, rbd_th (w := q.2.1) rfl]
      have c59' : c53 s4 = 59 := by
        have z : kc L (a + 1) = 59 := by
          rw [e63, es, kd.1] at c59
          exact c59
        rcases q4.1.1.kd with ⟨p, p1, p2, -⟩ | ⟨p1, -⟩
        · unfold kc at z
          rw [p1] at z
          exact p2.trans z
        · unfold kc at z
          rw [List.getElem?_eq_none (by omega)] at z
          exact absurd z (by decide)
      unfold c92_101
      obtain ⟨p, s5, p1, p2, p3, p4, p5⟩ := q4.skp c59' pl59
      rw [p3, rbd_th (w := p.2.1) rfl]
      have ek : kf (kf k 4 (k.1 4 + 1)) 4 ((kf k 4 (k.1 4 + 1)).1 4 + 1) = kf k 4 (k.1 4 + 2) := by
        rw [kf_kf]
        show kf k 4 (k.1 4 + 1 + 1) = _
        rw [i2_add]
      rw [ek] at p4
      unfold c92_109
      show QC _ (k186 (k179 (kf k 4 (k.1 4 + 2)) 38 i (k.1 4) 0).1 0).1 _
      refine (ex_call h70 p4 hX (Nat.le_refl _) (by omega) (Nat.le_refl _) ⟨by have := hr.1; omega, by have := hr.2; omega⟩).bnd ?_
      rintro sa ka xa ⟨aa, w1, w2, w3⟩
      refine QC.pop w3 (by omega) ?_
      rw [k180_g38]
      have hb := fun z => ((w2.top (t' := t)).awy (by omega) (by omega)).put (x := 22) (y := z) (z := 0) (u := k.1 4)
      exact QC.ret ⟨aa, _, i, by omega, (hb _).cl (fr_c78 _ _ _ _ _), rfl⟩
    · rw [if_pos (fun z => c59 (eq.mpr z)), if_pos c59]
      exact plain
  · rw [if_pos (fun z => c1 ((h.is (by decide) (by decide)).mpr z)), if_pos c1]
    exact plain
/-- the loop of a table -/
def E91L (rc : cRC) (L : List xR) : Prop := ∀ (a : Nat) (s : cS) (k : kS) (X : List xF) (t v w : Nat) (i y1 y3 : Int32), SG L k t v w a s k X (t + 1) (v + 1) w → X ≠ [] → GT t 35 i 0 0 k → RO L a (t + 4) (v + 4) → 0 ≤ y3.toInt → y3.toInt ≤ a → QC (fun s' k' _ => ∃ a', a < a' ∧ SG L k t v w a' s' k' X t (v + 1) w) k (rc 91032 s 0 y1 1 y3 0 0 0)
def E91z (rc : cRC) : Prop := ∀ (s : cS) (y1 y3 : Int32) (s' : cS) (o : Option Int32), rc 91032 s 0 y1 0 y3 0 0 0 = some (s', o) → rbd (some (c64 s 63)) (fun _ _ => some ((c64 s 63).1, some 0)) = some (s', o)
theorem tb_cls (h : SG L k0 T V W a s k X t v w) : QC (fun s' k' _ => ∃ a', a < a' ∧ SG L k0 T V W a' s' k' X t v w) (k199 k 63).1 (rbd (some (c64 s 63)) (fun _ _ => some ((c64 s 63).1, some 0))) := by
  rcases h.tkl lv63 with ⟨p, s8, k8, p1, p2, p3, p4, p5, p6, p7⟩ | ⟨p1, p2, p3⟩
  · rw [p3, rbd_th (w := p.2.1) rfl, p4]
    exact QC.ret ⟨a + 1, by omega, p5⟩
  · rw [rbd_thn p1]
    exact QC.thn p3
theorem tb_rnd (hL : E91L rc L) (hz : E91z rc) (h92 : E92 rc L) (h : SG L k t v w a s k X (t + 1) (v + 1) w) (hX : X ≠ []) (g : GT t 35 i 0 0 k) (hr : RO L a (t + 4) (v + 4)) (hy0 : 0 ≤ y3.toInt) (hy : y3.toInt ≤ a) : QC (fun s' k' _ => ∃ a', a < a' ∧ SG L k t v w a' s' k' X t (v + 1) w) k (c91_32 rc s y1 1 y3) := by
  have hle := h.le
  have ht : t + 8 ≤ 1000000 := by have := hr.1; omega
  refine QC.pop g (by omega) ?_
  rw [k180_g35]
  have h1 := h.top (t' := t)
  generalize kf k 10 (xn t) = k1 at h1
  unfold c91_32
  rw [if_neg (by decide)]
  by_cases c63' : c53 s = 63
  · rw [if_pos c63']
    unfold k219
    rw [if_neg (fun z => z ((h1.is (by decide) (by decide)).mp c63'))]
    exact tb_cls h1
  · rw [if_neg c63', if_neg (by rw [i_lt]; have : (16384 : Int32).toInt = 16384 := rfl; omega)]
    refine (h92 a s k1 X t v w i y1 h1.own hX c63' hr).bnd ?_
    rintro s2 _ x2 ⟨a2, k2, i', u1, u2, rfl⟩
    have h2 := h1.reb u2 (Nat.le_refl _) (Nat.le_refl _) (Nat.le_refl _)
    have hle2 := h2.le
    have y31 : (y3 + 1).toInt = y3.toInt + 1 := i_add rfl (show (1 : Int32).toInt = 1 from rfl) (by omega) (by omega)
    show QC _ _ (c91_60 rc s2 y3 x2)
    have nxt : ∀ K : Int32, c53 s2 = K → PLN K → QC (fun s' k' _ => ∃ a', a < a' ∧ SG L k t v w a' s' k' X t (v + 1) w) (k220_18 k2 i').1 (rbd (some (c55 s2)) (fun _ w11 => c91_83 rc ((c55 s2).1) x2 1 y3 w11)) := fun K hK hp => by
      obtain ⟨q, s4, q1, q2, q3, q4, q5⟩ := h2.skp hK hp
      rw [q3, rbd_th (w := q.2.1) rfl]
      obtain ⟨h5, g5⟩ := q4.psh (g := 35) (p := i') (q := 0) (c := 0) (Nat.le_refl _) (by omega)
      refine (hL (a2 + 1) s4 _ X t v w i' x2 (y3 + 1) h5.own hX g5 (hr.up (by omega)) (by omega) (by omega)).mono ?_
      rintro s5 k5 x5 ⟨a5, w1, w2⟩
      exact ⟨a5, by omega, h5.reb w2 (Nat.le_refl _) (Nat.le_refl _) (Nat.le_refl _)⟩
    unfold c91_60 k220
    by_cases c69 : c53 s2 = 69
    · have e : c95 s2 (c53 s2) = 1 := by rw [c69]; unfold c95; decide
      rw [e, if_pos ((h2.is (by decide) (by decide)).mp c69), if_neg (by decide)]
      exact nxt 69 c69 pl69
    rw [if_neg (fun z => c69 ((h2.is (by decide) (by decide)).mpr z))]
    by_cases c67 : c53 s2 = 67
    · have e : c95 s2 (c53 s2) = 1 := by rw [c67]; unfold c95; decide
      rw [e, if_neg (fun z => z ((h2.is (by decide) (by decide)).mp c67)), if_neg (by decide)]
      exact nxt 67 c67 pl67
    have e : c95 s2 (c53 s2) = 0 := by
      unfold c95
      rw [if_neg c69, if_pos c67]
    rw [e, if_pos (fun z => c67 ((h2.is (by decide) (by decide)).mpr z)), if_pos rfl]
    intro s5 o5 e5
    have z := tb_cls h2 s5 o5 (hz s2 x2 (y3 + 1) s5 o5 e5)
    exact ⟨fun x zx => (z.1 x zx).imp (fun j ⟨a', b1, b2⟩ => ⟨a', by omega, b2⟩), z.2⟩
theorem tb_all (hp : ∀ (a : Nat) (s : cS) (k : kS) (X : List xF) (t v w : Nat) (i : Int32), SG L k t v w a s k X (t + 1) (v + 1) w → X ≠ [] → GT t 35 i 0 0 k → RO L a (t + 4) (v + 4) → QC (fun s' k' _ => ∃ a', a < a' ∧ SG L k t v w a' s' k' X t (v + 1) w) k (c91_32 rc s 0 1 0)) (h : SG L k t v w a s k X t v w) (hX : X ≠ []) (hr : RO L (a + 1) (t + 4) (v + 4)) : QC (fun s' k' _ => ∃ a', a < a' ∧ SG L k t v w a' s' k' X t (v + 1) w) (k192 k).1 (c91 rc s) := by
  unfold c91 c91_15 k192
  have h1 := h.cl (fr_c78 s 20 0 0 (c63 s))
  generalize (c78 s 20 0 0 (c63 s)).1 = s1 at h1
  rcases h1.tke en62 with ⟨q, s2, k2, q1, q2, q3, q4, q5, q6, q7⟩ | ⟨q1, q2, q3⟩
  · rw [q3, rbd_th (w := q.2.1) rfl, q4]
    have h3 := (q5.put (x := 20) (y := 0) (z := 0) (u := k.1 4)).val (x := 0) (y := 0) (z := 0) (Nat.le_refl _) (by have := hr.2; omega)
    obtain ⟨h4, g4⟩ := h3.1.psh (g := 35) (p := 0) (q := 0) (c := 0) (Nat.le_refl _) (by have := hr.1; omega)
    show QC _ (k192_11 k2 (k.1 4) 1).1 (c91_32 rc s2 0 1 0)
    unfold k192_11
    rw [if_pos (by decide)]
    refine (hp (a + 1) s2 _ X t v w 0 h4.own hX g4 hr).mono ?_
    rintro s5 k5 x5 ⟨a5, w1, w2⟩
    exact ⟨a5, by omega, h4.reb w2 (Nat.le_refl _) (Nat.le_refl _) (Nat.le_refl _)⟩
  · rw [rbd_thn q1]
    refine QC.thn ?_
    show (k192_11 (k193 k 62).1 (k.1 4) (k193 k 62).2).1.1 6 ≠ 0
    unfold k192_11
    rw [if_neg (fun z => z q2)]
    exact q3
end TBL
