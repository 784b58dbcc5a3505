/-! THE WALK OVER BOTH: lists and arguments -/
section LST
variable {L : List xR} {P : PT} {k0 k k' : kS} {T V W a t v w x0 : Nat} {s s' : cS} {X : List xF} {c x y y1 y2 y3 : Int32} {rc : cRC}
/-- a list of values, its loop when more is to come -/
def E112 (rc : cRC) (L : List xR) : Prop := ∀ {P : PT} (k0 : kS) (T V W a : Nat) (s : cS) (k : kS) (X : List xF) (t v w : Nat) (c y1 y3 : Int32), SG L P k0 T V W a s k X t v w → X ≠ [] → T ≤ t → V ≤ v → W ≤ w → RO L a (t + 2) v → y1 + 1 = c → y1 = y3 → 0 ≤ y3.toInt → y3.toInt ≤ a → QC (fun s' k' x => ∃ a', a < a' ∧ SGp (some (v, true)) ([], []) L P k0 T V W a' s' k' X t (v + 1) w ∧ LR s' k' v ∧ x = k'.1 19 ∧ 1 ≤ x.toInt ∧ x.toInt ≤ a') (k186 (k179 k 34 c 0 0).1 0).1 (rc 112006 s 0 y1 1 y3 0 0 0)
def E112z (rc : cRC) : Prop := ∀ (s : cS) (y1 y3 : Int32) (s' : cS) (o : Option Int32), rc 112006 s 0 y1 0 y3 0 0 0 = some (s', o) → s' = s ∧ o = some y1
theorem ls_rnd (h70 : E70 rc L) (hl : E112 rc L) (hz : E112z rc) (h : SG L P k0 T V W a s k X t v w) (hX : X ≠ []) (hT : T ≤ t) (hV : V ≤ v) (hW : W ≤ w) (hr : RO L a (t + 2) v) (hyc : y1 + 1 = c) (hy13 : y1 = y3) (hy0 : 0 ≤ y3.toInt) (hy : y3.toInt ≤ a) : QC (fun s' k' x => ∃ a', a < a' ∧ SGp (some (v, true)) ([], []) L P k0 T V W a' s' k' X t (v + 1) w ∧ LR s' k' v ∧ x = k'.1 19 ∧ 1 ≤ x.toInt ∧ x.toInt ≤ a') (k186 (k179 k 34 c 0 0).1 0).1 (c112_6 rc s y1 1 y3) := by
  have hle := h.le
  unfold c112_6
  rw [if_neg (by decide), if_neg (by rw [i_lt]; have : (16384 : Int32).toInt = 16384 := rfl; omega)]
  refine (ex_call h70 h hX hT hV hW hr).bnd ?_
  rintro s1 k1 x ⟨a1, ha, h1, l1, g1⟩
  refine QC.pop g1 (by have := hr.1; omega) ?_
  rw [k180_g34]
  have h2 := h1.top (t' := t)
  have l2 : LR s1 (kf k1 10 (xn t)) v := l1
  generalize kf k1 10 (xn t) = k2 at h2 l2
  have hle2 := h2.le
  have y31 : (y3 + 1).toInt = y3.toInt + 1 := i_add rfl (show (1 : Int32).toInt = 1 from rfl) (by omega) (by omega)
  show QC _ _ (c112_21 rc s1 y1 y3)
  unfold c112_21
  by_cases c1 : c53 s1 = 69
  · rw [if_neg (fun z => z c1)]
    unfold k218
    rw [if_neg (fun z => z ((h2.is (by decide) (by decide)).mp c1))]
    have h3 := h2.awy (by omega) (by have := hr.2; omega)
    generalize (k209 k2).1 = k3 at h3
    unfold c112_41
    rw [if_neg (by decide)]
    obtain ⟨q, s4, q1, q2, q3, q4, q5⟩ := h3.skp c1 pl69
    rw [q3, rbd_th (w := q.2.1) rfl]
    refine (hl k0 T V W (a1 + 1) s4 _ X t v w (c + 1) (y1 + 1) (y3 + 1) q4 hX hT hV hW (hr.up (by omega)) (by rw [hyc]) (by rw [hy13]) (by omega) (by omega)).mono ?_
    rintro s5 k5 x5 ⟨a5, u1, u2⟩
    exact ⟨a5, by omega, u2⟩
  · rw [if_pos c1]
    unfold k218
    rw [if_pos (fun z => c1 ((h2.is (by decide) (by decide)).mpr z))]
    unfold c112_41 c112_54
    rw [if_pos rfl]
    intro s5 o5 e5
    obtain ⟨z1, z2⟩ := hz s1 (y1 + 1) (y3 + 1) s5 o5 e5
    rw [z1, z2]
    have f : kFr 524288 0 k2 (kf k2 19 c) := kFr.sf kFr.refl rfl
    exact ⟨fun x5 e => ⟨0, a1, ha, h2.mv cFr.refl (f.mono rfl rfl) ⟨h2.2.1.1, h2.2.1.2.1, h2.2.1.2.2⟩ (KB.fr f rfl) (Or.inr ⟨rfl, rfl, rfl⟩), l2, by cases e; exact ⟨hyc, by rw [hy13]; omega, by rw [hy13]; omega⟩⟩, fun z => nomatch z⟩
/-- a list of values -/
def F112 (rc : cRC) (L : List xR) : Prop := ∀ {P : PT} (k0 : kS) (T V W a : Nat) (s : cS) (k : kS) (X : List xF) (t v w : Nat), SG L P k0 T V W a s k X t v w → X ≠ [] → T ≤ t → V ≤ v → W ≤ w → RO L a (t + 2) v → QC (fun s' k' x => ∃ a', a < a' ∧ SGp (some (v, true)) ([], []) L P k0 T V W a' s' k' X t (v + 1) w ∧ LR s' k' v ∧ x = k'.1 19 ∧ 1 ≤ x.toInt ∧ x.toInt ≤ a') (k214 k).1 (rc 112 s 0 0 0 0 0 0 0)
/-- a table -/
def E91 (rc : cRC) (L : List xR) : Prop := ∀ {P : PT} (a : Nat) (s : cS) (k : kS) (X : List xF) (t v w : Nat), SG L P k t v w a s k X t v w → X ≠ [] → c53 s = 62 → RO L (a + 1) (t + 4) (v + 4) → QC (fun s' k' _ => ∃ a', a < a' ∧ SGp (some (v, true)) ([], []) L P k t v w a' s' k' X t (v + 1) w ∧ k'.2 16 v = 0) (k192 k).1 (rc 91 s 0 0 0 0 0 0 0)
/-- a call's arguments -/
def E111 (rc : cRC) (L : List xR) : Prop := ∀ {P : PT} (a : Nat) (s : cS) (k : kS) (X : List xF) (t v w : Nat) (x : Int32), SG L P k t v w a s k X t (v + 1) w → X ≠ [] → RO L (a + 1) (t + 8) (v + 8) → QC (fun s' k' _ => ∃ a', a < a' ∧ SG L P k t v w a' s' k' X t (v + 1) w ∧ k'.2 16 v = 1 ∧ LO s' k' v) (k212 k x).1 (rc 111 s 0 x 0 0 0 0 0)
def E111n (rc : cRC) : Prop := ∀ (s : cS) (y : Int32) (s' : cS) (o : Option Int32), c53 s ≠ 3 → c53 s ≠ 60 → c53 s ≠ 62 → rc 111 s 0 y 0 0 0 0 0 = some (s', o) → o = none
theorem RWp.nc0 {p : PM} {d : Dw} (h : RWp p d L a s k X) (x : Nat) : 0 ≤ (s.r (.i x)).toInt := by
  obtain ⟨R, -, r2⟩ := h.2.2.2.2.2.2.2
  exact r2.1 x
theorem c97_78' {x1 x2 x3 x4 : Int32} (h : 0 ≤ (s.r (.i s.now)).toInt) : ((c78 s x1 x2 x3 x4).1.r (.i (c78 s x1 x2 x3 x4).1.now)).toInt < 1048576 → c97 (c78 s x1 x2 x3 x4).1 = x1 := fun hl => c97_78 h (by
  rw [c78_now] at hl
  exact hl)
/-- behind a call -/
theorem LO.cal {x2 x3 x4 : Int32} (h : 0 ≤ (s.r (.i s.now)).toInt) (h1 : k.2 16 v = 1) (hG : LG (k.2 17 v).toNatClampNeg (s.now - 1) k) : LO (c78 s 13 x2 x3 x4).1 k v := ⟨fun hl => ⟨fun _ => c97_78' h hl, fun z => absurd (h1.symm.trans z) (by decide)⟩, fun _ => by rw [c78_now]; exact hG⟩
theorem wfa_13 {a b w : Int32} (h0 : 0 ≤ b.toInt) (h7 : b.toInt ≤ 7) : wfa (13, a, b, w) := by
  refine ⟨⟨(show (1 : Int32) ≤ 13 by decide), fun _ => ⟨h0, h7⟩⟩, fun z => ?_, fun z => ?_⟩
  · rcases z with z | z | z | z | z <;> exact absurd (show (13 : Int32) = _ from z) (by decide)
  · rcases z with z | z <;> exact absurd (show (13 : Int32) = _ from z) (by decide)
theorem ag_en0 {Φ : cS → kS → Int32 → Prop} (h : SGp none ([], [(13, y1 + y3, 2, y2)]) L P k0 T V W a s k X t v w) (h1 : k.2 16 x0 = 1) (hG : LG (k.2 17 x0).toNatClampNeg (s.now - 1) k) (hP : ∀ s', SG L P k0 T V W a s' k X t v w → LO s' k x0 → Φ s' k 0) : QC Φ k (c111_114 rc s y1 y2 y3 0) := by
  unfold c111_114
  rw [if_pos (by decide)]
  have e : y1 + y3 - 0 = y1 + y3 := Int32.sub_zero _
  refine QC.ret (hP _ ((h.cle).de0 ?_ (wfl_c (wfa_13 (by decide) (by decide)) wfl_0)) (LO.cal (h.1.nc0 _) h1 hG))
  show [((13 : Int32), y1 + y3 - 0, (0 : Int32) + 2, y2)] = [(13, y1 + y3, 2, y2)]
  rw [e]
  rfl
theorem ag_en1 {Φ : cS → kS → Int32 → Prop} (h : SGp none ([], [(13, y3 - 1 + y1, 3, y2)]) L P k0 T V W a (c96 s).1 k X t v w) (h1 : k.2 16 x0 = 1) (hG : LG (k.2 17 x0).toNatClampNeg ((c96 s).1.now - 1) k) (hP : ∀ s', SG L P k0 T V W a s' k X t v w → LO s' k x0 → Φ s' k 0) : QC Φ k (c111_114 rc s y1 y2 y3 1) := by
  unfold c111_114
  rw [if_neg (by decide)]
  have e : y1 + y3 - 1 = y3 - 1 + y1 := by rw [Int32.sub_eq_add_neg, Int32.sub_eq_add_neg, Int32.add_comm y1, Int32.add_assoc, Int32.add_comm y1, Int32.add_assoc]
  refine QC.ret (hP _ ((h.cle).de0 ?_ (wfl_c (wfa_13 (by decide) (by decide)) wfl_0)) (LO.cal (h.1.nc0 _) h1 hG))
  show [((13 : Int32), y1 + y3 - 1, (1 : Int32) + 2, y2)] = [(13, y3 - 1 + y1, 3, y2)]
  rw [e]
  rfl
theorem k216_iff (h15 : k.1 15 = xn (v + 1)) (hv : v ≤ 1000000) : k216 k ≠ 0 ↔ k.2 16 v = 1 ∨ k.2 16 v = 2 := by
  have e1 : k.1 15 - 1 = xn v := by
    rw [h15]
    have := xn_sub (n := 1) (m := v) (by omega)
    rw [Nat.add_comm 1] at this
    exact this
  have ekr : kr k 16 (k.1 15 - 1) = k.2 16 v := by
    rw [e1]
    show k.2 16 (xn v).toNatClampNeg = _
    rw [xn_nat (by omega)]
  unfold k216
  rw [ekr]
  by_cases c1 : k.2 16 v = 1
  · rw [if_pos c1]
    exact ⟨fun _ => Or.inl c1, fun _ => by decide⟩
  · rw [if_neg c1]
    by_cases c2 : k.2 16 v = 2
    · rw [if_neg (fun z => z c2)]
      exact ⟨fun _ => Or.inr c2, fun _ => by decide⟩
    · rw [if_pos c2]
      exact ⟨fun z => absurd rfl z, fun z => z.elim (fun z => absurd z c1) (fun z => absurd z c2)⟩
theorem ag_rnd (h91 : E91 rc L) (hl : F112 rc L) (h : SG L P k t v w a s k X t (v + 1) w) (hX : X ≠ []) (hr : RO L (a + 1) (t + 8) (v + 8)) : QC (fun s' k' _ => ∃ a', a < a' ∧ SG L P k t v w a' s' k' X t (v + 1) w ∧ k'.2 16 v = 1 ∧ LO s' k' v) (k212 k x).1 (c111 rc s x) := by
  have hle := h.le
  have hv : v + 8 ≤ 1000000 := by have := hr.2; omega
  have ew := h.w63
  unfold c111 k212
  by_cases c3 : c53 s = 3
  · rw [if_neg (fun z => z ((h.is (by decide) (by decide)).mp c3)), if_neg (fun z => z c3)]
    have h1 := h.put (x := 5) (y := kr k 2 (k.1 4)) (z := 0) (u := 0)
    obtain ⟨q, s4, q1, q2, q3, q4, q5⟩ := h1.skp c3 pl3
    have et := h.1.1.txt q1
    generalize (k189 k 5 (kr k 2 (k.1 4)) 0 0) = k1 at q4
    rw [q3, rbd_th (w := q.2.1) rfl]
    have q4 : SGp none ([], [(5, q.2.1, 0, 0)]) L P k t v w (a + 1) s4 (kf k1.1 4 (k1.1.1 4 + 1)) X t (v + 1) w := by
      rw [← et]
      exact q4
    obtain ⟨h5, h51, h52⟩ := q4.cal (x := 1 + x) (y := 0) (z := k.1 4) (Nat.le_refl _) (by omega)
    show QC _ (k213 _ _ _ _).1 (c111_114 rc (c78 s4 5 q.2.1 0 0).1 x (c63 s) 1 0)
    have h6 : SGp none ([(5, q.2.1, 0, 0)] ++ [], [(5, q.2.1, 0, 0)] ++ [(13, x + 1, 2, c63 s)]) L P k t v w (a + 1) (c78 s4 5 q.2.1 0 0).1 (k213 (kf k1.1 4 (k1.1.1 4 + 1)) (1 + x) 0 (k.1 4)).1 X t (v + 1) w := by
      rw [ew, Int32.add_comm x 1]
      exact h5.cle
    refine ag_en0 (x0 := v) (h6.dem (wfl_1 rfl)) h51 (by rw [c78_now]; exact h52) (fun s' hs hl => ⟨a + 1, by omega, hs, h51, hl⟩)
  rw [if_pos (fun z => c3 ((h.is (by decide) (by decide)).mpr z)), if_pos c3]
  by_cases c62 : c53 s = 62
  · have hlt := h.lt c62 (by decide)
    rw [if_neg (fun z => z ((h.is (by decide) (by decide)).mp c62)), if_neg (fun z => z c62)]
    obtain ⟨h1, g1⟩ := h.psh (g := 33) (p := x) (q := k.1 4) (c := 0) (Nat.le_refl _) (by have := hr.1; omega)
    generalize (k179 k 33 x (k.1 4) 0).1 = k1 at h1 g1
    have e91 := h91 a s k1 X (t + 1) (v + 1) w h1.own hX c62
    refine (e91 ⟨by have := hr.1; omega, by have := hr.2; omega⟩).bnd ?_
    rintro s2 k2 x2 ⟨a2, u1, u2, -⟩
    have g2 := g1.bck u2.2.2.1 u2.2.1.1
    have h2 := (h1.reb u2 (by omega) (by omega) (Nat.le_refl _)).top (t' := t)
    refine QC.pop g2 (by have := hr.1; omega) ?_
    rw [k180_g33]
    generalize kf k2 10 (xn t) = k3 at h2
    obtain ⟨h3, h31, h32⟩ := (h2.awy (by omega) (by omega)).cal (x := 1 + x) (y := 0) (z := k.1 4) (Nat.le_refl _) (by omega)
    show QC _ _ (c111_114 rc s2 x (c63 s) 1 0)
    refine ag_en0 (x0 := v) ?_ h31 h32 (fun s' hs hl => ⟨a2, u1, hs, h31, hl⟩)
    rw [ew, Int32.add_comm x 1]
    exact h3
  rw [if_pos (fun z => c62 ((h.is (by decide) (by decide)).mpr z)), if_pos c62]
  rcases h.tke en60 with ⟨q, s1, k1, q1, q2, q3, q4, q5, q6, q7⟩ | ⟨q1, q2, q3⟩
  · rw [q3, rbd_th (w := q.2.1) rfl, q4]
    have hlt := lt_of q1
    show QC _ (k212_83 k1 x (k.1 4) 1).1 (c111_70 rc s1 x (c63 s) 0 q.2.1)
    unfold k212_83 c111_70
    rw [if_neg (by decide)]
    by_cases c61 : c53 s1 = 61
    · rw [if_neg (fun z => z ((q5.is (by decide) (by decide)).mp c61)), if_pos c61]
      unfold c111_104
      rcases q5.tkl lv61 with ⟨p, s2, k2, p1, p2, p3, p4, p5, p6, p7⟩ | ⟨p1, p2, p3⟩
      · rw [p3, rbd_th (w := p.2.1) rfl, p4]
        obtain ⟨h3, h31, h32⟩ := p5.cal (x := x) (y := 0) (z := k.1 4) (Nat.le_refl _) (by omega)
        show QC _ _ (c111_114 rc s2 x (c63 s) 0 0)
        refine ag_en0 (x0 := v) ?_ h31 h32 (fun s' hs hl => ⟨a + 1 + 1, by omega, hs, h31, hl⟩)
        rw [ew, Int32.add_zero]
        exact h3
      · rw [rbd_thn p1]
        refine QC.thn ?_
        show (k213 (k199 k1 61).1 x 0 (k.1 4)).1.1 6 ≠ 0
        rw [(fr_k213 _ _ _ _).1 6 rfl]
        exact p3
    · rw [if_pos (fun z => c61 ((q5.is (by decide) (by decide)).mpr z)), if_neg c61]
      obtain ⟨h2, g2⟩ := q5.psh (g := 32) (p := x) (q := k.1 4) (c := 0) (Nat.le_refl _) (by have := hr.1; omega)
      show QC _ (k214 (k179 k1 32 x (k.1 4) 0).1).1 _
      generalize (k179 k1 32 x (k.1 4) 0).1 = k2 at h2 g2
      refine (hl k2 (t + 1) (v + 1) w (a + 1) s1 k2 X (t + 1) (v + 1) w h2.own hX (Nat.le_refl _) (Nat.le_refl _) (Nat.le_refl _) ⟨by have := hr.1; omega, by have := hr.2; omega⟩).bnd ?_
      rintro s3 k3 x3 ⟨a3, u1, u2, uL, uX, -⟩
      have g3 := g2.bck u2.2.2.1 u2.2.1.1
      have h3 := (h2.reb u2 (by omega) (by omega) (Nat.le_refl _)).top (t' := t)
      refine QC.pop g3 (by have := hr.1; omega) ?_
      rw [k180_g32]
      have l3 : LR s3 (kf k3 10 (xn t)) (v + 1) := uL
      have x3e : x3 = (kf k3 10 (xn t)).1 19 := uX
      generalize kf k3 10 (xn t) = k4 at h3 l3 x3e
      show QC _ _ (c111_89 rc s3 x (c63 s) x3)
      unfold c111_89 k215
      have stp : ∀ z : Int32, ((z = 0 ∧ s3.f 7 5 = 0) ∨ (z = 1 ∧ s3.f 7 5 ≠ 0)) → QC (fun s' k' _ => ∃ a', a < a' ∧ SG L P k t v w a' s' k' X t (v + 1) w ∧ k'.2 16 v = 1 ∧ LO s' k' v) (k215_11 (k199 k4 61).1 x (k.1 4) (k4.1 19) (k199 k4 61).2).1 (c111_104 rc s3 x (c63 s) x3 z) := fun z hz => by
        unfold c111_104
        rcases h3.tkl lv61 with ⟨p, s5, k5, p1, p2, p3, p4, p5, p6, p7⟩ | ⟨p1, p2, p3⟩
        · rw [p3, rbd_th (w := p.2.1) rfl, p4]
          show QC _ (k215_11 k5 x (k.1 4) (k4.1 19) 1).1 (c111_114 rc s5 x (c63 s) x3 z)
          unfold k215_11
          rw [if_pos (by decide), ← x3e]
          have ek16 : k5.2 16 = k4.2 16 := p7.2 16 (Nat.zero_testBit _)
          have hi := k216_iff (k := k5) (v := v + 1) p5.2.1.2.1 (by omega)
          rw [ek16, ← l3.1] at hi
          rcases hz with ⟨z1, z2⟩ | ⟨z1, z2⟩
          · have c0 : k216 k5 = 0 := Decidable.byContradiction (fun n => hi.mp n z2)
            rw [if_pos c0, z1]
            have h6 := p5.awy (by omega) (by omega)
            obtain ⟨h7, h71, h72⟩ := h6.cal (x := x3 + x) (y := 0) (z := k.1 4) (Nat.le_refl _) (by omega)
            unfold k215_37 k215_54
            rw [if_pos c0, if_pos c0]
            refine ag_en0 (x0 := v) ?_ h71 h72 (fun s' hs hl => ⟨a3 + 1, by omega, hs, h71, hl⟩)
            rw [ew, Int32.add_comm x x3]
            exact h7
          · have c1 : k216 k5 ≠ 0 := hi.mpr z2
            rw [if_neg c1, z1]
            have lo5 : LO s5 k5 (v + 1) := by
              refine ⟨fun hlt => ?_, fun z => ?_⟩
              · have e97 : c97 s5 = c97 s3 := by
                  unfold c97 c98 tg
                  rw [p6.2.2.2.1 rfl, p6.2.2.2.2.2.2.1 rfl, p6.2.2.2.2.2.1 rfl]
                rw [e97, ek16]
                rw [p6.2.2.2.1 rfl, p6.2.2.2.2.2.2.1 rfl] at hlt
                exact l3.2.1 hlt
              · rw [ek16] at z
                rw [p6.2.2.2.1 rfl, p7.2 17 (Nat.zero_testBit _)]
                exact (l3.2.2 z).fr p7 rfl rfl
            have h6 := p5.opa (by omega) c1 lo5
            obtain ⟨h7, h71, h72⟩ := h6.cal (x := x3 - 1 + x) (y := 1) (z := k.1 4) (Nat.le_refl _) (by omega)
            unfold k215_30 k215_37 k215_54
            rw [if_neg c1, if_neg c1]
            refine ag_en1 (x0 := v) ?_ h71 h72 (fun s' hs hl => ⟨a3 + 1, by omega, hs, h71, hl⟩)
            rw [ew]
            exact h7
        · rw [rbd_thn p1]
          refine QC.thn ?_
          rw [show (k199 k4 61).2 = 0 from p2]
          unfold k215_11
          rw [if_neg (by decide)]
          exact p3
      by_cases cf : s3.f 7 5 = 0
      · rw [if_pos cf]
        exact stp 0 (Or.inl ⟨rfl, cf⟩)
      · rw [if_neg cf]
        exact stp 1 (Or.inr ⟨rfl, cf⟩)
  · rw [rbd_thn q1]
    refine QC.thn ?_
    show (k212_83 (k193 k 60).1 x (k.1 4) (k193 k 60).2).1.1 6 ≠ 0
    unfold k212_83
    rw [if_pos q2]
    exact q3
theorem ag_no (h3 : c53 s ≠ 3) (h60 : c53 s ≠ 60) (h62 : c53 s ≠ 62) {o : Option Int32} (e : c111 rc s y = some (s', o)) : o = none := by
  unfold c111 at e
  rw [if_pos h3, if_pos h62, rbd_thn (c64_no h60)] at e
  cases e
  rfl
end LST
