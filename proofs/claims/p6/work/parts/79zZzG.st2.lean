/-! THE WALK OVER BOTH: do, while, repeat -/
section ST2
variable {L : List xR} {P : PT} {k0 k k' : kS} {T V W a t v w : Nat} {s s' : cS} {X X' : List xF} {x y y1 y2 : Int32} {rc : cRC} {Q : cS → kS → Int32 → Prop} {fc : cS → Option (cS × Option Int32)}
theorem st_do (h128 : E128 rc L) (h : SG L P k t v w a s k X t v w) (hB : XB X) (hr : RO L (a + 1) (t + 8) (v + 8)) (c : c53 s = 12) (hf : ∀ s1 k1 a1 X1, a < a1 → SG L P k t v w a1 s1 k1 X1 t v w → XQ X X1 → QC Q k1 (fc s1)) : QC Q (k228 k 12).1 (rbd (some (c55 s)) (fun _ _ => rbd (rc 128 (c55 s).1 0 0 0 0 0 0 0) (fun s6 _ => rbd (some (c64 s6 15)) (fun _ _ => fc (c64 s6 15).1)))) := by
  have ht : t + 8 ≤ 1000000 := by have := hr.1; omega
  rw [k228_k12]
  rcases h.ske c en12 with ⟨q, s1, k1, q1, q2, q3, q4, q5, q6, q7⟩ | ⟨q1, q2, q3⟩
  · rw [q3, rbd_th (w := q.2.1) rfl, q4]
    show QC Q (k228_207 k1 1).1 _
    unfold k228_207 k228_218 k228_226
    rw [if_pos (by decide)]
    refine (h128 0 0 (a + 1) s1 k1 X t v w 2 0 0 0 (SE.of q5.own) hB (Or.inl ⟨rfl, rfl⟩) (by have := h.sz; omega) ⟨by have := hr.1; omega, by have := hr.2; omega⟩).bnd ?_
    rintro s2 k2 x2 (⟨a2, X2, u1, u2, u3, u4⟩ | ⟨u1, u2⟩)
    · refine QC.pop u4 (by omega) ?_
      rw [k180_g2]
      unfold k180_123
      generalize (k242 (kf k2 10 (xn t))).1 = k3 at u2
      have h3 := (SE.of q5).reb u2 (Nat.le_refl _) (Nat.le_refl _) (Nat.le_refl _)
      rcases (SE.to h3).tkl lv15 with ⟨p, s5, k5, p1, p2, p3, p4, p5, p6, p7⟩ | ⟨p1, p2, p3⟩
      · show QC Q (k199 k3 15).1 (rbd (some (c64 s2 15)) (fun _ _ => fc (c64 s2 15).1))
        rw [p3, rbd_th (w := p.2.1) rfl, p4]
        exact hf s5 k5 (a2 + 1) X2 (by omega) p5 u3
      · show QC Q (k199 k3 15).1 (rbd (some (c64 s2 15)) (fun _ _ => fc (c64 s2 15).1))
        rw [rbd_thn p1]
        exact QC.thn p3
    · show QC Q k2 (rbd (some (c64 s2 15)) (fun _ _ => fc (c64 s2 15).1))
      rw [rbd_thn (c64_no (fun z => u2 (Or.inr (Or.inr (Or.inr (Or.inl z))))))]
      exact QC.thn u1
  · rw [rbd_thn q1]
    refine QC.thn ?_
    unfold k228_207
    rw [if_neg (fun z => z q2)]
    exact q3
theorem SGp.fr1 {F A : Nat} (h : SG L P k0 T V W a s k X t v w) (f : kFr F A k k') (k1 : F &&& 4620992428744148337 = 0 := by rfl) (k2 : A &&& 288218738776743573510 = 0 := by rfl) : SG L P k0 T V W a s k' X t v w := SE.to (SEp.kq (SE.of h) f k1 k2)
/-- a loop begins, ends -/
theorem LVv.lop {x : Int32} {n : Nat} (h : LVv [] s X) (hx : x = xn n) (hl : (s.r (.s 28)).toInt < 1048576) : LVv [n] (c131 s x).1 X := by
  obtain ⟨U, h1, h2⟩ := h
  refine ⟨_, (h1.add (a := x) (b := s.r (.s 30)) (c := 0) (d := 0) (by have := h1.1; omega)).1, ?_⟩
  rw [List.map_append, h2, List.append_nil, List.map_append, hx]
  rfl
theorem LVv.lcl {i n : Nat} (h : LVv [n] s X) (hl : (s.r (.s 28)).toInt < 1048576) : LVv [] (c132 s i).1 X := by
  obtain ⟨U, h1, h2⟩ := h
  have hk : cFr 0 1073741824 0 4 s (tct (kfin (c132b20 i (tg s (.s 28) (s.r (.s 28) - 1) 1)) (s, tg s (.s 28) (s.r (.s 28) - 1) 1)).2.1 (.s 30) (tg s (.s 28) (s.r (.s 28) - 1) 1)) := cFr.tcts ((cFr.mono (cfin_fr1 (t := (s, tg s (.s 28) (s.r (.s 28) - 1) 1)) (fun t => fr_c132b20 i (tg s (.s 28) (s.r (.s 28) - 1) 1) t)) rfl rfl rfl rfl)) rfl
  unfold c132 c132_59
  generalize tct (kfin (c132b20 i (tg s (.s 28) (s.r (.s 28) - 1) 1)) (s, tg s (.s 28) (s.r (.s 28) - 1) 1)).2.1 (.s 30) (tg s (.s 28) (s.r (.s 28) - 1) 1) = s1 at hk
  have h3 : TR s1 (.s 28) U := h1.same (hk.2.1 28 rfl).1 (hk.2.1 28 rfl).2
  have hlen : U.length = (fLv X).length + 1 := by
    have := congrArg List.length h2
    rw [List.length_map, List.length_map, List.length_append] at this
    exact this
  have e2 : (s1.r (.s 28) - 1).toInt = ((fLv X).length : Int) := by
    rw [i_sub h3.1 (show (1 : Int32).toInt = 1 from rfl) (by omega) (by have := h1.1; omega)]
    omega
  refine ⟨U.take (fLv X).length, h3.cut (n := s1.r (.s 28) - 1) (k := (fLv X).length) e2 (by omega), ?_⟩
  rw [List.map_take, h2, List.append_nil, List.map_append, List.take_append_of_le_length (by rw [List.length_map]; exact Nat.le_refl _), List.take_of_length_le (by rw [List.length_map]; exact Nat.le_refl _)]
theorem SE.lop (h : SG L P k0 T V W a s k X t v w) (hB : XB X) : SE 1 L P k0 T V W a (c131 s (c75 s)).1 k X t v w := by
  obtain ⟨f, r, b, bs, rfl, b1, -⟩ := hB
  have hz := h.SZ
  have hg := hz.g
  have hlp := h.1.2.1.1.lp
  have ecnt : c75 s = xn f.2.1.length := by rw [XC.cnt h.1.2.1.1 hz, b1, List.append_nil]
  have fc := fr_c131 s (c75 s)
  refine SEp.nam (SE.of h) fc (kFr.refl (F := 0) (A := 0)) (RE.lop (e := 0) h.1.2.1 (by omega)) h.sz (h.ou fc (kFr.refl (F := 0) (A := 0))) ⟨h.ne, h.nc.same (fc.nr rfl) (fc.2.2.2.1 rfl) id rfl rfl, h.fb.fr fc (kFr.refl (F := 0) (A := 0)) rfl rfl id rfl, h.cc, ?_⟩
  exact h.lv.lop ecnt (by omega)
theorem SEp.lcl {δ : Int32} {i : Nat} (h : SEp δ 1 L P k0 T V W a s k X t v w) : SEp δ 0 L P k0 T V W a (c132 s i).1 k X t v w := by
  have hz := h.SZ
  have hg := hz.g
  have hlp := h.1.2.1.1.lp
  have n := RE.lcl (e := 0) (x := i) h.1.2.1 (by omega)
  have fc := fr_c132 s i
  refine h.nam fc (kFr.refl (F := 0) (A := 0)) n h.sz (h.ou fc (kFr.refl (F := 0) (A := 0))) ⟨h.ne.1, h.ne.2.1.same (fc.nr rfl) (fc.2.2.2.1 rfl) id rfl rfl, h.ne.2.2.1.fr fc (kFr.refl (F := 0) (A := 0)) rfl rfl id rfl, h.ne.2.2.2.1, ?_⟩
  obtain ⟨m, hm⟩ : ∃ m, pnd 1 X = [m] := by
    cases X with
    | nil => exact ⟨_, rfl⟩
    | cons f r => exact ⟨_, rfl⟩
  have z := h.ne.2.2.2.2
  rw [hm] at z
  exact z.lcl (by omega)
/-- while -/
def E130 (rc : cRC) (L : List xR) : Prop := ∀ {P : PT} (a : Nat) (s : cS) (k : kS) (X : List xF) (t v w : Nat), SG L P k t v w a s k X t v w → XB X → RO L (a + 1) (t + 8) (v + 8) → c53 s = 31 → QC (SP L P k t v w a X) (k228 k 31).1 (rc 130 s 0 0 0 0 0 0 0)
theorem wh_end {X2 : List xF} {a2 : Nat} {s2 : cS} {k3 : kS} (h3 : SE 1 L P k t v w a2 s2 k3 X2 t v w) (ha : a < a2) (hq : XQ X X2) : QC (SP L P k t v w a X) (k245_4 k3 x y).1 (c130_74 rc s2 y1 y2) := by
  unfold k245_4 k245_13 k245_28
  have h4 := h3.put (x := 36) (y := y) (z := 0) (u := 0)
  generalize (k189 k3 36 y 0 0).1 = k4 at h4
  have f2 : kFr 0 2361183241434822606848 k4 (ka k4 71 x (k210 k4)) := kFr.sa kFr.refl rfl
  have h5 := h4.kq f2
  generalize ka k4 71 x (k210 k4) = k5 at h5
  have h6 := h5.kq (fr_k246 k5)
  generalize (k246 k5).1 = k6 at h6
  unfold c130_74
  rcases h6.tkl lv15 with ⟨p, s7, k7, p1, p2, p3, p4, p5, p6, p7⟩ | ⟨p1, p2, p3⟩
  · rw [p3, rbd_th (w := p.2.1) rfl, p4]
    unfold c130_83 c130_93 c130_106
    have h8 := ((p5.cle (x := 36) (y := y1) (z := 0) (u := 0)).deq (δ' := 0) rfl).cl (fr_c109 (c78 s7 36 y1 0 0).1 (c78 s7 36 y1 0 0).1.now y2 1)
    generalize (c109 (c78 s7 36 y1 0 0).1 (c78 s7 36 y1 0 0).1.now y2 1).1 = s8 at h8
    exact QC.ret ⟨a2 + 1, X2, by omega, SE.to h8.lcl, hq⟩
  · rw [rbd_thn p1]
    exact QC.thn p3
theorem st_whl (h70 : E70 rc L) (h128 : E128 rc L) (h : SG L P k t v w a s k X t v w) (hB : XB X) (hr : RO L (a + 1) (t + 8) (v + 8)) (c : c53 s = 31) : QC (SP L P k t v w a X) (k228 k 31).1 (c130 rc s) := by
  have ht : t + 8 ≤ 1000000 := by have := hr.1; omega
  have hv : v + 8 ≤ 1000000 := by have := hr.2; omega
  rw [k228_k31]
  unfold c130 c130_20
  have h0 := h.cle (x := 34) (y := 0) (z := 0) (u := c63 s)
  have c' : c53 (c78 s 34 0 0 (c63 s)).1 = 31 := (c53_fr (fr_c78 s 34 0 0 (c63 s))).trans c
  generalize (c78 s 34 0 0 (c63 s)).1 = s0 at h0 c'
  obtain ⟨q, s1, q1, q2, q3, q4, q5⟩ := h0.skp c' pl31
  rw [q3, rbd_th (w := q.2.1) rfl]
  generalize kf k 4 (k.1 4 + 1) = k1 at q4
  obtain ⟨h2, g2⟩ := q4.psh (g := 3) (p := k210 k1) (q := 0) (c := 0) (Nat.le_refl _) (by omega)
  unfold k228_254 k228_263 c130_28
  generalize (k179 k1 3 (k210 k1) 0 0).1 = k2 at h2 g2
  refine (ex_go h70 ((h2.put (x := 34) (y := 0) (z := 0) (u := k.1 4)).deq (δ' := 0) rfl) g2.put hB.ne (Nat.le_refl _) (Nat.le_refl _) (Nat.le_refl _) ⟨by have := hr.1; omega, by have := hr.2; omega⟩).bnd ?_
  rintro s3 k3 x3 ⟨a3, u1, u2, -, u3⟩
  refine QC.pop u3 (by omega) ?_
  rw [k180_g3]
  have h4 := ((u2.top (t' := t)).awy (Nat.le_refl _) (by omega)).cle (x := 35) (y := 0) (z := 0) (u := 0)
  unfold k244
  generalize (k209 (kf k3 10 (xn t))).1 = k4 at h4
  show QC _ (k244_4 k4 (k210 k1)).1 (c130_42 rc (c78 s3 35 0 0 0).1 (c98 s) (c78 s3 35 0 0 0).2)
  generalize (c78 s3 35 0 0 0).1 = s4 at h4
  unfold k244_4 c130_42
  rcases h4.tke en12 with ⟨p, s5, k5, p1, p2, p3, p4, p5, p6, p7⟩ | ⟨p1, p2, p3⟩
  · rw [p3, rbd_th (w := p.2.1) rfl, p4]
    show QC _ (k244_10 k5 (k210 k1) 1).1 (c130_70 rc (c131 s5 (c75 s5)).1 (c98 s) (c78 s3 35 0 0 0).2)
    unfold k244_10 k244_23 k244_29 c130_70
    rw [if_pos (by decide)]
    have h5 := (p5.put (x := 35) (y := 0) (z := 0) (u := 0)).deq (δ' := 0) rfl
    have h6 : SE 1 L P k t v w (a3 + 1) (c131 s5 (c75 s5)).1 (k189 k5 35 0 0 0).1 X t v w := SE.lop h5 hB
    generalize (k189 k5 35 0 0 0).1 = k6 at h6
    refine (h128 1 1 (a3 + 1) _ k6 X t v w 4 _ (k210 k1) 0 h6.own hB (Or.inr ⟨rfl, rfl⟩) (by have := h.sz; omega) ⟨by have := hr.1; omega, by have := hr.2; omega⟩).bnd ?_
    rintro s7 k7 x7 (⟨a7, X7, w1, w2, w3, w4⟩ | ⟨w1, w2⟩)
    · refine QC.pop w4 (by omega) ?_
      rw [k180_g4]
      exact wh_end (h6.reb w2 (Nat.le_refl _) (Nat.le_refl _) (Nat.le_refl _)) (by omega) w3
    · show QC _ k7 (c130_74 rc s7 (c98 s) (c78 s3 35 0 0 0).2)
      unfold c130_74
      rw [rbd_thn (c64_no (fun z => w2 (Or.inr (Or.inr (Or.inr (Or.inl z))))))]
      exact QC.thn w1
  · rw [rbd_thn p1]
    refine QC.thn ?_
    unfold k244_10
    rw [if_neg (fun z => z p2)]
    exact p3
theorem GT.fr {F A : Nat} {g p q c : Int32} (h : GT t g p q c k) (f : kFr F A k k') (k1 : F &&& 1024 = 0 := by rfl) (k2 : A &&& 15169536 = 0 := by rfl) : GT t g p q c k' := by
  have tb : ∀ (A M j : Nat), A &&& M = 0 → M.testBit j = true → A.testBit j = false := fun A M j ez hj => by
    have := congrArg (fun q => q.testBit j) ez
    simp only [Nat.testBit_and, hj, Bool.and_true, Nat.zero_testBit] at this
    exact this
  exact h.bck (v := 0) (w := 0) (KB.fr f k2) ((f.1 10 (tb _ _ 10 k1 (by decide))).trans h.1)
/-- repeat -/
def E133 (rc : cRC) (L : List xR) : Prop := ∀ {P : PT} (a : Nat) (s : cS) (k : kS) (X : List xF) (t v w : Nat), SG L P k t v w a s k X t v w → XB X → RO L (a + 1) (t + 8) (v + 8) → c53 s = 26 → QC (SP L P k t v w a X) (k228 k 26).1 (rc 133 s 0 0 0 0 0 0 0)
theorem rp_end {f g' : xF} {r : List xF} {b2 : xB} {bs : List xB} {a2 : Nat} {s2 : cS} {k2 : kS} (h : SG L P k t v w a2 s2 k2 (g' :: r) t v w) {d' : xB} (w8 : g'.2.2.2.1 = d' :: b2 :: bs) (w4 : g'.2.2.1 = []) (w10 : d'.2.2.2 = 1) (ha : a < a2) (hq : XQ (f :: r) (xc g' :: r)) : QC (SP L P k t v w a (f :: r)) (k247_80 k2).1 (c133_158 rc s2) := by
  have h1 := h.cls w8 w4 w10 (Or.inr rfl)
  unfold k247_80 c133_158 c133_165
  generalize (k224 k2).1 = k3 at h1
  generalize (c81 s2).1 = s3 at h1
  have h2 := h1.kq (fr_k246 k3)
  generalize (k246 k3).1 = k4 at h2
  exact QC.ret ⟨a2, _, ha, SE.to h2.lcl, hq⟩
theorem rp_mid {f g' : xF} {r : List xF} {b2 : xB} {bs : List xB} {a2 : Nat} {s2 : cS} {k2 : kS} (h : SG L P k t v w a2 s2 k2 (g' :: r) t v w) {d' : xB} (w8 : g'.2.2.2.1 = d' :: b2 :: bs) (w4 : g'.2.2.1 = []) (w10 : d'.2.2.2 = 1) (ha : a < a2) (hq : XQ (f :: r) (xc g' :: r)) : QC (SP L P k t v w a (f :: r)) (k247_4 k2 x).1 (c133_71 rc s2 y) := by
  have hh := has_b h.1.2.1 h.SZ w8 w4 (by rw [w10]; decide)
  unfold c133_71 k247_4
  by_cases c1 : c129 s2 = 0
  · rw [if_pos c1, if_pos (hh.mp c1)]
    unfold k247_79
    exact rp_end h.pc w8 w4 w10 ha hq
  · rw [if_neg c1, if_neg (fun z => c1 (hh.mpr z))]
    unfold c133_90 c133_106 c133_116 c133_129 c133_144 k247_20 k247_33 k247_43 k247_66
    have h1 := ((h.pc (x := 37) (y := 0) (z := 0) (u := 0) (x' := 37) (y' := 0) (z' := 0) (u' := 0)).pc (x := 33) (y := c82 (c78 s2 37 0 0 0).1) (z := 0) (u := 0) (x' := 33) (y' := k232 (k189 k2 37 0 0 0).1) (z' := 0) (u' := 0)).pc (x := 36) (y := y) (z := 0) (u := 0) (x' := 36) (y' := x) (z' := 0) (u' := 0)
    generalize (c78 (c78 (c78 s2 37 0 0 0).1 33 (c82 (c78 s2 37 0 0 0).1) 0 0).1 36 y 0 0).1 = s3 at h1
    generalize (k189 (k189 (k189 k2 37 0 0 0).1 33 (k232 (k189 k2 37 0 0 0).1) 0 0).1 36 x 0 0).1 = k4 at h1
    have h2 := h1.cl (fr_c109 s3 s3.now (c78 s2 37 0 0 0).2 1)
    generalize (c109 s3 s3.now (c78 s2 37 0 0 0).2 1).1 = s4 at h2
    have f2 : ∀ i z, kFr 0 2361183241434822606848 k4 (ka k4 71 i z) := fun i z => kFr.sa kFr.refl rfl
    exact rp_end (h2.fr1 (f2 _ _)).pc w8 w4 w10 ha hq
theorem st_rep (h70 : E70 rc L) (h52 : E52 rc L) (h : SG L P k t v w a s k X t v w) (hB : XB X) (hr : RO L (a + 1) (t + 8) (v + 8)) (c : c53 s = 26) : QC (SP L P k t v w a X) (k228 k 26).1 (c133 rc s) := by
  have ht : t + 8 ≤ 1000000 := by have := hr.1; omega
  have hv : v + 8 ≤ 1000000 := by have := hr.2; omega
  obtain ⟨f, r, b, bs, rfl, e2, e3, e4⟩ := hB
  rw [k228_k26]
  unfold c133 c133_20
  have h0 := h.cle (x := 34) (y := 0) (z := 0) (u := c63 s)
  have c' : c53 (c78 s 34 0 0 (c63 s)).1 = 26 := (c53_fr (fr_c78 s 34 0 0 (c63 s))).trans c
  generalize (c78 s 34 0 0 (c63 s)).1 = s0 at h0 c'
  rcases h0.ske c' en26 with ⟨q, s1, k1, q1, q2, q3, q4, q5, q6, q7⟩ | ⟨q1, q2, q3⟩
  · rw [q3, rbd_th (w := q.2.1) rfl, q4]
    show QC _ (k228_278 k1 (k.1 4) 1).1 (c133_53 rc (c51 (c131 s1 (c75 s1)).1).1 (c98 s))
    unfold k228_278
    rw [if_pos (by decide)]
    unfold k228_295 k228_304 k228_310 c133_53
    obtain ⟨h2, g2⟩ := q5.psh (g := 5) (p := k210 k1) (q := 0) (c := 0) (Nat.le_refl _) (by omega)
    generalize (k179 k1 5 (k210 k1) 0 0).1 = k2 at h2 g2
    have h3 := (h2.put (x := 34) (y := 0) (z := 0) (u := k.1 4)).deq (δ' := 0) rfl
    have g3 := g2.put (x := 34) (y := 0) (z := 0) (u := k.1 4)
    generalize (k189 k2 34 0 0 (k.1 4)).1 = k3 at h3 g3
    have h4 : SE 1 L P k t v w (a + 1) (c131 s1 (c75 s1)).1 k3 (f :: r) (t + 1) v w := SE.lop h3 ⟨f, r, b, bs, rfl, e2, e3, e4⟩
    have h5 := h4.bgn (kd := 1) e2 (Or.inr ⟨rfl, rfl⟩) (by have := h.sz; omega)
    have g5 := g3.fr (fr_k177 k3 1)
    have hB1 : XB (xo f 1 :: r) := ⟨xo f 1, r, _, f.2.2.2.1, rfl, e2, rfl, by show (1 : Nat) ≠ 2; decide⟩
    refine (bk_go h52 h5 g5 hB1 (Nat.le_refl _) (Nat.le_refl _) (Nat.le_refl _) ⟨by have := hr.1; omega, by have := hr.2; omega⟩).bnd ?_
    rintro s6 k6 x6 (⟨a6, X6, v1, v2, v3, v4⟩ | ⟨v1, v2⟩)
    · refine QC.pop v4 (by omega) ?_
      rw [k180_g5]
      have h7 := v2.top (t' := t)
      generalize kf k6 10 (xn t) = k7 at h7
      have hne : X6 ≠ [] := (hB1.nxt v3).ne
      obtain ⟨g0, g', r', l, d, d', ds, w1, w2, ⟨w3, w4, w5⟩, w6, ⟨w7, w8, w9, w10⟩, w11⟩ := v3
      cases w1
      cases w7
      rw [e3] at w8
      have hd : d'.1 = f.2.1.length := by
        rw [w9]
        show (f.2.1 ++ f.2.2.1).length = _
        rw [e2, List.append_nil]
      have xq : XQ (f :: r) (xc g' :: r) := XQ.cls (n := 0) e2 e3 w5 w6 w8 hd w11
      show QC _ (k180_156 (k199 k7 30).1 (k210 k1) (k199 k7 30).2).1 (c133_57 rc s6 (c98 s))
      unfold c133_57
      rcases h7.tkl lv30 with ⟨p, s8, k8, p1, p2, p3, p4, p5, p6, p7⟩ | ⟨p1, p2, p3⟩
      · rw [p3, rbd_th (w := p.2.1) rfl, p4]
        show QC _ (k180_156 k8 (k210 k1) 1).1 (c133_66 rc s8 (c98 s) p.2.1)
        unfold k180_156 k180_171 c133_66
        rw [if_pos (by decide)]
        refine (ex_call h70 p5 hne (Nat.le_refl _) (Nat.le_refl _) (Nat.le_refl _) ⟨by have := hr.1; omega, by have := hr.2; omega⟩).bnd ?_
        rintro s9 k9 x9 ⟨a9, u1, u2, -, u3⟩
        refine QC.pop u3 (by omega) ?_
        rw [k180_g6]
        unfold k247
        have h10 := (u2.top (t' := t)).awy (Nat.le_refl _) (by omega)
        generalize (k209 (kf k9 10 (xn t))).1 = k10 at h10
        rw [w2] at h10
        exact rp_mid h10 w8 w4 w10 (by omega) xq
      · rw [rbd_thn p1]
        refine QC.thn ?_
        unfold k180_156
        rw [if_neg (fun z => z p2)]
        exact p3
    · show QC _ k6 (c133_57 rc s6 (c98 s))
      unfold c133_57
      rw [rbd_thn (c64_no (fun z => v2 (Or.inr (Or.inr (Or.inr (Or.inr z))))))]
      exact QC.thn v1
  · rw [rbd_thn q1]
    refine QC.thn ?_
    unfold k228_278
    rw [if_neg (fun z => z q2)]
    exact q3
end ST2
