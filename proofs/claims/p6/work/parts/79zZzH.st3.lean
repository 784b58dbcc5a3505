/-! THE WALK OVER BOTH: if -/
section ST3
variable {L : List xR} {P : PT} {k0 k k' : kS} {T V W a t v w : Nat} {s s' : cS} {X X' : List xF} {x y y1 y2 y3 j p z : Int32} {rc : cRC}
theorem WR.els (h : WR L a s k) {q : xR} (hq : L[a]? = some q) (h13 : q.1 = 13) : ∃ s1, c55 s = (s1, some q.2.1) ∧ WR L (a + 1) s1 (kf k 4 (k.1 4 + 1)) ∧ cFr 51539607552 0 0 0 s s1 := by
  have hl := (List.getElem?_eq_some_iff.mp hq).1
  have h16 := h.1.2.1
  obtain ⟨e1, e2, e3⟩ := h.2.2.2.1
  have e48 : (48 : Int32).toInt = 48 := rfl
  have l5 : (k.1 5 - 1).toInt = (k.1 5).toInt - 1 := i_sub rfl (show (1 : Int32).toInt = 1 from rfl) (by omega) (by omega)
  refine ⟨nf (nf (nf s 2 3 (s.f 2 3 - 1)) 2 3 ((nf s 2 3 (s.f 2 3 - 1)).f 2 3 + 1)) 2 2 (xn (a + 1)), ?_, ?_, ((cFr.refl.sf rfl).sf rfl).sf rfl⟩
  · rw [c55_go h hq, h13, if_neg (by unfold c56; decide)]
    unfold c55_30
    rw [if_neg (by unfold c57; decide), if_pos (by rw [nf_at, i_lt, e1, l5, e48]; omega)]
    unfold c55_59
    exact c55_69_go h hq rfl rfl (by rw [nf_o (by decide), nf_o (by decide)])
  · refine h.adv (lv := k.1 5) hl rfl rfl nf_at ?_ rfl rfl rfl rfl rfl rfl e2 (by omega)
    rw [nf_o (by decide), nf_at, nf_at, e1, Int32.sub_add_cancel]
theorem SGp.els (h : SG L P k0 T V W a s k X t v w) (c : c53 s = 13) : ∃ q s1, L[a]? = some q ∧ c55 s = (s1, some q.2.1) ∧ SG L P k0 T V W (a + 1) s1 (kf k 4 (k.1 4 + 1)) X t v w ∧ cFr 51539607552 0 0 0 s s1 := by
  rcases h.1.1.kd with ⟨q, q1, q2, -⟩ | ⟨-, q2, -⟩
  · obtain ⟨s1, w1, w2, w3⟩ := h.1.1.els q1 (q2.symm.trans c)
    exact ⟨q, s1, q1, w1, h.adv (h.1.adv w2 w3 (kFr.sf kFr.refl rfl)) w3 (kFr.sf kFr.refl rfl), w3⟩
  · rw [c] at q2
    exact absurd q2 (by decide)
theorem SGp.skl {K : Int32} (h : SG L P k0 T V W a s k X t v w) (c : c53 s = K) (hp : LEV K) : ∃ q s1, L[a]? = some q ∧ c55 s = (s1, some q.2.1) ∧ SG L P k0 T V W (a + 1) s1 (kf (kf k 4 (k.1 4 + 1)) 5 (k.1 5 - 1)) X t v w ∧ cFr 51539607552 0 0 0 s s1 := by
  rcases h.tkl hp with ⟨q, s1, k1, q1, q2, q3, q4, q5, q6, q7⟩ | ⟨-, z, -⟩
  · refine ⟨q, s1, q1, by rw [← c64_yes c]; exact q3, ?_, q6⟩
    have e : k1 = kf (kf k 4 (k.1 4 + 1)) 5 (k.1 5 - 1) := by
      unfold k199 k200 at q4
      rw [if_pos ((h.is hp.1 hp.2.1).mp c)] at q4
      exact (congrArg Prod.fst q4).symm
    rw [← e]
    exact q5
  · unfold k199 k200 at z
    rw [if_pos ((h.is hp.1 hp.2.1).mp c)] at z
    exact absurd (show (1 : Int32) = 0 from z) (by decide)
theorem SGp.prt (h : SG L P k0 T V W a s k X t v w) : SG L P k0 T V W a (c136 s y2 y1).1 (k189 k 36 p 0 0).1 X t v w := by
  have h1 := h.pc (x := 36) (y := y1) (z := 0) (u := 0) (x' := 36) (y' := p) (z' := 0) (u' := 0)
  exact h1.cl (fr_c109 (c78 s 36 y1 0 0).1 (c78 s 36 y1 0 0).1.now y2 1)
/-- if's condition: the word before it is read -/
def E135 (rc : cRC) (L : List xR) : Prop := ∀ {P : PT} (k0 : kS) (T V W a : Nat) (s s1 : cS) (x : Int32) (k : kS) (X : List xF) (t v w : Nat) (p : Int32), c55 s = (s1, some x) → SG L P k0 T V W a s1 k X t v w → X ≠ [] → T ≤ t → V ≤ v → W ≤ w → RO L a (t + 2) v → QC (fun s' k' _ => ∃ a' k2 j, a < a' ∧ SG L P k0 T V W a' s' k2 X t v w ∧ k' = (k178 (k179 (k177 k2 0).1 8 j p 0).1).1) (k186 (k179 k 7 p 0 0).1 0).1 (rc 135 s 0 0 0 0 0 0 0)
theorem if_cnd (h70 : E70 rc L) {s1 : cS} (hs : c55 s = (s1, some x)) (h : SG L P k0 T V W a s1 k X t v w) (hX : X ≠ []) (hT : T ≤ t) (hV : V ≤ v) (hW : W ≤ w) (hr : RO L a (t + 2) v) : QC (fun s' k' _ => ∃ a' k2 j, a < a' ∧ SG L P k0 T V W a' s' k2 X t v w ∧ k' = (k178 (k179 (k177 k2 0).1 8 j p 0).1).1) (k186 (k179 k 7 p 0 0).1 0).1 (c135 rc s) := by
  have ht : t + 2 ≤ 1000000 := by have := hr.1; omega
  have hv : v + 2 ≤ 1000000 := by have := hr.2; omega
  unfold c135
  rw [hs, rbd_th (w := x) rfl]
  unfold c135_7
  refine (ex_call h70 h hX hT hV hW hr).bnd ?_
  rintro s3 k3 x3 ⟨a3, u1, u2, -, u3⟩
  refine QC.pop u3 (by omega) ?_
  rw [k180_g7]
  unfold k248
  have h4 := (u2.top (t' := t)).awy hV (by omega)
  generalize (k209 (kf k3 10 (xn t))).1 = k4 at h4
  unfold k248_4
  show QC _ _ (c135_12 rc s3)
  unfold c135_12
  rcases h4.tke en28 with ⟨q, s5, k5, p1, p2, p3, p4, p5, p6, p7⟩ | ⟨p1, p2, p3⟩
  · rw [p3, rbd_th (w := q.2.1) rfl, p4]
    show QC _ (k248_10 k5 p 1).1 (c135_21 rc s5 q.2.1)
    unfold k248_10 k248_23 k248_29 c135_21
    rw [if_pos (by decide)]
    exact QC.ret ⟨a3 + 1, _, _, by omega, p5.pc, rfl⟩
  · rw [rbd_thn p1]
    refine QC.thn ?_
    unfold k248_10
    rw [if_neg (fun z => z p2)]
    exact p3
/-- behind a part of an if -/
def E134L (rc : cRC) (L : List xR) : Prop := ∀ {P : PT} (a0 : Nat) (k0 : kS) (X0 : List xF) (a : Nat) (s : cS) (k : kS) (X : List xF) (t v w : Nat) (j p y1 y2 y3 : Int32), SG L P k0 t v w a s k X t v w → XB X0 → XQ X0 X → a0 < a → RO L a (t + 8) (v + 8) → 0 ≤ y3.toInt → y3.toInt ≤ a → QC (SP L P k0 t v w a0 X0) (k249_4 k j p).1 (rc 134013 s 0 y1 y2 y3 0 0 0)
theorem if_fin {a0 : Nat} {X0 : List xF} (h : SG L P k0 t v w a s k X t v w) (hq : XQ X0 X) (ha : a0 < a) {F A : Nat} (f : kFr F A k k') (k1 : F &&& 4620992428744148337 = 0 := by rfl) (k2 : A &&& 288218738776743573510 = 0 := by rfl) : SP L P k0 t v w a0 X0 (c137 (c109 s s.now y2 1).1 y1).1 k' 0 := ⟨a, X, ha, (((h.fr1 f k1 k2).cl (fr_c109 s s.now y2 1)).cl (fr_c137 _ y1)), hq⟩
theorem if_els {a0 : Nat} {X0 : List xF} (h128 : E128 rc L) (h : SG L P k0 t v w a s k X t v w) (hB : XB X0) (hq : XQ X0 X) (ha : a0 < a) (hr : RO L a (t + 8) (v + 8)) (c : c53 s = 13) : QC (SP L P k0 t v w a0 X0) (k249_52 k j p 13).1 (c134_72 rc (c136 s y2 y1).1 (c136 s y2 y1).2) := by
  have ht : t + 8 ≤ 1000000 := by have := hr.1; omega
  unfold k249_52 k249_61
  rw [if_pos (by decide)]
  unfold k249_124 k249_134
  have h1 := h.prt (p := p) (y1 := y1) (y2 := y2)
  have c' : c53 (c136 s y2 y1).1 = 13 := (c53_fr (fr_c136 s y2 y1)).trans c
  generalize (k189 k 36 p 0 0) = K1 at h1
  generalize (c136 s y2 y1) = S1 at h1 c'
  have f2 : kFr 0 2361183241434822606848 K1.1 (ka K1.1 71 j (k210 K1.1)) := kFr.sa kFr.refl rfl
  have h2 := h1.fr1 f2
  unfold c134_72
  obtain ⟨q, s3, q1, q3, q4, q5⟩ := h2.els c'
  rw [q3, rbd_th (w := q.2.1) rfl]
  show QC _ (k178 (k179 (k177 (kf (ka K1.1 71 j (k210 K1.1)) 4 (K1.1.1 4 + 1)) 0).1 9 (K1.2 + 1) 0 0).1).1 (c134_82 rc s3 S1.2 (-1) q.2.1)
  have h3 : SG L P k0 t v w (a + 1) s3 (kf (ka K1.1 71 j (k210 K1.1)) 4 (K1.1.1 4 + 1)) X t v w := q4
  generalize kf (ka K1.1 71 j (k210 K1.1)) 4 (K1.1.1 4 + 1) = k3 at h3
  unfold c134_82
  refine (h128 0 0 (a + 1) s3 k3 X t v w 9 (K1.2 + 1) 0 0 (SE.of h3.own) (hB.nxt hq) (Or.inl ⟨rfl, rfl⟩) (by have := h.sz; omega) ⟨by have := hr.1; omega, by have := hr.2; omega⟩).bnd ?_
  rintro s4 k4 x4 (⟨a4, X4, u1, u2, u3, u4⟩ | ⟨u1, u2⟩)
  · refine QC.pop u4 (by omega) ?_
    rw [k180_g9]
    unfold k180_208 k180_213
    have h5 := (SE.of h3).reb u2 (Nat.le_refl _) (Nat.le_refl _) (Nat.le_refl _)
    generalize (k242 (kf k4 10 (xn t))).1 = k5 at h5
    have h6 := h5.kq (fr_k250 k5 (K1.2 + 1))
    generalize (k250 k5 (K1.2 + 1)).1 = k6 at h6
    show QC _ _ (c134_87 rc s4 S1.2 (-1))
    unfold c134_87
    rcases (SE.to h6).tkl lv15 with ⟨o, s7, k7, p1, p2, p3, p4, p5, p6, p7⟩ | ⟨p1, p2, p3⟩
    · rw [p3, rbd_th (w := o.2.1) rfl, p4]
      exact QC.ret (if_fin p5 (hq.trans u3) (by omega) (kFr.refl (F := 0) (A := 0)))
    · rw [rbd_thn p1]
      exact QC.thn p3
  · show QC _ k4 (c134_87 rc s4 S1.2 (-1))
    unfold c134_87
    rw [rbd_thn (c64_no (fun z => u2 (Or.inr (Or.inr (Or.inr (Or.inl z))))))]
    exact QC.thn u1
def E134n (rc : cRC) : Prop := ∀ (s : cS) (y1 y2 y3 : Int32) (s' : cS) (o : Option Int32), ¬ FOL (c53 s) → rc 134013 s 0 y1 y2 y3 0 0 0 = some (s', o) → o = none
theorem if_no (h : ¬ FOL (c53 s)) {o : Option Int32} (e : c134_13 rc s y1 y2 y3 = some (s', o)) : o = none := by
  unfold c134_13 c134_54 c134_87 at e
  rw [if_pos (fun z => h (Or.inr (Or.inr (Or.inl z)))), if_pos (fun z => h (Or.inr (Or.inl z))), rbd_thn (c64_no (fun z => h (Or.inr (Or.inr (Or.inr (Or.inl z))))))] at e
  cases e
  rfl
theorem if_rnd {a0 : Nat} {X0 : List xF} (hL : E134L rc L) (hn : E134n rc) (h128 : E128 rc L) (h135 : E135 rc L) (h : SG L P k0 t v w a s k X t v w) (hB : XB X0) (hq : XQ X0 X) (ha : a0 < a) (hr : RO L a (t + 8) (v + 8)) (hy0 : 0 ≤ y3.toInt) (hy : y3.toInt ≤ a) : QC (SP L P k0 t v w a0 X0) (k249_4 k j p).1 (c134_13 rc s y1 y2 y3) := by
  have hle := h.le
  have ht : t + 8 ≤ 1000000 := by have := hr.1; omega
  have i13 := h.is (K := 13) (by decide) (by decide)
  have i14 := h.is (K := 14) (by decide) (by decide)
  have i15 := h.is (K := 15) (by decide) (by decide)
  unfold c134_13
  by_cases c14 : c53 s = 14
  · rw [if_neg (fun z => z c14), if_neg (by rw [i_lt]; have : (16384 : Int32).toInt = 16384 := rfl; omega)]
    unfold k249_4
    rw [i14.mp c14, if_pos (by decide), if_pos rfl]
    unfold k249_52 k249_61
    rw [if_neg (fun z => z rfl)]
    unfold k249_111
    have h1 := h.prt (p := p) (y1 := y1) (y2 := y2)
    have c' : c53 (c136 s y2 y1).1 = 14 := (c53_fr (fr_c136 s y2 y1)).trans c14
    generalize (k189 k 36 p 0 0) = K1 at h1
    generalize (c136 s y2 y1) = S1 at h1 c'
    have f2 : kFr 0 2361183241434822606848 K1.1 (ka K1.1 71 j (k210 K1.1)) := kFr.sa kFr.refl rfl
    have h2 := h1.fr1 f2
    obtain ⟨q, s3, q1, q3, q4, q5⟩ := h2.skl c' lv14
    show QC _ (k186 (k179 (kf (kf (ka K1.1 71 j (k210 K1.1)) 4 (K1.1.1 4 + 1)) 5 (K1.1.1 5 - 1)) 7 (K1.2 + 1) 0 0).1 0).1 (c134_38 rc S1.1 y3 S1.2)
    have h3 : SG L P k0 t v w (a + 1) s3 (kf (kf (ka K1.1 71 j (k210 K1.1)) 4 (K1.1.1 4 + 1)) 5 (K1.1.1 5 - 1)) X t v w := q4
    generalize kf (kf (ka K1.1 71 j (k210 K1.1)) 4 (K1.1.1 4 + 1)) 5 (K1.1.1 5 - 1) = k3 at h3
    unfold c134_38
    refine (h135 k0 t v w (a + 1) S1.1 s3 q.2.1 k3 X t v w (K1.2 + 1) q3 h3 (hB.nxt hq).ne (Nat.le_refl _) (Nat.le_refl _) (Nat.le_refl _) ⟨by have := hr.1; omega, by have := hr.2; omega⟩).bnd ?_
    rintro s4 _ x4 ⟨a4, k4, j4, u1, u2, rfl⟩
    show QC _ _ (c134_43 rc s4 S1.2 y3 x4)
    unfold c134_43
    refine (h128 0 0 a4 s4 k4 X t v w 8 j4 (K1.2 + 1) 0 (SE.of u2.own) (hB.nxt hq) (Or.inl ⟨rfl, rfl⟩) (by have := h.sz; omega) ⟨by have := hr.1; omega, by have := hr.2; omega⟩).bnd ?_
    rintro s5 k5 x5 (⟨a5, X5, w1, w2, w3, w4⟩ | ⟨w1, w2⟩)
    · refine QC.pop w4 (by omega) ?_
      rw [k180_g8]
      have h6 := (SE.of u2).reb w2 (Nat.le_refl _) (Nat.le_refl _) (Nat.le_refl _)
      have hle6 := h6.le
      have y31 : (y3 + 1).toInt = y3.toInt + 1 := i_add rfl (show (1 : Int32).toInt = 1 from rfl) (by omega) (by omega)
      exact hL a0 k0 X0 a5 s5 _ X5 t v w j4 (K1.2 + 1) S1.2 x4 (y3 + 1) (SE.to h6) hB (hq.trans w3) (by omega) ⟨by have := hr.1; omega, by have := hr.2; omega⟩ (by omega) (by omega)
    · intro s6 o6 e6
      rw [hn s5 S1.2 x4 (y3 + 1) s6 o6 w2 e6]
      exact ⟨(fun x z => nomatch z), fun _ => ⟨0, w1⟩⟩
  · rw [if_pos c14]
    unfold c134_54
    by_cases c13 : c53 s = 13
    · rw [if_neg (fun z => z c13)]
      unfold k249_4
      rw [i13.mp c13, if_pos (by decide), if_neg (by decide), if_neg (fun z => z rfl)]
      exact if_els h128 h hB hq ha hr c13
    · rw [if_pos c13]
      unfold c134_87
      by_cases c15 : c53 s = 15
      · unfold k249_4
        rw [if_neg (fun z => z (i15.mp c15))]
        rcases h.tkl lv15 with ⟨o, s7, k7, p1, p2, p3, p4, p5, p6, p7⟩ | ⟨p1, p2, p3⟩
        · rw [p3, rbd_th (w := o.2.1) rfl, p4]
          unfold k249_21
          have f2 : kFr 0 2361183241434822606848 k7 (ka k7 71 j (k210 k7)) := kFr.sa kFr.refl rfl
          exact QC.ret (if_fin (p5.fr1 f2) hq (by omega) (fr_k250 _ p))
        · rw [rbd_thn p1]
          refine QC.thn ?_
          unfold k249_21
          show (k250 (ka (k199 k 15).1 71 j (k210 (k199 k 15).1)) p).1.1 6 ≠ 0
          rw [(fr_k250 _ p).1 6 rfl]
          exact p3
      · rw [rbd_thn (c64_no c15)]
        refine QC.thn ?_
        unfold k249_4
        rw [if_pos (fun z => c15 (i15.mpr z)), if_neg (fun z => c14 (i14.mpr z)), if_pos (fun z => c13 (i13.mpr z))]
        exact (k194_f (by decide)).1
def E134 (rc : cRC) (L : List xR) : Prop := ∀ {P : PT} (a : Nat) (s : cS) (k : kS) (X : List xF) (t v w : Nat), SG L P k t v w a s k X t v w → XB X → RO L (a + 1) (t + 8) (v + 8) → c53 s = 20 → QC (SP L P k t v w a X) (k228 k 20).1 (rc 134 s 0 0 0 0 0 0 0)
theorem st_if (hL : E134L rc L) (hn : E134n rc) (h128 : E128 rc L) (h135 : E135 rc L) (h : SG L P k t v w a s k X t v w) (hB : XB X) (hr : RO L (a + 1) (t + 8) (v + 8)) (c : c53 s = 20) : QC (SP L P k t v w a X) (k228 k 20).1 (c134 rc s) := by
  have ht : t + 8 ≤ 1000000 := by have := hr.1; omega
  rw [k228_k20]
  unfold k228_336 c134
  obtain ⟨q, s1, q1, q2, q3, q4, q5⟩ := h.skp c pl20
  generalize kf k 4 (k.1 4 + 1) = k1 at q4
  refine (h135 k t v w (a + 1) s s1 q.2.1 k1 X t v w 0 q3 q4 hB.ne (Nat.le_refl _) (Nat.le_refl _) (Nat.le_refl _) ⟨by have := hr.1; omega, by have := hr.2; omega⟩).bnd ?_
  rintro s4 _ x4 ⟨a4, k4, j4, u1, u2, rfl⟩
  show QC _ _ (c134_6 rc s4 (-1) x4)
  unfold c134_6
  refine (h128 0 0 a4 s4 k4 X t v w 8 j4 0 0 (SE.of u2.own) hB (Or.inl ⟨rfl, rfl⟩) (by have := h.sz; omega) ⟨by have := hr.1; omega, by have := hr.2; omega⟩).bnd ?_
  rintro s5 k5 x5 (⟨a5, X5, w1, w2, w3, w4⟩ | ⟨w1, w2⟩)
  · refine QC.pop w4 (by omega) ?_
    rw [k180_g8]
    have h6 := (SE.of u2).reb w2 (Nat.le_refl _) (Nat.le_refl _) (Nat.le_refl _)
    exact if_rnd hL hn h128 h135 (SE.to h6) hB w3 (by omega) ⟨by have := hr.1; omega, by have := hr.2; omega⟩ (by decide) (Int.natCast_nonneg _)
  · intro s6 o6 e6
    rw [if_no w2 (show c134_13 rc s5 (-1) x4 0 = some (s6, o6) from e6)]
    exact ⟨(fun x z => nomatch z), fun _ => ⟨0, w1⟩⟩
end ST3
