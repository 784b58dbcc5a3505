/-! THE WALK OVER BOTH: the loop of a block -/
section BLK
variable {s : cS} {y : Int32} {rc : cRC}
theorem c52_k1 (h : c53 s = 1) (h16 : ¬ 16384 < y) : c52_2 rc s y = rbd (rc 59 s 0 0 0 0 0 0 0) (fun s11 w9 => c52_155 rc s11 y) := by
  unfold c52_2
  rw [if_neg h16, h, if_pos rfl]
theorem c52_k11 (h : c53 s = 11) (h16 : ¬ 16384 < y) : c52_2 rc s y = rbd (some (c123 s)) (fun _ w19 => c52_169 rc ((c123 s).1) y) := by
  unfold c52_2
  rw [if_neg h16, h, if_neg (by decide), if_pos rfl]
theorem c52_k12 (h : c53 s = 12) (h16 : ¬ 16384 < y) : c52_2 rc s y = rbd (some (c55 s)) (fun _ w26 => c52_186 rc ((c55 s).1) y w26) := by
  unfold c52_2
  rw [if_neg h16, h, if_neg (by decide), if_neg (by decide), if_pos rfl]
theorem c52_k17 (h : c53 s = 17) (h16 : ¬ 16384 < y) : c52_2 rc s y = if (c93 s ((c63 s) + 2)) ≠ 59 then rbd (rc 144 s 0 0 0 0 0 0 0) (fun s42 w40 => c52_257 rc s42 y) else rbd (rc 138 s 0 0 0 0 0 0 0) (fun s51 w49 => c52_250 rc s51 y) := by
  unfold c52_2
  rw [if_neg h16, h, if_neg (by decide), if_neg (by decide), if_neg (by decide), if_pos rfl]
theorem c52_k18 (h : c53 s = 18) (h16 : ¬ 16384 < y) : c52_2 rc s y = rbd (rc 145 s 0 0 0 0 0 0 0) (fun s61 w59 => c52_264 rc s61 y) := by
  unfold c52_2
  rw [if_neg h16, h, if_neg (by decide), if_neg (by decide), if_neg (by decide), if_neg (by decide), if_pos rfl]
theorem c52_k19 (h : c53 s = 19) (h16 : ¬ 16384 < y) : c52_2 rc s y = rbd (some (c126 s)) (fun _ w69 => c52_176 rc ((c126 s).1) y) := by
  unfold c52_2
  rw [if_neg h16, h, if_neg (by decide), if_neg (by decide), if_neg (by decide), if_neg (by decide), if_neg (by decide), if_pos rfl]
theorem c52_k20 (h : c53 s = 20) (h16 : ¬ 16384 < y) : c52_2 rc s y = rbd (rc 134 s 0 0 0 0 0 0 0) (fun s78 w76 => c52_222 rc s78 y) := by
  unfold c52_2
  rw [if_neg h16, h, if_neg (by decide), if_neg (by decide), if_neg (by decide), if_neg (by decide), if_neg (by decide), if_neg (by decide), if_pos rfl]
theorem c52_k22 (h : c53 s = 22) (h16 : ¬ 16384 < y) : c52_2 rc s y = if (c93 s ((c63 s) + 1)) ≠ 18 then rbd (rc 147 s 0 0 0 0 0 0 0) (fun s95 w93 => c52_299 rc s95 y) else rbd (rc 146 s 0 0 0 0 0 0 0) (fun s104 w102 => c52_292 rc s104 y) := by
  unfold c52_2
  rw [if_neg h16, h, if_neg (by decide), if_neg (by decide), if_neg (by decide), if_neg (by decide), if_neg (by decide), if_neg (by decide), if_neg (by decide), if_pos rfl]
theorem c52_k26 (h : c53 s = 26) (h16 : ¬ 16384 < y) : c52_2 rc s y = rbd (rc 133 s 0 0 0 0 0 0 0) (fun s114 w112 => c52_215 rc s114 y) := by
  unfold c52_2
  rw [if_neg h16, h, if_neg (by decide), if_neg (by decide), if_neg (by decide), if_neg (by decide), if_neg (by decide), if_neg (by decide), if_neg (by decide), if_neg (by decide), if_pos rfl]
theorem c52_k27 (h : c53 s = 27) (h16 : ¬ 16384 < y) : c52_2 rc s y = rbd (rc 150 s 0 0 0 0 0 0 0) (fun s124 w122 => some (s124, some 0)) := by
  unfold c52_2
  rw [if_neg h16, h, if_neg (by decide), if_neg (by decide), if_neg (by decide), if_neg (by decide), if_neg (by decide), if_neg (by decide), if_neg (by decide), if_neg (by decide), if_neg (by decide), if_pos rfl]
theorem c52_k31 (h : c53 s = 31) (h16 : ¬ 16384 < y) : c52_2 rc s y = rbd (rc 130 s 0 0 0 0 0 0 0) (fun s134 w132 => c52_208 rc s134 y) := by
  unfold c52_2
  rw [if_neg h16, h, if_neg (by decide), if_neg (by decide), if_neg (by decide), if_neg (by decide), if_neg (by decide), if_neg (by decide), if_neg (by decide), if_neg (by decide), if_neg (by decide), if_neg (by decide), if_pos rfl]
theorem c52_k60 (h : c53 s = 60) (h16 : ¬ 16384 < y) : c52_2 rc s y = rbd (rc 59 s 0 0 0 0 0 0 0) (fun s144 w142 => c52_155 rc s144 y) := by
  unfold c52_2
  rw [if_neg h16, h, if_neg (by decide), if_neg (by decide), if_neg (by decide), if_neg (by decide), if_neg (by decide), if_neg (by decide), if_neg (by decide), if_neg (by decide), if_neg (by decide), if_neg (by decide), if_neg (by decide), if_pos rfl]
theorem c52_k66 (h : c53 s = 66) (h16 : ¬ 16384 < y) : c52_2 rc s y = rbd (some (c119 s)) (fun _ w152 => c52_162 rc ((c119 s).1) y) := by
  unfold c52_2
  rw [if_neg h16, h, if_neg (by decide), if_neg (by decide), if_neg (by decide), if_neg (by decide), if_neg (by decide), if_neg (by decide), if_neg (by decide), if_neg (by decide), if_neg (by decide), if_neg (by decide), if_neg (by decide), if_neg (by decide), if_pos rfl]
theorem c52_k67 (h : c53 s = 67) (h16 : ¬ 16384 < y) : c52_2 rc s y = rbd (some (c55 s)) (fun _ w159 => c52_147 rc ((c55 s).1) y w159) := by
  unfold c52_2
  rw [if_neg h16, h, if_neg (by decide), if_neg (by decide), if_neg (by decide), if_neg (by decide), if_neg (by decide), if_neg (by decide), if_neg (by decide), if_neg (by decide), if_neg (by decide), if_neg (by decide), if_neg (by decide), if_neg (by decide), if_neg (by decide), if_pos rfl]
theorem c52_kx (h : ∀ J : Int32, (J = 1 ∨ J = 11 ∨ J = 12 ∨ J = 17 ∨ J = 18 ∨ J = 19 ∨ J = 20 ∨ J = 22 ∨ J = 26 ∨ J = 27 ∨ J = 31 ∨ J = 60 ∨ J = 66 ∨ J = 67) → c53 s ≠ J) : c52_2 rc s y = some (s, some 0) := by
  unfold c52_2
  by_cases h16 : 16384 < y
  · rw [if_pos h16]
  rw [if_neg h16, if_neg (h 1 (by decide)), if_neg (h 11 (by decide)), if_neg (h 12 (by decide)), if_neg (h 17 (by decide)), if_neg (h 18 (by decide)), if_neg (h 19 (by decide)), if_neg (h 20 (by decide)), if_neg (h 22 (by decide)), if_neg (h 26 (by decide)), if_neg (h 27 (by decide)), if_neg (h 31 (by decide)), if_neg (h 60 (by decide)), if_neg (h 66 (by decide)), if_neg (h 67 (by decide))]
end BLK
section BLD
variable {L : List xR} {P : PT} {k0 k k' : kS} {T V W a t v w n : Nat} {s s' : cS} {X : List xF} {y : Int32} {rc : cRC}
theorem WR.kc0 (h : WR L a s k) : c53 s = kc L a ∧ (∀ K : Int32, K ≠ 0 → K ≠ -1 → kc L a = K → k183 k = K) := by
  rcases h.kd with ⟨q, q1, q2, q3, -⟩ | ⟨q1, q2, q3⟩
  · have e : kc L a = q.1 := by unfold kc; rw [q1]
    rw [e]
    exact ⟨q2, fun K _ _ z => q3.trans z⟩
  · have e : kc L a = 0 := by unfold kc; rw [List.getElem?_eq_none (by omega)]
    rw [e]
    exact ⟨q2, fun K h0 _ z => absurd z.symm h0⟩
/-- a plain word at this place is read on both sides -/
theorem WR.rd {K : Int32} (h : WR L a s k) (hK : kc L a = K) (hp : PLN K) : ∃ q, L[a]? = some q ∧ c53 s = K ∧ k183 k = K ∧ c55 s = (nf s 2 2 (xn (a + 1)), some q.2.1) ∧ WR L (a + 1) (nf s 2 2 (xn (a + 1))) (kf k 4 (k.1 4 + 1)) := by
  rcases h.kd with ⟨q, q1, q2, q3, -⟩ | ⟨q1, q2, q3⟩
  · have e : q.1 = K := by unfold kc at hK; rw [q1] at hK; exact hK
    obtain ⟨u1, u2⟩ := h.pl q1 (by rw [e]; exact hp.2.2.1 s) (by rw [e]; exact hp.2.2.2 s)
    exact ⟨q, q1, q2.trans e, q3.trans e, u1, u2⟩
  · unfold kc at hK
    rw [List.getElem?_eq_none (by omega)] at hK
    exact absurd hK.symm hp.1
/-- behind a label come labels and semicolons up to one that is none: both refuse -/
def E52d (rc : cRC) (L : List xR) : Prop := ∀ (n a : Nat) (s : cS) (k : kS) (t : Nat) (y : Int32), WR L a s k → dm L n a → GT t 1 0 0 0 k → t + 2 ≤ 1000000 → 0 ≤ y.toInt → y.toInt ≤ a → QC (fun _ _ _ => False) k (rc 52002 s 0 y 0 0 0 0 0)
theorem bd_rnd (hd : E52d rc L) (h : WR L a s k) (hm : dm L n a) (g : GT t 1 0 0 0 k) (ht : t + 2 ≤ 1000000) (hy0 : 0 ≤ y.toInt) (hy : y.toInt ≤ a) : QC (fun _ _ _ => False) k (c52_2 rc s y) := by
  have hle : a ≤ L.length := h.2.2.1.2.2
  have h16 : L.length ≤ 16384 := h.1.2.1
  have ny : ¬ 16384 < y := by rw [i_lt]; have : (16384 : Int32).toInt = 16384 := rfl; omega
  have y1 : (y + 1).toInt = y.toInt + 1 := i_add rfl (show (1 : Int32).toInt = 1 from rfl) (by omega) (by omega)
  cases n with
  | zero => exact absurd hm (fun z => z)
  | succ n =>
    refine QC.pop g (by omega) ?_
    rw [k180_g1]
    have f1 : kFr 1024 0 k (kf k 10 (xn t)) := kFr.sf kFr.refl rfl
    have h1 : WR L a s (kf k 10 (xn t)) := h.fr (cFr.refl (F := 0) (T := 0) (B := 0) (G := 0)) f1 rfl rfl rfl rfl rfl
    have e10 : (kf k 10 (xn t)).1 10 = xn t := rfl
    generalize kf k 10 (xn t) = k1 at h1 e10
    have g2 := (GT.psh (v := 0) (w := 0) (g := 1) (a := 0) (b := 0) (c := 0) e10 (by omega)).1
    have f2 := fr_k179 k1 1 0 0 0
    have h2 : WR L a s (k179 k1 1 0 0 0).1 := h1.fr (cFr.refl (F := 0) (T := 0) (B := 0) (G := 0)) f2 rfl rfl rfl rfl rfl
    unfold k225 k225_28 k178
    rcases hm with ⟨m1, m2⟩ | ⟨m1, m2⟩
    · obtain ⟨q, q1, q2, q3, q4, q5⟩ := h2.rd m1 pl67
      have e1 : k183 k1 = 67 := h1.kc0.2 67 (by decide) (by decide) m1
      rw [e1, if_pos (by unfold k226; decide), if_pos (by decide)]
      show QC _ (k228 (k179 k1 1 0 0 0).1 67).1 _
      rw [k228_k67, c52_k67 q2 ny, q4, rbd_th (w := q.2.1) rfl]
      generalize (k179 k1 1 0 0 0).1 = k2 at g2 q5
      have g3 : GT t 1 0 0 0 (kf k2 4 (k2.1 4 + 1)) := g2.fr (F := 16) (A := 0) (kFr.sf kFr.refl rfl)
      exact hd n (a + 1) _ _ t (y + 1) q5 m2 g3 ht (by omega) (by omega)
    · obtain ⟨q, q1, q2, q3, q4, q5⟩ := h2.rd m1 pl66
      have hlt := lt_of q1
      have e1 : k183 k1 = 66 := h1.kc0.2 66 (by decide) (by decide) m1
      rw [e1, if_pos (by unfold k226; decide), if_pos (by decide)]
      show QC _ (k228 (k179 k1 1 0 0 0).1 66).1 _
      rw [k228_k66, c52_k66 q2 ny]
      generalize (k179 k1 1 0 0 0).1 = k2 at g2 q5 q3
      have e0 : c119 s = c119_7 (nf s 2 2 (xn (a + 1))) q.2.1 := by
        unfold c119
        rw [cbd_some (w := q.2.1) (by rw [q4]), q4]
      rw [e0]
      unfold c119_7
      have g3 : GT t 1 0 0 0 (kf k2 4 (k2.1 4 + 1)) := g2.fr (F := 16) (A := 0) (kFr.sf kFr.refl rfl)
      generalize kf k2 4 (k2.1 4 + 1) = k3 at q5 g3
      generalize nf s 2 2 (xn (a + 1)) = s3 at q5
      by_cases n1 : kc L (a + 1) = 1
      · obtain ⟨p, p1, p2, p3, p4, p5⟩ := q5.rd n1 pl1
        have e200 : k200 k3 1 = (kf k3 4 (k3.1 4 + 1), 1) := by
          unfold k200
          rw [if_pos p3]
        rw [c64_yes p2, cbd_some (w := p.2.1) (by rw [p4]), p4, e200]
        show QC _ (k228_132 (kf k3 4 (k3.1 4 + 1)) (k2.1 4) 1).1 (rbd (some (c119_24 (nf s3 2 2 (xn (a + 1 + 1))) (c63 s3) p.2.1)) (fun _ w152 => c52_162 rc ((c119_24 (nf s3 2 2 (xn (a + 1 + 1))) (c63 s3) p.2.1).1) y))
        have g4 : GT t 1 0 0 0 (kf k3 4 (k3.1 4 + 1)) := g3.fr (F := 16) (A := 0) (kFr.sf kFr.refl rfl)
        generalize kf k3 4 (k3.1 4 + 1) = k4 at p5 g4
        generalize nf s3 2 2 (xn (a + 1 + 1)) = s4 at p5
        unfold k228_132 c119_24
        rw [if_neg (by decide)]
        by_cases n2 : kc L (a + 2) = 66
        · obtain ⟨o, o1, o2, o3, o4, o5⟩ := p5.rd n2 pl66
          have e200 : k200 k4 66 = (kf k4 4 (k4.1 4 + 1), 1) := by
            unfold k200
            rw [if_pos o3]
          rw [c64_yes o2, cbd_some (w := o.2.1) (by rw [o4]), o4, e200]
          show QC _ (k228_141 (kf k4 4 (k4.1 4 + 1)) (k2.1 4) 1).1 (rbd (some (c119_34 (nf s4 2 2 (xn (a + 1 + 1 + 1))) (c63 s3) p.2.1 o.2.1)) (fun _ w152 => c52_162 rc ((c119_34 (nf s4 2 2 (xn (a + 1 + 1 + 1))) (c63 s3) p.2.1 o.2.1).1) y))
          have g5 : GT t 1 0 0 0 (kf k4 4 (k4.1 4 + 1)) := g4.fr (F := 16) (A := 0) (kFr.sf kFr.refl rfl)
          generalize kf k4 4 (k4.1 4 + 1) = k5 at o5 g5
          generalize nf s4 2 2 (xn (a + 1 + 1 + 1)) = s5 at o5
          rw [rbd_th (w := 0) c119_34_2]
          unfold k228_141
          rw [if_neg (by decide)]
          have fk := fr_k229 k5 (k2.1 4 + 1)
          have h6 := o5.fr (fr_c119_34 s5 (c63 s3) p.2.1 o.2.1) fk rfl rfl rfl rfl rfl
          have m3 : dm L n (a + 3) := by
            rcases m2 with z | z
            · exact absurd ⟨n1, n2⟩ z
            · exact z
          exact hd n (a + 1 + 1 + 1) _ _ t (y + 1) h6 m3 (g5.fr fk) ht (by omega) (by omega)
        · have e53 : c53 s4 ≠ 66 := fun z => n2 (p5.kc0.1.symm.trans z)
          have ek : k183 k4 ≠ 66 := fun z => e53 ((p5.is (by decide) (by decide)).mpr z)
          rw [cbd_none (c64_no e53), rbd_thn (c64_no e53)]
          refine QC.thn ?_
          unfold k200
          rw [if_neg ek]
          unfold k228_141
          rw [if_pos (k194_f (by decide)).2.2]
          exact (k194_f (by decide)).1
      · have e53 : c53 s3 ≠ 1 := fun z => n1 (q5.kc0.1.symm.trans z)
        have ek : k183 k3 ≠ 1 := fun z => e53 ((q5.is (by decide) (by decide)).mpr z)
        rw [cbd_none (c64_no e53), rbd_thn (c64_no e53)]
        refine QC.thn ?_
        unfold k200
        rw [if_neg ek]
        unfold k228_132
        rw [if_pos (k194_f (by decide)).2.2]
        exact (k194_f (by decide)).1
/-- the loop of a block -/
def E52L (rc : cRC) (L : List xR) : Prop := ∀ {P : PT} (a : Nat) (s : cS) (k : kS) (X : List xF) (t v w : Nat) (y : Int32), SG L P k t v w a s k X (t + 1) v w → XB X → GT t 1 0 0 0 k → RO L a (t + 4) (v + 4) → 0 ≤ y.toInt → y.toInt ≤ a → QC (BP L P k t v w a X t v w) k (rc 52002 s 0 y 0 0 0 0 0)
def E52n (rc : cRC) : Prop := ∀ (s : cS) (y : Int32) (s' : cS) (o : Option Int32), (c53 s = 59 ∨ c53 s = 69) → rc 52002 s 0 y 0 0 0 0 0 = some (s', o) → s' = s ∧ o = some 0
theorem bk_no (h : c53 s = 59 ∨ c53 s = 69) {o : Option Int32} (e : c52_2 rc s y = some (s', o)) : s' = s ∧ o = some 0 := by
  rw [c52_kx (fun J hJ z => by
    rcases h with q | q <;> (rw [z] at q; rw [q] at hJ; exact absurd hJ (by decide)))] at e
  cases e
  exact ⟨rfl, rfl⟩
theorem bk_rnd (hL : E52L rc L) (hn : E52n rc) (hd : E52d rc L) (h59 : E59 rc L) (h128 : E128 rc L) (h130 : E130 rc L) (h133 : E133 rc L) (h134 : E134 rc L) (h138 : E138 rc L) (h144 : E144 rc L) (h145 : E145 rc L) (h146 : E146 rc L) (h147 : E147 rc L) (h150 : E150 rc L) (h : SG L P k t v w a s k X (t + 1) v w) (hB : XB X) (g : GT t 1 0 0 0 k) (hr : RO L a (t + 4) (v + 4)) (hy0 : 0 ≤ y.toInt) (hy : y.toInt ≤ a) : QC (BP L P k t v w a X t v w) k (c52_2 rc s y) := by
  have hle := h.le
  have ht : t + 8 ≤ 1000000 := by have := hr.1; omega
  have hv : v + 8 ≤ 1000000 := by have := hr.2; omega
  have ny : ¬ 16384 < y := by rw [i_lt]; have : (16384 : Int32).toInt = 16384 := rfl; omega
  have y1 : (y + 1).toInt = y.toInt + 1 := i_add rfl (show (1 : Int32).toInt = 1 from rfl) (by omega) (by omega)
  refine QC.pop g (by omega) ?_
  rw [k180_g1]
  have h1 := h.top (t' := t)
  generalize kf k 10 (xn t) = k1 at h1
  obtain ⟨h2, g2⟩ := h1.psh (g := 1) (p := 0) (q := 0) (c := 0) (Nat.le_refl _) (by omega)
  have e178 : (k178 k1).1 = (k179 k1 1 0 0 0).1 := rfl
  have hf := h1.fol.1
  have nxt : ∀ s1 k3 a1 X1, a < a1 → SG L P (k179 k1 1 0 0 0).1 (t + 1) v w a1 s1 k3 X1 (t + 1) v w → XQ X X1 → QC (BP L P k t v w a X t v w) k3 (c52_308 rc s1 y) := fun s1 k3 a1 X1 ha u1 u2 => by
    have hle1 := u1.le
    have h3 := h2.reb u1 (by omega) (Nat.le_refl _) (Nat.le_refl _)
    refine (hL a1 s1 k3 X1 t v w (y + 1) h3.own (hB.nxt u2) (g2.bck u1.2.2.1 u1.2.1.1) (hr.up (by omega)) (by omega) (by omega)).mono ?_
    rintro s5 k5 x5 (⟨a5, X5, z1, z2, z3⟩ | z)
    · exact Or.inl ⟨a5, X5, by omega, h3.reb z2 (Nat.le_refl _) (Nat.le_refl _) (Nat.le_refl _), u2.trans z3⟩
    · exact Or.inr z
  by_cases hfol : FOL (c53 s)
  · unfold k225
    rw [if_neg (hf.mp hfol), c52_kx (fun J hJ z => by
      rw [z] at hfol
      unfold FOL at hfol
      rcases hJ with q | q | q | q | q | q | q | q | q | q | q | q | q | q <;> (rw [q] at hfol; exact absurd hfol (by decide)))]
    exact QC.ret (Or.inl ⟨a, X, Nat.le_refl _, h1, XQ.refl hB⟩)
  have e226 : k226 k1 (k183 k1) = 0 := Decidable.not_not.mp (fun z => hfol (hf.mpr z))
  unfold k225
  rw [if_pos e226]
  have own2 : SG L P (k179 k1 1 0 0 0).1 (t + 1) v w a s (k179 k1 1 0 0 0).1 X (t + 1) v w := h2.own
  have hro : a < L.length → RO L (a + 1) (t + 1 + 8) (v + 8) := fun hlt => hr.nx hlt (by omega) (by omega)
  have kk : ∀ K : Int32, K ≠ 0 → K ≠ -1 → c53 s = K → K ≠ 27 → (if k183 k1 ≠ 27 then k225_28 (k178 k1).1 (k183 k1) else ((k227 k1).1, 0)).1 = (k228 (k179 k1 1 0 0 0).1 K).1 := fun K h0 h1' e e27 => by
    have ek : k183 k1 = K := (h1.is h0 h1').mp e
    rw [ek, if_pos e27]
    rfl
  by_cases c27 : c53 s = 27
  · rw [if_neg (fun z => z ((h1.is (by decide) (by decide)).mp c27)), c52_k27 c27 ny]
    refine (h150 a s k1 X t v w h1.own hB (hr.nx (h1.lt c27 (by decide)) (by omega) (by omega)) c27).bnd ?_
    rintro s5 k5 x5 (⟨a5, X5, z1, z2, z3⟩ | z)
    · exact QC.ret (Or.inl ⟨a5, X5, z1, h1.reb z2 (Nat.le_refl _) (Nat.le_refl _) (Nat.le_refl _), z3⟩)
    · exact QC.ret (Or.inr z)
  have spn : ∀ (fc : cS → Option (cS × Option Int32)) (q : Option (cS × Option Int32)) (K : kS), (∀ s1, fc s1 = c52_308 rc s1 y) → QC (SP L P (k179 k1 1 0 0 0).1 (t + 1) v w a X) K q → QC (BP L P k t v w a X t v w) K (rbd q (fun s1 _ => fc s1)) := fun fc q K hfc hq => by
    refine hq.bnd ?_
    rintro s5 k5 x5 ⟨a5, X5, z1, z2, z3⟩
    rw [hfc]
    exact nxt s5 k5 a5 X5 z1 z2 z3
  have e4 := h.at4
  have kd1 := h.1.1.kdc (i := a + 1) (by omega)
  have kd2 := h.1.1.kdc (i := a + 2) (by omega)
  have asg : a < L.length → QC (BP L P k t v w a X t v w) (k201 ((k179 ((k179 (k179 k1 1 0 0 0).1 21 0 ((k179 k1 1 0 0 0).1.1 20) 0).1) 28 0 0 0).1)).1 (rbd (rc 59 s 0 0 0 0 0 0 0) (fun s11 w9 => c52_155 rc s11 y)) := fun hlt => by
    refine (h59 a s (k179 k1 1 0 0 0).1 X (t + 1) v w own2 hB (hro hlt)).bnd ?_
    rintro s5 k5 x5 (⟨a5, X5, z1, z2, z3⟩ | ⟨z1, z2⟩)
    · exact nxt s5 k5 a5 X5 z1 z2 z3
    · intro s6 o6 e6
      obtain ⟨q1, q2⟩ := hn s5 (y + 1) s6 o6 z2 e6
      rw [q1, q2]
      refine ⟨fun x _ => ⟨0, Or.inr ⟨z1, fun q => ?_⟩⟩, fun z => nomatch z⟩
      unfold FOL at q
      rcases z2 with z | z <;> (rw [z] at q; exact absurd q (by decide))
  by_cases c1 : c53 s = 1
  · rw [kk 1 (by decide) (by decide) c1 (by decide), c52_k1 c1 ny, k228_kx (fun J hJ => by rcases hJ with q | q | q | q | q | q | q | q | q | q | q <;> (rw [q]; decide))]
    exact asg (h1.lt c1 (by decide))
  by_cases c60 : c53 s = 60
  · rw [kk 60 (by decide) (by decide) c60 (by decide), c52_k60 c60 ny, k228_kx (fun J hJ => by rcases hJ with q | q | q | q | q | q | q | q | q | q | q <;> (rw [q]; decide))]
    exact asg (h1.lt c60 (by decide))
  by_cases c11 : c53 s = 11
  · rw [kk 11 (by decide) (by decide) c11 (by decide), c52_k11 c11 ny]
    exact st_brk (fc := fun s1 => c52_308 rc s1 y) own2 hB c11 nxt
  by_cases c12 : c53 s = 12
  · rw [kk 12 (by decide) (by decide) c12 (by decide), c52_k12 c12 ny]
    exact st_do (fc := fun s1 => c52_308 rc s1 y) h128 own2 hB (hro (h1.lt c12 (by decide))) c12 nxt
  by_cases c17 : c53 s = 17
  · rw [kk 17 (by decide) (by decide) c17 (by decide), c52_k17 c17 ny]
    have e : c93 s (c63 s + 2) = kc L (a + 2) := by
      rw [e4.2, ← i2_add, xn_succ (by omega), xn_succ (by omega)]
      exact kd2.1
    rw [e]
    by_cases c59 : kc L (a + 2) = 59
    · rw [if_neg (fun z => z c59)]
      exact spn (fun s1 => c52_250 rc s1 y) _ _ (fun _ => rfl) (h138 a s _ X (t + 1) v w own2 hB (hro (h1.lt c17 (by decide))) c17 c59)
    · rw [if_pos c59]
      exact spn (fun s1 => c52_257 rc s1 y) _ _ (fun _ => rfl) (h144 a s _ X (t + 1) v w own2 hB (hro (h1.lt c17 (by decide))) c17 c59)
  by_cases c18 : c53 s = 18
  · rw [kk 18 (by decide) (by decide) c18 (by decide), c52_k18 c18 ny]
    exact spn (fun s1 => c52_264 rc s1 y) _ _ (fun _ => rfl) (h145 a s _ X (t + 1) v w own2 hB (hro (h1.lt c18 (by decide))) c18)
  by_cases c19 : c53 s = 19
  · rw [kk 19 (by decide) (by decide) c19 (by decide), c52_k19 c19 ny]
    exact st_go (fc := fun s1 => c52_308 rc s1 y) own2 hB c19 nxt
  by_cases c20 : c53 s = 20
  · rw [kk 20 (by decide) (by decide) c20 (by decide), c52_k20 c20 ny]
    exact spn (fun s1 => c52_222 rc s1 y) _ _ (fun _ => rfl) (h134 a s _ X (t + 1) v w own2 hB (hro (h1.lt c20 (by decide))) c20)
  by_cases c22 : c53 s = 22
  · rw [kk 22 (by decide) (by decide) c22 (by decide), c52_k22 c22 ny]
    have e : c93 s (c63 s + 1) = kc L (a + 1) := by
      rw [e4.2, xn_succ (by omega)]
      exact kd1.1
    rw [e]
    by_cases c18' : kc L (a + 1) = 18
    · rw [if_neg (fun z => z c18')]
      exact spn (fun s1 => c52_292 rc s1 y) _ _ (fun _ => rfl) (h146 a s _ X (t + 1) v w own2 hB (hro (h1.lt c22 (by decide))) c22 c18')
    · rw [if_pos c18']
      exact spn (fun s1 => c52_299 rc s1 y) _ _ (fun _ => rfl) (h147 a s _ X (t + 1) v w own2 hB (hro (h1.lt c22 (by decide))) c22 c18')
  by_cases c26 : c53 s = 26
  · rw [kk 26 (by decide) (by decide) c26 (by decide), c52_k26 c26 ny]
    exact spn (fun s1 => c52_215 rc s1 y) _ _ (fun _ => rfl) (h133 a s _ X (t + 1) v w own2 hB (hro (h1.lt c26 (by decide))) c26)
  by_cases c31 : c53 s = 31
  · rw [kk 31 (by decide) (by decide) c31 (by decide), c52_k31 c31 ny]
    exact spn (fun s1 => c52_208 rc s1 y) _ _ (fun _ => rfl) (h130 a s _ X (t + 1) v w own2 hB (hro (h1.lt c31 (by decide))) c31)
  by_cases c66 : c53 s = 66
  · rw [kk 66 (by decide) (by decide) c66 (by decide), c52_k66 c66 ny]
    refine st_lab (fc := fun s1 => c52_308 rc s1 y) own2 hB c66 nxt ?_
    intro s1 k3 a1 ha w1 w2 w3 w4
    have hle1 : a1 ≤ L.length := w1.2.2.1.2.2
    exact (hd _ a1 s1 k3 t (y + 1) w1 w4 (g2.bck w3 w2.1) (by omega) (by omega) (by omega)).mono (fun _ _ _ z => z.elim)
  by_cases c67 : c53 s = 67
  · rw [kk 67 (by decide) (by decide) c67 (by decide), c52_k67 c67 ny]
    exact st_semi (fc := fun s1 => c52_308 rc s1 y) own2 hB c67 nxt
  have hno : ∀ J : Int32, (J = 1 ∨ J = 11 ∨ J = 12 ∨ J = 17 ∨ J = 18 ∨ J = 19 ∨ J = 20 ∨ J = 22 ∨ J = 26 ∨ J = 27 ∨ J = 31 ∨ J = 60 ∨ J = 66 ∨ J = 67) → c53 s ≠ J := fun J hJ z => by
    rcases hJ with q | q | q | q | q | q | q | q | q | q | q | q | q | q
    · exact c1 (z.trans q)
    · exact c11 (z.trans q)
    · exact c12 (z.trans q)
    · exact c17 (z.trans q)
    · exact c18 (z.trans q)
    · exact c19 (z.trans q)
    · exact c20 (z.trans q)
    · exact c22 (z.trans q)
    · exact c26 (z.trans q)
    · exact c27 (z.trans q)
    · exact c31 (z.trans q)
    · exact c60 (z.trans q)
    · exact c66 (z.trans q)
    · exact c67 (z.trans q)
  have hk : ∀ J : Int32, J ≠ 0 → J ≠ -1 → c53 s ≠ J → k183 k1 ≠ J := fun J j0 j1 hj z => hj ((h1.is j0 j1).mpr z)
  rw [c52_kx hno, if_pos (hk 27 (by decide) (by decide) c27)]
  refine QC.ret (Or.inr ⟨?_, hfol⟩)
  show (k228 (k179 k1 1 0 0 0).1 (k183 k1)).1.1 6 ≠ 0
  rw [k228_kx (fun J hJ => hk J (by rcases hJ with q | q | q | q | q | q | q | q | q | q | q <;> (rw [q]; decide)) (by rcases hJ with q | q | q | q | q | q | q | q | q | q | q <;> (rw [q]; decide)) (hno J (by rcases hJ with q | q | q | q | q | q | q | q | q | q | q <;> (rw [q]; decide))))]
  have e183 : ∀ k5 : kS, kFr 1024 30720 k1 k5 → k183 k5 = k183 k1 := fun k5 f5 => by
    show k184 _ _ = k184 _ _
    unfold k184
    rw [f5.1 4 rfl, f5.1 0 rfl]
    unfold kr
    rw [f5.2 1 rfl]
  have f5 := ((fr_k179 k1 1 0 0 0).trans (fr_k179 _ 21 0 ((k179 k1 1 0 0 0).1.1 20) 0)).trans (fr_k179 _ 28 0 0 0)
  generalize (k179 (k179 (k179 k1 1 0 0 0).1 21 0 ((k179 k1 1 0 0 0).1.1 20) 0).1 28 0 0 0).1 = k5 at f5
  have e5 := e183 k5 f5
  have n1 : k183 k5 ≠ 1 := by rw [e5]; exact hk 1 (by decide) (by decide) c1
  have n60 : k183 k5 ≠ 60 := by rw [e5]; exact hk 60 (by decide) (by decide) c60
  unfold k201
  rw [if_pos n1]
  have e193 : k193 k5 60 = ((k194 k5 7).1, (k194 k5 7).2) := by
    unfold k193
    rw [if_neg n60]
  rw [e193]
  unfold k201_37
  rw [if_pos (k194_f (by decide)).2.2]
  exact (k194_f (by decide)).1
end BLD
