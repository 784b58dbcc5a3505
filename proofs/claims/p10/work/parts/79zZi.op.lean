/-! EXPRESSIONS IN THE REFERENCE: a binary operator -/
/-- what is written when an operator is put there -/
def kpO (K : Int32) : List xR := if K = 10 then [(15, 0, 0, 0)] else if K = 25 then [(16, 0, 0, 0)] else []
section PBO
variable {k k' : kS} {t v w : Nat} {G : List gQ}
/-- a bound, what will be done with the value, and a value that is due -/
theorem pb_push {k2 kB : kS} {g x y lim' : Int32} (hE : EB t G k2) (h10 : k2.1 10 = xn (t + 2 * G.length)) (ht : t + 2 * G.length + 6 ≤ 1000000) (hB : kFr 295147905179352858624 18300323042624482050048 (k179 k2 24 (lmt G) 0 0).1 kB) (h15 : kB.1 15 = xn (v + n25 ((lim', g, x, y) :: G))) (hn : NV v ((lim', g, x, y) :: G) kB) (hg : g = 25 ∨ g = 26 ∨ g = 27) (hl : 0 ≤ lim') : PB t v ((lim', g, x, y) :: G) (k179 (k179 kB g x y 0).1 23 lim' 0 0).1 ∧ (∀ w, KB t v w k2 (k179 (k179 kB g x y 0).1 23 lim' 0 0).1) ∧ kFr 295147905179352859648 18300323042624482080768 k2 (k179 (k179 kB g x y 0).1 23 lim' 0 0).1 := by
  have hL : ((lim', g, x, y) :: G).length = G.length + 1 := rfl
  have p1 := fun w => GT.psh (t := t + 2 * G.length) (v := v) (w := w) (g := 24) (a := lmt G) (b := 0) (c := 0) h10 (by omega)
  have f1 : kFr 295147905179352859648 18300323042624482080768 k2 (k179 k2 24 (lmt G) 0 0).1 := kFr.sf (kFr.sa (kFr.sa (kFr.sa (kFr.sa kFr.refl rfl) rfl) rfl) rfl) rfl
  have ea1 : EA t G (k179 k2 24 (lmt G) 0 0).1 := EA_iff.mpr ⟨hE.kb (p1 0).2, (p1 0).1.2.1, (p1 0).1.2.2.1⟩
  generalize (k179 k2 24 (lmt G) 0 0).1 = kA at hB p1 f1 ea1
  have bB : ∀ T w, KB T v w kA kB := fun T w => KB.fr hB rfl
  have f2 : kFr 295147905179352859648 18300323042624482080768 kA kB := hB.mono rfl rfl
  have eB : kB.1 10 = xn (t + 2 * G.length + 1) := (hB.1 10 rfl).trans (p1 0).1.1
  have p3 := fun w => GT.psh (t := t + 2 * G.length + 1) (v := v) (w := w) (g := g) (a := x) (b := y) (c := 0) eB (by omega)
  have f3 : kFr 295147905179352859648 18300323042624482080768 kB (k179 kB g x y 0).1 := kFr.sf (kFr.sa (kFr.sa (kFr.sa (kFr.sa kFr.refl rfl) rfl) rfl) rfl) rfl
  have s15 : (k179 kB g x y 0).1.1 15 = kB.1 15 := rfl
  generalize (k179 kB g x y 0).1 = kC at p3 f3 s15
  have p4 := fun w => GT.psh (t := t + 2 * G.length + 1 + 1) (v := v) (w := w) (g := 23) (a := lim') (b := 0) (c := 0) (p3 0).1.1 (by omega)
  have f4 : kFr 295147905179352859648 18300323042624482080768 kC (k179 kC 23 lim' 0 0).1 := kFr.sf (kFr.sa (kFr.sa (kFr.sa (kFr.sa kFr.refl rfl) rfl) rfl) rfl) rfl
  have ea : EA t G (k179 kC 23 lim' 0 0).1 := ((ea1.kb (bB _ 0)).kb (p3 0).2).kb ((p4 0).2.mono (by omega) (Nat.le_refl _) (Nat.le_refl _))
  refine ⟨⟨⟨hl, ?_, hg, ea⟩, ?_, ?_, ?_, ?_, hn.same ((f4.2 16 rfl).trans (f3.2 16 rfl))⟩, fun w => ?_, f1.trans (f2.trans (f3.trans f4))⟩
  · exact ⟨((p4 0).2.1 11 _ (by decide) (by omega)).trans (p3 0).1.2.1, ((p4 0).2.1 12 _ (by decide) (by omega)).trans (p3 0).1.2.2.1, ((p4 0).2.1 13 _ (by decide) (by omega)).trans (p3 0).1.2.2.2.1⟩
  · rw [hL, show t + 2 * (G.length + 1) = t + 2 * G.length + 1 + 1 by omega]
    exact (p4 0).1.2.1
  · rw [hL, show t + 2 * (G.length + 1) = t + 2 * G.length + 1 + 1 by omega]
    exact (p4 0).1.2.2.1
  · rw [hL, show t + 2 * (G.length + 1) + 1 = t + 2 * G.length + 1 + 1 + 1 by omega]
    exact (p4 0).1.1
  · show kC.1 15 = _
    rw [s15]
    exact h15
  · exact ((p1 w).2.mono (by omega) (Nat.le_refl _) (Nat.le_refl _)).trans ((bB t w).trans (((p3 w).2.mono (by omega) (Nat.le_refl _) (Nat.le_refl _)).trans ((p4 w).2.mono (by omega) (Nat.le_refl _) (Nat.le_refl _))))
/-- the operator is let through -/
theorem pb_op (h : ES t v G k) (hl : k.2 12 (t + 2 * G.length) < k203 k (k183 k)) (ht : t + 2 * G.length + 6 ≤ 1000000) (hv : v + n25 G ≤ 1000000) : ∃ q, PB t v (q :: G) (kst k) ∧ n25 (q :: G) ≤ n25 G + 1 ∧ (kst k).1 4 = k.1 4 + 1 ∧ (∀ w, KB t v w k (kst k)) ∧ kFr 38078691454154941957136 18586247575766980196352 k (kst k) ∧ (q.1 = k208 k (k183 k) ∧ ((q.2.1 = 26 ∧ (k183 k = 10 ∨ k183 k = 25)) ∨ (q.2.1 = 25 ∧ ¬ (k183 k = 10 ∨ k183 k = 25) ∧ q.2.2.1 = k183 k ∧ q.2.2.2 = k.1 4))) ∧ ∃ k0, kFr 1040 0 k k0 ∧ k0.1 4 = k.1 4 + 1 ∧ k0.1 15 = xn (v + n25 G + 1) ∧ (∀ d L a s X, RWp none d L a s (k204 k0).1 X → RWp none (d.1, d.2.1 ++ kpO (k183 k), d.2.2) L a s (kst k) X ∧ ∀ f r, X = f :: r → q.2.1 = 26 → JG q.2.2.1.toNatClampNeg (f.1 - 1) (kst k)) := by
  obtain ⟨h1, h2, h3, hnv⟩ := h
  obtain ⟨e1, e2, e3⟩ := EA_iff.mp h1
  rw [e3] at hl
  obtain ⟨k0, hk0⟩ : ∃ k0, k0 = kf (kf k 10 (xn (t + 2 * G.length))) 4 (k.1 4 + 1) := ⟨_, rfl⟩
  have f0 : kFr 38078691454154941957136 18586247575766980196352 k k0 := by rw [hk0]; exact kFr.sf (kFr.sf kFr.refl rfl) rfl
  have k15 : k0.1 15 = xn (v + n25 G + 1) := by rw [hk0]; exact h3
  have g0 : kFr 1040 0 k k0 := by rw [hk0]; exact kFr.sf (kFr.sf kFr.refl rfl) rfl
  have k10 : k0.1 10 = xn (t + 2 * G.length) := by rw [hk0]; rfl
  have k4 : k0.1 4 = k.1 4 + 1 := by rw [hk0]; rfl
  have b0 : ∀ T w, KB T v w k k0 := fun T w => by rw [hk0]; exact KB.refl
  have est : kst k = (k202_33 (k204 k0).1 (lmt G) (k183 k) (k.1 4)).1 := by
    rw [kst_pop (t := t + 2 * G.length) ⟨h2, e2, e3, rfl, rfl⟩ (by omega), k180_24]
    unfold k202
    rw [if_pos (show lmt G < k203 (kf k 10 (xn (t + 2 * G.length))) (k183 (kf k 10 (xn (t + 2 * G.length)))) from hl), hk0]
    rfl
  have f2 := fr_k204 k0
  have b2 : ∀ T w, KB T v w k0 (k204 k0).1 := fun T w => KB.q k204_q (fun i hi => k204_16 k15 hv (by omega))
  have s15 : (k204 k0).1.1 15 = xn (v + n25 G + 1) := (f2.1 15 rfl).trans k15
  have s10 : (k204 k0).1.1 10 = xn (t + 2 * G.length) := (f2.1 10 rfl).trans k10
  have s4 : (k204 k0).1.1 4 = k.1 4 + 1 := (f2.1 4 rfl).trans k4
  have hE : EB t G (k204 k0).1 := (e1.kb (b0 _ 0)).kb (b2 _ 0)
  have fk : kFr 38078691454154941957136 18586247575766980196352 k (k204 k0).1 := f0.trans (f2.mono rfl rfl)
  have bk : ∀ T w, KB T v w k (k204 k0).1 := fun T w => (b0 T w).trans (b2 T w)
  have n16 : ∀ i, v ≤ i → i < v + n25 G → (k204 k0).1.2 16 i = 0 := fun i i1 i2 => by
    rw [k204_16 k15 hv (by omega), g0.2 16 (Nat.zero_testBit _)]
    exact hnv i i1 i2
  have n16v : (k204 k0).1.2 16 (v + n25 G) = 0 := k204_16v k15 hv
  rw [est]
  have k2e : ∃ k2, k2 = (k204 k0).1 := ⟨_, rfl⟩
  obtain ⟨k2, k2e⟩ := k2e
  rw [← k2e] at s15 s10 s4 hE fk bk n16 n16v ⊢
  have fin : ∀ (g x y lim' : Int32) (kB : kS), kFr 295147905179352858624 18300323042624482050048 (k179 k2 24 (lmt G) 0 0).1 kB → kB.1 15 = xn (v + n25 ((lim', g, x, y) :: G)) → NV v ((lim', g, x, y) :: G) kB → (lim' = k208 k (k183 k) ∧ ((g = 26 ∧ (k183 k = 10 ∨ k183 k = 25)) ∨ (g = 25 ∧ ¬ (k183 k = 10 ∨ k183 k = 25) ∧ x = k183 k ∧ y = k.1 4))) → (∀ d L a s X, RWp none d L a s k2 X → RWp none (d.1, d.2.1 ++ kpO (k183 k), d.2.2) L a s kB X ∧ ∀ f r, X = f :: r → g = 26 → JG x.toNatClampNeg (f.1 - 1) kB) → (g = 25 ∨ g = 26 ∨ g = 27) → 0 ≤ lim' → n25 ((lim', g, x, y) :: G) ≤ n25 G + 1 → (k202_33 k2 (lmt G) (k183 k) (k.1 4)).1 = (k179 (k179 kB g x y 0).1 23 lim' 0 0).1 → ∃ q, PB t v (q :: G) (k202_33 k2 (lmt G) (k183 k) (k.1 4)).1 ∧ n25 (q :: G) ≤ n25 G + 1 ∧ (k202_33 k2 (lmt G) (k183 k) (k.1 4)).1.1 4 = k.1 4 + 1 ∧ (∀ w, KB t v w k (k202_33 k2 (lmt G) (k183 k) (k.1 4)).1) ∧ kFr 38078691454154941957136 18586247575766980196352 k (k202_33 k2 (lmt G) (k183 k) (k.1 4)).1 ∧ (q.1 = k208 k (k183 k) ∧ ((q.2.1 = 26 ∧ (k183 k = 10 ∨ k183 k = 25)) ∨ (q.2.1 = 25 ∧ ¬ (k183 k = 10 ∨ k183 k = 25) ∧ q.2.2.1 = k183 k ∧ q.2.2.2 = k.1 4))) ∧ ∃ k0, kFr 1040 0 k k0 ∧ k0.1 4 = k.1 4 + 1 ∧ k0.1 15 = xn (v + n25 G + 1) ∧ (∀ d L a s X, RWp none d L a s (k204 k0).1 X → RWp none (d.1, d.2.1 ++ kpO (k183 k), d.2.2) L a s (k202_33 k2 (lmt G) (k183 k) (k.1 4)).1 X ∧ ∀ f r, X = f :: r → q.2.1 = 26 → JG q.2.2.1.toNatClampNeg (f.1 - 1) (k202_33 k2 (lmt G) (k183 k) (k.1 4)).1) := fun g x y lim' kB z1 z2 zn zo zt z3 z4 z5 z6 => by
    obtain ⟨y1, y2, y3⟩ := pb_push (x := x) (y := y) hE s10 ht z1 z2 zn z3 z4
    rw [z6]
    refine ⟨(lim', g, x, y), y1, z5, (y3.1 4 rfl).trans s4, fun w => (bk t w).trans (y2 w), fk.trans (y3.mono rfl rfl), zo, k0, g0, k4, k15, fun d L a s X h => ?_⟩
    rw [← k2e] at h
    obtain ⟨q1, q2⟩ := zt d L a s X h
    refine ⟨(q1.fr (cFr.refl (F := 0) (T := 0) (B := 0) (G := 0)) (fr_k179 kB g x y 0)).fr (cFr.refl (F := 0) (T := 0) (B := 0) (G := 0)) (fr_k179 _ 23 lim' 0 0), fun f r e c => ?_⟩
    exact ((q2 f r e c).fr (fr_k179 kB g x y 0) rfl rfl).fr (fr_k179 _ 23 lim' 0 0) rfl rfl
  have n26 : ∀ x y : Int32, n25 ((k208 k (k183 k), 26, x, y) :: G) = n25 G := fun x y => by show n25 G + (if (26 : Int32) = 25 then 1 else 0) = _; rw [if_neg (by decide)]; rfl
  have n25' : ∀ x y : Int32, n25 ((k208 k (k183 k), 25, x, y) :: G) = n25 G + 1 := fun x y => by show n25 G + (if (25 : Int32) = 25 then 1 else 0) = _; rw [if_pos rfl]
  have m15 : xn (v + n25 G + 1) - 1 = xn (v + n25 G) := by
    have := xn_sub (n := 1) (m := v + n25 G) (by omega)
    rw [Nat.add_comm 1] at this
    exact this
  have two : ∀ z x y : Int32, kFr 295147905179352858624 18300323042624482050048 (k179 k2 24 (lmt G) 0 0).1 (k189 (kf (k179 k2 24 (lmt G) 0 0).1 15 ((k179 k2 24 (lmt G) 0 0).1.1 15 - 1)) z 0 0 0).1 ∧ (k189 (kf (k179 k2 24 (lmt G) 0 0).1 15 ((k179 k2 24 (lmt G) 0 0).1.1 15 - 1)) z 0 0 0).1.1 15 = xn (v + n25 ((k208 k (k183 k), 26, x, y) :: G)) := fun z x y => by
    refine ⟨(kFr.sf kFr.refl rfl).trans ((fr_k189 _ _ _ _ _).mono rfl rfl), ?_⟩
    rw [(fr_k189 _ _ _ _ _).1 15 rfl, n26]
    show k2.1 15 - 1 = _
    rw [s15, m15]
  have nv2 : ∀ z x y : Int32, NV v ((k208 k (k183 k), 26, x, y) :: G) (k189 (kf (k179 k2 24 (lmt G) 0 0).1 15 ((k179 k2 24 (lmt G) 0 0).1.1 15 - 1)) z 0 0 0).1 := fun z x y i i1 i2 => by
    rw [n26] at i2
    rw [(fr_k189 _ _ _ _ _).2 16 rfl]
    exact n16 i i1 i2
  have nv1 : ∀ x y : Int32, NV v ((k208 k (k183 k), 25, x, y) :: G) (k179 k2 24 (lmt G) 0 0).1 := fun x y i i1 i2 => by
    rw [n25'] at i2
    show k2.2 16 i = 0
    by_cases z : i = v + n25 G
    · rw [z, n16v]
    · exact n16 i i1 (by omega)
  have tr2 : ∀ z : Int32, kpO (k183 k) = [(z, 0, 0, 0)] → ∀ d L a s X, RWp none d L a s k2 X → RWp none (d.1, d.2.1 ++ kpO (k183 k), d.2.2) L a s (k189 (kf (k179 k2 24 (lmt G) 0 0).1 15 ((k179 k2 24 (lmt G) 0 0).1.1 15 - 1)) z 0 0 0).1 X ∧ ∀ f r, X = f :: r → (26 : Int32) = 26 → JG (k189 (kf (k179 k2 24 (lmt G) 0 0).1 15 ((k179 k2 24 (lmt G) 0 0).1.1 15 - 1)) z 0 0 0).2.toNatClampNeg (f.1 - 1) (k189 (kf (k179 k2 24 (lmt G) 0 0).1 15 ((k179 k2 24 (lmt G) 0 0).1.1 15 - 1)) z 0 0 0).1 := fun z hK d L a s X h => by
    have f15 : kFr 32768 0 (k179 k2 24 (lmt G) 0 0).1 (kf (k179 k2 24 (lmt G) 0 0).1 15 ((k179 k2 24 (lmt G) 0 0).1.1 15 - 1)) := kFr.sf kFr.refl rfl
    have h1 := (h.fr (cFr.refl (F := 0) (T := 0) (B := 0) (G := 0)) (fr_k179 k2 24 (lmt G) 0 0)).fr (cFr.refl (F := 0) (T := 0) (B := 0) (G := 0)) f15
    rw [hK]
    refine ⟨h1.put, fun f r e _ => ?_⟩
    subst e
    obtain ⟨R, -, r2⟩ := h1.2.2.2.2.2.2.2
    exact k189_g r2 (own_k h1.2.1 h1.szn).1
  by_cases c1 : k183 k = 10
  · refine fin 26 (k189 (kf (k179 k2 24 (lmt G) 0 0).1 15 ((k179 k2 24 (lmt G) 0 0).1.1 15 - 1)) 15 0 0 0).2 0 (k208 k (k183 k)) _ (two 15 0 0).1 (two 15 _ _).2 (nv2 15 _ _) ⟨rfl, Or.inl ⟨rfl, Or.inl c1⟩⟩ (tr2 15 (by unfold kpO; rw [if_pos c1])) (Or.inr (Or.inl rfl)) k208_0 (by rw [n26]; omega) ?_
    unfold k202_33 k202_42
    rw [if_pos c1]
    unfold k202_54
    rw [if_neg (fun z => z c1)]
    rfl
  · by_cases c2 : k183 k = 25
    · refine fin 26 (k189 (kf (k179 k2 24 (lmt G) 0 0).1 15 ((k179 k2 24 (lmt G) 0 0).1.1 15 - 1)) 16 0 0 0).2 0 (k208 k (k183 k)) _ (two 16 0 0).1 (two 16 _ _).2 (nv2 16 _ _) ⟨rfl, Or.inl ⟨rfl, Or.inr c2⟩⟩ (tr2 16 (by unfold kpO; rw [if_neg c1, if_pos c2])) (Or.inr (Or.inl rfl)) k208_0 (by rw [n26]; omega) ?_
      unfold k202_33 k202_42
      rw [if_neg c1, if_neg (fun z => z c2)]
      unfold k202_54
      rw [if_pos c1]
      rfl
    · refine fin 25 (k183 k) (k.1 4) (k208 k (k183 k)) (k179 k2 24 (lmt G) 0 0).1 kFr.refl ?_ (nv1 _ _) ⟨rfl, Or.inr ⟨rfl, fun q => q.elim c1 c2, rfl, rfl⟩⟩ (fun d L a s X h => by
        have e0 : kpO (k183 k) = [] := by unfold kpO; rw [if_neg c1, if_neg c2]
        rw [e0, List.append_nil]
        exact ⟨h.fr (cFr.refl (F := 0) (T := 0) (B := 0) (G := 0)) (fr_k179 k2 24 (lmt G) 0 0), fun f r e c => absurd c (by decide)⟩) (Or.inl rfl) k208_0 (by rw [n25']; omega) ?_
      · rw [n25']
        show k2.1 15 = _
        rw [s15]
        rfl
      · unfold k202_33 k202_42
        rw [if_neg c1, if_pos c2]
        rfl
end PBO
