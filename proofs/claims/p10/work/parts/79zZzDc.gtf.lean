section GTM
variable {H : List hE} {s s' : cS} {k k' : kS} {f : xF} {r : List xF} {b : xB} {bs : List xB}
theorem and_imp3 {A B C P Q : Prop} : (A → B → C → P ∧ Q) ↔ (A → B → C → P) ∧ (A → B → C → Q) := ⟨fun h => ⟨fun a b c => (h a b c).1, fun a b c => (h a b c).2⟩, fun h a b c => ⟨h.1 a b c, h.2 a b c⟩⟩
theorem k33_put {x0 : Nat} {a b c e : Int32} (q : kr k 33 (k.1 32) = xn x0) : kr (k189 k a b c e).1 33 ((k189 k a b c e).1.1 32) = xn x0 := by
  have f := fr_k189 k a b c e
  unfold kr at q ⊢
  rw [f.1 32 rfl, f.2 33 rfl]
  exact q
theorem k40_at (h : XK k (f :: r)) (hz : SZ (f :: r)) (hb : f.2.2.2.1 = b :: bs) (hk : b.2.2.2 ≠ 2) : kr k 40 (k.1 37 - 1) = xn ((fUm r).length + (bUm bs).length) := by
  have hzk := hz.k
  obtain ⟨-, ⟨h3, h4⟩, -⟩ := h
  generalize hB0 : fkBl r ++ kBl (kL r).length (fLab r).length (fUm r).length r.length bs = B0
  have eB : fkBl (f :: r) = B0 ++ [(xn ((kL r).length + b.1), xn ((fLab r).length + (bLab bs).length), xn ((fUm r).length + (bUm bs).length), xn r.length, if b.2.2.2 = 1 then 1 else 0)] := by
    show fkBl r ++ kBl _ _ _ _ f.2.2.2.1 = _
    rw [hb, ← hB0]
    show fkBl r ++ (if b.2.2.2 = 2 then _ else _) = _
    rw [if_neg hk, List.append_assoc]
  have zB : (fkBl (f :: r)).length = B0.length + 1 := by rw [eB, List.length_append]; rfl
  have hrow := h4 B0.length _ (by rw [eB, List.getElem?_append_right (Nat.le_refl _), Nat.sub_self]; rfl)
  have e37 : k.1 37 - 1 = xn B0.length := by
    rw [h3, zB]
    have := xn_sub (n := 1) (m := B0.length) (by omega)
    rw [Nat.add_comm 1] at this
    exact this
  rw [e37]
  show k.2 40 (xn B0.length).toNatClampNeg = _
  rw [xn_nat (by omega)]
  exact hrow.2.2.1
/-- both write the two rows of a goto -/
theorem NR.gt2 {V1 V2 z1 : Int32} (h : NR 0 ([], []) H s k (f :: r)) (hn : s.now = f.1) (h1f : 1 ≤ f.1) (hf6 : f.1 ≤ 1000000) (h33 : kr k 33 (k.1 32) = xn (f.1 - 1)) (hx5 : ((f.1 - 1 : Nat) : Int) < (k.1 53).toInt) (h53 : (k.1 53).toInt ≤ 1000000) (hs' : s' = (c78 (c78 s 33 0 0 0).1 36 0 0 0).1) (hk' : k' = (k189 (k189 k 33 V1 0 0).1 36 V2 0 0).1) (hz1 : z1 = (k189 k 33 V1 0 0).2) : ∃ i2 g2, NR 0 ([], []) ((f.1 - 1, i2, 1, g2, 0, V2) :: (f.1 - 1, (s.r (.i f.1)).toNatClampNeg, 1, z1.toNatClampNeg, 0, V1) :: H) s' k' (f :: r) ∧ (k'.1 8 = 0 → (k'.1 68).toInt < 65536 → FL s' k' → i2 = (s.r (.i f.1)).toNatClampNeg + 1 ∧ g2 = z1.toNatClampNeg + 1 ∧ z1.toNatClampNeg ≤ 65536 ∧ (s.r (.i f.1)).toInt = (s.r (.i f.1)).toNatClampNeg ∧ (s.r (.i f.1)).toNatClampNeg ≤ 1048576) ∧ (k'.1 8 = 0 → (k'.1 68).toInt < 65536 → FL s' k' → z1 = xn z1.toNatClampNeg) := by
  have e1 : f.1 - 1 + 1 = f.1 := by omega
  have n1 : (c78 s 33 0 0 0).1.now = f.1 := by rw [c78_now]; exact hn
  have f1 := fr_k189 k 33 V1 0 0
  have hx6 : ((f.1 - 1 : Nat) : Int) < ((k189 k 33 V1 0 0).1.1 53).toInt := by rw [f1.1 53 rfl]; exact hx5
  have h54 : ((k189 k 33 V1 0 0).1.1 53).toInt ≤ 1000000 := by rw [f1.1 53 rfl]; exact h53
  have q1 := (h.cle (a := 33) (b := 0) (c := 0) (e := 0)).putn (a := 33) (b := V1) (c := 0) (e := 0) h33 (by rw [n1]; omega) hx5 h53
  have ci := c78_i (b1 := 33) (b2 := 0) (b3 := 0) (b4 := 0) h.1 hn
  have jg := k189_g (b1 := 33) (b2 := V1) (b3 := 0) (b4 := 0) h h33
  rw [← hz1] at jg
  have ez : z1 = (k189 k 33 V1 0 0).1.1 68 - 1 := by
    rw [hz1]
    unfold k189
    split <;> rfl
  have q2 := NR.hol (x := f.1 - 1) (i := (s.r (.i f.1)).toNatClampNeg) (j := 1) q1 (by rw [n1]; omega) (by rw [e1]; exact ci) jg (Or.inl rfl) rfl rfl (fun q => absurd rfl q) (fun _ => rfl) (by unfold jmp; decide) hx6
  have q2 : NR 0 ([], []) ((f.1 - 1, (s.r (.i f.1)).toNatClampNeg, 1, z1.toNatClampNeg, 0, V1) :: H) (c78 s 33 0 0 0).1 (k189 k 33 V1 0 0).1 (f :: r) := q2
  have p33 := k33_put (a := 33) (b := V1) (c := 0) (e := 0) h33
  have nn := h.1 f.1
  generalize (k189 k 33 V1 0 0).1 = k1 at q2 jg hx6 h54 p33 hk' ez
  generalize (c78 s 33 0 0 0).1 = s1 at q2 ci n1 hs'
  have f2 := fr_k189 k1 36 V2 0 0
  have n2 : (c78 s1 36 0 0 0).1.now = f.1 := by rw [c78_now]; exact n1
  have q3 := (q2.cle (a := 36) (b := 0) (c := 0) (e := 0)).putn (a := 36) (b := V2) (c := 0) (e := 0) p33 (by rw [n2]; omega) hx6 h54
  have ci2 := c78_i (b1 := 36) (b2 := 0) (b3 := 0) (b4 := 0) q2.1 n1
  have jg2 := k189_g (b1 := 36) (b2 := V2) (b3 := 0) (b4 := 0) q2 p33
  have hx7 : ((f.1 - 1 : Nat) : Int) < ((k189 k1 36 V2 0 0).1.1 53).toInt := by rw [f2.1 53 rfl]; exact hx6
  have q4 := NR.hol (x := f.1 - 1) (i := (s1.r (.i f.1)).toNatClampNeg) (j := 1) q3 (by rw [n2]; omega) (by rw [e1]; exact ci2) jg2 (Or.inl rfl) rfl rfl (fun q => absurd rfl q) (fun _ => rfl) (by unfold jmp; decide) hx7
  have q4 : NR 0 ([], []) ((f.1 - 1, (s1.r (.i f.1)).toNatClampNeg, 1, (k189 k1 36 V2 0 0).2.toNatClampNeg, 0, V2) :: (f.1 - 1, (s.r (.i f.1)).toNatClampNeg, 1, z1.toNatClampNeg, 0, V1) :: H) (c78 s1 36 0 0 0).1 (k189 k1 36 V2 0 0).1 (f :: r) := q4
  have m1 := q2.1 f.1
  have up := c78_up (a := 36) (b := 0) (c := 0) (e := 0) q2.1 f.1
  rw [hs', hk']
  refine ⟨_, _, q4, and_imp3.mp (fun z8 h6 hf => ?_)⟩
  have fl := hf (f.1 - 1) hx7
  rw [e1] at fl
  obtain ⟨j1, j2⟩ := jg2 z8 h6
  have z9 : k1.1 8 = 0 := (f2.1 8 rfl).symm.trans z8
  obtain ⟨⟨n, m2, m3⟩, -⟩ := q2.2 z9
  have i6 : (65536 : Int32).toInt = 65536 := rfl
  have cn : n < 65536 := by
    by_cases cn : n < 65536
    · exact cn
    · have e68 : (k189 k1 36 V2 0 0).1.1 68 = k1.1 68 := by
        unfold k189
        rw [if_pos (by rw [m2, i_le, xn_i (by omega), i6]; omega)]
        rfl
      rw [e68, m2, xn_i (by omega)] at h6
      omega
  have e68 := (k189_68 (a := 36) (b := V2) (c := 0) (e := 0) m2 cn).1
  obtain ⟨j3, j4⟩ := jg z9 (by rw [m2, xn_i (by omega)]; omega)
  rw [m2, xn_i (by omega)] at j3
  rw [e68, xn_i (by omega)] at j1
  have a1 := nat_xn nn
  have a2 := nat_xn m1
  refine ⟨⟨?_, ?_, ?_, a1, ?_⟩, ?_⟩
  · rcases ci with w | w
    · omega
    · omega
  · omega
  · omega
  · rcases ci with w | w
    · omega
    · omega
  · have en : n = z1.toNatClampNeg + 1 := by omega
    have := xn_sub (n := 1) (m := z1.toNatClampNeg) (by omega)
    rw [Nat.add_comm 1, ← en, ← m2] at this
    exact ez.trans this
/-- a goto on both sides -/
theorem NR.gto {w nm l4 i1 i2 i3 i4 : Int32} (h : NR 0 ([], []) H s k (f :: r)) (hn : RN s k (f :: r)) (hz : SZ (f :: r)) (hb : f.2.2.2.1 = b :: bs) (hx5 : ((f.1 - 1 : Nat) : Int) < (k.1 53).toInt) (h53 : (k.1 53).toInt ≤ 1000000) : NR 0 ([], []) H (c127 (c78 (c78 (c78 s 34 0 0 w).1 33 0 0 0).1 36 0 0 0).1 i1 i2 i3 i4).1 (k234 k w nm).1 (xgo f (kr k 2 nm, w, (c78 (c78 s 34 0 0 w).1 33 0 0 0).2, l4) :: r) := by
  obtain ⟨o1, o2, o3, o4⟩ := own_k hn hz
  have n1 : (c78 s 34 0 0 w).1.now = f.1 := by rw [c78_now]; exact o2
  have f1 := fr_k189 k 34 0 0 w
  have q1 := ((h.cle (a := 34) (b := 0) (c := 0) (e := w)).putn (a := 34) (b := 0) (c := 0) (e := w) o1 (by rw [n1]; omega) hx5 h53).de0 rfl
  have p33 := k33_put (a := 34) (b := 0) (c := 0) (e := w) o1
  have hX : XK (k189 k 34 0 0 w).1 (f :: r) := hn.2.1.put
  have et : kr (k189 k 34 0 0 w).1 2 nm = kr k 2 nm := by
    show (k189 k 34 0 0 w).1.2 2 _ = k.2 2 _
    rw [f1.2 2 rfl]
  have hx6 : ((f.1 - 1 : Nat) : Int) < ((k189 k 34 0 0 w).1.1 53).toInt := by rw [f1.1 53 rfl]; exact hx5
  have h54 : ((k189 k 34 0 0 w).1.1 53).toInt ≤ 1000000 := by rw [f1.1 53 rfl]; exact h53
  have elv : (c78 (c78 s 34 0 0 w).1 33 0 0 0).2 = (c78 s 34 0 0 w).1.r (.i f.1) := by rw [← n1]; exact tad_2
  rw [elv]
  unfold k234
  generalize (k189 k 34 0 0 w).2 = zz
  generalize (k189 k 34 0 0 w).1 = k1 at q1 p33 hX et hx6 h54 ⊢
  generalize (c78 s 34 0 0 w).1 = s1 at q1 n1 ⊢
  have hks := k230_k (y := kr k 2 nm) hX hz
  unfold k234_9
  rw [et]
  generalize hl : k230 k1 (kr k 2 nm) = l at hks
  have zk := hz.k
  have main : ∀ V1 V2 : Int32, ((0 ≤ l ∧ V1 = kr k1 47 l ∧ V2 = kr (k189 k1 33 V1 0 0).1 46 l) ∨ (¬ 0 ≤ l)) → NR 0 ([], []) H (c127 (c78 (c78 s1 33 0 0 0).1 36 0 0 0).1 i1 i2 i3 i4).1 (k234_67 (k189 (k189 k1 33 V1 0 0).1 36 V2 0 0).1 w nm l (k189 k1 33 V1 0 0).2 (k189 (k189 k1 33 V1 0 0).1 36 V2 0 0).2).1 (xgo f (kr k 2 nm, w, s1.r (.i f.1), l4) :: r) := fun V1 V2 hV => by
    obtain ⟨j2, g2, t1, t2, t3⟩ := NR.gt2 (V1 := V1) (V2 := V2) q1 n1 o3 o4 p33 hx6 h54 rfl rfl rfl
    have fa := fr_k189 k1 33 V1 0 0
    have fb := fr_k189 (k189 k1 33 V1 0 0).1 36 V2 0 0
    have e48 : (k189 (k189 k1 33 V1 0 0).1 36 V2 0 0).1.1 48 = xn (fUm (f :: r)).length := by rw [fb.1 48 rfl, fa.1 48 rfl]; exact hX.2.2.2.1.1
    have e46 : (k189 (k189 k1 33 V1 0 0).1 36 V2 0 0).1.2 46 = (k189 k1 33 V1 0 0).1.2 46 := fb.2 46 rfl
    refine t1.gtx (q := (kr k 2 nm, w, s1.r (.i f.1), l4)) hb rfl t2 ?_ (fr_c127 _ _ _ _ _) (fr_k234_67 _ _ _ _ _ _)
    generalize (k189 (k189 k1 33 V1 0 0).1 36 V2 0 0).2 = z2
    generalize (k189 (k189 k1 33 V1 0 0).1 36 V2 0 0).1 = k3 at e48 e46 t3 ⊢
    generalize (k189 k1 33 V1 0 0).2 = z1 at t3 ⊢
    unfold k234_67
    rcases hV with ⟨v1, v2, v3⟩ | v1
    · left
      have nl : ¬ l < 0 := by rw [i_lt]; rw [i_le] at v1; omega
      have sn : seen (bLab f.2.2.2.1) (kr k 2 nm) = true := by
        cases hq : seen (bLab f.2.2.2.1) (kr k 2 nm) with
        | true => rfl
        | false => exact absurd (hks.mpr hq) nl
      obtain ⟨j, lb, a1, a2, a3, a4, a5⟩ := k230_at (y := kr k 2 nm) hX hz (by rw [hl]; exact v1)
      rw [hl] at a3 a4 a5
      rw [if_neg nl]
      exact ⟨sn, rfl, j, lb, a1, a2, v2.trans a4, by rw [v3, a5, e46]⟩
    · right
      have nl : l < 0 := by rw [i_lt]; rw [i_le] at v1; omega
      have sn := hks.mp nl
      rw [if_pos nl]
      have en : (xn (fUm (f :: r)).length).toNatClampNeg = (fUm (f :: r)).length := xn_nat (by omega)
      have eu : ∀ i, (kf (ka (ka (ka (ka k3 49 (k3.1 48) (kr k3 2 nm)) 50 (k3.1 48) w) 51 (k3.1 48) z1) 52 (k3.1 48) (k197 (ka (ka (ka k3 49 (k3.1 48) (kr k3 2 nm)) 50 (k3.1 48) w) 51 (k3.1 48) z1))) 48 (k3.1 48 + 1)).2 51 i = upd (k3.2 51) (k3.1 48).toNatClampNeg z1 i := fun i => rfl
      refine ⟨sn, fun i hi => ?_, fun z8 h6 hf => ?_⟩
      · show upd (k3.2 51) (k3.1 48).toNatClampNeg z1 i = _
        rw [e48, en]
        exact if_neg (by omega)
      · show upd (k3.2 51) (k3.1 48).toNatClampNeg z1 (fUm (f :: r)).length = _
        rw [e48, en]
        exact (if_pos rfl).trans (t3 z8 h6 hf)
  by_cases c : 0 ≤ l
  · rw [if_pos c]
    unfold k234_38 k234_43 k234_62
    rw [if_pos c]
    exact main _ _ (Or.inl ⟨c, rfl, rfl⟩)
  · rw [if_neg c]
    unfold k234_38 k234_43 k234_62
    rw [if_neg c]
    exact main _ _ (Or.inr c)
/-- a label on both sides -/
theorem NR.lab {y1 y2 z0 w i4 : Int32} (h : NR 0 ([], []) H s k (f :: r)) (hn : RN s k (f :: r)) (hz : SZ (f :: r)) (hb : f.2.2.2.1 = b :: bs) (hk : b.2.2.2 ≠ 2) (ht : kr k 2 w = y2) (hx5 : ((f.1 - 1 : Nat) : Int) < (k.1 53).toInt) (h53 : (k.1 53).toInt ≤ 1000000) : NR 0 ([], []) H (c119_34 s y1 y2 z0).1 (k229 k w).1 (xla f (y2, c98 s, xn f.2.1.length, i4) :: r) := by
  obtain ⟨o1, o2, o3, o4⟩ := own_k hn hz
  have e1 : f.1 - 1 + 1 = f.1 := by omega
  have fc := fr_c119_34 s y1 y2 z0
  have hr := fc.2.2.2.2.2.2.1 rfl
  have fk := fr_k229 k w
  refine ⟨fun x => by rw [hr]; exact h.1 x, fun z => ?_⟩
  have z8 := st_k229 k w z
  obtain ⟨h0, h1⟩ := h.2 z8
  refine ⟨by rw [fk.1 68 rfl]; exact h0, fun h6 hf => ?_⟩
  rw [fk.1 68 rfl] at h6
  have hf := hf.same hr (fk.1 53 rfl)
  obtain ⟨p, Hd, hpn, ⟨Hg, Gs, ⟨d1, d2, d3⟩, ⟨Hr, Hf, x1, x2, x3⟩, d5, d6⟩, h3⟩ := h1 h6 hf
  have p0 : p = [] := by
    rcases hpn with ⟨-, z⟩ | ⟨z, -⟩ | ⟨z, -⟩
    · exact z
    · exact absurd z (by decide)
    · exact absurd z (by decide)
  subst p0
  have x3 : GB k (f.1 - 1) (jfUm (jx r)).length (jb f.2.2.2.1) Hf := x3
  rw [hb] at x3
  obtain ⟨Hbs, Hb, t1, t2, t3⟩ := x3
  have t3 : GL k (f.1 - 1) (jLab (jb (b :: bs))) ((jfUm (jx r)).length + (jUm (jb bs)).length) b.2.2.1 Hb := t3
  have eL : jLab (jb (b :: bs)) = bLab f.2.2.2.1 := by rw [hb]; exact jLab_b
  have el := fUm_l (r := r) hb
  have zk := hz.k
  have hks := k230_k (y := y2) hn.2.1 hz
  have c : k230 k y2 < 0 := by
    by_cases c : k230 k y2 < 0
    · exact c
    · exfalso
      unfold k229 at z
      rw [ht, if_neg c] at z
      exact k191_f (by decide) (st_k229_22 _ _ z)
  have sn := hks.mp c
  obtain ⟨zz, ezz⟩ : ∃ zz, k229 k w = k229_40 k y2 zz := by
    unfold k229
    rw [ht, if_pos c]
    unfold k229_22
    split
    · exact ⟨_, rfl⟩
    · exact ⟨_, rfl⟩
  have e197 : k197 k = xn f.2.1.length := hn.2.1.cnt hz
  have e210 : k210 k = c98 s := by
    have q := RWS.cnt h3 z8 h6 hf hx5
    unfold k210 c98
    rw [o1, o2, ← e1, q]
    show k.2 60 (xn (f.1 - 1)).toNatClampNeg = _
    rw [xn_nat (by omega)]
  obtain ⟨u, hu⟩ : ∃ u, u = (jfUm (jx r)).length + (jUm (jb bs)).length := ⟨_, rfl⟩
  rw [← hu] at t3 el
  have e40 : kr k 40 (k.1 37 - 1) = xn u := by
    rw [k40_at hn.2.1 hz hb hk, hu, jfUm_x, jUm_b]
  have hG : ∀ d q, (b.2.2.1.filter (fun g => !(seen (jLab (jb (b :: bs))) g.1)))[d]? = some q → k.2 49 (u + d) = q.1 := fun d q hq => by
    refine (hn.2.1.2.2.2.1.2 (u + d) q ?_).1
    show (fUm r ++ bUm f.2.2.2.1)[u + d]? = some q
    rw [hb, ← jfUm_x, ← jUm_b, hu]
    show (jfUm (jx r) ++ (jUm (jb bs) ++ b.2.2.1.filter (fun g => !(seen (jLab (jb (b :: bs))) g.1))))[_]? = some q
    rw [← List.append_assoc, List.getElem?_append_right (by rw [List.length_append]; omega), List.length_append, Nat.add_sub_cancel_left]
    exact hq
  obtain ⟨m, k', j', r1, r2, r3⟩ := lab_led (D := ([], [])) (H0 := H ++ (Hr ++ Hbs)) (H1 := Gs.flatten) (s := s) (x := f.1 - 1) (u := u) (n := (fUm (f :: r)).length) (y := y2) (z := zz) (v1 := xn f.2.1.length) (v2 := c98 s) (i4 := i4) (ls := jLab (jb (b :: bs))) (by omega) (by rw [eL]; exact sn) b.2.2.1 [] k u u hn.2.1.2.2.2.1.1 el.symm hG rfl (Nat.le_refl _) e197 e210 h53 (fun _ => ⟨[], Hb, rfl, t3, by
    have e : H ++ (Hr ++ Hbs) ++ ([] ++ (Hb ++ Gs.flatten)) = H ++ Hd := by
      rw [d1, x1, t1, List.append_nil]
      simp only [List.append_assoc, List.nil_append]
    rw [e]
    exact h3⟩)
  have hkf : kfin (k229b58 y2 zz) (k, kr k 40 (k.1 37 - 1), kr k 40 (k.1 37 - 1)) = (1, (k', j')) := by
    rw [e40]
    exact kfin_of ⟨m, r1⟩ (Nat.succ_ne_zero 0)
  have fk' : kFr 768 2361191685684123926528 k k' := by
    have := kfin_fr1 (b := k229b58 y2 zz) (fun t => fr_k229b58 y2 zz t) (t := (k, kr k 40 (k.1 37 - 1), kr k 40 (k.1 37 - 1)))
    rw [hkf] at this
    exact this
  have ek : (k229 k w).1 = kf (ka (ka (ka (kf k' 48 j'.1) 45 (k'.1 44) y2) 46 (k'.1 44) (k210 (ka (kf k' 48 j'.1) 45 (k'.1 44) y2))) 47 (k'.1 44) (k197 (ka (ka (kf k' 48 j'.1) 45 (k'.1 44) y2) 46 (k'.1 44) (k210 (ka (kf k' 48 j'.1) 45 (k'.1 44) y2))))) 44 (k'.1 44 + 1) := by
    rw [ezz]
    unfold k229_40
    rw [hkf]
  have e210' : k210 (ka (kf k' 48 j'.1) 45 (k'.1 44) y2) = c98 s := by
    rw [k210_fr (show kFr 281474976710656 35184372088832 k' (ka (kf k' 48 j'.1) 45 (k'.1 44) y2) from kFr.sa (kFr.sf kFr.refl rfl) rfl) rfl rfl, k210_fr fk' rfl rfl]
    exact e210
  rw [e210'] at ek
  generalize k197 (ka (ka (kf k' 48 j'.1) 45 (k'.1 44) y2) 46 (k'.1 44) (c98 s)) = v47 at ek
  generalize j'.1 = v48 at ek
  have n44 : (k'.1 44).toNatClampNeg = (fLab (f :: r)).length := by
    rw [fk'.1 44 rfl, hn.2.1.2.2.1.1]
    exact xn_nat (by omega)
  have fE : kFr 299067162755072 246290604621824 k' (k229 k w).1 := by
    rw [ek]
    exact kFr.sf (kFr.sa (kFr.sa (kFr.sa (kFr.sf kFr.refl rfl) rfl) rfl) rfl) rfl
  have e46 : ∀ i, (k229 k w).1.2 46 i = if i = (fLab (f :: r)).length then c98 s else k.2 46 i := fun i => by
    rw [ek]
    show upd (k'.2 46) (k'.1 44).toNatClampNeg (c98 s) i = _
    rw [n44, fk'.2 46 rfl]
    rfl
  have z9 : k'.1 8 = 0 := (fE.1 8 rfl).symm.trans z
  obtain ⟨HB, q1, q2⟩ := r2 z9
  have e51 : ∀ i, i < u → (k229 k w).1.2 51 i = k.2 51 i := fun i hi => by rw [fE.2 51 rfl]; exact r3 i hi
  have e43 : (k229 k w).1.2 43 = k.2 43 := fk.2 43 rfl
  have q2 := q2.frk fE rfl rfl (fun z => (fE.1 8 rfl).symm.trans z)
  have q1 := q1.fr (fE.2 51 rfl)
  have eC : H ++ ((Hr ++ (Hbs ++ HB)) ++ (Gs ++ []).flatten) = H ++ (Hr ++ Hbs) ++ (HB ++ Gs.flatten) := by
    rw [List.append_nil]
    simp only [List.append_assoc]
  have eJ : jLab ((b.2.1 ++ [(y2, c98 s, xn f.2.1.length, i4)], b.2.2.1, b.2.2.2) :: jb bs) = jLab (jb (b :: bs)) ++ [(y2, c98 s, xn f.2.1.length, i4)] := by
    show jLab (jb bs) ++ (b.2.1 ++ [_]) = (jLab (jb bs) ++ b.2.1) ++ [_]
    rw [List.append_assoc]
  refine ⟨[], _, Or.inl ⟨rfl, rfl⟩, ⟨Hr ++ (Hbs ++ HB), Gs, ⟨rfl, ?_, ?_⟩, ?_, ?_, d6.same (fc.2.1 28 rfl) (fc.2.1 30 rfl)⟩, ?_⟩
  · rw [jx_la hb]
    intro i l hq
    have hq : (jfLab (jx r) ++ jLab ((b.2.1 ++ [(y2, c98 s, xn f.2.1.length, i4)], b.2.2.1, b.2.2.2) :: jb bs))[i]? = some l := hq
    rw [eJ, ← List.append_assoc] at hq
    have eF : jfLab (jx r) ++ jLab (jb (b :: bs)) = fLab (f :: r) := by
      rw [eL, jfLab_x]
      rfl
    rw [eF] at hq
    rw [e46]
    rcases push_get hq with ⟨a1, a2⟩ | ⟨a1, a2⟩
    · rw [if_neg (by omega)]
      refine d2 i l ?_
      rw [jfLab_x]
      exact a2
    · rw [if_pos a1, a2]
  · rw [jx_la hb]
    intro g hg
    rcases List.mem_cons.mp hg with e | e
    · rw [e]
      have q := d3 (f.1, jb f.2.2.2.1) List.mem_cons_self
      rw [hb] at q
      have q : ((jLab (jb (b :: bs))).map (fun l => l.1)).Nodup := q
      show ((jLab ((b.2.1 ++ [(y2, c98 s, xn f.2.1.length, i4)], b.2.2.1, b.2.2.2) :: jb bs)).map (fun l => l.1)).Nodup
      rw [eJ, List.map_append]
      refine List.nodup_append.mpr ⟨q, List.nodup_cons.mpr ⟨List.not_mem_nil, List.nodup_nil⟩, fun a ha c hc e => ?_⟩
      have hc : c = y2 := List.mem_singleton.mp hc
      obtain ⟨l, l1, l2⟩ := List.mem_map.mp ha
      have sn' : seen (jLab (jb (b :: bs))) y2 = false := by rw [eL]; exact sn
      unfold seen at sn'
      rw [List.any_eq_false] at sn'
      exact sn' l l1 (decide_eq_true (by rw [l2, e, hc]))
    · exact d3 g (List.mem_cons_of_mem _ e)
  · rw [jx_la hb]
    refine ⟨Hr, Hbs ++ HB, rfl, x2.fb (fun i hi => e51 i (by omega)), Hbs, HB, rfl, t2.fb (fun i hi => e51 i (by omega)), ?_⟩
    show GL (k229 k w).1 (f.1 - 1) (jLab ((b.2.1 ++ [(y2, c98 s, xn f.2.1.length, i4)], b.2.2.1, b.2.2.2) :: jb bs)) ((jfUm (jx r)).length + (jUm (jb bs)).length) b.2.2.1 HB
    rw [eJ, ← hu]
    exact q1
  · rw [jx_la hb]
    obtain ⟨Gr, Gf, b1, b2, b3⟩ := d5.fr e43
    have b3 : BGr (k229 k w).1 (f.1 - 1) (jfK (jx r)) (jb f.2.2.2.1) Gf := b3
    rw [hb] at b3
    exact ⟨Gr, Gf, b1, b2, b3⟩
  · rw [eC]
    exact q2.same hr (fc.2.2.2.2.2.1 rfl) (fc.2.2.2.1 rfl) id rfl rfl rfl (fun _ _ _ => rfl)
end GTM
