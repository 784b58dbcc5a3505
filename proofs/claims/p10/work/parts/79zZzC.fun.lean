/-! THE WALK OVER BOTH: functions -/
abbrev CW (s s' : cS) : Prop := cFr 115792089237316195423570985008687907853269984665640564039457584007861590032383 18446744073709550327 18446744073709551615 18446744073709551615 s s'
abbrev KW (k k' : kS) : Prop := kFr 1208925810607429918882702 1208925819614629159536633 k k'
section FUN
variable {L : List xR} {P : PT} {k0 k k' : kS} {T V W a t v w : Nat} {s s' : cS} {X : List xF} {f : xF} {r : List xF} {x1 x2 y1 y2 y3 : Int32} {rc : cRC}
theorem c13_w : (c13 s).1.r (.s 3) = s.r (.s 3) ∧ (c13 s).1.c (.s 3) = s.c (.s 3) := by
  unfold c13
  split
  · obtain ⟨o1, o2, -⟩ := c29_o (s := s) (x := (s.f 5 1).toInt.toNat + 1) (v := s.f 5 1)
    exact ⟨o1 3, o2 3⟩
  · obtain ⟨o1, o2, -⟩ := c29_o (s := bnew s ((s.f 6 1).toInt.toNat + 1)) (x := (s.f 5 1).toInt.toNat + 1) (v := s.f 5 1)
    refine ⟨(o1 3).trans ?_, o2 3⟩
    show (if cT.s 3 = .i ((s.f 6 1).toInt.toNat + 1) ∨ cT.s 3 = .u ((s.f 6 1).toInt.toNat + 1) then 0 else s.r (.s 3)) = s.r (.s 3)
    exact if_neg (show ¬ (cT.s 3 = .i ((s.f 6 1).toInt.toNat + 1) ∨ cT.s 3 = .u ((s.f 6 1).toInt.toNat + 1)) from (by rintro (z | z) <;> cases z))
theorem c46_w {w : Int32} : (c46 s w).1.r (.s 3) = s.r (.s 3) ∧ (c46 s w).1.c (.s 3) = s.c (.s 3) := by
  have key : ∀ (s1 : cS) (z0 : Int32) (y : Nat), (c46_30 s1 w y z0 y).1.r (.s 3) = s1.r (.s 3) ∧ (c46_30 s1 w y z0 y).1.c (.s 3) = s1.c (.s 3) := fun s1 z0 y => (fr_c51 _).2.1 3 rfl
  unfold c46 c46_7
  split
  · exact ⟨(key _ _ _).1.trans c13_w.1, (key _ _ _).2.trans c13_w.2⟩
  · exact ⟨(key _ _ _).1.trans c13_w.1, (key _ _ _).2.trans c13_w.2⟩
theorem c13_ts {j : Nat} : (c13 s).1.r (.s j) = s.r (.s j) ∧ (c13 s).1.c (.s j) = s.c (.s j) := by
  unfold c13
  split
  · obtain ⟨o1, o2, -⟩ := c29_o (s := s) (x := (s.f 5 1).toInt.toNat + 1) (v := s.f 5 1)
    exact ⟨o1 j, o2 j⟩
  · obtain ⟨o1, o2, -⟩ := c29_o (s := bnew s ((s.f 6 1).toInt.toNat + 1)) (x := (s.f 5 1).toInt.toNat + 1) (v := s.f 5 1)
    refine ⟨(o1 j).trans ?_, o2 j⟩
    show (if cT.s j = .i ((s.f 6 1).toInt.toNat + 1) ∨ cT.s j = .u ((s.f 6 1).toInt.toNat + 1) then 0 else s.r (.s j)) = s.r (.s j)
    exact if_neg (show ¬ (cT.s j = .i ((s.f 6 1).toInt.toNat + 1) ∨ cT.s j = .u ((s.f 6 1).toInt.toNat + 1)) from (by rintro (z | z) <;> cases z))
theorem c46_ts {w : Int32} : TS s (c46 s w).1 := by
  have key : ∀ (s1 : cS) (z0 : Int32) (y : Nat), TS s1 (c46_30 s1 w y z0 y).1 := fun s1 z0 y => ⟨(fr_c51 _).2.1 8 rfl, ((fr_c51 _).2.1 10 rfl).1, ((fr_c51 _).2.1 10 rfl).2⟩
  have k13 : TS s (c13 s).1 := ⟨c13_ts, c13_ts⟩
  have tr : ∀ s1 s2 : cS, TS s s1 → TS s1 s2 → TS s s2 := fun s1 s2 h1 h2 => ⟨⟨h2.1.1.trans h1.1.1, h2.1.2.trans h1.1.2⟩, h2.2.1.trans h1.2.1, h2.2.2.trans h1.2.2⟩
  unfold c46 c46_7
  split
  · exact tr _ _ k13 (key _ _ _)
  · exact tr _ _ k13 (key _ _ _)
theorem c46_28 {w : Int32} : (c46 s w).1.r (.s 28) = s.r (.s 28) ∧ (c46 s w).1.c (.s 28) = s.c (.s 28) := by
  have key : ∀ (s1 : cS) (z0 : Int32) (y : Nat), (c46_30 s1 w y z0 y).1.r (.s 28) = s1.r (.s 28) ∧ (c46_30 s1 w y z0 y).1.c (.s 28) = s1.c (.s 28) := fun s1 z0 y => (fr_c51 _).2.1 28 rfl
  unfold c46 c46_7
  split
  · exact ⟨(key _ _ _).1.trans c13_ts.1, (key _ _ _).2.trans c13_ts.2⟩
  · exact ⟨(key _ _ _).1.trans c13_ts.1, (key _ _ _).2.trans c13_ts.2⟩
theorem kL_pre {g : xF} : ∀ (i : Nat) (q : xR), (kL X)[i]? = some q → (kL (g :: X))[i]? = some q := fun i q hq => by
  show (kL X ++ g.2.1)[i]? = some q
  rw [List.getElem?_append_left (List.getElem?_eq_some_iff.mp hq).1]
  exact hq
/-- a function, when its names are due -/
theorem fn_rest (h77 : E77 rc L) (h52 : E52 rc L) {n a3 : Nat} {s3 : cS} {k3 : kS} {f3 : xF} {y : Int32} (h : SG L P k t v w a3 (nb s3 f3.1 4 (xn f3.2.1.length)) k3 (f3 :: f :: r) t v w) (hy : y = y3) (e1 : f3.1 = n + 1) (hp : f3.2.2.1 = []) (hb : f3.2.2.2.1 = [(0, [], [], 0)]) (ha : a < a3) (hsz : szX (f :: r) ≤ 8 * a + 8) (hr : RO L a3 (t + 8) (v + 4)) : QC (fun s' k' _ => ∃ a' m, a < a' ∧ SGp none ([(7, m, 0, x1)], []) L P k t v w a' s' k' (f :: r) t v w ∧ (k'.1 8 = 0 → m = k'.1 76)) (k195_183 k3 y3 (xn n)).1 (c73_42 rc s3 x1 y (n + 1)) := by
  have ht : t + 8 ≤ 1000000 := by have := hr.1; omega
  unfold c73_42
  have q77 : QC (fun s' K _ => ∃ a' k' f', a3 ≤ a' ∧ K = (k195_201 k' y3).1 ∧ SG L P k t v w a' s' k' (f' :: f :: r) t v w ∧ f'.1 = f3.1 ∧ f'.2.2.1 = [] ∧ f'.2.2.2.1 = f3.2.2.2.1) (k195_183 k3 y3 (xn n)).1 (rc 77 s3 (n + 1) 0 0 0 0 0 0) := by
    intro s' o e
    rw [← e1] at e
    obtain ⟨z1, z2⟩ := h77 k t v w a3 s3 k3 f3 (f :: r) t v w s' o e h hp
    have en : f3.1 - 1 = n := by omega
    rw [en] at z1 z2
    refine ⟨fun x hx => ?_, fun z => ⟨0, z2 z y3⟩⟩
    obtain ⟨a', k', f', u1, u2, u3, u4, u5, u6⟩ := z1 x hx
    exact ⟨0, a', k', f', u1, by show (k195_183 k3 y3 (xn n)).1 = _; rw [u2], u3, u4, u5, u6⟩
  refine q77.bnd ?_
  rintro s4 _ x4 ⟨a4, k4, f4, u1, rfl, u3, u4, u5, u6⟩
  show QC _ (k195_207 (k199 k4 61).1 y3 (k199 k4 61).2).1 (c73_48 rc s4 x1 y (n + 1))
  unfold c73_48
  rcases u3.tkl lv61 with ⟨p, s5, k5, p1, p2, p3, p4, p5, p6, p7⟩ | ⟨p1, p2, p3⟩
  · rw [p3, rbd_th (w := p.2.1) rfl, p4]
    unfold k195_207 c73_57
    rw [if_pos (show (1 : Int32) ≠ 0 from by decide)]
    have hlt := lt_of p1
    have hB : XB (f4 :: f :: r) := ⟨f4, f :: r, (0, [], [], 0), [], rfl, u5, by rw [u6, hb], by decide⟩
    show QC _ (k178 (k179 k5 40 y3 0 0).1).1 _
    refine (bl_call h52 p5 hB (Nat.le_refl _) (Nat.le_refl _) (Nat.le_refl _) ⟨by have := hr.1; omega, by have := hr.2; omega⟩).bnd ?_
    rintro s6 k6 x6 (⟨a6, X6, v1, v2, v3, v4⟩ | ⟨v1, v2⟩)
    · refine QC.pop v4 (by omega) ?_
      rw [k180_g40]
      have h7 := v2.top (t' := t)
      generalize kf k6 10 (xn t) = k7 at h7
      obtain ⟨g, g', r', l, d, d', ds, w1, w2, ⟨w3, w4, w5⟩, w6, ⟨w7, w8, w9, w10⟩, w11⟩ := v3
      cases w1
      have hds : ds = [] := by
        rw [u6, hb] at w7
        cases w7
        rfl
      rw [hds] at w8
      rw [w2] at h7
      unfold k222
      show QC _ _ (c73_62 rc s6 x1 y (n + 1))
      unfold c73_62
      rcases h7.tkl lv15 with ⟨o, s8, k8, o1, o2, o3, o4, o5, o6, o7⟩ | ⟨o1, o2, o3⟩
      · rw [o3, rbd_th (w := o.2.1) rfl, o4]
        unfold k222_11
        rw [if_pos (show (1 : Int32) ≠ 0 from by decide)]
        obtain ⟨a4, a63⟩ := h7.at4
        have h9 := o5.pc (x := 45) (y := 0) (z := 0) (u := c63 s6) (x' := 45) (y' := 0) (z' := 0) (u' := k7.1 4) (by rw [a63, a4])
        have ow8 := own_k o5.1.2.1 o5.SZ
        have eg : g'.1 = n + 1 := by rw [w5, u4, e1]
        have eix : kr k8 33 (k8.1 32) = xn n := by
          rw [ow8.1, eg]
          rfl
        show QC _ (k222_54 (k224 (k223 (ka (k189 k8 45 0 0 (k7.1 4)).1 57 (kr k8 33 (k8.1 32)) (((k7.1 4) - y3) + 1))).1).1 (kr k8 33 (k8.1 32))).1 (some ((c78 (c80 (nb (c78 s8 45 0 0 (c63 s6)).1 (n + 1) 6 ((c63 s6 - y) + 1))).1 7 ((c80 (nb (c78 s8 45 0 0 (c63 s6)).1 (n + 1) 6 ((c63 s6 - y) + 1))).1.b (n + 1) 2) 0 x1).1, some 0))
        generalize (c78 s8 45 0 0 (c63 s6)).1 = s9 at h9
        generalize (k189 k8 45 0 0 (k7.1 4)).1 = k9 at h9
        have hcb : cFr 0 0 64 0 s9 (nb s9 (n + 1) 6 ((c63 s6 - y) + 1)) := cFr.refl.sb rfl
        have hkb : kFr 0 144115188075855872 k9 (ka k9 57 (kr k8 33 (k8.1 32)) (((k7.1 4) - y3) + 1)) := kFr.sa kFr.refl rfl
        have nf := (h9.rn hcb hkb).fin (y := kr k8 33 (k8.1 32)) h9.SZ w8 w4
        have hC : CW s9 (c78 (c80 (nb s9 (n + 1) 6 ((c63 s6 - y) + 1))).1 7 ((c80 (nb s9 (n + 1) 6 ((c63 s6 - y) + 1))).1.b (n + 1) 2) 0 x1).1 := cFr.trans (cFr.mono hcb rfl rfl rfl rfl) (cFr.trans (cFr.mono (fr_c80 _) rfl rfl rfl rfl) (cFr.mono (fr_c78 _ _ _ _ _) rfl rfl rfl rfl))
        have hK : KW k9 (k222_54 (k224 (k223 (ka k9 57 (kr k8 33 (k8.1 32)) (((k7.1 4) - y3) + 1))).1).1 (kr k8 33 (k8.1 32))).1 := kFr.trans (kFr.mono hkb rfl rfl) (kFr.trans (kFr.mono (fr_k223 _) rfl rfl) (kFr.trans (kFr.mono (fr_k224 _) rfl rfl) (kFr.mono (fr_k222_54 _ _) rfl rfl)))
        have n10 := nf.frm (fr_c78 (c80 (nb s9 (n + 1) 6 ((c63 s6 - y) + 1))).1 7 ((c80 (nb s9 (n + 1) 6 ((c63 s6 - y) + 1))).1.b (n + 1) 2) 0 x1) (kFr.refl (F := 0) (A := 0)) rfl rfl rfl rfl rfl rfl rfl rfl rfl rfl rfl
        have of : OU (bd (a6 + 1)) (c78 (c80 (nb s9 (n + 1) 6 ((c63 s6 - y) + 1))).1 7 ((c80 (nb s9 (n + 1) 6 ((c63 s6 - y) + 1))).1.b (n + 1) 2) 0 x1).1 (k222_54 (k224 (k223 (ka k9 57 (kr k8 33 (k8.1 32)) (((k7.1 4) - y3) + 1))).1).1 (kr k8 33 (k8.1 32))).1 (f :: r) := by
          have o1 := h9.ou hcb hkb
          have o2 := OU.fr o1 ((fr_c80 _).ou rfl) (fr_k223 _) rfl rfl
          have o3 := OU.fr o2 (fun _ => ⟨rfl, rfl⟩) (fr_k224 _) rfl rfl
          have o4 := OU.fr o3 ((fr_c78 _ 7 ((c80 (nb s9 (n + 1) 6 ((c63 s6 - y) + 1))).1.b (n + 1) 2) 0 x1).ou rfl) (fr_k222_54 _ (kr k8 33 (k8.1 32))) rfl rfl
          exact o4.fin
        have hKs : kSt k9 (k222_54 (k224 (k223 (ka k9 57 (kr k8 33 (k8.1 32)) (((k7.1 4) - y3) + 1))).1).1 (kr k8 33 (k8.1 32))).1 := kSt.trans (kSt.of hkb rfl) (kSt.trans (st_k223 _) (kSt.trans (kSt.of (fr_k224 _) rfl) (kSt.of (fr_k222_54 _ _) rfl)))
        have kA : ∀ j, (j = 30 ∨ j = 54 ∨ j = 55 ∨ j = 56 ∨ j = 57 ∨ j = 58 ∨ j = 59 ∨ j = 60) → (k222_54 (k224 (k223 (ka k9 57 (kr k8 33 (k8.1 32)) (((k7.1 4) - y3) + 1))).1).1 (kr k8 33 (k8.1 32))).1.2 j = (ka k9 57 (kr k8 33 (k8.1 32)) (((k7.1 4) - y3) + 1)).2 j := fun j hj => by
          rcases hj with rfl | rfl | rfl | rfl | rfl | rfl | rfl | rfl <;> exact ((fr_k222_54 _ _).2 _ rfl).trans (((fr_k224 _).2 _ rfl).trans ((fr_k223 _).2 _ rfl))
        have k53 : (k222_54 (k224 (k223 (ka k9 57 (kr k8 33 (k8.1 32)) (((k7.1 4) - y3) + 1))).1).1 (kr k8 33 (k8.1 32))).1.1 53 = k9.1 53 := ((fr_k222_54 _ _).1 53 rfl).trans (((fr_k224 _).1 53 rfl).trans ((fr_k223 _).1 53 rfl))
        have hk0 : d'.2.2.2 = 0 := by
          rw [u6, hb] at w7
          cases w7
          exact w10
        have nc1 := (h9.nc.fr hcb hkb rfl rfl rfl rfl id).fin (y := kr k8 33 (k8.1 32)) (h9.rn hcb hkb) h9.SZ w8 w4 (by rw [hk0]; decide)
        have nc2 := nc1.cle (a := 7) (b := (c80 (nb s9 (n + 1) 6 ((c63 s6 - y) + 1))).1.b (n + 1) 2) (c := 0) (e := x1)
        have hbb : ∀ x j, (c78 (c80 (nb s9 (n + 1) 6 ((c63 s6 - y) + 1))).1 7 ((c80 (nb s9 (n + 1) 6 ((c63 s6 - y) + 1))).1.b (n + 1) 2) 0 x1).1.b x j = (nb s9 (n + 1) 6 ((c63 s6 - y) + 1)).b x j := fun x j => ((fr_c78 _ _ _ _ _).2.2.1 x j (Nat.zero_testBit _)).trans ((fr_c80 _).2.2.1 x j (Nat.zero_testBit _))
        have dst : ∀ q ∈ sh (f :: r), q.1 ≠ g'.1 := fun q hq => by
          obtain ⟨g1, g2, rfl⟩ := List.mem_map.mp hq
          exact h9.1.2.1.1.xf.2.2.2.2.2.2.1 g1 g2
        have ev : c63 s6 - y + 1 = k7.1 4 - y3 + 1 := by rw [a63, a4, hy]
        have fbf : FB (c78 (c80 (nb s9 (n + 1) 6 ((c63 s6 - y) + 1))).1 7 ((c80 (nb s9 (n + 1) 6 ((c63 s6 - y) + 1))).1.b (n + 1) 2) 0 x1).1 (k222_54 (k224 (k223 (ka k9 57 (kr k8 33 (k8.1 32)) (((k7.1 4) - y3) + 1))).1).1 (kr k8 33 (k8.1 32))).1 (sh (f :: r)) := by
          refine FB.fin (f := g') (v := c63 s6 - y + 1) (x0 := n) h9.fb eg w4 dst (fun x j h1 h2 hj => ?_) ?_ hKs k53 (fun j h1 h2 h3 => ?_) ?_
          · rw [hbb, nb_o (by rw [← eg]; exact hj)]
          · rw [hbb, eg, nb_v]
          · rw [kA j (by omega)]
            have hj : j = 54 ∨ j = 55 ∨ j = 56 ∨ j = 58 ∨ j = 59 := by omega
            rcases hj with rfl | rfl | rfl | rfl | rfl <;> rfl
          · rw [kA 57 (by decide), ev, eix]
            show upd (k9.2 57) (xn n).toNatClampNeg _ = _
            rw [xn_nat (by omega)]
        have lvf : LVv [] (c78 (c80 (nb s9 (n + 1) 6 ((c63 s6 - y) + 1))).1 7 ((c80 (nb s9 (n + 1) 6 ((c63 s6 - y) + 1))).1.b (n + 1) 2) 0 x1).1 (f :: r) := by
          have t28 : ∀ q : cS, (c80 q).1.r (.s 28) = q.r (.s 28) ∧ (c80 q).1.c (.s 28) = q.c (.s 28) := fun q => (fr_c80 q).2.1 28 rfl
          have t78 : ∀ (q : cS) (i1 i2 i3 i4 : Int32), (c78 q i1 i2 i3 i4).1.r (.s 28) = q.r (.s 28) ∧ (c78 q i1 i2 i3 i4).1.c (.s 28) = q.c (.s 28) := fun q i1 i2 i3 i4 => (fr_c78 q i1 i2 i3 i4).2.1 28 (Nat.zero_testBit _)
          refine h9.lv.same ?_ ((t78 _ _ _ _ _).1.trans (t28 _).1) ((t78 _ _ _ _ _).2.trans (t28 _).2)
          show fLv (f :: r) ++ [] = (fLv (f :: r) ++ bLv g'.2.2.2.1) ++ []
          rw [w8]
          show _ = (fLv (f :: r) ++ ([] ++ (if d'.2.2.2 = 1 then [d'.1] else []))) ++ []
          rw [if_neg (by rw [hk0]; decide), List.append_nil, List.append_nil]
          exact (List.append_nil _).symm
        have hn5 : ((n : Nat) : Int) < (k9.1 53).toInt := by
          have q := own_5 h9.1.2.1 rfl h9.1.k53
          rw [eg] at q
          exact q
        refine QC.ret ⟨a6 + 1, (c80 (nb s9 (n + 1) 6 ((c63 s6 - y) + 1))).1.b (n + 1) 2, by omega, h9.nam hC hK n10 (by omega) of ⟨(fun z => nomatch z), nc2, fbf, h9.cc.sub kL_pre hKs ((kA 30 (by decide)).trans rfl), lvf⟩, fun z8 => ?_⟩
        have q := (fbf.1 z8 n (by rw [k53]; exact hn5)).1.1
        rw [(fr_c78 _ _ _ _ _).2.2.1 (n + 1) 2 (Nat.zero_testBit _)] at q
        rw [q]
        exact eix.symm
      · rw [rbd_thn o1]
        refine QC.thn ?_
        unfold k222_11
        rw [if_neg (fun z => z o2)]
        exact o3
    · show QC _ _ (c73_62 rc s6 x1 y (n + 1))
      unfold c73_62
      rw [rbd_thn (c64_no (fun z => v2 (Or.inr (Or.inr (Or.inr (Or.inl z))))))]
      exact QC.thn v1
  · rw [rbd_thn p1]
    refine QC.thn ?_
    unfold k195_207
    rw [if_neg (fun z => z p2)]
    exact p3
/-- a function -/
def E73 (rc : cRC) (L : List xR) : Prop := ∀ {P : PT} (a : Nat) (s : cS) (k : kS) (X : List xF) (t v w : Nat) (x1 x2 y1 y2 : Int32), SG L P k t v w a s k X t v w → X ≠ [] → (x2 = 0 ↔ y1 = 0) → x1 = y2 → RO L (a + 1) (t + 8) (v + 4) → QC (fun s' k' _ => ∃ a' m, a < a' ∧ SGp none ([(7, m, 0, x1)], []) L P k t v w a' s' k' X t v w ∧ (k'.1 8 = 0 → m = k'.1 76)) (k195 k y1 y2).1 (rc 73 s 0 x1 x2 0 0 0 0)
theorem fn_all (h77 : E77 rc L) (h52 : E52 rc L) (h : SG L P k t v w a s k X t v w) (hX : X ≠ []) (hs : x2 = 0 ↔ y1 = 0) (hxy : x1 = y2) (hr : RO L (a + 1) (t + 8) (v + 4)) : QC (fun s' k' _ => ∃ a' m, a < a' ∧ SGp none ([(7, m, 0, x1)], []) L P k t v w a' s' k' X t v w ∧ (k'.1 8 = 0 → m = k'.1 76)) (k195 k y1 y2).1 (c73 rc s x1 x2) := by
  obtain ⟨f, r, rfl⟩ : ∃ f r, X = f :: r := by
    cases X with
    | nil => exact absurd rfl hX
    | cons f r => exact ⟨f, r, rfl⟩
  have hle := h.le
  unfold c73 k195
  rcases h.tke en60 with ⟨q, s1, k1, q1, q2, q3, q4, q5, q6, q7⟩ | ⟨q1, q2, q3⟩
  · rw [q3, rbd_th (w := q.2.1) rfl, q4]
    have hlt := lt_of q1
    show QC _ (k195_11 k1 y1 y2 (k.1 4) 1).1 (c73_26 rc (c46 s1 x1).1 x1 x2 (c63 s) (c46 s1 x1).2)
    unfold k195_11
    rw [if_pos (show (1 : Int32) ≠ 0 from by decide)]
    obtain ⟨n, e53, hn, -⟩ := q5.1.2.1.2.2.2.2.2.1
    have hn1 : n ≤ a + 1 := by
      have z := h.1.2.2.2.1
      rw [← q7.1 53 rfl, e53, xn_i (by omega)] at z
      omega
    have hz : SZ (((n + 1, [], [], [], 0) : xF) :: f :: r) := SZ_of (by rw [sz_bg0]; have := h.sz; omega)
    obtain ⟨b1, b2, b3, b4⟩ := q5.1.2.1.bgn (w := x1) (y2 := y2) (ar := kr k1 33 (k1.1 32)) e53 (by omega) hz
    rw [b2]
    have fK : kFr 9007340988661760 149717683458461925376 k1 (k177 (ka (ka (ka (ka (kf (ka (ka (ka (ka (ka (ka (ka (kf k1 53 ((k1.1 53) + 1)) 54 (k1.1 53) (kr k1 33 (k1.1 32))) 59 (k1.1 53) y2) 55 (k1.1 53) 0) 56 (k1.1 53) 0) 58 (k1.1 53) 0) 60 (k1.1 53) 0) 67 (k1.1 53) 0) 32 ((k1.1 32) + 1)) 33 ((k1.1 32) + 1) (k1.1 53)) 34 ((k1.1 32) + 1) (k1.1 24)) 35 ((k1.1 32) + 1) (k1.1 44)) 36 ((k1.1 32) + 1) (k1.1 48)) 0).1 := kFr.trans (kFr.sa (kFr.sa (kFr.sa (kFr.sa (kFr.sf (kFr.sa (kFr.sa (kFr.sa (kFr.sa (kFr.sa (kFr.sa (kFr.sa (kFr.sf kFr.refl rfl) rfl) rfl) rfl) rfl) rfl) rfl) rfl) rfl) rfl) rfl) rfl) rfl) ((fr_k177 _ _).mono rfl rfl)
    have ob : OU (bd a) (c46 s1 x1).1 (k177 (ka (ka (ka (ka (kf (ka (ka (ka (ka (ka (ka (ka (kf k1 53 ((k1.1 53) + 1)) 54 (k1.1 53) (kr k1 33 (k1.1 32))) 59 (k1.1 53) y2) 55 (k1.1 53) 0) 56 (k1.1 53) 0) 58 (k1.1 53) 0) 60 (k1.1 53) 0) 67 (k1.1 53) 0) 32 ((k1.1 32) + 1)) 33 ((k1.1 32) + 1) (k1.1 53)) 34 ((k1.1 32) + 1) (k1.1 24)) 35 ((k1.1 32) + 1) (k1.1 44)) 36 ((k1.1 32) + 1) (k1.1 48)) 0).1 ((n + 1, [], [], [(0, [], [], 0)], 0) :: f :: r) := by
      obtain ⟨nb1, -, nb3⟩ := q5.1.2.1.2.2.2.2
      refine OU.bgc (h.ou q6 q7) e53 (by omega) nb1 nb3 rfl rfl rfl rfl rfl rfl (fun j hj => ?_) ?_
      · rcases hj with rfl | rfl | rfl | rfl | rfl | rfl <;> rfl
      · show upd (k1.2 67) (k1.1 53).toNatClampNeg 0 = _
        rw [e53, xn_nat (by omega)]
    have e53' : (k177 (ka (ka (ka (ka (kf (ka (ka (ka (ka (ka (ka (ka (kf k1 53 ((k1.1 53) + 1)) 54 (k1.1 53) (kr k1 33 (k1.1 32))) 59 (k1.1 53) y2) 55 (k1.1 53) 0) 56 (k1.1 53) 0) 58 (k1.1 53) 0) 60 (k1.1 53) 0) 67 (k1.1 53) 0) 32 ((k1.1 32) + 1)) 33 ((k1.1 32) + 1) (k1.1 53)) 34 ((k1.1 32) + 1) (k1.1 24)) 35 ((k1.1 32) + 1) (k1.1 44)) 36 ((k1.1 32) + 1) (k1.1 48)) 0).1.1 53 = xn (n + 1) := by
      rw [(fr_k177 _ _).1 53 rfl]
      show k1.1 53 + 1 = _
      rw [e53, xn_succ (by omega)]
    have eK : ∀ j, (j = 54 ∨ j = 55 ∨ j = 56 ∨ j = 58 ∨ j = 59 ∨ j = 60) → ∃ z, (k177 (ka (ka (ka (ka (kf (ka (ka (ka (ka (ka (ka (ka (kf k1 53 ((k1.1 53) + 1)) 54 (k1.1 53) (kr k1 33 (k1.1 32))) 59 (k1.1 53) y2) 55 (k1.1 53) 0) 56 (k1.1 53) 0) 58 (k1.1 53) 0) 60 (k1.1 53) 0) 67 (k1.1 53) 0) 32 ((k1.1 32) + 1)) 33 ((k1.1 32) + 1) (k1.1 53)) 34 ((k1.1 32) + 1) (k1.1 24)) 35 ((k1.1 32) + 1) (k1.1 44)) 36 ((k1.1 32) + 1) (k1.1 48)) 0).1.2 j = upd (k1.2 j) n z ∧ (j = 54 → z = kr k1 33 (k1.1 32)) ∧ (j = 59 → z = y2) ∧ (j ≠ 54 → j ≠ 59 → z = 0) := fun j hj => by
      have en : (k1.1 53).toNatClampNeg = n := by rw [e53, xn_nat (by omega)]
      rcases hj with rfl | rfl | rfl | rfl | rfl | rfl
      · exact ⟨kr k1 33 (k1.1 32), by rw [← en]; rfl, fun _ => rfl, (fun z => absurd z (by decide)), fun z _ => absurd rfl z⟩
      · exact ⟨0, by rw [← en]; rfl, (fun z => absurd z (by decide)), (fun z => absurd z (by decide)), fun _ _ => rfl⟩
      · exact ⟨0, by rw [← en]; rfl, (fun z => absurd z (by decide)), (fun z => absurd z (by decide)), fun _ _ => rfl⟩
      · exact ⟨0, by rw [← en]; rfl, (fun z => absurd z (by decide)), (fun z => absurd z (by decide)), fun _ _ => rfl⟩
      · exact ⟨y2, by rw [← en]; rfl, (fun z => absurd z (by decide)), fun _ => rfl, fun _ z => absurd rfl z⟩
      · exact ⟨0, by rw [← en]; rfl, (fun z => absurd z (by decide)), (fun z => absurd z (by decide)), fun _ _ => rfl⟩
    obtain ⟨z54, e54, e54', -, -⟩ := eK 54 (by decide)
    obtain ⟨z55, e55, -, -, e55'⟩ := eK 55 (by decide)
    obtain ⟨z56, e56, -, -, e56'⟩ := eK 56 (by decide)
    obtain ⟨z58, e58, -, -, e58'⟩ := eK 58 (by decide)
    obtain ⟨z59, e59, -, e59', -⟩ := eK 59 (by decide)
    obtain ⟨z60, e60, -, -, e60'⟩ := eK 60 (by decide)
    rw [e54' rfl] at e54
    rw [e55' (by decide) (by decide)] at e55
    rw [e56' (by decide) (by decide)] at e56
    rw [e58' (by decide) (by decide)] at e58
    rw [e59' rfl] at e59
    rw [e60' (by decide) (by decide)] at e60
    have e59x : (k177 (ka (ka (ka (ka (kf (ka (ka (ka (ka (ka (ka (ka (kf k1 53 ((k1.1 53) + 1)) 54 (k1.1 53) (kr k1 33 (k1.1 32))) 59 (k1.1 53) y2) 55 (k1.1 53) 0) 56 (k1.1 53) 0) 58 (k1.1 53) 0) 60 (k1.1 53) 0) 67 (k1.1 53) 0) 32 ((k1.1 32) + 1)) 33 ((k1.1 32) + 1) (k1.1 53)) 34 ((k1.1 32) + 1) (k1.1 24)) 35 ((k1.1 32) + 1) (k1.1 44)) 36 ((k1.1 32) + 1) (k1.1 48)) 0).1.2 59 = upd (k1.2 59) n x1 := by rw [e59, hxy]
    have e8K : (k177 (ka (ka (ka (ka (kf (ka (ka (ka (ka (ka (ka (ka (kf k1 53 ((k1.1 53) + 1)) 54 (k1.1 53) (kr k1 33 (k1.1 32))) 59 (k1.1 53) y2) 55 (k1.1 53) 0) 56 (k1.1 53) 0) 58 (k1.1 53) 0) 60 (k1.1 53) 0) 67 (k1.1 53) 0) 32 ((k1.1 32) + 1)) 33 ((k1.1 32) + 1) (k1.1 53)) 34 ((k1.1 32) + 1) (k1.1 24)) 35 ((k1.1 32) + 1) (k1.1 44)) 36 ((k1.1 32) + 1) (k1.1 48)) 0).1.1 8 = k1.1 8 := rfl
    have e57K : (k177 (ka (ka (ka (ka (kf (ka (ka (ka (ka (ka (ka (ka (kf k1 53 ((k1.1 53) + 1)) 54 (k1.1 53) (kr k1 33 (k1.1 32))) 59 (k1.1 53) y2) 55 (k1.1 53) 0) 56 (k1.1 53) 0) 58 (k1.1 53) 0) 60 (k1.1 53) 0) 67 (k1.1 53) 0) 32 ((k1.1 32) + 1)) 33 ((k1.1 32) + 1) (k1.1 53)) 34 ((k1.1 32) + 1) (k1.1 24)) 35 ((k1.1 32) + 1) (k1.1 44)) 36 ((k1.1 32) + 1) (k1.1 48)) 0).1.2 57 = k1.2 57 := rfl
    have e30K : (k177 (ka (ka (ka (ka (kf (ka (ka (ka (ka (ka (ka (ka (kf k1 53 ((k1.1 53) + 1)) 54 (k1.1 53) (kr k1 33 (k1.1 32))) 59 (k1.1 53) y2) 55 (k1.1 53) 0) 56 (k1.1 53) 0) 58 (k1.1 53) 0) 60 (k1.1 53) 0) 67 (k1.1 53) 0) 32 ((k1.1 32) + 1)) 33 ((k1.1 32) + 1) (k1.1 53)) 34 ((k1.1 32) + 1) (k1.1 24)) 35 ((k1.1 32) + 1) (k1.1 44)) 36 ((k1.1 32) + 1) (k1.1 48)) 0).1.2 30 = k1.2 30 := rfl
    have e53K : (k177 (ka (ka (ka (ka (kf (ka (ka (ka (ka (ka (ka (ka (kf k1 53 ((k1.1 53) + 1)) 54 (k1.1 53) (kr k1 33 (k1.1 32))) 59 (k1.1 53) y2) 55 (k1.1 53) 0) 56 (k1.1 53) 0) 58 (k1.1 53) 0) 60 (k1.1 53) 0) 67 (k1.1 53) 0) 32 ((k1.1 32) + 1)) 33 ((k1.1 32) + 1) (k1.1 53)) 34 ((k1.1 32) + 1) (k1.1 24)) 35 ((k1.1 32) + 1) (k1.1 44)) 36 ((k1.1 32) + 1) (k1.1 48)) 0).1.1 53 = k1.1 53 + 1 := rfl
    obtain ⟨nb1, nb2, nb3⟩ := q5.1.2.1.2.2.2.2
    have ow1 := own_k q5.1.2.1 q5.SZ
    have fin1 : f.1 ≤ n := by
      obtain ⟨n', p1, p2, p3⟩ := nb2
      have : n' = n := xn_inj (by omega) (by omega) (p1.symm.trans e53)
      have := (p3 f List.mem_cons_self).2
      omega
    have ncb : NR 0 ([], []) P.2.2 (c46 s1 x1).1 (k177 (ka (ka (ka (ka (kf (ka (ka (ka (ka (ka (ka (ka (kf k1 53 ((k1.1 53) + 1)) 54 (k1.1 53) (kr k1 33 (k1.1 32))) 59 (k1.1 53) y2) 55 (k1.1 53) 0) 56 (k1.1 53) 0) 58 (k1.1 53) 0) 60 (k1.1 53) 0) 67 (k1.1 53) 0) 32 ((k1.1 32) + 1)) 33 ((k1.1 32) + 1) (k1.1 53)) 34 ((k1.1 32) + 1) (k1.1 24)) 35 ((k1.1 32) + 1) (k1.1 44)) 36 ((k1.1 32) + 1) (k1.1 48)) 0).1 ((n + 1, [], [], [(0, [], [], 0)], 0) :: f :: r) := q5.nc.bgn e53 (by omega) nb1 nb3 e8K e53K e60 fK (fun i hi => by
      have e37 := q5.1.2.1.2.1.2.1.1
      have zk := q5.SZ.k
      show upd (k1.2 43) (k1.1 37).toNatClampNeg 0 i = _
      rw [e37, jfK_len, xn_nat (by rw [← jfK_len]; omega)]
      exact if_neg (by omega))
    have fbb : FB (c46 s1 x1).1 (k177 (ka (ka (ka (ka (kf (ka (ka (ka (ka (ka (ka (ka (kf k1 53 ((k1.1 53) + 1)) 54 (k1.1 53) (kr k1 33 (k1.1 32))) 59 (k1.1 53) y2) 55 (k1.1 53) 0) 56 (k1.1 53) 0) 58 (k1.1 53) 0) 60 (k1.1 53) 0) 67 (k1.1 53) 0) 32 ((k1.1 32) + 1)) 33 ((k1.1 32) + 1) (k1.1 53)) 34 ((k1.1 32) + 1) (k1.1 24)) 35 ((k1.1 32) + 1) (k1.1 44)) 36 ((k1.1 32) + 1) (k1.1 48)) 0).1 (sh ((n + 1, [], [], [(0, [], [], 0)], 0) :: f :: r)) := by
      refine FB.bgn (ar := kr k1 33 (k1.1 32)) q5.fb e53 (by omega) nb1 nb3 (by omega) e8K e53K e54 e55 e56 e57K e58 e59x (fun z8 => ?_)
      have e13 : s1.f 13 1 ≠ 0 := by
        rw [q5.1.2.1.1.ln]
        intro z
        have hl : (f :: r).length = r.length + 1 := rfl
        have zg : (f :: r).length ≤ 1000000 := by have := q5.SZ; unfold SZ at this; omega
        have := xn_inj (n := 0) (by omega) (by omega) z
        omega
      rw [if_pos e13, ow1.1, ow1.2.1]
      have z := (q5.fb.1 z8 (f.1 - 1) (by rw [e53, xn_i (by omega)]; omega)).1.1
      rw [show f.1 - 1 + 1 = f.1 by omega] at z
      exact z
    have lvb : LVv [] (c46 s1 x1).1 ((n + 1, [], [], [(0, [], [], 0)], 0) :: f :: r) := q5.lv.same (by show (fLv (f :: r) ++ ([] ++ (if (0 : Nat) = 1 then [0] else []))) ++ [] = _; rw [if_neg (by decide), List.append_nil, List.append_nil]) (c46_28 (w := x1)).1 (c46_28 (w := x1)).2
    have clb : CL (k177 (ka (ka (ka (ka (kf (ka (ka (ka (ka (ka (ka (ka (kf k1 53 ((k1.1 53) + 1)) 54 (k1.1 53) (kr k1 33 (k1.1 32))) 59 (k1.1 53) y2) 55 (k1.1 53) 0) 56 (k1.1 53) 0) 58 (k1.1 53) 0) 60 (k1.1 53) 0) 67 (k1.1 53) 0) 32 ((k1.1 32) + 1)) 33 ((k1.1 32) + 1) (k1.1 53)) 34 ((k1.1 32) + 1) (k1.1 24)) 35 ((k1.1 32) + 1) (k1.1 44)) 36 ((k1.1 32) + 1) (k1.1 48)) 0).1 ((n + 1, [], [], [(0, [], [], 0)], 0) :: f :: r) := q5.cc.sub (fun i q hq => by
      have e : kL (((n + 1, [], [], [(0, [], [], 0)], 0) : xF) :: f :: r) = kL (f :: r) := List.append_nil _
      rw [e] at hq
      exact hq) (fun z => by rw [← e8K]; exact z) e30K
    have b46 := c46_b (w := x1) (nb1.trans e53) (by omega) nb3 (show s1.now ≠ n + 1 by omega)
    rw [show k1.1 53 = xn n from e53] at fK e53' b1 ob ncb fbb clb ⊢
    generalize (k177 (ka (ka (ka (ka (kf (ka (ka (ka (ka (ka (ka (ka (kf k1 53 (xn n + 1)) 54 (xn n) (kr k1 33 (k1.1 32))) 59 (xn n) y2) 55 (xn n) 0) 56 (xn n) 0) 58 (xn n) 0) 60 (xn n) 0) 67 (xn n) 0) 32 ((k1.1 32) + 1)) 33 ((k1.1 32) + 1) (xn n)) 34 ((k1.1 32) + 1) (k1.1 24)) 35 ((k1.1 32) + 1) (k1.1 44)) 36 ((k1.1 32) + 1) (k1.1 48)) 0).1 = k2 at fK e53' b1 ob ncb fbb clb
    have h2 : SG L P k t v w (a + 1) (c46 s1 x1).1 k2 ((n + 1, [], [], [(0, [], [], 0)], 0) :: f :: r) t v w := by
      obtain ⟨⟨⟨m1, m2, m3⟩, ⟨m4, m5⟩, ⟨m6, m7, m8⟩, ⟨m9, m10, m11⟩, m12⟩, -, -, -, ⟨m13, -⟩, -⟩ := q5.1
      refine ⟨⟨⟨⟨m1.same c46_w.1 c46_w.2, m2, m3⟩, ⟨(fK.1 0 rfl).trans m4, fun i q hq => ?_⟩, ⟨by rw [b3]; exact m6, (fK.1 4 rfl).trans m7, m8⟩, ⟨by rw [b3, fK.1 5 rfl]; exact m9, by rw [fK.1 5 rfl]; exact m10, by rw [fK.1 5 rfl]; exact m11⟩, (fK.1 6 rfl).trans m12⟩, b1, by rw [sz_bgn]; have := h.sz; omega, ?_, ⟨m13, fbb, clb, lvb⟩, ob.mono (by have := h.bl; omega), (fun z => nomatch z), ⟨[], rfl, ncb⟩⟩, ⟨(fK.1 10 rfl).trans q5.2.1.1, (fK.1 15 rfl).trans q5.2.1.2.1, (fK.1 20 rfl).trans q5.2.1.2.2⟩, q5.2.2.1.trans (KB.fr fK rfl), q5.2.2.2.1, q5.2.2.2.2.ts c46_ts (Nat.le_refl _)⟩
      · rw [fK.2 1 rfl, fK.2 2 rfl]
        exact m5 i q hq
      · rw [e53', xn_i (by omega)]
        omega
    generalize (c46 s1 x1).1 = s2 at h2 b1 b4 ob b46
    have eop : c63 s = k.1 4 := by rw [h.at4.1, h.at4.2]
    have h2n : SG L P k t v w (a + 1) (nb s2 (n + 1) 4 (xn 0)) k2 ((n + 1, [], [], [(0, [], [], 0)], 0) :: f :: r) t v w := by
      rw [nb_same (show s2.b (n + 1) 4 = xn 0 from b46.2.2.2.1)]
      exact h2
    unfold k195_160 c73_26
    by_cases c : x2 = 0
    · rw [if_pos (hs.mp c), if_pos c]
      exact fn_rest (f3 := (n + 1, [], [], [(0, [], [], 0)], 0)) h77 h52 h2n eop rfl rfl rfl (by omega) h.sz hr
    · rw [if_neg (fun z => c (hs.mpr z)), if_neg c]
      have f55 : kFr 0 36028797018963968 k2 (ka k2 55 (xn n) ((kr k2 55 (xn n)) + 1)) := kFr.sa kFr.refl rfl
      have n3 := (h2.rn (cFr.refl (F := 0) (T := 0) (B := 0) (G := 0)) f55).dcl (t := -1) (st := 1) (w := c63 s) (c := 0) (cl := 0) (w' := k.1 4) h2.SZ rfl (by decide) (by decide)
      have hk3 : KW k2 (k196 (ka k2 55 (xn n) ((kr k2 55 (xn n)) + 1)) (-1) 0 0 (k.1 4)).1 := kFr.trans (kFr.mono f55 rfl rfl) (kFr.mono (fr_k196 _ _ _ _ _) rfl rfl)
      have o3 : OU (bd (a + 1)) (c74 s2 (-1) 1 (c63 s)).1 (k196 (ka k2 55 (xn n) ((kr k2 55 (xn n)) + 1)) (-1) 0 0 (k.1 4)).1 (xd (n + 1, [], [], [(0, [], [], 0)], 0) (-1, 1, 0, 0) :: f :: r) := (OU.dcl (OU.fr ob (fun _ => ⟨rfl, rfl⟩) f55 rfl rfl) (by have := h.bl; omega) (h2.rn (cFr.refl (F := 0) (T := 0) (B := 0) (G := 0)) f55).2.1 h2.SZ ((fr_c74 _ _ _ _).ou rfl)).mono (by have := h.bl; omega)
      have h3 := par_one (f := (n + 1, [], [], [(0, [], [], 0)], 0)) (k := k2) (tt := -1) (ww := c63 s) (w' := k.1 4) h2n rfl rfl rfl rfl (h2.rn (cFr.refl (F := 0) (T := 0) (B := 0) (G := 0)) f55) rfl rfl rfl rfl ((f55.mono rfl rfl).trans ((fr_k196 _ _ _ _ _).mono rfl rfl)) n3 (by rw [sz_xd, sz_bgn]; have := h.sz; omega) o3
      exact fn_rest (f3 := xd (n + 1, [], [], [(0, [], [], 0)], 0) (-1, 1, 0, 0)) h77 h52 h3 eop rfl rfl rfl (by omega) h.sz hr
  · rw [rbd_thn q1]
    refine QC.thn ?_
    show (k195_11 (k193 k 60).1 y1 y2 (k.1 4) (k193 k 60).2).1.1 6 ≠ 0
    unfold k195_11
    rw [if_neg (fun z => z q2)]
    exact q3
theorem r73_of (h73 : E73 rc L) (hX : X ≠ []) : R73 rc L X t v w := by
  intro a s k G P Q h hp hO1 hr h20 hK
  have hk : k183 k = 18 := (h.1.is (by decide) (by decide)).mp hK
  have hla : a < L.length := by
    rcases h.1.kd with ⟨q, q1, -⟩ | ⟨-, q2, -⟩
    · exact lt_of q1
    · rw [q2] at hK
      exact absurd hK (by decide)
  have h1 := hr.1
  have h2 := hr.2
  refine vc_of h hp hO1 hr h20 (by rw [hk]; unfold k185; decide) (fun k1 hs ks => ?_)
  have e : (k187 k1 (k183 k)).1 = (k187_209 (k193 k1 18).1 (k1.1 4) (k193 k1 18).2).1 := by
    unfold k187
    rw [hk]
    rfl
  rw [e]
  rcases hs.ske hK en18 with ⟨q, s4, k4, q1, q2, q3, q4, q5, q6, q7⟩ | ⟨q1, q2, q3⟩
  · rw [q3, rbd_th (w := q.2.1) rfl, q4]
    unfold k187_209
    rw [if_pos (show (1 : Int32) ≠ 0 from by decide)]
    obtain ⟨h5, g5⟩ := q5.psh (g := 41) (p := k1.1 4) (q := 0) (c := 0) (Nat.le_refl _) (by omega)
    show QC _ (k195 (k179 k4 41 (k1.1 4) 0 0).1 0 (k1.1 4)).1 _
    generalize (k179 k4 41 (k1.1 4) 0 0).1 = k5 at h5 g5
    have ew4 : c63 s4 - 1 = k1.1 4 := by rw [hs.at4.1, q5.at4.2, ← xn_succ (n := a) (by have := hs.le; omega), Int32.add_sub_cancel]
    have hq := (h73 (a + 1) s4 k5 X (t + 2 * G.length + 1 + 1) (v + n25 G) w ((c63 s4) - 1) 0 0 (k1.1 4) h5.own hX Iff.rfl ew4 ⟨by omega, by omega⟩).bnd (f := fun s9 w9 => some (s9, some w9)) (Q := fun s' k' _ => ∃ a', a < a' ∧ SGp (some (v + n25 G, true)) ([], []) L (P.1 ++ Q.reverse, P.2.1, hO (xh X) G Q ++ P.2.2) k1 (t + 2 * G.length + 1) (v + n25 G) w a' s' k' X (t + 2 * G.length + 1) (v + n25 G + 1) w ∧ k'.2 16 (v + n25 G) = 0) ?_
    · intro s' o e
      refine hq s' o ?_
      rw [show rc 73 s4 0 (c63 s4 - 1) 0 0 0 0 0 = some (s', o) from e]
      cases o <;> rfl
    · rintro s6 k6 x6 ⟨a6, m, u1, u2, u3⟩
      refine QC.pop (g5.bck u2.2.2.1 u2.2.1.1) (by omega) ?_
      rw [k180_g41]
      have h7 := (((h5.reb u2 (by omega) (Nat.le_refl _) (Nat.le_refl _)).top (t' := t + 2 * G.length + 1)).put (x := 7) (y := (kf k6 10 (xn (t + 2 * G.length + 1))).1 76) (z := 0) (u := k1.1 4)).de8 (fun z8 => by
        have em : m = k6.1 76 := u3 (by
          have z8 : (k189 (kf k6 10 (xn (t + 2 * G.length + 1))) 7 ((kf k6 10 (xn (t + 2 * G.length + 1))).1 76) 0 (k1.1 4)).1.1 8 = 0 := z8
          rw [(fr_k189 _ _ _ _ _).1 8 rfl] at z8
          exact z8)
        show [((7 : Int32), m, (0 : Int32), c63 s4 - 1)] = [(7, k6.1 76, 0, k1.1 4)]
        rw [em, ew4]) |>.val (x := 0) (y := 0) (z := 0) (Nat.le_refl _) (by omega)
      exact QC.ret ⟨a6, by omega, h7.1.los (Or.inl h7.2.1), h7.2.1⟩
  · rw [rbd_thn q1]
    refine QC.thn ?_
    unfold k187_209
    rw [if_neg (fun z => z q2)]
    exact q3
end FUN
