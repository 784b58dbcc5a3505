/-! THE WALK OVER BOTH: for with a list -/
section FOL1
variable {L : List xR} {P : PT} {k0 k k' : kS} {T V W a t v w : Nat} {s s' : cS} {X X' : List xF} {f : xF} {r : List xF} {x y z y1 y2 y3 y4 p : Int32} {rc : cRC}
/-- nils in the reference, in the class -/
theorem SGp.nlk : ∀ (n i : Nat) (δ : Df) (k : kS), SGp none δ L P k0 T V W a s k X t v w → i + n ≤ 1000000 → ∃ m k', kwh (k240b2 (xn (i + n))) m (k, xn i) = (1, (k', xn (i + n))) ∧ SGp none (δ.1, δ.2 ++ List.replicate n (1, 0, 0, 0)) L P k0 T V W a s k' X t v w := by
  intro n
  induction n with
  | zero =>
    intro i δ k h hn
    have e : k240b2 (xn (i + 0)) (k, xn i) = (1, (k, xn i)) := by
      unfold k240b2
      rw [if_pos (by show xn (i + 0) ≤ xn i; exact Int32.le_refl _)]
    exact ⟨1, k, by rw [kwh_out (by rw [e]; exact Nat.succ_ne_zero _), e]; rfl, h.eq (by rw [List.replicate_zero, List.append_nil])⟩
  | succ n ih =>
    intro i δ k h hn
    have e : k240b2 (xn (i + (n + 1))) (k, xn i) = (0, ((k189 k 1 0 0 0).1, xn (i + 1))) := by
      unfold k240b2
      rw [if_neg (by show ¬ xn (i + (n + 1)) ≤ xn i; rw [i_le, xn_i (by omega), xn_i (by omega)]; omega)]
      show (0, ((k189 k 1 0 0 0).1, xn i + 1)) = _
      rw [xn_succ (by omega)]
    obtain ⟨m, k', r1, r2⟩ := ih (i + 1) _ (k189 k 1 0 0 0).1 h.put (by omega)
    rw [show i + 1 + n = i + (n + 1) by omega] at r1
    exact ⟨m + 1, k', by rw [kwh_go (by rw [e]), e]; exact r1, r2.eq (by rw [List.replicate_succ, List.append_assoc]; rfl)⟩
theorem SGp.nlc : ∀ (n i : Nat) (δ : Df) (s : cS), SGp none δ L P k0 T V W a s k X t v w → i + n ≤ 1000000 → ∃ m s', kwh (c117b37 (xn (i + n)) y2) m (s, xn i) = (1, (s', xn (i + n))) ∧ SGp none (δ.1 ++ List.replicate n (1, 0, 0, 0), δ.2) L P k0 T V W a s' k X t v w := by
  intro n
  induction n with
  | zero =>
    intro i δ s h hn
    have e : c117b37 (xn (i + 0)) y2 (s, xn i) = (1, (s, xn i)) := by
      unfold c117b37
      rw [if_pos (by show xn (i + 0) ≤ xn i; exact Int32.le_refl _)]
    exact ⟨1, s, by rw [kwh_out (by rw [e]; exact Nat.succ_ne_zero _), e]; rfl, h.eq (by rw [List.replicate_zero, List.append_nil])⟩
  | succ n ih =>
    intro i δ s h hn
    have e : c117b37 (xn (i + (n + 1))) y2 (s, xn i) = (0, ((c78 s 1 0 0 0).1, xn (i + 1))) := by
      unfold c117b37
      rw [if_neg (by show ¬ xn (i + (n + 1)) ≤ xn i; rw [i_le, xn_i (by omega), xn_i (by omega)]; omega)]
      show (0, ((c78 s 1 0 0 0).1, xn i + 1)) = _
      rw [xn_succ (by omega)]
    obtain ⟨m, s', r1, r2⟩ := ih (i + 1) _ (c78 s 1 0 0 0).1 h.cle (by omega)
    rw [show i + 1 + n = i + (n + 1) by omega] at r1
    exact ⟨m + 1, s', by rw [kwh_go (by rw [e]), e]; exact r1, r2.eq (by rw [List.replicate_succ, List.append_assoc]; rfl)⟩
/-- no value is there -/
theorem SGp.fit0 {n : Nat} (h : SG L P k0 T V W a s k X t v w) (hx : x = xn n) (hn : n ≤ 1000000) : SG L P k0 T V W a (c117 s x 0).1 (k240 k x).1 X t v w := by
  obtain ⟨m, k', r1, r2⟩ := SGp.nlk n 0 ([], []) k h (by omega)
  obtain ⟨m2, s', t1, t2⟩ := SGp.nlc (y2 := 0) n 0 _ s r2 (by omega)
  rw [Nat.zero_add] at r1 t1
  have e0 : (0 : Int32) = xn 0 := rfl
  have ek : (k240 k x).1 = k' := by
    unfold k240
    rw [hx, e0, kfin_of ⟨m, r1⟩ (Nat.succ_ne_zero 0)]
  have es : (c117 s x 0).1 = s' := by
    unfold c117 c117_35
    rw [if_pos (show (0 : Int32) ≤ 0 from by decide), if_pos (by rw [hx, i_le, xn_i (by omega)]; exact Int.natCast_nonneg _), hx]
    have q := kfin_of ⟨m2, t1⟩ (Nat.succ_ne_zero 0)
    rw [show (xn 0 : Int32) = 0 from rfl] at q
    rw [q]
  rw [ek, es]
  exact t2.de0 rfl (wfl_r (wfa_o rfl))
theorem k216_i (h15 : k.1 15 = xn (v + 1)) (hv : v ≤ 1000000) : k216 k ≠ 0 ↔ k.2 16 v = 1 ∨ k.2 16 v = 2 := by
  have e1 : k.1 15 - 1 = xn v := by
    rw [h15]
    have := xn_sub (n := 1) (m := v) (by omega)
    rw [Nat.add_comm 1] at this
    exact this
  have ekr : kr k 16 (k.1 15 - 1) = k.2 16 v := by
    rw [e1]
    show k.2 16 (xn v).toNatClampNeg = _
    rw [xn_nat (by omega)]
  unfold k216
  rw [ekr]
  by_cases c1 : k.2 16 v = 1
  · rw [if_pos c1]
    exact ⟨fun _ => Or.inl c1, fun _ => by decide⟩
  · rw [if_neg c1]
    by_cases c2 : k.2 16 v = 2
    · rw [if_neg (fun z => z c2)]
      exact ⟨fun _ => Or.inr c2, fun _ => by decide⟩
    · rw [if_pos c2]
      exact ⟨fun z => absurd rfl z, fun z => z.elim (fun q => absurd q c1) (fun q => absurd q c2)⟩
/-- values are made as many as are wanted -/
theorem SGp.fit {wn hn : Nat} (h : SGp (some (v, true)) ([], []) L P k0 T V W a s k X t (v + 1) w) (hl : LR s k v) (hV : V ≤ v) (hv : v ≤ 1000000) (hx : x = xn wn) (hy : y = xn hn) (h1 : 1 ≤ hn) (hw : wn ≤ 500000) (hh : hn ≤ 500000) : SG L P k0 T V W a (c117 s x y).1 (k258 k x y).1 X t v w := by
  have i216 := k216_i h.2.1.2.1 hv
  have fl : s.f 7 5 = 0 ↔ k216 k = 0 := by
    have z := hl.1.trans i216.symm
    constructor
    · intro q
      by_cases c : k216 k = 0
      · exact c
      · exact absurd q (z.mpr c)
    · intro q
      by_cases c : s.f 7 5 = 0
      · exact c
      · exact absurd q (z.mp c)
  have n0 : ¬ y ≤ 0 := by
    rw [hy, i_le, xn_i (by omega)]
    have : (0 : Int32).toInt = 0 := rfl
    omega
  have rest : SG L P k0 T V W a (c117_35 s x y).1 (k258_31 k x y).1 X t v w := by
    have h2 := h.awy hV hv
    unfold c117_35 k258_31 k258_35 k258_42
    generalize (k209 k).1 = k2 at h2
    by_cases c : hn ≤ wn
    · obtain ⟨n, rfl⟩ : ∃ n, wn = hn + n := ⟨wn - hn, by omega⟩
      obtain ⟨m, k', r1, r2⟩ := SGp.nlk n 0 ([], []) k2 h2 (by omega)
      obtain ⟨m2, s', t1, t2⟩ := SGp.nlc (y2 := xn hn) n hn _ s r2 (by omega)
      rw [Nat.zero_add] at r1
      have e0 : (0 : Int32) = xn 0 := rfl
      have ek : (k240 k2 (x - y)).1 = k' := by
        unfold k240
        rw [hx, hy, xn_sub (by omega), e0, kfin_of ⟨m, r1⟩ (Nat.succ_ne_zero 0)]
      have hle : y ≤ x := by rw [hx, hy, i_le, xn_i (by omega), xn_i (by omega)]; omega
      rw [if_pos hle, if_pos hle, ek, hx, hy, kfin_of ⟨m2, t1⟩ (Nat.succ_ne_zero 0)]
      exact t2.de0 rfl (wfl_r (wfa_o rfl))
    · have hle : ¬ y ≤ x := by rw [hx, hy, i_le, xn_i (by omega), xn_i (by omega)]; omega
      have hlx : x ≤ y := by rw [hx, hy, i_le, xn_i (by omega), xn_i (by omega)]; omega
      have e1 : c117b37 x y (s, y) = (1, (s, y)) := by
        unfold c117b37
        rw [if_pos hlx]
      have e2 : k240b2 (x - y) (k2, 0) = (1, (k2, 0)) := by
        unfold k240b2
        rw [if_pos (by
          show x - y ≤ 0
          rw [hx, hy, i_le, i_sub (xn_i (by omega)) (xn_i (by omega)) (by omega) (by omega)]
          have : (0 : Int32).toInt = 0 := rfl
          omega)]
      have ek : (k240 k2 (x - y)).1 = k2 := by
        unfold k240
        rw [kfin_of ⟨1, by rw [kwh_out (by rw [e2]; exact Nat.succ_ne_zero _), e2]⟩ (Nat.succ_ne_zero 0)]
      rw [if_neg hle, if_neg hle, ek, kfin_of ⟨1, by rw [kwh_out (by rw [e1]; exact Nat.succ_ne_zero _), e1]⟩ (Nat.succ_ne_zero 0)]
      exact h2.pc rfl
  unfold c117 k258
  rw [if_neg n0]
  by_cases c1 : k216 k = 0
  · rw [if_pos c1, if_pos (fl.mpr c1)]
    split
    · exact rest
    · exact rest
  · rw [if_neg c1]
    by_cases c2 : x < y
    · rw [if_pos c2, if_pos c2]
      exact rest
    · rw [if_neg c2, if_neg c2, if_neg (fun z => c1 (fl.mp z))]
      unfold c117_20 k258_16
      exact (h.opa hv c1 hl.2).pc rfl
theorem f15 (g : GT t 15 x y z k) (ht : t ≤ 1000000) (hn : k183 (kf k 10 (xn t)) ≠ 15) : (kst k).1 6 ≠ 0 := by
  rw [kst_pop g ht, k180_g15]
  generalize kf k 10 (xn t) = k1 at hn
  unfold k259 k259_11 k259_16 k259_25 k259_47 k259_52 k259_61 k259_67
  have f1 := fr_k189 k1 33 (z + 4) 0 0
  generalize (k189 k1 33 (z + 4) 0 0).1 = k2 at f1
  have f2 := fr_k224 k2
  generalize (k224 k2).1 = k3 at f2
  have f3 := fr_k189 k3 36 y 0 0
  generalize (k189 k3 36 y 0 0).1 = k4 at f3
  have f4 : kFr 0 4722366482869645213696 k4 (ka k4 72 x (k210 k4)) := kFr.sa kFr.refl rfl
  generalize ka k4 72 x (k210 k4) = k5 at f4
  have f5 := fr_k189 k5 33 (z + 4) 0 0
  generalize (k189 k5 33 (z + 4) 0 0).1 = k6 at f5
  have f6 := fr_k246 k6
  generalize (k246 k6).1 = k7 at f6
  have f7 := fr_k189 k7 41 z 0 0
  generalize (k189 k7 41 z 0 0).1 = k8 at f7
  have f8 := fr_k256 k8 z
  generalize (k256 k8 z).1 = k9 at f8
  have fa : KW k1 k9 := kFr.trans (kFr.mono f1 rfl rfl) (kFr.trans (kFr.mono f2 rfl rfl) (kFr.trans (kFr.mono f3 rfl rfl) (kFr.trans (kFr.mono f4 rfl rfl) (kFr.trans (kFr.mono f5 rfl rfl) (kFr.trans (kFr.mono f6 rfl rfl) (kFr.trans (kFr.mono f7 rfl rfl) (kFr.mono f8 rfl rfl)))))))
  have e : k183 k9 = k183 k1 := by
    show k184 k9 (k9.1 4) = k184 k1 (k1.1 4)
    unfold k184
    rw [fa.1 4 rfl, fa.1 0 rfl]
    unfold kr
    rw [fa.2 1 rfl]
  unfold k199 k200
  rw [if_neg (by rw [e]; exact hn)]
  unfold k199_5
  rw [if_neg (fun z => z (k194_f (by decide)).2.2)]
  exact (k194_f (by decide)).1
theorem fl_fin {fh g' : xF} {l hl : List xR} {b2 : xB} {bs : List xB} {a0 a' : Nat} {s5 : cS} {k6 : kS} (hp : f.2.2.1 = []) (hb : f.2.2.2.1 = b2 :: bs) (efh : fh = xdn (xo f 2) hl) (hl3 : hl.length = 4) (hq : XQ (xdn (xo fh 1) l :: r) (g' :: r)) (h : SG L (P.1, P.2.1, (f.1 - 1, y3.toNatClampNeg, 2, x.toNatClampNeg, 0, 0) :: (gho y2 y ++ P.2.2)) k0 t v w a' s5 k6 (g' :: r) t v w) (c15 : c53 s5 = 15) (ha : a0 < a') (hy3 : 0 ≤ y3.toInt) (ey : y1 = xn f.2.1.length) : QC (SP L P k0 t v w a0 (f :: r)) (k259 k6 x y (xn f.2.1.length)).1 (c144_183 rc (c81 (c78 (c55 s5).1 33 (c82 (c55 s5).1) 0 0).1).1 y1 y2 y3) := by
  obtain ⟨d', u1, u2, u3, u4, u5, u6⟩ := fo_xq hp hb efh hq
  obtain ⟨o, s7, p1, p3, p4, p5⟩ := h.skl c15 lv15
  have hle := h.le
  have hszf : f.2.1.length + 4 ≤ 1000000 := by
    have z := h.1.2.1.2.2.1.1
    rw [u2] at z
    have z1 := z.1
    have zl := h.SZ.k.1
    have e1 : (kL (g' :: r)).length = (kL r).length + g'.2.1.length := by show (kL r ++ g'.2.1).length = _; rw [List.length_append]
    omega
  have c5 : cFr 51539607552 0 0 0 s5 (c55 s5).1 := by rw [p3]; exact p5
  obtain ⟨n1, re1, o3, e28⟩ := fo_r1 (yc := xn f.2.1.length + 4) h c5 u1 u2 u3 (by rw [u5, hl3, show (4 : Int32) = xn 4 from rfl, xn_add (by omega)])
  rw [u6] at n1
  have hz1 : szX (xc g' :: r) ≤ 8 * a' + 8 := by
    have := sz_xc (r := r) u2
    have := h.sz
    omega
  have hzz : SZ (xc g' :: r) := SZ_of (by omega)
  have hb1 : (xc g').2.2.2.1 = (f.2.1.length, [], [] ++ xcb d', 2) :: b2 :: bs := by rw [xc_e u2]
  have hp1 : (xc g').2.2.1 = [] := by rw [xc_e u2]
  have hx1 : (xc g').1 = f.1 - 1 + 1 := by rw [xc_1 u2]; omega
  unfold k259 k259_11 k259_16 k259_25 k259_47 k259_52 k259_61 k259_67 c144_183 c144_193 c144_207 c144_219 c144_224
  have f1 := fr_k189 k6 33 (xn f.2.1.length + 4) 0 0
  generalize (k189 k6 33 (xn f.2.1.length + 4) 0 0).1 = k8 at f1 n1 re1 ⊢
  have e8 := fr_c78 (c55 s5).1 33 (c82 (c55 s5).1) 0 0
  generalize (c78 (c55 s5).1 33 (c82 (c55 s5).1) 0 0).1 = s8 at e8 n1 re1 e28 ⊢
  obtain ⟨K9, hK9⟩ : ∃ K9, K9 = (k224 k8).1 := ⟨_, rfl⟩
  rw [← hK9] at n1 re1 ⊢
  have n2 := NS.pcg (H1 := [(f.1 - 1, y3.toNatClampNeg, 2, x.toNatClampNeg, 0, 0)]) (x := 36) (y := y2) (z := 0) (u := 0) (x' := 36) (y' := y) (z' := 0) (u' := 0) n1 (fun q => by rw [q])
  have g1 := fr_k189 K9 36 y 0 0
  generalize (k189 K9 36 y 0 0).1 = k4 at g1 n2 ⊢
  have d1 := fr_c78 (c81 s8).1 36 y2 0 0
  generalize (c78 (c81 s8).1 36 y2 0 0).1 = s9 at d1 n2 ⊢
  have n3 := NS.ld2 n2 (nat_xn hy3)
  have n3 : NS 2 ([], []) (gho y2 y ++ P.2.2) (f.1 - 1) (c109 s9 s9.now y3 2).1 (ka k4 72 x (k210 k4)) (xc g' :: r) := n3
  have g2 : kFr 0 4722366482869645213696 k4 (ka k4 72 x (k210 k4)) := kFr.sa kFr.refl rfl
  generalize ka k4 72 x (k210 k4) = k5 at g2 n3 ⊢
  have d2 := fr_c109 s9 s9.now y3 2
  generalize (c109 s9 s9.now y3 2).1 = s10 at d2 n3 ⊢
  have n4 := n3.pc (x := 33) (y := y1 + 4) (z := 0) (u := 0) (x' := 33) (y' := xn f.2.1.length + 4) (z' := 0) (u' := 0) (by rw [ey])
  have g6 := fr_k189 k5 33 (xn f.2.1.length + 4) 0 0
  generalize (k189 k5 33 (xn f.2.1.length + 4) 0 0).1 = k10 at g6 n4 ⊢
  have d6 := fr_c78 s10 33 (y1 + 4) 0 0
  generalize (c78 s10 33 (y1 + 4) 0 0).1 = s11 at d6 n4 ⊢
  have d3 : cFr 0 0 0 20 (c81 s8).1 s11 := (d1.trans (cFr.mono d2 rfl rfl rfl rfl)).trans d6
  have g5 : QP K9 k10 := kFr.trans (kFr.mono g1 rfl rfl) (kFr.trans (kFr.mono g2 rfl rfl) (kFr.mono g6 rfl rfl))
  have re2 : RE 1 s11 k10 (xc g' :: r) := re1.frm d3 g5 rfl rfl rfl rfl rfl rfl rfl rfl rfl rfl rfl
  have nr := fo_rows (n := xn f.2.1.length) n4 re2 hzz hb1 hp1 (re2.wb hb1).1 hx1 rfl (by rw [(d3.2.1 28 rfl).1]; exact e28) ey
  have g3 := fr_k246 k10
  generalize (k246 k10).1 = k7 at g3 nr ⊢
  have g4 := fr_k189 k7 41 (xn f.2.1.length) 0 0
  generalize (k189 k7 41 (xn f.2.1.length) 0 0).1 = k9 at g4 nr ⊢
  have f9 : QP K9 k9 := kFr.trans g5 (kFr.trans (kFr.mono g3 rfl rfl) (kFr.mono g4 rfl rfl))
  rw [hK9] at f9
  obtain ⟨k11, z1, z2⟩ := fo_end (P := P) h c15 u1 u2 u3 rfl rfl e8 d3 (fr_c78 (c143 s11).1 41 y1 0 0) f1 f9 nr.ghx
  rw [z1]
  exact QC.ret ⟨a' + 1, _, by omega, z2, u4⟩
/-- when the names are read -/
theorem fl_rest {a0 n : Nat} (hl : F112 rc L) (h142 : E142 rc L) (h : SG L P k0 t v w a s k (f :: r) t v w) (b1 : f.2.2.1 = []) {b2 : xB} {bs : List xB} (hb : f.2.2.2.1 = b2 :: bs) (ha : a0 + 2 * n = a) (hn : 1 ≤ n) (hsz : szX (f :: r) ≤ 8 * a0 + 8) (hr : RO L a (t + 8) (v + 8)) (hz4 : z = k.1 4) : QC (SP L P k0 t v w a0 (f :: r)) (k235_90 (k200 k 21).1 (xn a0) (xn n) z (k200 k 21).2).1 (c144_84 rc s (xn a0) (xn (a0 + 1)) (xn n)) := by
  have hle := h.le
  have ht : t + 8 ≤ 1000000 := by have := hr.1; omega
  have hv : v + 8 ≤ 1000000 := by have := hr.2; omega
  have e63 : c63 s = z := h.w63.trans hz4.symm
  unfold c144_84
  rcases h.tkp pl21 with ⟨o, s1, o1, o2, o3, o4, o5, o6⟩ | ⟨o1, o2, o3⟩
  · rw [o3, rbd_th (w := o.2.1) rfl, o4]
    show QC _ (k235_90 (kf k 4 (k.1 4 + 1)) (xn a0) (xn n) z 1).1 (c144_102 rc s1 (xn a0) (xn (a0 + 1)) (xn n) (c63 s) o.2.1)
    generalize kf k 4 (k.1 4 + 1) = k1 at o5
    unfold k235_90 c144_102
    rw [if_pos (by decide)]
    obtain ⟨h2, g2⟩ := o5.psh (g := 14) (p := xn a0) (q := xn n) (c := z) (Nat.le_refl _) (by omega)
    show QC _ (k214 (k179 k1 14 (xn a0) (xn n) z).1).1 _
    generalize (k179 k1 14 (xn a0) (xn n) z).1 = k2 at h2 g2
    refine (hl k2 (t + 1) v w (a + 1) s1 k2 (f :: r) (t + 1) v w h2.own (fun z => nomatch z) (Nat.le_refl _) (Nat.le_refl _) (Nat.le_refl _) ⟨by have := hr.1; omega, by have := hr.2; omega⟩).bnd ?_
    rintro s3 k3 x3 ⟨a3, u1, u2, uL, u19, ux1, ux2⟩
    have g3 := g2.bck u2.2.2.1 u2.2.1.1
    have h3 := (h2.reb u2 (by omega) (Nat.le_refl _) (Nat.le_refl _)).top (t' := t)
    refine QC.pop g3 (by omega) ?_
    rw [k180_g14]
    unfold k257
    have uL4 : LR s3 (kf k3 10 (xn t)) v := uL
    have u194 : x3 = (kf k3 10 (xn t)).1 19 := u19
    generalize kf k3 10 (xn t) = k4 at h3 uL4 u194
    have hle3 := h3.le
    have hx3 : x3 = xn x3.toInt.toNat := xn_eq (by omega) (by omega)
    have h4 := h3.fit (x := 4) (y := x3) (wn := 4) (hn := x3.toInt.toNat) uL4 (Nat.le_refl _) (by omega) rfl hx3 (by omega) (by omega) (by omega)
    rw [u194] at h4
    rw [u194]
    generalize (k258 k4 4 (k4.1 19)).1 = k5 at h4
    show QC _ (k257_9 k5 (xn a0) (xn n) z).1 (c144_112 rc (c117 s3 4 (k4.1 19)).1 (xn a0) (xn (a0 + 1)) (xn n) (c63 s))
    generalize (c117 s3 4 (k4.1 19)).1 = s4 at h4
    unfold k257_9 c144_112
    rcases h4.tke en12 with ⟨p, s5, k6, p1, p2, p3, p4, p5, p6, p7⟩ | ⟨p1, p2, p3⟩
    · rw [p3, rbd_th (w := p.2.1) rfl, p4]
      have hle5 := p5.le
      show QC _ (k257_15 k6 (xn a0) (xn n) z 1).1 (c144_121 rc s5 (xn a0) (xn (a0 + 1)) (xn n) (c63 s) p.2.1)
      unfold k257_15
      rw [if_pos (by decide)]
      have ecnt : k197 k6 = xn f.2.1.length := p5.1.2.1.2.1.cnt p5.SZ
      rw [ecnt]
      have hzh : SZ (xdn (xo f 2) (List.replicate (3 + 1) (0, 0, 0, 0)) :: r) := SZ_of (by rw [sz_xdn, sz_xo, List.length_replicate]; split <;> omega)
      have nh := RE.hid (n := 3) (v := 4) (w := xn a0) (w' := xn a0) (y := 1) p5.1.2.1 b1 (by decide) hzh (by decide)
      obtain ⟨fh, hfh⟩ : ∃ fh, fh = xdn (xo f 2) (List.replicate 3 (0, 0, 0, 0) ++ [(0, 0 ||| 4, 0, 0)]) := ⟨_, rfl⟩
      rw [← hfh] at nh
      have szh : szX (fh :: r) ≤ szX (f :: r) + 5 := by
        rw [hfh, sz_xdn, sz_xo]
        show _ + 1 + _ + 4 ≤ _
        split <;> omega
      have o6 : OU (bd a3 + 4) (c140 s5 4 4 (xn a0)).1 (k254 k6 4 1 (xn a0)).1 (fh :: r) := by
        rw [hfh]
        have psz := p5.sz
        have hk : (kL (xo f 2 :: r)).length + 4 ≤ 1000000 := by
          have e1 : (kL (xo f 2 :: r)).length = (kL (f :: r)).length := rfl
          have e2 := szX_kl (X := f :: r)
          omega
        have q1 : OU (bd a3) s5 k6 (xo f 2 :: r) := (h4.ou p6 p7).cut rfl (Nat.le_refl _) (Nat.le_refl _)
        have q2 : (List.replicate 3 ((0, 0, 0, 0) : xR) ++ [((0, 0 ||| 4, 0, 0) : xR)]).length = 4 := rfl
        have q3 : k6.1 24 = xn (kL (xo f 2 :: r)).length := p5.1.2.1.2.1.a24
        have q4 : k6.1 32 = xn r.length := p5.1.2.1.2.1.a32 p5.SZ
        have q5 : bd a3 + 4 ≤ 1000000 := by have := h4.bl; omega
        have q6 : (4 : Int32) = xn 4 := rfl
        exact OU.hidn q2 q1 q3 q4 hk q5 (by decide) q6 ((fr_c140 s5 4 4 (xn a0)).ou rfl)
      have h6 : SE 1 L P k0 t v w (a3 + 1) (c140 s5 4 4 (xn a0)).1 (k254 k6 4 1 (xn a0)).1 (fh :: r) t v w := by
        have hq4 : ∀ i q, (List.replicate 3 ((0, 0, 0, 0) : xR) ++ [((0, 0 ||| 4, 0, 0) : xR)])[i]? = some q → (((1 : Int32) ≠ 0 ∧ i + 1 = (List.replicate 3 ((0, 0, 0, 0) : xR) ++ [((0, 0 ||| 4, 0, 0) : xR)]).length) ↔ q.2.1 &&& 4 ≠ 0) := fun i q hq => by
          have el : (List.replicate 3 ((0, 0, 0, 0) : xR)).length = 3 := List.length_replicate
          have el4 : (List.replicate 3 ((0, 0, 0, 0) : xR) ++ [((0, 0 ||| 4, 0, 0) : xR)]).length = 4 := rfl
          rw [el4]
          by_cases ci : i < 3
          · rw [List.getElem?_append_left (by omega)] at hq
            have z : q.2.1 = 0 := by rw [List.eq_of_mem_replicate (List.mem_of_getElem? hq)]
            rw [z]
            exact ⟨fun q => absurd q.2 (by omega), fun q => absurd rfl q⟩
          · have hi4 := (List.getElem?_eq_some_iff.mp hq).1
            rw [el4] at hi4
            have ei : i = 3 := by omega
            rw [ei, List.getElem?_append_right (by omega), el] at hq
            cases hq
            exact ⟨fun _ => by decide, fun _ => ⟨by decide, by omega⟩⟩
        have hb4 := FB.hid (n := 3) (v := 4) (w := xn a0) (w' := xn a0) (y := 1) (l := List.replicate 3 (0, 0, 0, 0) ++ [(0, 0 ||| 4, 0, 0)]) p5.fb p5.cc p5.1.2.1 p5.SZ b1 (by decide) hzh rfl hq4
        rw [← hfh] at hb4
        have hzf : SZ (fh :: r) := SZ_of (by omega)
        have hlp := p5.1.2.1.1.lp
        have hg5 := p5.SZ.g
        have lvh : LVv [fh.2.1.length] (c140 s5 4 4 (xn a0)).1 (fh :: r) := p5.lv.hid (by omega) nh.1 hzf (by rw [hfh, xdn_all]; exact b1) (by rw [hfh, xdn_all]; show bLv f.2.2.2.1 ++ (if (2 : Nat) = 1 then _ else []) = _; rw [if_neg (by decide), List.append_nil])
        have fc := fr_c140 s5 4 4 (xn a0)
        have fk := fr_k254 k6 4 1 (xn a0)
        exact SEp.nam (SE.of p5) fc fk nh (by omega) (o6.mono (by have := h4.bl; omega)) ⟨(fun z => nomatch z), p5.nc.hid (by omega) (by rw [hfh, xdn_all]; rfl) (by rw [hfh, xdn_all]; rfl) fk (st_k254 k6 4 1 (xn a0)), hb4.1, hb4.2, lvh⟩
      have ez3 : (c140 s5 4 4 (xn a0)).2 = xn f.2.1.length := by
        rw [c140_2, XC.cnt p5.1.2.1.1 p5.SZ, b1, List.append_nil]
      unfold k257_32 k257_42 k257_58 k257_69 k257_80 k257_87 c144_121 c144_129 c144_141 c144_151 c144_164 c144_175
      rw [ez3, e63]
      generalize (k254 k6 4 1 (xn a0)).1 = k7 at h6 o6 ⊢
      generalize (c140 s5 4 4 (xn a0)).1 = s6 at h6 o6 ⊢
      have h7 := SEp.pc (x := 42) (y := xn f.2.1.length) (z := 0) (u := xn a0) (x' := 42) (y' := xn f.2.1.length) (z' := 0) (u' := xn a0) h6 rfl (wfa_b (by decide) (by decide) (by have := SZ.fl h.SZ; rw [xn_i (by omega)]; omega) (by decide))
      have o7 := OU.fr o6 ((fr_c78 s6 42 (xn f.2.1.length) 0 (xn a0)).ou rfl) (fr_k189 k7 42 (xn f.2.1.length) 0 (xn a0)) rfl rfl
      generalize (k189 k7 42 (xn f.2.1.length) 0 (xn a0)).1 = k8 at h7 o7 ⊢
      generalize (c78 s6 42 (xn f.2.1.length) 0 (xn a0)).1 = s7 at h7 o7 ⊢
      have h7 := SEp.top h7
      have ezd : (c78 s7 34 0 0 (xn a0)).2 = c98 s7 := tad_2
      have h8 := SEp.pc (x := 34) (y := 0) (z := 0) (u := xn a0) (x' := 34) (y' := 0) (z' := 0) (u' := xn a0) h7 rfl
      have o8 := OU.fr o7 ((fr_c78 s7 34 0 0 (xn a0)).ou rfl) (fr_k189 k8 34 0 0 (xn a0)) rfl rfl
      rw [ezd]
      generalize (k189 k8 34 0 0 (xn a0)).1 = k9 at h8 o8 ⊢
      generalize (c78 s7 34 0 0 (xn a0)).1 = s8 at h8 o8 ⊢
      have h9 := SEp.pc (x := 43) (y := xn f.2.1.length) (z := xn n) (u := z) (x' := 43) (y' := xn f.2.1.length) (z' := xn n) (u' := z) h8 rfl (wfa_b (by decide) (by decide) (by have := SZ.fl h.SZ; rw [xn_i (by omega)]; omega) (fun _ => by rw [xn_i (by omega)]; omega))
      have o9 := OU.fr o8 ((fr_c78 s8 43 (xn f.2.1.length) (xn n) z).ou rfl) (fr_k189 k9 43 (xn f.2.1.length) (xn n) z) rfl rfl
      generalize (k189 k9 43 (xn f.2.1.length) (xn n) z).1 = k10 at h9 o9 ⊢
      generalize (c78 s8 43 (xn f.2.1.length) (xn n) z).1 = s9 at h9 o9 ⊢
      obtain ⟨h10', i10⟩ := SEp.jmp (j := 2) (x1 := 44) (y1 := xn f.2.1.length) (z1 := 0) (u1 := 0) (y2 := xn f.2.1.length) (z2 := 0) h9 (Or.inr ⟨rfl, rfl⟩) (by unfold jmp; decide) (Or.inr ⟨rfl, wfa_b (by decide) (by decide) (by have := SZ.fl h.SZ; rw [xn_i (by omega)]; omega) (by decide)⟩)
      have ef : fh.1 = f.1 := by rw [hfh, xdn_all]; rfl
      rw [ef] at h10'
      have o10 := OU.fr o9 ((fr_c78 s9 44 (xn f.2.1.length) 0 0).ou rfl) (fr_k189 k10 44 (xn f.2.1.length) 0 0) rfl rfl
      generalize (k189 k10 44 (xn f.2.1.length) 0 0).2 = ze at h10' ⊢
      generalize (k189 k10 44 (xn f.2.1.length) 0 0).1 = k11 at h10' o10 ⊢
      generalize (c78 s9 44 (xn f.2.1.length) 0 0).2 = zg at h10' i10 ⊢
      generalize (c78 s9 44 (xn f.2.1.length) 0 0).1 = s10 at h10' o10 ⊢
      have h10 : SE 1 L (P.1, P.2.1, (f.1 - 1, zg.toNatClampNeg, 2, ze.toNatClampNeg, 0, 0) :: (gho (c98 s7) (k210 k8) ++ P.2.2)) k0 t v w (a3 + 1) s10 k11 (fh :: r) t v w := h10'
      have hy : xn a0 + 1 = xn (a0 + 1) := xn_succ (by omega)
      rw [kdn_fin (i0 := a0 + 1) (by omega) hy]
      have hp1 : fh.2.2.1 = [] := by rw [hfh, xdn_all]; exact b1
      refine (h142 (a0 + 1) n (a3 + 1) s10 k11 fh r t v w 15 ze (k210 k8) (xn f.2.1.length) h10.own hp1 (by omega) (by omega) ⟨_, by have := h4.bl; omega, o10⟩ ⟨by have := hr.1; omega, by have := hr.2; omega⟩ (fun k' g hn => f15 g (by omega) hn)).bnd ?_
      rintro sx kx xx ⟨ax, sy, Xx, lx, w1, w2, w3, w4, w5, rfl⟩
      refine QC.pop w3 (by omega) ?_
      rw [k180_g15]
      obtain ⟨g', rfl⟩ : ∃ g', Xx = g' :: r := by
        obtain ⟨g0, g1, r', l', d, d', ds, z1, z2, -⟩ := w4
        cases z1
        exact ⟨g1, z2⟩
      exact fl_fin b1 hb hfh rfl w4 ((SE.to1 h10 w2).top (t' := t)) w5 (by omega) i10 rfl
    · rw [rbd_thn p1]
      refine QC.thn ?_
      unfold k257_15
      rw [if_neg (fun z => z p2)]
      exact p3
  · rw [rbd_thn o1]
    refine QC.thn ?_
    unfold k235_90
    rw [if_neg (fun z => z o2)]
    exact o3
/-- the reference's loop over the names ends -/
theorem nm_fin : ∀ (d : Nat) {a : Nat} {s : cS} {k : kS} {x : Int32}, SG L P k0 T V W a s k X t v w → L.length - a ≤ d → ∃ R, (∃ m', kwh (k235b45 y) m' (k, x) = R) ∧ R.1 ≠ 0 := by
  intro d
  induction d with
  | zero =>
    intro a s k x h hd
    have hn : k183 k ≠ 69 := fun z => by
      have := h.lt ((h.is (by decide) (by decide)).mpr z) (by decide)
      omega
    have e : k235b45 y (k, x) = (2, (k, x)) := by
      unfold k235b45
      rw [if_pos hn]
    exact ⟨_, ⟨1, by rw [kwh_out (by rw [e]; exact Nat.succ_ne_zero _), e]⟩, Nat.succ_ne_zero _⟩
  | succ d ih =>
    intro a s k x h hd
    by_cases c69 : c53 s = 69
    · obtain ⟨q, s1, q1, q2, q3, q4, q5⟩ := h.skp c69 pl69
      have hk := (h.is (by decide) (by decide)).mp c69
      rcases q4.tkp pl1 with ⟨o, s2, o1, o2, o3, o4, o5, o6⟩ | ⟨o1, o2, o3⟩
      · have e : k235b45 y (k, x) = (0, ((k200 (kf k 4 (k.1 4 + 1)) 1).1, x + 1)) := by
          unfold k235b45
          rw [if_neg (fun z => z hk), if_pos (by show (k200 (kf k 4 (k.1 4 + 1)) 1).2 ≠ 0; rw [o4]; exact (show (1 : Int32) ≠ 0 from by decide))]
        rw [o4] at e
        obtain ⟨R, r1, r2⟩ := ih (x := x + 1) o5 (by omega)
        exact ⟨R, kw_step (by rw [e]) (by rw [e]; exact r1), r2⟩
      · have e : k235b45 y (k, x) = (1, ((k200 (kf k 4 (k.1 4 + 1)) 1).1, x)) := by
          unfold k235b45
          rw [if_neg (fun z => z hk), if_neg (fun z => z o2)]
        exact ⟨_, ⟨1, by rw [kwh_out (by rw [e]; exact Nat.succ_ne_zero _), e]⟩, Nat.succ_ne_zero _⟩
    · have e : k235b45 y (k, x) = (2, (k, x)) := by
        unfold k235b45
        rw [if_pos (fun z => c69 ((h.is (by decide) (by decide)).mpr z))]
      exact ⟨_, ⟨1, by rw [kwh_out (by rw [e]; exact Nat.succ_ne_zero _), e]⟩, Nat.succ_ne_zero _⟩
noncomputable def knm (y : Int32) (R : Nat × (kS × Int32)) : kS × Int32 := if R.1 = 1 then (R.2.1, 0) else k235_90 (k200 R.2.1 21).1 y R.2.2 (R.2.1.1 4) (k200 R.2.1 21).2
/-- the loop over a for's names -/
def E144L (rc : cRC) (L : List xR) : Prop := ∀ {P : PT} (a0 n : Nat) (k0 : kS) (a : Nat) (s : cS) (k : kS) (f : xF) (r : List xF) (t v w : Nat) (y4 : Int32) (R : Nat × (kS × Int32)), SG L P k0 t v w a s k (f :: r) t v w → XB (f :: r) → a0 + 2 * n = a → 1 ≤ n → szX (f :: r) ≤ 8 * a0 + 8 → RO L a (t + 8) (v + 8) → (∃ m', kwh (k235b45 (xn a0)) m' (k, xn n) = R) → R.1 ≠ 0 → 0 ≤ y4.toInt → y4.toInt ≤ a → QC (SP L P k0 t v w a0 (f :: r)) (knm (xn a0) R).1 (rc 144038 s 0 (xn a0) (xn (a0 + 1)) (xn n) y4 0 0)
theorem kwh_un {α : Type} {b : α → Nat × α} {t : α} {R R' : Nat × α} (h : ∃ m, kwh b m t = R) (h' : ∃ m, kwh b m t = R') (n1 : R.1 ≠ 0) (n2 : R'.1 ≠ 0) : R = R' := by
  obtain ⟨m, h⟩ := h
  obtain ⟨m', h'⟩ := h'
  rw [← h, ← h']
  exact kwh_same (by rw [h]; exact n1) (by rw [h']; exact n2)
theorem fl_rnd {a0 n : Nat} {R : Nat × (kS × Int32)} (hL : E144L rc L) (hl : F112 rc L) (h142 : E142 rc L) (h : SG L P k0 t v w a s k (f :: r) t v w) (hB : XB (f :: r)) (ha : a0 + 2 * n = a) (hn : 1 ≤ n) (hsz : szX (f :: r) ≤ 8 * a0 + 8) (hr : RO L a (t + 8) (v + 8)) (hR : ∃ m', kwh (k235b45 (xn a0)) m' (k, xn n) = R) (hR0 : R.1 ≠ 0) (hy0 : 0 ≤ y4.toInt) (hy : y4.toInt ≤ a) : QC (SP L P k0 t v w a0 (f :: r)) (knm (xn a0) R).1 (c144_38 rc s (xn a0) (xn (a0 + 1)) (xn n) y4) := by
  have hle := h.le
  unfold c144_38
  by_cases c69 : c53 s = 69
  · have hk := (h.is (by decide) (by decide)).mp c69
    rw [if_neg (fun z => z c69), if_neg (by rw [i_lt]; have : (16384 : Int32).toInt = 16384 := rfl; omega)]
    obtain ⟨q, s1, q1, q2, q3, q4, q5⟩ := h.skp c69 pl69
    rw [q3, rbd_th (w := q.2.1) rfl]
    unfold c144_65
    rcases q4.tkp pl1 with ⟨o, s2, o1, o2, o3, o4, o5, o6⟩ | ⟨o1, o2, o3⟩
    · rw [o3, rbd_th (w := o.2.1) rfl]
      have hlt := lt_of o1
      have e : k235b45 (xn a0) (k, xn n) = (0, ((k200 (kf k 4 (k.1 4 + 1)) 1).1, xn n + 1)) := by
        unfold k235b45
        rw [if_neg (fun z => z hk), if_pos (by show (k200 (kf k 4 (k.1 4 + 1)) 1).2 ≠ 0; rw [o4]; exact (show (1 : Int32) ≠ 0 from by decide))]
      rw [o4, xn_succ (by omega)] at e
      have hR2 : ∃ m', kwh (k235b45 (xn a0)) m' (kf (kf k 4 (k.1 4 + 1)) 4 ((kf k 4 (k.1 4 + 1)).1 4 + 1), xn (n + 1)) = R := by
        obtain ⟨m', hm⟩ := hR
        cases m' with
        | zero => rw [← hm] at hR0; exact absurd rfl hR0
        | succ m' =>
          rw [kwh_go (by rw [e]), e] at hm
          exact ⟨m', hm⟩
      have y41 : (y4 + 1).toInt = y4.toInt + 1 := i_add rfl (show (1 : Int32).toInt = 1 from rfl) (by omega) (by omega)
      show QC _ _ (rc 144038 s2 0 (xn a0) (xn (a0 + 1)) (xn n + 1) (y4 + 1) 0 0)
      rw [xn_succ (by omega)]
      exact hL a0 (n + 1) k0 (a + 1 + 1) s2 _ f r t v w (y4 + 1) R o5 hB (by omega) (by omega) hsz ⟨by have := hr.1; omega, by have := hr.2; omega⟩ hR2 hR0 (by omega) (by omega)
    · rw [rbd_thn o1]
      refine QC.thn ?_
      have e : k235b45 (xn a0) (k, xn n) = (1, ((k200 (kf k 4 (k.1 4 + 1)) 1).1, xn n)) := by
        unfold k235b45
        rw [if_neg (fun z => z hk), if_neg (fun z => z o2)]
      have eR : R = (1, ((k200 (kf k 4 (k.1 4 + 1)) 1).1, xn n)) := kwh_un hR ⟨1, by rw [kwh_out (by rw [e]; exact Nat.succ_ne_zero _), e]⟩ hR0 (Nat.succ_ne_zero _)
      rw [eR]
      exact o3
  · rw [if_pos c69]
    have e : k235b45 (xn a0) (k, xn n) = (2, (k, xn n)) := by
      unfold k235b45
      rw [if_pos (fun z => c69 ((h.is (by decide) (by decide)).mpr z))]
    have eR : R = (2, (k, xn n)) := kwh_un hR ⟨1, by rw [kwh_out (by rw [e]; exact Nat.succ_ne_zero _), e]⟩ hR0 (Nat.succ_ne_zero _)
    rw [eR]
    obtain ⟨f', r', b, bs, e1, b1, b2, b3⟩ := hB
    cases e1
    exact fl_rest hl h142 h b1 b2 ha hn hsz hr rfl
def E144 (rc : cRC) (L : List xR) : Prop := ∀ {P : PT} (a : Nat) (s : cS) (k : kS) (X : List xF) (t v w : Nat), SG L P k t v w a s k X t v w → XB X → RO L (a + 1) (t + 8) (v + 8) → c53 s = 17 → kc L (a + 2) ≠ 59 → QC (SP L P k t v w a X) (k228 k 17).1 (rc 144 s 0 0 0 0 0 0 0)
theorem st_fol (hL : E144L rc L) (hl : F112 rc L) (h142 : E142 rc L) (h : SG L P k t v w a s k X t v w) (hB : XB X) (hr : RO L (a + 1) (t + 8) (v + 8)) (c : c53 s = 17) (hk : kc L (a + 2) ≠ 59) : QC (SP L P k t v w a X) (k228 k 17).1 (c144 rc s) := by
  have hle := h.le
  obtain ⟨e4, e63⟩ := h.at4
  obtain ⟨f, r, rfl⟩ : ∃ f r, X = f :: r := by
    obtain ⟨f, r, b, bs, e1, -⟩ := hB
    exact ⟨f, r, e1⟩
  rw [k228_k17]
  unfold c144 k235
  obtain ⟨q, s1, q1, q2, q3, q4, q5⟩ := h.skp c pl17
  have hlt := lt_of q1
  have hsz := h.sz
  rw [q3, rbd_th (w := q.2.1) rfl]
  obtain ⟨e4', e63'⟩ := q4.at4
  generalize kf k 4 (k.1 4 + 1) = k1 at q4 e4'
  unfold c144_15
  rcases q4.tkp pl1 with ⟨o, s2, o1, o2, o3, o4, o5, o6⟩ | ⟨o1, o2, o3⟩
  · rw [o3, rbd_th (w := o.2.1) rfl, o4]
    have hlt2 := lt_of o1
    have c59 : c53 s2 ≠ 59 := fun z => by
      rcases o5.1.1.kd with ⟨p, p1, p2, -⟩ | ⟨p1, p2, -⟩
      · refine hk ?_
        unfold kc
        rw [show a + 2 = a + 1 + 1 from rfl, p1]
        exact p2.symm.trans z
      · rw [p2] at z
        exact absurd z (by decide)
    show QC _ (k235_5 (kf k1 4 (k1.1 4 + 1)) (k.1 4) 1).1 (c144_38 rc s2 (c63 s) (c63 s1) 1 0)
    generalize kf k1 4 (k1.1 4 + 1) = k2 at o5
    unfold k235_5
    rw [if_pos (by decide), if_pos (fun z => c59 ((o5.is (by decide) (by decide)).mpr z)), e4, e63, e63']
    obtain ⟨R, r1, r2⟩ := nm_fin (y := xn a) (L.length - (a + 1 + 1)) (x := xn 1) o5 (Nat.le_refl _)
    have r1' := r1
    have ek : kfin (k235b45 (xn a)) (k2, 1) = R := kfin_of r1 r2
    rw [ek]
    exact fl_rnd (a0 := a) (n := 1) hL hl h142 o5 hB (by omega) (by omega) hsz ⟨by have := hr.1; omega, by have := hr.2; omega⟩ r1' r2 (by decide) (Int.natCast_nonneg _)
  · rw [rbd_thn o1]
    refine QC.thn ?_
    unfold k235_5
    rw [if_neg (fun z => z o2)]
    exact o3
end FOL1
