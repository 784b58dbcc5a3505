/-! THE WALK OVER BOTH: return, functions with names -/
section RET
variable {L : List xR} {P : PT} {k0 k k' : kS} {T V W a t v w n : Nat} {s s' : cS} {X X' : List xF} {f : xF} {r : List xF} {x y z y1 y2 y3 y4 p : Int32} {rc : cRC}
theorem SGp.fol (h : SG L P k0 T V W a s k X t v w) : (FOL (c53 s) ↔ k226 k (k183 k) ≠ 0) ∧ (FOL (c53 s) ↔ c121 s (c53 s) ≠ 0) := by
  have key : ∀ K : Int32, K ≠ 0 → K ≠ -1 → c53 s = K → k183 k = K → ((FOL (c53 s) ↔ k226 k (k183 k) ≠ 0) ∧ (FOL (c53 s) ↔ c121 s (c53 s) ≠ 0)) := fun K h0 h1 e1 e2 => by
    rw [e1, e2]
    unfold FOL k226 c121
    rw [if_neg h1, if_neg h0]
    by_cases c15 : K = 15
    · rw [if_pos c15, c15]
      decide
    rw [if_neg c15]
    by_cases c13 : K = 13
    · rw [if_pos c13, c13]
      decide
    rw [if_neg c13]
    by_cases c14 : K = 14
    · rw [if_pos c14, c14]
      decide
    rw [if_neg c14]
    by_cases c30 : K = 30
    · rw [if_neg (fun z => z c30), c30]
      decide
    rw [if_pos c30]
    have no : ¬ (K = 0 ∨ K = 13 ∨ K = 14 ∨ K = 15 ∨ K = 30) := fun z => by
      rcases z with z | z | z | z | z
      · exact h0 z
      · exact c13 z
      · exact c14 z
      · exact c15 z
      · exact c30 z
    exact ⟨⟨fun z => absurd z no, fun z => absurd rfl z⟩, ⟨fun z => absurd z no, fun z => absurd rfl z⟩⟩
  rcases h.1.1.kd with ⟨q, q1, q2, q3, q4, q5, q6, q7⟩ | ⟨q1, q2, q3⟩
  · exact key q.1 q6 q7 q2 q3
  · rw [q2, q3]
    unfold FOL k226 c121
    decide
/-- a call may be the function's last act -/
def TL (s : cS) (y2 : Int32) : Prop := s.f 7 5 ≠ 0 ∧ y2 = 1 ∧ c97 s = 13 ∧ c151 s = 0
theorem c150_r {s1 : cS} : ∃ s2, c150_48 rc s1 y1 y2 = c150_157 rc s2 ∧ ((TL s1 y2 ∧ s2 = ts (c99 s1 1 0).1 (.i (c99 s1 1 0).1.now) (c98 (c99 s1 1 0).1 - 1) 0 46) ∨ (¬ TL s1 y2 ∧ (y2 ≤ 0 ∨ s1.f 7 5 = 0) ∧ s2 = (c78 s1 45 y2 0 y1).1) ∨ (¬ TL s1 y2 ∧ ¬ y2 ≤ 0 ∧ s1.f 7 5 ≠ 0 ∧ s2 = (c78 (c96 s1).1 45 (y2 - 1) 1 y1).1)) := by
  have k0 : c150_64 rc s1 y1 y2 0 = c150_157 rc (c78 s1 45 y2 0 y1).1 := by
    unfold c150_64 c150_124
    rw [if_pos rfl, if_pos rfl]
    rfl
  unfold c150_48 c150_63
  by_cases c1 : y2 ≤ 0
  · rw [if_pos c1]
    exact ⟨_, k0, Or.inr (Or.inl ⟨fun q => absurd (by rw [q.2.1] at c1; exact c1) (show ¬ (1 : Int32) ≤ 0 from by decide), Or.inl c1, rfl⟩)⟩
  rw [if_neg c1]
  by_cases c2 : s1.f 7 5 = 0
  · rw [if_pos c2]
    exact ⟨_, k0, Or.inr (Or.inl ⟨fun q => q.1 c2, Or.inr c2, rfl⟩)⟩
  rw [if_neg c2]
  have k1 : c150_124 rc s1 y1 y2 1 = c150_157 rc (c78 (c96 s1).1 45 (y2 - 1) 1 y1).1 := by
    unfold c150_124
    rw [if_neg (by decide)]
    rfl
  unfold c150_64
  rw [if_neg (by decide)]
  by_cases c3 : y2 ≠ 1
  · rw [if_pos c3]
    exact ⟨_, k1, Or.inr (Or.inr ⟨fun q => c3 q.2.1, c1, c2, rfl⟩)⟩
  rw [if_neg c3]
  by_cases c4 : c97 s1 ≠ 13
  · rw [if_pos c4]
    exact ⟨_, k1, Or.inr (Or.inr ⟨fun q => c4 q.2.2.1, c1, c2, rfl⟩)⟩
  rw [if_neg c4]
  by_cases c5 : c151 s1 ≠ 0
  · rw [if_pos c5]
    exact ⟨_, k1, Or.inr (Or.inr ⟨fun q => c5 q.2.2.2, c1, c2, rfl⟩)⟩
  rw [if_neg c5]
  exact ⟨_, rfl, Or.inl ⟨⟨c2, Decidable.not_not.mp c3, Decidable.not_not.mp c4, Decidable.not_not.mp c5⟩, rfl⟩⟩
theorem cFr.sym {F T B G : Nat} (h : cFr F T B G s s') : cFr F T B G s' s := ⟨fun k j hj hk => (h.1 k j hj hk).symm, fun k hk => ⟨(h.2.1 k hk).1.symm, (h.2.1 k hk).2.symm⟩, fun x j hj => (h.2.2.1 x j hj).symm, fun q => (h.2.2.2.1 q).symm, fun q => (h.2.2.2.2.1 q).symm, fun q x => (h.2.2.2.2.2.1 q x).symm, fun q x => (h.2.2.2.2.2.2.1 q x).symm, fun q x => ⟨(h.2.2.2.2.2.2.2 q x).1.symm, (h.2.2.2.2.2.2.2 q x).2.symm⟩⟩
/-- rows are alike no more -/
theorem NR.vac {q : Nat} {D D' : Df} {H H' : List hE} {x0 : Nat} (h : NR q D H s k X) (hx : (x0 : Int) < (k.1 53).toInt) (h8 : k.1 8 ≠ 0 ∨ 1048576 ≤ (s.r (.i (x0 + 1))).toInt) : NR q D' H' s k X := ⟨h.1, fun z => ⟨(h.2 z).1, fun h6 hf => by
  rcases h8 with h8 | h8
  · exact absurd z h8
  · have := hf x0 hx
    omega⟩⟩
theorem tg_ts2 {tt : cT} {r r' v : Int32} : tg (ts s tt r 2 v) tt r' 0 = tg s tt r' 0 := by
  have er : (ts s tt r 2 v).r tt = s.r tt := ts_r tt
  have ec : (ts s tt r 2 v).c tt (ci r' 0) = s.c tt (ci r' 0) := by
    unfold ts
    split
    · rfl
    · split
      · rfl
      · split
        · rfl
        · split
          · rfl
          · show (if tt = tt then upd (s.c tt) (ci r 2) v else s.c tt) (ci r' 0) = _
            rw [if_pos rfl]
            refine if_neg ?_
            unfold ci
            have e0 : (0 : Int32).toInt.toNat = 0 := rfl
            have e2 : (2 : Int32).toInt.toNat = 2 := rfl
            omega
  unfold tg
  rw [er, ec]
theorem kR_70 {y v : Int32} : (∀ g', g' ≠ y.toNatClampNeg → kR (ka k 70 y v) g' = kR k g') ∧ kR (ka k 70 y v) y.toNatClampNeg = xcol (kR k y.toNatClampNeg) 0 v := by
  refine ⟨fun g' hg => ?_, ?_⟩
  · unfold kR
    show (upd (k.2 70) y.toNatClampNeg v g', k.2 71 g', k.2 72 g', k.2 73 g') = _
    unfold upd
    rw [if_neg hg]
  · unfold kR
    show (upd (k.2 70) y.toNatClampNeg v y.toNatClampNeg, k.2 71 y.toNatClampNeg, k.2 72 y.toNatClampNeg, k.2 73 y.toNatClampNeg) = _
    unfold upd
    rw [if_pos rfl]
    rfl
/-- both change what the last row does -/
theorem NR.ls0 {q x : Nat} {H : List hE} {y v : Int32} (h : NR q ([], []) H s k X) (hn : s.now = x + 1) (hx : (x : Int) < (k.1 53).toInt) (h53 : (k.1 53).toInt ≤ 1000000) (hop : (s.r (.i s.now)).toInt < 1048576 → ¬ jmp (c97 s)) (hG : LG y.toNatClampNeg x k) (hvo : wfo v = true) : NR q ([], []) H (ts s (.i s.now) (c98 s - 1) 0 v) (ka k 70 y v) X := by
  have f : cFr 0 0 0 4 s (ts s (.i s.now) (c98 s - 1) 0 v) := cFr.refl.tsb rfl
  refine h.go (k' := ka k 70 y v) (fun _ => ts_r _) (ts_ri (x := 0)).2 (f.2.1 28 (Nat.zero_testBit _)) (f.2.1 30 (Nat.zero_testBit _)) id rfl rfl rfl rfl rfl rfl (fun z8 h6' hf' Hd h3 => ?_)
  have hc := h3.cnt z8 h6' hf' hx
  obtain ⟨n, n1, n2, n3⟩ := h3.2 z8
  have n4 : n < 65536 := by rw [n1, xn_i (by omega)] at h6'; omega
  have hl := hG z8 h6' n n1 n4
  have g1 := ((n3 n4 hf').2 x hx).1
  have hle := gx_le (ow := k.2 69) (x := x) (n := n)
  have hne : 1 ≤ (gx (k.2 69) x n).length := by
    cases hq : gx (k.2 69) x n with
    | nil => rw [hq] at hl; cases hl
    | cons g l => exact Nat.succ_le_succ (Nat.zero_le _)
  have er : (s.r (.i (x + 1))).toInt = (gx (k.2 69) x n).length := by rw [hc, g1, xn_i (by omega)]
  obtain ⟨i, hi⟩ : ∃ i, (gx (k.2 69) x n).length = i + 1 := ⟨(gx (k.2 69) x n).length - 1, by omega⟩
  have e98 : (c98 s - 1).toInt = i := by
    unfold c98
    rw [hn, i_sub er (show (1 : Int32).toInt = 1 from rfl) (by omega) (by omega)]
    omega
  have hop' : ¬ jmp (tg s (.i (x + 1)) (c98 s - 1) 0) := by
    have := hop (by rw [hn]; exact hf' x hx)
    unfold c97 at this
    rw [hn] at this
    exact this
  rw [hn]
  exact h3.lset (j := 0) e98 (by omega) hx h53 hop' (by decide) hG rfl rfl rfl rfl rfl kR_70.1 kR_70.2 (fun _ => rfl) (fun _ _ => wfa_c0 hvo)
theorem ka_comm {i j : Nat} (h : i ≠ j) {a b c d : Int32} : ka (ka k i a b) j c d = ka (ka k j c d) i a b := by
  unfold ka upg
  refine Prod.ext rfl (funext fun m => ?_)
  show (if m = j then upd (if m = i then upd (k.2 m) a.toNatClampNeg b else k.2 m) c.toNatClampNeg d else if m = i then upd (k.2 m) a.toNatClampNeg b else k.2 m) = (if m = i then upd (if m = j then upd (k.2 m) c.toNatClampNeg d else k.2 m) a.toNatClampNeg b else if m = j then upd (k.2 m) c.toNatClampNeg d else k.2 m)
  by_cases c1 : m = j
  · have c2 : ¬ m = i := fun z => h (z.symm.trans c1)
    rw [if_pos c1, if_neg c2, if_neg c2, if_pos c1]
  · rw [if_neg c1, if_neg c1]
/-- a call becomes the function's last act -/
theorem sg_tail (h : SG L P k0 T V W a s k X t (v + 1) w) (hv : v ≤ 1000000) (hk : k.2 16 v = 1) (hlo : LO s k v) : SG L P k0 T V W a (ts (c99 s 1 0).1 (.i (c99 s 1 0).1.now) (c98 (c99 s 1 0).1 - 1) 0 46) (kf (ka (ka k 70 (kr k 17 (k.1 15 - 1)) 46) 72 (kr k 17 (k.1 15 - 1)) ((kr k 72 (kr k 17 (k.1 15 - 1))) &&& 1)) 15 (k.1 15 - 1)) X t v w := by
  have h1 := h.c99 hv hk hlo
  have fc := fr_c99 s 1 0
  have e15 : k.1 15 - 1 = xn v := by
    rw [h.2.1.2.1]
    have := xn_sub (n := 1) (m := v) (by omega)
    rw [Nat.add_comm 1] at this
    exact this
  have e17 : kr k 17 (k.1 15 - 1) = k.2 17 v := by
    rw [e15]
    show k.2 17 (xn v).toNatClampNeg = _
    rw [xn_nat (by omega)]
  obtain ⟨f, r, rfl⟩ : ∃ f r, X = f :: r := by
    cases X with
    | nil => exact absurd rfl h.ne
    | cons f r => exact ⟨f, r, rfl⟩
  obtain ⟨o1, o2, o3, o4⟩ := own_k h.1.2.1 h.SZ
  have en : s.now - 1 = f.1 - 1 := by rw [o2]
  have lg := hlo.2 (Or.inl hk)
  rw [en, ← e17] at lg
  have e97 : c97 (c99 s 1 0).1 = c97 s := by
    unfold c97 c98
    rw [fc.2.2.2.1 rfl, fc.2.2.2.2.2.2.1 rfl]
    exact tg_ts2
  have enow : (c99 s 1 0).1.now = f.1 - 1 + 1 := by rw [fc.2.2.2.1 rfl]; omega
  have hop : ((c99 s 1 0).1.r (.i (c99 s 1 0).1.now)).toInt < 1048576 → ¬ jmp (c97 (c99 s 1 0).1) := fun hl => by
    rw [fc.2.2.2.1 rfl, fc.2.2.2.2.2.2.1 rfl] at hl
    rw [e97, (hlo.1 hl).1 hk]
    unfold jmp
    decide
  generalize kr k 17 (k.1 15 - 1) = y at h1 lg ⊢
  generalize kr k 72 y &&& 1 = v2 at h1 ⊢
  have lg1 : LG y.toNatClampNeg (f.1 - 1) (ka k 72 y v2) := lg.fr (show kFr 0 4722366482869645213696 k (ka k 72 y v2) from kFr.sa kFr.refl rfl) rfl rfl
  rw [← ka_comm (show (72 : Nat) ≠ 70 by decide)]
  have e1 : k.1 15 = (ka (ka k 72 y v2) 70 y 46).1 15 := rfl
  rw [e1]
  generalize (c99 s 1 0).1 = s3 at h1 e97 enow hop ⊢
  have n := NR.ls0 (x := f.1 - 1) (y := y) (v := 46) h1.nc enow (own_5 h1.1.2.1 rfl h1.1.k53) h1.1.k53 hop lg1 rfl
  generalize ka k 72 y v2 = k1 at h1 n ⊢
  have h2 : SG L P k0 T V W a (ts s3 (.i s3.now) (c98 s3 - 1) 0 46) (ka k1 70 y 46) (f :: r) t (v + 1) w := SEp.to (SEp.go (P := P) (H' := P.2.2) (SEp.of h1) (show cFr 0 0 0 4 s3 (ts s3 (.i s3.now) (c98 s3 - 1) 0 46) from cFr.refl.tsb rfl) (show kFr 0 1180591620717411303424 k1 (ka k1 70 y 46) from kFr.sa kFr.refl rfl) (fun _ => n))
  exact h2.dwn hv
/-- rows are alike no more: the class goes another way -/
theorem SGp.oth {δ : Df} {G : Nat} (h : SGp none δ L P k0 T V W a s k X t v w) (hc : cFr 0 0 0 G s s') (h8 : k.1 8 ≠ 0 ∨ 1048576 ≤ (s'.r (.i s'.now)).toInt) (hr : ∀ x, 0 ≤ (s'.r (.i x)).toInt) (c4 : G &&& 11 = 0 := by rfl) : SG L P k0 T V W a s' k X t v w := by
  obtain ⟨f, r, rfl⟩ : ∃ f r, X = f :: r := by
    cases X with
    | nil => exact absurd rfl h.ne
    | cons f r => exact ⟨f, r, rfl⟩
  obtain ⟨o1, o2, o3, o4⟩ := own_k h.1.2.1 h.SZ
  have en : s'.now = f.1 - 1 + 1 := by rw [hc.2.2.2.1 (tb0 c4 (by decide))]; omega
  have n : NR 0 δ P.2.2 s k (f :: r) := h.nc
  rw [en] at h8
  refine SEp.to (SEp.go (P := P) (H' := P.2.2) (SEp.of h) hc (kFr.refl (F := 0) (A := 0)) (fun _ => ⟨hr, fun z => ⟨(n.2 z).1, fun h6 hf => ?_⟩⟩) (Nat.zero_and _) (Nat.zero_and _) (Nat.zero_and _) c4)
  rcases h8 with h8 | h8
  · exact absurd z h8
  · have := hf (f.1 - 1) (own_5 h.1.2.1 rfl h.1.k53)
    omega
theorem c78_full {b1 b2 b3 b4 : Int32} (hf : 1048576 ≤ (s.r (.i s.now)).toInt) : 1048576 ≤ ((c78 s b1 b2 b3 b4).1.r (.i (c78 s b1 b2 b3 b4).1.now)).toInt := by
  have er : (c78 s b1 b2 b3 b4).1.r (.i s.now) = if s.r (.i s.now) < 1048576 then s.r (.i s.now) + 1 else s.r (.i s.now) := tad_ri
  rw [c78_now, er, if_neg (by rw [i_lt]; have : (1048576 : Int32).toInt = 1048576 := rfl; omega)]
  exact hf
/-- both see whether a local is to be closed -/
theorem c151_go : ∀ (l A : List xR), TR s (.s 14) (A ++ l) → (A ++ l).length ≤ 1000000 → ∃ m c u, kwh (c151b8 s) m (xn A.length) = (c, u) ∧ c ≠ 0 ∧ (c = 1 ↔ ∃ q ∈ l, q.2.1 &&& 4 ≠ 0) := by
  intro l
  induction l with
  | nil =>
    intro A h hz
    rw [List.append_nil] at h hz
    have er : s.r (.s 14) = xn A.length := xn_eq h.1 (by omega)
    have e : c151b8 s (xn A.length) = (2, xn A.length) := by
      unfold c151b8
      rw [if_pos (by rw [er]; exact Int32.le_refl _)]
    exact ⟨1, 2, _, by rw [kwh_out (by rw [e]; exact Nat.succ_ne_zero _), e], Nat.succ_ne_zero _, ⟨fun z => absurd z (by decide), fun ⟨q, hq, _⟩ => absurd hq List.not_mem_nil⟩⟩
  | cons q l ih =>
    intro A h hz
    have hlen : (A ++ q :: l).length = A.length + (l.length + 1) := by rw [List.length_append]; rfl
    have er : s.r (.s 14) = xn (A ++ q :: l).length := xn_eq h.1 (by omega)
    have gq : (A ++ q :: l)[A.length]? = some q := by
      rw [List.getElem?_append_right (Nat.le_refl _), Nat.sub_self]
      rfl
    have g1 : tg s (.s 14) (xn A.length) 1 = q.2.1 := h.g1 (xn_i (by omega)) gq
    have nle : ¬ s.r (.s 14) ≤ xn A.length := by rw [er, i_le, xn_i (by omega), xn_i (by omega)]; omega
    by_cases c : q.2.1 &&& 4 = 0
    · have e : c151b8 s (xn A.length) = (0, xn (A.length + 1)) := by
        unfold c151b8
        rw [if_neg nle, g1, if_pos c, xn_succ (by omega)]
      have ea : (A ++ [q]) ++ l = A ++ q :: l := by rw [List.append_assoc]; rfl
      have el : (A ++ [q]).length = A.length + 1 := by rw [List.length_append]; rfl
      obtain ⟨m, cc, u, r1, r2, r3⟩ := ih (A ++ [q]) (by rw [ea]; exact h) (by rw [ea]; exact hz)
      rw [el] at r1
      refine ⟨m + 1, cc, u, by rw [kwh_go (by rw [e]), e]; exact r1, r2, r3.trans ⟨fun ⟨p, p1, p2⟩ => ⟨p, List.mem_cons_of_mem _ p1, p2⟩, fun ⟨p, p1, p2⟩ => ?_⟩⟩
      rcases List.mem_cons.mp p1 with z | z
      · rw [z] at p2
        exact absurd c p2
      · exact ⟨p, z, p2⟩
    · have e : c151b8 s (xn A.length) = (1, xn A.length) := by
        unfold c151b8
        rw [if_neg nle, g1, if_neg c]
      exact ⟨1, 1, _, by rw [kwh_out (by rw [e]; exact Nat.succ_ne_zero _), e], Nat.succ_ne_zero _, ⟨fun _ => ⟨q, List.mem_cons_self, c⟩, fun _ => rfl⟩⟩
theorem k262_go : ∀ (l A : List xR) (y : Int32), (∀ (i : Nat) (q : xR), (A ++ l)[i]? = some q → (k.2 30 i ≠ 0 ↔ q.2.1 &&& 4 ≠ 0)) → k.1 24 = xn (A ++ l).length → (A ++ l).length ≤ 1000000 → y = 0 ∨ y = 1 → ∃ m y' u, kwh (k262b12 k) m (y, xn A.length) = (1, (y', u)) ∧ (y' = 0 ↔ y = 0 ∨ ∃ q ∈ l, q.2.1 &&& 4 ≠ 0) := by
  intro l
  induction l with
  | nil =>
    intro A y h h24 hz hy
    rw [List.append_nil] at h24
    have e : k262b12 k (y, xn A.length) = (1, (y, xn A.length)) := by
      unfold k262b12
      rw [if_pos (by show k.1 24 ≤ xn A.length; rw [h24]; exact Int32.le_refl _)]
    exact ⟨1, y, _, by rw [kwh_out (by rw [e]; exact Nat.succ_ne_zero _), e], ⟨fun z => Or.inl z, fun z => z.elim id (fun ⟨q, hq, _⟩ => absurd hq List.not_mem_nil)⟩⟩
  | cons q l ih =>
    intro A y h h24 hz hy
    have hlen : (A ++ q :: l).length = A.length + (l.length + 1) := by rw [List.length_append]; rfl
    have gq : (A ++ q :: l)[A.length]? = some q := by
      rw [List.getElem?_append_right (Nat.le_refl _), Nat.sub_self]
      rfl
    have g1 : kr k 30 (xn A.length) = k.2 30 A.length := by
      show k.2 30 (xn A.length).toNatClampNeg = _
      rw [xn_nat (by omega)]
    have hq := h _ q gq
    have nle : ¬ k.1 24 ≤ xn A.length := by rw [h24, i_le, xn_i (by omega), xn_i (by omega)]; omega
    have ea : (A ++ [q]) ++ l = A ++ q :: l := by rw [List.append_assoc]; rfl
    have el : (A ++ [q]).length = A.length + 1 := by rw [List.length_append]; rfl
    have step : ∃ y1, k262b12 k (y, xn A.length) = (0, (y1, xn (A.length + 1))) ∧ (y1 = 0 ∨ y1 = 1) ∧ (y1 = 0 ↔ y = 0 ∨ q.2.1 &&& 4 ≠ 0) := by
      unfold k262b12
      dsimp only
      rw [if_neg nle, g1, xn_succ (by omega)]
      by_cases c1 : y = 0
      · rw [if_pos c1]
        exact ⟨0, rfl, Or.inl rfl, ⟨fun _ => Or.inl c1, fun _ => rfl⟩⟩
      · rw [if_neg c1]
        by_cases c2 : k.2 30 A.length ≠ 0
        · rw [if_pos c2]
          exact ⟨0, rfl, Or.inl rfl, ⟨fun _ => Or.inr (hq.mp c2), fun _ => rfl⟩⟩
        · rw [if_neg c2]
          exact ⟨1, rfl, Or.inr rfl, ⟨fun z => absurd z (by decide), fun z => z.elim (fun z => absurd z c1) (fun z => absurd (hq.mpr z) c2)⟩⟩
    obtain ⟨y1, e, e1, e2⟩ := step
    obtain ⟨m, y', u, r1, r2⟩ := ih (A ++ [q]) y1 (by rw [ea]; exact h) (by rw [ea]; exact h24) (by rw [ea]; exact hz) e1
    rw [el] at r1
    refine ⟨m + 1, y', u, by rw [kwh_go (by rw [e]), e]; exact r1, r2.trans ?_⟩
    rw [e2]
    constructor
    · rintro ((z | z) | ⟨p, p1, p2⟩)
      · exact Or.inl z
      · exact Or.inr ⟨q, List.mem_cons_self, z⟩
      · exact Or.inr ⟨p, List.mem_cons_of_mem _ p1, p2⟩
    · rintro (z | ⟨p, p1, p2⟩)
      · exact Or.inl (Or.inl z)
      · rcases List.mem_cons.mp p1 with z | z
        · rw [z] at p2
          exact Or.inl (Or.inr p2)
        · exact Or.inr ⟨p, z, p2⟩
theorem cls_i (hn : RN s k (f :: r)) (hz : SZ (f :: r)) (hc : CL k (f :: r)) (hp : f.2.2.1 = []) (h8 : k.1 8 = 0) : c151 s = 0 ↔ k262 k ≠ 0 := by
  have zz := hz.l
  have zk := hz.kl
  have eL : fL (f :: r) = fL r ++ f.2.1 := by
    show fL r ++ (f.2.1 ++ f.2.2.1) = _
    rw [hp, List.append_nil]
  obtain ⟨m, c, u, r1, r2, r3⟩ := c151_go (s := s) f.2.1 (fL r) (by rw [← eL]; exact hn.1.l) (by rw [← eL]; omega)
  have e9 : s.b s.now 9 = xn (fL r).length := by rw [hn.1.nw f r rfl]; exact hn.1.xf.2.1
  have k1 := kfin_of ⟨m, r1⟩ r2
  obtain ⟨a1, a2, a3⟩ := XK.at hn hz
  obtain ⟨m2, y', u2, t1, t2⟩ := k262_go (k := k) f.2.1 (kL r) 1 (fun i q hq => hc h8 i q hq) hn.2.1.a24 zk (Or.inr rfl)
  have k2 := kfin_of ⟨m2, t1⟩ (Nat.succ_ne_zero 0)
  unfold c151 k262
  rw [e9, k1, a2, k2]
  show (if c = 1 then (1 : Int32) else 0) = 0 ↔ y' ≠ 0
  by_cases cc : ∃ q ∈ f.2.1, q.2.1 &&& 4 ≠ 0
  · rw [if_pos (r3.mpr cc), t2.mpr (Or.inr cc)]
    exact ⟨fun z => absurd z (by decide), fun z => absurd rfl z⟩
  · rw [if_neg (fun z => cc (r3.mp z))]
    exact ⟨fun _ z => (t2.mp z).elim (fun q => absurd q (by decide)) cc, fun _ => rfl⟩
/-- the end of return -/
theorem rt_end {a0 : Nat} (h : SG L P k0 t v w a s k X (t + 1) v w) (g : GT t 20 0 0 0 k) (hB : XB X) (ha : a0 ≤ a) (ht : t ≤ 1000000) : QC (BP L P k0 t v w a0 X t v w) k (c150_157 rc s) := by
  refine QC.pop g ht ?_
  rw [k180_g20]
  have h1 := h.top (t' := t)
  generalize kf k 10 (xn t) = k1 at h1
  have fin : ∀ (s2 : cS) (k2 : kS) (a2 : Nat), a0 ≤ a2 → SG L P k0 t v w a2 s2 k2 X t v w → BP L P k0 t v w a0 X t v w s2 (k263_19 k2).1 0 := fun s2 k2 a2 ha2 h2 => by
    unfold k263_19
    by_cases c : k226 k2 (k183 k2) ≠ 0
    · rw [if_pos c]
      exact Or.inl ⟨a2, X, ha2, h2, XQ.refl hB⟩
    · rw [if_neg c]
      exact Or.inr ⟨(k194_f (by decide)).1, fun z => c (h2.fol.1.mp z)⟩
  unfold c150_157 k263
  by_cases c : c53 s = 67
  · rw [if_neg (fun z => z ((h1.is (by decide) (by decide)).mp c)), if_neg (fun z => z c)]
    obtain ⟨q, s1, q1, q2, q3, q4, q5⟩ := h1.skp c pl67
    rw [q3, rbd_th (w := q.2.1) rfl]
    exact QC.ret (fin s1 _ (a + 1) (by omega) q4)
  · rw [if_pos (fun z => c ((h1.is (by decide) (by decide)).mpr z)), if_pos c]
    exact QC.ret (fin s k1 a ha h1)
def E150 (rc : cRC) (L : List xR) : Prop := ∀ {P : PT} (a : Nat) (s : cS) (k : kS) (X : List xF) (t v w : Nat), SG L P k t v w a s k X t v w → XB X → RO L (a + 1) (t + 8) (v + 8) → c53 s = 27 → QC (BP L P k t v w a X t v w) (k227 k).1 (rc 150 s 0 0 0 0 0 0 0)
theorem st_ret (hl : F112 rc L) (h : SG L P k t v w a s k X t v w) (hB : XB X) (hr : RO L (a + 1) (t + 8) (v + 8)) (c : c53 s = 27) : QC (BP L P k t v w a X t v w) (k227 k).1 (c150 rc s) := by
  have ht : t + 8 ≤ 1000000 := by have := hr.1; omega
  have hv : v + 8 ≤ 1000000 := by have := hr.2; omega
  have e63 := h.w63
  unfold c150 k227
  obtain ⟨q, s1, q1, q2, q3, q4, q5⟩ := h.skp c pl27
  have hlt := lt_of q1
  rw [q3, rbd_th (w := q.2.1) rfl]
  generalize kf k 4 (k.1 4 + 1) = k1 at q4
  obtain ⟨h2, g2⟩ := q4.psh (g := 20) (p := 0) (q := 0) (c := 0) (Nat.le_refl _) (by omega)
  generalize (k179 k1 20 0 0 0).1 = k2 at h2 g2
  have hf := h2.fol
  have short : QC (BP L P k t v w a X t v w) (k227_43 k2 (k.1 4)).1 (c150_48 rc s1 (c63 s) 0) := by
    obtain ⟨s5, z1, z2⟩ := c150_r (rc := rc) (s1 := s1) (y1 := c63 s) (y2 := 0)
    rw [z1]
    unfold k227_43
    rcases z2 with ⟨z2, -⟩ | ⟨-, -, rfl⟩ | ⟨-, z2, -⟩
    · exact absurd z2.2.1 (by decide)
    · exact rt_end ((h2.put.cle).de0 (by rw [e63])) g2.put hB (by omega) (by omega)
    · exact absurd (Int32.le_refl _) z2
  show QC _ (k227_24 k2 (k.1 4)).1 (c150_15 rc s1 (c63 s) q.2.1)
  unfold c150_15
  by_cases c67 : c53 s1 = 67
  · rw [if_pos c67]
    unfold k227_24
    rw [show k226 k2 (k183 k2) = 0 from by rw [(h2.is (by decide) (by decide)).mp c67]; unfold k226; decide, if_neg (fun z => z rfl), if_neg (fun z => z ((h2.is (by decide) (by decide)).mp c67))]
    exact short
  rw [if_neg c67]
  by_cases cf : c121 s1 (c53 s1) ≠ 0
  · rw [if_pos cf]
    unfold k227_24
    rw [if_pos (hf.1.mp (hf.2.mpr cf))]
    exact short
  · rw [if_neg cf]
    unfold k227_24
    rw [if_neg (fun z => cf (hf.2.mp (hf.1.mpr z))), if_pos (fun z => c67 ((h2.is (by decide) (by decide)).mpr z))]
    obtain ⟨h3, g3⟩ := h2.psh (g := 19) (p := k.1 4) (q := 0) (c := 0) (by omega) (by omega)
    have b3 : KB (t + 1) v w k2 (k179 k2 19 (k.1 4) 0 0).1 := (GT.psh (t := t + 1) (g := 19) (a := k.1 4) (b := 0) (c := 0) h2.2.1.1 (by omega)).2
    generalize (k179 k2 19 (k.1 4) 0 0).1 = k3 at h3 g3 b3
    refine (hl k3 (t + 1 + 1) v w (a + 1) s1 k3 X (t + 1 + 1) v w h3.own hB.ne (Nat.le_refl _) (Nat.le_refl _) (Nat.le_refl _) ⟨by have := hr.1; omega, by have := hr.2; omega⟩).bnd ?_
    rintro s4 k4 x4 ⟨a4, u1, u2, uL, u19, ux1, ux2⟩
    have g4 := g3.bck u2.2.2.1 u2.2.1.1
    refine QC.pop g4 (by omega) ?_
    rw [k180_g19]
    have hb4 : KB (t + 1) v w k2 (kf k4 10 (xn (t + 1))) := (b3.trans (u2.2.2.1.mono (by omega) (Nat.le_refl _) (Nat.le_refl _))).trans (KB.fr (F := 1024) (A := 0) (kFr.sf kFr.refl rfl) rfl)
    have h5 : SGp (some (v, true)) ([], []) L P k2 (t + 1) v w a4 s4 (kf k4 10 (xn (t + 1))) X (t + 1) (v + 1) w := ⟨(u2.top (t' := t + 1)).1, (u2.top (t' := t + 1)).2.1, hb4, u2.2.2.2⟩
    have uL5 : LR s4 (kf k4 10 (xn (t + 1))) v := uL
    have u195 : x4 = (kf k4 10 (xn (t + 1))).1 19 := u19
    generalize kf k4 10 (xn (t + 1)) = k5 at h5 uL5 u195
    have ev : k5.1 15 - 1 = xn v := by
      rw [h5.2.1.2.1]
      have := xn_sub (n := 1) (m := v) (by omega)
      rw [Nat.add_comm 1] at this
      exact this
    have ekr : kr k5 16 (k5.1 15 - 1) = k5.2 16 v := by
      rw [ev]
      show k5.2 16 (xn v).toNatClampNeg = _
      rw [xn_nat (by omega)]
    have i216 := k216_i h5.2.1.2.1 (by omega)
    have fl : s4.f 7 5 ≠ 0 ↔ k216 k5 ≠ 0 := uL5.1.trans i216.symm
    have e8k : (k261 k5 (k.1 4)).1.1 8 = k5.1 8 := (fr_k261 k5 (k.1 4)).1 8 rfl
    obtain ⟨f, r, b, bs, eX, b1, b2, b3⟩ := hB
    have cli : k5.1 8 = 0 → (c151 s4 = 0 ↔ k262 k5 ≠ 0) := fun z => by
      rw [eX] at h5
      exact cls_i h5.1.2.1 h5.SZ h5.cc b1 z
    have hB : XB X := ⟨f, r, b, bs, eX, b1, b2, b3⟩
    have hr0 : ∀ x, 0 ≤ (s4.r (.i x)).toInt := by
      obtain ⟨R, -, r2⟩ := h5.1.2.2.2.2.2.2.2
      exact r2.1
    obtain ⟨s8, z1, z2⟩ := c150_r (rc := rc) (s1 := s4) (y1 := c63 s) (y2 := x4)
    show QC _ (k261 k5 (k.1 4)).1 (c150_48 rc s4 (c63 s) x4)
    rw [z1]
    have fin : ∀ k6 : kS, SG L P k2 (t + 1) v w a4 s8 k6 X (t + 1) v w → QC (BP L P k t v w a X t v w) k6 (c150_157 rc s8) := fun k6 h7 => rt_end (h2.reb h7 (by omega) (Nat.le_refl _) (Nat.le_refl _)) (g2.bck h7.2.2.1 h7.2.1.1) hB (by omega) (by omega)
    refine fin _ ?_
    have nle : ¬ x4 ≤ 0 := by
      rw [i_le]
      have : (0 : Int32).toInt = 0 := rfl
      omega
    by_cases d0 : k216 k5 = 0
    · -- no call, no dots at the end
      have f75 : s4.f 7 5 = 0 := by
        by_cases q : s4.f 7 5 = 0
        · exact q
        · exact absurd d0 (fl.mp q)
      rcases z2 with ⟨z2, -⟩ | ⟨-, -, rfl⟩ | ⟨-, -, z2, -⟩
      · exact absurd f75 z2.1
      · have k77 : SG L P k2 (t + 1) v w a4 (c78 s4 45 x4 0 (c63 s)).1 (k261_77 k5 (k.1 4)).1 X (t + 1) v w := by
          unfold k261_77
          rw [if_pos d0]
          have e19 : (k209 k5).1.1 19 = x4 := ((fr_k209 k5).1 19 rfl).trans u195.symm
          exact (((h5.awy (Nat.le_refl _) (by omega)).put).cle).de0 (by rw [e19, e63])
        unfold k261
        by_cases d1 : k5.1 19 ≠ 1
        · rw [if_pos d1]
          exact k77
        rw [if_neg d1, ekr]
        by_cases d2 : k5.2 16 v ≠ 1
        · rw [if_pos d2]
          exact k77
        · exact absurd d0 (i216.mpr (Or.inl (Decidable.not_not.mp d2)))
      · exact absurd f75 z2
    · have h16 := i216.mp d0
      have hS := h5.str (h16.imp id id |>.elim (fun q => Or.inr (Or.inl q)) (fun q => Or.inr (Or.inr q)))
      have hB1 := h5.opa (by omega) d0 uL5.2
      have e19 : (k217 k5).1.1 19 = x4 := ((fr_k217 k5).1 19 rfl).trans u195.symm
      have fB : cFr 0 0 0 20 (c96 s4).1 s4 := (cFr.mono (fr_c96 s4) rfl rfl rfl rfl).sym
      have fC : cFr 0 0 0 4 s4 (ts (c99 s4 1 0).1 (.i (c99 s4 1 0).1.now) (c98 (c99 s4 1 0).1 - 1) 0 46) := (fr_c99 s4 1 0).trans (cFr.tsb (cFr.refl (F := 0) (T := 0) (B := 0) (G := 4)) rfl)
      have fD : cFr 0 0 0 20 s4 (c78 (c96 s4).1 45 (x4 - 1) 1 (c63 s)).1 := (cFr.mono (fr_c96 s4) rfl rfl rfl rfl).trans (fr_c78 _ _ _ _ _)
      have k77 : SGp none ([], [(45, x4 - 1, 1, k.1 4)]) L P k2 (t + 1) v w a4 (c96 s4).1 (k261_77 k5 (k.1 4)).1 X (t + 1) v w := by
        unfold k261_77
        rw [if_neg d0, ← e19]
        exact hB1.put
      have vc : ¬ (TL s4 x4 ↔ (k5.1 19 = 1 ∧ k5.2 16 v = 1 ∧ k262 k5 ≠ 0)) → k5.1 8 ≠ 0 ∨ 1048576 ≤ (s4.r (.i s4.now)).toInt := fun ne => by
        by_cases c8 : k5.1 8 ≠ 0
        · exact Or.inl c8
        by_cases cf' : 1048576 ≤ (s4.r (.i s4.now)).toInt
        · exact Or.inr cf'
        have c8' : k5.1 8 = 0 := Decidable.not_not.mp c8
        have lo := uL5.2.1 (by omega)
        refine absurd ?_ ne
        constructor
        · rintro ⟨p1, p2, p3, p4⟩
          refine ⟨by rw [← u195]; exact p2, ?_, (cli c8').mp p4⟩
          rcases uL5.1.mp p1 with z | z
          · exact z
          · rw [lo.2 z] at p3
            exact absurd p3 (by decide)
        · rintro ⟨p1, p2, p3⟩
          exact ⟨uL5.1.mpr (Or.inl p2), by rw [u195]; exact p1, lo.1 p2, (cli c8').mpr p3⟩
      have main : ((k5.1 19 = 1 ∧ k5.2 16 v = 1 ∧ k262 k5 ≠ 0) ∧ (k261 k5 (k.1 4)).1 = kf (ka (ka k5 70 (kr k5 17 (k5.1 15 - 1)) 46) 72 (kr k5 17 (k5.1 15 - 1)) ((kr k5 72 (kr k5 17 (k5.1 15 - 1))) &&& 1)) 15 (k5.1 15 - 1)) ∨ (¬ (k5.1 19 = 1 ∧ k5.2 16 v = 1 ∧ k262 k5 ≠ 0) ∧ (k261 k5 (k.1 4)).1 = (k261_77 k5 (k.1 4)).1) := by
        unfold k261
        by_cases d1 : k5.1 19 ≠ 1
        · rw [if_pos d1]
          exact Or.inr ⟨fun q => d1 q.1, rfl⟩
        rw [if_neg d1, ekr]
        by_cases d2 : k5.2 16 v ≠ 1
        · rw [if_pos d2]
          exact Or.inr ⟨fun q => d2 q.2.1, rfl⟩
        rw [if_neg d2]
        by_cases d3 : k262 k5 = 0
        · rw [if_pos d3]
          exact Or.inr ⟨fun q => q.2.2 d3, rfl⟩
        · rw [if_neg d3]
          exact Or.inl ⟨⟨Decidable.not_not.mp d1, Decidable.not_not.mp d2, d3⟩, rfl⟩
      have upC : ∀ x, 0 ≤ ((ts (c99 s4 1 0).1 (.i (c99 s4 1 0).1.now) (c98 (c99 s4 1 0).1 - 1) 0 46).r (.i x)).toInt := fun x => by rw [fC.2.2.2.2.2.2.1 rfl]; exact hr0 x
      have upB : ∀ x, 0 ≤ ((c78 (c96 s4).1 45 (x4 - 1) 1 (c63 s)).1.r (.i x)).toInt := fun x => Int.le_trans (hB1.nc.1 x) (c78_up hB1.nc.1 x)
      rcases z2 with ⟨z2, rfl⟩ | ⟨-, z2, -⟩ | ⟨z2, -, -, rfl⟩
      · rcases main with ⟨m1, m2⟩ | ⟨m1, m2⟩
        · rw [m2]
          exact sg_tail hS (by omega) m1.2.1 uL5.2
        · rw [m2]
          rw [m2] at e8k
          refine k77.oth (fB.trans (cFr.mono fC rfl rfl rfl rfl)) ?_ upC
          rw [e8k, fC.2.2.2.1 rfl, fC.2.2.2.2.2.2.1 rfl]
          exact vc (fun q => m1 (q.mp z2))
      · exact absurd z2 (fun q => q.elim nle (fun q => (fl.mpr d0) q))
      · rcases main with ⟨m1, m2⟩ | ⟨m1, m2⟩
        · have hT := sg_tail hS (by omega) m1.2.1 uL5.2
          rw [← m2] at hT
          refine hT.oth ((cFr.mono fC.sym rfl rfl rfl rfl).trans fD) ?_ upB
          rcases vc (fun q => z2 (q.mpr m1)) with q | q
          · left
            rw [e8k]
            exact q
          · right
            refine c78_full ?_
            rw [(fr_c96 s4).2.2.2.1 rfl, (fr_c96 s4).2.2.2.2.2.2.1 rfl]
            exact q
        · rw [m2]
          exact (k77.cle).de0 (by rw [e63]; rfl)
end RET
section LFN
variable {L : List xR} {P : PT} {k0 k k' : kS} {T V W a t v w n : Nat} {s s' : cS} {X X' : List xF} {f : xF} {r : List xF} {x y z y1 y2 y3 y4 p : Int32} {rc : cRC}
theorem XQ.dcl {q : xR} {b : xB} {bs : List xB} (hp : f.2.2.1 = []) (hb : f.2.2.2.1 = b :: bs) : XQ (f :: r) (xd f q :: r) := ⟨f, xd f q, r, [q], b, b, bs, rfl, rfl, ⟨hp, hp, rfl⟩, rfl, ⟨hb, hb, rfl, rfl⟩, rfl⟩
/-- a function's body above a goal, as a value -/
theorem fb_call {pp : Int32} (h73 : E73 rc L) (h : SG L P k0 T V W a s k X (t + 1) v w) {g p q c : Int32} (g1 : GT t g p q c k) (hX : X ≠ []) (hs : x = 0 ↔ y = 0) (hzP : z = pp) (hT : T ≤ t) (hV : V ≤ v) (hW : W ≤ w) (hr : RO L (a + 1) (t + 12) (v + 6)) : QC (fun s' k' _ => ∃ a', a < a' ∧ SG L P k0 T V W a' s' k' X (t + 1) (v + 1) w ∧ GT t g p q c k') (k195 (k179 k 41 pp 0 0).1 y pp).1 (rc 73 s 0 z x 0 0 0 0) := by
  have ht : t + 8 ≤ 1000000 := by have := hr.1; omega
  have hv : v + 6 ≤ 1000000 := by have := hr.2; omega
  obtain ⟨h2, g2⟩ := h.psh (g := 41) (p := pp) (q := 0) (c := 0) (by omega) (by omega)
  have b2 : KB (t + 1) v w k (k179 k 41 pp 0 0).1 := (GT.psh (t := t + 1) (g := 41) (a := pp) (b := 0) (c := 0) h.2.1.1 (by omega)).2
  generalize (k179 k 41 pp 0 0).1 = k2 at h2 g2 b2
  have hq := (h73 a s k2 X (t + 1 + 1) v w z x y pp h2.own hX hs hzP ⟨by have := hr.1; omega, by have := hr.2; omega⟩).bnd (f := fun s9 w9 => some (s9, some w9)) (Q := fun s' k' _ => ∃ a', a < a' ∧ SG L P k0 T V W a' s' k' X (t + 1) (v + 1) w ∧ GT t g p q c k') ?_
  · intro s' o e
    refine hq s' o ?_
    rw [e]
    cases o <;> rfl
  · rintro s6 k6 x6 ⟨a6, m6, u1, u2, u4⟩
    refine QC.pop (g2.bck u2.2.2.1 u2.2.1.1) (by omega) ?_
    rw [k180_g41]
    have b6 : KB (t + 1) v w k (kf k6 10 (xn (t + 1))) := (b2.trans (u2.2.2.1.mono (by omega) (Nat.le_refl _) (Nat.le_refl _))).trans (KB.fr (F := 1024) (A := 0) (kFr.sf kFr.refl rfl) rfl)
    have h6 : SGp none ([(7, m6, 0, z)], []) L P k (t + 1) v w a6 s6 (kf k6 10 (xn (t + 1))) X (t + 1) v w := ⟨(u2.top (t' := t + 1)).1, (u2.top (t' := t + 1)).2.1, b6, u2.2.2.2⟩
    have h7 := ((h6.put (x := 7) (y := (kf k6 10 (xn (t + 1))).1 76) (z := 0) (u := pp)).de8 (fun z8 => by
      have z8' : k6.1 8 = 0 := ((fr_k189 (kf k6 10 (xn (t + 1))) 7 ((kf k6 10 (xn (t + 1))).1 76) 0 pp).1 8 rfl).symm.trans z8
      have e76 : (kf k6 10 (xn (t + 1))).1 76 = k6.1 76 := rfl
      rw [e76, u4 z8', hzP]
      rfl)).val (x := 0) (y := 0) (z := 0) (Nat.le_refl _) (by omega)
    exact QC.ret ⟨a6, u1, h.reb h7.1 (by omega) hV hW, g1.bck h7.1.2.2.1 h7.1.2.1.1⟩
def E146 (rc : cRC) (L : List xR) : Prop := ∀ {P : PT} (a : Nat) (s : cS) (k : kS) (X : List xF) (t v w : Nat), SG L P k t v w a s k X t v w → XB X → RO L (a + 1) (t + 8) (v + 8) → c53 s = 22 → kc L (a + 1) = 18 → QC (SP L P k t v w a X) (k228 k 22).1 (rc 146 s 0 0 0 0 0 0 0)
theorem st_lfn (h73 : E73 rc L) (h : SG L P k t v w a s k X t v w) (hB : XB X) (hr : RO L (a + 1) (t + 8) (v + 8)) (c : c53 s = 22) (hk : kc L (a + 1) = 18) : QC (SP L P k t v w a X) (k228 k 22).1 (c146 rc s) := by
  have hle := h.le
  have ht : t + 8 ≤ 1000000 := by have := hr.1; omega
  have hv : v + 8 ≤ 1000000 := by have := hr.2; omega
  have hsz := h.sz
  have e630 := h.w63
  rw [k228_k22]
  unfold c146 k238
  obtain ⟨q, s1, q1, q2, q3, q4, q5⟩ := h.skp c pl22
  have hlt := lt_of q1
  rw [q3, rbd_th (w := q.2.1) rfl]
  have e1k := q4.at4
  generalize kf k 4 (k.1 4 + 1) = k1 at q4 e1k
  have c18 : c53 s1 = 18 := by
    rcases q4.1.1.kd with ⟨p, p1, p2, -⟩ | ⟨p1, -⟩
    · unfold kc at hk
      rw [p1] at hk
      exact p2.trans hk
    · unfold kc at hk
      rw [List.getElem?_eq_none (by omega)] at hk
      exact absurd hk (by decide)
  rw [if_neg (fun z => z ((q4.is (by decide) (by decide)).mp c18))]
  unfold c146_15
  rcases q4.ske c18 en18 with ⟨o, s2, k2, o1, o2, o3, o4, o5, o6, o7⟩ | ⟨o1, o2, o3⟩
  · rw [o3, rbd_th (w := o.2.1) rfl, o4]
    have hlt2 := lt_of o1
    show QC _ (k238_20 k2 (k.1 4) (k1.1 4) 1).1 (c146_31 rc s2 (c63 s) (c63 s1) o.2.1)
    unfold k238_20 c146_31
    rw [if_pos (by decide)]
    obtain ⟨e4, e63⟩ := o5.at4
    rcases o5.tkp pl1 with ⟨m, s3, m1, m2, m3, m4, m5, m6⟩ | ⟨m1, m2, m3⟩
    · rw [m3, rbd_th (w := m.2.1) rfl, m4]
      have hlt3 := lt_of m1
      show QC _ (k238_34 (kf k2 4 (k2.1 4 + 1)) (k.1 4) (k1.1 4) (k2.1 4) 1).1 (c146_48 rc s3 (c63 s) (c63 s1) (c63 s2) m.2.1)
      have et := m5.1.1.txa m1
      have fm : kFr 16 0 k2 (kf k2 4 (k2.1 4 + 1)) := kFr.sf kFr.refl rfl
      have om := o5.ou m6 fm
      generalize kf k2 4 (k2.1 4 + 1) = k3 at m5 et om
      unfold k238_34
      rw [if_pos (by decide), e4]
      unfold k238_46 k238_66 k238_76 k238_87 k238_96 c146_48 c146_70 c146_78 c146_89
      have h4 := m5.put (x := 1) (y := 0) (z := 0) (u := 0)
      have et2 : kr (k189 k3 1 0 0 0).1 2 (xn (a + 1 + 1)) = m.2.1 := by
        unfold kr
        rw [(fr_k189 k3 1 0 0 0).2 2 rfl]
        exact et
      have om4 := OU.fr (s' := s3) om (fun _ => ⟨rfl, rfl⟩) (fr_k189 k3 1 0 0 0) rfl rfl
      generalize (k189 k3 1 0 0 0).1 = k4 at h4 et2 om4
      obtain ⟨f, r, b, bs, rfl, b1, b2, b3⟩ := hB
      have n5 := RN.dcl (t := m.2.1) (st := 1) (w := c63 s2) (c := 0) (cl := 0) (w' := xn (a + 1 + 1)) h4.1.2.1 h4.SZ b1 (by decide) (by decide)
      rw [et2]
      have fc := fr_c74 s3 m.2.1 1 (c63 s2)
      have fk := fr_k196 k4 m.2.1 0 0 (xn (a + 1 + 1))
      have hz' : SZ (xd f (m.2.1, 1, 0, 0) :: r) := SZ_of (by rw [sz_xd]; omega)
      have h5 := h4.nam (δ' := ([], [(1, 0, 0, 0)])) fc fk n5 (by rw [sz_xd]; omega) ((OU.dcl om4 (by have := o5.bl; omega) h4.1.2.1.2.1 h4.SZ ((fr_c74 _ _ _ _).ou rfl)).mono (by have := o5.bl; omega)) ⟨(fun z => nomatch z), (h4.nc.fr0 fc fk rfl rfl rfl rfl k196_e8 (fun z => absurd z (by decide))).xx rfl, FB.dcl h4.fb h4.1.2.1 h4.SZ b1 n5 hz', CL.dcl (st := 0) (w := 0) h4.cc h4.1.2.1.2.1 h4.SZ (show (0 : Int32) ≠ 0 ↔ (1 : Int32) &&& 4 ≠ 0 from by decide), h4.lv.same rfl (fc.2.1 28 rfl).1 (fc.2.1 28 rfl).2⟩
      generalize (k196 k4 m.2.1 0 0 (xn (a + 1 + 1))).1 = k5 at h5
      have e75 : c75 s3 = k197 k4 := by
        rw [XC.cnt h4.1.2.1.1 h4.SZ, b1, List.append_nil, XK.cnt h4.1.2.1.2.1 h4.SZ]
      have h6 := (((h5.put (x := 27) (y := k197 k4) (z := 1) (u := k.1 4)).cle (x := 1) (y := 0) (z := 0) (u := 0)).cle (x := 27) (y := c75 s3) (z := 1) (u := c63 s)).de0 (by rw [e75, e630]; rfl) (wfl_c (wfa_o rfl) (wfl_c (wfa_b (by decide) (by decide) (by have := SZ.fl h4.SZ; rw [XC.cnt h4.1.2.1.1 h4.SZ, b1, List.append_nil, xn_i (by omega)]; omega) (fun _ => by decide)) wfl_0))
      generalize (k189 k5 27 (k197 k4) 1 (k.1 4)).1 = k6 at h6
      generalize (c78 (c78 (c74 s3 m.2.1 1 (c63 s2)).1 1 0 0 0).1 27 (c75 s3) 1 (c63 s)).1 = s6 at h6
      obtain ⟨h7, g7⟩ := h6.psh (g := 17) (p := k197 k4) (q := xn (a + 1 + 1)) (c := 0) (Nat.le_refl _) (by omega)
      generalize (k179 k6 17 (k197 k4) (xn (a + 1 + 1)) 0).1 = k7 at h7 g7
      refine (fb_call (z := c63 s1) (x := 0) (y := 0) h73 h7 g7 (fun z => nomatch z) Iff.rfl (by rw [e1k.1, e1k.2]) (Nat.le_refl _) (Nat.le_refl _) (Nat.le_refl _) ⟨by have := hr.1; omega, by have := hr.2; omega⟩).bnd ?_
      rintro s8 k8 x8 ⟨a8, u1, u2, u3⟩
      refine QC.pop u3 (by omega) ?_
      rw [k180_g17]
      have h9 := ((u2.top (t' := t)).dwn (by omega)).pc (x := 29) (y := c75 s3) (z := 0) (u := c63 s2) (x' := 29) (y' := k197 k4) (z' := 0) (u' := xn (a + 1 + 1)) (by rw [e75, e63])
      exact QC.ret ⟨a8, _, by omega, h9, XQ.dcl b1 b2⟩
    · rw [rbd_thn m1]
      refine QC.thn ?_
      show (k238_34 (k200 k2 1).1 (k.1 4) (k1.1 4) (k2.1 4) (k200 k2 1).2).1.1 6 ≠ 0
      unfold k238_34
      rw [if_neg (fun z => z m2)]
      exact m3
  · rw [rbd_thn o1]
    refine QC.thn ?_
    unfold k238_20
    rw [if_neg (fun z => z o2)]
    exact o3
end LFN
