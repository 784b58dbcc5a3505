/-! THE WALK OVER BOTH: the chain of an if's exits -/
/-- the newest exit: the class's row (none: -1), the reference's (none: 0) -/
def hdC : List (Int32 × Int32) → Int32 × Int32
  | [] => (-1, 0)
  | q :: _ => q
/-- exits that wait, the newest first -/
def chL (x : Nat) : List (Int32 × Int32) → List hE
  | [] => []
  | q :: C => (x, q.1.toNatClampNeg, 1, (q.2 - 1).toNatClampNeg, (hdC C).1, (hdC C).2) :: (gho q.2 (xn ((q.2 - 1).toNatClampNeg + 1)) ++ chL x C)
section CHN
variable {H : List hE} {s : cS} {k : kS} {x : Nat}
theorem chn_go : ∀ (C : List (Int32 × Int32)) (s : cS) (k : kS) (cnt : Nat), (∀ q ∈ C, 0 ≤ q.1.toInt) → RWS ([], []) (chL x C ++ H) s k → k.1 8 = 0 → (k.1 68).toInt < 65536 → FL s k → (k.1 53).toInt ≤ 1000000 → s.now = x + 1 → k210 k = k.2 60 x → cnt + C.length ≤ 16384 → ∃ m s' k' w w', kwh c137b4 m (s, (hdC C).1, xn cnt) = (1, (s', w)) ∧ kwh k250b2 m (k, (hdC C).2) = (1, (k', w')) ∧ RWS ([], []) H s' k' := by
  intro C
  induction C with
  | nil =>
    intro s k cnt _ h z h6 hf h53 hn hv hc
    have e1 : c137b4 (s, -1, xn cnt) = (1, (s, -1, xn cnt)) := by
      unfold c137b4
      rw [if_pos (show (-1 : Int32) < 0 by decide)]
    have e2 : k250b2 (k, 0) = (1, (k, 0)) := by
      unfold k250b2
      rw [if_pos (show (0 : Int32) ≤ 0 by decide)]
    exact ⟨1, s, k, (-1, xn cnt), 0, by show kwh c137b4 1 (s, -1, xn cnt) = _; rw [kwh_out (by rw [e1]; exact Nat.succ_ne_zero _), e1], by show kwh k250b2 1 (k, 0) = _; rw [kwh_out (by rw [e2]; exact Nat.succ_ne_zero _), e2], h⟩
  | cons q C ih =>
    intro s k cnt hq h z h6 hf h53 hn hv hc
    have hc : cnt + (C.length + 1) ≤ 16384 := hc
    have q0 := hq q List.mem_cons_self
    have hp : (chL x (q :: C) ++ H).Perm ((gho q.2 (xn ((q.2 - 1).toNatClampNeg + 1)) ++ [(x, q.1.toNatClampNeg, 1, (q.2 - 1).toNatClampNeg, (hdC C).1, (hdC C).2)]) ++ (chL x C ++ H)) := by
      show ((x, q.1.toNatClampNeg, 1, (q.2 - 1).toNatClampNeg, (hdC C).1, (hdC C).2) :: (gho q.2 (xn ((q.2 - 1).toNatClampNeg + 1)) ++ chL x C) ++ H).Perm _
      rw [List.append_assoc, List.cons_append, List.append_assoc]
      exact List.perm_middle.symm
    have h1 := h.perm hp
    have eg := h1.gh z h6 hf
    rw [gho_t eg, List.nil_append] at h1
    generalize (q.2 - 1).toNatClampNeg = g at h1 eg
    have ei := nat_xn q0
    generalize q.1.toNatClampNeg = i at h1 ei
    have h1 : RWS ([], []) ((x, i, 1, g, (hdC C).1, (hdC C).2) :: (chL x C ++ H)) s k := h1
    obtain ⟨n, n1, n2, n3⟩ := h1.2 z
    have n4 : n < 65536 := by rw [n1, xn_i (by omega)] at h6; omega
    have hG := n3 n4 hf
    have b := hG.1.1 _ List.mem_cons_self
    obtain ⟨-, U, V', u1, -, -, u4, -⟩ := hG.2 x b
    obtain ⟨-, ⟨u, w1, w2, -⟩, w4, w5⟩ := u4.2 _ List.mem_cons_self rfl
    have w1 : U[i]? = some u := w1
    have w2 : u.2.1 = (hdC C).1 := w2
    have w4 : (gx (k.2 69) x n)[i]? = some g := w4
    have w5 : k.2 71 g = (hdC C).2 := w5
    have gl := (gx_i w4).2
    rw [D1_0, List.append_nil] at u1
    have il : i < 1048576 := (h1.ib z h6 hf List.mem_cons_self).1
    have et : tg s (.i s.now) q.1 1 = (hdC C).1 := by
      rw [hn, u1.g1 ei w1]
      exact w2
    have ec : q.2 - 1 = xn g := by
      rw [eg]
      have := xn_sub (n := 1) (m := g) (by omega)
      rw [Nat.add_comm 1] at this
      exact this
    have ey : (q.2 - 1).toNatClampNeg = g := by rw [ec]; exact xn_nat (by omega)
    have i16 : (16384 : Int32).toInt = 16384 := rfl
    have z0 : (0 : Int32).toInt = 0 := rfl
    have st1 : c137b4 (s, q.1, xn cnt) = (0, ((ts s (.i (x + 1)) q.1 1 (s.r (.i (x + 1)))), (hdC C).1, xn (cnt + 1))) := by
      unfold c137b4
      rw [if_neg (show ¬ q.1 < 0 by rw [i_lt]; omega), if_neg (show ¬ (16384 : Int32) < xn cnt by rw [i_lt, xn_i (by omega)]; omega)]
      show (0, ((ts s (.i s.now) q.1 1 (s.r (.i s.now))), tg s (.i s.now) q.1 1, xn cnt + 1)) = _
      rw [et, hn, xn_succ (by omega)]
    have st2 : k250b2 (k, q.2) = (0, (ka k 71 (q.2 - 1) (k210 k), (hdC C).2)) := by
      unfold k250b2
      rw [if_neg (show ¬ q.2 ≤ 0 from by
        rw [eg, i_le, xn_i (by omega)]
        omega)]
      show (0, (ka k 71 (q.2 - 1) (k210 k), k.2 71 (q.2 - 1).toNatClampNeg)) = _
      rw [ey, w5]
    have h2 := (RWS.cset (v := s.r (.i (x + 1))) h1 ei).k71 (v := k210 k) ey h53
    have h3 := h2.drop (fun z' h6' hf' => by rw [hv, ← h1.cnt z h6 hf b])
    have hf2 : FL (ts s (.i (x + 1)) q.1 1 (s.r (.i (x + 1)))) (ka k 71 (q.2 - 1) (k210 k)) := fun y hy => by
      rw [ts_r]
      exact hf y hy
    have hn2 : (ts s (.i (x + 1)) q.1 1 (s.r (.i (x + 1)))).now = x + 1 := (ts_ri (x := 0)).2.trans hn
    have e53 : ((ka k 71 (q.2 - 1) (k210 k)).1 53).toInt ≤ 1000000 := h53
    have z2 : (ka k 71 (q.2 - 1) (k210 k)).1 8 = 0 := z
    have h62 : ((ka k 71 (q.2 - 1) (k210 k)).1 68).toInt < 65536 := h6
    have hv2 : k210 (ka k 71 (q.2 - 1) (k210 k)) = (ka k 71 (q.2 - 1) (k210 k)).2 60 x := hv
    obtain ⟨m, s', k', w, w', r1, r2, r3⟩ := ih _ _ (cnt + 1) (fun q' hq' => hq q' (List.mem_cons_of_mem _ hq')) h3 z2 h62 hf2 e53 hn2 hv2 (by omega)
    exact ⟨m + 1, s', k', w, w', by show kwh c137b4 (m + 1) (s, q.1, xn cnt) = _; rw [kwh_go (by rw [st1]), st1]; exact r1, by show kwh k250b2 (m + 1) (k, q.2) = _; rw [kwh_go (by rw [st2]), st2]; exact r2, r3⟩
/-- both lead the exits of an if behind it -/
theorem NR.chn {q : Nat} {C : List (Int32 × Int32)} {X : List xF} (h : NR q ([], []) (chL x C ++ H) s k X) (hC : ∀ q ∈ C, 0 ≤ q.1.toInt) (hl : C.length ≤ 16384) (hn : s.now = x + 1) (hv : k210 k = k.2 60 x) (h53 : (k.1 53).toInt ≤ 1000000) : NR q ([], []) H (c137 s (hdC C).1).1 (k250 k (hdC C).2).1 X := by
  have fc := fr_c137 s (hdC C).1
  have fk := fr_k250 k (hdC C).2
  refine h.go (fc.2.2.2.2.2.2.1 rfl) (fc.2.2.2.1 rfl) (fc.2.1 28 rfl) (fc.2.1 30 rfl) (fun z => (fk.1 8 rfl).symm.trans z) (fk.1 53 rfl) (fk.1 68 rfl) (fk.2 51 rfl) (fk.2 43 rfl) (fk.2 46 rfl) (fk.1 37 rfl) (fun z h6 hf Hd hR => ?_)
  rw [List.append_assoc] at hR
  obtain ⟨m, s', k', w, w', r1, r2, r3⟩ := chn_go C s k 0 hC hR z h6 hf h53 hn hv (by omega)
  have e1 : (c137 s (hdC C).1).1 = s' := by
    have r1 : kwh c137b4 m (s, (hdC C).1, 0) = (1, (s', w)) := r1
    unfold c137
    rw [kfin_of ⟨m, r1⟩ (Nat.succ_ne_zero 0)]
  have e2 : (k250 k (hdC C).2).1 = k' := by
    unfold k250
    rw [kfin_of ⟨m, r2⟩ (Nat.succ_ne_zero 0)]
  rw [e1, e2]
  exact r3
end CHN
section STJ
variable {e : Nat} {L : List xR} {P : PT} {H : List hE} {k0 k : kS} {T V W a t v w : Nat} {s : cS} {f : xF} {r : List xF}
/-- both write a jump that waits in a chain -/
theorem se_jmg {x1 y1 y2 : Int32} (h : SE e L P k0 T V W a s k (f :: r) t v w) (hjm : jmp x1) (hwo : wfo x1 = true := by rfl) : SE e L (P.1, P.2.1, (f.1 - 1, (c78 s x1 y1 0 0).2.toNatClampNeg, 1, ((k189 k x1 y2 0 0).2 + 1 - 1).toNatClampNeg, y1, y2) :: (gho ((k189 k x1 y2 0 0).2 + 1) (xn (((k189 k x1 y2 0 0).2 + 1 - 1).toNatClampNeg + 1)) ++ P.2.2)) k0 T V W a (c78 s x1 y1 0 0).1 (k189 k x1 y2 0 0).1 (f :: r) t v w ∧ 0 ≤ (c78 s x1 y1 0 0).2.toInt := by
  obtain ⟨h1, h2⟩ := SEp.jmp (j := 1) (x1 := x1) (y1 := y1) (z1 := 0) (u1 := 0) (y2 := y2) (z2 := 0) h (Or.inl ⟨rfl, rfl⟩) hjm (Or.inl hwo)
  obtain ⟨o1, o2, o3, o4⟩ := own_e h.1.2.1 h.SZ
  have jg := k189_g (b1 := x1) (b2 := y2) (b3 := 0) (b4 := 0) h.ne.2.1 o1
  have ez : (k189 k x1 y2 0 0).2 = (k189 k x1 y2 0 0).1.1 68 - 1 := by
    unfold k189
    split <;> rfl
  rw [Int32.add_sub_cancel]
  refine ⟨?_, h2⟩
  have h3 : SE e L (P.1, P.2.1, (f.1 - 1, (c78 s x1 y1 0 0).2.toNatClampNeg, 1, (k189 k x1 y2 0 0).2.toNatClampNeg, y1, y2) :: P.2.2) k0 T V W a (c78 s x1 y1 0 0).1 (k189 k x1 y2 0 0).1 (f :: r) t v w := h1
  refine SEp.pmH (P := P) (SEp.st (P := (P.1, P.2.1, (f.1 - 1, (c78 s x1 y1 0 0).2.toNatClampNeg, 1, (k189 k x1 y2 0 0).2.toNatClampNeg, y1, y2) :: P.2.2)) h3 (fun n => n.mkg (a := (k189 k x1 y2 0 0).2 + 1) (b := xn ((k189 k x1 y2 0 0).2.toNatClampNeg + 1)) (fun z h6 hf Hd hR => ?_))) List.perm_middle
  obtain ⟨j1, -⟩ := jg z h6
  rw [ez] at j1 ⊢
  generalize (k189 k x1 y2 0 0).1.1 68 = c at j1 ⊢
  rw [Int32.sub_add_cancel]
  exact r_eq (by omega)
end STJ
/-! THE WALK OVER BOTH: if -/
section ST3
variable {L : List xR} {P : PT} {k0 k k' : kS} {T V W a t v w : Nat} {s s' : cS} {X X' : List xF} {x y y1 y2 y3 j p z : Int32} {rc : cRC}
theorem WR.els (h : WR L a s k) {q : xR} (hq : L[a]? = some q) (h13 : q.1 = 13) : ∃ s1, c55 s = (s1, some q.2.1) ∧ WR L (a + 1) s1 (kf k 4 (k.1 4 + 1)) ∧ cFr 51539607552 0 0 0 s s1 := by
  have hl := (List.getElem?_eq_some_iff.mp hq).1
  have h16 := h.1.2.1
  obtain ⟨e1, e2, e3⟩ := h.2.2.2.1
  have e48 : (48 : Int32).toInt = 48 := rfl
  have l5 : (k.1 5 - 1).toInt = (k.1 5).toInt - 1 := i_sub rfl (show (1 : Int32).toInt = 1 from rfl) (by omega) (by omega)
  refine ⟨nf (nf (nf s 2 3 (s.f 2 3 - 1)) 2 3 ((nf s 2 3 (s.f 2 3 - 1)).f 2 3 + 1)) 2 2 (xn (a + 1)), ?_, ?_, ((cFr.refl.sf rfl).sf rfl).sf rfl⟩
  · rw [c55_go h hq, h13, if_neg (by unfold c56; decide)]
    unfold c55_30
    rw [if_neg (by unfold c57; decide), if_pos (by rw [nf_at, i_lt, e1, l5, e48]; omega)]
    unfold c55_59
    exact c55_69_go h hq rfl rfl (by rw [nf_o (by decide), nf_o (by decide)])
  · refine h.adv (lv := k.1 5) hl rfl rfl nf_at ?_ rfl rfl rfl rfl rfl rfl e2 (by omega)
    rw [nf_o (by decide), nf_at, nf_at, e1, Int32.sub_add_cancel]
theorem SGp.els (h : SG L P k0 T V W a s k X t v w) (c : c53 s = 13) : ∃ q s1, L[a]? = some q ∧ c55 s = (s1, some q.2.1) ∧ SG L P k0 T V W (a + 1) s1 (kf k 4 (k.1 4 + 1)) X t v w ∧ cFr 51539607552 0 0 0 s s1 := by
  rcases h.1.1.kd with ⟨q, q1, q2, -⟩ | ⟨-, q2, -⟩
  · obtain ⟨s1, w1, w2, w3⟩ := h.1.1.els q1 (q2.symm.trans c)
    exact ⟨q, s1, q1, w1, h.adv (h.1.adv w2 w3 (kFr.sf kFr.refl rfl)) w3 (kFr.sf kFr.refl rfl), w3⟩
  · rw [c] at q2
    exact absurd q2 (by decide)
theorem SGp.skl {K : Int32} (h : SG L P k0 T V W a s k X t v w) (c : c53 s = K) (hp : LEV K) : ∃ q s1, L[a]? = some q ∧ c55 s = (s1, some q.2.1) ∧ SG L P k0 T V W (a + 1) s1 (kf (kf k 4 (k.1 4 + 1)) 5 (k.1 5 - 1)) X t v w ∧ cFr 51539607552 0 0 0 s s1 := by
  rcases h.tkl hp with ⟨q, s1, k1, q1, q2, q3, q4, q5, q6, q7⟩ | ⟨-, z, -⟩
  · refine ⟨q, s1, q1, by rw [← c64_yes c]; exact q3, ?_, q6⟩
    have e : k1 = kf (kf k 4 (k.1 4 + 1)) 5 (k.1 5 - 1) := by
      unfold k199 k200 at q4
      rw [if_pos ((h.is hp.1 hp.2.1).mp c)] at q4
      exact (congrArg Prod.fst q4).symm
    rw [← e]
    exact q5
  · unfold k199 k200 at z
    rw [if_pos ((h.is hp.1 hp.2.1).mp c)] at z
    exact absurd (show (1 : Int32) = 0 from z) (by decide)
theorem hC_cons {C : List (Int32 × Int32)} {q : Int32 × Int32} (hC : ∀ q ∈ C, 0 ≤ q.1.toInt) (h : 0 ≤ q.1.toInt) : ∀ q' ∈ q :: C, 0 ≤ q'.1.toInt := fun q' hq => by
  rcases List.mem_cons.mp hq with e | e
  · rw [e]; exact h
  · exact hC q' e
/-- a part of an if ends: both jump over the rest, and a condition that fails goes on here -/
theorem SGp.prt {f : xF} {r : List xF} {C : List (Int32 × Int32)} {vc vk : Int32} (h : SG L (P.1, P.2.1, (f.1 - 1, y2.toNatClampNeg, 1, j.toNatClampNeg, vc, vk) :: (chL (f.1 - 1) C ++ P.2.2)) k0 T V W a s k (f :: r) t v w) (hy : 0 ≤ y2.toInt) : SG L (P.1, P.2.1, chL (f.1 - 1) (((c136 s y2 (hdC C).1).2, (k189 k 36 (hdC C).2 0 0).2 + 1) :: C) ++ P.2.2) k0 T V W a (c136 s y2 (hdC C).1).1 (ka (k189 k 36 (hdC C).2 0 0).1 71 j (k210 (k189 k 36 (hdC C).2 0 0).1)) (f :: r) t v w ∧ 0 ≤ (c136 s y2 (hdC C).1).2.toInt := by
  obtain ⟨h1, h2⟩ := se_jmg (x1 := 36) (y1 := (hdC C).1) (y2 := (hdC C).2) (SE.of h) (by unfold jmp; decide)
  refine ⟨?_, h2⟩
  unfold c136 c136_9
  show SG L (P.1, P.2.1, (f.1 - 1, (c78 s 36 (hdC C).1 0 0).2.toNatClampNeg, 1, ((k189 k 36 (hdC C).2 0 0).2 + 1 - 1).toNatClampNeg, (hdC C).1, (hdC C).2) :: (gho ((k189 k 36 (hdC C).2 0 0).2 + 1) (xn (((k189 k 36 (hdC C).2 0 0).2 + 1 - 1).toNatClampNeg + 1)) ++ chL (f.1 - 1) C) ++ P.2.2) k0 T V W a (c109 (c78 s 36 (hdC C).1 0 0).1 (c78 s 36 (hdC C).1 0 0).1.now y2 1).1 _ (f :: r) t v w
  generalize (c78 s 36 (hdC C).1 0 0).2 = sc at h1 ⊢
  generalize (k189 k 36 (hdC C).2 0 0).2 = kc at h1 ⊢
  generalize (c78 s 36 (hdC C).1 0 0).1 = s1 at h1 ⊢
  generalize (k189 k 36 (hdC C).2 0 0).1 = k1 at h1 ⊢
  generalize gho (kc + 1) (xn ((kc + 1 - 1).toNatClampNeg + 1)) = G at h1 ⊢
  have pm : ((f.1 - 1, sc.toNatClampNeg, 1, (kc + 1 - 1).toNatClampNeg, (hdC C).1, (hdC C).2) :: (G ++ (f.1 - 1, y2.toNatClampNeg, 1, j.toNatClampNeg, vc, vk) :: (chL (f.1 - 1) C ++ P.2.2))).Perm ((f.1 - 1, y2.toNatClampNeg, 1, j.toNatClampNeg, vc, vk) :: ((f.1 - 1, sc.toNatClampNeg, 1, (kc + 1 - 1).toNatClampNeg, (hdC C).1, (hdC C).2) :: (G ++ chL (f.1 - 1) C) ++ P.2.2)) := by
    rw [List.cons_append, List.append_assoc]
    exact (List.Perm.cons _ List.perm_middle).trans (List.Perm.swap _ _ _)
  have h3 := SEp.ks1 (P := P) (z := k210 k1) (SEp.pmH (P := P) h1 pm)
  have e210 : k210 k1 = k210 (ka k1 71 j (k210 k1)) := rfl
  generalize ka k1 71 j (k210 k1) = k2 at h3 e210 ⊢
  rw [e210] at h3
  exact SE.to (SEp.cld (P := P) h3 (nat_xn hy) (Or.inl rfl))
/-- if's condition: the word before it is read -/
def E135 (rc : cRC) (L : List xR) : Prop := ∀ {P : PT} (k0 : kS) (T V W a : Nat) (s s1 : cS) (x : Int32) (k : kS) (X : List xF) (t v w : Nat) (p : Int32), c55 s = (s1, some x) → SG L P k0 T V W a s1 k X t v w → X ≠ [] → T ≤ t → V ≤ v → W ≤ w → RO L a (t + 2) v → QC (fun s' k' x' => ∃ a' k2 j f r, a < a' ∧ (X = f :: r ∧ 0 ≤ x'.toInt) ∧ SG L (P.1, P.2.1, (f.1 - 1, x'.toNatClampNeg, 1, j.toNatClampNeg, 0, 0) :: P.2.2) k0 T V W a' s' k2 X t v w ∧ k' = (k178 (k179 (k177 k2 0).1 8 j p 0).1).1) (k186 (k179 k 7 p 0 0).1 0).1 (rc 135 s 0 0 0 0 0 0 0)
theorem if_cnd (h70 : E70 rc L) {s1 : cS} (hs : c55 s = (s1, some x)) (h : SG L P k0 T V W a s1 k X t v w) (hX : X ≠ []) (hT : T ≤ t) (hV : V ≤ v) (hW : W ≤ w) (hr : RO L a (t + 2) v) : QC (fun s' k' x' => ∃ a' k2 j f r, a < a' ∧ (X = f :: r ∧ 0 ≤ x'.toInt) ∧ SG L (P.1, P.2.1, (f.1 - 1, x'.toNatClampNeg, 1, j.toNatClampNeg, 0, 0) :: P.2.2) k0 T V W a' s' k2 X t v w ∧ k' = (k178 (k179 (k177 k2 0).1 8 j p 0).1).1) (k186 (k179 k 7 p 0 0).1 0).1 (c135 rc s) := by
  have ht : t + 2 ≤ 1000000 := by have := hr.1; omega
  have hv : v + 2 ≤ 1000000 := by have := hr.2; omega
  unfold c135
  rw [hs, rbd_th (w := x) rfl]
  unfold c135_7
  refine (ex_call h70 h hX hT hV hW hr).bnd ?_
  rintro s3 k3 x3 ⟨a3, u1, u2, -, u3⟩
  refine QC.pop u3 (by omega) ?_
  rw [k180_g7]
  unfold k248
  have h4 := (u2.top (t' := t)).awy hV (by omega)
  generalize (k209 (kf k3 10 (xn t))).1 = k4 at h4
  unfold k248_4
  show QC _ _ (c135_12 rc s3)
  unfold c135_12
  rcases h4.tke en28 with ⟨q, s5, k5, p1, p2, p3, p4, p5, p6, p7⟩ | ⟨p1, p2, p3⟩
  · rw [p3, rbd_th (w := q.2.1) rfl, p4]
    show QC _ (k248_10 k5 p 1).1 (c135_21 rc s5 q.2.1)
    unfold k248_10 k248_23 k248_29 c135_21
    rw [if_pos (by decide)]
    obtain ⟨f, r, rfl⟩ : ∃ f r, X = f :: r := by
      cases X with
      | nil => exact absurd rfl hX
      | cons f r => exact ⟨f, r, rfl⟩
    obtain ⟨n1, n2⟩ := SEp.jmp (j := 1) (x1 := 35) (y1 := 0) (z1 := 0) (u1 := 0) (y2 := 0) (z2 := 0) (SE.of p5) (Or.inl ⟨rfl, rfl⟩) (by unfold jmp; decide)
    exact QC.ret ⟨a3 + 1, _, _, f, r, by omega, ⟨rfl, n2⟩, SE.to n1, rfl⟩
  · rw [rbd_thn p1]
    refine QC.thn ?_
    unfold k248_10
    rw [if_neg (fun z => z p2)]
    exact p3
/-- behind a part of an if -/
def E134L (rc : cRC) (L : List xR) : Prop := ∀ {P : PT} (C : List (Int32 × Int32)) (a0 : Nat) (k0 : kS) (f0 : xF) (r0 : List xF) (a : Nat) (s : cS) (k : kS) (X : List xF) (t v w : Nat) (j p y1 y2 y3 : Int32), SG L (P.1, P.2.1, (f0.1 - 1, y2.toNatClampNeg, 1, j.toNatClampNeg, 0, 0) :: (chL (f0.1 - 1) C ++ P.2.2)) k0 t v w a s k X t v w → (0 ≤ y2.toInt ∧ (∀ q ∈ C, 0 ≤ q.1.toInt) ∧ (C.length : Int) ≤ y3.toInt ∧ y1 = (hdC C).1 ∧ p = (hdC C).2) → XB (f0 :: r0) → XQ (f0 :: r0) X → a0 < a → RO L a (t + 8) (v + 8) → 0 ≤ y3.toInt → y3.toInt ≤ a → QC (SP L P k0 t v w a0 (f0 :: r0)) (k249_4 k j p).1 (rc 134013 s 0 y1 y2 y3 0 0 0)
theorem XQ.f1 {f0 : xF} {r0 : List xF} (h : XQ (f0 :: r0) X) : ∃ f, X = f :: r0 ∧ f.1 = f0.1 := by
  obtain ⟨g, f', r', l, b, b', bs, x1, x2, ⟨x3, x4, x5⟩, x6, x7, x8⟩ := h
  cases x1
  exact ⟨f', x2, x5⟩
theorem if_fin {a0 : Nat} {f0 : xF} {r0 : List xF} {C : List (Int32 × Int32)} {vc vk : Int32} (h : SG L (P.1, P.2.1, (f0.1 - 1, y2.toNatClampNeg, 1, j.toNatClampNeg, vc, vk) :: (chL (f0.1 - 1) C ++ P.2.2)) k0 t v w a s k X t v w) (hy : 0 ≤ y2.toInt) (hC : ∀ q ∈ C, 0 ≤ q.1.toInt) (hl : C.length ≤ 16384) (hq : XQ (f0 :: r0) X) (ha : a0 < a) : SP L P k0 t v w a0 (f0 :: r0) (c137 (c109 s s.now y2 1).1 (hdC C).1).1 (k250 (ka k 71 j (k210 k)) (hdC C).2).1 0 := by
  obtain ⟨f, rfl, e1⟩ := hq.f1
  rw [← e1] at h
  have h3 := SEp.ks1 (P := P) (z := k210 k) (SE.of h)
  have e210 : k210 k = k210 (ka k 71 j (k210 k)) := rfl
  generalize ka k 71 j (k210 k) = k2 at h3 e210 ⊢
  rw [e210] at h3
  have h4 := SEp.cld (P := P) h3 (nat_xn hy) (Or.inl rfl)
  have h4 : SE 0 L (P.1, P.2.1, chL (f.1 - 1) C ++ P.2.2) k0 t v w a (c109 s s.now y2 1).1 k2 (f :: r0) t v w := h4
  generalize (c109 s s.now y2 1).1 = s4 at h4 ⊢
  obtain ⟨o1, o2, o3, o4⟩ := own_e h4.1.2.1 h4.SZ
  have n := h4.ne.2.1.chn hC hl (by omega) (k210_60 h4.1.2.1 h4.SZ) h4.k53
  exact ⟨a, _, ha, SE.to (SX.se (P := P) (h4.sx.fr (fr_c137 _ _) (fr_k250 _ _)) n), hq⟩
theorem if_els {a0 : Nat} {f0 : xF} {r0 : List xF} {C : List (Int32 × Int32)} (h128 : E128 rc L) (h : SG L (P.1, P.2.1, (f0.1 - 1, y2.toNatClampNeg, 1, j.toNatClampNeg, 0, 0) :: (chL (f0.1 - 1) C ++ P.2.2)) k0 t v w a s k X t v w) (hy : 0 ≤ y2.toInt) (hC : ∀ q ∈ C, 0 ≤ q.1.toInt) (hl : C.length ≤ a) (hB : XB (f0 :: r0)) (hq : XQ (f0 :: r0) X) (ha : a0 < a) (hr : RO L a (t + 8) (v + 8)) (c : c53 s = 13) : QC (SP L P k0 t v w a0 (f0 :: r0)) (k249_52 k j (hdC C).2 13).1 (c134_72 rc (c136 s y2 (hdC C).1).1 (c136 s y2 (hdC C).1).2) := by
  have ht : t + 8 ≤ 1000000 := by have := hr.1; omega
  have hle := h.le
  have h600 := h.1.2.2.2.2.1.1
  unfold k249_52 k249_61
  rw [if_pos (by decide)]
  unfold k249_124 k249_134
  obtain ⟨f, rfl, e1⟩ := hq.f1
  rw [← e1] at h
  obtain ⟨h2, h20⟩ := SGp.prt h hy
  have c' : c53 (c136 s y2 (hdC C).1).1 = 13 := (c53_fr (fr_c136 s y2 (hdC C).1)).trans c
  generalize (k189 k 36 (hdC C).2 0 0) = K1 at h2
  generalize (c136 s y2 (hdC C).1) = S1 at h2 c' h20
  have hC' := hC_cons (q := (S1.2, K1.2 + 1)) hC h20
  unfold c134_72
  obtain ⟨q, s3, q1, q3, q4, q5⟩ := h2.els c'
  rw [q3, rbd_th (w := q.2.1) rfl]
  show QC _ (k178 (k179 (k177 (kf (ka K1.1 71 j (k210 K1.1)) 4 (K1.1.1 4 + 1)) 0).1 9 (K1.2 + 1) 0 0).1).1 (c134_82 rc s3 S1.2 (-1) q.2.1)
  have h3 : SG L (P.1, P.2.1, chL (f.1 - 1) ((S1.2, K1.2 + 1) :: C) ++ P.2.2) k0 t v w (a + 1) s3 (kf (ka K1.1 71 j (k210 K1.1)) 4 (K1.1.1 4 + 1)) (f :: r0) t v w := q4
  generalize kf (ka K1.1 71 j (k210 K1.1)) 4 (K1.1.1 4 + 1) = k3 at h3
  unfold c134_82
  refine (h128 0 0 0 (a + 1) s3 k3 (f :: r0) t v w 9 (K1.2 + 1) 0 0 (SE.of h3.own) (hB.nxt hq) (Or.inl ⟨rfl, rfl, rfl⟩) (by have := h.sz; omega) ⟨by have := hr.1; omega, by have := hr.2; omega⟩).bnd ?_
  rintro s4 k4 x4 (⟨a4, X4, u1, u2, u3, u4⟩ | ⟨u1, u2⟩)
  · refine QC.pop u4 (by omega) ?_
    rw [k180_g9]
    unfold k180_208 k180_213
    have h5 := (SE.of h3).reb u2 (Nat.le_refl _) (Nat.le_refl _) (Nat.le_refl _)
    generalize (k242 (kf k4 10 (xn t))).1 = k5 at h5
    obtain ⟨f4, rfl, e4⟩ := u3.f1
    rw [← e4] at h5
    obtain ⟨o1, o2, o3, o4⟩ := own_e h5.1.2.1 h5.SZ
    have h6 := h5.sx.fr (cFr.refl (F := 0) (T := 0) (B := 0) (G := 0)) (fr_k250 k5 (K1.2 + 1))
    show QC _ _ (c134_87 rc s4 S1.2 (-1))
    unfold c134_87
    rcases h6.tkl lv15 with ⟨o, s7, k7, p1, p2, p3, p4, p5, p6, p7⟩ | ⟨p1, p2, p3⟩
    · rw [p3, rbd_th (w := o.2.1) rfl, p4]
      show QC _ k7 (some ((c137 (ts s7 (.i s7.now) (-1) 1 (s7.r (.i s7.now))) S1.2).1, some 0))
      have e7 : ts s7 (.i s7.now) (-1) 1 (s7.r (.i s7.now)) = s7 := by
        unfold ts
        rw [if_pos (by decide)]
      rw [e7]
      have n1 : NR 0 ([], []) (chL (f4.1 - 1) ((S1.2, K1.2 + 1) :: C) ++ P.2.2) s7 k5 (f4 :: r0) := h5.ne.2.1.fr p6 (kFr.refl (F := 0) (A := 0)) rfl rfl rfl rfl id
      have n2 := n1.chn hC' (by show C.length + 1 ≤ _; omega) (by rw [p6.2.2.2.1 (Nat.zero_testBit _)]; omega) (k210_60 h5.1.2.1 h5.SZ) h5.k53
      have n3 := n2.fr (cFr.refl (F := 0) (T := 0) (B := 0) (G := 0)) p7 rfl rfl rfl rfl (fun z => (p7.1 8 rfl).symm.trans z)
      exact QC.ret ⟨a4 + 1, _, by omega, SE.to (SX.se (P := P) (p5.fr (fr_c137 s7 S1.2) (kFr.refl (F := 0) (A := 0))) n3), hq.trans u3⟩
    · rw [rbd_thn p1]
      exact QC.thn p3
  · show QC _ k4 (c134_87 rc s4 S1.2 (-1))
    unfold c134_87
    rw [rbd_thn (c64_no (fun z => u2 (Or.inr (Or.inr (Or.inr (Or.inl z))))))]
    exact QC.thn u1
def E134n (rc : cRC) : Prop := ∀ (s : cS) (y1 y2 y3 : Int32) (s' : cS) (o : Option Int32), ¬ FOL (c53 s) → rc 134013 s 0 y1 y2 y3 0 0 0 = some (s', o) → o = none
theorem if_no (h : ¬ FOL (c53 s)) {o : Option Int32} (e : c134_13 rc s y1 y2 y3 = some (s', o)) : o = none := by
  unfold c134_13 c134_54 c134_87 at e
  rw [if_pos (fun z => h (Or.inr (Or.inr (Or.inl z)))), if_pos (fun z => h (Or.inr (Or.inl z))), rbd_thn (c64_no (fun z => h (Or.inr (Or.inr (Or.inr (Or.inl z))))))] at e
  cases e
  rfl
theorem if_rnd {a0 : Nat} {f0 : xF} {r0 : List xF} {C : List (Int32 × Int32)} (hL : E134L rc L) (hn : E134n rc) (h128 : E128 rc L) (h135 : E135 rc L) (h : SG L (P.1, P.2.1, (f0.1 - 1, y2.toNatClampNeg, 1, j.toNatClampNeg, 0, 0) :: (chL (f0.1 - 1) C ++ P.2.2)) k0 t v w a s k X t v w) (hy2 : 0 ≤ y2.toInt) (hC : ∀ q ∈ C, 0 ≤ q.1.toInt) (hCl : (C.length : Int) ≤ y3.toInt) (hB : XB (f0 :: r0)) (hq : XQ (f0 :: r0) X) (ha : a0 < a) (hr : RO L a (t + 8) (v + 8)) (hy0 : 0 ≤ y3.toInt) (hy : y3.toInt ≤ a) : QC (SP L P k0 t v w a0 (f0 :: r0)) (k249_4 k j (hdC C).2).1 (c134_13 rc s (hdC C).1 y2 y3) := by
  have hle := h.le
  have ht : t + 8 ≤ 1000000 := by have := hr.1; omega
  have i13 := h.is (K := 13) (by decide) (by decide)
  have i14 := h.is (K := 14) (by decide) (by decide)
  have i15 := h.is (K := 15) (by decide) (by decide)
  unfold c134_13
  by_cases c14 : c53 s = 14
  · rw [if_neg (fun z => z c14), if_neg (by rw [i_lt]; have : (16384 : Int32).toInt = 16384 := rfl; omega)]
    unfold k249_4
    rw [i14.mp c14, if_pos (by decide), if_pos rfl]
    unfold k249_52 k249_61
    rw [if_neg (fun z => z rfl)]
    unfold k249_111
    obtain ⟨f, rfl, e1⟩ := hq.f1
    rw [← e1] at h
    obtain ⟨h2, h20⟩ := SGp.prt h hy2
    have c' : c53 (c136 s y2 (hdC C).1).1 = 14 := (c53_fr (fr_c136 s y2 (hdC C).1)).trans c14
    generalize (k189 k 36 (hdC C).2 0 0) = K1 at h2
    generalize (c136 s y2 (hdC C).1) = S1 at h2 c' h20
    have hC' := hC_cons (q := (S1.2, K1.2 + 1)) hC h20
    obtain ⟨q, s3, q1, q3, q4, q5⟩ := h2.skl c' lv14
    show QC _ (k186 (k179 (kf (kf (ka K1.1 71 j (k210 K1.1)) 4 (K1.1.1 4 + 1)) 5 (K1.1.1 5 - 1)) 7 (K1.2 + 1) 0 0).1 0).1 (c134_38 rc S1.1 y3 S1.2)
    have h3 : SG L (P.1, P.2.1, chL (f.1 - 1) ((S1.2, K1.2 + 1) :: C) ++ P.2.2) k0 t v w (a + 1) s3 (kf (kf (ka K1.1 71 j (k210 K1.1)) 4 (K1.1.1 4 + 1)) 5 (K1.1.1 5 - 1)) (f :: r0) t v w := q4
    generalize kf (kf (ka K1.1 71 j (k210 K1.1)) 4 (K1.1.1 4 + 1)) 5 (K1.1.1 5 - 1) = k3 at h3
    unfold c134_38
    refine (h135 k0 t v w (a + 1) S1.1 s3 q.2.1 k3 (f :: r0) t v w (K1.2 + 1) q3 h3 (hB.nxt hq).ne (Nat.le_refl _) (Nat.le_refl _) (Nat.le_refl _) ⟨by have := hr.1; omega, by have := hr.2; omega⟩).bnd ?_
    rintro s4 _ x4 ⟨a4, k4, j4, f4, r4, u1, ⟨u3, u4⟩, u2, rfl⟩
    cases u3
    show QC _ _ (c134_43 rc s4 S1.2 y3 x4)
    unfold c134_43
    refine (h128 0 0 0 a4 s4 k4 (f :: r0) t v w 8 j4 (K1.2 + 1) 0 (SE.of u2.own) (hB.nxt hq) (Or.inl ⟨rfl, rfl, rfl⟩) (by have := h.sz; omega) ⟨by have := hr.1; omega, by have := hr.2; omega⟩).bnd ?_
    rintro s5 k5 x5 (⟨a5, X5, w1, w2, w3, w4⟩ | ⟨w1, w2⟩)
    · refine QC.pop w4 (by omega) ?_
      rw [k180_g8]
      have h6 := (SE.of u2).reb w2 (Nat.le_refl _) (Nat.le_refl _) (Nat.le_refl _)
      have hle6 := h6.le
      have y31 : (y3 + 1).toInt = y3.toInt + 1 := i_add rfl (show (1 : Int32).toInt = 1 from rfl) (by omega) (by omega)
      rw [e1] at h6
      exact hL ((S1.2, K1.2 + 1) :: C) a0 k0 f0 r0 a5 s5 _ X5 t v w j4 (K1.2 + 1) S1.2 x4 (y3 + 1) (SE.to h6) ⟨u4, hC', by rw [y31, List.length_cons]; omega, rfl, rfl⟩ hB (hq.trans w3) (by omega) ⟨by have := hr.1; omega, by have := hr.2; omega⟩ (by omega) (by omega)
    · intro s6 o6 e6
      rw [hn s5 S1.2 x4 (y3 + 1) s6 o6 w2 e6]
      exact ⟨(fun x z => nomatch z), fun _ => ⟨0, w1⟩⟩
  · rw [if_pos c14]
    unfold c134_54
    by_cases c13 : c53 s = 13
    · rw [if_neg (fun z => z c13)]
      unfold k249_4
      rw [i13.mp c13, if_pos (by decide), if_neg (by decide), if_neg (fun z => z rfl)]
      exact if_els h128 h hy2 hC (by omega) hB hq ha hr c13
    · rw [if_pos c13]
      unfold c134_87
      by_cases c15 : c53 s = 15
      · unfold k249_4
        rw [if_neg (fun z => z (i15.mp c15))]
        rcases h.tkl lv15 with ⟨o, s7, k7, p1, p2, p3, p4, p5, p6, p7⟩ | ⟨p1, p2, p3⟩
        · rw [p3, rbd_th (w := o.2.1) rfl, p4]
          unfold k249_21
          exact QC.ret (if_fin p5 hy2 hC (by omega) hq (by omega))
        · rw [rbd_thn p1]
          refine QC.thn ?_
          unfold k249_21
          show (k250 (ka (k199 k 15).1 71 j (k210 (k199 k 15).1)) (hdC C).2).1.1 6 ≠ 0
          rw [(fr_k250 _ (hdC C).2).1 6 rfl]
          exact p3
      · rw [rbd_thn (c64_no c15)]
        refine QC.thn ?_
        unfold k249_4
        rw [if_pos (fun z => c15 (i15.mpr z)), if_neg (fun z => c14 (i14.mpr z)), if_pos (fun z => c13 (i13.mpr z))]
        exact (k194_f (by decide)).1
def E134 (rc : cRC) (L : List xR) : Prop := ∀ {P : PT} (a : Nat) (s : cS) (k : kS) (X : List xF) (t v w : Nat), SG L P k t v w a s k X t v w → XB X → RO L (a + 1) (t + 8) (v + 8) → c53 s = 20 → QC (SP L P k t v w a X) (k228 k 20).1 (rc 134 s 0 0 0 0 0 0 0)
theorem st_if (hL : E134L rc L) (hn : E134n rc) (h128 : E128 rc L) (h135 : E135 rc L) (h : SG L P k t v w a s k X t v w) (hB : XB X) (hr : RO L (a + 1) (t + 8) (v + 8)) (c : c53 s = 20) : QC (SP L P k t v w a X) (k228 k 20).1 (c134 rc s) := by
  have ht : t + 8 ≤ 1000000 := by have := hr.1; omega
  obtain ⟨f, r, b, bs, rfl, e2, e3, e4⟩ := hB
  have hB : XB (f :: r) := ⟨f, r, b, bs, rfl, e2, e3, e4⟩
  rw [k228_k20]
  unfold k228_336 c134
  obtain ⟨q, s1, q1, q2, q3, q4, q5⟩ := h.skp c pl20
  generalize kf k 4 (k.1 4 + 1) = k1 at q4
  refine (h135 k t v w (a + 1) s s1 q.2.1 k1 (f :: r) t v w 0 q3 q4 hB.ne (Nat.le_refl _) (Nat.le_refl _) (Nat.le_refl _) ⟨by have := hr.1; omega, by have := hr.2; omega⟩).bnd ?_
  rintro s4 _ x4 ⟨a4, k4, j4, f4, r4, u1, ⟨u3, u4⟩, u2, rfl⟩
  cases u3
  show QC _ _ (c134_6 rc s4 (-1) x4)
  unfold c134_6
  refine (h128 0 0 0 a4 s4 k4 (f :: r) t v w 8 j4 0 0 (SE.of u2.own) hB (Or.inl ⟨rfl, rfl, rfl⟩) (by have := h.sz; omega) ⟨by have := hr.1; omega, by have := hr.2; omega⟩).bnd ?_
  rintro s5 k5 x5 (⟨a5, X5, w1, w2, w3, w4⟩ | ⟨w1, w2⟩)
  · refine QC.pop w4 (by omega) ?_
    rw [k180_g8]
    have h6 := (SE.of u2).reb w2 (Nat.le_refl _) (Nat.le_refl _) (Nat.le_refl _)
    exact if_rnd (C := []) hL hn h128 h135 (SE.to h6) u4 (fun q hq => absurd hq List.not_mem_nil) (by decide) hB w3 (by omega) ⟨by have := hr.1; omega, by have := hr.2; omega⟩ (by decide) (Int.natCast_nonneg _)
  · intro s6 o6 e6
    rw [if_no w2 (show c134_13 rc s5 (-1) x4 0 = some (s6, o6) from e6)]
    exact ⟨(fun x z => nomatch z), fun _ => ⟨0, w1⟩⟩
end ST3
