/-! THE WALK OVER BOTH: binary operators -/
section RWB
variable {L : List xR} {a : Nat} {s s' : cS} {k k' : kS} {X : List xF} {t v w : Nat} {G : List gQ}
theorem op_pl {K : Int32} (h : c106 s K ≠ 0) : ∀ s1 : cS, c56 s1 K = 0 ∧ c57 s1 K = 0 := by
  have no : ∀ x : Int32, c106 s x = 0 → K ≠ x := fun x hx z => h (by rw [z]; exact hx)
  have n61 := no 61 (by unfold c106; decide)
  have n65 := no 65 (by unfold c106; decide)
  have n63 := no 63 (by unfold c106; decide)
  have n15 := no 15 (by unfold c106; decide)
  have n30 := no 30 (by unfold c106; decide)
  have n14 := no 14 (by unfold c106; decide)
  have n13 := no 13 (by unfold c106; decide)
  have n60 := no 60 (by unfold c106; decide)
  have n64 := no 64 (by unfold c106; decide)
  have n62 := no 62 (by unfold c106; decide)
  have n12 := no 12 (by unfold c106; decide)
  have n28 := no 28 (by unfold c106; decide)
  have n26 := no 26 (by unfold c106; decide)
  have n18 := no 18 (by unfold c106; decide)
  intro s1
  constructor
  · unfold c56
    rw [if_neg n61, if_neg n65, if_neg n63, if_neg n15, if_neg n30, if_neg n14, if_pos n13]
  · unfold c57
    rw [if_neg n60, if_neg n64, if_neg n62, if_neg n12, if_neg n28, if_neg n13, if_neg n26, if_pos n18]
/-- the binary operators are the same, and plain words -/
theorem op_kd (h : WR L a s k) : (c106 s (c53 s) = 0 ∧ k203 k (k183 k) = 0) ∨ (c106 s (c53 s) ≠ 0 ∧ 0 < k203 k (k183 k) ∧ ∃ q, L[a]? = some q ∧ c53 s = q.1 ∧ ∀ s1 : cS, c56 s1 q.1 = 0 ∧ c57 s1 q.1 = 0) := by
  rcases h.kd with ⟨q, q1, q2, q3, -⟩ | ⟨-, q2, q3⟩
  · rw [q2, q3]
    rcases rank_iff (s := s) (k := k) (K := q.1) with z | ⟨z1, z2⟩
    · exact Or.inl z
    · exact Or.inr ⟨z1, z2, q, q1, rfl, op_pl z1⟩
  · rw [q2, q3]
    exact Or.inl ⟨by unfold c106; decide, by unfold k203; decide⟩
theorem rk_n11 : ∀ K ∈ KLs, c106 (default : cS) K ≠ 11 := by decide +kernel
theorem rk_24 : (24 : Int32) ∉ KLs := by decide +kernel
theorem rk_lt0 {lim rank : Int32} (h : RKr lim rank) : ¬ rank < 0 := by
  have := h.1
  rw [i_le] at this
  rw [i_lt]
  omega
/-- what the class does with an operator that it takes away -/
def opC (s : cS) (w : xR) : cS := if w.2.1 = 10 ∨ w.2.1 = 25 then (c109 s s.now w.2.2.2 1).1 else if w.2.1 = 24 then (c78 s 17 0 0 w.2.2.1).1 else if w.1 = 11 then (c78 s 18 w.2.1 0 w.2.2.1).1 else (c78 s 19 w.2.1 0 w.2.2.1).1
theorem opC_fr (w : xR) : cFr 0 0 0 20 s (opC s w) := by
  unfold opC
  split
  · exact (fr_c109 _ _ _ _).mono rfl rfl rfl rfl
  · split
    · exact fr_c78 _ _ _ _ _
    · split
      · exact fr_c78 _ _ _ _ _
      · exact fr_c78 _ _ _ _ _
/-- the class leads a jump to where the reference has led it -/
theorem RWp.cld {H : List hE} {f : xF} {r : List xF} {i g : Nat} {vc iv : Int32} (h : RWp none (D0 ((f.1 - 1, i, 1, g, vc, k210 k) :: H)) L a s k (f :: r)) (hi : iv.toInt = i) : RWp none (D0 H) L a (c109 s s.now iv 1).1 k (f :: r) := by
  have fc := fr_c109 s s.now iv 1
  obtain ⟨o1, o2, o3, o4⟩ := own_k h.2.1 h.szn
  refine h.fro fc (kFr.refl (F := 0) (A := 0)) rfl rfl rfl rfl rfl rfl (h.2.2.2.2.2.1.fr (fc.ou rfl) (kFr.refl (F := 0) (A := 0)) rfl rfl rfl (Or.inl rfl)) ?_
  obtain ⟨R, r1, r2⟩ := h.2.2.2.2.2.2.2
  have r1 : R = [] := r1
  subst r1
  refine ⟨[], rfl, ?_⟩
  have e1 : s.now = f.1 - 1 + 1 := by omega
  have e2 : k210 k = k.2 60 (f.1 - 1) := by
    unfold k210
    rw [o1]
    show k.2 60 (xn (f.1 - 1)).toNatClampNeg = _
    rw [xn_nat (by omega)]
  show NR 0 ([], []) H (ts s (.i s.now) iv 1 (s.r (.i s.now))) k (f :: r)
  rw [e1]
  exact NR.cld r2 hi (fun _ => own_5 h.2.1 rfl h.k53) (fun _ => e2)
theorem RWp.d00 {n : Nat} {d1 d2 : List xR} {H : List hE} (h : RWp (some (n, true)) (d1, d2, H) L a s k X) (h16 : k.2 16 n = 0) (e : d1 = d2) (hwm : wfl d1 := by first | exact wfl_0 | exact wfl_1 rfl | exact wfl_2 rfl rfl | exact wfl_3 rfl rfl rfl) : RWp (some (n, true)) (D0 H) L a s k X := ((h.str (Or.inl h16)).de0 e hwm).los (Or.inl h16)
/-- both take an operator away -/
theorem red_1 {H : List hE} {q : gQ} {w : xR} {Q : List xR} {f : xF} {r : List xF} (he : ES t v (q :: G) k) (hl : ¬ q.1 < k203 k (k183 k)) (ht : t + 2 * G.length + 2 ≤ 1000000) (hv : v + n25 (q :: G) ≤ 1000000) (ho : OPe q w) (h : RWp (some (v + n25 (q :: G), true)) (D0 (hO (f.1 - 1) (q :: G) (w :: Q) ++ H)) L a s k (f :: r)) : RWp (some (v + n25 G, true)) (D0 (hO (f.1 - 1) G Q ++ H)) L a (opC s w) (kit 2 k) (f :: r) := by
  obtain ⟨-, -, -, p5, pA, pB⟩ := es_pop he hl ht hv
  rcases ho with ⟨c, hw, h0⟩ | ⟨hw, w1, w2, hc⟩
  · have e : hO (f.1 - 1) (q :: G) (w :: Q) = (f.1 - 1, w.2.2.2.toNatClampNeg, 1, q.2.2.1.toNatClampNeg, 0, 0) :: hO (f.1 - 1) G Q := if_pos c
    rw [e] at h
    have h1 := (pB _ _ _ _ _ L a s _ c h).str (Or.inl p5)
    have eo : opC s w = (c109 s s.now w.2.2.2 1).1 := by unfold opC; rw [if_pos hw]
    rw [eo]
    exact (h1.cld (nat_xn h0)).los (Or.inl p5)
  · have c26 : q.2.1 ≠ 26 := by rcases hc with ⟨z, -⟩ | ⟨z, -⟩ <;> rw [z] <;> decide
    have e : hO (f.1 - 1) (q :: G) (w :: Q) = hO (f.1 - 1) G Q := if_neg c26
    rw [e] at h
    have h1 := pA _ L a s _ c26 h
    unfold opC
    rw [if_neg hw]
    rcases hc with ⟨z, z2, z3⟩ | ⟨z, z2⟩
    · rw [if_neg z2, if_neg z3]
      refine (h1.cle (x := 19) (y := w.2.1) (z := 0) (u := w.2.2.1)).d00 p5 ?_
      unfold kpR
      rw [if_pos z, w1, w2]
      rfl
    · by_cases c24 : w.2.1 = 24
      · rw [if_pos c24]
        refine (h1.cle (x := 17) (y := 0) (z := 0) (u := w.2.2.1)).d00 p5 ?_
        unfold kpR
        rw [if_neg (by rw [z]; decide), if_pos z, ← w1, if_pos c24, if_pos c24, w2]
        rfl
      · rw [if_neg c24, if_pos z2]
        refine (h1.cle (x := 18) (y := w.2.1) (z := 0) (u := w.2.2.1)).d00 p5 ?_
        unfold kpR
        rw [if_neg (by rw [z]; decide), if_pos z, ← w1, if_neg c24, if_neg c24, w2]
        rfl
theorem ar_dec {v : Int32} {n : Nat} (h : v.toInt = (n : Nat)) (hn : n ≤ 1000000) : (v + (-1)).toInt + 1 = (n : Nat) := by
  have := i_add (x := v) (y := -1) rfl (show (-1 : Int32).toInt = -1 from rfl) (by omega) (by omega)
  omega
theorem ar_t {t g : Nat} (h : t + 2 * (g + 1) + 2 ≤ 1000000) : t + 2 * g + 2 ≤ 1000000 := by omega
/-- both take away the operators that bind at least so strongly -/
theorem es_red {H : List hE} {P : List xR} {y2 : Int32} {f : xF} {r : List xF} : ∀ (G : List gQ) (Q : List xR) (k : kS) (s : cS) (vv : Int32), ES t v G k → OPq G Q → TR s (.s 8) (P ++ Q.reverse) → (P ++ Q.reverse).length ≤ 1000000 → vv.toInt + 1 = (P.length + Q.length : Nat) → t + 2 * G.length + 2 ≤ 1000000 → v + n25 G ≤ 1000000 → (∀ (q : gQ) (w : xR), RKr q.1 w.1 → 0 ≤ q.1 → (w.1 < y2 ↔ q.1 < k203 k (k183 k))) → RWp (some (v + n25 G, true)) (D0 (hO (f.1 - 1) G Q ++ H)) L a s k (f :: r) → ∃ j m G' Q' s' v', (ES t v G' (kit j k) ∧ G'.length ≤ G.length ∧ n25 G' ≤ n25 G ∧ QF k (kit j k) ∧ (∀ T w, KB T v w k (kit j k)) ∧ (∀ q G3, G' = q :: G3 → q.1 < k203 k (k183 k))) ∧ (kwh (c108b10 (xn P.length) y2) m (s, vv) = (1, (s', v')) ∧ TR s' (.s 8) (P ++ Q'.reverse) ∧ OPq G' Q' ∧ Q'.length ≤ Q.length) ∧ RWp (some (v + n25 G', true)) (D0 (hO (f.1 - 1) G' Q' ++ H)) L a s' (kit j k) (f :: r) ∧ ((G' = G ∧ j = 0 ∧ s' = s) ∨ (G ≠ [] ∧ (kit j k).2 16 (v + n25 G') = 0)) := by
  intro G
  induction G with
  | nil =>
    intro Q k s vv he ho hT hz hv ht hn hM h
    cases Q with
    | cons w Q => exact ho.elim
    | nil =>
      have hz' : P.length ≤ 1000000 := by rw [List.length_append] at hz; omega
      have hv' : vv.toInt + 1 = P.length := hv
      have e : c108b10 (xn P.length) y2 (s, vv) = (1, (s, vv)) := by
        unfold c108b10
        rw [if_pos (by show vv < xn P.length; rw [i_lt, xn_i (by omega)]; omega)]
      exact ⟨0, 1, [], [], s, vv, ⟨he, Nat.le_refl _, Nat.le_refl _, kFr.refl, fun T w => KB.refl, fun q G3 z => nomatch z⟩, ⟨by rw [kwh_out (by rw [e]; exact Nat.succ_ne_zero _), e], hT, ho, Nat.le_refl _⟩, h, Or.inl ⟨rfl, rfl, rfl⟩⟩
  | cons q G ih =>
    intro Q k s vv he ho hT hz hv ht hn hM h
    cases Q with
    | nil => exact ho.elim
    | cons w Q =>
      obtain ⟨o1, o2, o3⟩ := ho
      have lr : (P ++ (w :: Q).reverse).length = P.length + Q.length + 1 := by
        rw [List.length_append, List.length_reverse]
        rfl
      have er : P ++ (w :: Q).reverse = (P ++ Q.reverse) ++ [w] := by rw [List.reverse_cons, List.append_assoc]
      have lq : (P ++ Q.reverse).length = P.length + Q.length := by rw [List.length_append, List.length_reverse]
      have hv' : vv.toInt = (P.length + Q.length : Nat) := by
        have e1 : (w :: Q).length = Q.length + 1 := rfl
        omega
      have gw : (P ++ (w :: Q).reverse)[P.length + Q.length]? = some w := by
        rw [er, ← lq, List.getElem?_append_right (Nat.le_refl _), Nat.sub_self]
        rfl
      have g0 : tg s (.s 8) vv 0 = w.1 := hT.g0 hv' gw
      have g1 : tg s (.s 8) vv 1 = w.2.1 := hT.g1 hv' gw
      have g2 : tg s (.s 8) vv 2 = w.2.2.1 := hT.g2 hv' gw
      have g3 : tg s (.s 8) vv 3 = w.2.2.2 := hT.g3 hv' gw
      have nlt : ¬ vv < xn P.length := by rw [i_lt, xn_i (by omega), hv']; omega
      have hL : (q :: G).length = G.length + 1 := rfl
      have hm := hM q w o1 he.1.2.2.1
      by_cases c1 : w.1 < y2
      · have e : c108b10 (xn P.length) y2 (s, vv) = (1, (s, vv)) := by
          unfold c108b10
          dsimp only
          rw [if_neg nlt, g0, if_pos c1]
        exact ⟨0, 1, q :: G, w :: Q, s, vv, ⟨he, Nat.le_refl _, Nat.le_refl _, kFr.refl, fun T w => KB.refl, fun q' G3 z => by cases z; exact hm.mp c1⟩, ⟨by rw [kwh_out (by rw [e]; exact Nat.succ_ne_zero _), e], hT, ⟨o1, o2, o3⟩, Nat.le_refl _⟩, h, Or.inl ⟨rfl, rfl, rfl⟩⟩
      · have hq : ¬ q.1 < k203 k (k183 k) := fun z => c1 (hm.mpr z)
        have hn25 : n25 G ≤ n25 (q :: G) := Nat.le_add_right _ _
        have b1 : (P ++ Q.reverse).length ≤ 1000000 := by
          rw [lq]
          rw [lr] at hz
          exact Nat.le_of_succ_le hz
        have b2 : (vv + (-1)).toInt + 1 = (P.length + Q.length : Nat) := ar_dec hv' (Nat.le_trans (Nat.le_of_eq lq.symm) b1)
        have b3 : t + 2 * G.length + 2 ≤ 1000000 := ar_t ht
        have b4 : v + n25 G ≤ 1000000 := Nat.le_trans (Nat.add_le_add_left hn25 v) hn
        have b5 : P.length + Q.length ≤ (P ++ (w :: Q).reverse).length := by
          rw [lr]
          exact Nat.le_succ _
        have e1 : (w :: Q).length = Q.length + 1 := rfl
        have step : c108b10 (xn P.length) y2 (s, vv) = (0, (tct (opC s w) (.s 8) vv, vv + (-1))) := by
          by_cases c2 : w.2.1 = 10
          · have eo : opC s w = (c109 s s.now w.2.2.2 1).1 := by unfold opC; rw [if_pos (Or.inl c2)]
            rw [eo]
            unfold c108b10
            dsimp only
            rw [if_neg nlt, g0, if_neg c1, g1, g3, if_pos c2]
          · by_cases c3 : w.2.1 = 25
            · have eo : opC s w = (c109 s s.now w.2.2.2 1).1 := by unfold opC; rw [if_pos (Or.inr c3)]
              rw [eo]
              unfold c108b10
              dsimp only
              rw [if_neg nlt, g0, if_neg c1, g1, g3, if_neg c2, if_neg (show ¬ w.2.1 ≠ 25 from fun z => z c3)]
            · have no : ¬ (w.2.1 = 10 ∨ w.2.1 = 25) := fun z => z.elim c2 c3
              by_cases c4 : w.2.1 = 24
              · have eo : opC s w = (c78 s 17 0 0 w.2.2.1).1 := by unfold opC; rw [if_neg no, if_pos c4]
                rw [eo]
                unfold c108b10
                dsimp only
                rw [if_neg nlt, g0, if_neg c1, g1, g2, if_neg c2, if_pos c3, if_neg (show ¬ w.2.1 ≠ 24 from fun z => z c4)]
              · by_cases c5 : w.1 = 11
                · have eo : opC s w = (c78 s 18 w.2.1 0 w.2.2.1).1 := by unfold opC; rw [if_neg no, if_neg c4, if_pos c5]
                  rw [eo]
                  unfold c108b10
                  dsimp only
                  rw [if_neg nlt, g0, if_neg c1, g1, g2, if_neg c2, if_pos c3, if_pos c4, if_neg (show ¬ w.1 ≠ 11 from fun z => z c5)]
                · have eo : opC s w = (c78 s 19 w.2.1 0 w.2.2.1).1 := by unfold opC; rw [if_neg no, if_neg c4, if_neg c5]
                  rw [eo]
                  unfold c108b10
                  dsimp only
                  rw [if_neg nlt, g0, if_neg c1, g1, g2, if_neg c2, if_pos c3, if_pos c4, if_pos c5]
        obtain ⟨p1, p2, p3, p5, -, -⟩ := es_pop he hq b3 hn
        have h1 := red_1 he hq b3 hn o2 h
        have t1 : TR (opC s w) (.s 8) (P ++ (w :: Q).reverse) := hT.fr (opC_fr w) (Nat.zero_testBit _)
        have t2 : TR (tct (opC s w) (.s 8) vv) (.s 8) (P ++ Q.reverse) := by
          have z := t1.cut (n := vv) (k := P.length + Q.length) hv' b5
          rw [er, ← lq, List.take_left] at z
          exact z
        have ft : cFr 0 256 0 0 (opC s w) (tct (opC s w) (.s 8) vv) := cFr.refl.tcts rfl
        have h2 := h1.fr ft (kFr.refl (F := 0) (A := 0))
        obtain ⟨j, m, G', Q', s', v', ⟨r1, r2, r3, r4, r5, r6⟩, ⟨r7, r8, r9, r10⟩, r11, r12⟩ := ih Q (kit 2 k) (tct (opC s w) (.s 8) vv) (vv + (-1)) p1 o3 t2 b1 b2 b3 b4 (fun q' w' z1 z2 => by rw [k183_q p2]; exact hM q' w' z1 z2) h2
        refine ⟨2 + j, m + 1, G', Q', s', v', ?_⟩
        rw [kit_add]
        refine ⟨⟨r1, Nat.le_trans r2 (Nat.le_succ _), Nat.le_trans r3 hn25, kFr.trans p2 r4, fun T w => (p3 T w).trans (r5 T w), fun q' G3 z => by have := r6 q' G3 z; rw [k183_q p2] at this; exact this⟩, ⟨by rw [kwh_go (by rw [step]), step]; exact r7, r8, r9, Nat.le_trans r10 (Nat.le_succ _)⟩, r11, Or.inr ⟨fun z => (nomatch z), ?_⟩⟩
        rcases r12 with ⟨z1, z2, -⟩ | z
        · rw [z2, z1]
          exact p5
        · exact z.2
/-- the same, as the class's function -/
theorem RWp.red {P : PT} {Q : List xR} {y1 y2 : Int32} {f : xF} {r : List xF} (h : RWp (some (v + n25 G, true)) (D0 (hO (f.1 - 1) G Q ++ P.2.2)) L a s k (f :: r)) (he : ES t v G k) (hO1 : OT P Q G a s) (hy : y1 = xn P.1.length) (ht : t + 2 * G.length + 2 ≤ 1000000) (hv : v + n25 G ≤ 1000000) (hM : ∀ (q : gQ) (w : xR), RKr q.1 w.1 → 0 ≤ q.1 → (w.1 < y2 ↔ q.1 < k203 k (k183 k))) : ∃ j G' Q', (ES t v G' (kit j k) ∧ G'.length ≤ G.length ∧ n25 G' ≤ n25 G ∧ QF k (kit j k) ∧ (∀ T w, KB T v w k (kit j k)) ∧ (∀ q G3, G' = q :: G3 → q.1 < k203 k (k183 k))) ∧ OT P Q' G' a (c108 s y1 y2).1 ∧ RWp (some (v + n25 G', true)) (D0 (hO (f.1 - 1) G' Q' ++ P.2.2)) L a (c108 s y1 y2).1 (kit j k) (f :: r) ∧ ((G' = G ∧ j = 0 ∧ (c108 s y1 y2).1 = s) ∨ (G ≠ [] ∧ (kit j k).2 16 (v + n25 G') = 0)) := by
  obtain ⟨t1, t2, t3, t4, t5, t6⟩ := hO1
  have lq : (P.1 ++ Q.reverse).length = P.1.length + Q.length := by rw [List.length_append, List.length_reverse]
  have er : s.r (.s 8) = xn (P.1.length + Q.length) := xn_eq (by rw [t1.1, lq]) (by omega)
  have ev : (s.r (.s 8) - 1).toInt + 1 = (P.1.length + Q.length : Nat) := by
    rw [er, i_sub (xn_i (by omega)) (show (1 : Int32).toInt = 1 from rfl) (by omega) (by omega)]
    omega
  obtain ⟨j, m, G', Q', s', v', r1, ⟨r7, r8, r9, r10⟩, r11, r12⟩ := es_red (H := P.2.2) (P := P.1) (y2 := y2) G Q k s (s.r (.s 8) - 1) he t2 t1 (by omega) ev ht hv hM h
  have ek : (c108 s y1 y2).1 = s' := by
    unfold c108
    rw [hy, kfin_of ⟨m, r7⟩ (Nat.succ_ne_zero 0)]
  have f10 := (fr_c108 s y1 y2).2.1 10 rfl
  rw [ek] at f10
  rw [ek]
  exact ⟨j, G', Q', r1, ⟨r8, r9, by omega, t4, t5.same f10.1 f10.2, t6⟩, r11, r12⟩
/-- a jump that both have written waits -/
theorem RWp.hol {H : List hE} {r0 r0' : xR} {f : xF} {r : List xF} {i j g : Nat} (h : RWp none ([r0], [r0'], H) L a s k (f :: r)) (hc : (s.r (.i f.1)).toInt = i + 1 ∨ 1048576 ≤ (s.r (.i f.1)).toInt) (hk : JG g (f.1 - 1) k) (hj : j = 1 ∨ j = 2) (ho : r0.1 = r0'.1) (hw : r0.2.2.2 = r0'.2.2.2) (ha : j ≠ 1 → r0.2.1 = r0'.2.1) (hb : j ≠ 2 → r0.2.2.1 = r0'.2.2.1) (hjm : jmp r0.1) (hwr : wfo r0.1 = true ∨ (j = 2 ∧ wfa r0) := by exact Or.inl rfl) : RWp none (D0 ((f.1 - 1, i, j, g, xg r0 j, xg r0' j) :: H)) L a s k (f :: r) := by
  obtain ⟨o1, o2, o3, o4⟩ := own_k h.2.1 h.szn
  refine ⟨h.1, h.2.1, h.2.2.1, h.2.2.2.1, h.2.2.2.2.1, h.2.2.2.2.2.1, h.2.2.2.2.2.2.1, ?_⟩
  obtain ⟨R, r1, r2⟩ := h.2.2.2.2.2.2.2
  have r1 : R = [] := r1
  subst r1
  refine ⟨[], rfl, ?_⟩
  have e1 : f.1 - 1 + 1 = f.1 := by omega
  exact NR.hol r2 (by omega) (by rw [e1]; exact hc) hk hj ho hw ha hb hjm (own_5 h.2.1 rfl h.k53) hwr
/-- no operator: the class goes on as it stands -/
theorem op_no {y : Int32} (hc : c106 s (c53 s) = 0) : c105 s y = (s, some 0) := by unfold c105; rw [if_neg (fun z => z hc)]
/-- an operator: both read it, and a value is due -/
theorem op_yes {y : Int32} {P : PT} {Q : List xR} {f : xF} {r : List xF} (h : RWp (some (v + n25 G, true)) (D0 (hO (f.1 - 1) G Q ++ P.2.2)) L a s k (f :: r)) (he : ES t v G k) (hO1 : OT P Q G a s) (hy : y = xn P.1.length) (hc : c106 s (c53 s) ≠ 0) (ht : t + 2 * G.length + 6 ≤ 1000000) (hv : v + n25 G ≤ 1000000) : ∃ s1, c105 s y = (s1, some 1) ∧ a < L.length ∧ ∃ j G' Q', RW (hO (f.1 - 1) G' Q' ++ P.2.2) L (a + 1) s1 (kit j k) (f :: r) ∧ PB t v G' (kit j k) ∧ OT P Q' G' (a + 1) s1 ∧ G'.length ≤ G.length + 1 ∧ n25 G' ≤ n25 G + 1 ∧ (kit j k).1 20 = k.1 20 ∧ ∀ w, KB t v w k (kit j k) := by
  rcases op_kd h.1 with ⟨z1, -⟩ | ⟨-, z2, q, q1, q2, q3⟩
  · exact absurd z1 hc
  · have hal : a < L.length := (List.getElem?_eq_some_iff.mp q1).1
    have h16 : L.length ≤ 16384 := h.1.1.2.1
    have kd : k183 k = c53 s := (kd_1 h.1 q1).trans q2.symm
    obtain ⟨j, G', Q2, ⟨r1, r2, r3, r4, r5, r9⟩, hO2, e5, -⟩ := h.red (y2 := thr s (c53 s)) he hO1 hy (by omega) hv (fun q w z1 _ => by rw [kd]; exact z1.2 s k (c53 s) hc)
    have ek3 : k183 (kit j k) = k183 k := k183_q r4
    have r6 : (kit j k).2 12 (t + 2 * G'.length) < k203 (kit j k) (k183 (kit j k)) := by
      rw [ek3]
      cases G' with
      | nil =>
        rw [show t + 2 * ([] : List gQ).length = t from rfl, r1.1.2]
        exact z2
      | cons q G3 =>
        rw [show t + 2 * (q :: G3).length = t + 2 * G3.length + 2 from by show t + 2 * (G3.length + 1) = _; omega, r1.1.2.1]
        exact r9 q G3 rfl
    obtain ⟨p, u1, u2, u3, u4, u5, ⟨u6, u7⟩, k0, w1, w2, w3, w4⟩ := pb_op r1 r6 (by omega) (by omega)
    rw [ek3, kd] at u6 u7 w4
    have hk : kFr 38078691454154941957136 18586247575766980196352 k (kst (kit j k)) := (kFr.mono r4 rfl rfl).trans u5
    have ec : c105 s y = c105_38 (c108 s y (thr s (c53 s))).1 (c53 s) (c106 s (c53 s)) := by
      unfold c105 thr
      rw [if_pos hc]
      by_cases c7 : c107 s (c53 s) = 0
      · rw [if_pos c7, if_pos c7]
        rfl
      · rw [if_neg c7, if_neg c7]
        rfl
    rw [ec]
    have k4e : (kit j k).1 4 = k.1 4 := r4.1 4 rfl
    have c63e : c63 (c108 s y (thr s (c53 s))).1 = k.1 4 := by
      have e : (c108 s y (thr s (c53 s))).1.f 2 2 = s.f 2 2 := (fr_c108 s y (thr s (c53 s))).1 2 2 (by decide) rfl
      exact e.trans h.1.w63
    generalize (c108 s y (thr s (c53 s))).1 = sc at e5 hO2 c63e
    -- what it puts there
    have fin : ∀ (s3 : cS) (jx : Int32), RWp (some (v + n25 G', true)) (kpO (c53 s), [], hO (f.1 - 1) G' Q2 ++ P.2.2) L a s3 (kit j k) (f :: r) → OT P Q2 G' a s3 → c63 s3 = k.1 4 → ((c53 s = 10 ∨ c53 s = 25) → 0 ≤ jx.toInt ∧ ((s3.r (.i f.1)).toInt = (jx.toNatClampNeg : Nat) + 1 ∨ 1048576 ≤ (s3.r (.i f.1)).toInt)) → ∃ s1, c105_78 s3 (c53 s) (c106 s (c53 s)) jx = (s1, some 1) ∧ a < L.length ∧ ∃ j G' Q', RW (hO (f.1 - 1) G' Q' ++ P.2.2) L (a + 1) s1 (kit j k) (f :: r) ∧ PB t v G' (kit j k) ∧ OT P Q' G' (a + 1) s1 ∧ G'.length ≤ G.length + 1 ∧ n25 G' ≤ n25 G + 1 ∧ (kit j k).1 20 = k.1 20 ∧ ∀ w, KB t v w k (kit j k) := fun s3 jx g1 g2 g63 gj => by
      have f8 : cFr 0 256 0 0 s3 (tad s3 (.s 8) (c106 s (c53 s)) (c53 s) (c63 s3) jx).1 := cFr.refl.tads rfl
      have g3 := g1.fr f8 (kFr.refl (F := 0) (A := 0))
      obtain ⟨p1, p0⟩ := g3.pl q1 (q3 _).1 (q3 _).2 (cFr.refl (F := 0) (T := 0) (B := 0) (G := 0)) w1 w2
      obtain ⟨p2, p3⟩ := w4 _ L (a + 1) _ (f :: r) (p0.lod w3 (by omega))
      have ek : kit (j + 1) k = kst (kit j k) := kit_add (i := j) (j := 1)
      have hL : (p :: G').length = G'.length + 1 := rfl
      have hOp : OPe p (c106 s (c53 s), c53 s, c63 s3, jx) := by
        rcases u7 with ⟨y1, y2⟩ | ⟨y1, y2, y3, y4⟩
        · exact Or.inl ⟨y1, y2, (gj y2).1⟩
        · refine Or.inr ⟨y2, y3.symm, ?_, Or.inl ⟨y1, fun z => ?_, fun z => ?_⟩⟩
          · show c63 s3 = p.2.2.2
            rw [y4, g63, k4e]
          · have z' : c53 s = 24 := z
            have := op_mem hc
            rw [z'] at this
            exact rk_24 this
          · exact rk_n11 _ (op_mem hc) z
      have hfin : RW (hO (f.1 - 1) (p :: G') ((c106 s (c53 s), c53 s, c63 s3, jx) :: Q2) ++ P.2.2) L (a + 1) (nf (tad s3 (.s 8) (c106 s (c53 s)) (c53 s) (c63 s3) jx).1 2 2 (xn (a + 1))) (kst (kit j k)) (f :: r) := by
        rcases u7 with ⟨y1, y2⟩ | ⟨y1, y2, y3, y4⟩
        · have e : hO (f.1 - 1) (p :: G') ((c106 s (c53 s), c53 s, c63 s3, jx) :: Q2) = (f.1 - 1, jx.toNatClampNeg, 1, p.2.2.1.toNatClampNeg, 0, 0) :: hO (f.1 - 1) G' Q2 := if_pos y1
          rw [e]
          have r0 : ∃ z, kpO (c53 s) = [(z, 0, 0, 0)] ∧ jmp z ∧ wfo z = true := by
            unfold kpO
            rcases y2 with z | z
            · rw [if_pos z]
              exact ⟨15, rfl, by unfold jmp; decide, rfl⟩
            · rw [z, if_neg (by decide), if_pos rfl]
              exact ⟨16, rfl, by unfold jmp; decide, rfl⟩
          obtain ⟨z, r1, r2⟩ := r0
          rw [r1] at p2
          exact RWp.hol (r0 := (z, 0, 0, 0)) (r0' := (z, 0, 0, 0)) p2 (by rw [show ((nf (tad s3 (.s 8) (c106 s (c53 s)) (c53 s) (c63 s3) jx).1 2 2 (xn (a + 1))).r (.i f.1)) = s3.r (.i f.1) from f8.2.2.2.2.2.2.1 (Nat.zero_testBit _) f.1]; exact (gj y2).2) (p3 f r rfl y1) (Or.inl rfl) rfl rfl (fun _ => rfl) (fun _ => rfl) r2.1 (Or.inl r2.2)
        · have e : hO (f.1 - 1) (p :: G') ((c106 s (c53 s), c53 s, c63 s3, jx) :: Q2) = hO (f.1 - 1) G' Q2 := if_neg (by rw [y1]; decide)
          rw [e]
          have e0 : kpO (c53 s) = [] := by unfold kpO; rw [if_neg (fun z => y2 (Or.inl z)), if_neg (fun z => y2 (Or.inr z))]
          rw [e0] at p2
          exact p2
      refine ⟨nf (tad s3 (.s 8) (c106 s (c53 s)) (c53 s) (c63 s3) jx).1 2 2 (xn (a + 1)), ?_, hal, j + 1, p :: G', (c106 s (c53 s), c53 s, c63 s3, jx) :: Q2, ?_⟩
      · unfold c105_78 c105_96
        rw [cbd_some (w := q.2.1) (by rw [p1]), p1]
      · rw [ek]
        refine ⟨hfin, u1, g2.psh (by rw [u6]; exact rk_op hc) hOp (by omega), by omega, by omega, hk.1 20 rfl, fun w => (r5 t w).trans (u4 w)⟩
    obtain ⟨o1, o2, o3, o4⟩ := own_k e5.2.1 e5.szn
    have nn : ∀ x, 0 ≤ (sc.r (.i x)).toInt := by
      obtain ⟨R, -, r2⟩ := e5.2.2.2.2.2.2.2
      exact r2.1
    unfold c105_38
    by_cases c1 : c53 s = 10
    · rw [if_neg (fun z => z c1)]
      have e1 : kpO (c53 s) = [] ++ [(15, 0, 0, 0)] := by unfold kpO; rw [if_pos c1]; rfl
      have fc := fr_c78 sc 15 0 0 0
      have ej : (c78 sc 15 0 0 0).2 = sc.r (.i f.1) := by rw [← o2]; show (tad sc (.i sc.now) 15 0 0 0).2 = _; unfold tad; split <;> rfl
      refine fin _ _ (by rw [e1]; exact e5.cle) (hO2.fr (TS.of fc rfl) (Nat.le_refl _) hO2.2.2.2.1) ((fc.1 2 2 (by decide) (Nat.zero_testBit _)).trans c63e) (fun _ => ?_)
      rw [ej]
      exact ⟨nn _, c78_i nn o2⟩
    · rw [if_pos c1]
      by_cases c2 : c53 s = 25
      · rw [if_neg (fun z => z c2)]
        have e1 : kpO (c53 s) = [] ++ [(16, 0, 0, 0)] := by unfold kpO; rw [if_neg c1, if_pos c2]; rfl
        have fc := fr_c78 sc 16 0 0 0
        have ej : (c78 sc 16 0 0 0).2 = sc.r (.i f.1) := by rw [← o2]; show (tad sc (.i sc.now) 16 0 0 0).2 = _; unfold tad; split <;> rfl
        refine fin _ _ (by rw [e1]; exact e5.cle) (hO2.fr (TS.of fc rfl) (Nat.le_refl _) hO2.2.2.2.1) ((fc.1 2 2 (by decide) (Nat.zero_testBit _)).trans c63e) (fun _ => ?_)
        rw [ej]
        exact ⟨nn _, c78_i nn o2⟩
      · rw [if_pos c2]
        have e0 : kpO (c53 s) = [] := by unfold kpO; rw [if_neg c1, if_neg c2]
        exact fin _ _ (by rw [e0]; exact e5) hO2 c63e (fun z => absurd z (fun z => z.elim c1 c2))
end RWB
