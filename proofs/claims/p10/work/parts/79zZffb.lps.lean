/-! JUMPS THAT WAIT: loops are opened and closed -/
theorem nd_le : ∀ (n : Nat) (l : List Nat), l.Nodup → (∀ g ∈ l, g < n) → l.length ≤ n := by
  intro n
  induction n with
  | zero =>
    intro l _ h
    cases l with
    | nil => exact Nat.le_refl _
    | cons a l => exact absurd (h a List.mem_cons_self) (Nat.not_lt_zero _)
  | succ n ih =>
    intro l hn h
    by_cases c : n ∈ l
    · have q := ih (l.erase n) (hn.erase n) (fun g hg => by
        have z := (hn.mem_erase_iff).mp hg
        have := h g z.2
        have := z.1
        omega)
      rw [List.length_erase_of_mem c] at q
      omega
    · have q := ih l hn (fun g hg => by
        have := h g hg
        have : g ≠ n := fun e => c (e ▸ hg)
        omega)
      omega
theorem r_eq {v : Int32} {n : Nat} (h : v.toInt = (n : Nat)) : v = xn n := by
  rw [← Int32.ofInt_toInt v, h]
  rfl
section LPS
variable {D : Df} {H : List hE} {s s' : cS} {k k' : kS} {X : List xF} {x : Nat}
theorem RWS.gs (h : RWS D H s k) (z : k.1 8 = 0) (h6 : (k.1 68).toInt < 65536) (hf : FL s k) (h53 : (k.1 53).toInt ≤ 1000000) : H.length ≤ 65536 := by
  obtain ⟨n, n1, n2, n3⟩ := h.2 z
  have n4 : n < 65536 := by rw [n1, xn_i (by omega)] at h6; omega
  have hG := n3 n4 hf
  have gi : ∀ e ∈ H, (gx (k.2 69) e.1 n)[e.2.1]? = some e.2.2.2.1 := fun e he => by
    obtain ⟨-, U, V, -, -, -, u4, -⟩ := hG.2 e.1 (hG.1.1 e he)
    exact (u4.2 e he rfl).2.2.1
  have hp : (H.map (fun e => e.2.2.2.1)).Nodup := by
    unfold List.Nodup
    rw [List.pairwise_map]
    rw [List.pairwise_iff_getElem]
    intro i j hi hj hij
    have mi : H[i] ∈ H := List.getElem_mem hi
    have mj : H[j] ∈ H := List.getElem_mem hj
    intro eg
    have ai := gi _ mi
    have aj := gi _ mj
    have oi := gx_own ai
    have oj := gx_own aj
    rw [eg, oj] at oi
    have b1 := hG.1.1 _ mi
    have b2 := hG.1.1 _ mj
    have ex : H[j].1 = H[i].1 := by
      have := congrArg Int32.toInt oi
      rw [xn_i (by omega), xn_i (by omega)] at this
      omega
    obtain ⟨-, U, V, -, -, -, u4, -⟩ := hG.2 H[i].1 b1
    have q := (List.pairwise_iff_getElem.mp u4.1) i j hi hj hij rfl ex
    refine q ?_
    rw [(gx_i ai).1, (gx_i aj).1, eg, ex]
  have := nd_le n _ hp (fun g hg => by
    obtain ⟨e, he, rfl⟩ := List.mem_map.mp hg
    exact (gx_i (gi e he)).2)
  rw [List.length_map] at this
  omega
theorem RWS.ib {e : hE} (h : RWS D H s k) (z : k.1 8 = 0) (h6 : (k.1 68).toInt < 65536) (hf : FL s k) (he : e ∈ H) : e.2.1 < 1048576 ∧ (e.1 : Int) < (k.1 53).toInt := by
  obtain ⟨n, n1, n2, n3⟩ := h.2 z
  have n4 : n < 65536 := by rw [n1, xn_i (by omega)] at h6; omega
  have hG := n3 n4 hf
  have b := hG.1.1 e he
  obtain ⟨-, U, V, u1, -, -, u4, -⟩ := hG.2 e.1 b
  obtain ⟨-, ⟨u, w1, -⟩, -⟩ := u4.2 e he rfl
  have q := (List.getElem?_eq_some_iff.mp w1).1
  have q1 := u1.1
  have q2 := hf e.1 b
  rw [List.length_append] at q1
  exact ⟨by omega, b⟩
theorem rwB_app : ∀ {A B : List (List hE)}, rwB (A ++ B) = rwB A ++ rwB B := by
  intro A
  induction A with
  | nil => intro B; rfl
  | cons C A ih =>
    intro B
    show _ ++ rwB (A ++ B) = (_ ++ rwB A) ++ rwB B
    rw [ih, List.append_assoc]
theorem rwB_len : ∀ {A : List (List hE)}, (rwB A).length = A.flatten.length := by
  intro A
  induction A with
  | nil => rfl
  | cons C A ih =>
    show (C.reverse.map _ ++ rwB A).length = (C ++ A.flatten).length
    rw [List.length_append, List.length_append, List.length_map, List.length_reverse, ih]
theorem stB_app : ∀ {A B : List (List hE)} {n : Nat}, stB n (A ++ B) = stB n A ++ stB (n + A.flatten.length) B := by
  intro A
  induction A with
  | nil => intro B n; rfl
  | cons C A ih =>
    intro B n
    show xn n :: stB (n + C.length) (A ++ B) = xn n :: (stB (n + C.length) A ++ stB (n + (C ++ A.flatten).length) B)
    rw [ih, List.length_append, Nat.add_assoc]
/-- a loop begins -/
theorem NR.lop {y : Int32} (h : NR 0 D H s k X) (h28 : (s.r (.s 28)).toInt < 1048576) : NR 1 D H (c131 s y).1 k X := by
  have fc : cFr 0 268435456 0 0 s (c131 s y).1 := cFr.refl.tads rfl
  have hr := fc.2.2.2.2.2.2.1 (Nat.zero_testBit _)
  refine ⟨fun x => by rw [hr]; exact h.1 x, fun z => ?_⟩
  obtain ⟨h0, h1⟩ := h.2 z
  refine ⟨h0, fun h6 hf => ?_⟩
  obtain ⟨p, Hd, hpn, ⟨Hg, Gs, ⟨d1, d2, d3⟩, d4, d5, d6, W, d7, d8⟩, h3⟩ := h1 h6 (hf.same hr rfl)
  have p0 : p = [] := by
    rcases hpn with ⟨-, z⟩ | ⟨z, -⟩ | ⟨z, -⟩
    · exact z
    · exact absurd z (by decide)
    · exact absurd z (by decide)
  subst p0
  rw [List.append_nil] at d1 d6 d8
  have hW : W.length < 1048576 := by have := d7.1; omega
  refine ⟨[[]], Hd, Or.inr (Or.inl ⟨rfl, rfl⟩), ⟨Hg, Gs, ⟨?_, d2, d3⟩, d4, d5, ?_, W ++ [(y, s.r (.s 30), 0, 0)], (d7.add hW).1, ?_⟩, h3.same hr (fc.2.2.2.2.2.1 (Nat.zero_testBit _)) (fc.2.2.2.1 (Nat.zero_testBit _)) id rfl rfl rfl (fun _ _ _ => rfl)⟩
  · rw [d1, List.flatten_append]
    show _ = Hg ++ (Gs.flatten ++ [])
    rw [List.append_nil]
  · rw [rwB_app]
    show TR _ _ (rwB Gs ++ [])
    rw [List.append_nil]
    exact d6.same (fc.2.1 30 rfl).1 (fc.2.1 30 rfl).2
  · rw [List.map_append, d8, stB_app]
    show stB 0 Gs ++ [s.r (.s 30)] = stB 0 Gs ++ [xn (0 + Gs.flatten.length)]
    rw [r_eq d6.1, rwB_len, Nat.zero_add]
/-- the reference leads the breaks of a loop -/
theorem k210_a {y v : Int32} : k210 (ka k 71 y v) = k210 k := rfl
def hvk (v : Int32) (e : hE) : hE := (e.1, e.2.1, e.2.2.1, e.2.2.2.1, e.2.2.2.2.1, v)
theorem mend_go {V : Int32} : ∀ (C : List hE) (c : Int32) (k : kS) (Hp : List hE), CH k x c C → k210 k = V → RWS D (C ++ Hp) s k → (k.1 53).toInt ≤ 1000000 → k.1 8 = 0 → (k.1 68).toInt < 65536 → FL s k → ∃ m k', kwh k246b10 m (k, c) = (1, (k', 0)) ∧ RWS D (C.map (hvk V) ++ Hp) s k' ∧ kFr 0 2361183241434822606848 k k' := by
  intro C
  induction C with
  | nil =>
    intro c k Hp hc hV h h53 z h6 hf
    have hc : c = 0 := hc
    subst hc
    have e : k246b10 (k, 0) = (1, (k, 0)) := by
      unfold k246b10
      rw [if_pos (show (0 : Int32) ≤ 0 by decide)]
    exact ⟨1, k, by rw [kwh_out (by rw [e]; exact Nat.succ_ne_zero _), e], h, kFr.refl⟩
  | cons e l ih =>
    intro c k Hp hc hV h h53 z h6 hf
    obtain ⟨i, g, v, e1, e2, e3, e4⟩ := hc
    subst e1
    obtain ⟨n, n1, n2, n3⟩ := h.2 z
    have n4 : n < 65536 := by rw [n1, xn_i (by omega)] at h6; omega
    have hG := n3 n4 hf
    have b := hG.1.1 _ List.mem_cons_self
    obtain ⟨-, U, V', -, -, -, u4, -⟩ := hG.2 x b
    have ev : xg (kR k g) 1 = v := (u4.2 _ List.mem_cons_self rfl).2.2.2
    have ev : k.2 71 g = v := ev
    have ec : c - 1 = xn g := by
      rw [e2]
      have := xn_sub (n := 1) (m := g) (by omega)
      rw [Nat.add_comm 1] at this
      exact this
    have ey : (c - 1).toNatClampNeg = g := by rw [ec]; exact xn_nat (by omega)
    have step : k246b10 (k, c) = (0, (ka k 71 (c - 1) V, v)) := by
      unfold k246b10
      rw [if_neg (show ¬ c ≤ 0 from by
        rw [e2, i_le, xn_i (by omega)]
        have : (0 : Int32).toInt = 0 := rfl
        omega)]
      show (0, (ka k 71 (c - 1) (k210 k), k.2 71 (c - 1).toNatClampNeg)) = _
      rw [hV, ey, ev]
    have h1 : RWS D ((x, i, 1, g, 0, V) :: (l ++ Hp)) s (ka k 71 (c - 1) V) := by
      have q := kR_71 (k := k) (y := c - 1) (v := V)
      rw [ey] at q
      exact RWS.kset (j := 1) h h53 rfl rfl rfl rfl rfl q.1 q.2
    obtain ⟨m, k', r1, r2, r3⟩ := ih v (ka k 71 (c - 1) V) ((x, i, 1, g, 0, V) :: Hp) e4.fr hV (h1.perm List.perm_middle.symm) h53 z h6 hf
    refine ⟨m + 1, k', by rw [kwh_go (by rw [step]), step]; exact r1, r2.perm List.perm_middle, (show kFr 0 2361183241434822606848 k (ka k 71 (c - 1) V) from kFr.sa kFr.refl rfl).trans r3⟩
/-- the class leads them -/
theorem lead_go {y2 : Int32} {k : kS} (z : k.1 8 = 0) (h6 : (k.1 68).toInt < 65536) (hx5 : (x : Int) < (k.1 53).toInt) : ∀ (C : List hE) (s : cS) (R : List xR) (Hp : List hE), TR s (.s 30) (R ++ C.map (fun e => (xn e.2.1, 0, 0, 0))) → (R ++ C.map (fun e => ((xn e.2.1, 0, 0, 0) : xR))).length ≤ 1000000 → (∀ e ∈ C, e.1 = x ∧ e.2.2.1 = 1 ∧ e.2.2.2.2.2 = k.2 60 x) → RWS ([], []) (C ++ Hp) s k → FL s k → ∃ m s' w, kwh (c132b20 (x + 1) y2) m (s, xn R.length) = (1, (s', w)) ∧ RWS ([], []) Hp s' k ∧ cFr 0 0 0 4 s s' := by
  intro C
  induction C with
  | nil =>
    intro s R Hp hT hz hC h hf
    have hT : TR s (.s 30) (R ++ []) := hT
    rw [List.append_nil] at hT
    have hz : (R ++ []).length ≤ 1000000 := hz
    rw [List.append_nil] at hz
    have e : c132b20 (x + 1) y2 (s, xn R.length) = (1, (s, xn R.length)) := by
      unfold c132b20
      rw [if_pos (by show s.r (.s 30) ≤ xn R.length; rw [i_le, hT.1, xn_i (by omega)]; omega)]
    exact ⟨1, s, xn R.length, by rw [kwh_out (by rw [e]; exact Nat.succ_ne_zero _), e], h, cFr.refl⟩
  | cons e l ih =>
    intro s R Hp hT hz hC h hf
    obtain ⟨c1, c2, c3⟩ := hC e List.mem_cons_self
    obtain ⟨x', i, j, g, vc, vk⟩ := e
    have c1 : x' = x := c1
    have c2 : j = 1 := c2
    have c3 : vk = k.2 60 x := c3
    subst c1 c2
    have ib := (h.ib z h6 hf List.mem_cons_self).1
    have ib : i < 1048576 := ib
    have hlen : (R ++ ((xn i, 0, 0, 0) : xR) :: l.map (fun e => ((xn e.2.1, 0, 0, 0) : xR))).length = R.length + l.length + 1 := by
      rw [List.length_append, List.length_cons, List.length_map]
      omega
    have hz : (R ++ ((xn i, 0, 0, 0) : xR) :: l.map (fun e => ((xn e.2.1, 0, 0, 0) : xR))).length ≤ 1000000 := hz
    have hT : TR s (.s 30) (R ++ ((xn i, 0, 0, 0) : xR) :: l.map (fun e => ((xn e.2.1, 0, 0, 0) : xR))) := hT
    have eR : (xn R.length).toInt = (R.length : Nat) := xn_i (by omega)
    have g0 : tg s (.s 30) (xn R.length) 0 = xn i := hT.g0 eR (by rw [List.getElem?_append_right (Nat.le_refl _), Nat.sub_self]; rfl)
    have step : c132b20 (x' + 1) y2 (s, xn R.length) = (0, (ts s (.i (x' + 1)) (xn i) 1 (s.r (.i (x' + 1))), xn (R.length + 1))) := by
      unfold c132b20
      rw [if_neg (show ¬ s.r (.s 30) ≤ xn R.length from by rw [i_le, hT.1, eR, hlen]; omega)]
      show (0, (ts s (.i (x' + 1)) (tg s (.s 30) (xn R.length) 0) 1 (s.r (.i (x' + 1))), xn R.length + 1)) = _
      rw [g0, xn_succ (by omega)]
    have ft : cFr 0 0 0 4 s (ts s (.i (x' + 1)) (xn i) 1 (s.r (.i (x' + 1)))) := cFr.refl.tsb rfl
    have h1 : RWS ([], []) ((x', i, 1, g, s.r (.i (x' + 1)), vk) :: (l ++ Hp)) (ts s (.i (x' + 1)) (xn i) 1 (s.r (.i (x' + 1)))) k := RWS.cset (j := 1) h (xn_i (by omega))
    have h2 : RWS ([], []) (l ++ Hp) (ts s (.i (x' + 1)) (xn i) 1 (s.r (.i (x' + 1)))) k := h1.drop (fun z h6 hf' => by
      rw [show vk = k.2 60 x' from c3, ← h.cnt z h6 hf hx5])
    have hf2 : FL (ts s (.i (x' + 1)) (xn i) 1 (s.r (.i (x' + 1)))) k := fun y hy => by
      rw [ts_r]
      exact hf y hy
    have hl1 : (R ++ [((xn i, 0, 0, 0) : xR)]).length = R.length + 1 := by rw [List.length_append]; rfl
    obtain ⟨m, s', w, r1, r2, r3⟩ := ih _ (R ++ [(xn i, 0, 0, 0)]) Hp (by rw [List.append_assoc]; exact hT.fr ft (Nat.zero_testBit _)) (by rw [List.append_assoc]; exact hz) (fun e he => hC e (List.mem_cons_of_mem _ he)) h2 hf2
    rw [hl1] at r1
    exact ⟨m + 1, s', w, by rw [kwh_go (by rw [step]), step]; exact r1, r2, ft.trans r3⟩
/-- a loop ends: its breaks lead behind it -/
theorem NR.lcl {f : xF} {r : List xF} (h : NR 2 ([], []) H s k (f :: r)) (hn : s.now = f.1) (h1f : 1 ≤ f.1) (h33 : kr k 33 (k.1 32) = xn (f.1 - 1)) (hx5 : ((f.1 - 1 : Nat) : Int) < (k.1 53).toInt) (h53 : (k.1 53).toInt ≤ 1000000) (h28 : (s.r (.s 28)).toInt ≤ 1000001) : NR 0 ([], []) H (c132 s s.now).1 (k246 k).1 (f :: r) := by
  have fk := fr_k246 k
  have fc := fr_c132 s s.now
  have hr := fc.2.2.2.2.2.2.1 rfl
  have e8 : (k246 k).1.1 8 = k.1 8 := fk.1 8 rfl
  have e68 : (k246 k).1.1 68 = k.1 68 := fk.1 68 rfl
  have e53 : (k246 k).1.1 53 = k.1 53 := fk.1 53 rfl
  refine ⟨fun x => by rw [hr]; exact h.1 x, fun z => ?_⟩
  rw [e8] at z
  obtain ⟨h0, h1⟩ := h.2 z
  refine ⟨by rw [e68]; exact h0, fun h6 hf => ?_⟩
  rw [e68] at h6
  have hf : FL s k := hf.same hr e53
  obtain ⟨p, Hd, hpn, ⟨Hg, Gs, ⟨d1, d2, d3⟩, d4, d5, d6, W, d7, d8⟩, h3⟩ := h1 h6 hf
  rcases hpn with ⟨q, -⟩ | ⟨q, -⟩ | ⟨-, C, e, hC⟩
  · exact absurd q (by decide)
  · exact absurd q (by decide)
  subst e
  rw [hn] at hC
  have ix : (f.1 - 1 : Nat) ≤ 1000000 := by omega
  have e210 : k210 k = k.2 60 (f.1 - 1) := by
    unfold k210
    rw [h33]
    show k.2 60 (xn (f.1 - 1)).toNatClampNeg = _
    rw [xn_nat (by omega)]
  have el : H ++ Hd = (H ++ (Hg ++ Gs.flatten)) ++ C := by
    rw [d1, List.flatten_append]
    show H ++ (Hg ++ (Gs.flatten ++ (C ++ []))) = _
    rw [List.append_nil]
    simp only [List.append_assoc]
  rw [el] at h3
  have h4 := h3.perm (List.perm_append_comm)
  obtain ⟨m, k', r1, r2, r3⟩ := mend_go (x := f.1 - 1) C (kr k 43 (k.1 37)) k (H ++ (Hg ++ Gs.flatten)) hC e210 h4 h53 z h6 hf
  have ek : (k246 k).1 = k' := by
    unfold k246
    rw [kfin_of ⟨m, r1⟩ (Nat.succ_ne_zero 0)]
  -- the class
  have len := h3.gs z h6 hf h53
  rw [List.length_append] at len
  have lenG : (Gs ++ [C]).flatten.length ≤ 65536 := by
    have q : ((H ++ (Hg ++ Gs.flatten)) ++ C).length ≤ 65536 := h3.gs z h6 hf h53
    rw [List.flatten_append, List.length_append]
    show Gs.flatten.length + (C ++ []).length ≤ _
    rw [List.append_nil]
    simp only [List.length_append] at q
    omega
  have eW : W.map (fun q => q.2.1) = stB 0 Gs ++ [xn Gs.flatten.length] := by
    rw [d8, stB_app, Nat.zero_add]
    rfl
  have lW : W.length = (stB 0 Gs).length + 1 := by
    have := congrArg List.length eW
    rw [List.length_map, List.length_append] at this
    exact this
  have hi : (stB 0 Gs).length < W.length := by omega
  have ew : (W[(stB 0 Gs).length]'hi).2.1 = xn Gs.flatten.length := by
    have q := congrArg (fun l => l[(stB 0 Gs).length]?) eW
    simp only [List.getElem?_map] at q
    rw [List.getElem?_append_right (Nat.le_refl _), Nat.sub_self, List.getElem?_eq_getElem hi] at q
    exact Option.some.inj q
  have hW := d7.1
  have er28 : s.r (.s 28) = xn W.length := xn_eq hW (by omega)
  have e28 : s.r (.s 28) - 1 = xn (stB 0 Gs).length := by
    rw [er28, lW]
    have := xn_sub (n := 1) (m := (stB 0 Gs).length) (by omega)
    rw [Nat.add_comm 1] at this
    exact this
  have est : tg s (.s 28) (s.r (.s 28) - 1) 1 = xn (rwB Gs).length := by
    rw [e28, d7.g1 (xn_i (by omega)) (List.getElem?_eq_getElem hi), ew, rwB_len]
  have eB : rwB (Gs ++ [C]) = rwB Gs ++ C.reverse.map (fun e => (xn e.2.1, 0, 0, 0)) := by
    rw [rwB_app]
    show rwB Gs ++ (C.reverse.map _ ++ []) = _
    rw [List.append_nil]
  have d6' : TR s (.s 30) (rwB Gs ++ C.reverse.map (fun e => (xn e.2.1, 0, 0, 0))) := by
    rw [← eB]
    exact d6
  have lB : (rwB Gs ++ C.reverse.map (fun e => ((xn e.2.1, 0, 0, 0) : xR))).length ≤ 1000000 := by
    rw [← eB, rwB_len]
    omega
  have z' : k'.1 8 = 0 := by rw [r3.1 8 (Nat.zero_testBit _)]; exact z
  have h6' : (k'.1 68).toInt < 65536 := by rw [r3.1 68 (Nat.zero_testBit _)]; exact h6
  have hx5' : ((f.1 - 1 : Nat) : Int) < (k'.1 53).toInt := by rw [r3.1 53 (Nat.zero_testBit _)]; exact hx5
  have hf' : FL s k' := fun y hy => hf y (by rw [← r3.1 53 (Nat.zero_testBit _)]; exact hy)
  have e60 : k'.2 60 = k.2 60 := r3.2 60 rfl
  have rmap : ∀ e ∈ C, e.1 = f.1 - 1 ∧ e.2.2.1 = 1 := by
    have key : ∀ (C : List hE) (c : Int32), CH k (f.1 - 1) c C → ∀ e ∈ C, e.1 = f.1 - 1 ∧ e.2.2.1 = 1 := by
      intro C
      induction C with
      | nil => intro c _ e he; exact absurd he List.not_mem_nil
      | cons a l ih =>
        rintro c ⟨i, g, v, e1, -, -, e4⟩ e he
        rcases List.mem_cons.mp he with q | q
        · rw [q, e1]
          exact ⟨rfl, rfl⟩
        · exact ih v e4 e q
    exact key C _ hC
  have d6'' : TR s (.s 30) (rwB Gs ++ (C.map (hvk (k.2 60 (f.1 - 1)))).reverse.map (fun e => (xn e.2.1, 0, 0, 0))) := by
    rw [← List.map_reverse, List.map_map]
    exact d6'
  have lB'' : (rwB Gs ++ (C.map (hvk (k.2 60 (f.1 - 1)))).reverse.map (fun e => ((xn e.2.1, 0, 0, 0) : xR))).length ≤ 1000000 := by
    rw [← List.map_reverse, List.map_map]
    exact lB
  obtain ⟨m2, s', w, q1, q2, q3⟩ := lead_go (x := f.1 - 1) (y2 := tg s (.s 28) (s.r (.s 28) - 1) 1) z' h6' hx5' (C.map (hvk (k.2 60 (f.1 - 1)))).reverse s (rwB Gs) (H ++ (Hg ++ Gs.flatten)) d6'' lB'' (fun e he => by
    obtain ⟨e0, h0, rfl⟩ := List.mem_map.mp (List.mem_reverse.mp he)
    obtain ⟨a1, a2⟩ := rmap e0 h0
    exact ⟨a1, a2, by rw [e60]; rfl⟩) (r2.perm ((List.reverse_perm _).symm.append_right _)) hf'
  have en1 : f.1 - 1 + 1 = f.1 := by omega
  rw [en1] at q1
  have ec : (c132 s s.now).1 = tct (tct s' (.s 30) (xn (rwB Gs).length)) (.s 28) ((tct s' (.s 30) (xn (rwB Gs).length)).r (.s 28) - 1) := by
    unfold c132 c132_59
    rw [hn, est] at *
    rw [kfin_of ⟨m2, q1⟩ (Nat.succ_ne_zero 0)]
  have f30 : cFr 0 1073741824 0 0 s' (tct s' (.s 30) (xn (rwB Gs).length)) := cFr.refl.tcts rfl
  have t28a : TR (tct s' (.s 30) (xn (rwB Gs).length)) (.s 28) W := (d7.fr q3 (Nat.zero_testBit _)).fr f30 rfl
  have er : (tct s' (.s 30) (xn (rwB Gs).length)).r (.s 28) - 1 = xn (stB 0 Gs).length := by
    rw [(f30.2.1 28 rfl).1, (q3.2.1 28 (Nat.zero_testBit _)).1]
    exact e28
  have f28 : cFr 0 268435456 0 0 (tct s' (.s 30) (xn (rwB Gs).length)) (tct (tct s' (.s 30) (xn (rwB Gs).length)) (.s 28) (xn (stB 0 Gs).length)) := cFr.refl.tcts rfl
  have t30 : TR (tct s' (.s 30) (xn (rwB Gs).length)) (.s 30) (rwB Gs) := by
    have q := (d6'.fr q3 (Nat.zero_testBit _)).cut (n := xn (rwB Gs).length) (k := (rwB Gs).length) (xn_i (by rw [List.length_append] at lB; omega)) (by rw [List.length_append]; omega)
    rw [List.take_left] at q
    exact q
  have t28 : TR (tct (tct s' (.s 30) (xn (rwB Gs).length)) (.s 28) (xn (stB 0 Gs).length)) (.s 28) (W.take (stB 0 Gs).length) := t28a.cut (xn_i (by omega)) (by omega)
  rw [er] at ec
  refine ⟨[], Hg ++ Gs.flatten, Or.inl ⟨rfl, rfl⟩, ⟨Hg, Gs, ⟨by rw [List.append_nil], fun i q hq => by rw [fk.2 46 rfl]; exact d2 i q hq, d3⟩, d4.fr (fk.2 51 rfl), d5.fr (fk.2 43 rfl), ?_, W.take (stB 0 Gs).length, ?_, ?_⟩, ?_⟩
  · rw [List.append_nil, ec]
    exact t30.fr f28 rfl
  · rw [ec]
    exact t28
  · rw [List.append_nil, List.map_take, eW, List.take_left]
  · rw [ec, ek]
    exact (q2.same (f30.2.2.2.2.2.2.1 (Nat.zero_testBit _)) (f30.2.2.2.2.2.1 (Nat.zero_testBit _)) (f30.2.2.2.1 (Nat.zero_testBit _)) id rfl rfl rfl (fun _ _ _ => rfl)).same (f28.2.2.2.2.2.2.1 (Nat.zero_testBit _)) (f28.2.2.2.2.2.1 (Nat.zero_testBit _)) (f28.2.2.2.1 (Nat.zero_testBit _)) id rfl rfl rfl (fun _ _ _ => rfl)
end LPS
