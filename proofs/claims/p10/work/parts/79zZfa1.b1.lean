/-! ROWS OF CODE ON BOTH SIDES: a row is changed; jumps that wait -/
section IXS
variable {s s' : cS} {k k' : kS} {x i j g n : Nat} {v : Int32}
/-- what the reference's rows are when one column of one row has changed -/
theorem rx_set {u : xR} (hi : (gx (k.2 69) x n)[i]? = some g) (hx : x ≤ 1000000) (e69 : k'.2 69 = k.2 69) (hR : ∀ g', g' ≠ g → kR k' g' = kR k g') (hg : kR k' g = u) : rx k' x n = (rx k x n).set i u ∧ ∀ x', x' ≤ 1000000 → x' ≠ x → rx k' x' n = rx k x' n := by
  constructor
  · unfold rx
    rw [e69]
    apply List.ext_getElem?
    intro m
    rw [List.getElem?_map]
    by_cases c : i = m
    · subst c
      rw [List.getElem?_set_self (by rw [List.length_map]; exact (List.getElem?_eq_some_iff.mp hi).1), hi]
      show some (kR k' g) = some u
      rw [hg]
    · rw [List.getElem?_set_ne c, List.getElem?_map]
      cases hm : (gx (k.2 69) x n)[m]? with
      | none => rfl
      | some g' =>
        show some (kR k' g') = some (kR k g')
        rw [hR g' (fun e => c (by rw [(gx_i hi).1, (gx_i hm).1, e]))]
  · intro x' hx' hne
    unfold rx
    rw [e69]
    refine List.map_congr_left (fun g' hg' => hR g' (fun e => hne ?_))
    have h1 := (gx_lt hg').2
    rw [e, gx_own hi] at h1
    have := congrArg Int32.toInt h1
    rw [xn_i (by omega), xn_i (by omega)] at this
    omega
theorem ts_r {t : cT} {iv c : Int32} (t' : cT) : (ts s t iv c v).r t' = s.r t' := by
  unfold ts
  split
  · rfl
  · split
    · rfl
    · split
      · rfl
      · split
        · rfl
        · show (if t' = t then s.r t else s.r t') = _
          split
          · rename_i e
            rw [e]
          · rfl
theorem ts_cn {t t' : cT} {iv c : Int32} (ne : t' ≠ t) : (ts s t iv c v).c t' = s.c t' := by
  unfold ts
  split
  · rfl
  · split
    · rfl
    · split
      · rfl
      · split
        · rfl
        · show (if t' = t then _ else s.c t') = _
          exact if_neg ne
theorem xg_xcol {u : xR} (hj : j = 1 ∨ j = 2) : xg (xcol u j v) j = v := by
  rcases hj with z | z <;> subst z <;> rfl
theorem xcol_op {u : xR} (hj : j = 1 ∨ j = 2) : (xcol u j v).1 = u.1 := by
  rcases hj with z | z <;> subst z <;> rfl
end IXS
section RW2
variable {D : Df} {H H' : List hE} {s s' : cS} {k k' : kS} {x i j g : Nat} {v vc vk : Int32}
theorem mt.col1 {M : Hl} {u w : xR} (h : mt M x i u w) (hj : j = 1 ∨ j = 2) (hM : (x, i, j) ∈ M) : mt M x i (xcol u j v) w := by
  rcases hj with z | z <;> subst z
  · exact ⟨h.1, fun q => absurd hM q, h.2.2.1, h.2.2.2⟩
  · exact ⟨h.1, h.2.1, fun q => absurd hM q, h.2.2.2⟩
theorem ml.set1 {M : Hl} {U V : List xR} {u : xR} (h : ml M x U V) (hu : U[i]? = some u) (hj : j = 1 ∨ j = 2) (hM : (x, i, j) ∈ M) : ml M x (U.set i (xcol u j v)) V := by
  refine ⟨by rw [List.length_set]; exact h.1, fun i' a b h1 h2 => ?_⟩
  by_cases c : i = i'
  · subst c
    rw [List.getElem?_set_self (List.getElem?_eq_some_iff.mp hu).1] at h1
    cases h1
    exact (h.2 i u b hu h2).col1 hj hM
  · rw [List.getElem?_set_ne c] at h1
    exact h.2 i' a b h1 h2
/-- the class leads a jump that waits -/
theorem wfa_col {u : xR} (h : wfa u) (hj : j = 1 ∨ j = 2) (hm : jmp u.1) (h4 : j = 1 → u.1 ≠ 44) : wfa (xcol u j v) := by
  obtain ⟨m1, m2, m3, m4, m5, m6, m7⟩ := hm
  rcases hj with e | e
  · subst e
    refine ⟨⟨h.1.1, fun z => absurd z m2⟩, fun z => ?_, fun z => ?_⟩
    · rcases z with z | z | z | z | z
      · exact absurd z m4
      · exact absurd z m5
      · exact absurd z m6
      · exact absurd z m7
      · exact absurd z (h4 rfl)
    · rcases z with z | z
      · exact absurd z m4
      · exact absurd z m7
  · subst e
    refine ⟨⟨h.1.1, fun z => absurd z m2⟩, h.2.1, fun z => ?_⟩
    rcases z with z | z
    · exact absurd z m4
    · exact absurd z m7
/-- a small number in the third column -/
theorem wfa_c2 {u : xR} (h : wfa u) (h0 : 0 ≤ v.toInt) (h7 : v.toInt ≤ 7) : wfa (xcol u 2 v) := ⟨⟨h.1.1, fun _ => ⟨h0, h7⟩⟩, h.2.1, fun _ => ⟨h0, by show v.toInt ≤ 2000000; omega⟩⟩
theorem wfa_c0 {u : xR} (h : wfo v = true) : wfa (xcol u 0 v) := wfa_o h
theorem RWS.cset {iv : Int32} (h : RWS D ((x, i, j, g, vc, vk) :: H) s k) (hi : iv.toInt = i) : RWS D ((x, i, j, g, v, vk) :: H) (ts s (.i (x + 1)) iv (xn j) v) k := by
  refine ⟨fun y => by rw [ts_r]; exact h.1 y, fun z => ?_⟩
  obtain ⟨n, h1, h2, h3⟩ := h.2 z
  refine ⟨n, h1, h2, fun hn hf => ?_⟩
  have h3 := h3 hn (fun y hy => by have := hf y hy; rw [ts_r] at this; exact this)
  refine ⟨⟨fun e he => ?_, h3.1.2⟩, fun y hy => ⟨(h3.2 y hy).1, ?_⟩⟩
  · rcases List.mem_cons.mp he with q | q
    · rw [q]
      exact h3.1.1 (x, i, j, g, vc, vk) List.mem_cons_self
    · exact h3.1.1 e (List.mem_cons_of_mem _ q)
  obtain ⟨U, V, u1, u2, u3, u4, u5⟩ := (h3.2 y hy).2
  have enow : (ts s (.i (x + 1)) iv (xn j) v).now = s.now := (ts_ri (x := 0)).2
  unfold RWF D1 D2
  unfold D1 at u1
  unfold D2 at u2
  rw [enow]
  have p4 := List.pairwise_cons.mp u4.1
  by_cases c : y = x
  · subst c
    obtain ⟨w0, ⟨u, w1, w2, w3⟩, w4, w5⟩ := u4.2 _ List.mem_cons_self rfl
    have w0 : j = 1 ∨ j = 2 := w0
    have w1 : U[i]? = some u := w1
    have hu : (U ++ (if y + 1 = s.now then D.1 else []))[i]? = some u := by
      rw [List.getElem?_append_left (List.getElem?_eq_some_iff.mp w1).1]
      exact w1
    have hj4 : j < 4 := by omega
    refine ⟨U.set i (xcol u j v), V, ?_, u2, ?_, ⟨?_, ?_⟩, wfl_s (wfa_col (u5 u (List.mem_of_getElem? w1)) w0 w3.1 w3.2) u5⟩
    · have q := u1.set (v := v) (c := j) hi hu hj4
      rw [List.set_append_left _ _ (List.getElem?_eq_some_iff.mp w1).1] at q
      exact q
    · exact u3.set1 w1 w0 List.mem_cons_self
    · exact List.pairwise_cons.mpr ⟨fun e he => p4.1 e he, p4.2⟩
    · intro e he hx
      rcases List.mem_cons.mp he with q | q
      · rw [q]
        refine ⟨w0, ⟨xcol u j v, List.getElem?_set_self (List.getElem?_eq_some_iff.mp w1).1, xg_xcol w0, ?_⟩, w4, w5⟩
        show jmp (xcol u j v).1 ∧ (j = 1 → (xcol u j v).1 ≠ 44)
        rw [xcol_op w0]
        exact w3
      · obtain ⟨y0, ⟨u', y1, y2⟩, y3⟩ := u4.2 e (List.mem_cons_of_mem _ q) hx
        refine ⟨y0, ⟨u', ?_, y2⟩, y3⟩
        rw [List.getElem?_set_ne (p4.1 e q rfl hx)]
        exact y1
  · refine ⟨U, V, u1.same (ts_r _) (ts_cn (fun q => c (Nat.succ.inj (Sum.inl.inj (Sum.inr.inj q))))), u2, u3, ⟨?_, ?_⟩, u5⟩
    · exact List.pairwise_cons.mpr ⟨fun e he q => absurd q (fun q => c q.symm), p4.2⟩
    · intro e he hx
      rcases List.mem_cons.mp he with q | q
      · rw [q] at hx
        exact absurd hx.symm c
      · exact u4.2 e (List.mem_cons_of_mem _ q) hx
/-- the reference leads a jump that waits -/
theorem RWS.kset (h : RWS D ((x, i, j, g, vc, vk) :: H) s k) (h53 : (k.1 53).toInt ≤ 1000000) (e8 : k'.1 8 = k.1 8) (e53 : k'.1 53 = k.1 53) (e68 : k'.1 68 = k.1 68) (e60 : k'.2 60 = k.2 60) (e69 : k'.2 69 = k.2 69) (hR : ∀ g', g' ≠ g → kR k' g' = kR k g') (hg : kR k' g = xcol (kR k g) j v) : RWS D ((x, i, j, g, vc, v) :: H) s k' := by
  refine ⟨h.1, fun z => ?_⟩
  rw [e8] at z
  obtain ⟨n, h1, h2, h3⟩ := h.2 z
  refine ⟨n, e68.trans h1, h2, fun hn hf => ?_⟩
  have h3 := h3 hn (fun y hy => hf y (by rw [e53]; exact hy))
  have hx5 : (x : Int) < (k.1 53).toInt := h3.1.1 _ List.mem_cons_self
  obtain ⟨U0, V0, -, -, -, t4, -⟩ := (h3.2 x hx5).2
  obtain ⟨w0, -, w4, -⟩ := t4.2 _ List.mem_cons_self rfl
  have w0 : j = 1 ∨ j = 2 := w0
  have w4 : (gx (k.2 69) x n)[i]? = some g := w4
  obtain ⟨r1, r2⟩ := rx_set (k' := k') (u := xcol (kR k g) j v) w4 (by omega) e69 hR hg
  refine ⟨⟨fun e he => ?_, by rw [e53, e69]; exact h3.1.2⟩, fun y hy => ?_⟩
  · rw [e53]
    rcases List.mem_cons.mp he with q | q
    · rw [q]
      exact hx5
    · exact h3.1.1 e (List.mem_cons_of_mem _ q)
  rw [e53] at hy
  refine ⟨by rw [e60, e69]; exact (h3.2 y hy).1, ?_⟩
  obtain ⟨U, V, u1, u2, u3, u4, u5⟩ := (h3.2 y hy).2
  have p4 := List.pairwise_cons.mp u4.1
  have keep : ∀ e ∈ H, e.1 = y → (gx (k.2 69) y n)[e.2.1]? = some e.2.2.2.1 → (y = x → e.2.1 ≠ i) → e.2.2.2.1 ≠ g := fun e _ _ q2 q3 eg => by
    rw [eg] at q2
    by_cases c : y = x
    · subst c
      exact q3 rfl ((gx_i q2).1.trans (gx_i w4).1.symm)
    · have o1 := gx_own q2
      rw [gx_own w4] at o1
      have := congrArg Int32.toInt o1
      rw [xn_i (by omega), xn_i (by omega)] at this
      omega
  by_cases c : y = x
  · subst c
    obtain ⟨-, ⟨u, w1, w2, w3⟩, -, w5⟩ := u4.2 _ List.mem_cons_self rfl
    have w1 : U[i]? = some u := w1
    have hil : i < V.length := by
      rw [← u3.1]
      exact (List.getElem?_eq_some_iff.mp w1).1
    have hV : V[i]? = some (kR k g) := by
      have q : (rx k y n)[i]? = some (kR k g) := by
        unfold rx
        rw [List.getElem?_map, w4]
        rfl
      rw [u2, List.getElem?_append_left hil] at q
      exact q
    refine ⟨U, V.set i (xcol (kR k g) j v), u1, ?_, ?_, ⟨?_, ?_⟩, u5⟩
    · rw [r1, u2, List.set_append_left _ _ hil]
    · exact (u3.symm.set1 hV w0 List.mem_cons_self).symm
    · exact List.pairwise_cons.mpr ⟨fun e he => p4.1 e he, p4.2⟩
    · intro e he hx
      rcases List.mem_cons.mp he with q | q
      · rw [q]
        refine ⟨w0, ⟨u, w1, w2, w3⟩, by rw [e69]; exact w4, ?_⟩
        show xg (kR k' g) j = v
        rw [hg]
        exact xg_xcol w0
      · obtain ⟨y0, y1, y3, y4⟩ := u4.2 e (List.mem_cons_of_mem _ q) hx
        refine ⟨y0, y1, by rw [e69]; exact y3, ?_⟩
        rw [hR _ (keep e q hx y3 (fun _ => (p4.1 e q rfl hx).symm))]
        exact y4
  · refine ⟨U, V, u1, ?_, u3, ⟨?_, ?_⟩, u5⟩
    · rw [r2 y (by omega) c]
      exact u2
    · exact List.pairwise_cons.mpr ⟨fun e he q => absurd q (fun q => c q.symm), p4.2⟩
    · intro e he hx
      rcases List.mem_cons.mp he with q | q
      · rw [q] at hx
        exact absurd hx.symm c
      · obtain ⟨y0, y1, y3, y4⟩ := u4.2 e (List.mem_cons_of_mem _ q) hx
        refine ⟨y0, y1, by rw [e69]; exact y3, ?_⟩
        rw [hR _ (keep e q hx y3 (fun z => absurd z c))]
        exact y4
/-- both have led it to the same place -/
theorem RWS.drop (h : RWS D ((x, i, j, g, vc, vk) :: H) s k) (hv : k.1 8 = 0 → (k.1 68).toInt < 65536 → FL s k → vc = vk) : RWS D H s k := by
  refine ⟨h.1, fun z => ?_⟩
  obtain ⟨n, h1, h2, h3⟩ := h.2 z
  refine ⟨n, h1, h2, fun hn hf => ?_⟩
  have hv := hv z (by rw [h1, xn_i (by omega)]; omega) hf
  have h3 := h3 hn hf
  refine ⟨⟨fun e he => h3.1.1 e (List.mem_cons_of_mem _ he), h3.1.2⟩, fun y hy => ⟨(h3.2 y hy).1, ?_⟩⟩
  obtain ⟨U, V, u1, u2, u3, u4, u5⟩ := (h3.2 y hy).2
  have p4 := List.pairwise_cons.mp u4.1
  refine ⟨U, V, u1, u2, ⟨u3.1, fun i' a b ha hb => ?_⟩, ⟨p4.2, fun e he => u4.2 e (List.mem_cons_of_mem _ he)⟩, u5⟩
  have q := u3.2 i' a b ha hb
  have eqj : y = x → i' = i → xg a j = xg b j := fun ey ei => by
    subst ey ei
    obtain ⟨w0, ⟨u, w1, w2, w3⟩, w4, w5⟩ := u4.2 _ List.mem_cons_self rfl
    have w1 : U[i']? = some u := w1
    have w4 : (gx (k.2 69) y n)[i']? = some g := w4
    rw [w1] at ha
    cases ha
    have q : (rx k y n)[i']? = some (kR k g) := by
      unfold rx
      rw [List.getElem?_map, w4]
      rfl
    rw [u2, List.getElem?_append_left (List.getElem?_eq_some_iff.mp hb).1, hb] at q
    cases q
    exact w2.trans (hv.trans w5.symm)
  have nin : ∀ j', (y, i', j') ∉ hm H → (y, i', j') ∈ hm ((x, i, j, g, vc, vk) :: H) → y = x ∧ i' = i ∧ j' = j := fun j' n1 n2 => by
    rcases List.mem_cons.mp n2 with z | z
    · cases z
      exact ⟨rfl, rfl, rfl⟩
    · exact absurd z n1
  refine ⟨q.1, fun n1 => ?_, fun n1 => ?_, q.2.2.2⟩
  · by_cases m : (y, i', 1) ∈ hm ((x, i, j, g, vc, vk) :: H)
    · obtain ⟨z1, z2, z3⟩ := nin 1 n1 m
      have := eqj z1 z2
      rw [← z3] at this
      exact this
    · exact q.2.1 m
  · by_cases m : (y, i', 2) ∈ hm ((x, i, j, g, vc, vk) :: H)
    · obtain ⟨z1, z2, z3⟩ := nin 2 n1 m
      have := eqj z1 z2
      rw [← z3] at this
      exact this
    · exact q.2.2.1 m
/-- as many rows on both sides -/
theorem RWS.cnt (h : RWS ([], []) H s k) (z : k.1 8 = 0) (h68 : (k.1 68).toInt < 65536) (hf : FL s k) (hx : (x : Int) < (k.1 53).toInt) : s.r (.i (x + 1)) = k.2 60 x := by
  obtain ⟨n, h1, h2, h3⟩ := h.2 z
  rw [h1, xn_i (by omega)] at h68
  obtain ⟨g1, U, V, u1, u2, u3, u4, u5⟩ := (h3 (by omega) hf).2 x hx
  have e1 : D1 ([], []) s x = [] := by unfold D1; split <;> rfl
  have e2 : D2 ([], []) s x = [] := by unfold D2; split <;> rfl
  rw [e1, List.append_nil] at u1
  rw [e2, List.append_nil] at u2
  have hl := congrArg List.length u2
  unfold rx at hl
  rw [List.length_map] at hl
  rw [g1, hl, ← u3.1]
  have hle := gx_le (ow := k.2 69) (x := x) (n := n)
  exact xn_eq u1.1 (by rw [u3.1, ← hl]; omega)
theorem D1_0 {y : Nat} : D1 ([], []) s y = [] := by unfold D1; split <;> rfl
theorem D2_0 {y : Nat} : D2 ([], []) s y = [] := by unfold D2; split <;> rfl
/-- a jump that both have written waits for its number -/
theorem RWS.hol {r r' : xR} (h : RWS ([r], [r']) H s k) (hn : s.now = x + 1) (hc : (s.r (.i (x + 1))).toInt = i + 1) (hk : k.1 8 = 0 → (k.1 68).toInt < 65536 → (k.1 68).toInt = g + 1 ∧ k.2 69 g = xn x) (hj : j = 1 ∨ j = 2) (ho : r.1 = r'.1) (hw : r.2.2.2 = r'.2.2.2) (ha : j ≠ 1 → r.2.1 = r'.2.1) (hb : j ≠ 2 → r.2.2.1 = r'.2.2.1) (hjm : jmp r.1) (hx : (x : Int) < (k.1 53).toInt) (hwr : wfo r.1 = true ∨ (j = 2 ∧ wfa r)) : RWS ([], []) ((x, i, j, g, xg r j, xg r' j) :: H) s k := by
  refine ⟨h.1, fun z => ?_⟩
  obtain ⟨n, h1, h2, h3⟩ := h.2 z
  refine ⟨n, h1, h2, fun hn' hf => ?_⟩
  have h3 := h3 hn' hf
  refine ⟨⟨fun e he => ?_, h3.1.2⟩, fun y hy => ⟨(h3.2 y hy).1, ?_⟩⟩
  · rcases List.mem_cons.mp he with q | q
    · rw [q]
      exact hx
    · exact h3.1.1 e q
  obtain ⟨U, V, u1, u2, u3, u4, u5⟩ := (h3.2 y hy).2
  have hwr1 : wfa r := hwr.elim wfa_o (fun z => z.2)
  have hwr2 : j = 1 → r.1 ≠ 44 := fun e => hwr.elim (fun z => (wfo_p z).2.2.2.2.2.2) (fun z => absurd (e.symm.trans z.1) (by decide))
  unfold RWF
  rw [D1_0, D2_0]
  have sub : ∀ q ∈ hm H, q ∈ hm ((x, i, j, g, xg r j, xg r' j) :: H) := fun q hq => List.mem_cons_of_mem _ hq
  by_cases c : y = x
  · subst c
    unfold D1 at u1
    unfold D2 at u2
    rw [if_pos hn.symm] at u1 u2
    have u1 : TR s (.i (y + 1)) (U ++ [r]) := u1
    have u2 : rx k y n = V ++ [r'] := u2
    have lU : i = U.length := by
      have q := u1.1
      rw [List.length_append] at q
      have e1 : [r].length = 1 := rfl
      omega
    obtain ⟨k1, k2⟩ := hk z (by rw [h1, xn_i (by omega)]; omega)
    have en : n = g + 1 := by
      rw [h1, xn_i (by omega)] at k1
      omega
    subst en
    have eg : gx (k.2 69) y (g + 1) = gx (k.2 69) y g ++ [g] := by
      show gx (k.2 69) y g ++ (if k.2 69 g = xn y then [g] else []) = _
      rw [if_pos k2]
    have u2' : (gx (k.2 69) y g).map (kR k) ++ [kR k g] = V ++ [r'] := by
      rw [← u2]
      unfold rx
      rw [eg, List.map_append]
      rfl
    obtain ⟨q1, q2⟩ := List.append_inj' u2' rfl
    have q2 : kR k g = r' := (List.cons.inj q2).1
    have lV : (gx (k.2 69) y g).length = U.length := by
      have := congrArg List.length q1
      rw [List.length_map] at this
      rw [this, u3.1]
    refine ⟨U ++ [r], V ++ [r'], by rw [List.append_nil]; exact u1, by rw [List.append_nil]; exact u2, (u3.mono sub).snoc ?_, ⟨?_, ?_⟩, wfl_a u5 (wfl_c hwr1 wfl_0)⟩
    · rw [← lU]
      have hin : (y, i, j) ∈ hm ((y, i, j, g, xg r j, xg r' j) :: H) := List.mem_cons_self
      rcases hj with e | e
      · subst e
        exact ⟨ho, fun q => absurd hin q, fun _ => hb (by decide), hw⟩
      · subst e
        exact ⟨ho, fun _ => ha (by decide), fun q => absurd hin q, hw⟩
    · refine List.pairwise_cons.mpr ⟨fun e he _ q2 => ?_, u4.1⟩
      obtain ⟨-, ⟨u, w1, -⟩, -⟩ := u4.2 e he q2
      have := (List.getElem?_eq_some_iff.mp w1).1
      show i ≠ e.2.1
      omega
    · intro e he hx
      rcases List.mem_cons.mp he with q | q
      · rw [q]
        refine ⟨hj, ⟨r, ?_, rfl, hjm, hwr2⟩, ?_, ?_⟩
        · show (U ++ [r])[i]? = some r
          rw [lU, List.getElem?_append_right (Nat.le_refl _), Nat.sub_self]
          rfl
        · show (gx (k.2 69) y (g + 1))[i]? = some g
          rw [eg, lU, ← lV, List.getElem?_append_right (Nat.le_refl _), Nat.sub_self]
          rfl
        · show xg (kR k g) j = xg r' j
          rw [q2]
      · obtain ⟨w0, ⟨u, w1, w2⟩, w3⟩ := u4.2 e q hx
        exact ⟨w0, ⟨u, by rw [List.getElem?_append_left (List.getElem?_eq_some_iff.mp w1).1]; exact w1, w2⟩, w3⟩
  · have e1 : D1 ([r], [r']) s y = [] := by
      unfold D1
      rw [if_neg (by omega)]
    have e2 : D2 ([r], [r']) s y = [] := by
      unfold D2
      rw [if_neg (by omega)]
    rw [e1] at u1
    rw [e2] at u2
    refine ⟨U, V, u1, u2, u3.mono sub, ⟨List.pairwise_cons.mpr ⟨fun e he q => absurd q (fun q => c q.symm), u4.1⟩, ?_⟩, u5⟩
    intro e he hx
    rcases List.mem_cons.mp he with q | q
    · rw [q] at hx
      exact absurd hx.symm c
    · exact u4.2 e q hx
/-- both change the last row, which is no jump -/
theorem RWS.lset {iv v' : Int32} (h : RWS ([], []) H s k) (hi : iv.toInt = i) (hl : (s.r (.i (x + 1))).toInt = i + 1) (hx : (x : Int) < (k.1 53).toInt) (h53 : (k.1 53).toInt ≤ 1000000) (hop : ¬ jmp (tg s (.i (x + 1)) iv 0)) (hj : j < 4) (hG : k.1 8 = 0 → (k.1 68).toInt < 65536 → ∀ n, k.1 68 = xn n → n < 65536 → (gx (k.2 69) x n).getLast? = some g) (e8 : k'.1 8 = k.1 8) (e53 : k'.1 53 = k.1 53) (e68 : k'.1 68 = k.1 68) (e60 : k'.2 60 = k.2 60) (e69 : k'.2 69 = k.2 69) (hR : ∀ g', g' ≠ g → kR k' g' = kR k g') (hg : kR k' g = xcol (kR k g) j v') (hv : tg s (.i (x + 1)) iv 2 = k.2 72 g → v = v') (hwv : ∀ u, wfa u → wfa (xcol u j v)) : RWS ([], []) H (ts s (.i (x + 1)) iv (xn j) v) k' := by
  refine ⟨fun y => by rw [ts_r]; exact h.1 y, fun z => ?_⟩
  rw [e8] at z
  obtain ⟨n, h1, h2, h3⟩ := h.2 z
  refine ⟨n, e68.trans h1, h2, fun hn hf => ?_⟩
  have h3 := h3 hn (fun y hy => by have := hf y (by rw [e53]; exact hy); rw [ts_r] at this; exact this)
  have h3x := h3.2 x hx
  obtain ⟨U0, V0, t1, t2, t3, t4, t5⟩ := h3x.2
  rw [D1_0, List.append_nil] at t1
  rw [D2_0, List.append_nil] at t2
  have lU : U0.length = i + 1 := by have := t1.1; omega
  have hG := hG z (by rw [h1, xn_i (by omega)]; omega) n h1 hn
  have lg : (gx (k.2 69) x n).length = i + 1 := by
    have := congrArg List.length t2
    unfold rx at this
    rw [List.length_map] at this
    rw [this, ← t3.1, lU]
  have w4 : (gx (k.2 69) x n)[i]? = some g := by
    rw [List.getLast?_eq_getElem?, lg] at hG
    exact hG
  obtain ⟨r1, r2⟩ := rx_set (k' := k') (u := xcol (kR k g) j v') w4 (by omega) e69 hR hg
  obtain ⟨u, hu⟩ : ∃ u, U0[i]? = some u := ⟨_, List.getElem?_eq_getElem (by omega)⟩
  have hV : V0[i]? = some (kR k g) := by
    have q : (rx k x n)[i]? = some (kR k g) := by
      unfold rx
      rw [List.getElem?_map, w4]
      rfl
    rw [t2] at q
    exact q
  have nin : ∀ e ∈ H, e.1 = x → e.2.1 ≠ i := fun e he q1 q2 => by
    obtain ⟨-, ⟨u', w1, -, w3⟩, -⟩ := t4.2 e he q1
    rw [q2, hu] at w1
    cases w1
    rw [t1.g0 hi hu] at hop
    exact hop w3.1
  have ninm : ∀ j', (x, i, j') ∉ hm H := fun j' q => by
    obtain ⟨e, he, q'⟩ := List.mem_map.mp q
    cases q'
    exact nin e he rfl rfl
  have hm := t3.2 i u (kR k g) hu hV
  have euw : u = kR k g := by
    obtain ⟨a1, a2, a3, a4⟩ := u
    have b1 := hm.1
    have b2 := hm.2.1 (ninm 1)
    have b3 := hm.2.2.1 (ninm 2)
    have b4 := hm.2.2.2
    unfold kR at b1 b2 b3 b4 ⊢
    rw [show a1 = _ from b1, show a2 = _ from b2, show a3 = _ from b3, show a4 = _ from b4]
  have hv := hv (by rw [t1.g2 hi hu, euw]; rfl)
  subst hv
  have keep : ∀ y : Nat, (y : Int) < (k.1 53).toInt → ∀ e ∈ H, e.1 = y → (gx (k.2 69) y n)[e.2.1]? = some e.2.2.2.1 → e.2.2.2.1 ≠ g := fun y hy e he q1 q2 eg => by
    rw [eg] at q2
    have o1 := gx_own q2
    rw [gx_own w4] at o1
    have := congrArg Int32.toInt o1
    rw [xn_i (by omega), xn_i (by omega)] at this
    have exy : x = y := by omega
    subst exy
    exact nin e he q1 ((gx_i q2).1.trans (gx_i w4).1.symm)
  refine ⟨by rw [e53, e69]; exact h3.1, fun y hy => ?_⟩
  rw [e53] at hy
  refine ⟨by rw [e60, e69]; exact (h3.2 y hy).1, ?_⟩
  unfold RWF
  rw [D1_0, D2_0]
  by_cases c : y = x
  · subst c
    refine ⟨U0.set i (xcol u j v), V0.set i (xcol u j v), by rw [List.append_nil]; exact t1.set hi hu hj, by rw [List.append_nil, r1, t2, euw], ⟨by rw [List.length_set, List.length_set]; exact t3.1, fun i' a b ha hb => ?_⟩, ⟨t4.1, fun e he hx => ?_⟩, wfl_s (hwv u (t5 u (List.mem_of_getElem? hu))) t5⟩
    · by_cases ci : i = i'
      · subst ci
        rw [List.getElem?_set_self (List.getElem?_eq_some_iff.mp hu).1] at ha
        rw [List.getElem?_set_self (List.getElem?_eq_some_iff.mp hV).1] at hb
        cases ha
        cases hb
        exact mt.refl
      · rw [List.getElem?_set_ne ci] at ha hb
        exact t3.2 i' a b ha hb
    · obtain ⟨w0, ⟨u', w1, w2⟩, w3, w5⟩ := t4.2 e he hx
      refine ⟨w0, ⟨u', by rw [List.getElem?_set_ne (nin e he hx).symm]; exact w1, w2⟩, by rw [e69]; exact w3, ?_⟩
      rw [hR _ (keep y hy e he hx w3)]
      exact w5
  · obtain ⟨U, V, u1, u2, u3, u4, u5⟩ := (h3.2 y hy).2
    rw [D1_0, List.append_nil] at u1
    rw [D2_0, List.append_nil] at u2
    refine ⟨U, V, by rw [List.append_nil]; exact u1.same (ts_r _) (ts_cn (fun q => c (Nat.succ.inj (Sum.inl.inj (Sum.inr.inj q))))), by rw [List.append_nil, r2 y (by omega) c]; exact u2, u3, ⟨u4.1, fun e he hx => ?_⟩, u5⟩
    obtain ⟨w0, w1, w3, w5⟩ := u4.2 e he hx
    refine ⟨w0, w1, by rw [e69]; exact w3, ?_⟩
    rw [hR _ (keep y hy e he hx w3)]
    exact w5
/-- another function comes in hand -/
theorem RWS.nw (h : RWS ([], []) H s k) (hr : ∀ x, s'.r (.i x) = s.r (.i x)) (hc : ∀ x, s'.c (.i x) = s.c (.i x)) : RWS ([], []) H s' k := by
  refine ⟨fun x => by rw [hr]; exact h.1 x, fun z => ?_⟩
  obtain ⟨n, h1, h2, h3⟩ := h.2 z
  refine ⟨n, h1, h2, fun hn hf => ?_⟩
  have h3 := h3 hn (fun y hy => by rw [← hr]; exact hf y hy)
  refine ⟨h3.1, fun y hy => ⟨(h3.2 y hy).1, ?_⟩⟩
  obtain ⟨U, V, u1, u2, u3, u4, u5⟩ := (h3.2 y hy).2
  rw [D1_0] at u1
  rw [D2_0] at u2
  unfold RWF
  rw [D1_0, D2_0]
  exact ⟨U, V, u1.same (hr _) (hc _), u2, u3, u4, u5⟩
/-- a function begins -/
theorem RWS.bgn (h : RWS ([], []) H s k) (hx6 : x ≤ 1000000) (h53 : k.1 53 = xn x) (hr : ∀ y, y ≠ x + 1 → s'.r (.i y) = s.r (.i y)) (hc : ∀ y, y ≠ x + 1 → s'.c (.i y) = s.c (.i y)) (h0 : s'.r (.i (x + 1)) = 0) (e8 : k'.1 8 = 0 → k.1 8 = 0) (e53 : k'.1 53 = xn (x + 1)) (e68 : k'.1 68 = k.1 68) (e60 : k'.2 60 = upd (k.2 60) x 0) (ea : ∀ j, 69 ≤ j → j ≤ 73 → k'.2 j = k.2 j) : RWS ([], []) H s' k' := by
  have ek : kR k' = kR k := by
    funext g
    unfold kR
    rw [ea 70 (by decide) (by decide), ea 71 (by decide) (by decide), ea 72 (by decide) (by decide), ea 73 (by decide) (by decide)]
  have z0 : (0 : Int32).toInt = 0 := rfl
  have i5 : (k.1 53).toInt = x := by rw [h53, xn_i (by omega)]
  have i5' : (k'.1 53).toInt = x + 1 := by rw [e53, xn_i (by omega)]; omega
  refine ⟨fun y => ?_, fun z => ?_⟩
  · by_cases c : y = x + 1
    · rw [c, h0, z0]
      exact Int.le_refl _
    · rw [hr y c]
      exact h.1 y
  obtain ⟨n, h1, h2, h3⟩ := h.2 (e8 z)
  refine ⟨n, e68.trans h1, h2, fun hn hf => ?_⟩
  have h3 := h3 hn (fun y hy => by
    have := hf y (by omega)
    rw [hr (y + 1) (by omega)] at this
    exact this)
  refine ⟨⟨fun e he => by have := h3.1.1 e he; omega, fun i hi => ?_⟩, fun y hy => ?_⟩
  · obtain ⟨w, w1, w2⟩ := h3.1.2 i hi
    exact ⟨w, by omega, by rw [ea 69 (by decide) (by decide)]; exact w2⟩
  unfold RWF rx HX
  rw [D1_0, D2_0, ek, ea 69 (by decide) (by decide), e60]
  unfold upd
  by_cases c : y = x
  · subst c
    have hg : gx (k.2 69) y n = [] := by
      cases hq : gx (k.2 69) y n with
      | nil => rfl
      | cons g l =>
        have hm : g ∈ gx (k.2 69) y n := by rw [hq]; exact List.mem_cons_self
        obtain ⟨m1, m2⟩ := gx_lt hm
        obtain ⟨w, w1, w2⟩ := h3.1.2 g m1
        rw [w2] at m2
        have := congrArg Int32.toInt m2
        rw [xn_i (by omega), xn_i (by omega)] at this
        omega
    rw [if_pos rfl, hg]
    refine ⟨rfl, [], [], ⟨by rw [h0, z0]; rfl, fun i q hq => by cases hq⟩, rfl, ml.nil, ⟨?_, fun e he hx => ?_⟩, wfl_0⟩
    · refine List.Pairwise.imp_of_mem (R := fun _ _ => True) (fun {a b} ha _ _ q1 _ => ?_) (List.pairwise_of_forall (fun _ _ => trivial))
      have := h3.1.1 a ha
      omega
    · have := h3.1.1 e he
      omega
  · rw [if_neg c]
    obtain ⟨g1, U, V, u1, u2, u3, u4, u5⟩ := h3.2 y (by omega)
    rw [D1_0] at u1
    rw [D2_0] at u2
    exact ⟨g1, U, V, u1.same (hr _ (by omega)) (hc _ (by omega)), u2, u3, u4, u5⟩
end RW2
