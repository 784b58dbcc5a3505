/-! COUNTS AND NUMBERS OF BODIES: hidden locals, locals that waited -/
section CNL
variable {d : Int32} {s s' : cS} {k k' : kS} {f f' : xF} {r X : List xF}
theorem upd_upd {g : Nat → Int32} {i : Nat} {a b : Int32} : upd (upd g i a) i b = upd g i b := by
  funext j
  unfold upd
  by_cases c : j = i
  · rw [if_pos c, if_pos c]
  · rw [if_neg c, if_neg c, if_neg c]
theorem upd_id {g : Nat → Int32} {i : Nat} : upd g i (g i) = g := by
  funext j
  unfold upd
  by_cases c : j = i
  · rw [if_pos c, c]
  · rw [if_neg c]
theorem dc2.ka28 {cl i v : Int32} (h : dc2 cl k k') : dc2 cl k (ka k' 28 i v) := by
  obtain ⟨d1, d2, d3, d4, d5, d6, d7, d8⟩ := h
  refine ⟨d1, d2, d3, d4, d5, d6, d7, fun j hj => ?_⟩
  have z := d8 j hj
  rcases hj with rfl | rfl | rfl | rfl | rfl | rfl <;> exact z
/-- hidden locals in the reference -/
theorem hid2_go {w y : Int32} {x0 B : Nat} : ∀ (l : List xR) (n m : Nat) (f : xF) (k : kS), CL k (f :: r) → kr k 33 (k.1 32) = xn x0 → kr k 34 (k.1 32) = xn B → k.1 24 = xn (B + m) → (kL (f :: r)).length = B + m → x0 ≤ 1000000 → B + m + l.length ≤ 1000000 → n + l.length ≤ 1000 → (∀ i q, l[i]? = some q → ((y ≠ 0 ∧ i + 1 = l.length) ↔ q.2.1 &&& 4 ≠ 0)) → ∃ j k', kwh (k254b3 (xn (n + l.length)) y w) j (k, xn n) = (1, (k', xn (n + l.length))) ∧ CL k' (xdn f l :: r) ∧ k'.2 58 = upd (k.2 58) x0 (if l = [] then k.2 58 x0 else mxn (k.2 58 x0) (m + l.length)) ∧ (∀ j, (j = 54 ∨ j = 55 ∨ j = 56 ∨ j = 57 ∨ j = 59 ∨ j = 60) → k'.2 j = k.2 j) ∧ k'.1 53 = k.1 53 ∧ (k'.1 8 = 0 → k.1 8 = 0) := by
  intro l
  induction l with
  | nil =>
    intro n m f k h h33 h34 h24 hk hx hz hn hq
    have e : k254b3 (xn (n + ([] : List xR).length)) y w (k, xn n) = (1, (k, xn n)) := by
      unfold k254b3
      rw [if_pos (by show xn (n + 0) ≤ xn n; exact Int32.le_refl _)]
    exact ⟨1, k, by rw [kwh_out (by rw [e]; exact Nat.succ_ne_zero _), e]; rfl, h, by rw [if_pos rfl, upd_id], fun _ _ => rfl, rfl, id⟩
  | cons q l ih =>
    intro n m f k h h33 h34 h24 hk hx hz hn hq
    have hl : (q :: l).length = l.length + 1 := rfl
    have step : ∃ cl k1, k254b3 (xn (n + (q :: l).length)) y w (k, xn n) = (0, (k1, xn (n + 1))) ∧ dc2 cl k k1 ∧ (k1.1 8 = 0 → k.1 8 = 0) ∧ (cl ≠ 0 ↔ y ≠ 0 ∧ l = []) := by
      have hc : ¬ xn (n + (q :: l).length) ≤ xn n := by rw [i_le, xn_i (by omega), xn_i (by omega)]; omega
      unfold k254b3
      dsimp only
      rw [if_neg hc, xn_succ (by omega)]
      by_cases c1 : y = 0
      · rw [if_pos c1]
        exact ⟨0, _, rfl, dc2_196.ka28, k196_e8, ⟨fun z => absurd rfl z, fun z => absurd c1 z.1⟩⟩
      · rw [if_neg c1]
        by_cases c2 : l = []
        · have e1 : xn (n + 1) = xn (n + (q :: l).length) := by rw [c2]; rfl
          rw [if_neg (fun z => z e1)]
          exact ⟨1, _, rfl, dc2_196.ka28, k196_e8, ⟨fun _ => ⟨c1, c2⟩, fun _ => by decide⟩⟩
        · have e1 : xn (n + 1) ≠ xn (n + (q :: l).length) := fun z => by
            have z1 := xn_inj (by omega) (by omega) z
            have z2 := List.length_pos_iff.mpr c2
            omega
          rw [if_pos e1]
          exact ⟨0, _, rfl, dc2_196.ka28, k196_e8, ⟨fun z => absurd rfl z, fun z => absurd z.2 c2⟩⟩
    obtain ⟨cl, k1, e, d1, e8, ecl⟩ := step
    have hq0 := hq 0 q rfl
    have c1 : CL k1 (xd f q :: r) := h.dc2 d1 (by rw [h24, hk]) (by omega) (ecl.trans (Iff.trans ⟨fun z => ⟨z.1, by rw [z.2]; rfl⟩, fun z => ⟨z.1, List.eq_nil_of_length_eq_zero (by have := z.2; omega)⟩⟩ hq0)) e8
    obtain ⟨n33, n34, n24⟩ := d1.nxt h33 h34 h24 (by omega)
    have e58 := d1.n58 h33 h34 h24 hx (by omega)
    have hq' : ∀ i p, l[i]? = some p → ((y ≠ 0 ∧ i + 1 = l.length) ↔ p.2.1 &&& 4 ≠ 0) := fun i p hp => by
      have z := hq (i + 1) p (by rw [List.getElem?_cons_succ]; exact hp)
      rw [← z]
      exact ⟨fun q => ⟨q.1, by have := q.2; omega⟩, fun q => ⟨q.1, by have := q.2; omega⟩⟩
    obtain ⟨j, k', r1, r2, r3, r4, r5, r6⟩ := ih (n + 1) (m + 1) (xd f q) k1 c1 n33 n34 n24 (by rw [kL_xd, hk]; omega) hx (by omega) (by omega) hq'
    have ea : n + (q :: l).length = n + 1 + l.length := by omega
    rw [← ea] at r1
    refine ⟨j + 1, k', by rw [kwh_go (by rw [e]), e]; exact r1, r2, ?_, fun j hj => (r4 j hj).trans (d1.2.2.2.2.2.2.2 j hj), r5.trans d1.2.2.2.2.2.2.1, fun z => e8 (r6 z)⟩
    rw [r3, e58, upd_at, upd_upd, if_neg (List.cons_ne_nil q l)]
    congr 1
    by_cases c : l = []
    · rw [if_pos c, c]
      rfl
    · rw [if_neg c, mxn_mxn (by omega) (by omega), show m + (q :: l).length = m + 1 + l.length by omega]
/-- hidden locals in the class -/
theorem ch2_go {e : Nat} {y2 y4 w : Int32} : ∀ (m0 n : Nat) (f : xF) (s : cS), XC e s (f :: r) → f.2.2.1 = [] → SZ (xdn f (List.replicate m0 (0, 0, 0, 0)) :: r) → n + m0 ≤ 1000 → ∃ m s', kwh (c140b19 (xn (n + m0)) y2 w y4) m (s, xn n) = (1, (s', xn (n + m0))) ∧ (∀ x j, (j ≠ 7 ∨ x ≠ s.now) → s'.b x j = s.b x j) ∧ s'.b s.now 7 = (if m0 = 0 then s.b s.now 7 else mxn (s.b s.now 7) (f.2.1.length + m0)) ∧ s'.now = s.now := by
  intro m0
  induction m0 with
  | zero =>
    intro n f s h hp hz hn
    have e : c140b19 (xn (n + 0)) y2 w y4 (s, xn n) = (1, (s, xn n)) := by
      unfold c140b19
      rw [if_pos (by show xn (n + 0) ≤ xn n; exact Int32.le_refl _)]
    exact ⟨1, s, by rw [kwh_out (by rw [e]; exact Nat.succ_ne_zero _), e]; rfl, fun _ _ _ => rfl, by rw [if_pos rfl], rfl⟩
  | succ m0 ih =>
    intro n f s h hp hz hn
    have hz0 : SZ (f :: r) := SZ_xdn hz
    have hz1 : SZ (xd f (0, 0, 0, 0) :: r) := SZ_xdn (f := xd f (0, 0, 0, 0)) (l := List.replicate m0 (0, 0, 0, 0)) hz
    have hlen : f.2.1.length + (m0 + 1) ≤ 1000000 := by
      have z := hz.kl
      rw [kL_xdn, List.length_replicate] at z
      have e : (kL (f :: r)).length = (kL r).length + f.2.1.length := by
        show (kL r ++ f.2.1).length = _
        rw [List.length_append]
      omega
    have e : c140b19 (xn (n + (m0 + 1))) y2 w y4 (s, xn n) = (0, ((c74 s 0 0 w).1, xn (n + 1))) := by
      unfold c140b19
      rw [if_neg (by show ¬ xn (n + (m0 + 1)) ≤ xn n; rw [i_le, xn_i (by omega), xn_i (by omega)]; omega)]
      show (0, ((c74 s 0 0 w).1, xn n + 1)) = _
      rw [xn_succ (by omega)]
    have x1 := h.dcl (t := 0) (st := 0) (w := w) hz0 hp
    obtain ⟨b1, b2, b3⟩ := c74_b x1 hz1
    have el : (xd f (0, 0, 0, 0)).2.1.length = f.2.1.length + 1 := by show (f.2.1 ++ [_]).length = _; rw [List.length_append]; rfl
    have el2 : ((xd f (0, 0, 0, 0)).2.1 ++ (xd f (0, 0, 0, 0)).2.2.1).length = f.2.1.length + 1 := by
      show (_ ++ f.2.2.1).length = _
      rw [hp, List.append_nil]
      exact el
    rw [el2] at b2
    obtain ⟨m, s', r1, r2, r3, r4⟩ := ih (n + 1) (xd f (0, 0, 0, 0)) _ x1 hp hz (by omega)
    rw [show n + 1 + m0 = n + (m0 + 1) by omega] at r1
    rw [b3] at r2 r3 r4
    refine ⟨m + 1, s', by rw [kwh_go (by rw [e]), e]; exact r1, fun x j hj => (r2 x j hj).trans (b1 x j hj), ?_, r4⟩
    rw [r3, b2, if_neg (Nat.succ_ne_zero m0), el]
    by_cases c : m0 = 0
    · rw [if_pos c, c]
    · rw [if_neg c, mxn_mxn (by omega) (by omega), show f.2.1.length + 1 + m0 = f.2.1.length + (m0 + 1) by omega]
theorem c140_b {n : Nat} {v w : Int32} (h : XC 0 s (f :: r)) (hp : f.2.2.1 = []) (hn : n ≤ 8) (hz0 : SZ (f :: r)) (hz : SZ (xdn (xo f 2) (List.replicate (n + 1) (0, 0, 0, 0)) :: r)) : (∀ x j, (j ≠ 7 ∨ x ≠ s.now) → (c140 s (xn (n + 1)) v w).1.b x j = s.b x j) ∧ (c140 s (xn (n + 1)) v w).1.b s.now 7 = mxn (s.b s.now 7) (f.2.1.length + (n + 1)) := by
  have o1 : XC 0 (c51 s).1 (xo f 2 :: r) := h.opn hz0 (by decide)
  obtain ⟨m, s', r1, r2, r3, r4⟩ := ch2_go (y2 := v) (y4 := c75 s) (w := w) (n + 1) 0 (xo f 2) (c51 s).1 o1 hp hz (by omega)
  rw [Nat.zero_add] at r1
  have ek := kfin_of ⟨m, r1⟩ (Nat.succ_ne_zero 0)
  have ec : (c140 s (xn (n + 1)) v w).1 = (c131 (c141 s' v).1 (c75 (c141 s' v).1)).1 := by
    unfold c140 c140_16 c140_49
    rw [show ((0 : Int32)) = xn 0 from rfl, ek]
  have eb : ∀ x j, (c140 s (xn (n + 1)) v w).1.b x j = s'.b x j := fun x j => by
    rw [ec, (fr_c131 _ _).2.2.1 x j (Nat.zero_testBit _), (fr_c141 _ _).2.2.1 x j (Nat.zero_testBit _)]
  have e51 : ∀ x j, (c51 s).1.b x j = s.b x j := fun x j => (fr_c51 s).2.2.1 x j (Nat.zero_testBit _)
  have en : (c51 s).1.now = s.now := (fr_c51 s).2.2.2.1 rfl
  rw [en] at r2 r3
  refine ⟨fun x j hj => by rw [eb, r2 x j hj, e51], ?_⟩
  rw [eb, r3, if_neg (Nat.succ_ne_zero n), e51]
  rfl
/-- a for's hidden locals on both sides -/
theorem FB.hid {n : Nat} {v w w' y : Int32} {l : List xR} (h : FB s k (sh (f :: r))) (hc : CL k (f :: r)) (hn : RN s k (f :: r)) (hz0 : SZ (f :: r)) (hp : f.2.2.1 = []) (hn8 : n ≤ 8) (hz : SZ (xdn (xo f 2) (List.replicate (n + 1) (0, 0, 0, 0)) :: r)) (hl : l.length = n + 1) (hq : ∀ i q, l[i]? = some q → ((y ≠ 0 ∧ i + 1 = l.length) ↔ q.2.1 &&& 4 ≠ 0)) : FB (c140 s (xn (n + 1)) v w).1 (k254 k (xn (n + 1)) y w').1 (sh (xdn (xo f 2) l :: r)) ∧ CL (k254 k (xn (n + 1)) y w').1 (xdn (xo f 2) l :: r) := by
  obtain ⟨o1, o2, o3, o4⟩ := own_k hn hz0
  obtain ⟨a1, a2, a3⟩ := XK.at hn hz0
  have hlen : (kL r).length + f.2.1.length + (n + 1) ≤ 1000000 := by
    have z := hz.kl
    rw [kL_xdn, List.length_replicate] at z
    have e : (kL (xo f 2 :: r)).length = (kL r).length + f.2.1.length := by
      show (kL r ++ f.2.1).length = _
      rw [List.length_append]
    omega
  obtain ⟨j, k', r1, r2, r3, r4, r5, r6⟩ := hid2_go (r := r) (w := w') (y := y) (x0 := f.1 - 1) (B := (kL r).length) l 0 f.2.1.length (xo f 2) k hc a1 a2 a3 (by show (kL r ++ f.2.1).length = _; rw [List.length_append]) (by omega) (by omega) (by omega) hq
  rw [Nat.zero_add, hl] at r1
  have ek2 := kfin_of ⟨j, r1⟩ (Nat.succ_ne_zero 0)
  have e2 : (k254 k (xn (n + 1)) y w').1 = k' := by
    unfold k254
    rw [show ((0 : Int32)) = xn 0 from rfl, ek2]
  obtain ⟨b1, b2⟩ := c140_b (v := v) (w := w) hn.1 hp hn8 hz0 hz
  rw [o2] at b1 b2
  rw [e2]
  refine ⟨?_, r2⟩
  have e1 : (xdn (xo f 2) l).1 = f.1 := by rw [xdn_all]; rfl
  have ep : (xdn (xo f 2) l).2.2.1 = [] := by rw [xdn_all]; exact hp
  refine FB.b7 (f' := xdn (xo f 2) l) (x0 := f.1 - 1) h (by omega) e1 (fun x j _ _ hj => b1 x j hj) b2 r6 r5 (fun j h1 h2 h3 => r4 j (by omega)) (fun x hx => by rw [r3, upd_nt hx]) (fun hv => ?_) (fun h9 => by rw [r3, upd_at]; split; exact h9; exact sm_mx h9 (by omega))
  have ln : l ≠ [] := fun z => by rw [z] at hl; cases hl
  rw [r3, upd_at, hv, if_neg ln, shF0 hp, shF0 ep, mw0, mw0, hl]
theorem NC.putn {a b c e : Int32} {x0 : Nat} (h : NC d s k) (h33 : kr k 33 (k.1 32) = xn x0) (hn : s.now = x0 + 1) (hx : x0 ≤ 1000000) : NC (d - 1) s (k189 k a b c e).1 := by
  have hf := fr_k189 k a b c e
  have ix : (kr k 33 (k.1 32)).toNatClampNeg = x0 := by rw [h33]; exact xn_nat (by omega)
  have e60 : (k189 k a b c e).1.2 60 = upd (k.2 60) x0 (k.2 60 x0 + 1) := by
    rw [k189_60, ix]
    show upd (k.2 60) x0 (k.2 60 (kr k 33 (k.1 32)).toNatClampNeg + 1) = _
    rw [ix]
  refine ⟨h.1, ?_⟩
  intro z x hx' hl
  rw [hf.1 8 rfl] at z
  rw [hf.1 53 rfl] at hx'
  have q := h.2 z x hx' hl
  rw [e60]
  by_cases c1 : x + 1 = s.now
  · rw [if_pos c1] at q ⊢
    have ex : x = x0 := by omega
    rw [q, ex, upd_at, Int32.add_assoc]
    congr 1
    rw [Int32.add_comm, Int32.sub_add_cancel]
  · rw [if_neg c1] at q ⊢
    rw [q, upd_nt (by omega)]
/-- locals that waited, in the reference -/
theorem rv2_go {y1 y2 y3 y4 : Int32} {x0 B : Nat} : ∀ (p : List xR) (n m : Nat) (f : xF) (k : kS), CL k (f :: r) → kr k 33 (k.1 32) = xn x0 → kr k 34 (k.1 32) = xn B → k.1 24 = xn (B + m) → (kL (f :: r)).length = B + m → x0 ≤ 1000000 → B + m + p.length ≤ 1000000 → k.1 20 = xn (n + p.length) → n + p.length ≤ 1000000 → (∀ j q, p[j]? = some q → (k.2 21 (n + j) = 2 ↔ q.2.1 &&& 4 ≠ 0) ∧ (q.2.1 = 0 ∨ q.2.1 = 2 ∨ q.2.1 = 6)) → ∃ m' k', kwh (k241b16 y1 y2 y3 y4) m' (k, xn n) = (1, (k', xn (n + p.length))) ∧ CL k' ((f.1, f.2.1 ++ p.map rev1, f.2.2.1, f.2.2.2.1, f.2.2.2.2) :: r) ∧ k'.2 58 = upd (k.2 58) x0 (if p = [] then k.2 58 x0 else mxn (k.2 58 x0) (m + p.length)) ∧ (∀ j, (j = 54 ∨ j = 55 ∨ j = 56 ∨ j = 57 ∨ j = 59 ∨ j = 60) → k'.2 j = k.2 j) ∧ k'.1 53 = k.1 53 ∧ k'.2 21 = k.2 21 ∧ (k'.1 8 = 0 → k.1 8 = 0) ∧ kr k' 33 (k'.1 32) = xn x0 := by
  intro p
  induction p with
  | nil =>
    intro n m f k h h33 h34 h24 hk hx hz h20 hn hq
    have e : k241b16 y1 y2 y3 y4 (k, xn n) = (1, (k, xn n)) := by
      unfold k241b16
      rw [if_pos (by show k.1 20 ≤ xn n; rw [h20]; exact Int32.le_refl _)]
    refine ⟨1, k, by rw [kwh_out (by rw [e]; exact Nat.succ_ne_zero _), e]; rfl, ?_, by rw [if_pos rfl, upd_id], fun _ _ => rfl, rfl, rfl, id, h33⟩
    show CL k ((f.1, f.2.1 ++ [], f.2.2.1, f.2.2.2.1, f.2.2.2.2) :: r)
    rw [List.append_nil]
    exact h
  | cons q p ih =>
    intro n m f k h h33 h34 h24 hk hx hz h20 hn hq
    have hl : (q :: p).length = p.length + 1 := rfl
    have hc : ¬ k.1 20 ≤ xn n := by rw [h20, i_le, xn_i (by omega), xn_i (by omega)]; omega
    obtain ⟨hq0, hq1⟩ := hq 0 q rfl
    have e21 : kr k 21 (xn n) = k.2 21 n := by
      show k.2 21 (xn n).toNatClampNeg = _
      rw [xn_nat (by omega)]
    have step : ∃ t c cl w, k241b16 y1 y2 y3 y4 (k, xn n) = (0, ((k196 k t c cl w).1, xn (n + 1))) ∧ (cl ≠ 0 ↔ k.2 21 n = 2) := by
      unfold k241b16
      dsimp only
      rw [if_neg hc, xn_succ (by omega), e21]
      by_cases c2 : k.2 21 n = 2
      · split
        · rw [if_neg (fun z => z c2)]
          exact ⟨_, _, 1, _, rfl, ⟨fun _ => c2, fun _ => by decide⟩⟩
        · rw [if_neg (fun z => z c2)]
          exact ⟨_, _, 1, _, rfl, ⟨fun _ => c2, fun _ => by decide⟩⟩
      · split
        · exact ⟨_, _, 0, _, rfl, ⟨fun z => absurd rfl z, fun z => absurd z c2⟩⟩
        · exact ⟨_, _, 0, _, rfl, ⟨fun z => absurd rfl z, fun z => absurd z c2⟩⟩
    obtain ⟨t, c, cl, w, e, ecl⟩ := step
    have d1 := dc2_196 (k := k) (t := t) (c := c) (cl := cl) (w := w)
    have hf := fr_k196 k t c cl w
    have e8 := k196_e8 (k := k) (t := t) (c := c) (cl := cl) (w := w)
    generalize (k196 k t c cl w).1 = k1 at e d1 hf e8
    have rv4 : (rev1 q).2.1 &&& 4 ≠ 0 ↔ q.2.1 &&& 4 ≠ 0 := by
      show (q.2.1 ||| 1) &&& 4 ≠ 0 ↔ _
      rcases hq1 with z | z | z <;> rw [z] <;> decide
    have c1 : CL k1 (xd f (rev1 q) :: r) := h.dc2 d1 (by rw [h24, hk]) (by omega) (ecl.trans (hq0.trans rv4.symm)) e8
    obtain ⟨n33, n34, n24⟩ := d1.nxt h33 h34 h24 (by omega)
    have e58 := d1.n58 h33 h34 h24 hx (by omega)
    have e21' : k1.2 21 = k.2 21 := hf.2 21 rfl
    have ea : n + (q :: p).length = n + 1 + p.length := by omega
    have hq' : ∀ j q', p[j]? = some q' → (k1.2 21 (n + 1 + j) = 2 ↔ q'.2.1 &&& 4 ≠ 0) ∧ (q'.2.1 = 0 ∨ q'.2.1 = 2 ∨ q'.2.1 = 6) := fun j q' hj => by
      have z := hq (j + 1) q' (by rw [List.getElem?_cons_succ]; exact hj)
      rw [e21', show n + 1 + j = n + (j + 1) by omega]
      exact z
    obtain ⟨m', k', r1, r2, r3, r4, r5, r6, r7, r8⟩ := ih (n + 1) (m + 1) (xd f (rev1 q)) k1 c1 n33 n34 n24 (by rw [kL_xd, hk]; omega) hx (by omega) (by rw [hf.1 20 rfl, h20, ea]) (by omega) hq'
    rw [← ea] at r1
    have el : f.2.1 ++ (q :: p).map rev1 = (f.2.1 ++ [rev1 q]) ++ p.map rev1 := by
      rw [List.append_assoc]
      rfl
    refine ⟨m' + 1, k', by rw [kwh_go (by rw [e]), e]; exact r1, by rw [el]; exact r2, ?_, fun j hj => (r4 j hj).trans (d1.2.2.2.2.2.2.2 j hj), r5.trans d1.2.2.2.2.2.2.1, r6.trans e21', fun z => e8 (r7 z), r8⟩
    rw [r3, e58, upd_at, upd_upd, if_neg (List.cons_ne_nil q p)]
    congr 1
    by_cases c : p = []
    · rw [if_pos c, c]
      rfl
    · rw [if_neg c, mxn_mxn (by omega) (by omega), show m + (q :: p).length = m + 1 + p.length by omega]
/-- how many are to be closed -/
def nc4 : List xR → Int32
  | [] => 0
  | q :: p => (if q.2.1 &&& 4 ≠ 0 then 1 else 0) + nc4 p
theorem b99_go {y2 y3 y4 : Int32} {n x0 : Nat} : ∀ (p : List xR) (i : Nat) (k : kS) (d : Int32), NC d s k → kr k 33 (k.1 32) = xn x0 → s.now = x0 + 1 → x0 ≤ 1000000 → y2 = xn n → y4 = xn (i + p.length) → n + i + p.length ≤ 1000000 → (∀ j q, p[j]? = some q → (k.2 21 (n + i + j) = 2 ↔ q.2.1 &&& 4 ≠ 0)) → ∃ m k', kwh (k241b99 y2 y3 y4) m (k, xn i) = (1, (k', xn (i + p.length))) ∧ NC (d - nc4 p) s k' := by
  intro p
  induction p with
  | nil =>
    intro i k d h h33 hnw hx hy2 hy4 hn hq
    have e : k241b99 y2 y3 y4 (k, xn i) = (1, (k, xn i)) := by
      unfold k241b99
      rw [if_pos (by show y4 ≤ xn i; rw [hy4]; exact Int32.le_refl _)]
    exact ⟨1, k, by rw [kwh_out (by rw [e]; exact Nat.succ_ne_zero _), e]; rfl, h.eq (Int32.sub_zero d).symm⟩
  | cons q p ih =>
    intro i k d h h33 hnw hx hy2 hy4 hn hq
    have hl : (q :: p).length = p.length + 1 := rfl
    have hc : ¬ y4 ≤ xn i := by rw [hy4, i_le, xn_i (by omega), xn_i (by omega)]; omega
    have e21 : kr k 21 (y2 + xn i) = k.2 21 (n + i) := by
      show k.2 21 (y2 + xn i).toNatClampNeg = _
      rw [hy2, xn_add (by omega), xn_nat (by omega)]
    have hq0 := hq 0 q rfl
    rw [Nat.add_zero] at hq0
    have ea : i + (q :: p).length = i + 1 + p.length := by omega
    by_cases c2 : k.2 21 (n + i) = 2
    · have e : ∃ a b c e', k241b99 y2 y3 y4 (k, xn i) = (0, ((k189 k a b c e').1, xn (i + 1))) := by
        unfold k241b99
        dsimp only
        rw [if_neg hc, e21, if_neg (fun z => z c2), xn_succ (by omega)]
        exact ⟨_, _, _, _, rfl⟩
      obtain ⟨a, b, c, e', e⟩ := e
      have hf := fr_k189 k a b c e'
      have h1 := h.putn (a := a) (b := b) (c := c) (e := e') h33 hnw hx
      generalize (k189 k a b c e').1 = k1 at e hf h1
      have n33 : kr k1 33 (k1.1 32) = xn x0 := by
        unfold kr at h33 ⊢
        rw [hf.1 32 rfl, hf.2 33 rfl]
        exact h33
      obtain ⟨m, k', r1, r2⟩ := ih (i + 1) k1 (d - 1) h1 n33 hnw hx hy2 (by rw [hy4, ea]) (by omega) (fun j q' hj => by
        have z := hq (j + 1) q' (by rw [List.getElem?_cons_succ]; exact hj)
        rw [hf.2 21 rfl, show n + (i + 1) + j = n + i + (j + 1) by omega]
        exact z)
      rw [← ea] at r1
      refine ⟨m + 1, k', by rw [kwh_go (by rw [e]), e]; exact r1, r2.eq ?_⟩
      show d - 1 - nc4 p = d - ((if q.2.1 &&& 4 ≠ 0 then 1 else 0) + nc4 p)
      rw [if_pos (hq0.mp c2), Int32.sub_eq_add_neg, Int32.sub_eq_add_neg, Int32.sub_eq_add_neg, Int32.neg_add, Int32.add_assoc, Int32.sub_eq_add_neg]
    · have e : k241b99 y2 y3 y4 (k, xn i) = (0, (k, xn (i + 1))) := by
        unfold k241b99
        dsimp only
        rw [if_neg hc, e21, if_pos c2, xn_succ (by omega)]
      obtain ⟨m, k', r1, r2⟩ := ih (i + 1) k d h h33 hnw hx hy2 (by rw [hy4, ea]) (by omega) (fun j q' hj => by
        have z := hq (j + 1) q' (by rw [List.getElem?_cons_succ]; exact hj)
        rw [show n + (i + 1) + j = n + i + (j + 1) by omega]
        exact z)
      rw [← ea] at r1
      refine ⟨m + 1, k', by rw [kwh_go (by rw [e]), e]; exact r1, r2.eq ?_⟩
      show d - nc4 p = d - ((if q.2.1 &&& 4 ≠ 0 then 1 else 0) + nc4 p)
      rw [if_neg (fun z => c2 (hq0.mpr z)), Int32.zero_add]
end CNL
