/-! THE WALK OVER BOTH: a for's names and its block -/
noncomputable def cdn (i0 : Nat) : Nat → cS → cS
  | 0, s => s
  | n + 1, s => (c74 (cdn i0 n s) (c104 (cdn i0 n s) (xn (i0 + 2 * n))) 1 (xn (i0 + 2 * n))).1
noncomputable def kdn (i0 : Nat) : Nat → kS → kS
  | 0, k => k
  | n + 1, k => (k196 (kdn i0 n k) (kr (kdn i0 n k) 2 (xn (i0 + 2 * n))) 0 0 (xn (i0 + 2 * n))).1
section FOR
variable {L : List xR} {P : PT} {k0 k k' : kS} {T V W a t v w i0 : Nat} {s s' : cS} {X X' : List xF} {f : xF} {r : List xF} {x y y1 y2 y3 y4 y5 y6 g p q c : Int32} {rc : cRC}
theorem dn_sg {b : Nat} (h : SG L P k0 T V W a s k (f :: r) t v w) (ho : OU b s k (f :: r)) (hp : f.2.2.1 = []) : ∀ {n : Nat}, i0 + 2 * n ≤ a + 1 → szX (f :: r) + n ≤ 8 * a + 8 → b + n ≤ bd a → ∃ l : List xR, l.length = n ∧ SG L P k0 T V W a (cdn i0 n s) (kdn i0 n k) (xdn f l :: r) t v w ∧ OU (b + n) (cdn i0 n s) (kdn i0 n k) (xdn f l :: r) := by
  intro n
  induction n with
  | zero => intro _ _ _; exact ⟨[], rfl, h, ho⟩
  | succ n ih =>
    intro hi hz hbn
    obtain ⟨l, hl, h1, o1⟩ := ih (by omega) (by omega) (by omega)
    have hle := h1.le
    have hp1 : (xdn f l).2.2.1 = [] := by rw [xdn_all]; exact hp
    rcases h1.1.1.kat (i := i0 + 2 * n) (by omega) with ⟨p, p1, p2, p3, p4, p5, -⟩ | ⟨p1, -⟩
    · have n1 := RN.dcl (t := p.2.1) (st := 1) (w := xn (i0 + 2 * n)) (c := 0) (cl := 0) (w' := xn (i0 + 2 * n)) h1.1.2.1 h1.SZ hp1 (by decide) (by decide)
      refine ⟨l ++ [(p.2.1, 1, 0, 0)], by rw [List.length_append, hl]; rfl, ?_⟩
      rw [xdn_snoc]
      show SG L P k0 T V W a (c74 (cdn i0 n s) (c104 (cdn i0 n s) (xn (i0 + 2 * n))) 1 (xn (i0 + 2 * n))).1 (k196 (kdn i0 n k) (kr (kdn i0 n k) 2 (xn (i0 + 2 * n))) 0 0 (xn (i0 + 2 * n))).1 _ t v w ∧ OU (b + (n + 1)) (c74 (cdn i0 n s) (c104 (cdn i0 n s) (xn (i0 + 2 * n))) 1 (xn (i0 + 2 * n))).1 (k196 (kdn i0 n k) (kr (kdn i0 n k) 2 (xn (i0 + 2 * n))) 0 0 (xn (i0 + 2 * n))).1 _
      rw [p4, p5]
      have o2 : OU (b + (n + 1)) (c74 (cdn i0 n s) p.2.1 1 (xn (i0 + 2 * n))).1 (k196 (kdn i0 n k) p.2.1 0 0 (xn (i0 + 2 * n))).1 (xd (xdn f l) (p.2.1, 1, 0, 0) :: r) := OU.dcl (b := b + n) o1 (by have := h1.bl; omega) h1.1.2.1.2.1 h1.SZ ((fr_c74 _ _ _ _).ou rfl)
      have fc := fr_c74 (cdn i0 n s) p.2.1 1 (xn (i0 + 2 * n))
      have fk := fr_k196 (kdn i0 n k) p.2.1 0 0 (xn (i0 + 2 * n))
      have hz' : SZ (xd (xdn f l) (p.2.1, 1, 0, 0) :: r) := SZ_of (by rw [sz_xd, sz_xdn]; omega)
      exact ⟨h1.nam fc fk n1 (by rw [sz_xd, sz_xdn]; omega) (o2.mono (by omega)) ⟨(fun z => nomatch z), (h1.nc.fr0 fc fk rfl rfl rfl rfl k196_e8 (fun z => absurd z (by decide))).xx rfl, FB.dcl h1.fb h1.1.2.1 h1.SZ hp1 n1 hz', CL.dcl (st := 0) (w := 0) h1.cc h1.1.2.1.2.1 h1.SZ (show (0 : Int32) ≠ 0 ↔ (1 : Int32) &&& 4 ≠ 0 from by decide), h1.lv.same rfl (fc.2.1 28 rfl).1 (fc.2.1 28 rfl).2⟩, o2⟩
    · exact absurd p1 (by omega)
theorem xn_2 {i0 t : Nat} (h : i0 + 2 * t ≤ 1000000) : xn i0 + 2 * xn t = xn (i0 + 2 * t) := by
  have e : (2 : Int32) * xn t = xn (2 * t) := xn_eq (by rw [i_mul (show (2 : Int32).toInt = 2 from rfl) (xn_i (by omega)) (by omega) (by omega)]; omega) (by omega)
  rw [e, xn_add (by omega)]
theorem cdn_fin {n : Nat} (hn : n ≤ 16384) (hi : i0 + 2 * n ≤ 1000000) : kfin (c142b9 (xn i0) (xn n)) (s, 0) = (1, (cdn i0 n s, xn n)) := by
  have key : ∀ d t, t + d = n → ∃ m, kwh (c142b9 (xn i0) (xn n)) m (cdn i0 t s, xn t) = (1, (cdn i0 n s, xn n)) := by
    intro d
    induction d with
    | zero =>
      intro t ht
      obtain rfl : t = n := by omega
      have e : c142b9 (xn i0) (xn t) (cdn i0 t s, xn t) = (1, (cdn i0 t s, xn t)) := by
        unfold c142b9
        rw [if_pos (by rw [i_le]; exact Int.le_refl _)]
      refine ⟨1, ?_⟩
      rw [kwh_out (by rw [e]; exact Nat.succ_ne_zero _), e]
    | succ d ih =>
      intro t ht
      have e : c142b9 (xn i0) (xn n) (cdn i0 t s, xn t) = (0, (cdn i0 (t + 1) s, xn (t + 1))) := by
        unfold c142b9
        rw [if_neg (by rw [i_le, xn_i (by omega), xn_i (by omega)]; omega), if_neg (by rw [i_lt, xn_i (by omega)]; have : (16384 : Int32).toInt = 16384 := rfl; omega)]
        show (0, ((c74 (cdn i0 t s) (c104 (cdn i0 t s) (xn i0 + 2 * xn t)) 1 (xn i0 + 2 * xn t)).1, xn t + 1)) = _
        rw [xn_2 (by omega), xn_succ (by omega)]
        rfl
      exact kw_step (by rw [e]) (by rw [e]; exact ih (t + 1) (by omega))
  exact kfin_of (key n 0 (by omega)) (Nat.succ_ne_zero _)
theorem kdn_fin {n : Nat} (hi : i0 + 2 * n ≤ 1000000) (hy : y1 + 1 = xn i0) : kfin (k257b90 y1 (xn n) y4 y5 y6) (k, 0) = (1, (kdn i0 n k, xn n)) := by
  have key : ∀ d t, t + d = n → ∃ m, kwh (k257b90 y1 (xn n) y4 y5 y6) m (kdn i0 t k, xn t) = (1, (kdn i0 n k, xn n)) := by
    intro d
    induction d with
    | zero =>
      intro t ht
      obtain rfl : t = n := by omega
      have e : k257b90 y1 (xn t) y4 y5 y6 (kdn i0 t k, xn t) = (1, (kdn i0 t k, xn t)) := by
        unfold k257b90
        rw [if_pos (by rw [i_le]; exact Int.le_refl _)]
      refine ⟨1, ?_⟩
      rw [kwh_out (by rw [e]; exact Nat.succ_ne_zero _), e]
    | succ d ih =>
      intro t ht
      have e : k257b90 y1 (xn n) y4 y5 y6 (kdn i0 t k, xn t) = (0, (kdn i0 (t + 1) k, xn (t + 1))) := by
        unfold k257b90
        rw [if_neg (by rw [i_le, xn_i (by omega), xn_i (by omega)]; omega), hy]
        show (0, ((k196 (kdn i0 t k) (kr (kdn i0 t k) 2 (xn i0 + 2 * xn t)) 0 0 (xn i0 + 2 * xn t)).1, xn t + 1)) = _
        rw [xn_2 (by omega), xn_succ (by omega)]
        rfl
      exact kw_step (by rw [e]) (by rw [e]; exact ih (t + 1) (by omega))
  exact kfin_of (key n 0 (by omega)) (Nat.succ_ne_zero _)
/-- a for's block: the class has read its end, the reference is about to -/
def E142 (rc : cRC) (L : List xR) : Prop := ∀ {P : PT} (i0 n a : Nat) (s : cS) (k : kS) (f : xF) (r : List xF) (t v w : Nat) (g p q c : Int32), SE 1 L P k t v w a s k (f :: r) t v w → f.2.2.1 = [] → i0 + 2 * n ≤ a + 1 → szX (f :: r) + n ≤ 8 * a → (∃ b, b + n ≤ bd a ∧ OU b s k (f :: r)) → RO L a (t + 5) (v + 4) → (∀ k', GT t g p q c k' → k183 (kf k' 10 (xn t)) ≠ 15 → (kst k').1 6 ≠ 0) → QC (fun s' k' _ => ∃ a' s5 X' l, a ≤ a' ∧ SG L P k t v w a' s5 k' X' (t + 1) v w ∧ GT t g p q c k' ∧ XQ (xdn (xo f 1) l :: r) X' ∧ c53 s5 = 15 ∧ s' = (c81 (c78 (c55 s5).1 33 (c82 (c55 s5).1) 0 0).1).1) (k178 (k179 (kdn i0 n (k177 k 1).1) g p q c).1).1 (rc 142 s 0 (xn i0) (xn n) 0 0 0 0)
theorem fo_blk {n : Nat} (h52 : E52 rc L) (h : SE 1 L P k t v w a s k (f :: r) t v w) (hp : f.2.2.1 = []) (hi : i0 + 2 * n ≤ a + 1) (hz : szX (f :: r) + n ≤ 8 * a) (hob : ∃ b, b + n ≤ bd a ∧ OU b s k (f :: r)) (hr : RO L a (t + 5) (v + 4)) (hF : ∀ k', GT t g p q c k' → k183 (kf k' 10 (xn t)) ≠ 15 → (kst k').1 6 ≠ 0) : QC (fun s' k' _ => ∃ a' s5 X' l, a ≤ a' ∧ SG L P k t v w a' s5 k' X' (t + 1) v w ∧ GT t g p q c k' ∧ XQ (xdn (xo f 1) l :: r) X' ∧ c53 s5 = 15 ∧ s' = (c81 (c78 (c55 s5).1 33 (c82 (c55 s5).1) 0 0).1).1) (k178 (k179 (kdn i0 n (k177 k 1).1) g p q c).1).1 (c142 rc s (xn i0) (xn n)) := by
  have hle := h.le
  have h1 := h.bgn (kd := 1) hp (Or.inr ⟨rfl, rfl⟩) (by omega)
  obtain ⟨b0, hb0, ob0⟩ := hob
  have ob1 : OU b0 (c51 s).1 (k177 k 1).1 (xo f 1 :: r) := (OU.fr ob0 ((fr_c51 s).ou rfl) (fr_k177 k 1) rfl rfl).cut rfl (Nat.le_refl _) (Nat.le_refl _)
  obtain ⟨l, hl, h2, -⟩ := dn_sg (i0 := i0) (n := n) h1 ob1 hp hi (by rw [sz_xo, if_pos rfl]; omega) hb0
  have hB : XB (xdn (xo f 1) l :: r) := ⟨xdn (xo f 1) l, r, ((f.2.1 ++ f.2.2.1).length, [], [], 1), f.2.2.2.1, rfl, by rw [xdn_all]; exact hp, by rw [xdn_all]; rfl, by show (1 : Nat) ≠ 2; decide⟩
  unfold c142 c142_7 c142_53
  rw [cdn_fin (by omega) (by omega)]
  refine (bl_call h52 h2 hB (Nat.le_refl _) (Nat.le_refl _) (Nat.le_refl _) hr).bnd ?_
  rintro s6 k6 x6 (⟨a6, X6, v1, v2, v3, v4⟩ | ⟨v1, v2⟩)
  · show QC _ k6 (c142_57 rc s6)
    unfold c142_57
    by_cases c15 : c53 s6 = 15
    · obtain ⟨o, s7, o1, o3, o4, o5⟩ := v2.skl c15 lv15
      rw [c64_yes c15, o3, rbd_th (w := o.2.1) rfl]
      refine QC.ret ⟨a6, s6, X6, l, v1, v2, v4, v3, c15, ?_⟩
      rw [o3]
    · rw [rbd_thn (c64_no c15)]
      refine QC.stp (QC.thn (hF k6 v4 ?_))
      exact fun z => c15 (((v2.top (t' := t)).is (by decide) (by decide)).mpr z)
  · show QC _ k6 (c142_57 rc s6)
    unfold c142_57
    rw [rbd_thn (c64_no (fun z => v2 (Or.inr (Or.inr (Or.inr (Or.inl z))))))]
    exact QC.thn v1
end FOR
