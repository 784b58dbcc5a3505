/-! THE WALK OVER BOTH: a for's names and its block -/
noncomputable def cdn (i0 : Nat) : Nat → cS → cS
  | 0, s => s
  | n + 1, s => (c74 (cdn i0 n s) (c104 (cdn i0 n s) (xn (i0 + 2 * n))) 1 (xn (i0 + 2 * n))).1
noncomputable def kdn (i0 : Nat) : Nat → kS → kS
  | 0, k => k
  | n + 1, k => (k196 (kdn i0 n k) (kr (kdn i0 n k) 2 (xn (i0 + 2 * n))) 0 0 (xn (i0 + 2 * n))).1
section FOR
variable {L : List xR} {k0 k k' : kS} {T V W a t v w i0 : Nat} {s s' : cS} {X X' : List xF} {f : xF} {r : List xF} {x y y1 y2 y3 y4 y5 y6 g p q c : Int32} {rc : cRC}
theorem dn_sg {b : Nat} (h : SG L k0 T V W a s k (f :: r) t v w) (ho : OU b s k (f :: r)) (hp : f.2.2.1 = []) : ∀ {n : Nat}, i0 + 2 * n ≤ a + 1 → szX (f :: r) + n ≤ 8 * a + 8 → b + n ≤ bd a → ∃ l : List xR, l.length = n ∧ SG L k0 T V W a (cdn i0 n s) (kdn i0 n k) (xdn f l :: r) t v w ∧ OU (b + n) (cdn i0 n s) (kdn i0 n k) (xdn f l :: r) := by
  intro n
  induction n with
  | zero => intro _ _ _; exact ⟨[], rfl, h, ho⟩
  | succ n ih =>
    intro hi hz hbn
    obtain ⟨l, hl, h1, o1⟩ := ih (by omega) (by omega) (by omega)
    have hle := h1.le
    have hp1 : (xdn f l).2.2.1 = [] := by rw [xdn_all]; exact hp
    rcases h1.1.1.kat (i := i0 + 2 * n) (by omega) with ⟨p, p1, p2, p3, p4, p5, -⟩ | ⟨p1, -⟩
    · have n1 := RN.dcl (t := p.2.1) (st := 1) (w := xn (i0 + 2 * n)) (c := 0) (cl := 0) (w' := xn (i0 + 2 * n)) h1.1.2.1 h1.SZ hp1 (by decide) (by decide)
      refine ⟨l ++ [(p.2.1, 1, 0, 0)], by rw [List.length_append, hl]; rfl, ?_⟩
      rw [xdn_snoc]
      show SG L k0 T V W a (c74 (cdn i0 n s) (c104 (cdn i0 n s) (xn (i0 + 2 * n))) 1 (xn (i0 + 2 * n))).1 (k196 (kdn i0 n k) (kr (kdn i0 n k) 2 (xn (i0 + 2 * n))) 0 0 (xn (i0 + 2 * n))).1 _ t v w ∧ OU (b + (n + 1)) (c74 (cdn i0 n s) (c104 (cdn i0 n s) (xn (i0 + 2 * n))) 1 (xn (i0 + 2 * n))).1 (k196 (kdn i0 n k) (kr (kdn i0 n k) 2 (xn (i0 + 2 * n))) 0 0 (xn (i0 + 2 * n))).1 _
      rw [p4, p5]
      have o2 : OU (b + (n + 1)) (c74 (cdn i0 n s) p.2.1 1 (xn (i0 + 2 * n))).1 (k196 (kdn i0 n k) p.2.1 0 0 (xn (i0 + 2 * n))).1 (xd (xdn f l) (p.2.1, 1, 0, 0) :: r) := OU.dcl o1 (by have := h1.bl; omega) h1.1.2.1.2.1 h1.SZ ((fr_c74 _ _ _ _).ou rfl)
      exact ⟨h1.nam (fr_c74 _ _ _ _) (fr_k196 _ _ _ _ _) n1 (by rw [sz_xd, sz_xdn]; omega) (o2.mono (by omega)), o2⟩
    · exact absurd p1 (by omega)
theorem xn_2 {i0 t : Nat} (h : i0 + 2 * t ≤ 1000000) : xn i0 + 2 * xn t = xn (i0 + 2 * t) := by
  have e : (2 : Int32) * xn t = xn (2 * t) := xn_eq (by rw [i_mul (show (2 : Int32).toInt = 2 from rfl) (xn_i (by omega)) (by omega) (by omega)]; omega) (by omega)
  rw [e, xn_add (by omega)]
theorem cdn_fin {n : Nat} (hn : n ≤ 16384) (hi : i0 + 2 * n ≤ 1000000) : kfin (c142b9 (xn i0) (xn n)) (s, 0) = (1, (cdn i0 n s, xn n)) := by
  have key : ∀ d t, t + d = n → ∃ m, kwh (c142b9 (xn i0) (xn n)) m (cdn i0 t s, xn t) = (1, (cdn i0 n s, xn n)) := by
    intro d
    induction d with
    | zero =>
      intro t ht
      obtain rfl : t = n := by omega
      have e : c142b9 (xn i0) (xn t) (cdn i0 t s, xn t) = (1, (cdn i0 t s, xn t)) := by
        unfold c142b9
        rw [if_pos (by rw [i_le]; exact Int.le_refl _)]
      refine ⟨1, ?_⟩
      rw [kwh_out (by rw [e]; exact Nat.succ_ne_zero _), e]
    | succ d ih =>
      intro t ht
      have e : c142b9 (xn i0) (xn n) (cdn i0 t s, xn t) = (0, (cdn i0 (t + 1) s, xn (t + 1))) := by
        unfold c142b9
        rw [if_neg (by rw [i_le, xn_i (by omega), xn_i (by omega)]; omega), if_neg (by rw [i_lt, xn_i (by omega)]; have : (16384 : Int32).toInt = 16384 := rfl; omega)]
        show (0, ((c74 (cdn i0 t s) (c104 (cdn i0 t s) (xn i0 + 2 * xn t)) 1 (xn i0 + 2 * xn t)).1, xn t + 1)) = _
        rw [xn_2 (by omega), xn_succ (by omega)]
        rfl
      exact kw_step (by rw [e]) (by rw [e]; exact ih (t + 1) (by omega))
  exact kfin_of (key n 0 (by omega)) (Nat.succ_ne_zero _)
theorem kdn_fin {n : Nat} (hi : i0 + 2 * n ≤ 1000000) (hy : y1 + 1 = xn i0) : kfin (k257b90 y1 (xn n) y4 y5 y6) (k, 0) = (1, (kdn i0 n k, xn n)) := by
  have key : ∀ d t, t + d = n → ∃ m, kwh (k257b90 y1 (xn n) y4 y5 y6) m (kdn i0 t k, xn t) = (1, (kdn i0 n k, xn n)) := by
    intro d
    induction d with
    | zero =>
      intro t ht
      obtain rfl : t = n := by omega
      have e : k257b90 y1 (xn t) y4 y5 y6 (kdn i0 t k, xn t) = (1, (kdn i0 t k, xn t)) := by
        unfold k257b90
        rw [if_pos (by rw [i_le]; exact Int.le_refl _)]
      refine ⟨1, ?_⟩
      rw [kwh_out (by rw [e]; exact Nat.succ_ne_zero _), e]
    | succ d ih =>
      intro t ht
      have e : k257b90 y1 (xn n) y4 y5 y6 (kdn i0 t k, xn t) = (0, (kdn i0 (t + 1) k, xn (t + 1))) := by
        unfold k257b90
        rw [if_neg (by rw [i_le, xn_i (by omega), xn_i (by omega)]; omega), hy]
        show (0, ((k196 (kdn i0 t k) (kr (kdn i0 t k) 2 (xn i0 + 2 * xn t)) 0 0 (xn i0 + 2 * xn t)).1, xn t + 1)) = _
        rw [xn_2 (by omega), xn_succ (by omega)]
        rfl
      exact kw_step (by rw [e]) (by rw [e]; exact ih (t + 1) (by omega))
  exact kfin_of (key n 0 (by omega)) (Nat.succ_ne_zero _)
/-- a for's block: the class has read its end, the reference is about to -/
def E142 (rc : cRC) (L : List xR) : Prop := ∀ (i0 n a : Nat) (s : cS) (k : kS) (f : xF) (r : List xF) (t v w : Nat) (g p q c : Int32), SE 1 L k t v w a s k (f :: r) t v w → f.2.2.1 = [] → i0 + 2 * n ≤ a + 1 → szX (f :: r) + n ≤ 8 * a → (∃ b, b + n ≤ bd a ∧ OU b s k (f :: r)) → RO L a (t + 5) (v + 4) → (∀ k', GT t g p q c k' → k183 (kf k' 10 (xn t)) ≠ 15 → (kst k').1 6 ≠ 0) → QC (fun s' k' _ => ∃ a' s5 X' l, a ≤ a' ∧ SG L k t v w a' s5 k' X' (t + 1) v w ∧ GT t g p q c k' ∧ XQ (xdn (xo f 1) l :: r) X' ∧ c53 s5 = 15 ∧ s' = (c81 (c78 (c55 s5).1 33 (c82 (c55 s5).1) 0 0).1).1) (k178 (k179 (kdn i0 n (k177 k 1).1) g p q c).1).1 (rc 142 s 0 (xn i0) (xn n) 0 0 0 0)
theorem fo_blk {n : Nat} (h52 : E52 rc L) (h : SE 1 L k t v w a s k (f :: r) t v w) (hp : f.2.2.1 = []) (hi : i0 + 2 * n ≤ a + 1) (hz : szX (f :: r) + n ≤ 8 * a) (hob : ∃ b, b + n ≤ bd a ∧ OU b s k (f :: r)) (hr : RO L a (t + 5) (v + 4)) (hF : ∀ k', GT t g p q c k' → k183 (kf k' 10 (xn t)) ≠ 15 → (kst k').1 6 ≠ 0) : QC (fun s' k' _ => ∃ a' s5 X' l, a ≤ a' ∧ SG L k t v w a' s5 k' X' (t + 1) v w ∧ GT t g p q c k' ∧ XQ (xdn (xo f 1) l :: r) X' ∧ c53 s5 = 15 ∧ s' = (c81 (c78 (c55 s5).1 33 (c82 (c55 s5).1) 0 0).1).1) (k178 (k179 (kdn i0 n (k177 k 1).1) g p q c).1).1 (c142 rc s (xn i0) (xn n)) := by
  have hle := h.le
  have h1 := h.bgn (kd := 1) hp (Or.inr ⟨rfl, rfl⟩) (by omega)
  obtain ⟨b0, hb0, ob0⟩ := hob
  have ob1 : OU b0 (c51 s).1 (k177 k 1).1 (xo f 1 :: r) := (OU.fr ob0 ((fr_c51 s).ou rfl) (fr_k177 k 1) rfl rfl).cut rfl (Nat.le_refl _) (Nat.le_refl _)
  obtain ⟨l, hl, h2, -⟩ := dn_sg (i0 := i0) (n := n) h1 ob1 hp hi (by rw [sz_xo, if_pos rfl]; omega) hb0
  have hB : XB (xdn (xo f 1) l :: r) := ⟨xdn (xo f 1) l, r, ((f.2.1 ++ f.2.2.1).length, [], [], 1), f.2.2.2.1, rfl, by rw [xdn_all]; exact hp, by rw [xdn_all]; rfl, by show (1 : Nat) ≠ 2; decide⟩
  unfold c142 c142_7 c142_53
  rw [cdn_fin (by omega) (by omega)]
  refine (bl_call h52 h2 hB (Nat.le_refl _) (Nat.le_refl _) (Nat.le_refl _) hr).bnd ?_
  rintro s6 k6 x6 (⟨a6, X6, v1, v2, v3, v4⟩ | ⟨v1, v2⟩)
  · show QC _ k6 (c142_57 rc s6)
    unfold c142_57
    by_cases c15 : c53 s6 = 15
    · obtain ⟨o, s7, o1, o3, o4, o5⟩ := v2.skl c15 lv15
      rw [c64_yes c15, o3, rbd_th (w := o.2.1) rfl]
      refine QC.ret ⟨a6, s6, X6, l, v1, v2, v4, v3, c15, ?_⟩
      rw [o3]
    · rw [rbd_thn (c64_no c15)]
      refine QC.stp (QC.thn (hF k6 v4 ?_))
      exact fun z => c15 (((v2.top (t' := t)).is (by decide) (by decide)).mpr z)
  · show QC _ k6 (c142_57 rc s6)
    unfold c142_57
    rw [rbd_thn (c64_no (fun z => v2 (Or.inr (Or.inr (Or.inr (Or.inl z))))))]
    exact QC.thn v1
abbrev QP (k k' : kS) : Prop := kFr 295147905179352825856 18300323042624482050048 k k'
set_option maxHeartbeats 20000000 in
/-- the end of a for -/
theorem fo_end {g' : xF} {d' hb b2 : xB} {bs : List xB} {s5 s8 s9 se : cS} {k7 k8 k9 : kS} (h : SG L k0 T V W a s5 k7 (g' :: r) t v w) (c15 : c53 s5 = 15) (hp : g'.2.2.1 = []) (hbl : g'.2.2.2.1 = d' :: hb :: b2 :: bs) (hd : d'.2.2.2 = 1) (hh : hb.2.2.2 = 2) (hg : hb.2.2.1 = []) (e8 : cFr 0 0 0 4 (c55 s5).1 s8) (e9 : cFr 0 0 0 4 (c81 s8).1 s9) (ee : cFr 0 0 0 4 (c143 s9).1 se) (f8 : QP k7 k8) (f9 : QP (k224 k8).1 k9) : ∃ k11, k199 (k256 k9 (xn hb.1)).1 15 = (k11, 1) ∧ SG L k0 T V W (a + 1) se k11 (xc (xc g') :: r) t v w := by
  have hle := h.le
  have h8k : SG L k0 T V W a s5 k8 (g' :: r) t v w := h.fr1 f8
  have c1 : cFr 51539607552 0 0 4 s5 s8 := by
    obtain ⟨o, s7, o1, o3, o4, o5⟩ := h.skl c15 lv15
    rw [o3] at e8
    exact cFr.trans (cFr.mono o5 rfl rfl rfl rfl) (cFr.mono e8 rfl rfl rfl rfl)
  have n8 : RN s8 k8 (g' :: r) := h8k.rn c1 (kFr.refl (F := 0) (A := 0))
  have wf := (RE.of n8).wb hbl
  have hst := k224_st n8.2.1 h.SZ hbl (by rw [hd]; decide) wf.1
  have n9 := RE.cll (e := 0) (RE.of n8) h.SZ hbl hp hd
  have r9 : RE 1 s9 k9 (xc g' :: r) := n9.frm e9 f9 rfl rfl rfl rfl rfl rfl rfl rfl rfl rfl rfl
  have ex : xc g' = (g'.1, g'.2.1.take d'.1, [], (hb.1, hb.2.1, hb.2.2.1 ++ xcb d', hb.2.2.2) :: b2 :: bs, g'.2.2.2.2) := by unfold xc; rw [hbl]
  have hz1 : szX (xc g' :: r) ≤ szX (g' :: r) := by have := sz_xc (r := r) hbl; omega
  have hzz : SZ (xc g' :: r) := SZ_of (by have := h.sz; omega)
  have hst9 : kr k9 40 (k9.1 37) = xn ((fUm r).length + (bUm (b2 :: bs)).length) := by
    show k9.2 40 (k9.1 37).toNatClampNeg = _
    rw [f9.2 40 rfl, f9.1 37 rfl]
    have eb : bUm (hb :: b2 :: bs) = bUm (b2 :: bs) := by
      show bUm (b2 :: bs) ++ hb.2.2.1.filter _ = _
      rw [hg]
      exact List.append_nil _
    rw [← eb]
    exact hst
  have hb1 : (xc g').2.2.2.1 = (hb.1, hb.2.1, hb.2.2.1 ++ xcb d', hb.2.2.2) :: b2 :: bs := by rw [ex]
  have n10 := RE.clh r9 hzz hb1 (by rw [ex]) hh hst9
  have hz2 : szX (xc (xc g') :: r) ≤ szX (xc g' :: r) := by have := sz_xc (r := r) hb1; omega
  have n11 : RE 0 (c143 s9).1 (k256 k9 (xn hb.1)).1 (xc (xc g') :: r) := RE.lcl (e := 0) n10 (by have : SZ (xc (xc g') :: r) := SZ_of (by have := h.sz; omega); have := this.g; omega)
  have n12 : RN se (k256 k9 (xn hb.1)).1 (xc (xc g') :: r) := n11.frm ee (kFr.refl (F := 0) (A := 0)) rfl rfl rfl rfl rfl rfl rfl rfl rfl rfl rfl
  have q4 : OU (bd a) (c143 s9).1 (k256 k9 (xn hb.1)).1 (xc (xc g') :: r) := by
    have q1 := OU.fr h.1.2.2.2.2.2 (c1.ou rfl) f8 rfl rfl
    have q2 := OU.fr q1 ((fr_c81 s8).ou rfl) (fr_k224 k8) rfl rfl
    have q3 := (OU.fr q2 (e9.ou rfl) f9 rfl rfl).cut (xc_1 hbl) (xc_2 hbl) (xc_3 hbl)
    exact (OU.fr q3 ((fr_c143 s9).ou rfl) (fr_k256 k9 (xn hb.1)) rfl rfl).cut (xc_1 hb1) (xc_2 hb1) (xc_3 hb1)
  have fk : KW k7 (k256 k9 (xn hb.1)).1 := kFr.trans (kFr.mono f8 rfl rfl) (kFr.trans (kFr.mono (fr_k224 k8) rfl rfl) (kFr.trans (kFr.mono f9 rfl rfl) (kFr.mono (fr_k256 k9 (xn hb.1)) rfl rfl)))
  have fc : CW (c55 s5).1 se := cFr.trans (cFr.mono e8 rfl rfl rfl rfl) (cFr.trans (cFr.mono (fr_c81 s8) rfl rfl rfl rfl) (cFr.trans (cFr.mono e9 rfl rfl rfl rfl) (cFr.trans (cFr.mono (fr_c143 s9) rfl rfl rfl rfl) (cFr.mono ee rfl rfl rfl rfl))))
  have wr10 : WR L a s5 (k256 k9 (xn hb.1)).1 := h.1.1.fr (cFr.refl (F := 0) (T := 0) (B := 0) (G := 0)) fk rfl rfl rfl rfl rfl
  rcases h.1.1.kd with ⟨o, o1, o2, -⟩ | ⟨-, o2, -⟩
  · have eo : o.1 = 15 := o2.symm.trans c15
    obtain ⟨u1, u2⟩ := wr10.le o1 (by rw [eo]; exact lv15.2.2.1 s5) (by rw [eo]; exact lv15.2.2.2 s5)
    generalize (k256 k9 (xn hb.1)).1 = k10 at n12 fk wr10 u2 q4
    have fl : kFr 48 0 k10 (kf (kf k10 4 (k10.1 4 + 1)) 5 (k10.1 5 - 1)) := kFr.sf (kFr.sf kFr.refl rfl) rfl
    refine ⟨kf (kf k10 4 (k10.1 4 + 1)) 5 (k10.1 5 - 1), ?_, ?_⟩
    · unfold k199 k200
      rw [if_pos ((wr10.is (by decide) (by decide)).mp c15)]
      rfl
    · rw [u1] at fc
      have w12 : WR L (a + 1) se (kf (kf k10 4 (k10.1 4 + 1)) 5 (k10.1 5 - 1)) := u2.fr fc (kFr.refl (F := 0) (A := 0)) rfl rfl rfl rfl rfl
      have fall : KB T V W k7 (kf (kf k10 4 (k10.1 4 + 1)) 5 (k10.1 5 - 1)) := (KB.fr fk rfl).trans (KB.fr fl rfl)
      refine ⟨⟨w12, n12.frm (cFr.refl (F := 0) (T := 0) (B := 0) (G := 0)) fl rfl rfl rfl rfl rfl rfl rfl rfl rfl rfl rfl, by have := h.sz; omega, ?_, h.1.2.2.2.2.1, (OU.fr q4 (ee.ou rfl) fl rfl rfl).mono (bd_mono (Nat.le_succ _))⟩, ⟨((fl.1 10 rfl).trans (fk.1 10 rfl)).trans h.2.1.1, ((fl.1 15 rfl).trans (fk.1 15 rfl)).trans h.2.1.2.1, ((fl.1 20 rfl).trans (fk.1 20 rfl)).trans h.2.1.2.2⟩, h.2.2.1.trans fall, by have := h.2.2.2; omega⟩
      rw [fl.1 53 rfl, fk.1 53 rfl]
      have := h.1.2.2.2.1
      omega
  · exact absurd (c15.symm.trans o2) (by decide)
end FOR
