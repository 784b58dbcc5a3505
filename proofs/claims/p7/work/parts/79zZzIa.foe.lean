/-! THE WALK OVER BOTH: the end of a for -/
section FOE
variable {L : List xR} {k0 k k' : kS} {T V W a t v w i0 : Nat} {s s' : cS} {X X' : List xF} {f : xF} {r : List xF} {x y y1 y2 y3 y4 y5 y6 g p q c : Int32} {rc : cRC}
abbrev QP (k k' : kS) : Prop := kFr 295147905179352825856 18300323042624482050048 k k'
set_option maxHeartbeats 20000000 in
/-- the end of a for -/
theorem fo_end {g' : xF} {d' hb b2 : xB} {bs : List xB} {s5 s8 s9 se : cS} {k7 k8 k9 : kS} (h : SG L k0 T V W a s5 k7 (g' :: r) t v w) (c15 : c53 s5 = 15) (hp : g'.2.2.1 = []) (hbl : g'.2.2.2.1 = d' :: hb :: b2 :: bs) (hd : d'.2.2.2 = 1) (hh : hb.2.2.2 = 2) (hg : hb.2.2.1 = []) (e8 : cFr 0 0 0 4 (c55 s5).1 s8) (e9 : cFr 0 0 0 4 (c81 s8).1 s9) (ee : cFr 0 0 0 4 (c143 s9).1 se) (f8 : QP k7 k8) (f9 : QP (k224 k8).1 k9) : ∃ k11, k199 (k256 k9 (xn hb.1)).1 15 = (k11, 1) ∧ SG L k0 T V W (a + 1) se k11 (xc (xc g') :: r) t v w := by
  have hle := h.le
  have h8k : SG L k0 T V W a s5 k8 (g' :: r) t v w := h.fr1 f8
  have c1 : cFr 51539607552 0 0 4 s5 s8 := by
    obtain ⟨o, s7, o1, o3, o4, o5⟩ := h.skl c15 lv15
    rw [o3] at e8
    exact cFr.trans (cFr.mono o5 rfl rfl rfl rfl) (cFr.mono e8 rfl rfl rfl rfl)
  have n8 : RN s8 k8 (g' :: r) := h8k.rn c1 (kFr.refl (F := 0) (A := 0))
  have wf := (RE.of n8).wb hbl
  have hst := k224_st n8.2.1 h.SZ hbl (by rw [hd]; decide) wf.1
  have n9 := RE.cll (e := 0) (RE.of n8) h.SZ hbl hp hd
  have r9 : RE 1 s9 k9 (xc g' :: r) := n9.frm e9 f9 rfl rfl rfl rfl rfl rfl rfl rfl rfl rfl rfl
  have ex : xc g' = (g'.1, g'.2.1.take d'.1, [], (hb.1, hb.2.1, hb.2.2.1 ++ xcb d', hb.2.2.2) :: b2 :: bs, g'.2.2.2.2) := by unfold xc; rw [hbl]
  have hz1 : szX (xc g' :: r) ≤ szX (g' :: r) := by have := sz_xc (r := r) hbl; omega
  have hzz : SZ (xc g' :: r) := SZ_of (by have := h.sz; omega)
  have hst9 : kr k9 40 (k9.1 37) = xn ((fUm r).length + (bUm (b2 :: bs)).length) := by
    show k9.2 40 (k9.1 37).toNatClampNeg = _
    rw [f9.2 40 rfl, f9.1 37 rfl]
    have eb : bUm (hb :: b2 :: bs) = bUm (b2 :: bs) := by
      show bUm (b2 :: bs) ++ hb.2.2.1.filter _ = _
      rw [hg]
      exact List.append_nil _
    rw [← eb]
    exact hst
  have hb1 : (xc g').2.2.2.1 = (hb.1, hb.2.1, hb.2.2.1 ++ xcb d', hb.2.2.2) :: b2 :: bs := by rw [ex]
  have n10 := RE.clh r9 hzz hb1 (by rw [ex]) hh hst9
  have hz2 : szX (xc (xc g') :: r) ≤ szX (xc g' :: r) := by have := sz_xc (r := r) hb1; omega
  have n11 : RE 0 (c143 s9).1 (k256 k9 (xn hb.1)).1 (xc (xc g') :: r) := RE.lcl (e := 0) n10 (by have : SZ (xc (xc g') :: r) := SZ_of (by have := h.sz; omega); have := this.g; omega)
  have n12 : RN se (k256 k9 (xn hb.1)).1 (xc (xc g') :: r) := n11.frm ee (kFr.refl (F := 0) (A := 0)) rfl rfl rfl rfl rfl rfl rfl rfl rfl rfl rfl
  have q4 : OU (bd a) (c143 s9).1 (k256 k9 (xn hb.1)).1 (xc (xc g') :: r) := by
    have q1 := OU.fr h.1.2.2.2.2.2 (c1.ou rfl) f8 rfl rfl
    have q2 := OU.fr q1 ((fr_c81 s8).ou rfl) (fr_k224 k8) rfl rfl
    have q3 := (OU.fr q2 (e9.ou rfl) f9 rfl rfl).cut (xc_1 hbl) (xc_2 hbl) (xc_3 hbl)
    exact (OU.fr q3 ((fr_c143 s9).ou rfl) (fr_k256 k9 (xn hb.1)) rfl rfl).cut (xc_1 hb1) (xc_2 hb1) (xc_3 hb1)
  have fk : KW k7 (k256 k9 (xn hb.1)).1 := kFr.trans (kFr.mono f8 rfl rfl) (kFr.trans (kFr.mono (fr_k224 k8) rfl rfl) (kFr.trans (kFr.mono f9 rfl rfl) (kFr.mono (fr_k256 k9 (xn hb.1)) rfl rfl)))
  have fc : CW (c55 s5).1 se := cFr.trans (cFr.mono e8 rfl rfl rfl rfl) (cFr.trans (cFr.mono (fr_c81 s8) rfl rfl rfl rfl) (cFr.trans (cFr.mono e9 rfl rfl rfl rfl) (cFr.trans (cFr.mono (fr_c143 s9) rfl rfl rfl rfl) (cFr.mono ee rfl rfl rfl rfl))))
  have wr10 : WR L a s5 (k256 k9 (xn hb.1)).1 := h.1.1.fr (cFr.refl (F := 0) (T := 0) (B := 0) (G := 0)) fk rfl rfl rfl rfl rfl
  rcases h.1.1.kd with ⟨o, o1, o2, -⟩ | ⟨-, o2, -⟩
  · have eo : o.1 = 15 := o2.symm.trans c15
    obtain ⟨u1, u2⟩ := wr10.le o1 (by rw [eo]; exact lv15.2.2.1 s5) (by rw [eo]; exact lv15.2.2.2 s5)
    generalize (k256 k9 (xn hb.1)).1 = k10 at n12 fk wr10 u2 q4
    have fl : kFr 48 0 k10 (kf (kf k10 4 (k10.1 4 + 1)) 5 (k10.1 5 - 1)) := kFr.sf (kFr.sf kFr.refl rfl) rfl
    refine ⟨kf (kf k10 4 (k10.1 4 + 1)) 5 (k10.1 5 - 1), ?_, ?_⟩
    · unfold k199 k200
      rw [if_pos ((wr10.is (by decide) (by decide)).mp c15)]
      rfl
    · rw [u1] at fc
      have w12 : WR L (a + 1) se (kf (kf k10 4 (k10.1 4 + 1)) 5 (k10.1 5 - 1)) := u2.fr fc (kFr.refl (F := 0) (A := 0)) rfl rfl rfl rfl rfl
      have fall : KB T V W k7 (kf (kf k10 4 (k10.1 4 + 1)) 5 (k10.1 5 - 1)) := (KB.fr fk rfl).trans (KB.fr fl rfl)
      refine ⟨⟨w12, n12.frm (cFr.refl (F := 0) (T := 0) (B := 0) (G := 0)) fl rfl rfl rfl rfl rfl rfl rfl rfl rfl rfl rfl, by have := h.sz; omega, ?_, h.1.2.2.2.2.1, (OU.fr q4 (ee.ou rfl) fl rfl rfl).mono (bd_mono (Nat.le_succ _))⟩, ⟨((fl.1 10 rfl).trans (fk.1 10 rfl)).trans h.2.1.1, ((fl.1 15 rfl).trans (fk.1 15 rfl)).trans h.2.1.2.1, ((fl.1 20 rfl).trans (fk.1 20 rfl)).trans h.2.1.2.2⟩, h.2.2.1.trans fall, by have := h.2.2.2; omega⟩
      rw [fl.1 53 rfl, fk.1 53 rfl]
      have := h.1.2.2.2.1
      omega
  · exact absurd (c15.symm.trans o2) (by decide)
end FOE
