/-! THE WALK OVER BOTH: the end of a for -/
section FOE
variable {L : List xR} {P : PT} {k0 k k' : kS} {T V W a t v w i0 : Nat} {s s' : cS} {X X' : List xF} {f : xF} {r : List xF} {x y y1 y2 y3 y4 y5 y6 g p q c : Int32} {rc : cRC}
abbrev QP (k k' : kS) : Prop := kFr 295147905179352825856 18300323042624482050048 k k'
set_option maxHeartbeats 2000000 in
theorem fo_fn2 {H' : List hE} {s5 se : cS} {k7 k10 : kS} (h : SG L (P.1, P.2.1, H') k0 T V W a s5 k7 X t v w) (c15 : c53 s5 = 15) (n12 : RN se k10 X') (hz : szX X' ≤ szX X) (q4 : OU (bd a) se k10 X') (fk : KW k7 k10) (fc : CW (c55 s5).1 se) (nc9 : NR 0 ([], []) P.2.2 se k10 X') (fb9 : FB se k10 (sh X')) (cl9 : CL k10 X') (lv9 : LVv [] se X') (hX : X' ≠ []) : ∃ k11, k199 k10 15 = (k11, 1) ∧ SG L P k0 T V W (a + 1) se k11 X' t v w := by
  have wr10 : WR L a s5 k10 := h.1.1.fr (cFr.refl (F := 0) (T := 0) (B := 0) (G := 0)) fk rfl rfl rfl rfl rfl
  rcases h.1.1.kd with ⟨o, o1, o2, -⟩ | ⟨-, o2, -⟩
  · have eo : o.1 = 15 := o2.symm.trans c15
    obtain ⟨u1, u2⟩ := wr10.le o1 (by rw [eo]; exact lv15.2.2.1 s5) (by rw [eo]; exact lv15.2.2.2 s5)
    have fl : kFr 48 0 k10 (kf (kf k10 4 (k10.1 4 + 1)) 5 (k10.1 5 - 1)) := kFr.sf (kFr.sf kFr.refl rfl) rfl
    refine ⟨kf (kf k10 4 (k10.1 4 + 1)) 5 (k10.1 5 - 1), ?_, ?_⟩
    · unfold k199 k200
      rw [if_pos ((wr10.is (by decide) (by decide)).mp c15)]
      rfl
    · have ts9 : TS s5 se := by
        have a0 : TS s5 (c55 s5).1 := by
          rw [u1]
          exact ⟨⟨rfl, rfl⟩, rfl, rfl⟩
        have a1 := TS.of fc rfl
        exact ⟨⟨a1.1.1.trans a0.1.1, a1.1.2.trans a0.1.2⟩, a1.2.1.trans a0.2.1, a1.2.2.trans a0.2.2⟩
      rw [u1] at fc
      have w12 : WR L (a + 1) se (kf (kf k10 4 (k10.1 4 + 1)) 5 (k10.1 5 - 1)) := u2.fr fc (kFr.refl (F := 0) (A := 0)) rfl rfl rfl rfl rfl
      have fall : KB T V W k7 (kf (kf k10 4 (k10.1 4 + 1)) 5 (k10.1 5 - 1)) := (KB.fr fk rfl).trans (KB.fr fl rfl)
      refine ⟨⟨w12, n12.frm (cFr.refl (F := 0) (T := 0) (B := 0) (G := 0)) fl rfl rfl rfl rfl rfl rfl rfl rfl rfl rfl rfl, by have := h.sz; omega, ?_, ⟨h.1.2.2.2.2.1.1, fb9.fr (cFr.refl (F := 0) (T := 0) (B := 0) (G := 0)) fl rfl rfl id rfl, cl9.fr fl rfl id, lv9⟩, (OU.fr q4 ((cFr.refl (F := 0) (T := 0) (B := 0) (G := 0)).ou rfl) fl rfl rfl).mono (bd_mono (Nat.le_succ _)), hX, ⟨[], rfl, nc9.fr (cFr.refl (F := 0) (T := 0) (B := 0) (G := 0)) fl rfl rfl rfl rfl id⟩⟩, ⟨((fl.1 10 rfl).trans (fk.1 10 rfl)).trans h.2.1.1, ((fl.1 15 rfl).trans (fk.1 15 rfl)).trans h.2.1.2.1, ((fl.1 20 rfl).trans (fk.1 20 rfl)).trans h.2.1.2.2⟩, h.2.2.1.trans fall, by have := h.2.2.2.1; omega, h.2.2.2.2.ts ts9 (Nat.le_succ _)⟩
      rw [fl.1 53 rfl, fk.1 53 rfl]
      have := h.1.2.2.2.1
      omega
  · exact absurd (c15.symm.trans o2) (by decide)
theorem fo_kb {k7 k8 k9 : kS} {n : Int32} (f8 : QP k7 k8) (f9 : QP (k224 k8).1 k9) : kFr 295147922908994600960 18300327546224109420544 k7 (k256 k9 n).1 := kFr.trans (kFr.mono f8 rfl rfl) (kFr.trans (kFr.mono (fr_k224 k8) rfl rfl) (kFr.trans (kFr.mono f9 rfl rfl) (kFr.mono (fr_k256 k9 n) rfl rfl)))
theorem fst_mk {α β : Type} (a : α) (b : β) : (a, b).1 = a := rfl
theorem c143_e (s : cS) : (c143 s).1 = (c132 (c81 s).1 (c81 s).1.now).1 := by
  have e : c143 s = ((c132 (c81 s).1 (c81 s).1.now).1, 0) := rfl
  exact (congrArg Prod.fst e).trans (fst_mk _ _)
theorem fo_lv {s5 s8 s9 se : cS} {n : Nat} (h : LVv [] s5 X) (e : fLv X' ++ [n] = fLv X ++ []) (c1 : cFr 51539607552 0 0 20 s5 s8) (e9 : cFr 0 0 0 20 (c81 s8).1 s9) (ee : cFr 0 0 0 20 (c143 s9).1 se) (hl : (s5.r (.s 28)).toInt < 1048576) : LVv [] se X' := by
  have a1 := (fr_c81 s9).2.1 28 rfl
  have a2 := e9.2.1 28 (Nat.zero_testBit _)
  have a3 := (fr_c81 s8).2.1 28 rfl
  have a4 := c1.2.1 28 (Nat.zero_testBit _)
  have r1 : (c81 s9).1.r (.s 28) = s5.r (.s 28) := a1.1.trans (a2.1.trans (a3.1.trans a4.1))
  have r2 : (c81 s9).1.c (.s 28) = s5.c (.s 28) := a1.2.trans (a2.2.trans (a3.2.trans a4.2))
  have l1 : LVv [n] (c81 s9).1 X' := h.same e r1 r2
  have l2 : LVv [] (c143 s9).1 X' := by
    rw [c143_e]
    exact l1.lcl (i := (c81 s9).1.now) (by rw [r1]; exact hl)
  exact l2.same rfl (ee.2.1 28 (Nat.zero_testBit _)).1 (ee.2.1 28 (Nat.zero_testBit _)).2
set_option maxHeartbeats 400000 in
/-- the end of a for -/
theorem fo_end {H' : List hE} {g' : xF} {d' hb b2 : xB} {bs : List xB} {s5 s8 s9 se : cS} {k7 k8 k9 : kS} (h : SG L (P.1, P.2.1, H') k0 T V W a s5 k7 (g' :: r) t v w) (c15 : c53 s5 = 15) (hp : g'.2.2.1 = []) (hbl : g'.2.2.2.1 = d' :: hb :: b2 :: bs) (hd : d'.2.2.2 = 1) (hh : hb.2.2.2 = 2) (hg : hb.2.2.1 = []) (e8 : cFr 0 0 0 20 (c55 s5).1 s8) (e9 : cFr 0 0 0 20 (c81 s8).1 s9) (ee : cFr 0 0 0 20 (c143 s9).1 se) (f8 : QP k7 k8) (f9 : QP (k224 k8).1 k9) (nc9 : NR 0 ([], []) P.2.2 se (k256 k9 (xn hb.1)).1 (xc (xc g') :: r)) : ∃ k11, k199 (k256 k9 (xn hb.1)).1 15 = (k11, 1) ∧ SG L P k0 T V W (a + 1) se k11 (xc (xc g') :: r) t v w := by
  have hle := h.le
  have c1 : cFr 51539607552 0 0 20 s5 s8 := by
    obtain ⟨o, s7, o1, o3, o4, o5⟩ := h.skl c15 lv15
    rw [o3] at e8
    exact cFr.trans (cFr.mono o5 rfl rfl rfl rfl) (cFr.mono e8 rfl rfl rfl rfl)
  have n8 : RN s8 k8 (g' :: r) := h.rn c1 f8
  have wf := (RE.of n8).wb hbl
  have hst := k224_st n8.2.1 h.SZ hbl (by rw [hd]; decide) wf.1
  have n9 := RE.cll (e := 0) (RE.of n8) h.SZ hbl hp hd
  have r9 : RE 1 s9 k9 (xc g' :: r) := n9.frm e9 f9 rfl rfl rfl rfl rfl rfl rfl rfl rfl rfl rfl
  have ex : xc g' = (g'.1, g'.2.1.take d'.1, [], (hb.1, hb.2.1, hb.2.2.1 ++ xcb d', hb.2.2.2) :: b2 :: bs, g'.2.2.2.2) := by unfold xc; rw [hbl]
  have hz1 : szX (xc g' :: r) ≤ szX (g' :: r) := by have := sz_xc (r := r) hbl; omega
  have hzz : SZ (xc g' :: r) := SZ_of (by have := h.sz; omega)
  have hst9 : kr k9 40 (k9.1 37) = xn ((fUm r).length + (bUm (b2 :: bs)).length) := by
    show k9.2 40 (k9.1 37).toNatClampNeg = _
    rw [f9.2 40 rfl, f9.1 37 rfl]
    have eb : bUm (hb :: b2 :: bs) = bUm (b2 :: bs) := by
      show bUm (b2 :: bs) ++ hb.2.2.1.filter _ = _
      rw [hg]
      exact List.append_nil _
    rw [← eb]
    exact hst
  have hb1 : (xc g').2.2.2.1 = (hb.1, hb.2.1, hb.2.2.1 ++ xcb d', hb.2.2.2) :: b2 :: bs := by rw [ex]
  have n10 := RE.clh r9 hzz hb1 (by rw [ex]) hh hst9
  have hz2 : szX (xc (xc g') :: r) ≤ szX (xc g' :: r) := by have := sz_xc (r := r) hb1; omega
  have n11 : RE 0 (c143 s9).1 (k256 k9 (xn hb.1)).1 (xc (xc g') :: r) := by
    rw [c143_e]
    exact RE.lcl (e := 0) n10 (by have : SZ (xc (xc g') :: r) := SZ_of (by have := h.sz; omega); have := this.g; omega)
  have n12 : RN se (k256 k9 (xn hb.1)).1 (xc (xc g') :: r) := n11.frm ee (kFr.refl (F := 0) (A := 0)) rfl rfl rfl rfl rfl rfl rfl rfl rfl rfl rfl
  have q4 : OU (bd a) (c143 s9).1 (k256 k9 (xn hb.1)).1 (xc (xc g') :: r) := by
    have q1 := OU.fr h.1.2.2.2.2.2.1 (c1.ou rfl) f8 rfl rfl
    have q2 := OU.fr q1 ((fr_c81 s8).ou rfl) (fr_k224 k8) rfl rfl
    have q3 := (OU.fr q2 (e9.ou rfl) f9 rfl rfl).cut (xc_1 hbl) (xc_2 hbl) (xc_3 hbl)
    exact (OU.fr q3 ((fr_c143 s9).ou rfl) (fr_k256 k9 (xn hb.1)) rfl rfl).cut (xc_1 hb1) (xc_2 hb1) (xc_3 hb1)
  have fk : KW k7 (k256 k9 (xn hb.1)).1 := kFr.trans (kFr.mono f8 rfl rfl) (kFr.trans (kFr.mono (fr_k224 k8) rfl rfl) (kFr.trans (kFr.mono f9 rfl rfl) (kFr.mono (fr_k256 k9 (xn hb.1)) rfl rfl)))
  have fc : CW (c55 s5).1 se := cFr.trans (cFr.mono e8 rfl rfl rfl rfl) (cFr.trans (cFr.mono (fr_c81 s8) rfl rfl rfl rfl) (cFr.trans (cFr.mono e9 rfl rfl rfl rfl) (cFr.trans (cFr.mono (fr_c143 s9) rfl rfl rfl rfl) (cFr.mono ee rfl rfl rfl rfl))))
  have fq := fo_kb (n := xn hb.1) f8 f9
  have fk8 : kSt k7 (k256 k9 (xn hb.1)).1 := kSt.of fq rfl
  have bA : ∀ x j, se.b x j = s5.b x j := fun x j => (ee.2.2.1 x j (Nat.zero_testBit _)).trans (((fr_c143 s9).2.2.1 x j (Nat.zero_testBit _)).trans ((e9.2.2.1 x j (Nat.zero_testBit _)).trans (((fr_c81 s8).2.2.1 x j (Nat.zero_testBit _)).trans (c1.2.2.1 x j (Nat.zero_testBit _)))))
  have shx : sh (g' :: r) = sh (xc (xc g') :: r) := by
    rw [sh_eq (f := g') (f' := xc g') (r := r) (xc_1 hbl) (by rw [ex]) hp]
    exact sh_eq (xc_1 hb1) (by rw [xc_e hb1]) (by rw [ex])
  have fb9 : FB se (k256 k9 (xn hb.1)).1 (sh (xc (xc g') :: r)) := (h.fb.same (fun x j _ _ => bA x j) fk8 (fq.1 53 rfl) (fun j h1 h2 => fq.2 j (by rcases (by omega : j = 54 ∨ j = 55 ∨ j = 56 ∨ j = 57 ∨ j = 58 ∨ j = 59) with rfl | rfl | rfl | rfl | rfl | rfl <;> rfl))).eq shx
  have tk : ∀ (l : List xR) (n : Nat) (i : Nat) (q : xR), (kL r ++ l.take n)[i]? = some q → (kL r ++ l)[i]? = some q := fun l n i q hq => by
    by_cases c : i < (kL r).length
    · rw [List.getElem?_append_left c] at hq ⊢
      exact hq
    · rw [List.getElem?_append_right (by omega)] at hq ⊢
      rw [List.getElem?_take] at hq
      split at hq
      · exact hq
      · cases hq
  have cl9 : CL (k256 k9 (xn hb.1)).1 (xc (xc g') :: r) := by
    refine h.cc.sub (fun i q hq => ?_) fk8 (fq.2 30 rfl)
    have z : (kL r ++ ((xc g').2.1.take hb.1))[i]? = some q := by
      have e1 : (xc (xc g')).2.1 = (xc g').2.1.take hb.1 := by rw [xc_e hb1]
      rw [← e1]
      exact hq
    have z2 := tk _ _ _ _ z
    have z3 : (kL r ++ (g'.2.1.take d'.1))[i]? = some q := by
      have e1 : (xc g').2.1 = g'.2.1.take d'.1 := by rw [ex]
      rw [← e1]
      exact z2
    exact tk _ _ _ _ z3
  have lv9 : LVv [] se (xc (xc g') :: r) := by
    have hlp := h.1.2.1.1.lp
    have hg0 := h.SZ.g
    refine fo_lv h.lv ?_ c1 e9 ee (by omega) (n := d'.1)
    have e1 : bLv (xc (xc g')).2.2.2.1 = bLv (b2 :: bs) := by rw [xc_e hb1]; rfl
    have e2 : bLv g'.2.2.2.1 = (bLv (b2 :: bs) ++ (if hb.2.2.2 = 1 then [hb.1] else [])) ++ (if d'.2.2.2 = 1 then [d'.1] else []) := by rw [hbl]; rfl
    show (fLv r ++ bLv (xc (xc g')).2.2.2.1) ++ [d'.1] = (fLv r ++ bLv g'.2.2.2.1) ++ []
    rw [e1, e2, if_pos hd, if_neg (by rw [hh]; decide), List.append_nil, List.append_nil, List.append_assoc]
  exact fo_fn2 h c15 n12 (Nat.le_trans hz2 hz1) (OU.fr q4 (ee.ou rfl) (kFr.refl (F := 0) (A := 0)) rfl rfl) fk fc nc9 fb9 cl9 lv9 (fun z => nomatch z)
end FOE
