/-! HOW MUCH THE NAMES ARE; PILES OF THE REFERENCE -/
def szF (f : xF) : Nat := (f.2.1.length + f.2.2.1.length) + f.2.2.2.1.length + (bLab f.2.2.2.1).length + (bGo f.2.2.2.1).length + bLp f.2.2.2.1 + 1
def szX : List xF → Nat
  | [] => 0
  | f :: r => szX r + szF f
section SZX
variable {f : xF} {r : List xF} {b b2 : xB} {bs : List xB} {q : xR}
theorem bBl_ln {o l g : Nat} : ∀ {bs : List xB}, (bBl o l g bs).length = bs.length := by
  intro bs
  induction bs with
  | nil => rfl
  | cons b r ih =>
    show (bBl o l g r ++ [_]).length = r.length + 1
    rw [List.length_append, ih]
    rfl
theorem szX_eq : ∀ {X : List xF}, szX X = (fL X).length + (fBl X).length + (fLab X).length + (fGo X).length + fLp X + X.length := by
  intro X
  induction X with
  | nil => rfl
  | cons f r ih =>
    have e1 : (fL (f :: r)).length = (fL r).length + (f.2.1.length + f.2.2.1.length) := by show (fL r ++ (f.2.1 ++ f.2.2.1)).length = _; rw [List.length_append, List.length_append]
    have e2 : (fBl (f :: r)).length = (fBl r).length + f.2.2.2.1.length := by show (fBl r ++ bBl _ _ _ f.2.2.2.1).length = _; rw [List.length_append, bBl_ln]
    have e3 : (fLab (f :: r)).length = (fLab r).length + (bLab f.2.2.2.1).length := by show (fLab r ++ bLab f.2.2.2.1).length = _; rw [List.length_append]
    have e4 : (fGo (f :: r)).length = (fGo r).length + (bGo f.2.2.2.1).length := by show (fGo r ++ bGo f.2.2.2.1).length = _; rw [List.length_append]
    have e5 : fLp (f :: r) = fLp r + bLp f.2.2.2.1 := rfl
    have e6 : (f :: r).length = r.length + 1 := rfl
    have e7 : szX (f :: r) = szX r + szF f := rfl
    rw [e1, e2, e3, e4, e5, e6, e7, ih]
    unfold szF
    omega
theorem SZ_of {X : List xF} (h : szX X ≤ 1000000) : SZ X := by
  rw [szX_eq] at h
  exact h
theorem sz_xo {kd : Nat} : szX (xo f kd :: r) = szX (f :: r) + 1 + (if kd = 1 then 1 else 0) := by
  show szX r + szF (xo f kd) = szX r + szF f + 1 + _
  have e : szF (xo f kd) = szF f + 1 + (if kd = 1 then 1 else 0) := by
    unfold szF
    show (f.2.1.length + f.2.2.1.length) + (f.2.2.2.1.length + 1) + (bLab f.2.2.2.1 ++ []).length + (bGo f.2.2.2.1 ++ []).length + (bLp f.2.2.2.1 + (if kd = 1 then 1 else 0)) + 1 = _
    rw [List.append_nil, List.append_nil]
    omega
  rw [e]
  omega
theorem sz_xdn {l : List xR} : szX (xdn f l :: r) = szX (f :: r) + l.length := by
  rw [xdn_all]
  show szX r + szF _ = szX r + szF f + _
  have e : szF (f.1, f.2.1 ++ l, f.2.2.1, f.2.2.2.1, f.2.2.2.2) = szF f + l.length := by
    unfold szF
    show ((f.2.1 ++ l).length + f.2.2.1.length) + f.2.2.2.1.length + (bLab f.2.2.2.1).length + (bGo f.2.2.2.1).length + bLp f.2.2.2.1 + 1 = _
    rw [List.length_append]
    omega
  rw [e]
  omega
theorem sz_xd : szX (xd f q :: r) = szX (f :: r) + 1 := sz_xdn (l := [q])
theorem sz_xw : szX (xw f q :: r) = szX (f :: r) + 1 := by
  show szX r + szF (xw f q) = szX r + szF f + 1
  have e : szF (xw f q) = szF f + 1 := by
    unfold szF
    show (f.2.1.length + (f.2.2.1 ++ [q]).length) + f.2.2.2.1.length + (bLab f.2.2.2.1).length + (bGo f.2.2.2.1).length + bLp f.2.2.2.1 + 1 = _
    rw [List.length_append]
    show (f.2.1.length + (f.2.2.1.length + 1)) + _ + _ + _ + _ + 1 = _
    omega
  rw [e]
  omega
theorem sz_xla (hb : f.2.2.2.1 = b :: bs) : szX (xla f q :: r) = szX (f :: r) + 1 := by
  have ex : xla f q = (f.1, f.2.1, f.2.2.1, (b.1, b.2.1 ++ [q], b.2.2.1, b.2.2.2) :: bs, f.2.2.2.2) := by unfold xla; rw [hb]
  show szX r + szF (xla f q) = szX r + szF f + 1
  have e : szF (xla f q) = szF f + 1 := by
    rw [ex]
    unfold szF
    rw [hb]
    show (f.2.1.length + f.2.2.1.length) + (bs.length + 1) + (bLab bs ++ (b.2.1 ++ [q])).length + (bGo bs ++ b.2.2.1).length + (bLp bs + (if b.2.2.2 = 1 then 1 else 0)) + 1 = (f.2.1.length + f.2.2.1.length) + (bs.length + 1) + (bLab bs ++ b.2.1).length + (bGo bs ++ b.2.2.1).length + (bLp bs + (if b.2.2.2 = 1 then 1 else 0)) + 1 + 1
    rw [List.length_append, List.length_append, List.length_append (as := bLab bs)]
    show _ + _ + (_ + (_ + 1)) + _ + _ + 1 = _
    omega
  rw [e]
  omega
theorem sz_xgo (hb : f.2.2.2.1 = b :: bs) : szX (xgo f q :: r) = szX (f :: r) + 1 := by
  have ex : xgo f q = (f.1, f.2.1, f.2.2.1, (b.1, b.2.1, b.2.2.1 ++ [q], b.2.2.2) :: bs, f.2.2.2.2) := by unfold xgo; rw [hb]
  show szX r + szF (xgo f q) = szX r + szF f + 1
  have e : szF (xgo f q) = szF f + 1 := by
    rw [ex]
    unfold szF
    rw [hb]
    show (f.2.1.length + f.2.2.1.length) + (bs.length + 1) + (bLab bs ++ b.2.1).length + (bGo bs ++ (b.2.2.1 ++ [q])).length + (bLp bs + (if b.2.2.2 = 1 then 1 else 0)) + 1 = (f.2.1.length + f.2.2.1.length) + (bs.length + 1) + (bLab bs ++ b.2.1).length + (bGo bs ++ b.2.2.1).length + (bLp bs + (if b.2.2.2 = 1 then 1 else 0)) + 1 + 1
    rw [List.length_append (as := bGo bs), List.length_append (as := b.2.2.1), List.length_append (as := bGo bs)]
    show _ + _ + _ + (_ + (_ + 1)) + _ + 1 = _
    omega
  rw [e]
  omega
theorem sz_xc (hb : f.2.2.2.1 = b :: b2 :: bs) : szX (xc f :: r) + 1 + (if b.2.2.2 = 1 then 1 else 0) ≤ szX (f :: r) := by
  have ex : xc f = (f.1, f.2.1.take b.1, [], (b2.1, b2.2.1, b2.2.2.1 ++ xcb b, b2.2.2.2) :: bs, f.2.2.2.2) := by unfold xc; rw [hb]
  show szX r + szF (xc f) + 1 + _ ≤ szX r + szF f
  have hx : (xcb b).length ≤ b.2.2.1.length := by
    unfold xcb mvd
    rw [List.length_map]
    exact List.length_filter_le _ _
  have e : szF (xc f) + 1 + (if b.2.2.2 = 1 then 1 else 0) ≤ szF f := by
    rw [ex]
    unfold szF
    rw [hb]
    show ((f.2.1.take b.1).length + 0) + (bs.length + 1) + (bLab bs ++ b2.2.1).length + (bGo bs ++ (b2.2.2.1 ++ xcb b)).length + (bLp bs + (if b2.2.2.2 = 1 then 1 else 0)) + 1 + 1 + _ ≤ (f.2.1.length + f.2.2.1.length) + (bs.length + 1 + 1) + ((bLab bs ++ b2.2.1) ++ b.2.1).length + ((bGo bs ++ b2.2.2.1) ++ b.2.2.1).length + ((bLp bs + (if b2.2.2.2 = 1 then 1 else 0)) + (if b.2.2.2 = 1 then 1 else 0)) + 1
    have ht : (f.2.1.take b.1).length ≤ f.2.1.length := by rw [List.length_take]; exact Nat.min_le_right _ _
    rw [List.length_append (as := bLab bs ++ b2.2.1), List.length_append (as := bGo bs ++ b2.2.2.1), List.length_append (as := bGo bs), List.length_append (as := b2.2.2.1), List.length_append (as := bGo bs)]
    omega
  omega
theorem sz_xrv : szX (xrv f :: r) = szX (f :: r) := by
  show szX r + szF (xrv f) = szX r + szF f
  have e : szF (xrv f) = szF f := by
    unfold szF
    show ((f.2.1 ++ f.2.2.1.map rev1).length + 0) + f.2.2.2.1.length + (bLab f.2.2.2.1).length + (bGo f.2.2.2.1).length + bLp f.2.2.2.1 + 1 = _
    rw [List.length_append, List.length_map]
    omega
  rw [e]
theorem sz_bgn {n : Nat} {X : List xF} : szX (((n, [], [], [(0, [], [], 0)], 0) : xF) :: X) = szX X + 2 := rfl
theorem sz_bg0 {n : Nat} {X : List xF} : szX (((n, [], [], [], 0) : xF) :: X) = szX X + 1 := rfl
theorem sz_tl {X : List xF} : szX X ≤ szX (f :: X) := Nat.le_add_right _ _
theorem lp_sz {X : List xF} : fLp X ≤ szX X := by rw [szX_eq]; omega
end SZX
/-- a round of the reference's main loop -/
noncomputable def kst (k : kS) : kS := (k175b13 k).2
noncomputable def kit : Nat → kS → kS
  | 0, k => k
  | j + 1, k => kit j (kst k)
theorem kit_add {k : kS} : ∀ {i j : Nat}, kit (i + j) k = kit j (kit i k) := by
  intro i
  induction i generalizing k with
  | zero => intro j; rw [Nat.zero_add]; rfl
  | succ i ih =>
    intro j
    rw [show i + 1 + j = (i + j) + 1 by omega]
    exact ih (k := kst k)
/-- goals below t, values below v, what waits below w -/
def KB (t v w : Nat) (k k' : kS) : Prop := (∀ j i, (j = 11 ∨ j = 12 ∨ j = 13 ∨ j = 14) → i < t → k'.2 j i = k.2 j i) ∧ (∀ j i, (j = 16 ∨ j = 17 ∨ j = 18) → i < v → k'.2 j i = k.2 j i) ∧ (∀ j i, (j = 21 ∨ j = 22 ∨ j = 23) → i < w → k'.2 j i = k.2 j i)
theorem KB.refl {t v w : Nat} {k : kS} : KB t v w k k := ⟨fun _ _ _ _ => rfl, fun _ _ _ _ => rfl, fun _ _ _ _ => rfl⟩
theorem KB.trans {t v w : Nat} {k k1 k2 : kS} (h : KB t v w k k1) (h' : KB t v w k1 k2) : KB t v w k k2 :=
  ⟨fun j i a b => (h'.1 j i a b).trans (h.1 j i a b), fun j i a b => (h'.2.1 j i a b).trans (h.2.1 j i a b), fun j i a b => (h'.2.2 j i a b).trans (h.2.2 j i a b)⟩
theorem KB.mono {t v w t' v' w' : Nat} {k k1 : kS} (h : KB t v w k k1) (h1 : t' ≤ t) (h2 : v' ≤ v) (h3 : w' ≤ w) : KB t' v' w' k k1 :=
  ⟨fun j i a b => h.1 j i a (Nat.lt_of_lt_of_le b h1), fun j i a b => h.2.1 j i a (Nat.lt_of_lt_of_le b h2), fun j i a b => h.2.2 j i a (Nat.lt_of_lt_of_le b h3)⟩
theorem KB.fr {F A t v w : Nat} {k k' : kS} (h : kFr F A k k') (hA : A &&& 15169536 = 0) : KB t v w k k' := by
  have tb : ∀ (A M j : Nat), A &&& M = 0 → M.testBit j = true → A.testBit j = false := fun A M j ez hj => by
    have := congrArg (fun q => q.testBit j) ez
    simp only [Nat.testBit_and, hj, Bool.and_true, Nat.zero_testBit] at this
    exact this
  have fa : ∀ j, (15169536 : Nat).testBit j = true → k'.2 j = k.2 j := fun j hj => h.2 j (tb _ _ j hA hj)
  refine ⟨fun j i hj _ => ?_, fun j i hj _ => ?_, fun j i hj _ => ?_⟩
  · rcases hj with rfl | rfl | rfl | rfl <;> rw [fa _ (by decide)]
  · rcases hj with rfl | rfl | rfl <;> rw [fa _ (by decide)]
  · rcases hj with rfl | rfl | rfl <;> rw [fa _ (by decide)]
/-- the goal on top -/
def GT (t : Nat) (g a b c : Int32) (k : kS) : Prop := k.1 10 = xn (t + 1) ∧ k.2 11 t = g ∧ k.2 12 t = a ∧ k.2 13 t = b ∧ k.2 14 t = c
theorem kst_pop {t : Nat} {g a b c : Int32} {k : kS} (h : GT t g a b c k) (ht : t ≤ 1000000) : kst k = (k180 (kf k 10 (xn t)) g a b c).1 := by
  obtain ⟨h1, h2, h3, h4, h5⟩ := h
  have e1 : k.1 10 - 1 = xn t := by
    rw [h1]
    have := xn_sub (n := 1) (m := t) (by omega)
    rw [Nat.add_comm 1] at this
    exact this
  have r : ∀ j, kr k j (k.1 10 - 1) = k.2 j t := fun j => by
    rw [e1]
    show k.2 j (xn t).toNatClampNeg = _
    rw [xn_nat (by omega)]
  unfold kst k175b13
  rw [if_neg (by rw [h1, i_le, xn_i (by omega)]; have : (0 : Int32).toInt = 0 := rfl; omega), r, r, r, r, h2, h3, h4, h5, e1]
theorem GT.psh {t v w : Nat} {g a b c : Int32} {k : kS} (h : k.1 10 = xn t) (ht : t ≤ 1000000) : GT t g a b c (k179 k g a b c).1 ∧ KB t v w k (k179 k g a b c).1 := by
  have ix : (k.1 10).toNatClampNeg = t := by rw [h]; exact xn_nat (by omega)
  refine ⟨⟨?_, ?_, ?_, ?_, ?_⟩, fun j i hj hi => ?_, fun j i hj hi => ?_, fun j i hj hi => ?_⟩
  · show k.1 10 + 1 = _
    rw [h, xn_succ (by omega)]
  · show upd (k.2 11) (k.1 10).toNatClampNeg g t = g
    rw [ix]; exact if_pos rfl
  · show upd (k.2 12) (k.1 10).toNatClampNeg a t = a
    rw [ix]; exact if_pos rfl
  · show upd (k.2 13) (k.1 10).toNatClampNeg b t = b
    rw [ix]; exact if_pos rfl
  · show upd (k.2 14) (k.1 10).toNatClampNeg c t = c
    rw [ix]; exact if_pos rfl
  · rcases hj with rfl | rfl | rfl | rfl
    · show upd (k.2 11) (k.1 10).toNatClampNeg g i = _
      rw [ix]; exact if_neg (by omega)
    · show upd (k.2 12) (k.1 10).toNatClampNeg a i = _
      rw [ix]; exact if_neg (by omega)
    · show upd (k.2 13) (k.1 10).toNatClampNeg b i = _
      rw [ix]; exact if_neg (by omega)
    · show upd (k.2 14) (k.1 10).toNatClampNeg c i = _
      rw [ix]; exact if_neg (by omega)
  · rcases hj with rfl | rfl | rfl <;> rfl
  · rcases hj with rfl | rfl | rfl <;> rfl
/-- a goal that was pushed is still there when the pile is down to it -/
theorem GT.bck {t v w : Nat} {g a b c : Int32} {k k' : kS} (h : GT t g a b c k) (hb : KB (t + 1) v w k k') (h10 : k'.1 10 = xn (t + 1)) : GT t g a b c k' :=
  ⟨h10, (hb.1 11 t (by decide) (Nat.lt_succ_self _)).trans h.2.1, (hb.1 12 t (by decide) (Nat.lt_succ_self _)).trans h.2.2.1, (hb.1 13 t (by decide) (Nat.lt_succ_self _)).trans h.2.2.2.1, (hb.1 14 t (by decide) (Nat.lt_succ_self _)).trans h.2.2.2.2⟩
