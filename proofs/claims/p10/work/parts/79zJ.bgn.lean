/-! THE CLASS: a function begins -/
theorem bg30 {s : cS} {X : List xF} {y1 z0 : Int32} {y2 : Nat} (h : XC 0 s X) (hz : SZ X) (hx : ∀ f ∈ X, f.1 ≠ y2) : XC 0 (c46_30 s y1 y2 z0 y2).1 ((y2, [], [], [(0, [], [], 0)], s.b y2 5) :: X) ∧ (c46_30 s y1 y2 z0 y2).2 = y2 ∧ (c46_30 s y1 y2 z0 y2).1.f 1 = s.f 1 ∧ (c46_30 s y1 y2 z0 y2).1.f 2 = s.f 2 ∧ (c46_30 s y1 y2 z0 y2).1.f 5 = s.f 5 ∧ (c46_30 s y1 y2 z0 y2).1.b y2 2 = s.b y2 2 := by
  have zz := hz.g
  obtain ⟨S6, hS6⟩ : ∃ S6, S6 = nb (nb (nb (nb (nb (nb s y2 3 z0) y2 8 y1) y2 9 ((nb (nb s y2 3 z0) y2 8 y1).r (.s 14))) y2 10 (c48 (nb (nb (nb s y2 3 z0) y2 8 y1) y2 9 ((nb (nb s y2 3 z0) y2 8 y1).r (.s 14))))) y2 11 (c49 (nb (nb (nb (nb s y2 3 z0) y2 8 y1) y2 9 ((nb (nb s y2 3 z0) y2 8 y1).r (.s 14))) y2 10 (c48 (nb (nb (nb s y2 3 z0) y2 8 y1) y2 9 ((nb (nb s y2 3 z0) y2 8 y1).r (.s 14))))))) y2 12 (c50 (nb (nb (nb (nb (nb s y2 3 z0) y2 8 y1) y2 9 ((nb (nb s y2 3 z0) y2 8 y1).r (.s 14))) y2 10 (c48 (nb (nb (nb s y2 3 z0) y2 8 y1) y2 9 ((nb (nb s y2 3 z0) y2 8 y1).r (.s 14))))) y2 11 (c49 (nb (nb (nb (nb s y2 3 z0) y2 8 y1) y2 9 ((nb (nb s y2 3 z0) y2 8 y1).r (.s 14))) y2 10 (c48 (nb (nb (nb s y2 3 z0) y2 8 y1) y2 9 ((nb (nb s y2 3 z0) y2 8 y1).r (.s 14)))))))) := ⟨_, rfl⟩
  have e : c46_30 s y1 y2 z0 y2 = ((c51 (nn (npush S6 y2) y2)).1, y2) := by rw [hS6]; rfl
  have br : S6.r = s.r := by rw [hS6]; rfl
  have bc : S6.c = s.c := by rw [hS6]; rfl
  have bf : S6.f = s.f := by rw [hS6]; rfl
  have bo : S6.op = s.op := by rw [hS6]; rfl
  have bn : ∀ y, y ≠ y2 → S6.b y = s.b y := fun y hy => by rw [hS6, nb_ne hy, nb_ne hy, nb_ne hy, nb_ne hy, nb_ne hy, nb_ne hy]
  have b5 : S6.b y2 5 = s.b y2 5 := by rw [hS6]; simp only [nb_eq, upd]; rfl
  have b2 : S6.b y2 2 = s.b y2 2 := by rw [hS6]; simp only [nb_eq, upd]; rfl
  have b9 : S6.b y2 9 = s.r (.s 14) := by rw [hS6]; simp only [nb_eq, upd]; rfl
  have b10 : S6.b y2 10 = s.r (.s 24) := by rw [hS6]; simp only [nb_eq, upd]; rfl
  have b11 : S6.b y2 11 = s.r (.s 26) := by rw [hS6]; simp only [nb_eq, upd]; rfl
  have b12 : S6.b y2 12 = s.r (.s 28) := by rw [hS6]; simp only [nb_eq, upd]; rfl
  have e13 : (s.f 13 1).toInt.toNat = X.length := by rw [h.ln, xn_i (by omega)]; omega
  have h4 : XC 0 (nn (npush S6 y2) y2) ((y2, [], [], [], s.b y2 5) :: X) := by
    refine ⟨?_, ?_, ?_, ?_, ?_, ?_, ⟨?_, ?_, ?_, ?_, ?_, ?_, fun g hg => hx g hg, ?_⟩, fun f r q => ?_⟩
    · show TR _ _ (fL X ++ ([] ++ []))
      rw [List.append_nil, List.append_nil]
      exact h.l.same (congrFun br _) (congrFun bc _)
    · show TR _ _ (fBl X ++ [])
      rw [List.append_nil]
      exact h.bl.same (congrFun br _) (congrFun bc _)
    · show TR _ _ (fLab X ++ [])
      rw [List.append_nil]
      exact h.la.same (congrFun br _) (congrFun bc _)
    · show TR _ _ (fGo X ++ [])
      rw [List.append_nil]
      exact h.go.same (congrFun br _) (congrFun bc _)
    · show (S6.r (.s 28)).toInt = _
      rw [br, h.lp]
      rfl
    · show (nf S6 13 1 (S6.f 13 1 + 1)).f 13 1 = _
      rw [nf_at, bf, h.ln, xn_succ (by omega)]
      rfl
    · show (if X.length = (S6.f 13 1).toInt.toNat then y2 else S6.op X.length) = y2
      rw [bf, e13, if_pos rfl]
    · show S6.b y2 9 = _
      rw [b9]
      exact xn_eq h.l.1 (by omega)
    · show S6.b y2 10 = _
      rw [b10]
      exact xn_eq h.la.1 (by omega)
    · show S6.b y2 11 = _
      rw [b11]
      exact xn_eq h.go.1 (by omega)
    · show S6.b y2 12 = _
      rw [b12]
      exact xn_eq (by rw [h.lp]; rfl) (by omega)
    · exact b5
    · refine h.xf.same2 (fun j hj => ?_) (fun f hf j _ => ?_)
      · show (if j = (S6.f 13 1).toInt.toNat then y2 else S6.op j) = s.op j
        rw [bf, e13, if_neg (by omega), bo]
      · show S6.b f.1 j = s.b f.1 j
        rw [bn _ (hx f hf)]
    · cases q
      rfl
  have hz4 : SZ ((y2, [], [], [], s.b y2 5) :: X) ∨ True := Or.inr trivial
  rw [e]
  refine ⟨?_, rfl, ?_, ?_, ?_, ?_⟩
  · have zl : (fL ((y2, [], [], [], s.b y2 5) :: X)).length = (fL X).length := by
      show (fL X ++ ([] ++ [])).length = _
      rw [List.append_nil, List.append_nil]
    have k1 : xn (fL ((y2, [], [], [], s.b y2 5) :: X)).length = (nn (npush S6 y2) y2).r (.s 14) := (xn_eq h4.l.1 (by omega)).symm
    have zla : (fLab ((y2, [], [], [], s.b y2 5) :: X)).length = (fLab X).length := by
      show (fLab X ++ []).length = _
      rw [List.append_nil]
    have k2 : xn (fLab ((y2, [], [], [], s.b y2 5) :: X)).length = (nn (npush S6 y2) y2).r (.s 24) := (xn_eq h4.la.1 (by omega)).symm
    have zgo : (fGo ((y2, [], [], [], s.b y2 5) :: X)).length = (fGo X).length := by
      show (fGo X ++ []).length = _
      rw [List.append_nil]
    have k3 : xn (fGo ((y2, [], [], [], s.b y2 5) :: X)).length = (nn (npush S6 y2) y2).r (.s 26) := (xn_eq h4.go.1 (by omega)).symm
    show XC 0 (tad (nn (npush S6 y2) y2) (.s 16) ((nn (npush S6 y2) y2).r (.s 14)) ((nn (npush S6 y2) y2).r (.s 24)) ((nn (npush S6 y2) y2).r (.s 26)) 0).1 _
    refine h4.add16 ?_ rfl ?_ rfl rfl rfl rfl (fun s h => h) (fun f' r' q => ?_)
    · show (fBl X ++ []).length < 1048576
      rw [List.append_nil]
      omega
    · rw [← k1, ← k2, ← k3, zl, zla, zgo]
      show fBl X ++ ([] ++ [(xn ((fL X).length + 0), xn ((fLab X).length + 0), xn ((fGo X).length + 0), 0)]) = (fBl X ++ []) ++ [_]
      rw [List.append_nil]
      rfl
    · cases q
      exact ⟨_, X, rfl, rfl⟩
  · have hf := fr_c51 (nn (npush S6 y2) y2)
    funext j
    by_cases hj : j < 16
    · rw [hf.1 1 j hj (Nat.zero_testBit _)]
      show (nf S6 13 1 (S6.f 13 1 + 1)).f 1 j = _
      rw [nf_ne (by decide), bf]
    · show (tad (nn (npush S6 y2) y2) (.s 16) _ _ _ 0).1.f 1 j = _
      unfold tad
      split <;> (show (nf S6 13 1 (S6.f 13 1 + 1)).f 1 j = _; rw [nf_ne (by decide), bf])
  · funext j
    show (tad (nn (npush S6 y2) y2) (.s 16) _ _ _ 0).1.f 2 j = _
    unfold tad
    split <;> (show (nf S6 13 1 (S6.f 13 1 + 1)).f 2 j = _; rw [nf_ne (by decide), bf])
  · funext j
    show (tad (nn (npush S6 y2) y2) (.s 16) _ _ _ 0).1.f 5 j = _
    unfold tad
    split <;> (show (nf S6 13 1 (S6.f 13 1 + 1)).f 5 j = _; rw [nf_ne (by decide), bf])
  · show (tad (nn (npush S6 y2) y2) (.s 16) _ _ _ 0).1.b y2 2 = _
    unfold tad
    split <;> exact b2
/-- beginBody -/
theorem XC.bgn {s : cS} {X : List xF} {w : Int32} (h : XC 0 s X) (hz : SZ X) (hx : ∀ f ∈ X, f.1 ≠ (s.f 5 1).toInt.toNat + 1) (hy : ∀ f ∈ X, f.1 ≠ (s.f 6 1).toInt.toNat + 1) : XC 0 (c46 s w).1 (((s.f 5 1).toInt.toNat + 1, [], [], [(0, [], [], 0)], 0) :: X) ∧ (c46 s w).2 = (s.f 5 1).toInt.toNat + 1 ∧ (c46 s w).1.f 1 = s.f 1 ∧ (c46 s w).1.f 2 = s.f 2 ∧ (c46 s w).1.f 5 1 = s.f 5 1 + 1 ∧ (c46 s w).1.b ((s.f 5 1).toInt.toNat + 1) 2 = s.f 5 1 := by
  obtain ⟨h1, e2, e5, ef, e1, e3, e6⟩ := h.nxb hx hy
  have key : ∀ z, XC 0 (c46_30 (c13 s).1 w (c13 s).2 z (c13 s).2).1 (((s.f 5 1).toInt.toNat + 1, [], [], [(0, [], [], 0)], 0) :: X) ∧ (c46_30 (c13 s).1 w (c13 s).2 z (c13 s).2).2 = (s.f 5 1).toInt.toNat + 1 ∧ (c46_30 (c13 s).1 w (c13 s).2 z (c13 s).2).1.f 1 = s.f 1 ∧ (c46_30 (c13 s).1 w (c13 s).2 z (c13 s).2).1.f 2 = s.f 2 ∧ (c46_30 (c13 s).1 w (c13 s).2 z (c13 s).2).1.f 5 1 = s.f 5 1 + 1 ∧ (c46_30 (c13 s).1 w (c13 s).2 z (c13 s).2).1.b ((s.f 5 1).toInt.toNat + 1) 2 = s.f 5 1 := fun z => by
    obtain ⟨q1, q2, q3, q4, q5, q6⟩ := bg30 (y1 := w) (z0 := z) (y2 := (c13 s).2) h1 hz (by rw [e2]; exact hx)
    rw [e5] at q1
    rw [e2] at q1 q2 q3 q4 q5 q6 ⊢
    refine ⟨q1, q2, q3.trans e1, q4.trans e3, ?_, ?_⟩
    · rw [q5, ef]
    · rw [q6]
      rw [e2] at e6
      exact e6
  show XC 0 (c46_7 (c13 s).1 w (c13 s).2).1 _ ∧ (c46_7 (c13 s).1 w (c13 s).2).2 = _ ∧ (c46_7 (c13 s).1 w (c13 s).2).1.f 1 = _ ∧ (c46_7 (c13 s).1 w (c13 s).2).1.f 2 = _ ∧ (c46_7 (c13 s).1 w (c13 s).2).1.f 5 1 = _ ∧ (c46_7 (c13 s).1 w (c13 s).2).1.b _ 2 = _
  unfold c46_7
  split
  · exact key _
  · exact key _
