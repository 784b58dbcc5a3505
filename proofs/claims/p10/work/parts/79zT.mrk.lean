/-! THE CLASS: the latest local is marked, locals are revealed, hidden locals -/
theorem XC.set14 {e : Nat} {s s' : cS} {X X' : List xF} {F T B G : Nat} (h : XC e s X) (ht : TR s' (.s 14) (fL X')) (hf : cFr F T B G s s') (hF : F.testBit 209 = false) (hT : T &&& 352387072 = 0) (hB : B &&& 7712 = 0) (hG : G &&& 3 = 0) (e2 : fBl X' = fBl X) (e3 : fLab X' = fLab X) (e4 : fGo X' = fGo X) (e5 : fLp X' = fLp X) (e6 : X'.length = X.length) (hx : ∀ s, XF s X → XF s X') (hn : ∀ f' r', X' = f' :: r' → ∃ f r, X = f :: r ∧ f.1 = f'.1) : XC e s' X' := by
  have tb : ∀ (A M j : Nat), A &&& M = 0 → M.testBit j = true → A.testBit j = false := fun A M j ez hj => by
    have := congrArg (fun q => q.testBit j) ez
    simp only [Nat.testBit_and, hj, Bool.and_true, Nat.zero_testBit] at this
    exact this
  refine ⟨ht, by rw [e2]; exact h.bl.fr hf (tb _ _ 16 hT (by decide)), by rw [e3]; exact h.la.fr hf (tb _ _ 24 hT (by decide)), by rw [e4]; exact h.go.fr hf (tb _ _ 26 hT (by decide)), ?_, ?_, ?_, fun f' r' e' => ?_⟩
  · rw [(hf.2.1 28 (tb _ _ 28 hT (by decide))).1, e5]; exact h.lp
  · rw [hf.1 13 1 (by decide) hF, e6]; exact h.ln
  · refine hx _ (h.xf.same (hf.2.2.2.2.1 (tb _ _ 1 hG (by decide))) (fun x j hj => hf.2.2.1 x j ?_))
    rcases hj with rfl | rfl | rfl | rfl | rfl
    · exact tb _ _ 5 hB (by decide)
    · exact tb _ _ 9 hB (by decide)
    · exact tb _ _ 10 hB (by decide)
    · exact tb _ _ 11 hB (by decide)
    · exact tb _ _ 12 hB (by decide)
  · obtain ⟨f, r, q1, q2⟩ := hn f' r' e'
    rw [hf.2.2.2.1 (tb _ _ 0 hG (by decide)), ← q2]
    exact h.nw f r q1
section XMK
variable {e : Nat} {s : cS} {f : xF} {r : List xF} {v : Int32}
theorem c141_tr {L : List xR} {q : xR} (h : TR s (.s 14) (L ++ [q])) (hz : (L ++ [q]).length ≤ 1000000) : TR (c141 s v).1 (.s 14) (L ++ [(q.1, q.2.1 ||| v, q.2.2)]) := by
  have hlen : (L ++ [q]).length = L.length + 1 := by rw [List.length_append]; rfl
  have hx : (s.r (.s 14) - 1).toInt = L.length := by
    rw [i_sub h.1 (show (1 : Int32).toInt = 1 from rfl) (by omega) (by omega)]
    omega
  have hl : (L ++ [q])[L.length]? = some q := by rw [List.getElem?_append_right (Nat.le_refl _), Nat.sub_self]; rfl
  show TR (ts s (.s 14) (s.r (.s 14) - 1) (xn 1) (tg s (.s 14) (s.r (.s 14) - 1) 1 ||| v)) (.s 14) _
  rw [h.g1 hx hl]
  have h2 := h.set (v := q.2.1 ||| v) hx hl (show 1 < 4 by decide)
  rw [List.set_append_right _ _ (Nat.le_refl _), Nat.sub_self] at h2
  exact h2
/-- the latest local that waits is marked -/
theorem XC.mrk {q : xR} {p : List xR} (h : XC e s (f :: r)) (hz : SZ (f :: r)) (hp : f.2.2.1 = p ++ [q]) : XC e (c141 s v).1 ((f.1, f.2.1, p ++ [(q.1, q.2.1 ||| v, q.2.2)], f.2.2.2.1, f.2.2.2.2) :: r) := by
  have zz := hz.l
  have eL : fL (f :: r) = (fL r ++ (f.2.1 ++ p)) ++ [q] := by
    show fL r ++ (f.2.1 ++ f.2.2.1) = _
    rw [hp]
    simp only [List.append_assoc]
  have ht := h.l
  rw [eL] at ht
  have t2 := c141_tr (v := v) ht (by rw [← eL]; omega)
  refine h.set14 (F := 0) (T := 16384) (B := 0) (G := 0) ?_ (cFr.refl.tss rfl) (Nat.zero_testBit _) rfl rfl rfl rfl rfl rfl rfl rfl (fun s h => h) (fun f' r' e' => ?_)
  · show TR _ _ (fL r ++ (f.2.1 ++ (p ++ [(q.1, q.2.1 ||| v, q.2.2)])))
    rw [show fL r ++ (f.2.1 ++ (p ++ [(q.1, q.2.1 ||| v, q.2.2)])) = (fL r ++ (f.2.1 ++ p)) ++ [(q.1, q.2.1 ||| v, q.2.2)] by simp only [List.append_assoc]]
    exact t2
  · cases e'
    exact ⟨f, r, rfl, rfl⟩
/-- the latest local is marked -/
theorem XC.mrl {q : xR} (h : XC e s (xd f q :: r)) (hz : SZ (xd f q :: r)) (hp : f.2.2.1 = []) : XC e (c141 s v).1 (xd f (q.1, q.2.1 ||| v, q.2.2) :: r) := by
  have zz := hz.l
  have eL : ∀ q', fL (xd f q' :: r) = (fL r ++ f.2.1) ++ [q'] := fun q' => by
    show fL r ++ ((f.2.1 ++ [q']) ++ f.2.2.1) = _
    rw [hp, List.append_nil, List.append_assoc]
  have ht := h.l
  rw [eL] at ht
  have t2 := c141_tr (v := v) ht (by rw [← eL]; omega)
  refine h.set14 (F := 0) (T := 16384) (B := 0) (G := 0) (by rw [eL]; exact t2) (cFr.refl.tss rfl) (Nat.zero_testBit _) rfl rfl rfl rfl rfl rfl rfl rfl (fun s h => h) (fun f' r' e' => ?_)
  cases e'
  exact ⟨_, r, rfl, rfl⟩
def rev1 (q : xR) : xR := (q.1, q.2.1 ||| 1, q.2.2)
theorem rv_go : ∀ (G P : List xR) (s : cS), TR s (.s 14) (P ++ G) → (P ++ G).length ≤ 1000000 → ∃ m s', kwh c149b10 m (s, xn P.length) = (1, (s', xn (P.length + G.length))) ∧ TR s' (.s 14) (P ++ G.map rev1) ∧ cFr 0 16384 0 0 s s' := by
  intro G
  induction G with
  | nil =>
    intro P s h hz
    rw [List.append_nil] at h hz
    have e : c149b10 (s, xn P.length) = (1, (s, xn P.length)) := by
      unfold c149b10
      rw [if_pos (by show s.r (.s 14) ≤ xn P.length; rw [i_le, h.1, xn_i (by omega)]; omega)]
    refine ⟨1, s, by rw [kwh_out (by rw [e]; exact Nat.succ_ne_zero _), e]; rfl, ?_, cFr.refl⟩
    show TR s (.s 14) (P ++ [])
    rw [List.append_nil]
    exact h
  | cons g G ih =>
    intro P s h hz
    have hlen : (P ++ g :: G).length = P.length + (G.length + 1) := by rw [List.length_append]; rfl
    have hi : (P ++ g :: G)[P.length]? = some g := by rw [List.getElem?_append_right (Nat.le_refl _), Nat.sub_self]; rfl
    have ei : (xn P.length).toInt = P.length := xn_i (by omega)
    have e : c149b10 (s, xn P.length) = (0, (ts s (.s 14) (xn P.length) (xn 1) (g.2.1 ||| 1), xn (P.length + 1))) := by
      unfold c149b10
      rw [if_neg (by show ¬ s.r (.s 14) ≤ xn P.length; rw [i_le, h.1, ei]; omega)]
      show (0, (ts s (.s 14) (xn P.length) (xn 1) (tg s (.s 14) (xn P.length) 1 ||| 1), xn P.length + 1)) = _
      rw [h.g1 ei hi, xn_succ (by omega)]
    have h2 := h.set (v := g.2.1 ||| 1) ei hi (show 1 < 4 by decide)
    have e2 : (P ++ g :: G).set P.length (xcol g 1 (g.2.1 ||| 1)) = (P ++ [rev1 g]) ++ G := by
      rw [List.set_append_right _ _ (Nat.le_refl _), Nat.sub_self, List.set_cons_zero, List.append_assoc]
      rfl
    rw [e2] at h2
    have hl1 : (P ++ [rev1 g]).length = P.length + 1 := by rw [List.length_append]; rfl
    obtain ⟨m, s', r1, r2, r3⟩ := ih (P ++ [rev1 g]) _ h2 (by rw [List.length_append, hl1]; omega)
    rw [hl1] at r1
    refine ⟨m + 1, s', ?_, ?_, (cFr.refl.tss rfl : cFr 0 16384 0 0 s _).trans r3⟩
    · rw [kwh_go (by rw [e]), e]
      show kwh _ m (_, xn (P.length + 1)) = _
      rw [r1, show P.length + 1 + G.length = P.length + (g :: G).length by simp only [List.length_cons]; omega]
    · rw [show P ++ (g :: G).map rev1 = P ++ [rev1 g] ++ G.map rev1 by simp only [List.map_cons, List.append_assoc, List.cons_append, List.nil_append]]
      exact r2
/-- locals that waited are there -/
def xrv (f : xF) : xF := (f.1, f.2.1 ++ f.2.2.1.map rev1, [], f.2.2.2.1, f.2.2.2.2)
theorem XC.rvl (h : XC e s (f :: r)) (hz : SZ (f :: r)) : XC e (c149 s (xn f.2.1.length)).1 (xrv f :: r) := by
  have zz := hz.l
  have eL : fL (f :: r) = (fL r ++ f.2.1) ++ f.2.2.1 := by
    show fL r ++ (f.2.1 ++ f.2.2.1) = _
    rw [List.append_assoc]
  have ht := h.l
  rw [eL] at ht
  obtain ⟨m, s', r1, r2, r3⟩ := rv_go f.2.2.1 (fL r ++ f.2.1) s ht (by rw [← eL]; omega)
  have hk := kfin_of ⟨m, r1⟩ (Nat.succ_ne_zero 0)
  have zl : (fL (f :: r)).length = (fL r).length + f.2.1.length + f.2.2.1.length := by rw [eL, List.length_append, List.length_append]
  have es : (c149 s (xn f.2.1.length)).1 = s' := by
    unfold c149
    have e9 : s.b s.now 9 + xn f.2.1.length = xn (fL r ++ f.2.1).length := by
      rw [h.nw f r rfl, h.xf.2.1, xn_add (by omega), List.length_append]
    rw [e9, hk]
  rw [es]
  refine h.set14 (F := 0) (T := 16384) (B := 0) (G := 0) ?_ r3 (Nat.zero_testBit _) rfl rfl rfl rfl rfl rfl rfl rfl (fun s h => h) (fun f' r' e' => ?_)
  · show TR _ _ (fL r ++ ((f.2.1 ++ f.2.2.1.map rev1) ++ []))
    rw [List.append_nil, show fL r ++ (f.2.1 ++ f.2.2.1.map rev1) = fL r ++ f.2.1 ++ f.2.2.1.map rev1 by rw [List.append_assoc]]
    exact r2
  · cases e'
    exact ⟨f, r, rfl, rfl⟩
theorem ch_go {y2 y4 w : Int32} {r : List xF} : ∀ (m0 n : Nat) (f : xF) (s : cS), XC e s (f :: r) → f.2.2.1 = [] → SZ (xdn f (List.replicate m0 (0, 0, 0, 0)) :: r) → n + m0 ≤ 1000 → ∃ m s', kwh (c140b19 (xn (n + m0)) y2 w y4) m (s, xn n) = (1, (s', xn (n + m0))) ∧ XC e s' (xdn f (List.replicate m0 (0, 0, 0, 0)) :: r) ∧ (s'.f 1 0 ≠ 0 ↔ s.f 1 0 ≠ 0 ∨ ∃ j, j < m0 ∧ 200 ≤ f.2.1.length + j) := by
  intro m0
  induction m0 with
  | zero =>
    intro n f s h hp hz hn
    have e : c140b19 (xn (n + 0)) y2 w y4 (s, xn n) = (1, (s, xn n)) := by
      unfold c140b19
      rw [if_pos (by show xn (n + 0) ≤ xn n; exact Int32.le_refl _)]
    exact ⟨1, s, by rw [kwh_out (by rw [e]; exact Nat.succ_ne_zero _), e]; rfl, h, ⟨Or.inl, fun q => q.resolve_right (fun ⟨j, hj, _⟩ => absurd hj (Nat.not_lt_zero _))⟩⟩
  | succ m0 ih =>
    intro n f s h hp hz hn
    have hz0 : SZ (f :: r) := by
      have len : ∀ (l : List xR) (f : xF), (fL (f :: r)).length ≤ (fL (xdn f l :: r)).length ∧ (fBl (xdn f l :: r)).length = (fBl (f :: r)).length ∧ (fLab (xdn f l :: r)).length = (fLab (f :: r)).length ∧ (fGo (xdn f l :: r)).length = (fGo (f :: r)).length ∧ fLp (xdn f l :: r) = fLp (f :: r) := by
        intro l
        induction l with
        | nil => intro f; exact ⟨Nat.le_refl _, rfl, rfl, rfl, rfl⟩
        | cons q l ih =>
          intro f
          obtain ⟨i1, i2, i3, i4, i5⟩ := ih (xd f q)
          refine ⟨Nat.le_trans ?_ i1, i2, i3, i4, i5⟩
          show (fL r ++ (f.2.1 ++ f.2.2.1)).length ≤ (fL r ++ ((f.2.1 ++ [q]) ++ f.2.2.1)).length
          simp only [List.length_append]
          omega
      obtain ⟨i1, i2, i3, i4, i5⟩ := len (List.replicate (m0 + 1) (0, 0, 0, 0)) f
      unfold SZ at hz ⊢
      have e1 : (xdn f (List.replicate (m0 + 1) (0, 0, 0, 0)) :: r).length = (f :: r).length := rfl
      omega
    have e : c140b19 (xn (n + (m0 + 1))) y2 w y4 (s, xn n) = (0, ((c74 s 0 0 w).1, xn (n + 1))) := by
      unfold c140b19
      rw [if_neg (by show ¬ xn (n + (m0 + 1)) ≤ xn n; rw [i_le, xn_i (by omega), xn_i (by omega)]; omega)]
      show (0, ((c74 s 0 0 w).1, xn n + 1)) = _
      rw [xn_succ (by omega)]
    have x1 := h.dcl (t := 0) (st := 0) (w := w) hz0 hp
    have f1 := c74_ff (t := 0) (st := 0) (w := w) h hz0
    rw [hp, List.append_nil] at f1
    obtain ⟨m, s', r1, r2, r3⟩ := ih (n + 1) (xd f (0, 0, 0, 0)) _ x1 hp hz (by omega)
    rw [show n + 1 + m0 = n + (m0 + 1) by omega] at r1
    refine ⟨m + 1, s', by rw [kwh_go (by rw [e]), e]; exact r1, r2, ?_⟩
    have el : (xd f (0, 0, 0, 0)).2.1.length = f.2.1.length + 1 := by show (f.2.1 ++ [_]).length = _; rw [List.length_append]; rfl
    rw [r3, f1, el]
    constructor
    · rintro ((z | z) | ⟨j, z1, z2⟩)
      · exact Or.inl z
      · exact Or.inr ⟨0, by omega, by omega⟩
      · exact Or.inr ⟨j + 1, by omega, by omega⟩
    · rintro (z | ⟨j, z1, z2⟩)
      · exact Or.inl (Or.inl z)
      · by_cases e0 : j = 0
        · exact Or.inl (Or.inr (by omega))
        · exact Or.inr ⟨j - 1, by omega, by omega⟩
end XMK
