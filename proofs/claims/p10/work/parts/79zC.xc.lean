/-! THE CLASS: rows are added to its tables of names -/
section XCA
variable {e : Nat} {s : cS} {X X' : List xF} {a b c d : Int32}
theorem XC.l (h : XC e s X) : TR s (.s 14) (fL X) := h.1
theorem XC.bl (h : XC e s X) : TR s (.s 16) (fBl X) := h.2.1
theorem XC.la (h : XC e s X) : TR s (.s 24) (fLab X) := h.2.2.1
theorem XC.go (h : XC e s X) : TR s (.s 26) (fGo X) := h.2.2.2.1
theorem XC.lp (h : XC e s X) : (s.r (.s 28)).toInt = fLp X + e := h.2.2.2.2.1
theorem XC.ln (h : XC e s X) : s.f 13 1 = xn X.length := h.2.2.2.2.2.1
theorem XC.xf (h : XC e s X) : XF s X := h.2.2.2.2.2.2.1
theorem XC.nw (h : XC e s X) : ∀ f r, X = f :: r → s.now = f.1 := h.2.2.2.2.2.2.2
theorem XC.add14 (h : XC e s X) (hl : (fL X).length < 1048576) (e1 : fL X' = fL X ++ [(a, b, c, d)]) (e2 : fBl X' = fBl X) (e3 : fLab X' = fLab X) (e4 : fGo X' = fGo X) (e5 : fLp X' = fLp X) (e6 : X'.length = X.length) (hx : ∀ s, XF s X → XF s X') (hn : ∀ f' r', X' = f' :: r' → ∃ f r, X = f :: r ∧ f.1 = f'.1) : XC e (tad s (.s 14) a b c d).1 X' := by
  have hf : cFr 0 16384 0 0 s (tad s (.s 14) a b c d).1 := cFr.refl.tads rfl
  refine ⟨by rw [e1]; exact (h.l.add hl).1, by rw [e2]; exact h.bl.fr hf rfl, by rw [e3]; exact h.la.fr hf rfl, by rw [e4]; exact h.go.fr hf rfl, ?_, ?_, ?_, fun f' r' e' => ?_⟩
  · rw [(hf.2.1 28 rfl).1, e5]; exact h.lp
  · rw [hf.1 13 1 (by decide) rfl, e6]; exact h.ln
  · exact hx _ (h.xf.same (hf.2.2.2.2.1 rfl) (fun x j _ => hf.2.2.1 x j (Nat.zero_testBit _)))
  · obtain ⟨f, r, q1, q2⟩ := hn f' r' e'
    rw [hf.2.2.2.1 rfl, ← q2]
    exact h.nw f r q1
theorem XC.add16 (h : XC e s X) (hl : (fBl X).length < 1048576) (e1 : fL X' = fL X) (e2 : fBl X' = fBl X ++ [(a, b, c, d)]) (e3 : fLab X' = fLab X) (e4 : fGo X' = fGo X) (e5 : fLp X' = fLp X) (e6 : X'.length = X.length) (hx : ∀ s, XF s X → XF s X') (hn : ∀ f' r', X' = f' :: r' → ∃ f r, X = f :: r ∧ f.1 = f'.1) : XC e (tad s (.s 16) a b c d).1 X' := by
  have hf : cFr 0 65536 0 0 s (tad s (.s 16) a b c d).1 := cFr.refl.tads rfl
  refine ⟨by rw [e1]; exact h.l.fr hf rfl, by rw [e2]; exact (h.bl.add hl).1, by rw [e3]; exact h.la.fr hf rfl, by rw [e4]; exact h.go.fr hf rfl, ?_, ?_, ?_, fun f' r' e' => ?_⟩
  · rw [(hf.2.1 28 rfl).1, e5]; exact h.lp
  · rw [hf.1 13 1 (by decide) rfl, e6]; exact h.ln
  · exact hx _ (h.xf.same (hf.2.2.2.2.1 rfl) (fun x j _ => hf.2.2.1 x j (Nat.zero_testBit _)))
  · obtain ⟨f, r, q1, q2⟩ := hn f' r' e'
    rw [hf.2.2.2.1 rfl, ← q2]
    exact h.nw f r q1
theorem XC.add24 (h : XC e s X) (hl : (fLab X).length < 1048576) (e1 : fL X' = fL X) (e2 : fBl X' = fBl X) (e3 : fLab X' = fLab X ++ [(a, b, c, d)]) (e4 : fGo X' = fGo X) (e5 : fLp X' = fLp X) (e6 : X'.length = X.length) (hx : ∀ s, XF s X → XF s X') (hn : ∀ f' r', X' = f' :: r' → ∃ f r, X = f :: r ∧ f.1 = f'.1) : XC e (tad s (.s 24) a b c d).1 X' := by
  have hf : cFr 0 16777216 0 0 s (tad s (.s 24) a b c d).1 := cFr.refl.tads rfl
  refine ⟨by rw [e1]; exact h.l.fr hf rfl, by rw [e2]; exact h.bl.fr hf rfl, by rw [e3]; exact (h.la.add hl).1, by rw [e4]; exact h.go.fr hf rfl, ?_, ?_, ?_, fun f' r' e' => ?_⟩
  · rw [(hf.2.1 28 rfl).1, e5]; exact h.lp
  · rw [hf.1 13 1 (by decide) rfl, e6]; exact h.ln
  · exact hx _ (h.xf.same (hf.2.2.2.2.1 rfl) (fun x j _ => hf.2.2.1 x j (Nat.zero_testBit _)))
  · obtain ⟨f, r, q1, q2⟩ := hn f' r' e'
    rw [hf.2.2.2.1 rfl, ← q2]
    exact h.nw f r q1
theorem XC.add26 (h : XC e s X) (hl : (fGo X).length < 1048576) (e1 : fL X' = fL X) (e2 : fBl X' = fBl X) (e3 : fLab X' = fLab X) (e4 : fGo X' = fGo X ++ [(a, b, c, d)]) (e5 : fLp X' = fLp X) (e6 : X'.length = X.length) (hx : ∀ s, XF s X → XF s X') (hn : ∀ f' r', X' = f' :: r' → ∃ f r, X = f :: r ∧ f.1 = f'.1) : XC e (tad s (.s 26) a b c d).1 X' := by
  have hf : cFr 0 67108864 0 0 s (tad s (.s 26) a b c d).1 := cFr.refl.tads rfl
  refine ⟨by rw [e1]; exact h.l.fr hf rfl, by rw [e2]; exact h.bl.fr hf rfl, by rw [e3]; exact h.la.fr hf rfl, by rw [e4]; exact (h.go.add hl).1, ?_, ?_, ?_, fun f' r' e' => ?_⟩
  · rw [(hf.2.1 28 rfl).1, e5]; exact h.lp
  · rw [hf.1 13 1 (by decide) rfl, e6]; exact h.ln
  · exact hx _ (h.xf.same (hf.2.2.2.2.1 rfl) (fun x j _ => hf.2.2.1 x j (Nat.zero_testBit _)))
  · obtain ⟨f, r, q1, q2⟩ := hn f' r' e'
    rw [hf.2.2.2.1 rfl, ← q2]
    exact h.nw f r q1
end XCA
/-! what is done to the innermost function -/
def xd (f : xF) (q : xR) : xF := (f.1, f.2.1 ++ [q], f.2.2.1, f.2.2.2.1, f.2.2.2.2)
def xw (f : xF) (q : xR) : xF := (f.1, f.2.1, f.2.2.1 ++ [q], f.2.2.2.1, f.2.2.2.2)
def xo (f : xF) (k : Nat) : xF := (f.1, f.2.1, f.2.2.1, ((f.2.1 ++ f.2.2.1).length, [], [], k) :: f.2.2.2.1, f.2.2.2.2)
section XCP
variable {e : Nat} {s : cS} {f : xF} {r : List xF} {a b c d : Int32}
theorem SZ.l (h : SZ (f :: r)) : (fL (f :: r)).length ≤ 1000000 ∧ (fBl (f :: r)).length ≤ 1000000 ∧ (fLab (f :: r)).length ≤ 1000000 ∧ (fGo (f :: r)).length ≤ 1000000 ∧ fLp (f :: r) ≤ 1000000 ∧ (f :: r).length ≤ 1000000 := by
  unfold SZ at h
  omega
/-- a local -/
theorem XC.dec (h : XC e s (f :: r)) (hz : SZ (f :: r)) (hp : f.2.2.1 = []) : XC e (tad s (.s 14) a b c d).1 (xd f (a, b, c, d) :: r) := by
  refine h.add14 (by have := hz.l; omega) ?_ rfl rfl rfl rfl rfl (fun s h => h) (fun f' r' e' => ?_)
  · show fL r ++ ((f.2.1 ++ [(a, b, c, d)]) ++ f.2.2.1) = (fL r ++ (f.2.1 ++ f.2.2.1)) ++ [(a, b, c, d)]
    rw [hp, List.append_nil, List.append_nil, List.append_assoc]
  · cases e'
    exact ⟨f, r, rfl, rfl⟩
/-- a local that waits -/
theorem XC.wai (h : XC e s (f :: r)) (hz : SZ (f :: r)) : XC e (tad s (.s 14) a b c d).1 (xw f (a, b, c, d) :: r) := by
  refine h.add14 (by have := hz.l; omega) ?_ rfl rfl rfl rfl rfl (fun s h => h) (fun f' r' e' => ?_)
  · show fL r ++ (f.2.1 ++ (f.2.2.1 ++ [(a, b, c, d)])) = (fL r ++ (f.2.1 ++ f.2.2.1)) ++ [(a, b, c, d)]
    rw [List.append_assoc, List.append_assoc]
  · cases e'
    exact ⟨f, r, rfl, rfl⟩
theorem XC.r14 (h : XC e s (f :: r)) (hz : SZ (f :: r)) : s.r (.s 14) = xn (fL (f :: r)).length := xn_eq h.l.1 (by have := hz.l; omega)
theorem XC.r24 (h : XC e s (f :: r)) (hz : SZ (f :: r)) : s.r (.s 24) = xn (fLab (f :: r)).length := xn_eq h.la.1 (by have := hz.l; omega)
theorem XC.r26 (h : XC e s (f :: r)) (hz : SZ (f :: r)) : s.r (.s 26) = xn (fGo (f :: r)).length := xn_eq h.go.1 (by have := hz.l; omega)
theorem XC.r16 (h : XC e s (f :: r)) (hz : SZ (f :: r)) : s.r (.s 16) = xn (fBl (f :: r)).length := xn_eq h.bl.1 (by have := hz.l; omega)
/-- how many locals the function has -/
theorem XC.cnt (h : XC e s (f :: r)) (hz : SZ (f :: r)) : c75 s = xn (f.2.1 ++ f.2.2.1).length := by
  unfold c75
  rw [h.r14 hz, h.nw f r rfl, h.xf.2.1]
  have e : (fL (f :: r)).length = (fL r).length + (f.2.1 ++ f.2.2.1).length := by
    show (fL r ++ (f.2.1 ++ f.2.2.1)).length = _
    rw [List.length_append]
  rw [e]
  exact xn_sub (by have := hz.l; omega)
/-- a block -/
theorem XC.opn {k : Nat} (h : XC e s (f :: r)) (hz : SZ (f :: r)) (hk : k ≠ 1) : XC e (c51 s).1 (xo f k :: r) := by
  show XC e (tad s (.s 16) (s.r (.s 14)) (s.r (.s 24)) (s.r (.s 26)) 0).1 _
  refine h.add16 (by have := hz.l; omega) rfl ?_ ?_ ?_ ?_ rfl (fun s h => ?_) (fun f' r' e' => ?_)
  · rw [h.r14 hz, h.r24 hz, h.r26 hz]
    show fBl r ++ (bBl _ _ _ f.2.2.2.1 ++ [(xn ((fL r).length + (f.2.1 ++ f.2.2.1).length), xn ((fLab r).length + (bLab f.2.2.2.1).length), xn ((fGo r).length + (bGo f.2.2.2.1).length), 0)]) = (fBl r ++ bBl _ _ _ f.2.2.2.1) ++ [(xn (fL r ++ (f.2.1 ++ f.2.2.1)).length, xn (fLab r ++ bLab f.2.2.2.1).length, xn (fGo r ++ bGo f.2.2.2.1).length, 0)]
    rw [List.length_append (as := fL r), List.length_append (as := fLab r), List.length_append (as := fGo r), List.append_assoc]
  · show fLab r ++ (bLab f.2.2.2.1 ++ []) = fLab r ++ bLab f.2.2.2.1
    rw [List.append_nil]
  · show fGo r ++ (bGo f.2.2.2.1 ++ []) = fGo r ++ bGo f.2.2.2.1
    rw [List.append_nil]
  · show fLp r + (bLp f.2.2.2.1 + (if k = 1 then 1 else 0)) = fLp r + bLp f.2.2.2.1
    rw [if_neg hk]
    rfl
  · exact h
  · cases e'
    exact ⟨f, r, rfl, rfl⟩
end XCP
