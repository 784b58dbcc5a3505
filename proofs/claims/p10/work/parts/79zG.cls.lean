/-! THE CLASS: a block is closed -/
theorem c83_tr {x : Nat} {v : Int32} {P G Q L : List xR} {s : cS} (h1 : TR s (.s 26) (P ++ G)) (h2 : TR s (.s 24) (Q ++ L)) (z1 : (P ++ G).length ≤ 1000000) (z2 : (Q ++ L).length ≤ 1000000) : TR (c83 s x (xn Q.length) (xn P.length) v).1 (.s 26) (P ++ mvd L v G) ∧ TR (c83 s x (xn Q.length) (xn P.length) v).1 (.s 24) Q ∧ ((c83 s x (xn Q.length) (xn P.length) v).1.f 1 0 ≠ 0 ↔ s.f 1 0 ≠ 0 ∨ ∃ g ∈ G, ovr L g) := by
  have zP : (P ++ G).length = P.length + G.length := List.length_append
  have zQ : (Q ++ L).length = Q.length + L.length := List.length_append
  have zm : (mvd L v G).length ≤ G.length := by
    unfold mvd
    rw [List.length_map]
    exact List.length_filter_le _ _
  have h1' : TR s (.s 26) (P ++ [] ++ G) := by rw [List.append_nil]; exact h1
  obtain ⟨m, s', W', r1, r2, r3, r4, r5⟩ := cb_go (x := x) (v := v) G P [] s h1' h2 (by rw [List.append_nil]; exact z1) z2
  have hk : kfin (c83b6 x (xn Q.length) v) (s, xn P.length, xn P.length) = (1, (s', xn (P.length + (mvd L v G).length), xn (P.length + [].length + G.length))) := kfin_of ⟨m, r1⟩ (Nat.succ_ne_zero 0)
  have e : (c83 s x (xn Q.length) (xn P.length) v).1 = tct (tct s' (.s 26) (xn (P.length + (mvd L v G).length))) (.s 24) (xn Q.length) := by
    unfold c83
    rw [hk]
    rfl
  rw [e]
  have f1 : cFr 0 67108864 0 0 s' (tct s' (.s 26) (xn (P.length + (mvd L v G).length))) := cFr.refl.tcts rfl
  have hW : (P ++ mvd L v G ++ W').length = P.length + (mvd L v G).length + W'.length := by rw [List.length_append, List.length_append]
  have t1 := r2.cut (n := xn (P.length + (mvd L v G).length)) (k := P.length + (mvd L v G).length) (xn_i (by omega)) (by omega)
  have e1 : (P ++ mvd L v G ++ W').take (P.length + (mvd L v G).length) = P ++ mvd L v G := by
    rw [← List.length_append, List.take_left]
  rw [e1] at t1
  have t2 := (r3.fr f1 rfl).cut (n := xn Q.length) (k := Q.length) (xn_i (by omega)) (by omega)
  rw [List.take_left] at t2
  have f2 : cFr 0 16777216 0 0 (tct s' (.s 26) (xn (P.length + (mvd L v G).length))) (tct (tct s' (.s 26) (xn (P.length + (mvd L v G).length))) (.s 24) (xn Q.length)) := cFr.refl.tcts rfl
  refine ⟨t1.fr f2 rfl, t2, ?_⟩
  rw [f2.1 1 0 (by decide) rfl, f1.1 1 0 (by decide) rfl]
  exact r5
/-- what closing a block gives: its gotos that found no label go on -/
def xcb (b : xB) : List xR := mvd b.2.1 (xn b.1) b.2.2.1
section XCL
variable {e : Nat} {s : cS} {f : xF} {r : List xF} {b : xB} {bs : List xB}
theorem bBl_len {o l g : Nat} : ∀ bs, (bBl o l g bs).length = bs.length := by
  intro bs
  induction bs with
  | nil => rfl
  | cons b r ih =>
    show (bBl o l g r ++ [_]).length = _
    rw [List.length_append, ih]
    rfl
theorem c81_tr (h : XC e s (f :: r)) (hz : SZ (f :: r)) (hb : f.2.2.2.1 = b :: bs) (hp : f.2.2.1 = []) (hn : b.1 ≤ f.2.1.length) : TR (c81 s).1 (.s 14) (fL r ++ f.2.1.take b.1) ∧ TR (c81 s).1 (.s 16) (fBl r ++ bBl (fL r).length (fLab r).length (fGo r).length bs) ∧ TR (c81 s).1 (.s 24) (fLab r ++ bLab bs) ∧ TR (c81 s).1 (.s 26) (fGo r ++ bGo bs ++ xcb b) ∧ ((c81 s).1.f 1 0 ≠ 0 ↔ s.f 1 0 ≠ 0 ∨ ∃ g ∈ b.2.2.1, ovr b.2.1 g) ∧ (c82 s = xn b.1) := by
  have hzl := hz.l
  have eB : fBl (f :: r) = (fBl r ++ bBl (fL r).length (fLab r).length (fGo r).length bs) ++ [(xn ((fL r).length + b.1), xn ((fLab r).length + (bLab bs).length), xn ((fGo r).length + (bGo bs).length), 0)] := by
    show fBl r ++ bBl _ _ _ f.2.2.2.1 = _
    rw [hb]
    show fBl r ++ (bBl _ _ _ bs ++ _) = _
    rw [List.append_assoc]
  have eLab : fLab (f :: r) = (fLab r ++ bLab bs) ++ b.2.1 := by
    show fLab r ++ bLab f.2.2.2.1 = _
    rw [hb]
    show fLab r ++ (bLab bs ++ b.2.1) = _
    rw [List.append_assoc]
  have eGo : fGo (f :: r) = (fGo r ++ bGo bs) ++ b.2.2.1 := by
    show fGo r ++ bGo f.2.2.2.1 = _
    rw [hb]
    show fGo r ++ (bGo bs ++ b.2.2.1) = _
    rw [List.append_assoc]
  have eL : fL (f :: r) = fL r ++ f.2.1 := by
    show fL r ++ (f.2.1 ++ f.2.2.1) = _
    rw [hp, List.append_nil]
  generalize hB0 : fBl r ++ bBl (fL r).length (fLab r).length (fGo r).length bs = B0 at *
  have zB : (fBl (f :: r)).length = B0.length + 1 := by rw [eB, List.length_append]; rfl
  have zL : (fL (f :: r)).length = (fL r).length + f.2.1.length := by rw [eL, List.length_append]
  have zLa : (fLab (f :: r)).length = (fLab r).length + (bLab bs).length + b.2.1.length := by rw [eLab, List.length_append, List.length_append]
  have zGo : (fGo (f :: r)).length = (fGo r).length + (bGo bs).length + b.2.2.1.length := by rw [eGo, List.length_append, List.length_append]
  have eblk : s.r (.s 16) - 1 = xn B0.length := by
    rw [h.r16 hz, zB]
    have := xn_sub (n := 1) (m := B0.length) (by omega)
    rw [Nat.add_comm 1] at this
    exact this
  have hrow : (fBl (f :: r))[B0.length]? = some (xn ((fL r).length + b.1), xn ((fLab r).length + (bLab bs).length), xn ((fGo r).length + (bGo bs).length), 0) := by
    rw [eB, List.getElem?_append_right (Nat.le_refl _), Nat.sub_self]; rfl
  have eix : (xn B0.length).toInt = B0.length := xn_i (by omega)
  have g0 := h.bl.g0 eix hrow
  have g1 := h.bl.g1 eix hrow
  have g2 := h.bl.g2 eix hrow
  have e82 : c82 s = xn b.1 := by
    unfold c82
    rw [eblk, g0, h.nw f r rfl, h.xf.2.1]
    exact xn_sub (by omega)
  have t26 := h.go
  rw [eGo] at t26
  have t24 := h.la
  rw [eLab] at t24
  have q1 : (fLab r).length + (bLab bs).length = (fLab r ++ bLab bs).length := by rw [List.length_append]
  have q2 : (fGo r).length + (bGo bs).length = (fGo r ++ bGo bs).length := by rw [List.length_append]
  obtain ⟨u1, u2, u3⟩ := c83_tr (x := s.now) (v := xn b.1) t26 t24 (by rw [← eGo]; omega) (by rw [← eLab]; omega)
  have ec : (c81 s).1 = tct (tct (c83 s s.now (xn (fLab r ++ bLab bs).length) (xn (fGo r ++ bGo bs).length) (xn b.1)).1 (.s 14) (tg (c83 s s.now (xn (fLab r ++ bLab bs).length) (xn (fGo r ++ bGo bs).length) (xn b.1)).1 (.s 16) (xn B0.length) 0)) (.s 16) (xn B0.length) := by
    unfold c81
    rw [e82, eblk, g1, g2]
    show (c81_43 (c83 s s.now (xn ((fLab r).length + (bLab bs).length)) (xn ((fGo r).length + (bGo bs).length)) (xn b.1)).1 (xn B0.length)).1 = _
    rw [q1, q2]
    rfl
  have f0 : cFr 196608 83886080 0 4 s (c83 s s.now (xn (fLab r ++ bLab bs).length) (xn (fGo r ++ bGo bs).length) (xn b.1)).1 := (fr_c83 s s.now _ _ _).mono rfl rfl rfl rfl
  generalize (c83 s s.now (xn (fLab r ++ bLab bs).length) (xn (fGo r ++ bGo bs).length) (xn b.1)).1 = s1 at u1 u2 u3 ec f0
  have v16 : TR s1 (.s 16) (fBl (f :: r)) := h.bl.fr f0 rfl
  have v14 : TR s1 (.s 14) (fL (f :: r)) := h.l.fr f0 rfl
  rw [v16.g0 eix hrow] at ec
  have f1 : cFr 0 16384 0 0 s1 (tct s1 (.s 14) (xn ((fL r).length + b.1))) := cFr.refl.tcts rfl
  have w14 := v14.cut (n := xn ((fL r).length + b.1)) (k := (fL r).length + b.1) (xn_i (by omega)) (by omega)
  have e14 : (fL (f :: r)).take ((fL r).length + b.1) = fL r ++ f.2.1.take b.1 := by
    rw [eL, List.take_length_add_append]
  rw [e14] at w14
  have w16 := (v16.fr f1 rfl).cut (n := xn B0.length) (k := B0.length) eix (by omega)
  rw [eB, List.take_left] at w16
  have f2 : cFr 0 65536 0 0 (tct s1 (.s 14) (xn ((fL r).length + b.1))) (tct (tct s1 (.s 14) (xn ((fL r).length + b.1))) (.s 16) (xn B0.length)) := cFr.refl.tcts rfl
  rw [ec]
  refine ⟨w14.fr f2 rfl, w16, (u2.fr f1 rfl).fr f2 rfl, (u1.fr f1 rfl).fr f2 rfl, ?_, e82⟩
  rw [f2.1 1 0 (by decide) rfl, f1.1 1 0 (by decide) rfl]
  exact u3
/-- a block in a block is closed -/
def xc (f : xF) : xF := match f.2.2.2.1 with
  | b :: b2 :: bs => (f.1, f.2.1.take b.1, [], (b2.1, b2.2.1, b2.2.2.1 ++ xcb b, b2.2.2.2) :: bs, f.2.2.2.2)
  | _ => f
theorem XC.cls {b2 : xB} (h : XC e s (f :: r)) (hz : SZ (f :: r)) (hb : f.2.2.2.1 = b :: b2 :: bs) (hp : f.2.2.1 = []) (hn : b.1 ≤ f.2.1.length) : XC (e + (if b.2.2.2 = 1 then 1 else 0)) (c81 s).1 (xc f :: r) ∧ ((c81 s).1.f 1 0 ≠ 0 ↔ s.f 1 0 ≠ 0 ∨ ∃ g ∈ b.2.2.1, ovr b.2.1 g) := by
  obtain ⟨h1, h2, h3, h4, h5, h6⟩ := c81_tr h hz hb hp hn
  have ex : xc f = (f.1, f.2.1.take b.1, [], (b2.1, b2.2.1, b2.2.2.1 ++ xcb b, b2.2.2.2) :: bs, f.2.2.2.2) := by
    unfold xc
    rw [hb]
  have hf := fr_c81 s
  refine ⟨⟨?_, ?_, ?_, ?_, ?_, ?_, ?_, fun f' r' q => ?_⟩, h5⟩
  · rw [ex]
    show TR _ _ (fL r ++ (f.2.1.take b.1 ++ []))
    rw [List.append_nil]
    exact h1
  · rw [ex]
    exact h2
  · rw [ex]
    exact h3
  · rw [ex]
    show TR _ _ (fGo r ++ (bGo bs ++ (b2.2.2.1 ++ xcb b)))
    have e1 : fGo r ++ bGo (b2 :: bs) ++ xcb b = fGo r ++ (bGo bs ++ (b2.2.2.1 ++ xcb b)) := by
      show fGo r ++ (bGo bs ++ b2.2.2.1) ++ xcb b = _
      simp only [List.append_assoc]
    rw [e1] at h4
    exact h4
  · rw [(hf.2.1 28 rfl).1, h.lp, ex]
    show ((fLp r + bLp f.2.2.2.1 : Nat) : Int) + (e : Int) = ((fLp r + (bLp bs + (if b2.2.2.2 = 1 then 1 else 0)) : Nat) : Int) + ((e + (if b.2.2.2 = 1 then 1 else 0) : Nat) : Int)
    rw [hb]
    show ((fLp r + (bLp bs + (if b2.2.2.2 = 1 then 1 else 0) + (if b.2.2.2 = 1 then 1 else 0)) : Nat) : Int) + (e : Int) = _
    omega
  · rw [hf.1 13 1 (by decide) rfl]; exact h.ln
  · have h7 := h.xf.same (s' := (c81 s).1) (hf.2.2.2.2.1 rfl) (fun y j _ => hf.2.2.1 y j (Nat.zero_testBit _))
    rw [ex]
    exact h7
  · rw [hf.2.2.2.1 rfl, ex] at *
    cases q
    exact h.nw f r rfl
end XCL
