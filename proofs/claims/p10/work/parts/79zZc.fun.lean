/-! NAMES AND FAULTS OF BOTH SIDES: a for's hidden locals; functions begin and end -/
section REH
variable {e : Nat} {s : cS} {k : kS} {f f2 : xF} {r : List xF} {b : xB}
theorem xdn_snoc {f : xF} {l : List xR} {q : xR} : xdn f (l ++ [q]) = xd (xdn f l) q := by
  rw [xdn_all, xdn_all]
  unfold xd
  dsimp only
  rw [List.append_assoc]
theorem SZ_same {f : xF} {l l' : List xR} (hl : l.length = l'.length) (h : SZ (xdn f l :: r)) : SZ (xdn f l' :: r) := by
  rw [xdn_all] at h ⊢
  unfold SZ at h ⊢
  have e1 : ∀ l : List xR, (fL (((f.1, f.2.1 ++ l, f.2.2.1, f.2.2.2.1, f.2.2.2.2) : xF) :: r)).length = (fL r).length + (f.2.1.length + l.length + f.2.2.1.length) := fun l => by
    show (fL r ++ ((f.2.1 ++ l) ++ f.2.2.1)).length = _
    rw [List.length_append, List.length_append, List.length_append]
  have h' := h
  rw [e1] at h' ⊢
  rw [← hl]
  exact h'
/-- a for's hidden block with its locals, and its loop -/
theorem RE.hid {n : Nat} {v w w' y : Int32} (h : RN s k (f :: r)) (hp : f.2.2.1 = []) (hn : n ≤ 8) (hz : SZ (xdn (xo f 2) (List.replicate (n + 1) (0, 0, 0, 0)) :: r)) (hv : (0 ||| v) &&& 1 = 0) : RE 1 (c140 s (xn (n + 1)) v w).1 (k254 k (xn (n + 1)) y w').1 (xdn (xo f 2) (List.replicate n (0, 0, 0, 0) ++ [(0, 0 ||| v, 0, 0)]) :: r) := by
  obtain ⟨h1, h2, h3, h4, h5⟩ := h
  have hzo : SZ (xo f 2 :: r) := SZ_xdn hz
  have hz0 : SZ (f :: r) := by
    have e1 : (fL (xo f 2 :: r)).length = (fL (f :: r)).length := rfl
    have e2 : (fBl (f :: r)).length ≤ (fBl (xo f 2 :: r)).length := by
      show (fBl r ++ bBl _ _ _ f.2.2.2.1).length ≤ (fBl r ++ (bBl _ _ _ f.2.2.2.1 ++ [_])).length
      rw [List.length_append, List.length_append, List.length_append]
      omega
    have e3 : (fLab (xo f 2 :: r)).length = (fLab (f :: r)).length := by
      show (fLab r ++ (bLab f.2.2.2.1 ++ [])).length = (fLab r ++ bLab f.2.2.2.1).length
      rw [List.append_nil]
    have e4 : (fGo (xo f 2 :: r)).length = (fGo (f :: r)).length := by
      show (fGo r ++ (bGo f.2.2.2.1 ++ [])).length = (fGo r ++ bGo f.2.2.2.1).length
      rw [List.append_nil]
    have e5 : fLp (xo f 2 :: r) = fLp (f :: r) := rfl
    have e6 : (xo f 2 :: r).length = (f :: r).length := rfl
    unfold SZ at hzo ⊢
    omega
  have hc := fr_c140 s (xn (n + 1)) v w
  have hk := fr_k254 k (xn (n + 1)) y w'
  have o1 : XC 0 (c51 s).1 (xo f 2 :: r) := h1.opn hz0 (by decide)
  obtain ⟨m, s', r1, r2, r3⟩ := ch_go (y2 := v) (y4 := c75 s) (w := w) (n + 1) 0 (xo f 2) (c51 s).1 o1 hp hz (by omega)
  rw [Nat.zero_add] at r1
  have ek := kfin_of ⟨m, r1⟩ (Nat.succ_ne_zero 0)
  have er : List.replicate (n + 1) ((0, 0, 0, 0) : xR) = List.replicate n (0, 0, 0, 0) ++ [(0, 0, 0, 0)] := List.replicate_succ'
  have hz' := hz
  rw [er, xdn_snoc] at hz'
  rw [er, xdn_snoc] at r2
  have hpn : (xdn (xo f 2) (List.replicate n (0, 0, 0, 0))).2.2.1 = [] := by rw [xdn_all]; exact hp
  have r4 := r2.mrl (v := v) hz' hpn
  have r5 : XC 1 (c131 (c141 s' v).1 (c75 (c141 s' v).1)).1 (xd (xdn (xo f 2) (List.replicate n (0, 0, 0, 0))) (0, 0 ||| v, 0, 0) :: r) := r4.lop (by
    have e5 : fLp (xd (xdn (xo f 2) (List.replicate n (0, 0, 0, 0))) (0, 0 ||| v, 0, 0) :: r) = fLp (xd (xdn (xo f 2) (List.replicate n (0, 0, 0, 0))) (0, 0, 0, 0) :: r) := rfl
    have := hz'.l
    rw [e5]
    omega)
  have ec : (c140 s (xn (n + 1)) v w).1 = (c131 (c141 s' v).1 (c75 (c141 s' v).1)).1 := by
    unfold c140 c140_16 c140_49
    rw [show ((0 : Int32)) = xn 0 from rfl, ek]
  have ll : (List.replicate n ((0, 0, 0, 0) : xR) ++ [(0, 0 ||| v, 0, 0)]).length = n + 1 := by rw [List.length_append, List.length_replicate]; rfl
  obtain ⟨m2, k', t1, t2, t3⟩ := k254_go (w := w') (y := y) (r := r) (List.replicate n (0, 0, 0, 0) ++ [(0, 0 ||| v, 0, 0)]) 0 (xo f 2) k h2.oph (SZ_same (by rw [ll, List.length_replicate]) hz) (fun q hq => by
    rcases List.mem_append.mp hq with a | a
    · rw [List.eq_of_mem_replicate a]
      exact ⟨rfl, by decide, rfl⟩
    · rw [List.mem_singleton.mp a]
      exact ⟨rfl, hv, rfl⟩) (by omega)
  rw [Nat.zero_add, ll] at t1
  have ek2 := kfin_of ⟨m2, t1⟩ (Nat.succ_ne_zero 0)
  have e2 : (k254 k (xn (n + 1)) y w').1 = k' := by
    unfold k254
    rw [show ((0 : Int32)) = xn 0 from rfl, ek2]
  have e8 : s'.f 1 0 = (c131 (c141 s' v).1 (c75 (c141 s' v).1)).1.f 1 0 := by
    rw [(fr_c131 _ _).1 1 0 (by decide) (Nat.zero_testBit _), (fr_c141 _ _).1 1 0 (by decide) (Nat.zero_testBit _)]
  have hwf : WFx (xdn (xo f 2) (List.replicate n (0, 0, 0, 0) ++ [(0, 0 ||| v, 0, 0)]) :: r) := by
    have := wf_xo (kd := 2) h3 hp
    rw [xdn_all]
    exact ⟨WFb.mono (by show (xo f 2).2.1.length ≤ ((xo f 2).2.1 ++ _).length; rw [List.length_append]; omega) this.1, this.2.1, this.2.2.1, this.2.2.2⟩
  refine ⟨by rw [ec, xdn_snoc]; exact r5, by rw [e2]; exact t2, hwf, ?_, h5.same (hc.1 5 1 (by decide) rfl) (hc.1 6 1 (by decide) rfl) (hk.1 53 rfl) (hd_same (by rw [xdn_all]; rfl))⟩
  have h4' : FA s k (xdn (xo f 2) (List.replicate n (0, 0, 0, 0) ++ [(0, 0 ||| v, 0, 0)]) :: r) := by
    unfold FA at h4 ⊢
    have a1 : ovX (xdn (xo f 2) (List.replicate n (0, 0, 0, 0) ++ [(0, 0 ||| v, 0, 0)]) :: r) ↔ ovX (f :: r) := by
      have a0 : ovX (xo f 2 :: r) ↔ ovX (f :: r) := ov_xo
      rw [← a0, ovX_c, ovX_c (f := xo f 2), xdn_all]
    have a2 : lmX (xdn (xo f 2) (List.replicate n (0, 0, 0, 0) ++ [(0, 0 ||| v, 0, 0)]) :: r) ↔ lmX (f :: r) := by
      rw [lmX_c, lmX_c]
      exact ⟨fun z => Or.inr (z.resolve_left (lmF_no (by rw [xdn_all]; exact hp))), fun z => Or.inr (z.resolve_left (lmF_no hp))⟩
    rw [a1, a2]
    exact h4
  refine h4'.both (P := ∃ j, j < n + 1 ∧ 200 ≤ (xo f 2).2.1.length + j) ?_ ?_
  · rw [ec, ← e8, r3, (fr_c51 s).1 1 0 (by decide) (Nat.zero_testBit _)]
  · rw [e2, t3, ll]
theorem xcb_um : xcb b ≠ [] ↔ bUm [b] ≠ [] := by
  have e1 : bUm [b] = b.2.2.1.filter (fun g => (flab b.2.1 g.1).isNone) := by
    show [] ++ b.2.2.1.filter (fun g => !(seen ([] ++ b.2.1) g.1)) = _
    rw [List.nil_append, List.nil_append]
    congr 1
    funext g
    exact flab_seen.symm
  rw [e1]
  unfold xcb mvd
  constructor
  · intro h z
    apply h
    rw [z]
    rfl
  · intro h z
    exact h (List.map_eq_nil_iff.mp z)
/-- a function in a function ends -/
theorem RN.fin {y : Int32} (h : RN s k (f :: f2 :: r)) (hz : SZ (f :: f2 :: r)) (hb : f.2.2.2.1 = [b]) (hp : f.2.2.1 = []) : RN (c80 s).1 (k222_54 (k224 (k223 k).1).1 y).1 (f2 :: r) := by
  have hw := RE.wb (e := 0) (b := b) (bs := []) h hb
  obtain ⟨h1, h2, ⟨w1, w2, w3, w4⟩, h4, h5⟩ := h
  obtain ⟨b0, bk⟩ := hw.2.2.2.1 rfl
  have hc := fr_c80 s
  obtain ⟨y1, y2⟩ := h2.los hz hb
  have hz' : SZ (xlo f b :: f2 :: r) := by
    have e4 : (fGo (xlo f b :: f2 :: r)).length ≤ (fGo (f :: f2 :: r)).length := by
      show (fGo (f2 :: r) ++ ([] ++ [])).length ≤ (fGo (f2 :: r) ++ _).length
      rw [List.append_nil, List.append_nil, List.length_append]
      omega
    have e2 : (fBl (xlo f b :: f2 :: r)).length = (fBl (f :: f2 :: r)).length := by
      show (fBl (f2 :: r) ++ bBl _ _ _ [_]).length = (fBl (f2 :: r) ++ bBl _ _ _ f.2.2.2.1).length
      rw [hb, List.length_append, List.length_append]
      rfl
    have e3 : fLab (xlo f b :: f2 :: r) = fLab (f :: f2 :: r) := by
      show fLab (f2 :: r) ++ bLab [_] = fLab (f2 :: r) ++ bLab f.2.2.2.1
      rw [hb]
      rfl
    have e5 : fLp (xlo f b :: f2 :: r) = fLp (f :: f2 :: r) := by
      show fLp (f2 :: r) + bLp [_] = fLp (f2 :: r) + bLp f.2.2.2.1
      rw [hb]
      rfl
    have e1 : fL (xlo f b :: f2 :: r) = fL (f :: f2 :: r) := rfl
    have e6 : (xlo f b :: f2 :: r).length = (f :: f2 :: r).length := rfl
    unfold SZ at hz ⊢
    rw [e1, e2, e3, e5, e6]
    omega
  obtain ⟨z1, z2⟩ := y1.drp (b := (b.1, b.2.1, [], b.2.2.2)) (y := y) hz' rfl (by rw [bk]; decide) b0 rfl
  have x2 := c80_f h1 hz hb hp b0
  have h53 : (k222_54 (k224 (k223 k).1).1 y).1.1 53 = k.1 53 := by
    rw [(fr_k222_54 _ _).1 53 rfl, (fr_k224 _).1 53 rfl, (fr_k223 _).1 53 rfl]
  refine ⟨h1.fin hz hb hp b0 (by rw [bk]; decide), z1, w4, ?_, h5.same (hc.1 5 1 (by decide) rfl) (hc.1 6 1 (by decide) rfl) h53 (fun g hg => ⟨g, List.mem_cons_of_mem _ hg, rfl⟩)⟩
  have h4' : FA s k (f :: f2 :: r) := h4
  unfold FA at h4 ⊢
  have a1 : ovX (f :: f2 :: r) ↔ (∃ g ∈ b.2.2.1, ovr b.2.1 g) ∨ ovX (f2 :: r) := by
    rw [ovX_c (r := f2 :: r), hb, ovB_c]
    have : ¬ ovB [] := fun ⟨g, hg, _⟩ => absurd hg List.not_mem_nil
    constructor
    · rintro ((z | z) | z)
      · exact Or.inl z
      · exact absurd z this
      · exact Or.inr z
    · rintro (z | z)
      · exact Or.inl (Or.inl z)
      · exact Or.inr z
  have a2 : lmX (f :: f2 :: r) ↔ lmX (f2 :: r) := by
    rw [lmX_c (r := f2 :: r)]
    exact ⟨fun z => z.resolve_left (lmF_no hp), Or.inr⟩
  rw [a1, a2] at h4
  rw [z2, y2, x2, xcb_um]
  constructor
  · rintro ((z | z) | z)
    · rcases h4.mp (Or.inl z) with z | z | z
      · exact Or.inl (Or.inl (Or.inl z))
      · exact Or.inl (Or.inl (Or.inr z))
      · exact Or.inr z
    · exact Or.inl (Or.inr z)
    · rcases h4.mp (Or.inr z) with z | z | z
      · exact Or.inl (Or.inl (Or.inl z))
      · exact Or.inl (Or.inl (Or.inr z))
      · exact Or.inr z
  · rintro (((z | z) | z) | z)
    · rcases h4.mpr (Or.inl z) with z | z
      · exact Or.inl (Or.inl z)
      · exact Or.inr z
    · rcases h4.mpr (Or.inr (Or.inl z)) with z | z
      · exact Or.inl (Or.inl z)
      · exact Or.inr z
    · exact Or.inl (Or.inr z)
    · rcases h4.mpr (Or.inr (Or.inr z)) with z | z
      · exact Or.inl (Or.inl z)
      · exact Or.inr z
end REH
