/-! THE CLASS: functions begin and end -/
theorem XF.same2 {s s' : cS} : ∀ {X : List xF}, XF s X → (∀ j, j < X.length → s'.op j = s.op j) → (∀ f ∈ X, ∀ j, (j = 5 ∨ j = 9 ∨ j = 10 ∨ j = 11 ∨ j = 12) → s'.b f.1 j = s.b f.1 j) → XF s' X := by
  intro X
  induction X with
  | nil => intro _ _ _; trivial
  | cons f r ih =>
    intro h ho hb
    obtain ⟨h1, h2, h3, h4, h5, h6, h7, h8⟩ := h
    have hf := hb f List.mem_cons_self
    refine ⟨by rw [ho _ (Nat.lt_succ_self _)]; exact h1, ?_, ?_, ?_, ?_, ?_, h7, ih h8 (fun j hj => ho j (Nat.lt_succ_of_lt hj)) (fun g hg => hb g (List.mem_cons_of_mem _ hg))⟩
    · rw [hf 9 (by decide)]; exact h2
    · rw [hf 10 (by decide)]; exact h3
    · rw [hf 11 (by decide)]; exact h4
    · rw [hf 12 (by decide)]; exact h5
    · rw [hf 5 (by decide)]; exact h6
/-- gotos that found no label -/
theorem rg_go {y : Int32} : ∀ (G P : List xR) (s : cS), TR s (.s 26) (P ++ G) → (P ++ G).length ≤ 1000000 → ∃ m s', kwh (c88b2 y) m (s, xn P.length) = (1, (s', xn (P.length + G.length))) ∧ cFr 196608 0 0 0 s s' ∧ (s'.f 1 0 ≠ 0 ↔ s.f 1 0 ≠ 0 ∨ G ≠ []) := by
  intro G
  induction G with
  | nil =>
    intro P s h hz
    rw [List.append_nil] at h hz
    have e : c88b2 y (s, xn P.length) = (1, (s, xn P.length)) := by
      unfold c88b2
      rw [if_pos (by show s.r (.s 26) ≤ xn P.length; rw [i_le, h.1, xn_i (by omega)]; omega)]
    refine ⟨1, s, by rw [kwh_out (by rw [e]; exact Nat.succ_ne_zero _), e]; rfl, cFr.refl, ⟨Or.inl, fun q => q.resolve_right (fun z => z rfl)⟩⟩
  | cons g G ih =>
    intro P s h hz
    have hlen : (P ++ g :: G).length = P.length + (G.length + 1) := by rw [List.length_append]; rfl
    have e : c88b2 y (s, xn P.length) = (0, ((c76 s 12 (tg s (.s 26) (xn P.length) 1)).1, xn (P.length + 1))) := by
      unfold c88b2
      rw [if_neg (by show ¬ s.r (.s 26) ≤ xn P.length; rw [i_le, h.1, xn_i (by omega)]; omega)]
      show (0, ((c76 s 12 (tg s (.s 26) (xn P.length) 1)).1, xn P.length + 1)) = _
      rw [xn_succ (by omega)]
    have hf := fr_c76 s 12 (tg s (.s 26) (xn P.length) 1)
    have h' : TR (c76 s 12 (tg s (.s 26) (xn P.length) 1)).1 (.s 26) ((P ++ [g]) ++ G) := by
      rw [List.append_assoc]
      exact h.fr hf (Nat.zero_testBit _)
    have hl1 : (P ++ [g]).length = P.length + 1 := by rw [List.length_append]; rfl
    obtain ⟨m, s', r1, r2, r3⟩ := ih (P ++ [g]) _ h' (by rw [List.append_assoc]; exact hz)
    rw [hl1] at r1
    refine ⟨m + 1, s', ?_, hf.trans r2, ?_⟩
    · rw [kwh_go (by rw [e]), e]
      show kwh _ m (_, xn (P.length + 1)) = _
      rw [r1, show P.length + 1 + G.length = P.length + (g :: G).length by simp only [List.length_cons]; omega]
    · rw [r3]
      exact ⟨fun _ => Or.inr (by intro q; cases q), fun _ => Or.inl (c76_f (by decide))⟩
theorem c88_tr {s : cS} {P G : List xR} (h : TR s (.s 26) (P ++ G)) (hz : (P ++ G).length ≤ 1000000) : TR (c88 s (xn P.length)).1 (.s 26) P ∧ ((c88 s (xn P.length)).1.f 1 0 ≠ 0 ↔ s.f 1 0 ≠ 0 ∨ G ≠ []) := by
  obtain ⟨m, s', r1, r2, r3⟩ := rg_go (y := xn P.length) G P s h hz
  have zP : (P ++ G).length = P.length + G.length := List.length_append
  have hk := kfin_of ⟨m, r1⟩ (Nat.succ_ne_zero 0)
  have e : (c88 s (xn P.length)).1 = tct s' (.s 26) (xn P.length) := by
    unfold c88
    rw [hk]
  rw [e]
  have t := (h.fr r2 (Nat.zero_testBit _)).cut (n := xn P.length) (k := P.length) (xn_i (by omega)) (by omega)
  rw [List.take_left] at t
  have f1 : cFr 0 67108864 0 0 s' (tct s' (.s 26) (xn P.length)) := cFr.refl.tcts rfl
  refine ⟨t, ?_⟩
  rw [f1.1 1 0 (by decide) rfl]
  exact r3
section XFE
variable {e : Nat} {s : cS} {f f2 : xF} {r : List xF} {b : xB}
/-- a function ends: its faults -/
theorem c80_f (h : XC e s (f :: r)) (hz : SZ (f :: r)) (hb : f.2.2.2.1 = [b]) (hp : f.2.2.1 = []) (hn : b.1 = 0) : ((c80 s).1.f 1 0 ≠ 0 ↔ (s.f 1 0 ≠ 0 ∨ ∃ g ∈ b.2.2.1, ovr b.2.1 g) ∨ xcb b ≠ []) := by
  obtain ⟨h1, h2, h3, h4, h5, h6⟩ := c81_tr h hz hb hp (by omega)
  have hf := fr_c81 s
  have zz := hz.l
  have zx : (xcb b).length ≤ b.2.2.1.length := by
    unfold xcb mvd
    rw [List.length_map]
    exact List.length_filter_le _ _
  have zg : (fGo (f :: r)).length = (fGo r).length + b.2.2.1.length := by
    show (fGo r ++ bGo f.2.2.2.1).length = _
    rw [hb]
    show (fGo r ++ ([] ++ b.2.2.1)).length = _
    rw [List.nil_append, List.length_append]
  have h4' : TR (c81 s).1 (.s 26) (fGo r ++ xcb b) := by
    have : fGo r ++ bGo [] ++ xcb b = fGo r ++ xcb b := by show fGo r ++ [] ++ xcb b = _; rw [List.append_nil]
    rw [this] at h4
    exact h4
  have e11 : (c81 s).1.b (c81 s).1.now 11 = xn (fGo r).length := by
    rw [hf.2.2.2.1 rfl, hf.2.2.1 _ _ (Nat.zero_testBit _), h.nw f r rfl]
    exact h.xf.2.2.2.1
  obtain ⟨t1, t2⟩ := c88_tr h4' (by rw [List.length_append]; omega)
  have ec : (c80 s).1.f 1 0 = (c88 (c81 s).1 (xn (fGo r).length)).1.f 1 0 := by
    unfold c80 c80_4
    rw [e11]
    unfold c80_18
    split
    · rfl
    · exact congrFun (nf_ne (s := (c88 (c81 s).1 (xn (fGo r).length)).1) (k := 13) (j := 1) (v := (c88 (c81 s).1 (xn (fGo r).length)).1.f 13 1 - 1) (k' := 1) (by decide)) 0
  rw [ec, t2, h5]
/-- a function in a function ends -/
theorem XC.fin (h : XC e s (f :: f2 :: r)) (hz : SZ (f :: f2 :: r)) (hb : f.2.2.2.1 = [b]) (hp : f.2.2.1 = []) (hn : b.1 = 0) (hk : b.2.2.2 ≠ 1) : XC e (c80 s).1 (f2 :: r) := by
  obtain ⟨h1, h2, h3, h4, h5, h6⟩ := c81_tr h hz hb hp (by omega)
  have hf := fr_c81 s
  have zz := hz.l
  have zx : (xcb b).length ≤ b.2.2.1.length := by
    unfold xcb mvd
    rw [List.length_map]
    exact List.length_filter_le _ _
  have zg : (fGo (f :: f2 :: r)).length = (fGo (f2 :: r)).length + b.2.2.1.length := by
    show (fGo (f2 :: r) ++ bGo f.2.2.2.1).length = _
    rw [hb]
    show (fGo (f2 :: r) ++ ([] ++ b.2.2.1)).length = _
    rw [List.nil_append, List.length_append]
  have h4' : TR (c81 s).1 (.s 26) (fGo (f2 :: r) ++ xcb b) := by
    have : fGo (f2 :: r) ++ bGo [] ++ xcb b = fGo (f2 :: r) ++ xcb b := by show fGo (f2 :: r) ++ [] ++ xcb b = _; rw [List.append_nil]
    rw [this] at h4
    exact h4
  have e11 : (c81 s).1.b (c81 s).1.now 11 = xn (fGo (f2 :: r)).length := by
    rw [hf.2.2.2.1 rfl, hf.2.2.1 _ _ (Nat.zero_testBit _), h.nw f (f2 :: r) rfl]
    exact h.xf.2.2.2.1
  obtain ⟨t1, t2⟩ := c88_tr h4' (by rw [List.length_append]; omega)
  have hg := fr_c88 (c81 s).1 (xn (fGo (f2 :: r)).length)
  have hlen : (f :: f2 :: r).length = r.length + 2 := rfl
  have e13 : (c88 (c81 s).1 (xn (fGo (f2 :: r)).length)).1.f 13 1 = xn (r.length + 2) := by
    rw [hg.1 13 1 (by decide) rfl, hf.1 13 1 (by decide) rfl]
    exact h.ln
  have ec : (c80 s).1 = nn (nf (c88 (c81 s).1 (xn (fGo (f2 :: r)).length)).1 13 1 (xn (r.length + 1))) f2.1 := by
    unfold c80 c80_4
    rw [e11]
    unfold c80_18
    rw [e13, if_neg (by rw [i_le, xn_i (by omega)]; have e1 : (1 : Int32).toInt = 1 := rfl; omega)]
    have s1 : xn (r.length + 2) - 1 = xn (r.length + 1) := xn_eq (by rw [i_sub (xn_i (by omega)) (show (1 : Int32).toInt = 1 from rfl) (by omega) (by omega)]; omega) (by omega)
    have s2 : xn (r.length + 1) - 1 = xn r.length := xn_eq (by rw [i_sub (xn_i (by omega)) (show (1 : Int32).toInt = 1 from rfl) (by omega) (by omega)]; omega) (by omega)
    rw [s1, s2, xn_i (by omega)]
    show nn (nf _ 13 1 _) ((c88 (c81 s).1 (xn (fGo (f2 :: r)).length)).1.op ((r.length : Int).toNat)) = _
    rw [Int.toNat_natCast, hg.2.2.2.2.1 rfl, hf.2.2.2.2.1 rfl]
    have h8 : s.op r.length = f2.1 := h.xf.2.2.2.2.2.2.2.1
    rw [h8]
  rw [ec]
  have ht : cFr 0 67108864 0 0 (c81 s).1 (c81 s).1 := cFr.refl
  refine ⟨?_, ?_, ?_, ?_, ?_, ?_, ?_, fun f' r' q => ?_⟩
  · have : TR (c88 (c81 s).1 (xn (fGo (f2 :: r)).length)).1 (.s 14) (fL (f2 :: r)) := by
      have h1' := h1.fr hg rfl
      rw [hn, List.take_zero, List.append_nil] at h1'
      exact h1'
    exact this.same rfl rfl
  · have : TR (c88 (c81 s).1 (xn (fGo (f2 :: r)).length)).1 (.s 16) (fBl (f2 :: r)) := by
      have h2' := h2.fr hg rfl
      have e2 : fBl (f2 :: r) ++ bBl (fL (f2 :: r)).length (fLab (f2 :: r)).length (fGo (f2 :: r)).length [] = fBl (f2 :: r) := List.append_nil _
      rw [e2] at h2'
      exact h2'
    exact this.same rfl rfl
  · have : TR (c88 (c81 s).1 (xn (fGo (f2 :: r)).length)).1 (.s 24) (fLab (f2 :: r)) := by
      have h3' := h3.fr hg rfl
      have e2 : fLab (f2 :: r) ++ bLab [] = fLab (f2 :: r) := List.append_nil _
      rw [e2] at h3'
      exact h3'
    exact this.same rfl rfl
  · exact t1.same rfl rfl
  · show ((c88 (c81 s).1 (xn (fGo (f2 :: r)).length)).1.r (.s 28)).toInt = _
    rw [(hg.2.1 28 rfl).1, (hf.2.1 28 rfl).1, h.lp]
    show ((fLp (f2 :: r) + bLp f.2.2.2.1 : Nat) : Int) + (e : Int) = _
    rw [hb]
    show ((fLp (f2 :: r) + (0 + (if b.2.2.2 = 1 then 1 else 0)) : Nat) : Int) + (e : Int) = _
    rw [if_neg hk]
    rfl
  · show (nf (c88 (c81 s).1 (xn (fGo (f2 :: r)).length)).1 13 1 (xn (r.length + 1))).f 13 1 = _
    rw [nf_at]
    rfl
  · refine h.xf.2.2.2.2.2.2.2.same (s' := nn (nf (c88 (c81 s).1 (xn (fGo (f2 :: r)).length)).1 13 1 (xn (r.length + 1))) f2.1) ?_ (fun x j _ => ?_)
    · show (c88 (c81 s).1 (xn (fGo (f2 :: r)).length)).1.op = s.op
      rw [hg.2.2.2.2.1 rfl, hf.2.2.2.2.1 rfl]
    · show (c88 (c81 s).1 (xn (fGo (f2 :: r)).length)).1.b x j = s.b x j
      rw [hg.2.2.1 x j (Nat.zero_testBit _), hf.2.2.1 x j (Nat.zero_testBit _)]
  · cases q
    rfl
end XFE
