/-! CLOSING A BLOCK on both sides: gotos that wait -/
section GLS
variable {k : kS} {x u : Nat} {ls : List xR}
theorem GL.app : ∀ {A B : List xR} {HA HB : List hE} {u : Nat}, GL k x ls u A HA → GL k x ls (u + (A.filter (fun g => !(seen ls g.1))).length) B HB → GL k x ls u (A ++ B) (HA ++ HB) := by
  intro A
  induction A with
  | nil =>
    intro B HA HB u h1 h2
    have h1 : HA = [] := h1
    subst h1
    exact h2
  | cons q A ih =>
    intro B HA HB u h1 h2
    obtain ⟨g, v1, v2, Hr, e, e0, h⟩ := h1
    subst e
    refine ⟨g, v1, v2, Hr ++ HB, rfl, e0, ?_⟩
    rcases h with ⟨c, cl, h⟩ | ⟨c, c51, cg, h⟩
    · refine Or.inl ⟨c, cl, ih h ?_⟩
      rw [List.filter_cons_of_neg (by rw [c]; exact Bool.false_ne_true)] at h2
      exact h2
    · refine Or.inr ⟨c, c51, cg, ih h ?_⟩
      rw [List.filter_cons_of_pos (by rw [c]; rfl), List.length_cons] at h2
      rw [show u + 1 + (A.filter (fun g => !(seen ls g.1))).length = u + ((A.filter (fun g => !(seen ls g.1))).length + 1) by omega]
      exact h2
theorem GL.map {v : Int32} : ∀ {A : List xR} {H : List hE} {u : Nat}, GL k x ls u A H → GL k x ls u (A.map (xmv v)) H := by
  intro A
  induction A with
  | nil => intro H u h; exact h
  | cons q A ih =>
    rintro H u ⟨g, v1, v2, Hr, e, e0, h⟩
    refine ⟨g, v1, v2, Hr, e, e0, ?_⟩
    rcases h with ⟨c, cl, h⟩ | ⟨c, c51, cg, h⟩
    · exact Or.inl ⟨c, cl, ih h⟩
    · exact Or.inr ⟨c, c51, cg, ih h⟩
theorem seen_no {A : List xR} {t : Int32} (h : flab A t = none) : seen A t = false := by
  unfold flab at h
  unfold seen
  rw [List.any_eq_false]
  exact fun l hl => List.find?_eq_none.mp h l hl
theorem nod_eq : ∀ {A : List xR} {l l' : xR}, (A.map (fun l => l.1)).Nodup → l ∈ A → l' ∈ A → l.1 = l'.1 → l = l' := by
  intro A
  induction A with
  | nil => intro l l' _ h; exact absurd h List.not_mem_nil
  | cons a A ih =>
    intro l l' hn h h' e
    have hn : (a.1 :: A.map (fun l => l.1)).Nodup := hn
    obtain ⟨n1, n2⟩ := List.nodup_cons.mp hn
    rcases List.mem_cons.mp h with z | z
    · rcases List.mem_cons.mp h' with z' | z'
      · rw [z, z']
      · exact absurd (List.mem_map.mpr ⟨l', z', by rw [← e, z]⟩) n1
    · rcases List.mem_cons.mp h' with z' | z'
      · exact absurd (List.mem_map.mpr ⟨l, z, by rw [e, z']⟩) n1
      · exact ih n2 z z' e
end GLS
section CLR
variable {D : Df} {HA HB : List hE} {k : kS} {x u : Nat} {b : jB} {bs : List jB}
/-- while a block's gotos are gone through: those that are kept, those that are left -/
def CBP (D : Df) (HA HB : List hE) (k : kS) (x u : Nat) (b : jB) (bs : List jB) (s : cS) (K G : List xR) : Prop := ∃ HK HG, GL k x (jLab bs) u K HK ∧ GL k x (jLab (b :: bs)) (u + (K.filter (fun g => !(seen (jLab bs) g.1))).length) G HG ∧ RWS D (HA ++ (HK ++ (HG ++ HB))) s k
theorem CBP.fr {s s' : cS} {K G : List xR} {F T B G' : Nat} (h : CBP D HA HB k x u b bs s K G) (hc : cFr F T B G' s s') (c4 : G' &&& 21 = 0) : CBP D HA HB k x u b bs s' K G := by
  obtain ⟨HK, HG, h1, h2, h3⟩ := h
  exact ⟨HK, HG, h1, h2, h3.same (hc.2.2.2.2.2.2.1 (tb0' c4 (by decide))) (hc.2.2.2.2.2.1 (tb0' c4 (by decide))) (hc.2.2.2.1 (tb0' c4 (by decide))) id rfl rfl rfl (fun _ _ _ => rfl)⟩
theorem CBP.kee {s : cS} {K G : List xR} {g : xR} {i j v : Int32} (h : CBP D HA HB k x u b bs s K (g :: G)) (hf : flab b.1 g.1 = none) : CBP D HA HB k x u b bs (c87 s i j v).1 (K ++ [g]) G := by
  obtain ⟨HK, HG, h1, ⟨g0, v1, v2, Hr, e, e0, h2⟩, h3⟩ := h
  subst e
  have es : seen (jLab (b :: bs)) g.1 = seen (jLab bs) g.1 := by
    show seen (jLab bs ++ b.1) g.1 = _
    rw [seen_app, seen_no hf, Bool.or_false]
  have hl : RWS D (HA ++ ((HK ++ [(x, lvg g, 1, g0, 0, v1), (x, lvg g + 1, 1, g0 + 1, 0, v2)]) ++ (Hr ++ HB))) (c87 s i j v).1 k := by
    have fc := fr_c87 s i j v
    rw [List.append_assoc HK]
    exact h3.same (fc.2.2.2.2.2.2.1 (Nat.zero_testBit _)) (fc.2.2.2.2.2.1 (Nat.zero_testBit _)) (fc.2.2.2.1 (Nat.zero_testBit _)) id rfl rfl rfl (fun _ _ _ => rfl)
  rw [es] at h2
  rcases h2 with ⟨c, ⟨l, l1, l2, l3⟩, h2⟩ | ⟨c, c51, cg, h2⟩
  · have lb : l ∈ jLab bs := by
      rcases List.mem_append.mp (show l ∈ jLab bs ++ b.1 from l1) with z | z
      · exact z
      · unfold flab at hf
        exact absurd (decide_eq_true l2) (List.find?_eq_none.mp hf l z)
    refine ⟨_, Hr, h1.app ⟨g0, v1, v2, [], rfl, e0, Or.inl ⟨c, ⟨l, lb, l2, l3⟩, rfl⟩⟩, ?_, hl⟩
    rw [List.filter_append, List.filter_cons_of_neg (by rw [c]; exact Bool.false_ne_true), List.filter_nil, List.append_nil]
    exact h2
  · refine ⟨_, Hr, h1.app ⟨g0, v1, v2, [], rfl, e0, Or.inr ⟨c, c51, cg, rfl⟩⟩, ?_, hl⟩
    rw [List.filter_append, List.filter_cons_of_pos (by rw [c]; rfl), List.filter_nil, List.length_append]
    exact h2
theorem RWS.ldg {H : List hE} {s : cS} {i g : Nat} {vc vk v iv : Int32} {H1 H2 : List hE} (h : RWS D (H1 ++ (x, i, 1, g, vc, vk) :: H2) s k) (hi : iv.toInt = i) (hv : v = vk) : RWS D (H1 ++ H2) (ts s (.i (x + 1)) iv 1 v) k := by
  have h1 := h.perm List.perm_middle
  have h2 : RWS D ((x, i, 1, g, v, vk) :: (H1 ++ H2)) (ts s (.i (x + 1)) iv 1 v) k := RWS.cset (j := 1) h1 hi
  exact h2.drop (fun _ _ _ => hv)
theorem CBP.led {s : cS} {K G : List xR} {g l : xR} {i j : Int32} (h : CBP D HA HB k x u b bs s K (g :: G)) (hd : ((jLab (b :: bs)).map (fun l => l.1)).Nodup) (hf : flab b.1 g.1 = some l) (e26 : tg s (.s 26) i 2 = g.2.2.1) (e2 : tg s (.s 24) j 2 = l.2.2.1) (e1 : tg s (.s 24) j 1 = l.2.1) : CBP D HA HB k x u b bs (c85 s (x + 1) i j).1 K G := by
  obtain ⟨HK, HG, h1, ⟨g0, v1, v2, Hr, e, ⟨ea, eb⟩, h2⟩, h3⟩ := h
  subst e
  have lb : l ∈ b.1 := List.mem_of_find?_eq_some hf
  have ln : l.1 = g.1 := of_decide_eq_true (List.find?_some (p := fun l : xR => decide (l.1 = g.1)) hf)
  have lj : l ∈ jLab (b :: bs) := List.mem_append.mpr (Or.inr lb)
  rcases h2 with ⟨c, ⟨l', l1, l2, l3, l4⟩, h2⟩ | ⟨c, -⟩
  · have el : l = l' := nod_eq hd lj l1 (ln.trans l2.symm)
    subst el
    refine ⟨HK, Hr, h1, h2, ?_⟩
    have s1 : RWS D (HA ++ HK ++ ((x, lvg g + 1, 1, g0 + 1, 0, v2) :: (Hr ++ HB))) (ts s (.i (x + 1)) g.2.2.1 1 l.2.2.1) k := by
      refine RWS.ldg (H := []) (i := lvg g) (vc := 0) (vk := v1) (g := g0) ?_ ea l3.symm
      rw [List.append_assoc]
      exact h3
    have ft : cFr 0 0 0 4 s (ts s (.i (x + 1)) g.2.2.1 1 l.2.2.1) := cFr.refl.tsb rfl
    have e24 : tg (ts s (.i (x + 1)) g.2.2.1 1 l.2.2.1) (.s 24) j 1 = l.2.1 := by
      rw [← e1]
      unfold tg
      rw [(ft.2.1 24 (Nat.zero_testBit _)).1, (ft.2.1 24 (Nat.zero_testBit _)).2]
    have i1 : (g.2.2.1 + 1).toInt = (lvg g + 1 : Nat) := by
      rw [i_add ea (show (1 : Int32).toInt = 1 from rfl) (by omega) (by omega)]
      omega
    have s2 : RWS D (HA ++ HK ++ (Hr ++ HB)) (ts (ts s (.i (x + 1)) g.2.2.1 1 l.2.2.1) (.i (x + 1)) (g.2.2.1 + 1) 1 l.2.1) k := RWS.ldg (H := []) s1 i1 l4.symm
    have ec : (c85 s (x + 1) i j).1 = (c85_51 (ts (ts s (.i (x + 1)) g.2.2.1 1 l.2.2.1) (.i (x + 1)) (g.2.2.1 + 1) 1 l.2.1) i j).1 := by
      unfold c85 c85_30
      rw [e26, e2, e24]
    rw [ec, ← List.append_assoc]
    have fin : ∀ s9 : cS, cFr 196608 0 0 0 (ts (ts s (.i (x + 1)) g.2.2.1 1 l.2.2.1) (.i (x + 1)) (g.2.2.1 + 1) 1 l.2.1) s9 → RWS D (HA ++ HK ++ (Hr ++ HB)) s9 k := fun s9 f9 => s2.same (f9.2.2.2.2.2.2.1 (Nat.zero_testBit _)) (f9.2.2.2.2.2.1 (Nat.zero_testBit _)) (f9.2.2.2.1 (Nat.zero_testBit _)) id rfl rfl rfl (fun _ _ _ => rfl)
    refine fin _ ?_
    unfold c85_51
    split
    · exact cFr.refl
    · split
      · exact cFr.refl
      · exact (fr_c76 _ _ _).mono rfl rfl rfl rfl
  · have : seen (jLab (b :: bs)) g.1 = true := List.any_eq_true.mpr ⟨l, lj, decide_eq_true ln⟩
    rw [this] at c
    cases c
end CLR
section CL81
variable {e : Nat} {s : cS} {f : xF} {r : List xF} {b : xB} {bs : List xB}
/-- what holds behind a block that the class has closed -/
theorem c81_ind {Ψ : cS → List xR → List xR → Prop} (h : XC e s (f :: r)) (hz : SZ (f :: r)) (hb : f.2.2.2.1 = b :: bs) (hp : f.2.2.1 = []) (hn : b.1 ≤ f.2.1.length) (hl : ∀ (s1 : cS) (K G : List xR) (g l : xR) (i j : Int32), Ψ s1 K (g :: G) → flab b.2.1 g.1 = some l → tg s1 (.s 26) i 2 = g.2.2.1 → tg s1 (.s 24) j 2 = l.2.2.1 → tg s1 (.s 24) j 1 = l.2.1 → Ψ (c85 s1 s.now i j).1 K G) (hk : ∀ (s1 : cS) (K G : List xR) (g : xR) (i j : Int32), Ψ s1 K (g :: G) → flab b.2.1 g.1 = none → Ψ (c87 s1 i j (xn b.1)).1 (K ++ [g]) G) (hfr : ∀ (s1 s2 : cS) (K : List xR), cFr 0 83968000 0 0 s1 s2 → Ψ s1 K [] → Ψ s2 K []) (h0 : Ψ s [] b.2.2.1) : Ψ (c81 s).1 (b.2.2.1.filter (fun g => (flab b.2.1 g.1).isNone)) [] := by
  have hzl := hz.l
  have eB : fBl (f :: r) = (fBl r ++ bBl (fL r).length (fLab r).length (fGo r).length bs) ++ [(xn ((fL r).length + b.1), xn ((fLab r).length + (bLab bs).length), xn ((fGo r).length + (bGo bs).length), 0)] := by
    show fBl r ++ bBl _ _ _ f.2.2.2.1 = _
    rw [hb]
    show fBl r ++ (bBl _ _ _ bs ++ _) = _
    rw [List.append_assoc]
  have eLab : fLab (f :: r) = (fLab r ++ bLab bs) ++ b.2.1 := by
    show fLab r ++ bLab f.2.2.2.1 = _
    rw [hb]
    show fLab r ++ (bLab bs ++ b.2.1) = _
    rw [List.append_assoc]
  have eGo : fGo (f :: r) = (fGo r ++ bGo bs) ++ b.2.2.1 := by
    show fGo r ++ bGo f.2.2.2.1 = _
    rw [hb]
    show fGo r ++ (bGo bs ++ b.2.2.1) = _
    rw [List.append_assoc]
  generalize hB0 : fBl r ++ bBl (fL r).length (fLab r).length (fGo r).length bs = B0 at *
  have zB : (fBl (f :: r)).length = B0.length + 1 := by rw [eB, List.length_append]; rfl
  have eblk : s.r (.s 16) - 1 = xn B0.length := by
    rw [h.r16 hz, zB]
    have := xn_sub (n := 1) (m := B0.length) (by omega)
    rw [Nat.add_comm 1] at this
    exact this
  have hrow : (fBl (f :: r))[B0.length]? = some (xn ((fL r).length + b.1), xn ((fLab r).length + (bLab bs).length), xn ((fGo r).length + (bGo bs).length), 0) := by
    rw [eB, List.getElem?_append_right (Nat.le_refl _), Nat.sub_self]; rfl
  have eix : (xn B0.length).toInt = B0.length := xn_i (by omega)
  have g1 := h.bl.g1 eix hrow
  have g2 := h.bl.g2 eix hrow
  obtain ⟨-, -, -, -, -, e82⟩ := c81_tr h hz hb hp hn
  have t26 := h.go
  rw [eGo] at t26
  have t24 := h.la
  rw [eLab] at t24
  have q1 : (fLab r).length + (bLab bs).length = (fLab r ++ bLab bs).length := by rw [List.length_append]
  have q2 : (fGo r).length + (bGo bs).length = (fGo r ++ bGo bs).length := by rw [List.length_append]
  obtain ⟨m, R, r1, r2⟩ := cb_ind (x := s.now) (v := xn b.1) (Q := fLab r ++ bLab bs) (L := b.2.1) (Ψ := Ψ) hl hk b.2.2.1 (fGo r ++ bGo bs) [] [] s (by rw [List.append_nil]; exact t26) t24 (by rw [List.append_nil, ← eGo]; omega) (by rw [← eLab]; omega) h0
  have ek : kfin (c83b6 s.now (xn (fLab r ++ bLab bs).length) (xn b.1)) (s, xn (fGo r ++ bGo bs).length, xn (fGo r ++ bGo bs).length) = (1, R) := kfin_of ⟨m, r1⟩ (Nat.succ_ne_zero 0)
  have ec : (c81 s).1 = (c81_43 (c83 s s.now (xn (fLab r ++ bLab bs).length) (xn (fGo r ++ bGo bs).length) (xn b.1)).1 (xn B0.length)).1 := by
    unfold c81
    rw [e82, eblk, g1, g2, q1, q2]
  rw [ec]
  unfold c83 c83_80 c81_43 c81_59
  rw [ek]
  rw [List.nil_append] at r2
  refine hfr R.1 _ _ ?_ r2
  exact (((cFr.refl.tcts rfl).tcts rfl).tcts rfl).tcts rfl
end CL81
