/-! JUMPS THAT WAIT: a break -/
section BRR
variable {H : List hE} {s : cS} {k k' : kS} {f : xF} {r : List xF} {x : Nat}
/-- how many blocks lie below the innermost loop's -/
def lbi : List xB → Nat
  | [] => 0
  | b :: r => if b.2.2.2 = 1 then jK (jb r) else lbi r
theorem lbi_go {w : Int32} {o l g dd n : Nat} {R : List (Int32 × xR)} (hd : k.1 32 = xn dd) : ∀ (bs : List xB) (x : Int32), lb bs = some n → (R ++ kBl o l g dd bs).length ≤ 1000000 → (∀ i q, (R ++ kBl o l g dd bs)[i]? = some q → k.2 41 i = q.2.2.2.1 ∧ k.2 42 i = q.2.2.2.2) → x.toInt + 1 = (R ++ kBl o l g dd bs).length → ∃ m, kwh (k233b7 k w) m x = (1, xn (R.length + lbi bs)) := by
  intro bs
  induction bs with
  | nil => intro x h; cases h
  | cons b r ih =>
    intro x h hz hq hx
    unfold lb at h
    by_cases c2 : b.2.2.2 = 2
    · have e : kBl o l g dd (b :: r) = kBl o l g dd r := if_pos c2
      rw [if_neg (by omega)] at h
      rw [e] at hz hq hx
      have el : lbi (b :: r) = lbi r := if_neg (by omega)
      rw [el]
      exact ih x h hz hq hx
    · have e : kBl o l g dd (b :: r) = kBl o l g dd r ++ [(xn (o + b.1), xn (l + (bLab r).length), xn (g + (bUm r).length), xn dd, if b.2.2.2 = 1 then 1 else 0)] := if_neg c2
      rw [e, ← List.append_assoc] at hz hq hx
      have hlen : ((R ++ kBl o l g dd r) ++ [(xn (o + b.1), xn (l + (bLab r).length), xn (g + (bUm r).length), xn dd, if b.2.2.2 = 1 then (1 : Int32) else 0)]).length = (R ++ kBl o l g dd r).length + 1 := by rw [List.length_append]; rfl
      obtain ⟨g2, g3⟩ := hq (R ++ kBl o l g dd r).length _ (by rw [List.getElem?_append_right (Nat.le_refl _), Nat.sub_self]; rfl)
      have ex : x = xn (R ++ kBl o l g dd r).length := xn_eq (by omega) (by omega)
      have ekr : ∀ j, kr k j x = k.2 j (R ++ kBl o l g dd r).length := fun j => by
        rw [ex]
        show k.2 j (xn _).toNatClampNeg = _
        rw [xn_nat (by omega)]
      have n0 : ¬ x < 0 := by
        rw [i_lt]
        have : (0 : Int32).toInt = 0 := rfl
        omega
      by_cases c1 : b.2.2.2 = 1
      · have e0 : k233b7 k w x = (1, x) := by
          unfold k233b7
          rw [if_neg n0, if_neg (fun z => z (by rw [ekr, g2, hd])), if_pos (by rw [ekr, g3]; show (if b.2.2.2 = 1 then (1 : Int32) else 0) ≠ 0; rw [if_pos c1]; decide)]
        have el : lbi (b :: r) = jK (jb r) := if_pos c1
        rw [el, ← jK_len (o := o) (l := l) (g := g) (d := dd), ← List.length_append, ← ex]
        exact ⟨1, by rw [kwh_out (by rw [e0]; exact Nat.succ_ne_zero _), e0]⟩
      · rw [if_neg c1] at h
        have e0 : k233b7 k w x = (0, x + (-1)) := by
          unfold k233b7
          rw [if_neg n0, if_neg (fun z => z (by rw [ekr, g2, hd])), if_neg (fun z => z (by rw [ekr, g3]; show (if b.2.2.2 = 1 then (1 : Int32) else 0) = 0; rw [if_neg c1]))]
        have x1 : (x + (-1)).toInt = x.toInt - 1 := by
          have := i_add (x := x) (y := -1) rfl (show (-1 : Int32).toInt = -1 from rfl) (by omega) (by omega)
          omega
        have el : lbi (b :: r) = lbi r := if_neg c1
        obtain ⟨m, r1⟩ := ih (x + (-1)) h (by omega) (fun i q hi => hq i q (by rw [List.getElem?_append_left (List.getElem?_eq_some_iff.mp hi).1]; exact hi)) (by omega)
        rw [el]
        exact ⟨m + 1, by rw [kwh_go (by rw [e0]), e0]; exact r1⟩
/-- the innermost loop's breaks are the last group -/
theorem BGr.top {j0 n : Nat} : ∀ {bs : List xB} {Gs : List (List hE)}, BGr k x j0 (jb bs) Gs → lb bs = some n → ∃ Gr C, Gs = Gr ++ [C] ∧ CH k x (k.2 43 (j0 + lbi bs)) C ∧ ∀ (e : hE) (k' : kS), (∀ i, i ≠ j0 + lbi bs → k'.2 43 i = k.2 43 i) → CH k' x (k'.2 43 (j0 + lbi bs)) (e :: C) → BGr k' x j0 (jb bs) (Gr ++ [e :: C]) := by
  intro bs
  induction bs with
  | nil => intro Gs _ h; cases h
  | cons b r ih =>
    intro Gs h hl
    unfold lb at hl
    by_cases c1 : b.2.2.2 = 1
    · have el : lbi (b :: r) = jK (jb r) := if_pos c1
      rw [el]
      rcases h with ⟨-, Gr, C, h2, h3, h4⟩ | ⟨h1, -⟩
      · exact ⟨Gr, C, h2, h4, fun e k' he hc => Or.inl ⟨c1, Gr, e :: C, rfl, h3.fb (fun i hi => he i (by have hi : i < j0 + jK (jb r) := hi; omega)), hc⟩⟩
      · exact absurd c1 h1
    · have el : lbi (b :: r) = lbi r := if_neg c1
      rw [el]
      rw [if_neg c1] at hl
      rcases h with ⟨h1, -⟩ | ⟨-, h2⟩
      · exact absurd h1 c1
      · obtain ⟨Gr, C, r1, r2, r3⟩ := ih h2 hl
        exact ⟨Gr, C, r1, r2, fun e k' he hc => Or.inr ⟨c1, r3 e k' he hc⟩⟩
theorem tad_2 {t : cT} {a b c d : Int32} : (tad s t a b c d).2 = s.r t := by
  unfold tad
  split <;> rfl
/-- both write the jump of a break -/
theorem NR.br1 {n : Nat} (h : NR 0 ([], []) H s k (f :: r)) (hn : s.now = f.1) (h1f : 1 ≤ f.1) (hf6 : f.1 ≤ 1000000) (h33 : kr k 33 (k.1 32) = xn (f.1 - 1)) (hx5 : ((f.1 - 1 : Nat) : Int) < (k.1 53).toInt) (h53 : (k.1 53).toInt ≤ 1000000) (hl : lb f.2.2.2.1 = some n) (hj : jfK (jx r) + lbi f.2.2.2.1 ≤ 1000000) : NR 0 ([], []) H (c123_82 s).1 (k233_102 k (xn (jfK (jx r) + lbi f.2.2.2.1))).1 (f :: r) := by
  obtain ⟨v, hv⟩ : ∃ v, v = xn (jfK (jx r) + lbi f.2.2.2.1) := ⟨_, rfl⟩
  rw [← hv]
  have ev : v.toNatClampNeg = jfK (jx r) + lbi f.2.2.2.1 := by rw [hv]; exact xn_nat (by omega)
  have e1 : f.1 - 1 + 1 = f.1 := by omega
  have q1 := (h.cle (a := 36) (b := 0) (c := 0) (e := 0)).putn (a := 36) (b := kr k 43 v) (c := 0) (e := 0) h33 (by rw [c78_now]; omega) hx5 h53
  have hci := c78_i (b1 := 36) (b2 := 0) (b3 := 0) (b4 := 0) h.1 hn
  have hjg := k189_g (b1 := 36) (b2 := kr k 43 v) (b3 := 0) (b4 := 0) h h33
  have n0 := h.1 f.1
  have ej : (c78 s 36 0 0 0).2 = s.r (.i f.1) := by rw [← hn]; exact tad_2
  have f9 := fr_k189 k 36 (kr k 43 v) 0 0
  have k43 : (k189 k 36 (kr k 43 v) 0 0).1.2 43 = k.2 43 := f9.2 43 rfl
  have enow : (c78 s 36 0 0 0).1.now = f.1 := by rw [c78_now]; exact hn
  have ex5 : ((f.1 - 1 : Nat) : Int) < ((k189 k 36 (kr k 43 v) 0 0).1.1 53).toInt := by rw [f9.1 53 rfl]; exact hx5
  have e53 : ((k189 k 36 (kr k 43 v) 0 0).1.1 53).toInt ≤ 1000000 := by rw [f9.1 53 rfl]; exact h53
  unfold c123_82 k233_102 k233_121 c125
  rw [ej]
  have ekr : kr k 43 v = k.2 43 (jfK (jx r) + lbi f.2.2.2.1) := by
    show k.2 43 v.toNatClampNeg = _
    rw [ev]
  have ek2 : (k189 k 36 (kr k 43 v) 0 0).2 = (k189 k 36 (kr k 43 v) 0 0).1.1 68 - 1 := by
    unfold k189
    split <;> rfl
  generalize k189 k 36 (kr k 43 v) 0 0 = K at q1 hjg k43 ex5 e53 ek2
  generalize (c78 s 36 0 0 0).1 = s2 at q1 hci enow
  have fc : cFr 0 1073741824 0 0 s2 (tad s2 (.s 30) (s.r (.i f.1)) 0 0 0).1 := cFr.refl.tads rfl
  have hr := fc.2.2.2.2.2.2.1 (Nat.zero_testBit _)
  refine ⟨fun x => by rw [hr]; exact q1.1 x, fun z => ?_⟩
  obtain ⟨h0, h1⟩ := q1.2 z
  refine ⟨h0, fun h6 hf => ?_⟩
  have h6 : (K.1.1 68).toInt < 65536 := h6
  have z : K.1.1 8 = 0 := z
  have hf : FL s2 K.1 := FL.same (k' := ka K.1 43 v (K.2 + 1)) hf hr rfl
  obtain ⟨p, Hd, hpn, ⟨Hg, Gs, ⟨d1, d2, d3⟩, d4, ⟨Gr0, Gf, b1, b2, b3⟩, d6, W, d7, d8⟩, h3⟩ := h1 h6 hf
  have p0 : p = [] := by
    rcases hpn with ⟨-, z⟩ | ⟨z, -⟩ | ⟨z, -⟩
    · exact z
    · exact absurd z (by decide)
    · exact absurd z (by decide)
  subst p0
  obtain ⟨Gr, C, t1, t2, t3⟩ := BGr.top b3 hl
  obtain ⟨j1, j2⟩ := hjg z h6
  have hic : (s2.r (.i f.1)).toInt = ((s.r (.i f.1)).toNatClampNeg : Nat) + 1 := by
    rcases hci with w | w
    · exact w
    · have := hf (f.1 - 1) ex5
      rw [e1] at this
      omega
  have hol := RWS.hol (x := f.1 - 1) (i := (s.r (.i f.1)).toNatClampNeg) (j := 1) (g := K.2.toNatClampNeg) h3 (by rw [enow]; omega) (by rw [e1]; exact hic) (fun _ _ => ⟨j1, j2⟩) (Or.inl rfl) rfl rfl (fun q => absurd rfl q) (fun _ => rfl) (by unfold jmp; decide) ex5 (Or.inl rfl)
  have hol : RWS ([], []) ((f.1 - 1, (s.r (.i f.1)).toNatClampNeg, 1, K.2.toNatClampNeg, 0, kr k 43 v) :: (H ++ Hd)) s2 K.1 := hol
  have gb : K.2.toNatClampNeg ≤ 65536 := by omega
  obtain ⟨e, he⟩ : ∃ e : hE, e = (f.1 - 1, (s.r (.i f.1)).toNatClampNeg, 1, K.2.toNatClampNeg, 0, kr k 43 v) := ⟨_, rfl⟩
  have hK2 : K.2 = xn K.2.toNatClampNeg := by
    have q : K.1.1 68 = xn (K.2.toNatClampNeg + 1) := r_eq (by rw [j1]; omega)
    have q2 : K.2 = xn (K.2.toNatClampNeg + 1) - 1 := by rw [← q]; exact ek2
    have := xn_sub (n := 1) (m := K.2.toNatClampNeg) (by omega)
    rw [Nat.add_comm 1] at this
    exact q2.trans this
  rw [← he] at hol
  have lall := hol.gs z h6 hf e53
  have lG : (Gs ++ []).flatten.length ≤ 65536 := by
    rw [d1] at lall
    simp only [List.length_cons, List.length_append] at lall
    omega
  have eidx : ∀ i, (ka K.1 43 v (K.2 + 1)).2 43 i = if i = jfK (jx r) + lbi f.2.2.2.1 then K.2 + 1 else k.2 43 i := fun i => by
    show upd (K.1.2 43) v.toNatClampNeg (K.2 + 1) i = _
    rw [ev, k43]
    rfl
  have hch : CH (ka K.1 43 v (K.2 + 1)) (f.1 - 1) ((ka K.1 43 v (K.2 + 1)).2 43 (jfK (jx r) + lbi f.2.2.2.1)) (e :: C) := by
    rw [eidx, if_pos rfl]
    refine ⟨_, _, _, he, ?_, gb, ?_⟩
    · rw [← xn_succ (by omega), ← hK2]
    · rw [ekr, ← k43]
      exact t2.fr
  have eG : Gs = (Gr0 ++ Gr) ++ [C] := by rw [b1, t1, List.append_assoc]
  have ef1 : (Gs ++ []).flatten = (Gr0 ++ Gr).flatten ++ C := by
    rw [List.append_nil, eG, List.flatten_append]
    show _ ++ (C ++ []) = _
    rw [List.append_nil]
  have ef2 : ((Gr0 ++ Gr) ++ [e :: C] ++ []).flatten = (Gr0 ++ Gr).flatten ++ (e :: C) := by
    rw [List.append_nil, List.flatten_append]
    show _ ++ (e :: C ++ []) = _
    rw [List.append_nil]
  have er1 : rwB (Gs ++ []) = rwB (Gr0 ++ Gr) ++ C.reverse.map (fun e => (xn e.2.1, 0, 0, 0)) := by
    rw [List.append_nil, eG, rwB_app]
    show _ ++ (_ ++ []) = _
    rw [List.append_nil]
  have er2 : rwB ((Gr0 ++ Gr) ++ [e :: C] ++ []) = rwB (Gs ++ []) ++ [(xn e.2.1, 0, 0, 0)] := by
    rw [er1, List.append_nil, rwB_app]
    show rwB (Gr0 ++ Gr) ++ ((e :: C).reverse.map _ ++ []) = _
    rw [List.append_nil, List.reverse_cons, List.map_append, List.append_assoc]
    rfl
  have es : s.r (.i f.1) = xn e.2.1 := by
    rw [he]
    exact r_eq (nat_xn n0)
  have d6' : TR (tad s2 (.s 30) (s.r (.i f.1)) 0 0 0).1 (.s 30) (rwB ((Gr0 ++ Gr) ++ [e :: C] ++ [])) := by
    rw [er2, ← es]
    exact (d6.add (by rw [rwB_len]; omega)).1
  refine ⟨[], Hg ++ ((Gr0 ++ Gr) ++ [e :: C] ++ []).flatten, Or.inl ⟨rfl, rfl⟩, ⟨Hg, (Gr0 ++ Gr) ++ [e :: C], ⟨rfl, d2, d3⟩, GX.fr (k := K.1) (k' := ka K.1 43 v (K.2 + 1)) rfl d4, ⟨Gr0, Gr ++ [e :: C], by rw [List.append_assoc], b2.fb (fun i hi => ?_), t3 e _ (fun i hi => ?_) hch⟩, d6', W, d7.same (fc.2.1 28 rfl).1 (fc.2.1 28 rfl).2, ?_⟩, ?_⟩
  · have hi : i < jfK (jx r) := hi
    rw [eidx, if_neg (by omega), ← k43]
  · have hi : i ≠ jfK (jx r) + lbi f.2.2.2.1 := hi
    rw [eidx, if_neg hi, ← k43]
  · rw [d8, List.append_nil, List.append_nil, eG, stB_app (A := Gr0 ++ Gr) (B := [C]), stB_app (A := Gr0 ++ Gr) (B := [e :: C])]
    rfl
  · rw [ef2]
    have pm : (e :: (H ++ Hd)).Perm (H ++ (Hg ++ ((Gr0 ++ Gr).flatten ++ (e :: C)))) := by
      rw [d1, ef1]
      have q : H ++ (Hg ++ ((Gr0 ++ Gr).flatten ++ (e :: C))) = (H ++ (Hg ++ (Gr0 ++ Gr).flatten)) ++ e :: C := by simp only [List.append_assoc]
      have q2 : H ++ (Hg ++ ((Gr0 ++ Gr).flatten ++ C)) = (H ++ (Hg ++ (Gr0 ++ Gr).flatten)) ++ C := by simp only [List.append_assoc]
      rw [q, q2]
      exact List.perm_middle.symm
    exact (hol.perm pm).same hr (fc.2.2.2.2.2.1 (Nat.zero_testBit _)) (fc.2.2.2.1 (Nat.zero_testBit _)) id rfl rfl rfl (fun j h1 h2 => (show kFr 0 8796093022208 K.1 (ka K.1 43 v (K.2 + 1)) from kFr.sa kFr.refl rfl).2 j (by
      have : j = 69 ∨ j = 70 ∨ j = 71 ∨ j = 72 ∨ j = 73 := by omega
      rcases this with e | e | e | e | e <;> subst e <;> rfl))
/-- a break on both sides -/
theorem NR.brk {y z w : Int32} (h : NR 0 ([], []) H s k (f :: r)) (hn : RN s k (f :: r)) (hz : SZ (f :: r)) (hp : f.2.2.1 = []) (hv : LVv [] s (f :: r)) (h53 : (k.1 53).toInt ≤ 1000000) : NR 0 ([], []) H (c123_15 s y z).1 (k233 k w).1 (f :: r) := by
  have zz := hz.l
  have zk := hz.k
  have h1 := hn.1
  have e28 : c50 s = xn (fLp r + bLp f.2.2.2.1) := xn_eq (by show (s.r (.s 28)).toInt = _; rw [h1.lp]; rfl) (by have : fLp (f :: r) = fLp r + bLp f.2.2.2.1 := rfl; omega)
  have e12 : s.b s.now 12 = xn (fLp r) := by rw [h1.nw f r rfl]; exact h1.xf.2.2.2.2.1
  have zl : fLp (f :: r) = fLp r + bLp f.2.2.2.1 := rfl
  cases hl : lb f.2.2.2.1 with
  | none =>
    have c := lb_no hl
    have bad := (k233_k (w := w) hn.2.1 hz).2.mpr (Or.inr c)
    have e : (c123_15 s y z).1 = (c76 s 11 y).1 := by
      unfold c123_15
      rw [e28, e12, c, Nat.add_zero, if_neg (fun q => q rfl)]
    rw [e]
    exact h.bad ((fr_c76 s 11 y).nr rfl) bad
  | some n =>
    obtain ⟨c, -⟩ := lb_yes hl
    have hne : c50 s ≠ s.b s.now 12 := by
      rw [e28, e12]
      intro q
      have := congrArg Int32.toInt q
      rw [xn_i (by omega), xn_i (by omega)] at this
      omega
    have hnl : n ≤ f.2.1.length := lb_le hn.2.2.1.1 hl
    have hB : fkBl (f :: r) = fkBl r ++ kBl (kL r).length (fLab r).length (fUm r).length r.length f.2.2.2.1 := rfl
    have hx1 : (k.1 37 - 1).toInt + 1 = (fkBl r ++ kBl (kL r).length (fLab r).length (fUm r).length r.length f.2.2.2.1).length := by
      rw [hn.2.1.2.1.1, i_sub (xn_i (by omega)) (show (1 : Int32).toInt = 1 from rfl) (by omega) (by omega), ← hB]
      omega
    obtain ⟨m, v, r1, r2, r3, r4⟩ := bl2_go (k := k) (w := w) (R := fkBl r) (hn.2.1.dp hz) f.2.2.2.1 (k.1 37 - 1) hl (by rw [← hB]; omega) (fun i q hq => ⟨(hn.2.1.2.1.2 i q hq).1, (hn.2.1.2.1.2 i q hq).2.2.2.1, (hn.2.1.2.1.2 i q hq).2.2.2.2⟩) hx1
    obtain ⟨m', r1'⟩ := lbi_go (k := k) (w := w) (R := fkBl r) (hn.2.1.dp hz) f.2.2.2.1 (k.1 37 - 1) hl (by rw [← hB]; omega) (fun i q hq => ⟨(hn.2.1.2.1.2 i q hq).2.2.2.1, (hn.2.1.2.1.2 i q hq).2.2.2.2⟩) hx1
    have hk := kfin_of ⟨m, r1⟩ (Nat.succ_ne_zero 0)
    have hk' := kfin_of ⟨m', r1'⟩ (Nat.succ_ne_zero 0)
    have evx : v = xn (jfK (jx r) + lbi f.2.2.2.1) := by
      rw [hk] at hk'
      rw [(Prod.mk.inj hk').2, jfK_len]
    have ek : k233 k w = k233_39 k w v := by unfold k233; rw [hk]
    have ecnt : c75 s = xn f.2.1.length := by rw [h1.cnt hz, hp, List.append_nil]
    have e124 := lv_top hv hl (by omega) h1
    have zL : (kL (f :: r)).length = (kL r).length + f.2.1.length := by
      show (kL r ++ f.2.1).length = _
      rw [List.length_append]
    have zFL : f.2.1.length ≤ (fL (f :: r)).length := by
      show _ ≤ (fL r ++ (f.2.1 ++ f.2.2.1)).length
      rw [List.length_append, List.length_append]
      omega
    have e24 : k.1 24 = xn ((kL r).length + f.2.1.length) := by rw [hn.2.1.a24, zL]
    obtain ⟨o1, o2, o3, o4⟩ := own_k hn hz
    have hx5 : ((f.1 - 1 : Nat) : Int) < (k.1 53).toInt := own_5 hn rfl h53
    have hli : ∀ {bs : List xB}, lbi bs ≤ jK (jb bs) := by
      intro bs
      induction bs with
      | nil => exact Nat.le_refl _
      | cons b r ih =>
        have ej : jK (jb (b :: r)) = jK (jb r) + (if b.2.2.2 = 2 then 0 else 1) := rfl
        show (if b.2.2.2 = 1 then jK (jb r) else lbi r) ≤ _
        split <;> omega
    have hj : jfK (jx r) + lbi f.2.2.2.1 ≤ 1000000 := by
      have q1 := hli (bs := f.2.2.2.1)
      have q2 : (fkBl (f :: r)).length = jfK (jx r) + jK (jb f.2.2.2.1) := by
        rw [jfK_len]
        rfl
      omega
    rw [ek]
    unfold c123_15 k233_39
    have r3' : kr k 41 v = k.1 32 := by rw [r3]; exact (hn.2.1.dp hz).symm
    have e34 : xn ((kL r).length + n) - kr k 34 (k.1 32) = xn n := by
      have e32 := hn.2.1.a32 hz
      rw [e32]
      show xn ((kL r).length + n) - k.2 34 (xn r.length).toNatClampNeg = _
      rw [xn_nat (by have : (f :: r).length = r.length + 1 := rfl; omega), hn.2.1.2.2.2.2.2.2.1]
      exact xn_sub (by omega)
    rw [if_pos hne, if_neg r2, if_pos r3', ecnt, e124, r4, e24]
    by_cases c3 : f.2.1.length ≤ n
    · rw [if_pos (by rw [i_le, xn_i (by omega), xn_i (by omega)]; omega), if_pos (by rw [i_le, xn_i (by omega), xn_i (by omega)]; omega), evx]
      exact h.br1 o2 o3 o4 o1 hx5 h53 hl hj
    · rw [if_neg (by rw [i_le, xn_i (by omega), xn_i (by omega)]; omega), if_neg (by rw [i_le, xn_i (by omega), xn_i (by omega)]; omega), evx, e34]
      have q1 := ((h.cle (a := 33) (b := xn n) (c := 0) (e := 0)).putn (a := 33) (b := xn n) (c := 0) (e := 0) o1 (by rw [c78_now]; omega) hx5 h53).de0 rfl
      have f9 := fr_k189 k 33 (xn n) 0 0
      unfold c123_81 k233_101
      generalize (k189 k 33 (xn n) 0 0).1 = k9 at q1 f9 ⊢
      refine q1.br1 (by rw [c78_now]; exact o2) o3 o4 ?_ (by rw [f9.1 53 rfl]; exact hx5) (by rw [f9.1 53 rfl]; exact h53) hl hj
      unfold kr at o1 ⊢
      rw [f9.1 32 rfl, f9.2 33 rfl]
      exact o1
end BRR
