/-! COUNTS: has a block locals of its own; a break leaves how many -/
section BRK
variable {e : Nat} {d : Int32} {s s' : cS} {k k' : kS} {f f' : xF} {r X : List xF} {b : xB} {bs : List xB}
theorem bef_c (h : XC e s (f :: r)) (hz : SZ (f :: r)) (hb : f.2.2.2.1 = b :: bs) (hn : b.1 ≤ f.2.1.length) : c82 s = xn b.1 := by
  have zz := hz.l
  have eB : fBl (f :: r) = (fBl r ++ bBl (fL r).length (fLab r).length (fGo r).length bs) ++ [(xn ((fL r).length + b.1), xn ((fLab r).length + (bLab bs).length), xn ((fGo r).length + (bGo bs).length), 0)] := by
    show fBl r ++ bBl (fL r).length (fLab r).length (fGo r).length f.2.2.2.1 = _
    rw [hb]
    exact (List.append_assoc _ _ _).symm
  have zL : (fL (f :: r)).length = (fL r).length + (f.2.1 ++ f.2.2.1).length := by
    show (fL r ++ (f.2.1 ++ f.2.2.1)).length = _
    rw [List.length_append]
  have zL2 : f.2.1.length ≤ (f.2.1 ++ f.2.2.1).length := by
    rw [List.length_append]
    omega
  generalize hB0 : fBl r ++ bBl (fL r).length (fLab r).length (fGo r).length bs = B0 at eB
  have zB : (fBl (f :: r)).length = B0.length + 1 := by rw [eB, List.length_append]; rfl
  have eblk : s.r (.s 16) - 1 = xn B0.length := by
    rw [h.r16 hz, zB]
    have := xn_sub (n := 1) (m := B0.length) (by omega)
    rw [Nat.add_comm 1] at this
    exact this
  have hrow : (fBl (f :: r))[B0.length]? = some (xn ((fL r).length + b.1), xn ((fLab r).length + (bLab bs).length), xn ((fGo r).length + (bGo bs).length), 0) := by
    rw [eB, List.getElem?_append_right (Nat.le_refl _), Nat.sub_self]
    rfl
  have g0 := h.bl.g0 (xn_i (show B0.length ≤ 16777216 by omega)) hrow
  unfold c82
  rw [eblk, g0, h.nw f r rfl, h.xf.2.1]
  exact xn_sub (by omega)
theorem has_c (h : XC e s (f :: r)) (hz : SZ (f :: r)) (hb : f.2.2.2.1 = b :: bs) (hn : b.1 ≤ f.2.1.length) (hp : f.2.2.1 = []) : c129 s = 0 ↔ f.2.1.length ≤ b.1 := by
  have zz := hz.l
  have zL : (fL (f :: r)).length = (fL r).length + (f.2.1 ++ f.2.2.1).length := by
    show (fL r ++ (f.2.1 ++ f.2.2.1)).length = _
    rw [List.length_append]
  rw [hp, List.append_nil] at zL
  unfold c129
  rw [bef_c h hz hb hn, h.cnt hz, hp, List.append_nil]
  by_cases c : f.2.1.length ≤ b.1
  · rw [if_pos (by rw [i_le, xn_i (by omega), xn_i (by omega)]; omega)]
    exact ⟨fun _ => c, fun _ => rfl⟩
  · rw [if_neg (by rw [i_le, xn_i (by omega), xn_i (by omega)]; omega)]
    exact ⟨fun z => absurd z (by decide), fun z => absurd z c⟩
theorem has_k (h : XK k (f :: r)) (hz : SZ (f :: r)) (hb : f.2.2.2.1 = b :: bs) (hn : b.1 ≤ f.2.1.length) (hk : b.2.2.2 ≠ 2) : k243 k = 0 ↔ f.2.1.length ≤ b.1 := by
  have zz := hz.k
  have zL : (kL (f :: r)).length = (kL r).length + f.2.1.length := by
    show (kL r ++ f.2.1).length = _
    rw [List.length_append]
  have eB : fkBl (f :: r) = (fkBl r ++ kBl (kL r).length (fLab r).length (fUm r).length r.length bs) ++ [(xn ((kL r).length + b.1), xn ((fLab r).length + (bLab bs).length), xn ((fUm r).length + (bUm bs).length), xn r.length, if b.2.2.2 = 1 then 1 else 0)] := by
    show fkBl r ++ kBl (kL r).length (fLab r).length (fUm r).length r.length f.2.2.2.1 = _
    rw [hb, show kBl (kL r).length (fLab r).length (fUm r).length r.length (b :: bs) = kBl (kL r).length (fLab r).length (fUm r).length r.length bs ++ [(xn ((kL r).length + b.1), xn ((fLab r).length + (bLab bs).length), xn ((fUm r).length + (bUm bs).length), xn r.length, if b.2.2.2 = 1 then 1 else 0)] from if_neg hk]
    exact (List.append_assoc _ _ _).symm
  generalize hB0 : fkBl r ++ kBl (kL r).length (fLab r).length (fUm r).length r.length bs = B0 at eB
  have zB : (fkBl (f :: r)).length = B0.length + 1 := by rw [eB, List.length_append]; rfl
  have eix : k.1 37 - 1 = xn B0.length := by
    rw [h.2.1.1, zB]
    have := xn_sub (n := 1) (m := B0.length) (by omega)
    rw [Nat.add_comm 1] at this
    exact this
  have hrow : (fkBl (f :: r))[B0.length]? = some (xn ((kL r).length + b.1), xn ((fLab r).length + (bLab bs).length), xn ((fUm r).length + (bUm bs).length), xn r.length, if b.2.2.2 = 1 then 1 else 0) := by
    rw [eB, List.getElem?_append_right (Nat.le_refl _), Nat.sub_self]
    rfl
  have e38 : kr k 38 (k.1 37 - 1) = xn ((kL r).length + b.1) := by
    rw [eix]
    show k.2 38 (xn B0.length).toNatClampNeg = _
    rw [xn_nat (by omega)]
    exact (h.2.1.2 _ _ hrow).1
  unfold k243
  rw [e38, h.a24, zL]
  by_cases c : f.2.1.length ≤ b.1
  · rw [if_pos (by rw [i_le, xn_i (by omega), xn_i (by omega)]; omega)]
    exact ⟨fun _ => c, fun _ => rfl⟩
  · rw [if_neg (by rw [i_le, xn_i (by omega), xn_i (by omega)]; omega)]
    exact ⟨fun z => absurd z (by decide), fun z => absurd z c⟩
/-- both see whether a block has locals -/
theorem has_b (h : RN s k (f :: r)) (hz : SZ (f :: r)) (hb : f.2.2.2.1 = b :: bs) (hp : f.2.2.1 = []) (hk : b.2.2.2 ≠ 2) : c129 s = 0 ↔ k243 k = 0 := by
  have hn : b.1 ≤ f.2.1.length := by
    have z := h.2.2.1.1
    rw [hb] at z
    exact z.1
  rw [has_c h.1 hz hb hn hp, has_k h.2.1 hz hb hn hk]
/-- the innermost loop -/
def lb : List xB → Option Nat
  | [] => none
  | b :: r => if b.2.2.2 = 1 then some b.1 else lb r
theorem lb_no : ∀ {bs : List xB}, lb bs = none → bLp bs = 0 := by
  intro bs
  induction bs with
  | nil => intro _; rfl
  | cons b r ih =>
    intro h
    unfold lb at h
    split at h
    · cases h
    · rename_i c
      show bLp r + (if b.2.2.2 = 1 then 1 else 0) = 0
      rw [if_neg c, ih h]
theorem lb_yes {n : Nat} : ∀ {bs : List xB}, lb bs = some n → bLp bs ≠ 0 ∧ ∃ l, bLv bs = l ++ [n] := by
  intro bs
  induction bs with
  | nil => intro h; cases h
  | cons b r ih =>
    intro h
    unfold lb at h
    have e1 : bLp (b :: r) = bLp r + (if b.2.2.2 = 1 then 1 else 0) := rfl
    have e2 : bLv (b :: r) = bLv r ++ (if b.2.2.2 = 1 then [b.1] else []) := rfl
    rw [e1, e2]
    split at h
    · rename_i c
      cases h
      rw [if_pos c, if_pos c]
      exact ⟨Nat.succ_ne_zero _, _, rfl⟩
    · rename_i c
      obtain ⟨i1, l, i2⟩ := ih h
      rw [if_neg c, if_neg c, List.append_nil]
      exact ⟨by omega, l, i2⟩
theorem lb_le {n : Nat} : ∀ {bs : List xB} {top : Nat}, WFb top bs → lb bs = some n → n ≤ top := by
  intro bs
  induction bs with
  | nil => intro top _ h; cases h
  | cons b r ih =>
    intro top hw h
    unfold lb at h
    split at h
    · cases h
      exact hw.1
    · exact Nat.le_trans (ih hw.2.2.2.2.2 h) hw.1
theorem bl2_go {w : Int32} {o l g dd n : Nat} {R : List (Int32 × xR)} (hd : k.1 32 = xn dd) : ∀ (bs : List xB) (x : Int32), lb bs = some n → (R ++ kBl o l g dd bs).length ≤ 1000000 → (∀ i q, (R ++ kBl o l g dd bs)[i]? = some q → k.2 38 i = q.1 ∧ k.2 41 i = q.2.2.2.1 ∧ k.2 42 i = q.2.2.2.2) → x.toInt + 1 = (R ++ kBl o l g dd bs).length → ∃ m v, kwh (k233b7 k w) m x = (1, v) ∧ ¬ v < 0 ∧ kr k 41 v = xn dd ∧ kr k 38 v = xn (o + n) := by
  intro bs
  induction bs with
  | nil => intro x h; cases h
  | cons b r ih =>
    intro x h hz hq hx
    unfold lb at h
    by_cases c2 : b.2.2.2 = 2
    · have e : kBl o l g dd (b :: r) = kBl o l g dd r := if_pos c2
      rw [if_neg (by omega)] at h
      rw [e] at hz hq hx
      exact ih x h hz hq hx
    · have e : kBl o l g dd (b :: r) = kBl o l g dd r ++ [(xn (o + b.1), xn (l + (bLab r).length), xn (g + (bUm r).length), xn dd, if b.2.2.2 = 1 then 1 else 0)] := if_neg c2
      rw [e, ← List.append_assoc] at hz hq hx
      have hlen : ((R ++ kBl o l g dd r) ++ [(xn (o + b.1), xn (l + (bLab r).length), xn (g + (bUm r).length), xn dd, if b.2.2.2 = 1 then (1 : Int32) else 0)]).length = (R ++ kBl o l g dd r).length + 1 := by rw [List.length_append]; rfl
      obtain ⟨g1, g2, g3⟩ := hq (R ++ kBl o l g dd r).length _ (by rw [List.getElem?_append_right (Nat.le_refl _), Nat.sub_self]; rfl)
      have ex : x = xn (R ++ kBl o l g dd r).length := xn_eq (by omega) (by omega)
      have ekr : ∀ j, kr k j x = k.2 j (R ++ kBl o l g dd r).length := fun j => by
        rw [ex]
        show k.2 j (xn _).toNatClampNeg = _
        rw [xn_nat (by omega)]
      have n0 : ¬ x < 0 := by
        rw [i_lt]
        have : (0 : Int32).toInt = 0 := rfl
        omega
      by_cases c1 : b.2.2.2 = 1
      · rw [if_pos c1] at h
        cases h
        have e0 : k233b7 k w x = (1, x) := by
          unfold k233b7
          rw [if_neg n0, if_neg (fun z => z (by rw [ekr, g2, hd])), if_pos (by rw [ekr, g3]; show (if b.2.2.2 = 1 then (1 : Int32) else 0) ≠ 0; rw [if_pos c1]; decide)]
        exact ⟨1, x, by rw [kwh_out (by rw [e0]; exact Nat.succ_ne_zero _), e0], n0, by rw [ekr, g2], by rw [ekr, g1]⟩
      · rw [if_neg c1] at h
        have e0 : k233b7 k w x = (0, x + (-1)) := by
          unfold k233b7
          rw [if_neg n0, if_neg (fun z => z (by rw [ekr, g2, hd])), if_neg (fun z => z (by rw [ekr, g3]; show (if b.2.2.2 = 1 then (1 : Int32) else 0) = 0; rw [if_neg c1]))]
        have x1 : (x + (-1)).toInt = x.toInt - 1 := by
          have := i_add (x := x) (y := -1) rfl (show (-1 : Int32).toInt = -1 from rfl) (by omega) (by omega)
          omega
        obtain ⟨m, v, r1, r2⟩ := ih (x + (-1)) h (by omega) (fun i q hi => hq i q (by rw [List.getElem?_append_left (List.getElem?_eq_some_iff.mp hi).1]; exact hi)) (by omega)
        exact ⟨m + 1, v, by rw [kwh_go (by rw [e0]), e0]; exact r1, r2⟩
/-- the class's innermost loop -/
theorem lv_top {n : Nat} (h : LVv [] s (f :: r)) (hl : lb f.2.2.2.1 = some n) (hz : fLp (f :: r) ≤ 1000000) (hx : XC 0 s (f :: r)) : c124 s = xn n := by
  obtain ⟨W, w1, w2⟩ := h
  obtain ⟨-, l, e⟩ := lb_yes hl
  have e1 : fLv (f :: r) ++ [] = (fLv r ++ l) ++ [n] := by
    rw [List.append_nil]
    show fLv r ++ bLv f.2.2.2.1 = _
    rw [e, List.append_assoc]
  rw [e1, List.map_append] at w2
  have hlen : W.length = (fLv r ++ l).length + 1 := by
    have := congrArg List.length w2
    rw [List.length_map, List.length_append, List.length_map] at this
    exact this
  have hlp := hx.lp
  have hw := w1.1
  have hi : (fLv r ++ l).length < W.length := by omega
  have eq : (W[(fLv r ++ l).length]'hi).1 = xn n := by
    have z := congrArg (fun q => q[(fLv r ++ l).length]?) w2
    simp only [List.getElem?_map] at z
    rw [List.getElem?_append_right (by rw [List.length_map]; exact Nat.le_refl _), List.length_map, Nat.sub_self, List.getElem?_eq_getElem hi] at z
    exact Option.some.inj z
  have er : s.r (.s 28) = xn W.length := xn_eq hw (by omega)
  have e2 : s.r (.s 28) - 1 = xn (fLv r ++ l).length := by
    rw [er, hlen]
    have := xn_sub (n := 1) (m := (fLv r ++ l).length) (by omega)
    rw [Nat.add_comm 1] at this
    exact this
  unfold c124
  rw [e2, w1.g0 (xn_i (by omega)) (List.getElem?_eq_getElem hi)]
  exact eq
/-- a break on both sides -/
theorem NC.brk {y z w : Int32} (h : NC 0 s k) (hn : RN s k (f :: r)) (hz : SZ (f :: r)) (hp : f.2.2.1 = []) (hv : LVv [] s (f :: r)) : NC 0 (c123_15 s y z).1 (k233 k w).1 := by
  have zz := hz.l
  have zk := hz.k
  have h1 := hn.1
  have e28 : c50 s = xn (fLp r + bLp f.2.2.2.1) := xn_eq (by show (s.r (.s 28)).toInt = _; rw [h1.lp]; rfl) (by have : fLp (f :: r) = fLp r + bLp f.2.2.2.1 := rfl; omega)
  have e12 : s.b s.now 12 = xn (fLp r) := by rw [h1.nw f r rfl]; exact h1.xf.2.2.2.2.1
  have zl : fLp (f :: r) = fLp r + bLp f.2.2.2.1 := rfl
  cases hl : lb f.2.2.2.1 with
  | none =>
    have c := lb_no hl
    have bad := (k233_k (w := w) hn.2.1 hz).2.mpr (Or.inr c)
    have e : (c123_15 s y z).1 = (c76 s 11 y).1 := by
      unfold c123_15
      rw [e28, e12, c, Nat.add_zero, if_neg (fun q => q rfl)]
    rw [e]
    exact h.bad ((fr_c76 s 11 y).nr rfl) bad
  | some n =>
    obtain ⟨c, -⟩ := lb_yes hl
    have hne : c50 s ≠ s.b s.now 12 := by
      rw [e28, e12]
      intro q
      have := congrArg Int32.toInt q
      rw [xn_i (by omega), xn_i (by omega)] at this
      omega
    have hnl : n ≤ f.2.1.length := lb_le hn.2.2.1.1 hl
    have hB : fkBl (f :: r) = fkBl r ++ kBl (kL r).length (fLab r).length (fUm r).length r.length f.2.2.2.1 := rfl
    obtain ⟨m, v, r1, r2, r3, r4⟩ := bl2_go (k := k) (w := w) (R := fkBl r) (hn.2.1.dp hz) f.2.2.2.1 (k.1 37 - 1) hl (by rw [← hB]; omega) (fun i q hq => ⟨(hn.2.1.2.1.2 i q hq).1, (hn.2.1.2.1.2 i q hq).2.2.2.1, (hn.2.1.2.1.2 i q hq).2.2.2.2⟩) (by
      rw [hn.2.1.2.1.1, i_sub (xn_i (by omega)) (show (1 : Int32).toInt = 1 from rfl) (by omega) (by omega), ← hB]
      omega)
    have hk := kfin_of ⟨m, r1⟩ (Nat.succ_ne_zero 0)
    have ek : k233 k w = k233_39 k w v := by unfold k233; rw [hk]
    have ecnt : c75 s = xn f.2.1.length := by rw [h1.cnt hz, hp, List.append_nil]
    have e124 := lv_top hv hl (by omega) h1
    have zL : (kL (f :: r)).length = (kL r).length + f.2.1.length := by
      show (kL r ++ f.2.1).length = _
      rw [List.length_append]
    have zFL : f.2.1.length ≤ (fL (f :: r)).length := by
      show _ ≤ (fL r ++ (f.2.1 ++ f.2.2.1)).length
      rw [List.length_append, List.length_append]
      omega
    have e24 : k.1 24 = xn ((kL r).length + f.2.1.length) := by rw [hn.2.1.a24, zL]
    obtain ⟨o1, o2, o3, o4⟩ := own_k hn hz
    rw [ek]
    unfold c123_15 k233_39
    have r3' : kr k 41 v = k.1 32 := by rw [r3]; exact (hn.2.1.dp hz).symm
    rw [if_pos hne, if_neg r2, if_pos r3', ecnt, e124, r4, e24]
    have w1 : ∀ (s1 : cS) (k1 : kS), NC 0 s1 k1 → kr k1 33 (k1.1 32) = xn (f.1 - 1) → s1.now = f.1 → NC 0 (c123_82 s1).1 (k233_102 k1 v).1 := fun s1 k1 q q33 qn => by
      have q1 := (q.cle (a := 36) (b := 0) (c := 0) (e := 0)).putn (a := 36) (b := kr k1 43 v) (c := 0) (e := 0) q33 (by rw [c78_now]; omega) (by omega)
      unfold c123_82 k233_102 k233_121
      refine NC.same (d := 0) (q1.eq rfl) (fun x => ?_) ?_ id rfl rfl
      · exact tad_rn (fun z => by cases z)
      · show (tad (c78 s1 36 0 0 0).1 (.s 30) _ 0 0 0).1.now = _
        unfold tad
        split <;> rfl
    by_cases c3 : f.2.1.length ≤ n
    · rw [if_pos (by rw [i_le, xn_i (by omega), xn_i (by omega)]; omega), if_pos (by rw [i_le, xn_i (by omega), xn_i (by omega)]; omega)]
      exact w1 s k h o1 o2
    · rw [if_neg (by rw [i_le, xn_i (by omega), xn_i (by omega)]; omega), if_neg (by rw [i_le, xn_i (by omega), xn_i (by omega)]; omega)]
      have q1 := (h.cle (a := 33) (b := xn n) (c := 0) (e := 0)).putn (a := 33) (b := xn ((kL r).length + n) - kr k 34 (k.1 32)) (c := 0) (e := 0) o1 (by rw [c78_now]; omega) (by omega)
      have f9 := fr_k189 k 33 (xn ((kL r).length + n) - kr k 34 (k.1 32)) 0 0
      unfold c123_81 k233_101
      generalize (k189 k 33 (xn ((kL r).length + n) - kr k 34 (k.1 32)) 0 0).1 = k9 at q1 f9 ⊢
      refine w1 _ _ (q1.eq rfl) ?_ (by rw [c78_now]; exact o2)
      unfold kr at o1 ⊢
      rw [f9.1 32 rfl, f9.2 33 rfl]
      exact o1
end BRK
