/-! THE CLASS: loops; rows are changed and taken away -/
def xcol (q : xR) (c : Nat) (v : Int32) : xR := match c with
  | 0 => (v, q.2.1, q.2.2.1, q.2.2.2)
  | 1 => (q.1, v, q.2.2.1, q.2.2.2)
  | 2 => (q.1, q.2.1, v, q.2.2.2)
  | _ => (q.1, q.2.1, q.2.2.1, v)
theorem TR.set {s : cS} {t : cT} {l : List xR} {r v : Int32} {i c : Nat} {q : xR} (h : TR s t l) (hi : r.toInt = i) (hq : l[i]? = some q) (hc : c < 4) : TR (ts s t r (xn c) v) t (l.set i (xcol q c v)) := by
  have hl := (List.getElem?_eq_some_iff.mp hq).1
  have e0 : (0 : Int32).toInt = 0 := rfl
  have e4 : (4 : Int32).toInt = 4 := rfl
  have ec : (xn c).toInt = c := xn_i (by omega)
  unfold ts
  rw [if_neg (by rw [i_lt, e0]; omega), if_neg (by rw [i_le, h.1]; omega), if_neg (by rw [i_lt, ec, e0]; omega), if_neg (by rw [i_le, ec, e4]; omega)]
  have eci : ci r (xn c) = 4 * i + c := by unfold ci; rw [hi, ec]; omega
  rw [eci]
  refine ⟨by rw [nt_r, List.length_set]; exact h.1, fun i' q' hq' => ?_⟩
  rw [nt_c]
  unfold upd
  by_cases e : i' = i
  · subst e
    rw [List.getElem?_set_self hl] at hq'
    cases hq'
    obtain ⟨h1, h2, h3, h4⟩ := h.2 i' q hq
    have hc' : c = 0 ∨ c = 1 ∨ c = 2 ∨ c = 3 := by omega
    rcases hc' with rfl | rfl | rfl | rfl
    · rw [if_pos (by omega), if_neg (by omega), if_neg (by omega), if_neg (by omega)]
      exact ⟨rfl, h2, h3, h4⟩
    · rw [if_neg (by omega), if_pos rfl, if_neg (by omega), if_neg (by omega)]
      exact ⟨h1, rfl, h3, h4⟩
    · rw [if_neg (by omega), if_neg (by omega), if_pos rfl, if_neg (by omega)]
      exact ⟨h1, h2, rfl, h4⟩
    · rw [if_neg (by omega), if_neg (by omega), if_neg (by omega), if_pos rfl]
      exact ⟨h1, h2, h3, rfl⟩
  · rw [List.getElem?_set_ne (fun z => e z.symm)] at hq'
    rw [if_neg (by omega), if_neg (by omega), if_neg (by omega), if_neg (by omega)]
    exact h.2 i' q' hq'
section XLP
variable {e : Nat} {s : cS} {f : xF} {r : List xF} {X : List xF}
/-- a loop is begun -/
theorem XC.lop {a : Int32} (h : XC e s X) (hz : fLp X + e < 1048576) : XC (e + 1) (c131 s a).1 X := by
  have hf : cFr 0 268435456 0 0 s (c131 s a).1 := cFr.refl.tads rfl
  have e1 : (1048576 : Int32).toInt = 1048576 := rfl
  have hr : ((c131 s a).1.r (.s 28)).toInt = fLp X + (e + 1) := by
    show ((tad s (.s 28) a (s.r (.s 30)) 0 0).1.r (.s 28)).toInt = _
    unfold tad
    rw [if_pos (by rw [i_lt, h.lp, e1]; omega)]
    show ((nt s (.s 28) _ _).r (.s 28)).toInt = _
    rw [nt_r, i_add h.lp (show (1 : Int32).toInt = 1 from rfl) (by omega) (by omega)]
    omega
  refine ⟨h.l.fr hf rfl, h.bl.fr hf rfl, h.la.fr hf rfl, h.go.fr hf rfl, hr, ?_, h.xf.same (hf.2.2.2.2.1 rfl) (fun x j _ => hf.2.2.1 x j (Nat.zero_testBit _)), fun f' r' q => ?_⟩
  · rw [hf.1 13 1 (by decide) rfl]; exact h.ln
  · rw [hf.2.2.2.1 rfl]; exact h.nw f' r' q
/-- the loop's block -/
theorem XC.opl (h : XC (e + 1) s (f :: r)) (hz : SZ (f :: r)) : XC e (c51 s).1 (xo f 1 :: r) := by
  have h0 : XC (e + 1) (c51 s).1 (xo f 0 :: r) := h.opn hz (by decide)
  refine ⟨h0.l, h0.bl, h0.la, h0.go, ?_, h0.ln, h0.xf, fun f' r' q => ?_⟩
  · rw [h0.lp]
    show ((fLp r + (bLp f.2.2.2.1 + (if (0 : Nat) = 1 then 1 else 0)) : Nat) : Int) + ((e + 1 : Nat) : Int) = ((fLp r + (bLp f.2.2.2.1 + (if (1 : Nat) = 1 then 1 else 0)) : Nat) : Int) + (e : Int)
    rw [if_neg (by decide), if_pos rfl]
    omega
  · cases q
    exact h0.nw (xo f 0) r rfl
/-- a loop is ended -/
theorem XC.lcl {x : Nat} (h : XC (e + 1) s X) (hz : fLp X + e < 1048576) : XC e (c132 s x).1 X := by
  have hf := fr_c132 s x
  have hr : ((c132 s x).1.r (.s 28)).toInt = fLp X + e := by
    unfold c132 c132_59
    show ((tct _ (.s 28) _).r (.s 28)).toInt = _
    have hk : cFr 0 1073741824 0 4 s (tct (kfin (c132b20 x (tg s (.s 28) (s.r (.s 28) - 1) 1)) (s, tg s (.s 28) (s.r (.s 28) - 1) 1)).2.1 (.s 30) (tg s (.s 28) (s.r (.s 28) - 1) 1)) := cFr.tcts ((cFr.mono (cfin_fr1 (t := (s, tg s (.s 28) (s.r (.s 28) - 1) 1)) (fun t => fr_c132b20 x (tg s (.s 28) (s.r (.s 28) - 1) 1) t)) rfl rfl rfl rfl)) rfl
    have e1 := (hk.2.1 28 rfl).1
    generalize tct (kfin (c132b20 x (tg s (.s 28) (s.r (.s 28) - 1) 1)) (s, tg s (.s 28) (s.r (.s 28) - 1) 1)).2.1 (.s 30) (tg s (.s 28) (s.r (.s 28) - 1) 1) = s1 at e1
    have e0 : (0 : Int32).toInt = 0 := rfl
    have e2 : (s1.r (.s 28) - 1).toInt = fLp X + e := by
      rw [e1, i_sub h.lp (show (1 : Int32).toInt = 1 from rfl) (by omega) (by omega)]
      omega
    unfold tct
    rw [if_neg (by rw [i_lt, e2, e0]; omega), if_neg (by rw [i_le, e2, e1, h.lp]; omega), nt_r, e2]
  refine ⟨h.l.fr hf rfl, h.bl.fr hf rfl, h.la.fr hf rfl, h.go.fr hf rfl, hr, ?_, h.xf.same (hf.2.2.2.2.1 rfl) (fun y j _ => hf.2.2.1 y j (Nat.zero_testBit _)), fun f' r' q => ?_⟩
  · rw [hf.1 13 1 (by decide) rfl]; exact h.ln
  · rw [hf.2.2.2.1 rfl]; exact h.nw f' r' q
end XLP
