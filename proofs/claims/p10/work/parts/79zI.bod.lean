/-! THE CLASS: locals, labels, gotos; functions begin -/
section XDC
variable {e : Nat} {s : cS} {f : xF} {r : List xF} {b : xB} {bs : List xB} {t st w : Int32}
theorem c74_st : (c74 s t st w).1 = nb (tad (if c75 s < 200 then s else (c76 s 16 w).1) (.s 14) t st 0 0).1 (tad (if c75 s < 200 then s else (c76 s 16 w).1) (.s 14) t st 0 0).1.now 7 (if (tad (if c75 s < 200 then s else (c76 s 16 w).1) (.s 14) t st 0 0).1.b (tad (if c75 s < 200 then s else (c76 s 16 w).1) (.s 14) t st 0 0).1.now 7 < c75 (tad (if c75 s < 200 then s else (c76 s 16 w).1) (.s 14) t st 0 0).1 then c75 (tad (if c75 s < 200 then s else (c76 s 16 w).1) (.s 14) t st 0 0).1 else (tad (if c75 s < 200 then s else (c76 s 16 w).1) (.s 14) t st 0 0).1.b (tad (if c75 s < 200 then s else (c76 s 16 w).1) (.s 14) t st 0 0).1.now 7) := by
  unfold c74
  by_cases h : c75 s < 200
  · rw [if_pos h, if_pos h]
    rfl
  · rw [if_neg h, if_neg h]
    rfl
theorem c74_ff (h : XC e s (f :: r)) (hz : SZ (f :: r)) : (c74 s t st w).1.f 1 0 ≠ 0 ↔ s.f 1 0 ≠ 0 ∨ 200 ≤ (f.2.1 ++ f.2.2.1).length := by
  have hc := h.cnt hz
  have hl : (f.2.1 ++ f.2.2.1).length ≤ 1000000 := by
    have h1 := hz.l.1
    have : (fL (f :: r)).length = (fL r).length + (f.2.1 ++ f.2.2.1).length := by
      show (fL r ++ (f.2.1 ++ f.2.2.1)).length = _
      rw [List.length_append]
    omega
  have e200 : (200 : Int32).toInt = 200 := rfl
  rw [c74_st]
  have f1 : ∀ s1 : cS, (nb (tad s1 (.s 14) t st 0 0).1 (tad s1 (.s 14) t st 0 0).1.now 7 (if (tad s1 (.s 14) t st 0 0).1.b (tad s1 (.s 14) t st 0 0).1.now 7 < c75 (tad s1 (.s 14) t st 0 0).1 then c75 (tad s1 (.s 14) t st 0 0).1 else (tad s1 (.s 14) t st 0 0).1.b (tad s1 (.s 14) t st 0 0).1.now 7)).f 1 0 = s1.f 1 0 := fun s1 => by
    have h1 : cFr 0 16384 128 0 s1 (nb (tad s1 (.s 14) t st 0 0).1 (tad s1 (.s 14) t st 0 0).1.now 7 (if (tad s1 (.s 14) t st 0 0).1.b (tad s1 (.s 14) t st 0 0).1.now 7 < c75 (tad s1 (.s 14) t st 0 0).1 then c75 (tad s1 (.s 14) t st 0 0).1 else (tad s1 (.s 14) t st 0 0).1.b (tad s1 (.s 14) t st 0 0).1.now 7)) := (cFr.refl.tads rfl).sb rfl
    exact h1.1 1 0 (by decide) (Nat.zero_testBit _)
  rw [f1]
  by_cases c1 : c75 s < 200
  · rw [if_pos c1]
    rw [hc, i_lt, xn_i (by omega), e200] at c1
    exact ⟨Or.inl, fun q => q.resolve_right (by omega)⟩
  · rw [if_neg c1]
    rw [hc, i_lt, xn_i (by omega), e200] at c1
    exact ⟨fun _ => Or.inr (by omega), fun _ => c76_f (by decide)⟩
theorem XC.dcl (h : XC e s (f :: r)) (hz : SZ (f :: r)) (hp : f.2.2.1 = []) : XC e (c74 s t st w).1 (xd f (t, st, 0, 0) :: r) := by
  rw [c74_st]
  have h1 : XC e (if c75 s < 200 then s else (c76 s 16 w).1) (f :: r) := by
    split
    · exact h
    · exact h.fr (fr_c76 s 16 w) rfl rfl rfl rfl
  have h2 := h1.dec (a := t) (b := st) (c := 0) (d := 0) hz hp
  exact h2.fr (cFr.sb (F := 0) (T := 0) (B := 128) (G := 0) cFr.refl rfl) (Nat.zero_testBit _) rfl rfl rfl
theorem XC.dclw (h : XC e s (f :: r)) (hz : SZ (f :: r)) : XC e (c74 s t st w).1 (xw f (t, st, 0, 0) :: r) := by
  rw [c74_st]
  have h1 : XC e (if c75 s < 200 then s else (c76 s 16 w).1) (f :: r) := by
    split
    · exact h
    · exact h.fr (fr_c76 s 16 w) rfl rfl rfl rfl
  have h2 := h1.wai (a := t) (b := st) (c := 0) (d := 0) hz
  exact h2.fr (cFr.sb (F := 0) (T := 0) (B := 128) (G := 0) cFr.refl rfl) (Nat.zero_testBit _) rfl rfl rfl
/-- a label, a goto in the innermost block -/
def xla (f : xF) (q : xR) : xF := match f.2.2.2.1 with
  | b :: bs => (f.1, f.2.1, f.2.2.1, (b.1, b.2.1 ++ [q], b.2.2.1, b.2.2.2) :: bs, f.2.2.2.2)
  | [] => f
def xgo (f : xF) (q : xR) : xF := match f.2.2.2.1 with
  | b :: bs => (f.1, f.2.1, f.2.2.1, (b.1, b.2.1, b.2.2.1 ++ [q], b.2.2.2) :: bs, f.2.2.2.2)
  | [] => f
theorem XC.lba {a1 a2 a3 a4 : Int32} (h : XC e s (f :: r)) (hz : SZ (f :: r)) (hb : f.2.2.2.1 = b :: bs) : XC e (tad s (.s 24) a1 a2 a3 a4).1 (xla f (a1, a2, a3, a4) :: r) := by
  have ex : xla f (a1, a2, a3, a4) = (f.1, f.2.1, f.2.2.1, (b.1, b.2.1 ++ [(a1, a2, a3, a4)], b.2.2.1, b.2.2.2) :: bs, f.2.2.2.2) := by unfold xla; rw [hb]
  obtain ⟨x, lo, wa, bl, d⟩ := f
  have hb' : bl = b :: bs := hb
  subst hb'
  rw [ex]
  refine h.add24 (by have := hz.l; omega) rfl rfl ?_ rfl rfl rfl (fun s h => h) (fun f' r' q => ?_)
  · show fLab r ++ (bLab bs ++ (b.2.1 ++ [(a1, a2, a3, a4)])) = (fLab r ++ (bLab bs ++ b.2.1)) ++ [(a1, a2, a3, a4)]
    simp only [List.append_assoc]
  · cases q
    exact ⟨_, r, rfl, rfl⟩
theorem XC.gto {a1 a2 a3 a4 : Int32} (h : XC e s (f :: r)) (hz : SZ (f :: r)) (hb : f.2.2.2.1 = b :: bs) : XC e (tad s (.s 26) a1 a2 a3 a4).1 (xgo f (a1, a2, a3, a4) :: r) := by
  have ex : xgo f (a1, a2, a3, a4) = (f.1, f.2.1, f.2.2.1, (b.1, b.2.1, b.2.2.1 ++ [(a1, a2, a3, a4)], b.2.2.2) :: bs, f.2.2.2.2) := by unfold xgo; rw [hb]
  obtain ⟨x, lo, wa, bl, d⟩ := f
  have hb' : bl = b :: bs := hb
  subst hb'
  rw [ex]
  refine h.add26 (by have := hz.l; omega) rfl rfl rfl ?_ rfl rfl (fun s h => h) (fun f' r' q => ?_)
  · show fGo r ++ (bGo bs ++ (b.2.2.1 ++ [(a1, a2, a3, a4)])) = (fGo r ++ (bGo bs ++ b.2.2.1)) ++ [(a1, a2, a3, a4)]
    simp only [List.append_assoc]
  · cases q
    exact ⟨_, r, rfl, rfl⟩
end XDC
section XBG
variable {s : cS} {X : List xF} {x : Nat}
theorem SZ.g (h : SZ X) : (fL X).length ≤ 1000000 ∧ (fBl X).length ≤ 1000000 ∧ (fLab X).length ≤ 1000000 ∧ (fGo X).length ≤ 1000000 ∧ fLp X ≤ 1000000 ∧ X.length ≤ 1000000 := by
  unfold SZ at h
  omega
/-- a body that isn't begun is of no account -/
theorem XC.bod {s' : cS} (h : XC 0 s X) (hx : ∀ f ∈ X, f.1 ≠ x) (hr : ∀ k, s'.r (.s k) = s.r (.s k)) (hc : ∀ k, s'.c (.s k) = s.c (.s k)) (hb : ∀ y, y ≠ x → s'.b y = s.b y) (hn : s'.now = s.now) (ho : s'.op = s.op) (h13 : s'.f 13 1 = s.f 13 1) : XC 0 s' X := by
  refine ⟨h.l.same (hr _) (hc _), h.bl.same (hr _) (hc _), h.la.same (hr _) (hc _), h.go.same (hr _) (hc _), by rw [hr]; exact h.lp, by rw [h13]; exact h.ln, h.xf.same2 (fun j _ => by rw [ho]) (fun f hf j _ => by rw [hb _ (hx f hf)]), fun f r q => by rw [hn]; exact h.nw f r q⟩
theorem tct_r {t t' : cT} {n : Int32} (h : t' ≠ t) : (tct s t n).r t' = s.r t' ∧ (tct s t n).c t' = s.c t' := by
  unfold tct
  split
  · exact ⟨rfl, rfl⟩
  · split
    · exact ⟨rfl, rfl⟩
    · exact ⟨nt_rn h, nt_cn h⟩
theorem tct_o {t : cT} {n : Int32} : (tct s t n).f = s.f ∧ (tct s t n).b = s.b ∧ (tct s t n).now = s.now ∧ (tct s t n).op = s.op := by
  unfold tct
  split
  · exact ⟨rfl, rfl, rfl, rfl⟩
  · split
    · exact ⟨rfl, rfl, rfl, rfl⟩
    · exact ⟨rfl, rfl, rfl, rfl⟩
theorem c29_o {v : Int32} : (∀ k, (c29 s x v).1.r (.s k) = s.r (.s k)) ∧ (∀ k, (c29 s x v).1.c (.s k) = s.c (.s k)) ∧ (∀ y, y ≠ x → (c29 s x v).1.b y = s.b y) ∧ (c29 s x v).1.now = s.now ∧ (c29 s x v).1.op = s.op ∧ (c29 s x v).1.f = s.f ∧ (c29 s x v).1.b x 5 = 0 ∧ (c29 s x v).1.b x 2 = v := by
  have ne : ∀ (k : Nat) (q : Nat ⊕ Nat), cT.s k ≠ Sum.inr q := fun k q z => by cases z
  show (∀ k, (tct (tct (nb (nb (nb (nb (nb (nb (nb (nb (nb (nb (nb s x 2 v) x 3 (-1)) x 8 (-1)) x 4 0) x 5 0) x 6 0) x 7 0) x 9 0) x 10 0) x 11 0) x 12 0) (.i x) 0) (.u x) 0).r (.s k) = s.r (.s k)) ∧ (∀ k, (tct (tct (nb (nb (nb (nb (nb (nb (nb (nb (nb (nb (nb s x 2 v) x 3 (-1)) x 8 (-1)) x 4 0) x 5 0) x 6 0) x 7 0) x 9 0) x 10 0) x 11 0) x 12 0) (.i x) 0) (.u x) 0).c (.s k) = s.c (.s k)) ∧ (∀ y, y ≠ x → (tct (tct (nb (nb (nb (nb (nb (nb (nb (nb (nb (nb (nb s x 2 v) x 3 (-1)) x 8 (-1)) x 4 0) x 5 0) x 6 0) x 7 0) x 9 0) x 10 0) x 11 0) x 12 0) (.i x) 0) (.u x) 0).b y = s.b y) ∧ (tct (tct (nb (nb (nb (nb (nb (nb (nb (nb (nb (nb (nb s x 2 v) x 3 (-1)) x 8 (-1)) x 4 0) x 5 0) x 6 0) x 7 0) x 9 0) x 10 0) x 11 0) x 12 0) (.i x) 0) (.u x) 0).now = s.now ∧ (tct (tct (nb (nb (nb (nb (nb (nb (nb (nb (nb (nb (nb s x 2 v) x 3 (-1)) x 8 (-1)) x 4 0) x 5 0) x 6 0) x 7 0) x 9 0) x 10 0) x 11 0) x 12 0) (.i x) 0) (.u x) 0).op = s.op ∧ (tct (tct (nb (nb (nb (nb (nb (nb (nb (nb (nb (nb (nb s x 2 v) x 3 (-1)) x 8 (-1)) x 4 0) x 5 0) x 6 0) x 7 0) x 9 0) x 10 0) x 11 0) x 12 0) (.i x) 0) (.u x) 0).f = s.f ∧ (tct (tct (nb (nb (nb (nb (nb (nb (nb (nb (nb (nb (nb s x 2 v) x 3 (-1)) x 8 (-1)) x 4 0) x 5 0) x 6 0) x 7 0) x 9 0) x 10 0) x 11 0) x 12 0) (.i x) 0) (.u x) 0).b x 5 = 0 ∧ (tct (tct (nb (nb (nb (nb (nb (nb (nb (nb (nb (nb (nb s x 2 v) x 3 (-1)) x 8 (-1)) x 4 0) x 5 0) x 6 0) x 7 0) x 9 0) x 10 0) x 11 0) x 12 0) (.i x) 0) (.u x) 0).b x 2 = v
  refine ⟨fun k => ?_, fun k => ?_, fun y hy => ?_, ?_, ?_, ?_, ?_, ?_⟩
  · rw [(tct_r (ne _ _)).1, (tct_r (ne _ _)).1]; rfl
  · rw [(tct_r (ne _ _)).2, (tct_r (ne _ _)).2]; rfl
  · rw [tct_o.2.1, tct_o.2.1]
    rw [nb_ne hy, nb_ne hy, nb_ne hy, nb_ne hy, nb_ne hy, nb_ne hy, nb_ne hy, nb_ne hy, nb_ne hy, nb_ne hy, nb_ne hy]
  · rw [tct_o.2.2.1, tct_o.2.2.1]; rfl
  · rw [tct_o.2.2.2, tct_o.2.2.2]; rfl
  · rw [tct_o.1, tct_o.1]; rfl
  · rw [tct_o.2.1, tct_o.2.1]
    simp only [nb_eq, upd]
    rfl
  · rw [tct_o.2.1, tct_o.2.1]
    simp only [nb_eq, upd]
    rfl
theorem XC.nxb (h : XC 0 s X) (hx : ∀ f ∈ X, f.1 ≠ (s.f 5 1).toInt.toNat + 1) (hy : ∀ f ∈ X, f.1 ≠ (s.f 6 1).toInt.toNat + 1) : XC 0 (c13 s).1 X ∧ (c13 s).2 = (s.f 5 1).toInt.toNat + 1 ∧ (c13 s).1.b (c13 s).2 5 = 0 ∧ (c13 s).1.f 5 1 = s.f 5 1 + 1 ∧ (c13 s).1.f 1 = s.f 1 ∧ (c13 s).1.f 2 = s.f 2 ∧ (c13 s).1.b (c13 s).2 2 = s.f 5 1 := by
  have key : ∀ s1 : cS, XC 0 s1 X → s1.f 5 1 = s.f 5 1 → s1.f 1 = s.f 1 → s1.f 2 = s.f 2 → XC 0 (nf (c29 s1 ((s.f 5 1).toInt.toNat + 1) (s.f 5 1)).1 5 1 ((c29 s1 ((s.f 5 1).toInt.toNat + 1) (s.f 5 1)).1.f 5 1 + 1)) X ∧ (nf (c29 s1 ((s.f 5 1).toInt.toNat + 1) (s.f 5 1)).1 5 1 ((c29 s1 ((s.f 5 1).toInt.toNat + 1) (s.f 5 1)).1.f 5 1 + 1)).b ((s.f 5 1).toInt.toNat + 1) 5 = 0 ∧ (nf (c29 s1 ((s.f 5 1).toInt.toNat + 1) (s.f 5 1)).1 5 1 ((c29 s1 ((s.f 5 1).toInt.toNat + 1) (s.f 5 1)).1.f 5 1 + 1)).f 5 1 = s.f 5 1 + 1 ∧ (nf (c29 s1 ((s.f 5 1).toInt.toNat + 1) (s.f 5 1)).1 5 1 ((c29 s1 ((s.f 5 1).toInt.toNat + 1) (s.f 5 1)).1.f 5 1 + 1)).f 1 = s.f 1 ∧ (nf (c29 s1 ((s.f 5 1).toInt.toNat + 1) (s.f 5 1)).1 5 1 ((c29 s1 ((s.f 5 1).toInt.toNat + 1) (s.f 5 1)).1.f 5 1 + 1)).f 2 = s.f 2 ∧ (nf (c29 s1 ((s.f 5 1).toInt.toNat + 1) (s.f 5 1)).1 5 1 ((c29 s1 ((s.f 5 1).toInt.toNat + 1) (s.f 5 1)).1.f 5 1 + 1)).b ((s.f 5 1).toInt.toNat + 1) 2 = s.f 5 1 := by
    intro s1 h1 e5 e1 e2
    obtain ⟨o1, o2, o3, o4, o5, o6, o7, o8⟩ := c29_o (s := s1) (x := (s.f 5 1).toInt.toNat + 1) (v := s.f 5 1)
    refine ⟨h1.bod (x := (s.f 5 1).toInt.toNat + 1) hx o1 o2 o3 o4 o5 ?_, o7, ?_, ?_, ?_, o8⟩
    · rw [nf_ne (by decide), o6]
    · rw [nf_at, o6, e5]
    · rw [nf_ne (by decide), o6, e1]
    · rw [nf_ne (by decide), o6, e2]
  by_cases c1 : s.f 5 1 < s.f 6 1
  · have e : c13 s = (nf (c29 s ((s.f 5 1).toInt.toNat + 1) (s.f 5 1)).1 5 1 ((c29 s ((s.f 5 1).toInt.toNat + 1) (s.f 5 1)).1.f 5 1 + 1), (s.f 5 1).toInt.toNat + 1) := by unfold c13; rw [if_pos c1]
    rw [e]
    obtain ⟨k1, k2, k3, k4, k5, k6⟩ := key s h rfl rfl rfl
    exact ⟨k1, rfl, k2, k3, k4, k5, k6⟩
  · have e : c13 s = (nf (c29 (bnew s ((s.f 6 1).toInt.toNat + 1)) ((s.f 5 1).toInt.toNat + 1) (s.f 5 1)).1 5 1 ((c29 (bnew s ((s.f 6 1).toInt.toNat + 1)) ((s.f 5 1).toInt.toNat + 1) (s.f 5 1)).1.f 5 1 + 1), (s.f 5 1).toInt.toNat + 1) := by unfold c13; rw [if_neg c1]
    rw [e]
    have hb : XC 0 (bnew s ((s.f 6 1).toInt.toNat + 1)) X := by
      refine h.bod (x := (s.f 6 1).toInt.toNat + 1) hy (fun k => ?_) (fun k => rfl) (fun y hy' => ?_) rfl rfl ?_
      · show (if cT.s k = .i ((s.f 6 1).toInt.toNat + 1) ∨ cT.s k = .u ((s.f 6 1).toInt.toNat + 1) then 0 else s.r (.s k)) = s.r (.s k)
        exact if_neg (show ¬ (cT.s k = .i ((s.f 6 1).toInt.toNat + 1) ∨ cT.s k = .u ((s.f 6 1).toInt.toNat + 1)) from (by rintro (z | z) <;> cases z))
      · exact if_neg hy'
      · show (nf s 6 1 (s.f 6 1 + 1)).f 13 1 = _
        rw [nf_ne (by decide)]
    obtain ⟨k1, k2, k3, k4, k5, k6⟩ := key (bnew s ((s.f 6 1).toInt.toNat + 1)) hb (by show (nf s 6 1 (s.f 6 1 + 1)).f 5 1 = _; rw [nf_ne (by decide)]) (by show (nf s 6 1 (s.f 6 1 + 1)).f 1 = _; rw [nf_ne (by decide)]) (by show (nf s 6 1 (s.f 6 1 + 1)).f 2 = _; rw [nf_ne (by decide)])
    exact ⟨k1, rfl, k2, k3, k4, k5, k6⟩
end XBG
