/-! JUMPS THAT WAIT, ROWS: functions begin and end -/
section FBE
variable {H : List hE} {s s' : cS} {k k' : kS} {X : List xF} {f f2 : xF} {r : List xF} {b : xB}
theorem tct_c {t t' : cT} {n : Int32} : (tct s t n).c t' = s.c t' := by
  unfold tct
  split
  · rfl
  · split
    · rfl
    · show (if t' = t then s.c t else s.c t') = _
      split
      · rename_i e
        rw [e]
      · rfl
theorem c29_c {x y : Nat} {v : Int32} : (c29 s x v).1.c (.i y) = s.c (.i y) := by
  show (tct (tct (nb (nb (nb (nb (nb (nb (nb (nb (nb (nb (nb s x 2 v) x 3 (-1)) x 8 (-1)) x 4 0) x 5 0) x 6 0) x 7 0) x 9 0) x 10 0) x 11 0) x 12 0) (.i x) 0) (.u x) 0).c (.i y) = s.c (.i y)
  rw [tct_c, tct_c]
  rfl
theorem c13_c {y : Nat} : (c13 s).1.c (.i y) = s.c (.i y) := by
  unfold c13
  split
  · exact c29_c
  · exact c29_c.trans rfl
theorem c46_c {w : Int32} {y : Nat} : (c46 s w).1.c (.i y) = s.c (.i y) := by
  have key : ∀ (s1 : cS) (z0 : Int32) (z : Nat), (c46_30 s1 w z z0 z).1.c (.i y) = s1.c (.i y) := fun s1 z0 z => (fr_c51 _).2.2.2.2.2.1 rfl y
  unfold c46 c46_7
  split
  · exact (key _ _ _).trans c13_c
  · exact (key _ _ _).trans c13_c
theorem c29_s {x j : Nat} {v : Int32} : (c29 s x v).1.r (.s j) = s.r (.s j) ∧ (c29 s x v).1.c (.s j) = s.c (.s j) := by
  show (tct (tct (nb (nb (nb (nb (nb (nb (nb (nb (nb (nb (nb s x 2 v) x 3 (-1)) x 8 (-1)) x 4 0) x 5 0) x 6 0) x 7 0) x 9 0) x 10 0) x 11 0) x 12 0) (.i x) 0) (.u x) 0).r (.s j) = s.r (.s j) ∧ (tct (tct (nb (nb (nb (nb (nb (nb (nb (nb (nb (nb (nb s x 2 v) x 3 (-1)) x 8 (-1)) x 4 0) x 5 0) x 6 0) x 7 0) x 9 0) x 10 0) x 11 0) x 12 0) (.i x) 0) (.u x) 0).c (.s j) = s.c (.s j)
  refine ⟨((tct_r (fun z => by cases z)).1).trans (((tct_r (fun z => by cases z)).1).trans rfl), ?_⟩
  rw [tct_c, tct_c]
  rfl
theorem c13_s {j : Nat} : (c13 s).1.r (.s j) = s.r (.s j) ∧ (c13 s).1.c (.s j) = s.c (.s j) := by
  have rb : ∀ x, (bnew s x).r (.s j) = s.r (.s j) := fun x => by
    show (if cT.s j = .i x ∨ cT.s j = .u x then 0 else s.r (.s j)) = _
    rw [if_neg (fun z => z.elim (fun q => by cases q) (fun q => by cases q))]
  unfold c13
  split
  · exact c29_s
  · exact ⟨c29_s.1.trans (rb _), c29_s.2.trans rfl⟩
theorem c46_s {w : Int32} {j : Nat} (hj : j ≠ 16) : (c46 s w).1.r (.s j) = s.r (.s j) ∧ (c46 s w).1.c (.s j) = s.c (.s j) := by
  have tb : (65536 : Nat).testBit j = false := by
    show (2 ^ 16 : Nat).testBit j = false
    rw [Nat.testBit_two_pow]
    exact decide_eq_false (fun z => hj z.symm)
  have key : ∀ (s1 : cS) (z0 : Int32) (z : Nat), (c46_30 s1 w z z0 z).1.r (.s j) = s1.r (.s j) ∧ (c46_30 s1 w z z0 z).1.c (.s j) = s1.c (.s j) := fun s1 z0 z => (fr_c51 _).2.1 j tb
  unfold c46 c46_7
  split
  · exact ⟨(key _ _ _).1.trans c13_s.1, (key _ _ _).2.trans c13_s.2⟩
  · exact ⟨(key _ _ _).1.trans c13_s.1, (key _ _ _).2.trans c13_s.2⟩
/-- a function begins on both sides -/
theorem NR.bgn {w : Int32} {n : Nat} {F' A' : Nat} (h : NR 0 ([], []) H s k X) (hn : k.1 53 = xn n) (hn2 : n < 1000000) (h5 : s.f 5 1 = k.1 53) (h56 : (s.f 5 1).toInt ≤ (s.f 6 1).toInt) (e8 : k'.1 8 = k.1 8) (e53 : k'.1 53 = k.1 53 + 1) (e60 : k'.2 60 = upd (k.2 60) n 0) (hk : kFr F' A' k k') (e43 : ∀ i, i < jfK (jx X) → k'.2 43 i = k.2 43 i) (k1 : F' &&& 295147905179352825856 = 0 := by rfl) (k2 : A' &&& 18299172443288433065984 = 0 := by rfl) : NR 0 ([], []) H (c46 s w).1 k' ((n + 1, [], [], [(0, [], [], 0)], 0) :: X) := by
  obtain ⟨u1, u2⟩ := c13_i (h5.trans hn) (by omega) h56
  have z0 : (0 : Int32).toInt = 0 := rfl
  have r0 : (c46 s w).1.r (.i (n + 1)) = 0 := Int32.toInt_inj.mp (by rw [c46_i, z0]; exact u2 (h.1 _))
  have r1 : ∀ x, x ≠ n + 1 → (c46 s w).1.r (.i x) = s.r (.i x) := fun x hx => by rw [c46_i]; exact u1 x hx
  have e68 := hk.1 68 (tb0 k1 (by decide))
  have e53' : k'.1 53 = xn (n + 1) := by rw [e53, hn, xn_succ (by omega)]
  have i5 : (k.1 53).toInt = n := by rw [hn, xn_i (by omega)]
  have i5' : (k'.1 53).toInt = n + 1 := by rw [e53', xn_i (by omega)]; omega
  refine ⟨fun x => ?_, fun z => ?_⟩
  · by_cases c : x = n + 1
    · rw [c, r0, z0]
      exact Int.le_refl _
    · rw [r1 x c]
      exact h.1 x
  rw [e8] at z
  obtain ⟨h0, h1⟩ := h.2 z
  refine ⟨by rw [e68]; exact h0, fun h6 hf => ?_⟩
  obtain ⟨p, Hd, hpn, ⟨Hg, Gs, ⟨d1, d2, d3⟩, d4, d5, d6⟩, h3⟩ := h1 (by rw [← e68]; exact h6) (fun x hx => by
    have := hf x (by omega)
    rw [r1 (x + 1) (by omega)] at this
    exact this)
  have hjx : jx (((n + 1, [], [], [(0, [], [], 0)], 0) : xF) :: X) = (n + 1, [([], [], 0)]) :: jx X := rfl
  have hlab : jfLab ((n + 1, [([], [], 0)]) :: jx X) = jfLab (jx X) := by
    show jfLab (jx X) ++ ([] ++ []) = _
    rw [List.append_nil, List.append_nil]
  refine ⟨p, Hd, ?_, ⟨Hg, Gs, ⟨d1, ?_, ?_⟩, ?_, ?_, d6.same (c46_s (by decide)) (c46_s (by decide))⟩, h3.bgn (x := n) (by omega) hn r1 (fun y _ => c46_c) r0 (fun z => by rw [← e8]; exact z) e53' e68 e60 (fun j h1 h2 => ?_)⟩
  · rcases hpn with q | q | q
    · exact Or.inl q
    · exact absurd q.1 (by decide)
    · exact absurd q.1 (by decide)
  · rw [hjx, hlab, hk.2 46 (tb0 k2 (by decide))]
    exact d2
  · rw [hjx]
    intro g hg
    rcases List.mem_cons.mp hg with q | q
    · rw [q]
      exact List.nodup_nil
    · exact d3 g q
  · rw [hjx]
    exact ⟨Hg, [], (List.append_nil _).symm, d4.fr (hk.2 51 (tb0 k2 (by decide))), [], [], rfl, rfl, rfl⟩
  · rw [hjx]
    exact ⟨Gs, [], (List.append_nil _).symm, d5.fb e43, Or.inr ⟨(show (0 : Nat) ≠ 1 by decide), rfl⟩⟩
  · have : j = 69 ∨ j = 70 ∨ j = 71 ∨ j = 72 ∨ j = 73 := by omega
    rcases this with e | e | e | e | e <;> (subst e; exact hk.2 _ (tb0 k2 (by decide)))
/-- another function comes in hand -/
theorem NR.nw (h : NR 0 ([], []) H s k X) (hr : ∀ x, s'.r (.i x) = s.r (.i x)) (hc : ∀ x, s'.c (.i x) = s.c (.i x)) (h28 : s'.r (.s 28) = s.r (.s 28) ∧ s'.c (.s 28) = s.c (.s 28)) (h30 : s'.r (.s 30) = s.r (.s 30) ∧ s'.c (.s 30) = s.c (.s 30)) : NR 0 ([], []) H s' k X := by
  refine ⟨fun x => by rw [hr]; exact h.1 x, fun z => ?_⟩
  obtain ⟨h0, h1⟩ := h.2 z
  refine ⟨h0, fun h6 hf => ?_⟩
  obtain ⟨p, Hd, hpn, h2, h3⟩ := h1 h6 (hf.same hr rfl)
  refine ⟨p, Hd, ?_, h2.same rfl h28 h30 rfl rfl rfl, h3.nw hr hc⟩
  rcases hpn with q | q | q
  · exact Or.inl q
  · exact absurd q.1 (by decide)
  · exact absurd q.1 (by decide)
/-- a function ends on both sides -/
theorem NR.fin {y : Int32} (h : NR 0 ([], []) H s k (f :: f2 :: r)) (hn : RN s k (f :: f2 :: r)) (hz : SZ (f :: f2 :: r)) (hb : f.2.2.2.1 = [b]) (hp : f.2.2.1 = []) (hkd : b.2.2.2 ≠ 1) : NR 0 ([], []) H (c80 s).1 (k222_54 (k224 (k223 k).1).1 y).1 (f2 :: r) := by
  obtain ⟨o1, o2, o3, o4⟩ := own_k hn hz
  have hbn : b.1 ≤ f.2.1.length := by
    have q := hn.2.2.1.1
    rw [hb] at q
    exact q.1
  have fk : kFr 75557864025123236872960 4503599627370496 k (k222_54 (k224 (k223 k).1).1 y).1 := ((fr_k223 k).mono rfl rfl).trans (((fr_k224 _).mono rfl rfl).trans ((fr_k222_54 _ _).mono rfl rfl))
  have los := (hn.2.1.los hz hb).2
  have e8 : (k222_54 (k224 (k223 k).1).1 y).1.1 8 = (k223 k).1.1 8 := ((fr_k222_54 _ _).1 8 rfl).trans ((fr_k224 _).1 8 rfl)
  have e43 : (k222_54 (k224 (k223 k).1).1 y).1.2 43 = k.2 43 := fk.2 43 rfl
  have e51 : (k222_54 (k224 (k223 k).1).1 y).1.2 51 = k.2 51 := fk.2 51 rfl
  have e80 : (k222_54 (k224 (k223 k).1).1 y).1.1 8 = 0 → k.1 8 = 0 := fun z => by
    rw [e8] at z
    exact Decidable.byContradiction (fun q => los.mpr (Or.inl q) z)
  have h1 : NR 0 ([], []) H (c81 s).1 (k222_54 (k224 (k223 k).1).1 y).1 (f2 :: r) := by
    refine h.c81x (bs := []) hn.1 hz hb hp hbn o3 fk rfl rfl e43 e80 (fun p Gs Hr Hbs HK z hpn d5 g2 t2 q1 l1 l2 => ?_)
    rw [e8] at z
    have um : bUm [b] = [] := Decidable.byContradiction (fun q => los.mpr (Or.inr q) z)
    have p0 : p = [] := by
      rcases hpn with ⟨-, z⟩ | ⟨z, -⟩ | ⟨z, -⟩
      · exact z
      · exact absurd z (by decide)
      · exact absurd z (by decide)
    subst p0
    have kn : b.2.2.1.filter (fun g => (flab b.2.1 g.1).isNone) = [] := by
      rw [List.filter_eq_nil_iff]
      intro g hg hq
      have fl : flab b.2.1 g.1 = none := Option.isNone_iff_eq_none.mp hq
      have um' : [] ++ b.2.2.1.filter (fun g => !(seen (bLab [b]) g.1)) = [] := um
      rw [List.nil_append, List.filter_eq_nil_iff] at um'
      refine um' g hg ?_
      have es : seen (bLab [b]) g.1 = false := by
        show seen ([] ++ b.2.1) g.1 = false
        rw [List.nil_append]
        exact seen_no fl
      rw [es]
      rfl
    rw [kn] at q1
    have q1 : HK = [] := q1
    have t2 : Hbs = [] := t2
    subst q1 t2
    obtain ⟨Gr, Gf, b1, b2, b3⟩ := d5
    have b3 : BGr k (f.1 - 1) (jfK (jx (f2 :: r))) (jb f.2.2.2.1) Gf := b3
    rw [hb] at b3
    have gf : Gf = [] := by
      rcases b3 with ⟨q, -⟩ | ⟨-, q⟩
      · exact absurd q hkd
      · exact q
    subst gf
    refine ⟨[], Gr, Or.inl ⟨rfl, rfl⟩, ⟨by rw [b1]; simp only [List.append_nil], fun i q hi => ?_, fun g hg => l2 g (List.mem_cons_of_mem _ hg)⟩, ?_, b2.fr e43⟩
    · refine l1 i q ?_
      show (jfLab (jx (f2 :: r)) ++ jLab (jb f.2.2.2.1))[i]? = some q
      rw [List.getElem?_append_left (List.getElem?_eq_some_iff.mp hi).1]
      exact hi
    · rw [List.append_nil, List.append_nil]
      exact g2.fr e51
  have f4 : cFr 822752278660603021077484591278675252491367932816789931674501120 67108864 0 1 (c81 s).1 (c80 s).1 := fr_c80_4 (c81 s).1
  exact h1.nw (f4.2.2.2.2.2.2.1 rfl) (f4.2.2.2.2.2.1 rfl) (f4.2.1 28 rfl) (f4.2.1 30 rfl)
end FBE
